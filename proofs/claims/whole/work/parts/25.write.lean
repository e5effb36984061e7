/-! write -/
theorem by_and (A : Int64) : (A &&& 255).toInt = ((A.toBitVec.toNat % 256 : Nat) : Int) := by
  have h1 : (A &&& 255).toBitVec.toNat = A.toBitVec.toNat % 256 := by
    rw [Int64.toBitVec_and, BitVec.toNat_and]
    exact Nat.and_two_pow_sub_one_eq_mod _ 8
  have h2 : (A &&& 255).toInt = (A &&& 255).toBitVec.toInt := rfl
  rw [h2, BitVec.toInt_eq_toNat_cond, h1]
  have : A.toBitVec.toNat % 256 < 256 := Nat.mod_lt _ (by decide)
  rw [if_pos (by omega)]
theorem by_mod (A : Int64) : A.toInt % 256 = ((A.toBitVec.toNat % 256 : Nat) : Int) := by
  have h2 : A.toInt = A.toBitVec.toInt := rfl
  rw [h2, BitVec.toInt_eq_toNat_cond]
  split <;> omega
theorem by_bm (x : Int) : x.bmod 256 = sb (x % 256) := by
  unfold sb
  rw [Int.bmod_def]
  rfl
theorem by_sb (A : Int64) : 0 ≤ (A &&& 255).toInt32.toInt ∧ (A &&& 255).toInt32.toInt ≤ 255 ∧ A.toInt32.toInt8.toInt32.toInt = sb ((A &&& 255).toInt32.toInt) := by
  have hm : A.toBitVec.toNat % 256 < 256 := Nat.mod_lt _ (by decide)
  have e1 : (A &&& 255).toInt32.toInt = ((A.toBitVec.toNat % 256 : Nat) : Int) := by
    rw [Int64.toInt_toInt32, by_and]
    exact Int.bmod_eq_of_le (by omega) (by omega)
  refine ⟨by rw [e1]; omega, by rw [e1]; omega, ?_⟩
  rw [e1, ← by_mod, ← by_bm, Int8.toInt_toInt32, Int32.toInt_toInt8, Int64.toInt_toInt32]
  exact Int.bmod_bmod_of_dvd (by decide)
theorem by_b8 (B : Int32) : (Int32.ofInt (B.toInt8.toInt32.toInt)).toInt8.toInt32 = Int32.ofInt (B.toInt8.toInt32.toInt) := by
  rw [i32o]
  apply Int32.toInt_inj.mp
  rw [Int8.toInt_toInt32, Int32.toInt_toInt8, Int8.toInt_toInt32]
  have h1 := Int8.le_toInt B.toInt8
  have h2 := Int8.toInt_lt B.toInt8
  exact Int.bmod_eq_of_le (by simpa using h1) (by simpa using h2)
/-- byte k of v, as the class and as the reference keep it -/
def btC (v : Int) (k : Int) : Int := i2bV (l2iV (lShr v (8 * k)))
def btR (v : Int) (k : Int) : Int := l2iV (lAnd (lShr v (8 * k)) 255)
theorem bt_ok (v k : Int) : 0 ≤ btR v k ∧ btR v k ≤ 255 ∧ btC v k = sb (btR v k) := by
  unfold btR btC
  have e1 : l2iV (lAnd (lShr v (8 * k)) 255) = ((Int64.ofInt v >>> ((Int32.ofInt (8 * k)).toInt64 &&& 63)) &&& 255).toInt32.toInt := by
    simp only [l2iV, lAnd, lShr, i64o]
    rfl
  have e2 : i2bV (l2iV (lShr v (8 * k))) = (Int64.ofInt v >>> ((Int32.ofInt (8 * k)).toInt64 &&& 63)).toInt32.toInt8.toInt32.toInt := by
    simp only [i2bV, l2iV, lShr, i64o, i32o]
  rw [e1, e2]
  exact by_sb _
def wrt (I : IFn) (a c k L : Nat) (f : Nat → Int) (j : Nat) : IFn := fun o i => if o = a ∧ L ≤ i ∧ i < L + j then f (i - L) else if o = c ∧ i = k then ((L + j : Nat) : Int) else I o i
theorem wrt_step {I : IFn} {a c k L : Nat} {f : Nat → Int} {j : Nat} (hac : a ≠ c) : up2 (up2 (wrt I a c k L f j) a (L + j) (f j)) c k (((L + j : Nat) : Int) + 1) = wrt I a c k L f (j + 1) := by
  funext o i
  unfold up2 wrt
  by_cases h1 : o = c ∧ i = k
  · rw [if_pos h1, if_neg (by omega), if_pos h1]
    omega
  · rw [if_neg h1]
    by_cases h2 : o = a ∧ i = L + j
    · rw [if_pos h2, if_pos (by omega), show i - L = j by omega]
    · rw [if_neg h2]
      by_cases h3 : o = a ∧ L ≤ i ∧ i < L + j
      · rw [if_pos h3, if_pos (by omega)]
      · rw [if_neg h3, if_neg h1, if_neg (by omega), if_neg h1]
theorem wrt_0 {I : IFn} {a c k L : Nat} {f : Nat → Int} (h : I c k = L) : wrt I a c k L f 0 = I := by
  funext o i
  unfold wrt
  rw [if_neg (by omega)]
  by_cases h1 : o = c ∧ i = k
  · rw [if_pos h1, h1.1, h1.2, h]; rfl
  · rw [if_neg h1]
theorem wrt_len {I : IFn} {a c k L : Nat} {f : Nat → Int} {j : Nat} (hac : a ≠ c) : wrt I a c k L f j c k = ((L + j : Nat) : Int) := by
  unfold wrt
  rw [if_neg (by omega), if_pos ⟨rfl, rfl⟩]
theorem wrt_out {I : IFn} {a c k L : Nat} {f : Nat → Int} {j o i : Nat} (h1 : ¬ (o = a ∧ L ≤ i)) (h2 : ¬ (o = c ∧ i = k)) : wrt I a c k L f j o i = I o i := by
  unfold wrt
  rw [if_neg (by omega), if_neg h2]
theorem wrt_in {I : IFn} {a c k L : Nat} {f : Nat → Int} {j i : Nat} (h1 : L ≤ i) (h2 : i < L + j) : wrt I a c k L f j a i = f (i - L) := by
  unfold wrt
  rw [if_pos ⟨rfl, h1, h2⟩]
section WR
variable {M : Mm} {x2 : Int} {n L : Nat}
theorem c_append {Q : Int → Mm → Prop} (hr : M.2.2.1 1 0 = some 2) (hL : M.1 1 1 = L) (hn : n ≤ 8) (hn0 : 1 ≤ n) (hLn : L + n ≤ 300) (hq : Q 1 (wrt M.1 2 1 1 L (fun i => btC x2 ((n : Int) - 1 - i)) n, M.2)) : P_X9_append_23 1 x2 ((n : Int) - 1) M Q := by
  unfold P_X9_append_23
  refine lp_i (fun y : Int × Mm => ∃ j : Nat, j ≤ n ∧ y.1 = (n : Int) - 1 - j ∧ y.2.1 = wrt M.1 2 1 1 L (fun i => btC x2 ((n : Int) - 1 - i)) j ∧ y.2.2 = M.2) (fun y => (y.1 + 1).toNat) ⟨0, by omega, by simp, (wrt_0 hL).symm, rfl⟩ ?_
  rintro ⟨x4, M'⟩ ⟨j, hj, e1, e2, e3⟩
  dsimp only at e1 e2 e3
  show F_X9_append_23 1 x2 Q _ x4 M'
  unfold F_X9_append_23
  refine ⟨fun h => ?_, fun h => ?_⟩
  · have : j = n := by omega
    subst this
    have em : M' = (wrt M.1 2 1 1 L (fun i => btC x2 ((j : Int) - 1 - i)) j, M.2) := Prod.ext e2 e3
    rw [em]
    exact hq
  · rintro _ rfl
    refine ⟨inI_s (by omega) (by omega), ?_⟩
    have hl : wrt M.1 2 1 1 L (fun i => btC x2 ((n : Int) - 1 - i)) j 1 1 = ((L + j : Nat) : Int) := wrt_len (by decide)
    rw [e2, hl]
    refine goA (by rw [e3]; exact hr) (by decide) ⟨by omega, by rw [show (SH 2).2 = 300 by decide]; omega⟩ ?_
    refine ⟨by_b8 _, ?_⟩
    rintro _ rfl
    rw [show (((L + j : Nat) : Int)).toNat = L + j by omega, setI_o _ _ _ _ (by decide), e2, hl]
    refine ⟨inI_s (by omega) (by omega), ?_⟩
    rintro _ rfl
    refine ⟨inI_s (by omega) (by omega), ?_⟩
    rintro _ rfl
    refine ⟨⟨j + 1, by omega, by omega, ?_, e3⟩, by dsimp only; omega⟩
    have e4 : i2bV (l2iV (lShr x2 (8 * x4))) = (fun i : Nat => btC x2 ((n : Int) - 1 - i)) j := by
      show _ = btC x2 ((n : Int) - 1 - j)
      rw [← e1]
      rfl
    rw [e4]
    show up2 (up2 M'.1 _ _ _) _ _ _ = _
    rw [e2, wrt_step (by decide)]
theorem r_write {Q : Int → Mm → Prop} (hr : M.2.2.1 221 1 = some 222) (hL : M.1 221 0 = L) (hn : n ≤ 8) (hn0 : 1 ≤ n) (hLn : L + n ≤ 300) (hq : Q ((L + n : Nat) : Int) (wrt M.1 222 221 0 L (fun i => btR x2 ((n : Int) - 1 - i)) n, M.2)) : P_X12_write_34 221 x2 ((n : Int) - 1) M Q := by
  unfold P_X12_write_34
  refine lp_i (fun y : Int × Mm => ∃ j : Nat, j ≤ n ∧ y.1 = (n : Int) - 1 - j ∧ y.2.1 = wrt M.1 222 221 0 L (fun i => btR x2 ((n : Int) - 1 - i)) j ∧ y.2.2 = M.2) (fun y => (y.1 + 1).toNat) ⟨0, by omega, by simp, (wrt_0 hL).symm, rfl⟩ ?_
  rintro ⟨x4, M'⟩ ⟨j, hj, e1, e2, e3⟩
  dsimp only at e1 e2 e3
  show F_X12_write_34 221 x2 Q _ x4 M'
  unfold F_X12_write_34
  have hl : wrt M.1 222 221 0 L (fun i => btR x2 ((n : Int) - 1 - i)) j 221 0 = ((L + j : Nat) : Int) := wrt_len (by decide)
  refine ⟨fun h => ?_, fun h => ?_⟩
  · have : j = n := by omega
    subst this
    have em : M' = (wrt M.1 222 221 0 L (fun i => btR x2 ((j : Int) - 1 - i)) j, M.2) := Prod.ext e2 e3
    rw [e2, hl, em]
    exact hq
  · rintro _ rfl
    refine ⟨inI_s (by omega) (by omega), ?_⟩
    rw [e2, hl]
    refine goA (by rw [e3]; exact hr) (by decide) ⟨by omega, by rw [show (SH 222).2 = 300 by decide]; omega⟩ ?_
    rintro _ rfl
    rw [show (((L + j : Nat) : Int)).toNat = L + j by omega, setI_o _ _ _ _ (by decide), e2, hl]
    refine ⟨inI_s (by omega) (by omega), ?_⟩
    rintro _ rfl
    refine ⟨inI_s (by omega) (by omega), ?_⟩
    rintro _ rfl
    refine ⟨⟨j + 1, by omega, by omega, ?_, e3⟩, by dsimp only; omega⟩
    have e4 : l2iV (lAnd (lShr x2 (8 * x4)) 255) = (fun i : Nat => btR x2 ((n : Int) - 1 - i)) j := by
      show _ = btR x2 ((n : Int) - 1 - j)
      rw [← e1]
      rfl
    rw [e4]
    show up2 (up2 M'.1 _ _ _) _ _ _ = _
    rw [e2, wrt_step (by decide)]
theorem st_write {x1 : Int} (h : Rel M) : P_X11_write 0 x1 x2 M (fun r M1 => P_X12_write 221 x1 x2 M1 (fun r2 M2 => r = r2 ∧ Rel M2)) := by
  obtain ⟨p, q, hS, hT, hC, hH, hA, hM, hR, hL, hE⟩ := id h
  unfold P_X11_write
  rw [p_isWithin]
  refine ⟨fun g1 => ?_, fun z => ?_⟩
  · rw [bi0] at g1
    rintro _ rfl
    refine goO hS.2.2.2.1.1 (by decide) ?_
    obtain ⟨n, rfl⟩ := toN (x := x1) (by omega)
    obtain ⟨L, hLn⟩ := toN (x := M.1 221 0) hT.2.1
    have hLc : M.1 1 1 = L := hT.1.trans hLn
    have hT3 := hT.2.2.1
    unfold P_X9_append
    refine ⟨fun z => by omega, fun _ => ?_⟩
    rw [hLc]
    refine ⟨inI_s (by omega) (by omega), fun hle => ?_, fun hgt => ?_⟩
    · refine ⟨inI_s (by omega) (by omega), ?_⟩
      rintro _ rfl
      refine c_append hS.2.2.2.1.2.2.2.2.2.2.1 hLc (by omega) (by omega) (by omega) ?_
      refine ⟨fun z => absurd z (by decide), fun _ => ?_⟩
      rintro _ rfl
      refine goO hS.2.2.2.1.1 (by decide) ?_
      have el : wrt M.1 2 1 1 L (fun i => btC x2 ((n : Int) - 1 - i)) n 1 1 = ((L + n : Nat) : Int) := wrt_len (by decide)
      show P_X12_write 221 n x2 _ (fun r2 M2 => wrt M.1 2 1 1 L (fun i => btC x2 ((n : Int) - 1 - i)) n 1 1 = r2 ∧ Rel M2)
      rw [el]
      unfold P_X12_write
      rw [p_in]
      refine ⟨fun _ => ?_, fun z => absurd (bi0.mp z) g1⟩
      have e1 : wrt M.1 2 1 1 L (fun i => btC x2 ((n : Int) - 1 - i)) n 221 0 = L := (wrt_out (by omega) (by omega)).trans hLn
      dsimp only
      rw [e1]
      refine ⟨inI_s (by omega) (by omega), fun _ => ⟨inI_s (by omega) (by omega), ?_⟩, fun z => by omega⟩
      rintro _ rfl
      refine r_write hS.2.2.2.2.2.1.1 e1 (by omega) (by omega) (by omega) ⟨rfl, p, q, ?_⟩
      obtain ⟨J, hJ⟩ : ∃ J, J = wrt (wrt M.1 2 1 1 L (fun i => btC x2 ((n : Int) - 1 - i)) n) 222 221 0 L (fun i => btR x2 ((n : Int) - 1 - i)) n := ⟨_, rfl⟩
      show RelF (wrt (wrt M.1 2 1 1 L (fun i => btC x2 ((n : Int) - 1 - i)) n) 222 221 0 L (fun i => btR x2 ((n : Int) - 1 - i)) n) M.2.2.1 p q
      rw [← hJ]
      have e0 : ∀ o j, ¬ (o = 2 ∧ L ≤ j) → ¬ (o = 1 ∧ j = 1) → ¬ (o = 222 ∧ L ≤ j) → ¬ (o = 221 ∧ j = 0) → J o j = M.1 o j := fun o j h1 h2 h3 h4 => by rw [hJ, wrt_out h3 h4, wrt_out h1 h2]
      refine ⟨hS, ?_, hC.c (fun o j z => e0 o j (by unfold dCRW at z; omega) (by unfold dCRW at z; omega) (by unfold dCRW at z; omega) (by unfold dCRW at z; omega)), hH.c (fun o j z => e0 o j (by unfold dHNG at z; omega) (by unfold dHNG at z; omega) (by unfold dHNG at z; omega) (by unfold dHNG at z; omega)), hA.c (fun o j z => e0 o j (by unfold dSAI at z; omega) (by unfold dSAI at z; omega) (by unfold dSAI at z; omega) (by unfold dSAI at z; omega)), hM.c (fun o j z => e0 o j (by unfold dMSC at z; omega) (by unfold dMSC at z; omega) (by unfold dMSC at z; omega) (by unfold dMSC at z; omega)), hR.c (fun o j z => e0 o j (by unfold dRDS at z; omega) (by unfold dRDS at z; omega) (by unfold dRDS at z; omega) (by unfold dRDS at z; omega)), hL.c (fun o j z => ?_), hE.c (fun o j z => ?_) (fun _ _ _ => rfl)⟩
      · have j1 : J 221 0 = ((L + n : Nat) : Int) := by rw [hJ]; exact wrt_len (by decide)
        have j2 : J 1 1 = ((L + n : Nat) : Int) := by rw [hJ, wrt_out (by omega) (by omega)]; exact el
        refine ⟨by rw [j1, j2], by rw [j1]; omega, by rw [j1]; omega, fun k hk => ?_⟩
        rw [j1] at hk
        by_cases hkL : k < L
        · rw [e0 222 k (by omega) (by omega) (by omega) (by omega), e0 2 k (by omega) (by omega) (by omega) (by omega)]
          exact hT.2.2.2 k (by omega)
        · have k1 : J 222 k = btR x2 ((n : Int) - 1 - ((k - L : Nat) : Int)) := by rw [hJ]; exact wrt_in (by omega) (by omega)
          have k2 : J 2 k = btC x2 ((n : Int) - 1 - ((k - L : Nat) : Int)) := by rw [hJ, wrt_out (by omega) (by omega)]; exact wrt_in (by omega) (by omega)
          rw [k1, k2]
          exact bt_ok _ _
      · have hz : (3 < o ∧ o < 170) ∨ (222 < o ∧ o < 233) := by rcases hS.1.p with rfl | rfl <;> (unfold dPLN at z; omega)
        exact e0 o j (by omega) (by omega) (by omega) (by omega)
      · have hz : (3 < o ∧ o < 170) ∨ (222 < o ∧ o < 233) := by rcases hS.1.p with rfl | rfl <;> (unfold dPLN at z; omega)
        exact e0 o j (by omega) (by omega) (by omega) (by omega)
    · refine ⟨fun _ => ?_, fun z => absurd rfl z⟩
      show P_X12_write 221 n x2 M _
      unfold P_X12_write
      rw [p_in]
      refine ⟨fun _ => ?_, fun z => absurd (bi0.mp z) g1⟩
      rw [hLn]
      exact ⟨inI_s (by omega) (by omega), fun z => by omega, fun _ => ⟨rfl, h⟩⟩
  · show P_X12_write 221 x1 x2 M _
    unfold P_X12_write
    rw [p_in]
    exact ⟨fun y => absurd z y, fun _ => ⟨rfl, h⟩⟩
end WR
