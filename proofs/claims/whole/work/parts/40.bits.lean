/-! BITS of small numbers; people of a set of bodies; count; setting -/
theorem bv32 {a : Nat} (h : a < 2147483648) : (Int32.ofInt (a : Int)).toBitVec.toNat = a := by
  rw [Int32.toBitVec_ofInt, BitVec.ofInt_natCast, BitVec.toNat_ofNat]
  exact Nat.mod_eq_of_lt (by omega)
theorem bvI {x : BitVec 32} (h : x.toNat < 2147483648) : x.toInt = (x.toNat : Int) := by
  rw [BitVec.toInt_eq_toNat_cond, if_pos (by omega)]
theorem iAnd_n {a b : Nat} (ha : a < 2147483648) (hb : b < 2147483648) : iAnd a b = ((a &&& b : Nat) : Int) := by
  show (Int32.ofInt (a : Int) &&& Int32.ofInt (b : Int)).toBitVec.toInt = _
  have e : (Int32.ofInt (a : Int) &&& Int32.ofInt (b : Int)).toBitVec.toNat = a &&& b := by rw [Int32.toBitVec_and, BitVec.toNat_and, bv32 ha, bv32 hb]
  have hl : a &&& b ≤ a := Nat.and_le_left
  rw [bvI (by rw [e]; omega), e]
theorem iOr_n {a b : Nat} (ha : a < 2147483648) (hb : b < 2147483648) : iOr a b = ((a ||| b : Nat) : Int) := by
  show (Int32.ofInt (a : Int) ||| Int32.ofInt (b : Int)).toBitVec.toInt = _
  have e : (Int32.ofInt (a : Int) ||| Int32.ofInt (b : Int)).toBitVec.toNat = a ||| b := by rw [Int32.toBitVec_or, BitVec.toNat_or, bv32 ha, bv32 hb]
  have hl : a ||| b < 2 ^ 31 := Nat.or_lt_two_pow (by omega) (by omega)
  rw [bvI (by rw [e]; omega), e]
theorem iShl_1 : ∀ k : Nat, k < 31 → iShl 1 (k : Int) = ((2 ^ k : Nat) : Int) := by decide +kernel
theorem sh31 : ∀ k : Nat, k < 31 → ((Int32.ofInt (k : Int) &&& 31).toBitVec.smod 32).toNat = k := by decide +kernel
theorem iShr_n {n k : Nat} (hn : n < 2147483648) (hk : k < 31) : iShr n k = ((n / 2 ^ k : Nat) : Int) := by
  show ((Int32.ofInt (n : Int)).toBitVec.sshiftRight' ((Int32.ofInt (k : Int) &&& 31).toBitVec.smod 32)).toInt = _
  rw [BitVec.sshiftRight_eq', sh31 k hk, BitVec.toInt_sshiftRight, bvI (by rw [bv32 hn]; exact hn), bv32 hn, Int.shiftRight_eq_div_pow]
  norm_cast
theorem bit_n {n k : Nat} (hn : n < 2147483648) (hk : k < 31) : iAnd (iShr n k) 1 = 1 ↔ n.testBit k = true := by
  rw [iShr_n hn hk]
  have h1 : n / 2 ^ k < 2147483648 := Nat.lt_of_le_of_lt (Nat.div_le_self _ _) hn
  have e := iAnd_n (b := 1) h1 (by decide)
  rw [show ((1 : Nat) : Int) = 1 from rfl] at e
  rw [e, Nat.and_one_is_mod, Nat.testBit_eq_decide_div_mod_eq, decide_eq_true_iff]
  omega
/-- the number whose bits below n are f's -/
def bitsF (f : Nat → Bool) : Nat → Nat
  | 0 => 0
  | n + 1 => if f n then bitsF f n ||| 2 ^ n else bitsF f n
theorem bitsF_lt {f : Nat → Bool} : ∀ n, bitsF f n < 2 ^ n := by
  intro n
  induction n with
  | zero => exact Nat.one_pos
  | succ n ih =>
    have h2 : 2 ^ n < 2 ^ (n + 1) := Nat.pow_lt_pow_right (by decide) (by omega)
    show (if f n then bitsF f n ||| 2 ^ n else bitsF f n) < _
    split
    · exact Nat.or_lt_two_pow (by omega) h2
    · omega
theorem bitsF_t {f : Nat → Bool} {i : Nat} : ∀ n, (bitsF f n).testBit i = (decide (i < n) && f i) := by
  intro n
  induction n with
  | zero => simp [bitsF]
  | succ n ih =>
    show (if f n then bitsF f n ||| 2 ^ n else bitsF f n).testBit i = _
    by_cases hf : f n = true
    · rw [if_pos hf, Nat.testBit_or, ih, Nat.testBit_two_pow]
      by_cases e : n = i
      · subst e; simp [hf]
      · have : (i < n + 1) ↔ (i < n) := by omega
        simp [e, this]
    · rw [if_neg hf, ih]
      by_cases e : n = i
      · subst e
        have : f n = false := by simpa using hf
        simp [this]
      · have : (i < n + 1) ↔ (i < n) := by omega
        simp [this]
/-- people of the bodies that f picks -/
def ppF (I : IFn) (f : Nat → Bool) (n : Nat) : Int := sumN (fun b => if f b then I 233 (6 * b + 5) else 0) n
section PP
variable {M : Mm} {I : IFn} {R : RFn} {p q s b : Nat} {x1 x2 x3 x4 : Int}
theorem FA.nb (h : FA M I R p q) : ∃ n : Nat, I 221 12 = n ∧ n ≤ 12 ∧ M.1 170 1 = n ∧ M.1 221 12 = n := by
  obtain ⟨n, hn⟩ := toN (x := I 221 12) h.1.2.2.1.2.1
  have := h.1.2.2.1.2.2.1
  exact ⟨n, hn, by omega, by rw [h.2.2 _ _ dR_170, h.1.2.2.1.1]; exact hn, by rw [h.2.2 _ _ dR_nb]; exact hn⟩
theorem FA.hp (h : FA M I R p q) (hb : (b : Int) < I 221 12) : M.1 (173 + 3 * b) 5 = I 233 (6 * b + 5) ∧ 1 ≤ I 233 (6 * b + 5) ∧ I 233 (6 * b + 5) ≤ 1000 := by
  obtain ⟨b12, br, bv⟩ := h.bd hb
  exact ⟨bv 5 (by decide), br.2.2.2.2.2.2.2.2.2.2.1, br.2.2.2.2.2.2.2.2.2.2.2⟩
theorem pp_b (h : FA M I R p q) {f : Nat → Bool} {n : Nat} (hn : (n : Int) ≤ I 221 12) : 0 ≤ ppF I f n ∧ ppF I f n ≤ 1000 * n := by
  have a1 := sumN_le (f := fun _ => 0) (g := fun b => if f b then I 233 (6 * b + 5) else 0) (n := n) (fun b hb => by
    have := h.hp (b := b) (by omega)
    split <;> omega)
  have a2 := sumN_le (f := fun b => if f b then I 233 (6 * b + 5) else 0) (g := fun _ => 1000) (n := n) (fun b hb => by
    have := h.hp (b := b) (by omega)
    split <;> omega)
  rw [sumN_c] at a1 a2
  unfold ppF
  omega
theorem pp_s {f : Nat → Bool} {n : Nat} : ppF I f (n + 1) = ppF I f n + (if f n then I 233 (6 * n + 5) else 0) := rfl
theorem c_peopleOf {bits N : Nat} {Q : Int → Prop} (h : FA M I R p q) (hN : I 221 12 = N) (hb : bits < 4096) (hq : Q (ppF I (fun b => bits.testBit b) N)) : P_X1_peopleOf 170 bits M Q := by
  obtain ⟨n', e0, e1, e2, e3⟩ := h.nb
  have hNn : n' = N := by omega
  subst hNn
  have hB : StrB M.2.2.1 := by rw [h.2.1]; exact h.1.1.2.2.2.2.1
  unfold P_X1_peopleOf P_X1_peopleOf_4
  refine lp_i (fun y : Int × Int => ∃ i : Nat, y.2 = i ∧ i ≤ n' ∧ y.1 = ppF I (fun b => bits.testBit b) i) (fun y => (12 - y.2).toNat) ⟨0, rfl, by omega, rfl⟩ ?_
  rintro ⟨y2, y3⟩ ⟨i, f1, f2, f3⟩
  dsimp only at f1 f3
  subst f1
  show F_X1_peopleOf_4 170 bits M Q _ y2 (i : Int)
  unfold F_X1_peopleOf_4
  rw [e2]
  have hpb := pp_b h (f := fun b => bits.testBit b) (n := i) (by omega)
  refine ⟨fun hle => ?_, fun hlt => ?_⟩
  · have : i = n' := by omega
    subst this
    rw [f3]; exact hq
  · have hbt := bit_n (n := bits) (k := i) (by omega) (by omega)
    refine ⟨fun g => ⟨inI_s (by omega) (by omega), ?_⟩, fun g => ?_⟩
    · intro v ev
      refine ⟨⟨i + 1, by dsimp only; omega, by omega, ?_⟩, by dsimp only; omega⟩
      dsimp only
      rw [pp_s, if_neg (fun z => g (hbt.mpr z)), f3]; simp
    · have hp5 := h.hp (b := i) (by omega)
      rintro _ rfl
      refine goA hB.1 (by decide) ⟨by omega, by rw [show (SH 171).2 = 12 by decide]; omega⟩ ?_
      rintro _ rfl
      refine goO (k := 173 + 3 * i) (by rw [show ((i : Int)).toNat = i by omega]; exact (hB.2.2 i (by omega)).1) ⟨by omega, by rw [(sh_B i (by omega)).1]⟩ ?_
      rw [hp5.1]
      refine ⟨inI_s (by omega) (by omega), ?_⟩
      intro v8 e8
      refine ⟨inI_s (by omega) (by omega), ?_⟩
      intro v9 e9
      refine ⟨⟨i + 1, by dsimp only; omega, by omega, ?_⟩, by dsimp only; omega⟩
      dsimp only
      rw [pp_s, if_pos (hbt.mp g), e8, f3]
def allB : Nat → Bool := fun _ => true
theorem pp_c {f g : Nat → Bool} {n : Nat} (h : ∀ b, b < n → f b = g b) : ppF I f n = ppF I g n := sumN_congr (fun b hb => by rw [h b hb])
theorem c_people {N : Nat} {Q : Int → Prop} (h : FA M I R p q) (hN : I 221 12 = N) (hq : Q (ppF I allB N)) : P_X1_people 170 M Q := by
  obtain ⟨n', e0, e1, e2, e3⟩ := h.nb
  have hNn : n' = N := by omega
  subst hNn
  unfold P_X1_people
  have hp2 : (2 : Nat) ^ n' ≤ 2 ^ 12 := Nat.pow_le_pow_right (by decide) e1
  have hp1 : 1 ≤ (2 : Nat) ^ n' := Nat.one_le_two_pow
  rw [e2, iShl_1 n' (by omega)]
  have e4 : ((2 ^ n' : Nat) : Int) - 1 = ((2 ^ n' - 1 : Nat) : Int) := by omega
  rw [e4]
  refine ⟨inI_s (by omega) (by omega), c_peopleOf h hN (by omega) ?_⟩
  have : ppF I (fun b => (2 ^ n' - 1).testBit b) n' = ppF I allB n' := pp_c (fun b hb => by rw [Nat.testBit_two_pow_sub_one]; simp [allB, hb])
  rw [this]; exact hq
theorem r_people {N : Nat} {Q : Int → Prop} (h : FA M I R p q) (hN : I 221 12 = N) (hq : Q (ppF I allB N)) : P_X12_people 221 M Q := by
  obtain ⟨n', e0, e1, e2, e3⟩ := h.nb
  have hNn : n' = N := by omega
  subst hNn
  have hSM : StrM M.2.2.1 := by rw [h.2.1]; exact h.1.1.2.2.2.2.2.1
  unfold P_X12_people P_X12_people_4
  refine lp_i (fun y : Int × Int => ∃ i : Nat, y.2 = i ∧ i ≤ n' ∧ y.1 = ppF I allB i) (fun y => (12 - y.2).toNat) ⟨0, rfl, by omega, rfl⟩ ?_
  rintro ⟨y1, y2⟩ ⟨i, f1, f2, f3⟩
  dsimp only at f1 f3
  subst f1
  show F_X12_people_4 221 M Q _ y1 (i : Int)
  unfold F_X12_people_4
  rw [e3]
  have hpb := pp_b h (f := allB) (n := i) (by omega)
  refine ⟨fun hle => ?_, fun hlt => ?_⟩
  · have : i = n' := by omega
    subst this
    rw [f3]; exact hq
  · have hp5 := h.hp (b := i) (by omega)
    rintro _ rfl
    refine ⟨inI_s (by omega) (by omega), inI_s (by omega) (by omega), goA hSM.2.2.2.2.2.2.2.2.2.2.2.1 (by decide) ⟨by omega, by rw [show (SH 233).2 = 72 by decide]; omega⟩ ?_⟩
    rw [show (6 * (i : Int) + 5).toNat = 6 * i + 5 by omega, h.2.2 _ _ dR_233]
    refine ⟨inI_s (by omega) (by omega), ?_⟩
    intro v4 e4
    refine ⟨inI_s (by omega) (by omega), ?_⟩
    intro v5 e5
    refine ⟨⟨i + 1, by dsimp only; omega, by omega, ?_⟩, by dsimp only; omega⟩
    dsimp only
    rw [pp_s, if_pos (show allB i = true from rfl), e4, f3]
-- count
theorem st_count (h : Rel M) : P_X11_count 0 x1 M (fun r => P_X12_count 221 x1 M (fun r2 => r = r2)) := by
  obtain ⟨p, q, hF⟩ := id h
  obtain ⟨hS, hT, hC, hH, hA, hM, hR, hL, hE⟩ := id hF
  have hFA := FA.self hF
  obtain ⟨N, hN, hN12, -, -⟩ := hFA.nb
  have hpl : p ≤ 87 := by rcases hS.1.p with rfl | rfl <;> omega
  have hEn : 0 ≤ M.1 227 1 ∧ M.1 227 1 ≤ 6 := ⟨hE.2.1, hE.2.2.1⟩
  have he := hE.1
  have hSM := hS.2.2.2.2.2.1
  have ref : ∀ Q : Int → Prop, (x1 = 0 → Q (M.1 221 0)) → (x1 = 1 → Q (M.1 223 1)) → (x1 = 2 → Q (M.1 227 1)) → (x1 = 3 → P_X12_count_65 221 0 0 M Q) → (x1 = 4 → Q (M.1 221 12)) → (x1 = 5 → Q (ppF M.1 allB N)) → (x1 = 6 → Q (M.1 221 15)) → (x1 < 0 ∨ 6 < x1 → Q (-1)) → P_X12_count 221 x1 M Q := by
    intro Q q0 q1 q2 q3 q4 q5 q6 q7
    unfold P_X12_count
    refine ⟨q0, fun z => ?_, fun z => ?_, q3, q4, fun z => r_people hFA hN (q5 z), q6, q7⟩
    · rintro _ rfl
      exact goA hSM.2.1 (by decide) (by decide) (q1 z)
    · rintro _ rfl
      exact goA hSM.2.2.2.2.2.1 (by decide) (by decide) (q2 z)
  unfold P_X11_count
  refine ⟨fun z => ?_, fun z => ?_, fun z => ?_, fun z => ?_, fun z => ?_, fun z => ?_, fun z => ?_, fun z => ?_⟩
  · rintro _ rfl
    refine goO hS.2.2.2.1.1 (by decide) (ref _ (fun _ => hT.1) ?_ ?_ ?_ ?_ ?_ ?_ ?_) <;> (intro y; omega)
  · rintro _ rfl
    refine goO hS.2.1 ⟨by omega, by rw [(sh_pl hS.1.p).1]⟩ (ref _ ?_ (fun _ => hL.1) ?_ ?_ ?_ ?_ ?_ ?_) <;> (intro y; omega)
  · rintro _ rfl
    refine goO hS.2.1 ⟨by omega, by rw [(sh_pl hS.1.p).1]⟩ (ref _ ?_ ?_ (fun _ => hE.1) ?_ ?_ ?_ ?_ ?_) <;> (intro y; omega)
  · rintro _ rfl
    refine goO hS.2.1 ⟨by omega, by rw [(sh_pl hS.1.p).1]⟩ ?_
    obtain ⟨n, hn⟩ := toN (x := M.1 227 1) hEn.1
    have sb : ∀ k, k ≤ n → 0 ≤ sumN (fun s => M.1 229 (6 + s)) k ∧ sumN (fun s => M.1 229 (6 + s)) k ≤ 6 * k := by
      intro k hk
      have a1 := sumN_le (f := fun _ => 0) (g := fun s => M.1 229 (6 + s)) (n := k) (fun s hs => by have := pm_ok hE s (by omega); omega)
      have a2 := sumN_le (f := fun s => M.1 229 (6 + s)) (g := fun _ => 6) (n := k) (fun s hs => by have := pm_ok hE s (by omega); omega)
      rw [sumN_c] at a1 a2
      omega
    unfold P_X5_patchesOfAll P_X5_patchesOfAll_4
    refine lp_i (fun y : Int × Int => ∃ i : Nat, y.2 = i ∧ i ≤ n ∧ y.1 = sumN (fun s => M.1 229 (6 + s)) i) (fun y => (6 - y.2).toNat) ⟨0, rfl, by omega, rfl⟩ ?_
    rintro ⟨y1, y2⟩ ⟨i, f1, f2, f3⟩
    dsimp only at f1 f3
    subst f1
    show F_X5_patchesOfAll_4 p M _ _ y1 (i : Int)
    have sbi := sb i f2
    unfold F_X5_patchesOfAll_4
    rw [he, hn]
    refine ⟨fun hle => ?_, fun hlt => ?_⟩
    · have hin : i = n := by omega
      subst hin
      refine ref _ ?_ ?_ ?_ (fun _ => ?_) ?_ ?_ ?_ ?_
      · intro y; omega
      · intro y; omega
      · intro y; omega
      · unfold P_X12_count_65
        refine lp_i (fun y : Int × Int => ∃ k : Nat, y.2 = k ∧ k ≤ i ∧ y.1 = sumN (fun s => M.1 229 (6 + s)) k) (fun y => (6 - y.2).toNat) ⟨0, rfl, by omega, rfl⟩ ?_
        rintro ⟨z1, z2⟩ ⟨k, g1, g2, g3⟩
        dsimp only at g1 g3
        subst g1
        show F_X12_count_65 221 M _ _ z1 (k : Int)
        have sbk := sb k g2
        unfold F_X12_count_65
        rintro _ rfl
        refine goA hSM.2.2.2.2.2.1 (by decide) (by decide) ?_
        rw [show ((1 : Int)).toNat = 1 from rfl, hn]
        refine ⟨fun hle => ?_, fun hlt => ?_⟩
        · have : k = i := by omega
          subst this
          rw [f3, g3]
        · have := pm_ok hE k (by omega)
          rintro _ rfl
          refine ⟨inI_s (by omega) (by omega), goA hSM.2.2.2.2.2.2.2.1 (by decide) ⟨by omega, by rw [show (SH 229).2 = 12 by decide]; omega⟩ ?_⟩
          rw [show (6 + (k : Int)).toNat = 6 + k by omega]
          refine ⟨inI_s (by omega) (by omega), ?_⟩
          intro v7 e7
          refine ⟨inI_s (by omega) (by omega), ?_⟩
          intro v8 e8
          exact ⟨⟨k + 1, by dsimp only; omega, by omega, by dsimp only; rw [e7, g3]; rfl⟩, by dsimp only; omega⟩
      · intro y; omega
      · intro y; omega
      · intro y; omega
      · intro y; omega
    · have hs6 : i < 6 := by omega
      have f6 := (hE.2.2.2 i (by omega)).2.2.2.1
      rintro _ rfl
      refine goA hS.P.2.1 ⟨by omega, by rw [(sh_pl hS.1.p).2.2]⟩ ⟨by omega, by rw [(sh_pl hS.1.p).2.2]; show (i : Int) < 6; omega⟩ ?_
      rintro _ rfl
      refine goO (k := p + 35 + 8 * i) (by rw [show ((i : Int)).toNat = i by omega]; exact (hS.P.2.2.2 i hs6).1) ⟨by omega, by rw [(sh_S hS.1.p hs6).1]⟩ ?_
      rw [f6.1]
      refine ⟨inI_s (by omega) (by omega), ?_⟩
      intro v7 e7
      refine ⟨inI_s (by omega) (by omega), ?_⟩
      intro v8 e8
      exact ⟨⟨i + 1, by dsimp only; omega, by omega, by dsimp only; rw [e7, f3]; rfl⟩, by dsimp only; omega⟩
  · rintro _ rfl
    refine goO hS.2.2.2.1.2.1 (by decide) (ref _ ?_ ?_ ?_ ?_ (fun _ => hC.1) ?_ ?_ ?_) <;> (intro y; omega)
  · rintro _ rfl
    refine goO hS.2.2.2.1.2.1 (by decide) (c_people hFA hN (ref _ ?_ ?_ ?_ ?_ ?_ (fun _ => rfl) ?_ ?_)) <;> (intro y; omega)
  · rintro _ rfl
    refine goO hS.2.2.2.1.2.2.2.2.2.1 (by decide) (ref _ ?_ ?_ ?_ ?_ ?_ ?_ (fun _ => hM.2.2.2.1) ?_) <;> (intro y; omega)
  · refine ref _ ?_ ?_ ?_ ?_ ?_ ?_ ?_ (fun _ => rfl) <;> (intro y; omega)
end PP
