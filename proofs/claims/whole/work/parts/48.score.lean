/-! score -/
/-- a body's part of the score, times 60 -/
def scB (I : IFn) (s b : Nat) : Int := if 0 ≤ saV I b s then 60 * saV I b s - Int.tdiv 60 (sumN (trV I b) 6) * sumN (sdV I b) 6 else 0
section SCO
variable {M : Mm} {I : IFn} {R : RFn} {p q s b : Nat} {x1 x2 x3 x4 : Int}
theorem sd_b (h : FA M I R p q) (hb : b < 12) {n : Nat} (hn : n ≤ 6) : 0 ≤ sumN (sdV I b) n ∧ sumN (sdV I b) n ≤ 100 * n := by
  have e : ∀ i, i < n → 0 ≤ sdV I b i ∧ sdV I b i ≤ 100 := fun i hi => by
    have := h.sai hb (show i < 6 by omega)
    unfold sdV
    split <;> omega
  have a1 := sumN_le (f := fun _ => 0) (g := sdV I b) (n := n) (fun i hi => (e i hi).1)
  have a2 := sumN_le (f := sdV I b) (g := fun _ => 100) (n := n) (fun i hi => (e i hi).2)
  rw [sumN_c] at a1 a2
  omega
theorem tr_b {n : Nat} : 0 ≤ sumN (trV I b) n ∧ sumN (trV I b) n ≤ n := by
  have e : ∀ i, 0 ≤ trV I b i ∧ trV I b i ≤ 1 := fun i => by
    unfold trV
    split <;> omega
  have a1 := sumN_le (f := fun _ => 0) (g := trV I b) (n := n) (fun i hi => (e i).1)
  have a2 := sumN_le (f := trV I b) (g := fun _ => 1) (n := n) (fun i hi => (e i).2)
  rw [sumN_c] at a1 a2
  omega
theorem tr_p (ht : 0 ≤ saV I b s) : ∀ n, s < n → 1 ≤ sumN (trV I b) n := by
  intro n
  induction n with
  | zero => intro h; omega
  | succ n ih =>
    intro h
    show 1 ≤ sumN (trV I b) n + trV I b n
    have := tr_b (I := I) (b := b) (n := n)
    by_cases e : s = n
    · subst e
      have : trV I b s = 1 := if_pos ht
      omega
    · have := ih (by omega)
      have : 0 ≤ trV I b n := by unfold trV; split <;> omega
      omega
theorem d60 {n : Int} (h1 : 1 ≤ n) (h2 : n ≤ 6) : 10 ≤ Int.tdiv 60 n ∧ Int.tdiv 60 n ≤ 60 := by
  have : n = 1 ∨ n = 2 ∨ n = 3 ∨ n = 4 ∨ n = 5 ∨ n = 6 := by omega
  rcases this with e | e | e | e | e | e <;> subst e <;> decide
theorem m60 {n x : Int} (h1 : 1 ≤ n) (h2 : n ≤ 6) (hx : 0 ≤ x ∧ x ≤ 600) : 0 ≤ Int.tdiv 60 n * x ∧ Int.tdiv 60 n * x ≤ 36000 := by
  have d := d60 h1 h2
  exact ⟨Int.mul_nonneg (by omega) hx.1, Int.mul_le_mul d.2 hx.2 hx.1 (by decide)⟩
theorem sc_b (h : FA M I R p q) (hb : b < 12) (hs : s < 6) : -40000 ≤ scB I s b ∧ scB I s b ≤ 10000 := by
  have hsa := h.sai hb hs
  unfold scB
  by_cases e : 0 ≤ saV I b s
  · rw [if_pos e]
    have h1 := tr_p e 6 hs
    have h2 := tr_b (I := I) (b := b) (n := 6)
    have h3 := sd_b h hb (n := 6) (Nat.le_refl _)
    have := m60 h1 h2.2 ⟨h3.1, h3.2⟩
    omega
  · rw [if_neg e]; omega
theorem scs_b (h : FA M I R p q) (hs : s < 6) {n : Nat} (hn : n ≤ 12) : -40000 * n ≤ sumN (scB I s) n ∧ sumN (scB I s) n ≤ 10000 * n := by
  have a1 := sumN_le (f := fun _ => -40000) (g := scB I s) (n := n) (fun i hi => (sc_b h (show i < 12 by omega) hs).1)
  have a2 := sumN_le (f := scB I s) (g := fun _ => 10000) (n := n) (fun i hi => (sc_b h (show i < 12 by omega) hs).2)
  rw [sumN_c] at a1 a2
  omega
theorem c_triedSeats {Q : Int → Prop} (h : FA M I R p q) (hb : b < 12) (hq : Q (sumN (trV I b) 6)) : P_X0_triedSeats (173 + 3 * b) M Q := by
  unfold P_X0_triedSeats P_X0_triedSeats_4
  refine lp_i (fun y : Int × Int => ∃ i : Nat, y.2 = i ∧ i ≤ 6 ∧ y.1 = sumN (trV I b) i) (fun y => (6 - y.2).toNat) ⟨0, rfl, by omega, rfl⟩ ?_
  rintro ⟨y1, y2⟩ ⟨i, f1, f2, f3⟩
  dsimp only at f1 f3
  subst f1
  show F_X0_triedSeats_4 (173 + 3 * b) M Q _ y1 (i : Int)
  have ht := tr_b (I := I) (b := b) (n := i)
  have hs : sumN (trV I b) (i + 1) = sumN (trV I b) i + trV I b i := rfl
  unfold F_X0_triedSeats_4
  refine ⟨fun hle => ?_, fun hlt => ?_⟩
  · have : i = 6 := by omega
    subst this
    rw [f3]; exact hq
  · refine c_hasTried h hb (by omega) ⟨fun z => ⟨inI_s (by omega) (by omega), ?_⟩, fun z => ⟨inI_s (by omega) (by omega), ?_⟩⟩
    · rw [bi0] at z
      intro v2 e2
      refine ⟨inI_s (by omega) (by omega), ?_⟩
      intro v3 e3
      refine ⟨⟨i + 1, by dsimp only; omega, by omega, ?_⟩, by dsimp only; omega⟩
      dsimp only
      rw [hs, show trV I b i = 0 from if_neg z, e2, f3]
    · rw [bi0] at z
      intro v2 e2
      refine ⟨inI_s (by omega) (by omega), ?_⟩
      intro v3 e3
      refine ⟨⟨i + 1, by dsimp only; omega, by omega, ?_⟩, by dsimp only; omega⟩
      dsimp only
      rw [hs, show trV I b i = 1 from if_pos (Classical.not_not.mp z), e2, f3]
theorem c_saidTogether {Q : Int → Prop} (h : FA M I R p q) (hb : b < 12) (hq : Q (sumN (sdV I b) 6)) : P_X0_saidTogether (173 + 3 * b) M Q := by
  unfold P_X0_saidTogether P_X0_saidTogether_4
  refine lp_i (fun y : Int × Int => ∃ i : Nat, y.2 = i ∧ i ≤ 6 ∧ y.1 = sumN (sdV I b) i) (fun y => (6 - y.2).toNat) ⟨0, rfl, by omega, rfl⟩ ?_
  rintro ⟨y1, y2⟩ ⟨i, f1, f2, f3⟩
  dsimp only at f1 f3
  subst f1
  show F_X0_saidTogether_4 (173 + 3 * b) M Q _ y1 (i : Int)
  have ht := sd_b h hb (n := i) f2
  have hs : sumN (sdV I b) (i + 1) = sumN (sdV I b) i + sdV I b i := rfl
  unfold F_X0_saidTogether_4
  refine ⟨fun hle => ?_, fun hlt => ?_⟩
  · have : i = 6 := by omega
    subst this
    rw [f3]; exact hq
  · have ht2 := sd_b h hb (n := i + 1) (by omega)
    refine c_saidOf h hb (by omega) ⟨inI_s (by omega) (by omega), ?_⟩
    intro v2 e2
    refine ⟨inI_s (by omega) (by omega), ?_⟩
    intro v3 e3
    refine ⟨⟨i + 1, by dsimp only; omega, by omega, ?_⟩, by dsimp only; omega⟩
    dsimp only
    rw [hs, e2, f3]
theorem c_sixtieths {N : Nat} {Q : Int → Prop} (h : FA M I R p q) (hN : I 221 12 = N) (hs : s < 6) (hq : Q (sumN (scB I s) N)) : P_X10_sixtiethsOf 220 (some 170) s M Q := by
  obtain ⟨N', e0, e1, e2, e3⟩ := h.nb
  have : N' = N := by omega
  subst this
  have hB : StrB M.2.2.1 := by rw [h.2.1]; exact h.1.1.2.2.2.2.1
  unfold P_X10_sixtiethsOf P_X10_sixtiethsOf_5
  refine lp_i (fun y : Int × Int => ∃ i : Nat, y.2 = i ∧ i ≤ N' ∧ y.1 = sumN (scB I s) i) (fun y => (12 - y.2).toNat) ⟨0, rfl, by omega, rfl⟩ ?_
  rintro ⟨y3, y4⟩ ⟨i, f1, f2, f3⟩
  dsimp only at f1 f3
  subst f1
  show F_X10_sixtiethsOf_5 (some 170) s M Q _ y3 (i : Int)
  have hsu : sumN (scB I s) (i + 1) = sumN (scB I s) i + scB I s i := rfl
  have hsb := scs_b h hs (n := i) (by omega)
  unfold F_X10_sixtiethsOf_5
  refine goO rfl (by decide) ?_
  rw [e2]
  refine ⟨fun hle => ?_, fun hlt => ?_⟩
  · have : i = N' := by omega
    subst this
    rw [f3]; exact hq
  · have hi : i < 12 := by omega
    have hsa := h.sai hi hs
    rintro _ rfl
    refine goA hB.1 (by decide) ⟨by omega, by rw [show (SH 171).2 = 12 by decide]; omega⟩ ?_
    rintro _ rfl
    refine goO (k := 173 + 3 * i) (by rw [show ((i : Int)).toNat = i by omega]; exact (hB.2.2 i hi).1) ⟨by omega, by rw [(sh_B i hi).1]⟩ ?_
    refine c_triedSeats h hi (c_hasTried h hi hs ⟨fun z => ⟨inI_s (by omega) (by omega), ?_⟩, fun z => ?_⟩)
    · rw [bi0] at z
      intro v ev
      refine ⟨⟨i + 1, by dsimp only; omega, by omega, ?_⟩, by dsimp only; omega⟩
      dsimp only
      rw [hsu, show scB I s i = 0 from if_neg z, f3]; omega
    · rw [bi0] at z
      have z := Classical.not_not.mp z
      have h1 := tr_p z 6 hs
      have h2 := tr_b (I := I) (b := i) (n := 6)
      have h3 := sd_b h hi (n := 6) (Nat.le_refl _)
      have hm := m60 h1 h2.2 ⟨h3.1, h3.2⟩
      refine ⟨fun y => by omega, fun _ => c_saidOf h hi hs ?_⟩
      rw [show sdV I i s = saV I i s from if_pos z]
      refine ⟨inI_s (by omega) (by omega), c_saidTogether h hi ?_⟩
      rw [Int.mul_comm (sumN (sdV I i) 6)]
      refine ⟨by omega, inI_s (by omega) (by omega), inI_s (by omega) (by omega), inI_s (by omega) (by omega), ?_⟩
      intro v15 e15
      refine ⟨inI_s (by omega) (by omega), ?_⟩
      intro v16 e16
      refine ⟨⟨i + 1, by dsimp only; omega, by omega, ?_⟩, by dsimp only; omega⟩
      dsimp only
      rw [hsu, show scB I s i = 60 * saV I i s - Int.tdiv 60 (sumN (trV I i) 6) * sumN (sdV I i) 6 from if_pos z, e15, f3]; omega
theorem r_score {N : Nat} {Q : Int → Prop} (h : FA M I R p q) (hN : I 221 12 = N) (hs : s < 6) (hq : P_X12_common (sumN (scB I s) N) 60 M (fun (v25 : Int) => ∀ v26 : Int, v26 = l2iV v25 → ((¬ x2 = 0 → 0 < v26 ∧ Q (Int.tdiv 60 v26)) ∧ (x2 = 0 → 0 < v26 ∧ Q (Int.tdiv (sumN (scB I s) N) v26))))) : P_X12_score_26 221 s x2 0 0 M Q := by
  obtain ⟨N', e0, e1, e2, e3⟩ := h.nb
  have : N' = N := by omega
  subst this
  have hSM : StrM M.2.2.1 := by rw [h.2.1]; exact h.1.1.2.2.2.2.2.1
  have r16 := hSM.2.2.2.2.2.2.2.2.2.2.2.2.2.1
  have z35 : (SH 235).2 = 72 := by decide
  unfold P_X12_score_26
  refine lp_i (fun y : Int × Int => ∃ i : Nat, y.2 = i ∧ i ≤ N' ∧ y.1 = sumN (scB I s) i) (fun y => (12 - y.2).toNat) ⟨0, rfl, by omega, rfl⟩ ?_
  rintro ⟨y3, y4⟩ ⟨i, f1, f2, f3⟩
  dsimp only at f1 f3
  subst f1
  show F_X12_score_26 221 s x2 M Q _ y3 (i : Int)
  have hsu : sumN (scB I s) (i + 1) = sumN (scB I s) i + scB I s i := rfl
  have hsb := scs_b h hs (n := i) (by omega)
  unfold F_X12_score_26
  rw [e3]
  refine ⟨fun hle => ?_, fun hlt => ?_⟩
  · have : i = N' := by omega
    subst this
    rw [f3]; exact hq
  · have hi : i < 12 := by omega
    have g35 : ∀ s : Nat, M.1 235 (6 * i + s) = saV I i s := fun s => h.2.2 _ _ dR_235
    unfold P_X12_score_44
    refine lp_i (fun y : Int × Int × Int => ∃ k : Nat, y.2.2 = k ∧ k ≤ 6 ∧ y.1 = sumN (sdV I i) k ∧ y.2.1 = sumN (trV I i) k) (fun y => (6 - y.2.2).toNat) ⟨0, rfl, by omega, rfl, rfl⟩ ?_
    rintro ⟨z5, z6, z7⟩ ⟨k, g1, g2, g3, g4⟩
    dsimp only at g1 g3 g4
    subst g1
    show F_X12_score_44 221 s x2 y3 i M Q _ _ z5 z6 (k : Int)
    have hsd := sd_b h hi (n := k) g2
    have htr := tr_b (I := I) (b := i) (n := k)
    unfold F_X12_score_44
    refine ⟨fun hle6 => ?_, fun hlt6 => ?_⟩
    · have : k = 6 := by omega
      subst this
      have hsa := h.sai hi hs
      rintro _ rfl
      refine ⟨inI_s (by omega) (by omega), inI_s (by omega) (by omega), goA r16 (by decide) ⟨by omega, by rw [z35]; omega⟩ ?_⟩
      rw [show (6 * (i : Int) + s).toNat = 6 * i + s by omega, g35]
      refine ⟨fun z => ?_, fun z => ⟨inI_s (by omega) (by omega), ?_⟩⟩
      · have h1 := tr_p z 6 hs
        have hm := m60 h1 htr.2 ⟨hsd.1, hsd.2⟩
        rintro _ rfl
        refine ⟨inI_s (by omega) (by omega), inI_s (by omega) (by omega), goA r16 (by decide) ⟨by omega, by rw [z35]; omega⟩ ?_⟩
        rw [g35, g3, g4]
        refine ⟨inI_s (by omega) (by omega), by omega, inI_s (by omega) (by omega), inI_s (by omega) (by omega), inI_s (by omega) (by omega), ?_⟩
        intro v15 e15
        refine ⟨inI_s (by omega) (by omega), ?_⟩
        intro v16 e16
        refine ⟨⟨i + 1, by dsimp only; omega, by omega, ?_⟩, by dsimp only; omega⟩
        dsimp only
        rw [hsu, show scB I s i = 60 * saV I i s - Int.tdiv 60 (sumN (trV I i) 6) * sumN (sdV I i) 6 from if_pos z, e15, f3]
      · intro v17 e17
        refine ⟨inI_s (by omega) (by omega), ?_⟩
        intro v18 e18
        refine ⟨⟨i + 1, by dsimp only; omega, by omega, ?_⟩, by dsimp only; omega⟩
        dsimp only
        rw [hsu, show scB I s i = 0 from if_neg z, e17, f3]
    · have hsk := h.sai hi (show k < 6 by omega)
      have hsd2 : sumN (sdV I i) (k + 1) = sumN (sdV I i) k + sdV I i k := rfl
      have htr2 : sumN (trV I i) (k + 1) = sumN (trV I i) k + trV I i k := rfl
      have s86 : ∀ y : Int, y = sdV I i k → 0 ≤ y ∧ y ≤ 100 → P_X12_score_86 221 s x2 y3 i z6 k z5 y M Q (fun y => (∃ i : Nat, y.2 = i ∧ i ≤ N' ∧ y.1 = sumN (scB I s) i) ∧ (12 - y.2).toNat < (12 - (i : Int)).toNat) (fun y => (∃ k : Nat, y.2.2 = k ∧ k ≤ 6 ∧ y.1 = sumN (sdV I i) k ∧ y.2.1 = sumN (trV I i) k) ∧ (6 - y.2.2).toNat < (6 - (k : Int)).toNat) := by
        intro y ey hy
        unfold P_X12_score_86
        refine ⟨inI_s (by omega) (by omega), ?_⟩
        intro v1 e1
        rintro _ rfl
        refine ⟨inI_s (by omega) (by omega), inI_s (by omega) (by omega), goA r16 (by decide) ⟨by omega, by rw [z35]; omega⟩ ?_⟩
        rw [show (6 * (i : Int) + k).toNat = 6 * i + k by omega, g35]
        refine ⟨fun z => ⟨inI_s (by omega) (by omega), ?_⟩, fun z => ⟨inI_s (by omega) (by omega), ?_⟩⟩
        · intro v5 e5
          refine ⟨inI_s (by omega) (by omega), ?_⟩
          intro v6 e6
          refine ⟨⟨k + 1, by dsimp only; omega, by omega, by dsimp only; rw [hsd2, e1, g3, ey], ?_⟩, by dsimp only; omega⟩
          dsimp only
          rw [htr2, show trV I i k = 1 from if_pos z, e5, g4]
        · intro v5 e5
          refine ⟨inI_s (by omega) (by omega), ?_⟩
          intro v6 e6
          refine ⟨⟨k + 1, by dsimp only; omega, by omega, by dsimp only; rw [hsd2, e1, g3, ey], ?_⟩, by dsimp only; omega⟩
          dsimp only
          rw [htr2, show trV I i k = 0 from if_neg z, e5, g4]
      rintro _ rfl
      refine ⟨inI_s (by omega) (by omega), inI_s (by omega) (by omega), goA r16 (by decide) ⟨by omega, by rw [z35]; omega⟩ ?_⟩
      rw [show (6 * (i : Int) + k).toNat = 6 * i + k by omega, g35]
      refine ⟨fun z => ?_, fun z => s86 0 (if_neg z).symm (by omega)⟩
      rintro _ rfl
      refine ⟨inI_s (by omega) (by omega), inI_s (by omega) (by omega), goA r16 (by decide) ⟨by omega, by rw [z35]; omega⟩ ?_⟩
      rw [g35]
      exact s86 _ (if_pos z).symm (by omega)
theorem st_score (h : Rel M) : P_X11_score 0 x1 x2 M (fun r => P_X12_score 221 x1 x2 M (fun r2 => r = r2)) := by
  obtain ⟨p, q, hF⟩ := id h
  obtain ⟨hS, hT, hC, hH, hA, hM, hR, hL, hE⟩ := id hF
  have hFA := FA.self hF
  obtain ⟨N, hN, hN12, hNc, hNr⟩ := hFA.nb
  have he := hE.1
  have hEn : 0 ≤ M.1 227 1 ∧ M.1 227 1 ≤ 6 := ⟨hE.2.1, hE.2.2.1⟩
  have hpl : p ≤ 87 := by rcases hS.1.p with rfl | rfl <;> omega
  have hSM := hS.2.2.2.2.2.1
  have bad : ¬ ((0 ≤ x1 ∧ x1 < M.1 227 1) ∧ 0 ≤ x2 ∧ x2 ≤ 1) → P_X12_score 221 x1 x2 M (fun r2 => -1000000000 = r2) := by
    intro hb
    unfold P_X12_score
    rw [r_isSeat hSM hEn]
    refine ⟨fun _ => rfl, fun g1 => ?_⟩
    rw [p_in]
    refine ⟨fun g2 => ?_, fun _ => rfl⟩
    rw [bi0] at g1 g2
    exact absurd ⟨by omega, by omega⟩ hb
  unfold P_X11_score
  rintro _ rfl
  refine goO hS.2.1 ⟨by omega, by rw [(sh_pl hS.1.p).1]⟩ ?_
  refine c_seatAt hS.1.p hS.P (by omega) (fun s e1 hs => ?_) (fun hz => ⟨fun _ => bad (fun y => hz (by omega)), fun _ z => (by cases z)⟩)
  refine ⟨fun z => (by cases z), fun _ _ => ?_⟩
  rw [p_isWithin]
  refine ⟨fun g2 => ?_, fun z => bad (fun y => bi0.mp z y.2)⟩
  rintro _ rfl
  rw [hS.2.2.2.1.2.1]
  rintro _ rfl
  refine goO hS.2.2.2.1.2.2.2.2.2.1 (by decide) ?_
  subst e1
  have hsb := scs_b hFA (s := s) (by omega) (n := N) hN12
  refine c_sixtieths hFA hN (by omega) (c_cd (by omega) (by decide) ?_)
  obtain ⟨g, hg⟩ : ∃ g : Nat, g = Nat.gcd (sumN (scB M.1 s) N).natAbs (60 : Int).natAbs := ⟨_, rfl⟩
  have hgp : 1 ≤ g := by rw [hg]; exact Nat.gcd_pos_of_pos_right _ (by decide)
  have hgm : g ≤ 60 := by rw [hg]; exact Nat.gcd_le_right _ (by decide)
  rw [← hg, show max 1 ((g : Nat) : Int) = (g : Int) by omega]
  have ref : ∀ r : Int, r = (if x2 = 0 then Int.tdiv (sumN (scB M.1 s) N) g else Int.tdiv 60 g) → P_X12_score 221 s x2 M (fun r2 => r = r2) := by
    intro r er
    unfold P_X12_score
    rw [r_isSeat hSM hEn]
    refine ⟨fun z => by rw [bi0] at z; omega, fun _ => ?_⟩
    rw [p_in]
    refine ⟨fun _ => ?_, fun z => absurd z g2⟩
    refine r_score hFA hN (by omega) (r_common (inL_s (by omega) (by omega)) (inL_s (by decide) (by decide)) ?_)
    rw [← hg]
    intro v26 e26
    rw [l2i_in (inI_s (by omega) (by omega))] at e26
    subst e26
    refine ⟨fun z => ⟨by omega, by rw [er, if_neg z]⟩, fun z => ⟨by omega, by rw [er, if_pos z]⟩⟩
  exact ⟨fun z => ⟨by omega, ref _ (by rw [if_neg z])⟩, fun z => ⟨by omega, ref _ (by rw [if_pos z])⟩⟩
end SCO
