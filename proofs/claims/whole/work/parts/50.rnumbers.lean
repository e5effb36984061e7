/-! the reference reads an item's numbers -/
section RNU
variable {T : Nat → Int} {len : Nat}
theorem nu_s {n a f c : Nat} {v : Int} {g : Nat → Int} : nuF T len (n + 1) a f v c g = if len ≤ a then none else if 48 ≤ T a ∧ T a ≤ 57 then (if f = 4 then none else nuF T len n (a + 1) (f + 1) (10 * v + (T a - 48)) c g) else if ¬ (T a = 44 ∨ T a = 59) ∨ f = 0 ∨ c = 8 then none else if T a = 59 then some (a + 1, c + 1, upN g c v) else nuF T len n (a + 1) 0 0 (c + 1) (upN g c v) := rfl
/-- what the reference holds while it reads -/
def rnI (T : Nat → Int) (len : Nat) (N0 : NR) (M : Mm) (a c : Nat) (g : Nat → Int) (M1 : Mm) : Prop := M1.1 221 21 = a ∧ a ≤ len ∧ c ≤ 8 ∧ M1.2 = M.2 ∧ (∀ o j, o ≠ 237 → ¬ (o = 221 ∧ j = 21) → M1.1 o j = M.1 o j) ∧ ∀ j, j < c → M1.1 237 j = g j
theorem r_n84 {M M1 : Mm} {N0 : NR} {f a c : Nat} {v : Int} {g : Nat → Int} {Q : Int → Mm → Prop} {K : Int × Mm → Prop} (r1 : M.2.2.1 221 1 = some 222) (r22 : M.2.2.1 221 22 = some 237) (hl : M.1 221 0 = len) (hl3 : len ≤ 300) (hb : ∀ k, k < len → M.1 222 k = T k) (hi : rnI T len N0 M a c g M1) (hal : a ≤ len) (hc : c < 8) (h5 : f ≤ 5) (hfv : f ≤ 4 → fv f v) (hN : f ≤ 4 → nuF T len (len + 1 - a) a f v c g = N0) (hN5 : f = 5 → N0 = none) (hx : f = 5 ∨ len ≤ a ∨ ¬ (48 ≤ T a ∧ T a ≤ 57)) (h0 : N0 = none → ∀ M' : Mm, M'.2 = M.2 → (∀ o j, o ≠ 237 → ¬ (o = 221 ∧ j = 21) → M'.1 o j = M.1 o j) → Q (-4) M') (h1 : ∀ e c' g', N0 = some (e, c', g') → ∀ M' : Mm, M'.2 = M.2 → (∀ o j, o ≠ 237 → ¬ (o = 221 ∧ j = 21) → M'.1 o j = M.1 o j) → M'.1 221 21 = (e : Nat) → (∀ j, j < c' → M'.1 237 j = g' j) → Q (c' : Nat) M') (hk : nuF T len (len + 1 - (a + 1)) (a + 1) 0 0 (c + 1) (upN g c v) = N0 → ∀ M', rnI T len N0 M (a + 1) (c + 1) (upN g c v) M' → K (((c + 1 : Nat) : Int), M')) : P_X12_numbers_84 221 c f v M1 Q K := by
  obtain ⟨i1, i2, i3, i4, i5, i6⟩ := hi
  have m0 : M1.1 221 0 = len := by rw [i5 221 0 (by decide) (by decide)]; exact hl
  obtain ⟨m, hm⟩ : ∃ m, len + 1 - a = m + 1 := ⟨len - a, by omega⟩
  have hm2 : len + 1 - (a + 1) = m := by omega
  rw [hm, nu_s] at hN
  unfold P_X12_numbers_84
  rw [p_in]
  refine ⟨fun z => h0 ?_ M1 i4 i5, fun z => ?_⟩
  · rw [bi0] at z
    by_cases e5 : f = 5
    · exact hN5 e5
    · have e0 : f = 0 := by omega
      have := hN (by omega)
      rw [← this]
      by_cases e1 : len ≤ a
      · rw [if_pos e1]
      · rw [if_neg e1, if_neg (by omega), if_pos (Or.inr (Or.inl e0))]
  · rw [bi0] at z
    have hN := hN (by omega)
    have hfv := hfv (by omega)
    unfold fv at hfv
    rw [i1, m0]
    refine ⟨fun zn => ?_, fun zn => h0 (by rw [← hN, if_pos (by omega)]) M1 i4 i5⟩
    rw [if_neg (by omega), if_neg (by omega)] at hN
    rintro _ rfl
    refine goA (k := 237) (by rw [i4]; exact r22) (by decide) ⟨by omega, by rw [show (SH 237).2 = 8 by decide]; omega⟩ ?_
    rw [show ((c : Int)).toNat = c by omega]
    intro M5 e5
    refine ⟨inI_s (by omega) (by omega), ?_⟩
    intro v7 e7
    have a5 : M5.1 221 21 = a := by rw [e5, setI_n _ _ _ _ (by omega)]; exact i1
    rw [a5]
    refine ⟨inI_s (by omega) (by omega), ?_⟩
    intro M8 e8
    have k0 : M8.1 221 21 = ((a + 1 : Nat) : Int) := by rw [e8, setI_s]; rfl
    have k1 : M8.2 = M.2 := by rw [e8]; show M5.2 = M.2; rw [e5]; exact i4
    have k2 : ∀ o j, o ≠ 237 → ¬ (o = 221 ∧ j = 21) → M8.1 o j = M.1 o j := fun o j z1 z2 => by rw [e8, setI_n _ _ _ _ (by omega), e5, setI_n _ _ _ _ (by omega)]; exact i5 o j z1 z2
    have k3 : ∀ j, j < c + 1 → M8.1 237 j = upN g c v j := by
      intro j hj
      rw [e8, setI_n _ _ _ _ (by omega), e5]
      unfold upN
      by_cases e : j = c
      · subst e; rw [setI_s, if_pos rfl]
      · rw [setI_n _ _ _ _ (by omega), if_neg e]; exact i6 j (by omega)
    have hT : M8.1 222 a = T a := by rw [k2 222 a (by decide) (by omega)]; exact hb a (by omega)
    rintro _ rfl
    rw [k0, show ((a + 1 : Nat) : Int) - 1 = (a : Int) by omega]
    refine ⟨inI_s (by omega) (by omega), goA (k := 222) (by rw [k1]; exact r1) (by decide) ⟨by omega, by rw [show (SH 222).2 = 300 by decide]; omega⟩ ?_⟩
    rw [show ((a : Int)).toNat = a by omega, hT]
    refine ⟨fun z59 => ?_, fun z59 => ?_⟩
    · rintro _ rfl
      refine ⟨inI_s (by omega) (by omega), goA (k := 222) (by rw [k1]; exact r1) (by decide) ⟨by omega, by rw [show (SH 222).2 = 300 by decide]; omega⟩ ?_⟩
      rw [hT]
      refine ⟨fun z44 => ?_, fun z44 => h0 (by rw [← hN, if_pos (by omega)]) M8 k1 k2⟩
      rw [if_neg (by omega), if_neg z59, ← hm2] at hN
      have := hk hN M8 ⟨k0, by omega, by omega, k1, k2, k3⟩
      rw [e7, show (c : Int) + 1 = ((c + 1 : Nat) : Int) by omega]
      exact this
    · rw [if_neg (by omega), if_pos z59] at hN
      have := h1 _ _ _ hN.symm M8 k1 k2 k0 k3
      rw [e7, show (c : Int) + 1 = ((c + 1 : Nat) : Int) by omega]
      exact this
theorem r_numbers {M : Mm} {fr : Nat} {Q : Int → Mm → Prop} (r1 : M.2.2.1 221 1 = some 222) (r22 : M.2.2.1 221 22 = some 237) (hl : M.1 221 0 = len) (hl3 : len ≤ 300) (hb : ∀ k, k < len → M.1 222 k = T k) (hf0 : M.1 221 21 = fr) (hf : fr ≤ len) (h0 : nuF T len (len + 1 - fr) fr 0 0 0 (fun _ => 0) = none → ∀ M' : Mm, M'.2 = M.2 → (∀ o j, o ≠ 237 → ¬ (o = 221 ∧ j = 21) → M'.1 o j = M.1 o j) → Q (-4) M') (h1 : ∀ e c g, nuF T len (len + 1 - fr) fr 0 0 0 (fun _ => 0) = some (e, c, g) → ∀ M' : Mm, M'.2 = M.2 → (∀ o j, o ≠ 237 → ¬ (o = 221 ∧ j = 21) → M'.1 o j = M.1 o j) → M'.1 221 21 = (e : Nat) → (∀ j, j < c → M'.1 237 j = g j) → Q (c : Nat) M') : P_X12_numbers 221 M Q := by
  obtain ⟨N0, hN0⟩ : ∃ N0, N0 = nuF T len (len + 1 - fr) fr 0 0 0 (fun _ => 0) := ⟨_, rfl⟩
  rw [← hN0] at h0 h1
  unfold P_X12_numbers P_X12_numbers_2
  refine lp_i (fun y : Int × Mm => ∃ (a c : Nat) (g : Nat → Int), y.1 = c ∧ nuF T len (len + 1 - a) a 0 0 c g = N0 ∧ rnI T len N0 M a c g y.2) (fun y => (8 - y.1).toNat) ⟨fr, 0, fun _ => 0, rfl, hN0.symm, hf0, by omega, by omega, rfl, fun _ _ _ _ => rfl, fun j hj => by omega⟩ ?_
  rintro ⟨x1, M1⟩ ⟨a, c, g, f1, f2, f3⟩
  dsimp only at f1 f3
  subst f1
  show F_X12_numbers_2 221 Q _ (c : Int) M1
  unfold F_X12_numbers_2
  refine ⟨fun hle => ?_, fun hlt => ?_⟩
  · have hc8 : c = 8 := by have := f3.2.2.1; omega
    subst hc8
    exact h0 (by rw [← f2]; exact nu_8 _ _ _ _ _) M1 f3.2.2.2.1 f3.2.2.2.2.1
  · unfold P_X12_numbers_12
    refine lp_i (fun y : Int × Int × Mm => ∃ (f a : Nat), y.1 = f ∧ f ≤ 5 ∧ (f ≤ 4 → fv f y.2.1) ∧ (f ≤ 4 → nuF T len (len + 1 - a) a f y.2.1 c g = N0) ∧ (f = 5 → N0 = none) ∧ rnI T len N0 M a c g y.2.2) (fun y => (5 - y.1).toNat) ⟨0, a, rfl, by omega, fun _ => by unfold fv; dsimp only; omega, fun _ => f2, fun z => by omega, f3⟩ ?_
    rintro ⟨x2, x3, M2⟩ ⟨f, b, g1, g2, g3, g4, g5, g6⟩
    dsimp only at g1 g3 g4 g6
    subst g1
    show F_X12_numbers_12 221 c Q _ _ (f : Int) x3 M2
    obtain ⟨i1, i2, i3, i4, i5, i6⟩ := id g6
    have m0 : M2.1 221 0 = len := by rw [i5 221 0 (by decide) (by decide)]; exact hl
    have go : (f = 5 ∨ len ≤ b ∨ ¬ (48 ≤ T b ∧ T b ≤ 57)) → P_X12_numbers_84 221 c f x3 M2 Q (fun y => (∃ (a c : Nat) (g : Nat → Int), y.1 = c ∧ nuF T len (len + 1 - a) a 0 0 c g = N0 ∧ rnI T len N0 M a c g y.2) ∧ (8 - y.1).toNat < (8 - (c : Int)).toNat) := by
      intro hx
      exact r_n84 r1 r22 hl hl3 hb g6 i2 (by omega) g2 g3 g4 g5 hx h0 h1 (fun e M' hM' => ⟨⟨b + 1, c + 1, upN g c x3, rfl, e, hM'⟩, by dsimp only; omega⟩)
    unfold F_X12_numbers_12
    rw [m0, i1]
    refine ⟨fun hle => go (Or.inr (Or.inl (by omega))), fun hlt2 => ?_⟩
    have hT : M2.1 222 b = T b := by rw [i5 222 b (by decide) (by omega)]; exact hb b (by omega)
    rintro _ rfl
    refine goA (k := 222) (by rw [i4]; exact r1) (by decide) ⟨by omega, by rw [show (SH 222).2 = 300 by decide]; omega⟩ ?_
    rw [show ((b : Int)).toNat = b by omega, hT, p_in]
    refine ⟨fun z => go (Or.inr (Or.inr (bi0.mp z))), fun z => ⟨fun z5 => go (Or.inl (by omega)), fun z5 => ?_⟩⟩
    rw [bi0] at z
    have z := Classical.not_not.mp z
    have hfv := g3 (by omega)
    have hN := g4 (by omega)
    obtain ⟨m, hm⟩ : ∃ m, len + 1 - b = m + 1 := ⟨len - b, by omega⟩
    have hm2 : len + 1 - (b + 1) = m := by omega
    rw [hm, nu_s, if_neg (by omega), if_pos z] at hN
    unfold fv at hfv
    refine ⟨inI_s (by omega) (by omega), ?_⟩
    rintro _ rfl
    refine goA (k := 222) (by rw [i4]; exact r1) (by decide) ⟨by omega, by rw [show (SH 222).2 = 300 by decide]; omega⟩ ?_
    rw [hT]
    refine ⟨inI_s (by omega) (by omega), inI_s (by omega) (by omega), ?_⟩
    intro v23 e23
    refine ⟨inI_s (by omega) (by omega), ?_⟩
    intro v24 e24
    refine ⟨inI_s (by omega) (by omega), ?_⟩
    intro M25 e25
    have ev : v23 = 10 * x3 + (T b - 48) := by omega
    refine ⟨⟨f + 1, b + 1, by dsimp only; omega, by omega, fun z4 => by unfold fv; dsimp only; omega, fun z4 => ?_, fun z4 => ?_, ?_⟩, by dsimp only; omega⟩
    · rw [if_neg (by omega), ← hm2, ← ev] at hN; exact hN
    · rw [if_pos (by omega)] at hN; exact hN.symm
    · refine ⟨?_, by omega, i3, ?_, fun o j z1 z2 => ?_, fun j hj => ?_⟩
      · show M25.1 221 21 = _; rw [e25, setI_s]; rfl
      · show M25.2 = _; rw [e25]; exact i4
      · show M25.1 o j = _; rw [e25, setI_n _ _ _ _ (by omega)]; exact i5 o j z1 z2
      · show M25.1 237 j = _; rw [e25, setI_n _ _ _ _ (by omega)]; exact i6 j hj
end RNU
