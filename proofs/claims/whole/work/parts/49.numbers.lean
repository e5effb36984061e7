/-! THE PARSER, first: the numbers of an item -/
def upN (f : Nat → Int) (k : Nat) (v : Int) : Nat → Int := fun j => if j = k then v else f j
abbrev NR := Option (Nat × Nat × (Nat → Int))
def nuF (T : Nat → Int) (len : Nat) : Nat → Nat → Nat → Int → Nat → (Nat → Int) → NR
  | 0, _, _, _, _, _ => none
  | n + 1, a, f, v, c, g => if len ≤ a then none else if 48 ≤ T a ∧ T a ≤ 57 then (if f = 4 then none else nuF T len n (a + 1) (f + 1) (10 * v + (T a - 48)) c g) else if ¬ (T a = 44 ∨ T a = 59) ∨ f = 0 ∨ c = 8 then none else if T a = 59 then some (a + 1, c + 1, upN g c v) else nuF T len n (a + 1) 0 0 (c + 1) (upN g c v)
/-- figures and their value -/
def fv (f : Nat) (v : Int) : Prop := 0 ≤ v ∧ ((f = 0 ∧ v = 0) ∨ (f = 1 ∧ v ≤ 9) ∨ (f = 2 ∧ v ≤ 99) ∨ (f = 3 ∧ v ≤ 999) ∨ (f = 4 ∧ v ≤ 9999))
section NUM
variable {T : Nat → Int} {len : Nat}
theorem nu_8 : ∀ n a f v g, nuF T len n a f v 8 g = none := by
  intro n
  induction n with
  | zero => intro a f v g; rfl
  | succ n ih =>
    intro a f v g
    unfold nuF
    split
    · rfl
    · split
      · split
        · rfl
        · exact ih _ _ _ _
      · rw [if_pos (Or.inr (Or.inr rfl))]
theorem nu_ok : ∀ n a f v c g, fv f v → c ≤ 8 → (∀ j, j < c → 0 ≤ g j ∧ g j ≤ 9999) → ∀ e c' g', nuF T len n a f v c g = some (e, c', g') → a < e ∧ e ≤ len ∧ 1 ≤ c' ∧ c' ≤ 8 ∧ ∀ j, j < c' → 0 ≤ g' j ∧ g' j ≤ 9999 := by
  intro n
  induction n with
  | zero => intro a f v c g _ _ _ e c' g' h; cases h
  | succ n ih =>
    intro a f v c g hfv hc hg e c' g' h
    unfold nuF at h
    have hup : ∀ j, j < c + 1 → 0 ≤ upN g c v j ∧ upN g c v j ≤ 9999 := by
      intro j hj
      unfold upN
      by_cases e : j = c
      · rw [if_pos e]; unfold fv at hfv; omega
      · rw [if_neg e]; exact hg j (by omega)
    split at h
    · cases h
    · rename_i h1
      split at h
      · rename_i h2
        split at h
        · cases h
        · rename_i h3
          have := ih (a + 1) (f + 1) (10 * v + (T a - 48)) c g (by unfold fv at hfv ⊢; omega) hc hg e c' g' h
          exact ⟨by omega, this.2⟩
      · split at h
        · cases h
        · rename_i h3
          split at h
          · cases h
            exact ⟨by omega, by omega, by omega, by omega, hup⟩
          · have := ih (a + 1) 0 0 (c + 1) (upN g c v) (by unfold fv; omega) (by omega) hup e c' g' h
            exact ⟨by omega, this.2⟩
/-- the class reads an item's numbers -/
theorem c_numbers {M : Mm} {fr : Nat} {Q : Int → Mm → Prop} (r0 : M.2.2.1 1 0 = some 2) (r2 : M.2.2.1 1 2 = some 3) (hl : M.1 1 1 = len) (hl3 : len ≤ 300) (hb : ∀ k, k < len → 0 ≤ T k ∧ T k ≤ 255 ∧ M.1 2 k = sb (T k)) (hf : fr ≤ len + 1) (h0 : nuF T len (len + 1 - fr) fr 0 0 0 (fun _ => 0) = none → ∀ M' : Mm, M'.2 = M.2 → (∀ o j, o ≠ 3 → ¬ (o = 1 ∧ j = 3) → M'.1 o j = M.1 o j) → Q (-4) M') (h1 : ∀ e c g, nuF T len (len + 1 - fr) fr 0 0 0 (fun _ => 0) = some (e, c, g) → ∀ M' : Mm, M'.2 = M.2 → (∀ o j, o ≠ 3 → ¬ (o = 1 ∧ j = 3) → M'.1 o j = M.1 o j) → M'.1 1 3 = (c : Nat) → (∀ j, j < c → M'.1 3 j = g j) → Q (e : Nat) M') : P_X9_readNumbers 1 fr M Q := by
  obtain ⟨N0, hN0⟩ : ∃ N0, N0 = nuF T len (len + 1 - fr) fr 0 0 0 (fun _ => 0) := ⟨_, rfl⟩
  rw [← hN0] at h0 h1
  unfold P_X9_readNumbers
  intro M16 e16
  unfold P_X9_readNumbers_12
  refine lp_i (fun y : Int × Int × Int × Mm => ∃ (f a c : Nat) (g : Nat → Int), y.1 = f ∧ y.2.2.1 = a ∧ fr ≤ a ∧ a ≤ len + 1 ∧ fv f y.2.1 ∧ c ≤ 8 ∧ nuF T len (len + 1 - a) a f y.2.1 c g = N0 ∧ y.2.2.2.2 = M.2 ∧ (∀ o j, o ≠ 3 → ¬ (o = 1 ∧ j = 3) → y.2.2.2.1 o j = M.1 o j) ∧ y.2.2.2.1 1 3 = c ∧ ∀ j, j < c → y.2.2.2.1 3 j = g j) (fun y => (302 - y.2.2.1).toNat) ⟨0, fr, 0, fun _ => 0, rfl, rfl, Nat.le_refl _, hf, by unfold fv; dsimp only; omega, by omega, hN0.symm, by rw [e16], fun o j z1 z2 => by dsimp only; rw [e16, setI_n _ _ _ _ (by omega)], by dsimp only; rw [e16, setI_s]; rfl, fun j hj => by omega⟩ ?_
  rintro ⟨x2, x3, x4, M1⟩ ⟨f, a, c, g, f1, f2, f3, f4, f5, f6, f7, f8, f9, f10, f11⟩
  dsimp only at f1 f2 f5 f7 f8 f9 f10 f11
  subst f1 f2
  show F_X9_readNumbers_12 1 Q _ (f : Int) x3 (a : Int) M1
  unfold F_X9_readNumbers_12
  rw [f9 1 1 (by decide) (by decide), hl]
  refine ⟨fun hle => ?_, fun hlt => ?_⟩
  · refine h0 ?_ M1 f8 f9
    rw [← f7]
    rcases Nat.eq_zero_or_pos (len + 1 - a) with z | z
    · rw [z]; rfl
    · obtain ⟨m, hm⟩ : ∃ m, len + 1 - a = m + 1 := ⟨len - a, by omega⟩
      rw [hm]; unfold nuF; rw [if_pos (by omega)]
  · have hal : a < len := by omega
    obtain ⟨m, hm⟩ : ∃ m, len + 1 - a = m + 1 := ⟨len - a, by omega⟩
    have hm2 : len + 1 - (a + 1) = m := by omega
    rw [hm] at f7
    unfold nuF at f7
    rw [if_neg (by omega)] at f7
    have hba := hb a hal
    have hsb : sb (T a) = if T a < 128 then T a else T a - 256 := rfl
    rintro _ rfl
    refine goA (k := 2) (by rw [f8]; exact r0) (by decide) ⟨by omega, by rw [show (SH 2).2 = 300 by decide]; omega⟩ ?_
    rw [show ((a : Int)).toNat = a by omega, f9 2 a (by decide) (by omega), hba.2.2]
    intro v12 e12
    have h69 : ¬ (48 ≤ T a ∧ T a ≤ 57) → P_X9_readNumbers_69 1 f x3 a v12 M1 Q (fun y => (∃ (f a c : Nat) (g : Nat → Int), y.1 = f ∧ y.2.2.1 = a ∧ fr ≤ a ∧ a ≤ len + 1 ∧ fv f y.2.1 ∧ c ≤ 8 ∧ nuF T len (len + 1 - a) a f y.2.1 c g = N0 ∧ y.2.2.2.2 = M.2 ∧ (∀ o j, o ≠ 3 → ¬ (o = 1 ∧ j = 3) → y.2.2.2.1 o j = M.1 o j) ∧ y.2.2.2.1 1 3 = c ∧ ∀ j, j < c → y.2.2.2.1 3 j = g j) ∧ (302 - y.2.2.1).toNat < (302 - (a : Int)).toNat) := by
      intro hnd
      rw [if_neg hnd] at f7
      have v44 : v12 = 44 ↔ T a = 44 := by rw [e12, hsb]; split <;> omega
      have v59 : v12 = 59 ↔ T a = 59 := by rw [e12, hsb]; split <;> omega
      have h83 : (T a = 44 ∨ T a = 59) → P_X9_readNumbers_83 1 f x3 a v12 M1 Q (fun y => (∃ (f a c : Nat) (g : Nat → Int), y.1 = f ∧ y.2.2.1 = a ∧ fr ≤ a ∧ a ≤ len + 1 ∧ fv f y.2.1 ∧ c ≤ 8 ∧ nuF T len (len + 1 - a) a f y.2.1 c g = N0 ∧ y.2.2.2.2 = M.2 ∧ (∀ o j, o ≠ 3 → ¬ (o = 1 ∧ j = 3) → y.2.2.2.1 o j = M.1 o j) ∧ y.2.2.2.1 1 3 = c ∧ ∀ j, j < c → y.2.2.2.1 3 j = g j) ∧ (302 - y.2.2.1).toNat < (302 - (a : Int)).toNat) := by
        intro hs
        unfold P_X9_readNumbers_83
        rw [f10]
        refine ⟨fun z => h0 ?_ M1 f8 f9, fun z => ⟨fun z2 => ?_, fun z2 => h0 ?_ M1 f8 f9⟩⟩
        · rw [← f7, if_pos (Or.inr (Or.inl (by omega)))]
        · rw [if_neg (by omega)] at f7
          rintro _ rfl
          refine goA (k := 3) (by rw [f8]; exact r2) (by decide) ⟨by omega, by rw [show (SH 3).2 = 8 by decide]; omega⟩ ?_
          rw [show ((c : Int)).toNat = c by omega]
          intro M4 e4
          have c4 : M4.1 1 3 = c := by rw [e4, setI_n _ _ _ _ (by omega)]; exact f10
          rw [c4]
          refine ⟨inI_s (by omega) (by omega), ?_⟩
          intro M6 e6
          have k1 : M6.2 = M.2 := by rw [e6]; show M4.2 = M.2; rw [e4]; exact f8
          have k2 : ∀ o j, o ≠ 3 → ¬ (o = 1 ∧ j = 3) → M6.1 o j = M.1 o j := fun o j z1 z2 => by rw [e6, setI_n _ _ _ _ (by omega), e4, setI_n _ _ _ _ (by omega)]; exact f9 o j z1 z2
          have k3 : M6.1 1 3 = ((c + 1 : Nat) : Int) := by rw [e6, setI_s]; rfl
          have k4 : ∀ j, j < c + 1 → M6.1 3 j = upN g c x3 j := by
            intro j hj
            rw [e6, setI_n _ _ _ _ (by omega), e4]
            unfold upN
            by_cases e : j = c
            · subst e; rw [setI_s, if_pos rfl]
            · rw [setI_n _ _ _ _ (by omega), if_neg e]; exact f11 j (by omega)
          refine ⟨fun z59 => ⟨inI_s (by omega) (by omega), ?_⟩, fun z59 => ⟨inI_s (by omega) (by omega), ?_⟩⟩
          · intro v8 e8
            rw [if_neg (fun z => z59 (v59.mpr z)), ← hm2] at f7
            exact ⟨⟨0, a + 1, c + 1, upN g c x3, rfl, by dsimp only; omega, by omega, by omega, by unfold fv; dsimp only; omega, by omega, f7, k1, k2, k3, k4⟩, by dsimp only; omega⟩
          · rw [if_pos (v59.mp z59)] at f7
            have := h1 (a + 1) (c + 1) (upN g c x3) f7.symm M6 k1 k2 k3 k4
            rw [show ((a : Int) + 1) = ((a + 1 : Nat) : Int) by omega]
            exact this
        · rw [← f7, if_pos (Or.inr (Or.inr (by omega)))]
      unfold P_X9_readNumbers_69
      refine ⟨fun z => h83 (Or.inl (v44.mp z)), fun z => ⟨fun z2 => h0 ?_ M1 f8 f9, fun z2 => h83 (Or.inr (v59.mp z2))⟩⟩
      rw [← f7, if_pos (Or.inl (fun y => by rcases y with y | y; exact z (v44.mpr y); exact z2 (v59.mpr y)))]
    refine ⟨fun z => h69 (by rw [e12, hsb] at z; split at z <;> omega), fun z1 => ⟨fun z => h69 (by rw [e12, hsb] at z; split at z <;> omega), fun z2 => ?_⟩⟩
    have hv : v12 = T a ∧ 48 ≤ T a ∧ T a ≤ 57 := by
      rw [hsb] at e12
      split at e12 <;> omega
    rw [if_pos hv.2] at f7
    unfold fv at f5
    refine ⟨fun z => ⟨inI_s (by omega) (by omega), inI_s (by omega) (by omega), inI_s (by omega) (by omega), ?_⟩, fun z => h0 ?_ M1 f8 f9⟩
    · intro v13 e13
      refine ⟨inI_s (by omega) (by omega), ?_⟩
      intro v14 e14
      refine ⟨inI_s (by omega) (by omega), ?_⟩
      intro v15 e15
      rw [if_neg (by omega), ← hm2, ← hv.1, ← e13] at f7
      exact ⟨⟨f + 1, a + 1, c, g, by dsimp only; omega, by dsimp only; omega, by omega, by omega, by unfold fv; dsimp only; omega, f6, f7, f8, f9, f10, f11⟩, by dsimp only; omega⟩
    · rw [← f7, if_pos (by omega)]
end NUM
