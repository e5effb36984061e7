/-! the reference takes items in -/
def rD (I S : IFn) : Prop := I 223 0 = S 0 0 ∧ I 227 0 = S 0 1 ∧ (∀ l : Nat, (l : Int) < S 0 0 → I 224 l = S 1 l ∧ (∀ j : Nat, (j : Int) < 2 * S 1 l → I 225 (8 * l + j) = S 2 (8 * l + j)) ∧ ∀ t : Nat, t < 4 → I 226 (4 * l + t) = S 3 (4 * l + t)) ∧ ∀ s : Nat, (s : Int) < S 0 1 → (∀ k : Nat, k < 4 → I 228 (4 * s + k) = S 4 (4 * s + k)) ∧ I 229 s = S 5 s ∧ ∀ j : Nat, (j : Int) < 3 * S 5 s → I 230 (18 * s + j) = S 6 (18 * s + j)
def dLow (o j : Nat) : Prop := (o = 223 ∧ j = 0) ∨ (o = 224 ∧ j < 8) ∨ (o = 225 ∧ j < 64) ∨ (o = 226 ∧ j < 32) ∨ (o = 227 ∧ j = 0) ∨ (o = 228 ∧ j < 24) ∨ (o = 229 ∧ j < 6) ∨ (o = 230 ∧ j < 108)
section RIT
variable {M : Mm} {S : IFn} {c : Nat} {g : Nat → Int} {Q : Int → Mm → Prop}
theorem r_l29_0 {x1 x3 : Int} (h1 : x1 ≤ 100) (h3 : 0 ≤ x3 ∧ x3 ≤ 100) (hq : Q 0 M) : P_X12_layer_29 221 x1 0 x3 M Q := by
  unfold P_X12_layer_29
  refine lp_i (fun y : Int × Int => y.1 = 0 ∧ 0 ≤ y.2 ∧ y.2 ≤ 102) (fun y => (102 - y.2).toNat) ⟨rfl, h3.1, by dsimp only; omega⟩ ?_
  rintro ⟨y2, y3⟩ ⟨f1, f2, f3⟩
  dsimp only at f1 f2 f3
  subst f1
  show F_X12_layer_29 221 x1 M Q _ 0 y3
  unfold F_X12_layer_29
  refine ⟨fun hle => ⟨fun z => absurd rfl z, fun _ => hq⟩, fun hlt => ⟨fun _ => ⟨inI_s (by omega) (by omega), ?_⟩, fun z => absurd rfl z⟩⟩
  intro v ev
  exact ⟨⟨rfl, by dsimp only; omega, by dsimp only; omega⟩, by dsimp only; omega⟩
theorem r_layer_put (hS : StrM M.2.2.1) (hd : rD M.1 S) (hok : dsOk S) (hlc : S 0 0 < 8) (hc : c ≤ 8) (hc2 : c % 2 = 0) (hg : ∀ j, j < c → M.1 237 j = g j) {lc : Nat} (el : S 0 0 = lc) (hq : ∀ M' : Mm, M'.2 = M.2 → (∀ o j, ¬ dLow o j → M'.1 o j = M.1 o j) → rD M'.1 (lS S c g) → Q 1 M') : P_X12_layer_111 221 lc 0 (setI M 224 lc ((c / 2 : Nat) : Int)) Q := by
  have hl8 : lc < 8 := by omega
  have tn : (S 0 0).toNat = lc := by omega
  obtain ⟨d1, d2, d3, d4⟩ := hd
  unfold P_X12_layer_111
  refine lp_i (fun y : Int × Mm => ∃ i : Nat, y.1 = i ∧ i ≤ 8 ∧ y.2.2 = M.2 ∧ (∀ o j, ¬ (o = 224 ∧ j = lc) → ¬ (o = 225 ∧ 8 * lc ≤ j ∧ j < 8 * lc + 8) → y.2.1 o j = M.1 o j) ∧ y.2.1 224 lc = ((c / 2 : Nat) : Int) ∧ ∀ j, j < i → y.2.1 225 (8 * lc + j) = M.1 237 j) (fun y => (8 - y.1).toNat) ⟨0, rfl, by omega, rfl, fun o j z1 z2 => setI_n M 224 lc _ z1, setI_s M 224 lc _, fun j hj => by omega⟩ ?_
  rintro ⟨y4, M1⟩ ⟨i, f1, f2, f3, f4, f5, f6⟩
  dsimp only at f1 f3 f4 f5 f6
  subst f1
  show F_X12_layer_111 221 lc Q _ (i : Int) M1
  unfold F_X12_layer_111
  refine ⟨fun hle => ?_, fun hlt => ?_⟩
  · have : i = 8 := by omega
    subst this
    unfold P_X12_layer_146
    refine lp_i (fun y : Int × Mm => ∃ t : Nat, y.1 = t ∧ t ≤ 4 ∧ y.2.2 = M.2 ∧ (∀ o j, ¬ (o = 226 ∧ 4 * lc ≤ j ∧ j < 4 * lc + 4) → y.2.1 o j = M1.1 o j) ∧ ∀ j, j < t → y.2.1 226 (4 * lc + j) = 100) (fun y => (4 - y.1).toNat) ⟨0, rfl, by omega, f3, fun _ _ _ => rfl, fun j hj => by omega⟩ ?_
    rintro ⟨z4, M2⟩ ⟨t, g1, g2, g3, g4, g5⟩
    dsimp only at g1 g3 g4 g5
    subst g1
    show F_X12_layer_146 221 lc Q _ (t : Int) M2
    unfold F_X12_layer_146
    refine ⟨fun hle => ?_, fun hlt => ?_⟩
    · have : t = 4 := by omega
      subst this
      have v0 : M2.1 223 0 = lc := by rw [g4 _ _ (by omega), f4 _ _ (by omega) (by omega), d1]; exact el
      have r2 : M2.2.2.1 221 2 = some 223 := by rw [g3]; exact hS.2.1
      rintro _ rfl
      refine goA r2 (by decide) (by decide) ?_
      rw [show ((0 : Int)).toNat = 0 from rfl, v0]
      refine ⟨inI_s (by omega) (by omega), goA r2 (by decide) (by decide) ?_⟩
      intro M6 e6
      have w : ∀ o j, ¬ (o = 223 ∧ j = 0) → M6.1 o j = M2.1 o j := fun o j z => by rw [e6, setI_n _ _ _ _ z]
      have w2 : ∀ o j, ¬ (o = 223 ∧ j = 0) → ¬ (o = 224 ∧ j = lc) → ¬ (o = 225 ∧ 8 * lc ≤ j ∧ j < 8 * lc + 8) → ¬ (o = 226 ∧ 4 * lc ≤ j ∧ j < 4 * lc + 4) → M6.1 o j = M.1 o j := fun o j z1 z2 z3 z4 => (w o j z1).trans ((g4 o j z4).trans (f4 o j z2 z3))
      refine hq M6 (by rw [e6]; exact g3) (fun o j z => w2 o j (fun y => z (Or.inl y)) (fun y => z (Or.inr (Or.inl ⟨y.1, by omega⟩))) (fun y => z (Or.inr (Or.inr (Or.inl ⟨y.1, by omega⟩)))) (fun y => z (Or.inr (Or.inr (Or.inr (Or.inl ⟨y.1, by omega⟩)))))) ⟨?_, ?_, fun l hl => ?_, fun s hs => ?_⟩
      · rw [e6, setI_s, lS_0, el]
      · rw [w2 _ _ (by omega) (by omega) (by omega) (by omega), lS_o (Or.inr ⟨rfl, by decide⟩)]; exact d2
      · rw [lS_0] at hl
        by_cases e : l = lc
        · subst e
          have e24 : M6.1 224 l = ((c / 2 : Nat) : Int) := by rw [w _ _ (by omega), g4 _ _ (by omega)]; exact f5
          rw [lS_1, if_pos tn.symm]
          refine ⟨e24, fun j hj => ?_, fun t ht => ?_⟩
          · rw [w _ _ (by omega), g4 _ _ (by omega), f6 j (by omega), lS_2, tn, if_pos (by omega), show 8 * l + j - 8 * l = j by omega]
            exact hg j (by omega)
          · rw [w _ _ (by omega), g5 t ht, lS_3, tn, if_pos (by omega)]
        · obtain ⟨b1, b2, b3⟩ := d3 l (by omega)
          rw [lS_1, tn, if_neg e]
          refine ⟨by rw [w2 _ _ (by omega) (by omega) (by omega) (by omega)]; exact b1, fun j hj => ?_, fun t ht => ?_⟩
          · have h4 := (hok.2.2.1 l (by omega)).1
            rw [w2 _ _ (by omega) (by omega) (by omega) (by omega), lS_2, tn, if_neg (by omega)]; exact b2 j hj
          · rw [w2 _ _ (by omega) (by omega) (by omega) (by omega), lS_3, tn, if_neg (by omega)]; exact b3 t ht
      · rw [lS_o (Or.inr ⟨rfl, by decide⟩)] at hs
        obtain ⟨b1, b2, b3⟩ := d4 s hs
        refine ⟨fun k hk => ?_, ?_, fun j hj => ?_⟩
        · rw [w2 _ _ (by omega) (by omega) (by omega) (by omega), lS_o (Or.inl (by decide))]; exact b1 k hk
        · rw [w2 _ _ (by omega) (by omega) (by omega) (by omega), lS_o (Or.inl (by decide))]; exact b2
        · rw [lS_o (Or.inl (by decide))] at hj
          rw [w2 _ _ (by omega) (by omega) (by omega) (by omega), lS_o (Or.inl (by decide))]; exact b3 j hj
    · rintro _ rfl
      refine ⟨inI_s (by omega) (by omega), inI_s (by omega) (by omega), goA (k := 226) (by rw [g3]; exact hS.2.2.2.2.1) (by decide) ⟨by omega, by rw [show (SH 226).2 = 64 by decide]; omega⟩ ?_⟩
      rw [show (4 * (lc : Int) + t).toNat = 4 * lc + t by omega]
      intro M11 e11
      refine ⟨inI_s (by omega) (by omega), ?_⟩
      intro v ev
      refine ⟨⟨t + 1, by dsimp only; omega, by omega, by rw [e11]; exact g3, fun o j z => ?_, fun j hj => ?_⟩, by dsimp only; omega⟩
      · show M11.1 o j = _
        rw [e11, setI_n _ _ _ _ (by omega)]; exact g4 o j z
      · show M11.1 226 _ = _
        rw [e11]
        by_cases e : j = t
        · subst e; rw [setI_s]
        · rw [setI_n _ _ _ _ (by omega)]; exact g5 j (by omega)
  · rintro _ rfl
    refine ⟨inI_s (by omega) (by omega), inI_s (by omega) (by omega), ?_⟩
    rintro _ rfl
    refine goA (k := 237) (by rw [f3]; exact hS.2.2.2.2.2.2.2.2.2.2.2.2.2.2.2.1) (by decide) ⟨by omega, by rw [show (SH 237).2 = 8 by decide]; omega⟩ ?_
    refine goA (k := 225) (by rw [f3]; exact hS.2.2.2.1) (by decide) ⟨by omega, by rw [show (SH 225).2 = 128 by decide]; omega⟩ ?_
    rw [show (8 * (lc : Int) + i).toNat = 8 * lc + i by omega, show ((i : Int)).toNat = i by omega, f4 237 i (by omega) (by omega)]
    intro M20 e20
    refine ⟨inI_s (by omega) (by omega), ?_⟩
    intro v ev
    refine ⟨⟨i + 1, by dsimp only; omega, by omega, by rw [e20]; exact f3, fun o j z1 z2 => ?_, ?_, fun j hj => ?_⟩, by dsimp only; omega⟩
    · show M20.1 o j = _
      rw [e20, setI_n _ _ _ _ (by omega)]; exact f4 o j z1 z2
    · show M20.1 224 lc = _
      rw [e20, setI_n _ _ _ _ (by omega)]; exact f5
    · show M20.1 225 _ = _
      rw [e20]
      by_cases e : j = i
      · subst e; rw [setI_s]
      · rw [setI_n _ _ _ _ (by omega)]; exact f6 j (by omega)
theorem r_layer (hS : StrM M.2.2.1) (hd : rD M.1 S) (hok : dsOk S) (h1 : 1 ≤ c) (hc : c ≤ 8) (hg : ∀ j, j < c → M.1 237 j = g j) (h0 : ¬ lC S c g → Q 0 M) (hq : lC S c g → ∀ M' : Mm, M'.2 = M.2 → (∀ o j, ¬ dLow o j → M'.1 o j = M.1 o j) → rD M'.1 (lS S c g) → Q 1 M') : P_X12_layer 221 c M Q := by
  obtain ⟨lc, el⟩ := toN (x := S 0 0) hok.1.1
  have tm : Int.tmod (c : Int) 2 = ((c % 2 : Nat) : Int) := by rw [Int.tmod_eq_emod_of_nonneg (by omega)]; rfl
  have td : Int.tdiv (c : Int) 2 = ((c / 2 : Nat) : Int) := by rw [Int.tdiv_eq_ediv_of_nonneg (by omega)]; rfl
  have v0 : M.1 223 0 = lc := by rw [hd.1]; exact el
  have r22 := hS.2.2.2.2.2.2.2.2.2.2.2.2.2.2.2.1
  unfold P_X12_layer
  refine ⟨fun z => by omega, fun _ => ⟨fun z => r_l29_0 (by omega) (by decide) (h0 (fun y => z (by rw [tm, y.2.2.1]; rfl))), fun z => ?_⟩⟩
  have hc2 : c % 2 = 0 := by rw [tm] at z; omega
  rintro _ rfl
  refine goA hS.2.1 (by decide) (by decide) ?_
  rw [show ((0 : Int)).toNat = 0 from rfl, v0]
  refine ⟨fun z8 => r_l29_0 (by omega) (by decide) (h0 (fun y => by have := y.1; omega)), fun z8 => ?_⟩
  unfold P_X12_layer_29
  refine lp_i (fun y : Int × Int => ∃ k : Nat, y.2 = 2 * k ∧ 2 * k ≤ c ∧ ((y.1 = 1 ∧ ∀ m, m < k → (1 ≤ g (2 * m) ∧ g (2 * m) ≤ 100) ∧ 1 ≤ g (2 * m + 1) ∧ g (2 * m + 1) ≤ 200) ∨ (y.1 = 0 ∧ ¬ lC S c g))) (fun y => (10 - y.2).toNat) ⟨0, rfl, by omega, Or.inl ⟨rfl, fun m hm => by omega⟩⟩ ?_
  rintro ⟨x2, x3⟩ ⟨k, f1, f2, f3⟩
  dsimp only at f1 f3
  subst f1
  show F_X12_layer_29 221 c M Q _ x2 (2 * (k : Int))
  unfold F_X12_layer_29
  refine ⟨fun hle => ⟨fun hne => ?_, fun he => ?_⟩, fun hlt => ?_⟩
  · have f3 : ∀ m, m < k → (1 ≤ g (2 * m) ∧ g (2 * m) ≤ 100) ∧ 1 ≤ g (2 * m + 1) ∧ g (2 * m + 1) ≤ 200 := by
      rcases f3 with f3 | f3
      · exact f3.2
      · exact absurd f3.1 hne
    have hC : lC S c g := ⟨by omega, by omega, hc2, fun m hm => f3 m (by omega)⟩
    rintro _ rfl
    refine goA hS.2.1 (by decide) (by decide) ?_
    rw [show ((0 : Int)).toNat = 0 from rfl, v0]
    rintro _ rfl
    rintro _ rfl
    refine goA hS.2.2.1 (by decide) ⟨by omega, by rw [show (SH 224).2 = 16 by decide]; omega⟩ ?_
    rw [show ((lc : Int)).toNat = lc by omega, td]
    rintro _ rfl
    exact r_layer_put hS hd hok hC.1 hc hc2 hg el (hq hC)
  · rcases f3 with f3 | f3
    · omega
    · exact h0 f3.2
  · have hk : 2 * k + 1 < c := by omega
    have nx : ∀ r v : Int, v = 2 * (k : Int) + 2 → ((r = 1 ∧ ∀ m, m < k + 1 → (1 ≤ g (2 * m) ∧ g (2 * m) ≤ 100) ∧ 1 ≤ g (2 * m + 1) ∧ g (2 * m + 1) ≤ 200) ∨ (r = 0 ∧ ¬ lC S c g)) → (∃ k : Nat, v = 2 * k ∧ 2 * k ≤ c ∧ ((r = 1 ∧ ∀ m, m < k → (1 ≤ g (2 * m) ∧ g (2 * m) ≤ 100) ∧ 1 ≤ g (2 * m + 1) ∧ g (2 * m + 1) ≤ 200) ∨ (r = 0 ∧ ¬ lC S c g))) ∧ (10 - v).toNat < (10 - 2 * (k : Int)).toNat := fun r v ev hr => ⟨⟨k + 1, by omega, by omega, hr⟩, by omega⟩
    refine ⟨fun he => ⟨inI_s (by omega) (by omega), ?_⟩, fun hne => ?_⟩
    · intro v ev
      refine nx 0 v ev ?_
      rcases f3 with f3 | f3
      · omega
      · exact Or.inr ⟨rfl, f3.2⟩
    · have f3 : ∀ m, m < k → (1 ≤ g (2 * m) ∧ g (2 * m) ≤ 100) ∧ 1 ≤ g (2 * m + 1) ∧ g (2 * m + 1) ≤ 200 := by
        rcases f3 with f3 | f3
        · exact f3.2
        · exact absurd f3.1 hne
      rintro _ rfl
      refine goA r22 (by decide) ⟨by omega, by rw [show (SH 237).2 = 8 by decide]; omega⟩ ?_
      rw [show (2 * (k : Int)).toNat = 2 * k by omega, hg (2 * k) (by omega), p_in]
      refine ⟨fun z1 => ⟨inI_s (by omega) (by omega), ?_⟩, fun z1 => ?_⟩
      · intro v ev
        refine nx 0 v ev (Or.inr ⟨rfl, fun y => bi0.mp z1 (y.2.2.2 k (by omega)).1⟩)
      · rw [bi0] at z1
        have z1 := Classical.not_not.mp z1
        rintro _ rfl
        refine ⟨inI_s (by omega) (by omega), goA r22 (by decide) ⟨by omega, by rw [show (SH 237).2 = 8 by decide]; omega⟩ ?_⟩
        rw [show (2 * (k : Int) + 1).toNat = 2 * k + 1 by omega, hg (2 * k + 1) (by omega), p_in]
        refine ⟨fun z2 => ⟨inI_s (by omega) (by omega), ?_⟩, fun z2 => ⟨inI_s (by omega) (by omega), ?_⟩⟩
        · intro v ev
          refine nx 0 v ev (Or.inr ⟨rfl, fun y => bi0.mp z2 (y.2.2.2 k (by omega)).2⟩)
        · rw [bi0] at z2
          have z2 := Classical.not_not.mp z2
          intro v ev
          refine nx 1 v ev (Or.inl ⟨rfl, fun m hm => ?_⟩)
          by_cases e : m = k
          · subst e; exact ⟨z1, z2⟩
          · exact f3 m (by omega)
end RIT
