/-! the reference takes items in: patches; no numbers -/
section RI3
variable {M : Mm} {S : IFn} {c : Nat} {g : Nat → Int} {Q : Int → Mm → Prop}
theorem r_patch (hS : StrM M.2.2.1) (hd : rD M.1 S) (hok : dsOk S) (hc : c ≤ 8) (hg : ∀ j, j < c → M.1 237 j = g j) (hp : ∀ j, j < c → 0 ≤ g j) (h0 : ¬ pC S c g → Q 0 M) (hq : pC S c g → ∀ M' : Mm, M'.2 = M.2 → (∀ o j, ¬ dLow o j → M'.1 o j = M.1 o j) → rD M'.1 (pS S g) → Q 1 M') : P_X12_patch 221 c M Q := by
  obtain ⟨lc, el⟩ := toN (x := S 0 0) hok.1.1
  obtain ⟨sc, es⟩ := toN (x := S 0 1) hok.2.1.1
  have ts : (S 0 1).toNat = sc := by omega
  have hs6 := hok.2.1.2
  have hl8 := hok.1.2
  have v0 : M.1 223 0 = lc := by rw [hd.1]; exact el
  have u0 : M.1 227 0 = sc := by rw [hd.2.1]; exact es
  have r22 := hS.2.2.2.2.2.2.2.2.2.2.2.2.2.2.2.1
  have r8 := hS.2.2.2.2.2.2.2.1
  unfold P_X12_patch
  rintro _ rfl
  refine goA hS.2.2.2.2.2.1 (by decide) (by decide) ?_
  rw [show ((0 : Int)).toNat = 0 from rfl, u0]
  refine ⟨inI_s (by omega) (by omega), ?_⟩
  intro v23 e23
  refine ⟨fun z => h0 (fun y => z (by have := y.1; omega)), fun z => ⟨fun zn => h0 (fun y => by have := y.2.1; omega), fun zn => ?_⟩⟩
  have hc3 : c = 3 := by omega
  subst hc3
  obtain ⟨s, hs⟩ : ∃ s : Nat, sc = s + 1 := ⟨sc - 1, by omega⟩
  subst hs
  have e23' : v23 = (s : Int) := by omega
  subst e23'
  have tm : (S 0 1).toNat - 1 = s := by omega
  obtain ⟨k1, k2, k3⟩ := hok.2.2.2 s (by omega)
  obtain ⟨n, en⟩ := toN (x := S 5 s) k2.1
  have w9 : M.1 229 s = n := by rw [((hd.2.2.2) s (by omega)).2.1]; exact en
  have p0 := hp 0 (by decide)
  have p1 := hp 1 (by decide)
  have hC' : pC S 3 g ↔ (n < 6 ∧ g 0 < lc ∧ g 1 ≤ 200 ∧ 1 ≤ g 2 ∧ g 2 ≤ 400) := by
    show (3 = 3 ∧ 0 < S 0 1 ∧ S 5 ((S 0 1).toNat - 1) < 6 ∧ g 0 < S 0 0 ∧ g 1 ≤ 200 ∧ 1 ≤ g 2 ∧ g 2 ≤ 400) ↔ _
    rw [tm]; omega
  rw [hC'] at h0 hq
  rintro _ rfl
  refine goA r8 (by decide) ⟨by omega, by rw [show (SH 229).2 = 12 by decide]; omega⟩ ?_
  rw [show ((s : Int)).toNat = s by omega, w9]
  refine ⟨fun y => h0 (by omega), fun y6 => ?_⟩
  rintro _ rfl
  refine goA r22 (by decide) (by decide) ?_
  rintro _ rfl
  refine goA hS.2.1 (by decide) (by decide) ?_
  rw [v0, hg 0 (by decide)]
  refine ⟨fun y => h0 (by omega), fun y0 => ?_⟩
  rintro _ rfl
  refine goA r22 (by decide) (by decide) ?_
  rw [show ((1 : Int)).toNat = 1 from rfl, hg 1 (by decide)]
  refine ⟨fun y => h0 (by omega), fun y1 => ?_⟩
  rintro _ rfl
  refine goA r22 (by decide) (by decide) ?_
  rw [show ((2 : Int)).toNat = 2 from rfl, hg 2 (by decide), p_in]
  refine ⟨fun y2 => ?_, fun y => h0 (fun w => bi0.mp y w.2.2.2)⟩
  rw [bi0] at y2
  have hC : n < 6 ∧ g 0 < lc ∧ g 1 ≤ 200 ∧ 1 ≤ g 2 ∧ g 2 ≤ 400 := by omega
  unfold P_X12_patch_77
  refine lp_i (fun y : Int × Mm => ∃ k : Nat, y.1 = k ∧ k ≤ 3 ∧ y.2.2 = M.2 ∧ (∀ o j, ¬ (o = 230 ∧ 18 * s + 3 * n ≤ j ∧ j < 18 * s + 3 * n + 3) → y.2.1 o j = M.1 o j) ∧ ∀ t, t < k → y.2.1 230 (18 * s + 3 * n + t) = g t) (fun y => (3 - y.1).toNat) ⟨0, rfl, by omega, rfl, fun _ _ _ => rfl, fun t ht => by omega⟩ ?_
  rintro ⟨x3, M1⟩ ⟨k, g1, g2, g3, g4, g5⟩
  dsimp only at g1 g3 g4 g5
  subst g1
  show F_X12_patch_77 221 s Q _ (k : Int) M1
  have w1 : M1.1 229 s = n := by rw [g4 _ _ (by omega)]; exact w9
  have r8' : M1.2.2.1 221 8 = some 229 := by rw [g3]; exact r8
  unfold F_X12_patch_77
  refine ⟨fun hle => ?_, fun hlt => ?_⟩
  · have hk : k = 3 := by omega
    subst hk
    rintro _ rfl
    refine goA r8' (by decide) ⟨by omega, by rw [show (SH 229).2 = 12 by decide]; omega⟩ ?_
    rw [show ((s : Int)).toNat = s by omega, w1]
    refine ⟨inI_s (by omega) (by omega), goA r8' (by decide) ⟨by omega, by rw [show (SH 229).2 = 12 by decide]; omega⟩ ?_⟩
    intro M6 e6
    have w2 : ∀ o j, ¬ (o = 229 ∧ j = s) → ¬ (o = 230 ∧ 18 * s + 3 * n ≤ j ∧ j < 18 * s + 3 * n + 3) → M6.1 o j = M.1 o j := fun o j z1 z2 => by rw [e6, setI_n _ _ _ _ z1]; exact g4 o j z2
    obtain ⟨d1, d2, d3, d4⟩ := hd
    refine hq hC M6 (by rw [e6]; exact g3) (fun o j z => w2 o j (fun y => z (Or.inr (Or.inr (Or.inr (Or.inr (Or.inr (Or.inr (Or.inl ⟨y.1, by omega⟩)))))))) (fun y => z (Or.inr (Or.inr (Or.inr (Or.inr (Or.inr (Or.inr (Or.inr ⟨y.1, by omega⟩))))))))) ⟨?_, ?_, fun m hm => ?_, fun t ht => ?_⟩
    · rw [w2 _ _ (by omega) (by omega), pS_o (by decide)]; exact d1
    · rw [w2 _ _ (by omega) (by omega), pS_o (by decide)]; exact d2
    · rw [pS_o (by decide)] at hm
      obtain ⟨b1, b2, b3⟩ := d3 m hm
      refine ⟨by rw [w2 _ _ (by omega) (by omega), pS_o (by decide)]; exact b1, fun j hj => ?_, fun t ht => ?_⟩
      · rw [pS_o (by decide)] at hj
        rw [w2 _ _ (by omega) (by omega), pS_o (by decide)]; exact b2 j hj
      · rw [w2 _ _ (by omega) (by omega), pS_o (by decide)]; exact b3 t ht
    · rw [pS_o (by decide)] at ht
      obtain ⟨b1, b2, b3⟩ := d4 t ht
      have k5 := (hok.2.2.2 t ht).2.1
      refine ⟨fun k hk => by rw [w2 _ _ (by omega) (by omega), pS_o (by decide)]; exact b1 k hk, ?_, fun j hj => ?_⟩
      · rw [pS_5, tm]
        by_cases e : t = s
        · subst e; rw [if_pos rfl, e6, setI_s, en]
        · rw [if_neg e, w2 _ _ (by omega) (by omega)]; exact b2
      · rw [pS_5, tm] at hj
        rw [pS_6, tm, en, show ((n : Int)).toNat = n by omega]
        by_cases e : t = s
        · subst e
          rw [if_pos rfl, en] at hj
          by_cases e2 : 18 * t + 3 * n ≤ 18 * t + j
          · rw [if_pos e2, e6, setI_n _ _ _ _ (by omega)]
            have := g5 (j - 3 * n) (by omega)
            rw [show 18 * t + 3 * n + (j - 3 * n) = 18 * t + j by omega] at this
            rw [this, show 18 * t + j - (18 * t + 3 * n) = j - 3 * n by omega]
          · rw [if_neg e2, w2 _ _ (by omega) (by omega)]; exact b3 j (by omega)
        · rw [if_neg e] at hj
          rw [if_neg (by omega), w2 _ _ (by omega) (by omega)]; exact b3 j hj
  · have n0 : M1.1 237 k = g k := by rw [g4 _ _ (by omega)]; exact hg k (by omega)
    rintro _ rfl
    refine ⟨inI_s (by omega) (by omega), ?_⟩
    rintro _ rfl
    refine goA r8' (by decide) ⟨by omega, by rw [show (SH 229).2 = 12 by decide]; omega⟩ ?_
    rw [show ((s : Int)).toNat = s by omega, w1]
    refine ⟨inI_s (by omega) (by omega), inI_s (by omega) (by omega), inI_s (by omega) (by omega), ?_⟩
    rintro _ rfl
    refine goA (k := 237) (by rw [g3]; exact r22) (by decide) ⟨by omega, by rw [show (SH 237).2 = 8 by decide]; omega⟩ ?_
    refine goA (k := 230) (by rw [g3]; exact hS.2.2.2.2.2.2.2.2.1) (by decide) ⟨by omega, by rw [show (SH 230).2 = 216 by decide]; omega⟩ ?_
    rw [show (18 * (s : Int) + 3 * (n : Int) + k).toNat = 18 * s + 3 * n + k by omega, show ((k : Int)).toNat = k by omega, n0]
    intro M17 e17
    refine ⟨inI_s (by omega) (by omega), ?_⟩
    intro v ev
    refine ⟨⟨k + 1, by dsimp only; omega, by omega, by rw [e17]; exact g3, fun o j z => ?_, fun t ht => ?_⟩, by dsimp only; omega⟩
    · show M17.1 o j = _
      rw [e17, setI_n _ _ _ _ (by omega)]; exact g4 o j z
    · show M17.1 230 _ = _
      rw [e17]
      by_cases e : t = k
      · subst e; rw [setI_s]
      · rw [setI_n _ _ _ _ (by omega)]; exact g5 t (by omega)
theorem r_neg (hS : StrM M.2.2.1) (hd : rD M.1 S) (hok : dsOk S) (hq : Q 0 M) : P_X12_layer 221 (-4) M Q ∧ P_X12_letting 221 (-4) M Q ∧ P_X12_seat 221 (-4) M Q ∧ P_X12_patch 221 (-4) M Q := by
  have hs6 := hok.2.1
  refine ⟨⟨fun _ => r_l29_0 (by decide) (by decide) hq, fun z => absurd (by decide) z⟩, ⟨fun _ => hq, fun z => absurd z (by decide)⟩, ⟨fun _ => hq, fun z => absurd z (by decide)⟩, ?_⟩
  unfold P_X12_patch
  rintro _ rfl
  refine goA hS.2.2.2.2.2.1 (by decide) (by decide) ?_
  rw [show ((0 : Int)).toNat = 0 from rfl, hd.2.1]
  refine ⟨inI_s (by omega) (by omega), ?_⟩
  intro v23 e23
  exact ⟨fun _ => hq, fun z => absurd z (by decide)⟩
end RI3
