/-! the class takes lets in -/
section CLT
variable {M : Mm} {S : IFn} {c q : Nat} {g : Nat → Int} {Q : Int → Mm → Prop}
theorem c_layerAt {x : Int} {K : Option Nat → Prop} (hp : pl q) (hP : StrP M.2.2.1 q) (hn : 0 ≤ M.1 q 1 ∧ M.1 q 1 ≤ 8) (h1 : ∀ l : Nat, x = l → (l : Int) < M.1 q 1 → K (some (q + 3 + 4 * l))) (h2 : ¬ (0 ≤ x ∧ x < M.1 q 1) → K none) : P_X5_layerAt q x M K := by
  have hpl : q ≤ 87 ∧ 4 ≤ q := by rcases hp with rfl | rfl <;> omega
  unfold P_X5_layerAt
  refine ⟨inI_s (by omega) (by omega), ?_⟩
  rw [p_isWithin]
  refine ⟨fun h => h2 (by rw [bi0] at h; omega), fun h => ?_⟩
  rw [bi0] at h
  obtain ⟨l, rfl⟩ := toN (x := x) (by omega)
  have e := (sh_pl hp).2.1
  rintro _ rfl
  refine goA hP.1 ⟨by omega, by rw [e]⟩ ⟨by omega, by rw [e]; show (l : Int) < 8; omega⟩ ?_
  rintro _ rfl
  rw [show ((l : Int)).toNat = l by omega, (hP.2.2.1 l (by omega)).1]
  exact h1 l rfl (by omega)
theorem c_takeLets (hp : pl q) (hP : StrP M.2.2.1 q) (hd : cD M.1 M.2.2.1 q S) (hok : dsOk S) (hg : ∀ j, j < 5 → M.1 3 j = g j) (hgp : ∀ j, j < 5 → 0 ≤ g j) (h0 : ¬ tC S 5 g → Q 0 M) (hq : tC S 5 g → ∀ M' : Mm, M'.2 = M.2 → (∀ o j, ¬ (q ≤ o ∧ o < q + 83) → M'.1 o j = M.1 o j) → cD M'.1 M'.2.2.1 q (tS S g) → Q 1 M') : P_X5_layerAt q (M.1 3 ((0 : Int)).toNat) M (fun r18 => P_X5_takeLets q r18 (some 3) M Q) := by
  have hpl : q ≤ 87 ∧ 4 ≤ q := by rcases hp with rfl | rfl <;> omega
  have hl8 := hok.1
  have g0 := hgp 0 (by decide)
  rw [show ((0 : Int)).toNat = 0 from rfl, hg 0 (by decide)]
  refine c_layerAt hp hP (by rw [hd.1]; exact hok.1) (fun l el hl => ?_) (fun z => ⟨fun _ y => (by cases y), fun _ => h0 (fun y => z ⟨g0, by rw [hd.1]; exact y.2.1⟩)⟩)
  rw [hd.1] at hl
  have hl8' : l < 8 := by omega
  have tl : (g 0).toNat = l := by omega
  obtain ⟨s1, s2, s3, s4⟩ := sh_L hp hl8'
  have r3 := (hP.2.2.1 l hl8').2.2.2
  refine ⟨fun _ _ => ?_, fun y => by cases y⟩
  unfold P_X5_takeLets_8
  refine lp_i (fun y : Int => ∃ k : Nat, y = k ∧ k ≤ 4 ∧ ∀ t, t < k → g (1 + t) ≤ 300) (fun y => (4 - y).toNat) ⟨0, rfl, by omega, fun t ht => by omega⟩ ?_
  rintro y ⟨k, f1, f2, f3⟩
  subst f1
  show F_X5_takeLets_8 (some (q + 3 + 4 * l)) (some 3) M Q _ (k : Int)
  unfold F_X5_takeLets_8
  refine ⟨fun hle => ?_, fun hlt => ⟨inI_s (by omega) (by omega), goA rfl (by decide) ⟨by omega, by rw [show (SH 3).2 = 8 by decide]; omega⟩ ?_⟩⟩
  · have hk : k = 4 := by omega
    subst hk
    have hC : tC S 5 g := ⟨rfl, by omega, f3⟩
    unfold P_X5_takeLets_38
    refine lp_i (fun y : Int × Mm => ∃ k : Nat, y.1 = k ∧ k ≤ 4 ∧ y.2.2 = M.2 ∧ (∀ o j, o ≠ q + 6 + 4 * l → y.2.1 o j = M.1 o j) ∧ ∀ t, t < k → y.2.1 (q + 6 + 4 * l) t = g (1 + t)) (fun y => (4 - y.1).toNat) ⟨0, rfl, by omega, rfl, fun _ _ _ => rfl, fun t ht => by omega⟩ ?_
    rintro ⟨x3, M1⟩ ⟨k, g1, g2, g3, g4, g5⟩
    dsimp only at g1 g3 g4 g5
    subst g1
    show F_X5_takeLets_38 (some (q + 3 + 4 * l)) (some 3) Q _ (k : Int) M1
    unfold F_X5_takeLets_38
    refine ⟨fun hle => ?_, fun hlt => ?_⟩
    · have hk : k = 4 := by omega
      subst hk
      obtain ⟨d1, d2, d3, d4⟩ := hd
      refine hq hC M1 g3 (fun o j z => g4 o j (by omega)) ⟨?_, ?_, fun m hm => ?_, fun s hs => ?_⟩
      · rw [g4 _ _ (by omega), tS_o (by decide)]; exact d1
      · rw [g4 _ _ (by omega), tS_o (by decide)]; exact d2
      · rw [tS_o (by decide)] at hm
        obtain ⟨b1, b2, b3⟩ := d3 m hm
        refine ⟨by rw [g4 _ _ (by omega), tS_o (by decide)]; exact b1, fun j hj => ?_, fun t ht => ?_⟩
        · rw [tS_o (by decide)] at hj
          rw [g4 _ _ (by omega), g4 _ _ (by omega), tS_o (by decide), tS_o (by decide)]; exact b2 j hj
        · rw [tS_3, tl]
          by_cases e : m = l
          · subst e
            rw [if_pos (by omega), show 4 * m + t - 4 * m = t by omega]; exact g5 t ht
          · rw [if_neg (by omega), g4 _ _ (by omega)]; exact b3 t ht
      · rw [tS_o (by decide)] at hs
        obtain ⟨b1, b2, b3, b4⟩ := d4 s hs
        refine ⟨fun k hk => ?_, ?_, ?_, fun i hi => ?_⟩
        · rw [g4 _ _ (by omega), tS_o (by decide)]; exact b1 k hk
        · rw [g4 _ _ (by omega)]; exact b2
        · rw [g4 _ _ (by omega), tS_o (by decide)]; exact b3
        · rw [tS_o (by decide)] at hi
          rw [g3, g4 _ _ (by omega), g4 _ _ (by omega), g4 _ _ (by omega), tS_o (by decide), tS_o (by decide), tS_o (by decide)]; exact b4 i hi
    · refine goO rfl ⟨by omega, by rw [s1]⟩ ?_
      rintro _ rfl
      refine ⟨inI_s (by omega) (by omega), goA rfl (by decide) ⟨by omega, by rw [show (SH 3).2 = 8 by decide]; omega⟩ ?_⟩
      refine goA (k := q + 6 + 4 * l) (by rw [g3]; exact r3) ⟨by omega, by rw [s4]⟩ ⟨by omega, by rw [s4]; show (k : Int) < 4; omega⟩ ?_
      rw [show ((k : Int)).toNat = k by omega, show (1 + (k : Int)).toNat = 1 + k by omega, g4 3 _ (by omega), hg (1 + k) (by omega)]
      intro M8 e8
      refine ⟨inI_s (by omega) (by omega), ?_⟩
      intro v ev
      refine ⟨⟨k + 1, by dsimp only; omega, by omega, by rw [e8]; exact g3, fun o j z => ?_, fun t ht => ?_⟩, by dsimp only; omega⟩
      · show M8.1 o j = _
        rw [e8, setI_o _ _ _ _ z]; exact g4 o j z
      · show M8.1 _ t = _
        rw [e8]
        by_cases e : t = k
        · subst e; rw [setI_s]
        · rw [setI_n _ _ _ _ (by omega)]; exact g5 t (by omega)
  · have gk := hgp (1 + k) (by omega)
    rw [show (1 + (k : Int)).toNat = 1 + k by omega, hg (1 + k) (by omega), p_isWithin]
    refine ⟨fun z => ⟨inI_s (by omega) (by omega), ?_⟩, fun z => h0 (fun y => bi0.mp z ⟨gk, y.2.2 k (by omega)⟩)⟩
    rw [bi0] at z
    intro v ev
    refine ⟨⟨k + 1, by omega, by omega, fun t ht => ?_⟩, by omega⟩
    by_cases e : t = k
    · subst e; omega
    · exact f3 t (by omega)
end CLT
