/-! the class takes a seat in -/
section CST
variable {M : Mm} {S : IFn} {c q : Nat} {g : Nat → Int} {Q : Int → Mm → Prop}
theorem c_takeSeat (hp : pl q) (hP : StrP M.2.2.1 q) (hd : cD M.1 M.2.2.1 q S) (hok : dsOk S) (hg : ∀ j, j < 4 → M.1 3 j = g j) (h0 : ¬ sC S 4 g → Q 0 M) (hq : sC S 4 g → ∀ M' : Mm, M'.2 = M.2 → (∀ o j, ¬ (q ≤ o ∧ o < q + 83) → M'.1 o j = M.1 o j) → cD M'.1 M'.2.2.1 q (sS S g) → Q 1 M') : P_X5_takeSeat q (some 3) M Q := by
  have hpl : q ≤ 87 ∧ 4 ≤ q := by rcases hp with rfl | rfl <;> omega
  obtain ⟨sc, es⟩ := toN (x := S 0 1) hok.2.1.1
  have ts : (S 0 1).toNat = sc := by omega
  have hs6 := hok.2.1.2
  have v0 : M.1 q 3 = sc := by rw [hd.2.1]; exact es
  have z8 : (SH 3).2 = 8 := by decide
  unfold P_X5_takeSeat
  rw [v0]
  refine ⟨fun z => h0 (fun y => by have := y.2.1; omega), fun z6 => goA rfl (by decide) (by decide) ?_⟩
  rw [show ((0 : Int)).toNat = 0 from rfl, hg 0 (by decide), p_isWithin]
  refine ⟨fun y => h0 (fun w => bi0.mp y ⟨w.2.2.1, w.2.2.2.1⟩), fun y0 => goA rfl (by decide) (by decide) ?_⟩
  rw [show ((1 : Int)).toNat = 1 from rfl, hg 1 (by decide), p_isWithin]
  refine ⟨fun y => h0 (fun w => bi0.mp y ⟨w.2.2.2.2.1, w.2.2.2.2.2.1⟩), fun y1 => goA rfl (by decide) (by decide) ?_⟩
  rw [show ((2 : Int)).toNat = 2 from rfl, hg 2 (by decide), p_isWithin]
  refine ⟨fun y => h0 (fun w => bi0.mp y ⟨w.2.2.2.2.2.2.1, w.2.2.2.2.2.2.2.1⟩), fun y2 => goA rfl (by decide) (by decide) ?_⟩
  rw [show ((3 : Int)).toNat = 3 from rfl, hg 3 (by decide), p_isWithin]
  refine ⟨fun y3 => ?_, fun y => h0 (fun w => bi0.mp y ⟨w.2.2.2.2.2.2.2.2.1, w.2.2.2.2.2.2.2.2.2⟩)⟩
  rw [bi0] at y0 y1 y2 y3
  have hC : sC S 4 g := ⟨rfl, by omega, by unfold SEAr; omega⟩
  have hsc : sc < 6 := by omega
  have e2 := (sh_pl hp).2.2
  rintro _ rfl
  refine goA hP.2.1 ⟨by omega, by rw [e2]⟩ ⟨by omega, by rw [e2]; show (sc : Int) < 6; omega⟩ ?_
  rintro _ rfl
  refine goO (k := q + 35 + 8 * sc) (by rw [show ((sc : Int)).toNat = sc by omega]; exact (hP.2.2.2 sc hsc).1) ⟨by omega, by rw [(sh_S hp hsc).1]⟩ ?_
  unfold P_X8_begin
  refine goO rfl (by decide) ⟨fun _ => ?_, fun z => absurd (by rw [z8]; decide) z⟩
  obtain ⟨o, ho⟩ : ∃ o, o = q + 35 + 8 * sc := ⟨_, rfl⟩
  rw [← ho]
  refine goA rfl (by decide) (by decide) ?_
  rw [show ((0 : Int)).toNat = 0 from rfl, hg 0 (by decide)]
  intro M5 e5
  refine goA rfl (by decide) (by decide) ?_
  rw [show M5.1 3 ((1 : Int)).toNat = g 1 by rw [e5, setI_o _ _ _ _ (by omega)]; exact hg 1 (by decide)]
  intro M9 e9
  refine goA rfl (by decide) (by decide) ?_
  rw [show M9.1 3 ((2 : Int)).toNat = g 2 by rw [e9, setI_o _ _ _ _ (by omega), e5, setI_o _ _ _ _ (by omega)]; exact hg 2 (by decide)]
  intro M13 e13
  refine goA rfl (by decide) (by decide) ?_
  rw [show M13.1 3 ((3 : Int)).toNat = g 3 by rw [e13, setI_o _ _ _ _ (by omega), e9, setI_o _ _ _ _ (by omega), e5, setI_o _ _ _ _ (by omega)]; exact hg 3 (by decide)]
  intro M17 e17 M19 e19 M21 e21
  have k1 : M21.2 = M.2 := by rw [e21]; show M19.2 = _; rw [e19]; show M17.2 = _; rw [e17]; show M13.2 = _; rw [e13]; show M9.2 = _; rw [e9]; show M5.2 = _; rw [e5]
  have k2 : ∀ a j, a ≠ o → M21.1 a j = M.1 a j := fun a j z => by rw [e21, setI_o _ _ _ _ z, e19, setI_o _ _ _ _ z, e17, setI_o _ _ _ _ z, e13, setI_o _ _ _ _ z, e9, setI_o _ _ _ _ z, e5, setI_o _ _ _ _ z]
  have k3 : ∀ k, k < 4 → M21.1 o k = g k := by
    intro k hk
    rw [e21, setI_n _ _ _ _ (by omega), e19, setI_n _ _ _ _ (by omega), e17]
    by_cases c3 : k = 3
    · subst c3; rw [setI_s]
    · rw [setI_n _ _ _ _ (by omega), e13]
      by_cases c2 : k = 2
      · subst c2; rw [setI_s]
      · rw [setI_n _ _ _ _ (by omega), e9]
        by_cases c1 : k = 1
        · subst c1; rw [setI_s]
        · rw [setI_n _ _ _ _ (by omega), e5]
          have : k = 0 := by omega
          subst this; rw [setI_s]
  have k4 : M21.1 o 4 = 0 := by rw [e21, setI_n _ _ _ _ (by omega), e19, setI_s]
  have k6 : M21.1 o 6 = 0 := by rw [e21, setI_s]
  rw [show M21.1 q 3 = sc by rw [k2 _ _ (by omega)]; exact v0]
  refine ⟨inI_s (by omega) (by omega), ?_⟩
  intro M22 e22
  have w : ∀ a j, ¬ (a = q ∧ j = 3) → M22.1 a j = M21.1 a j := fun a j z => by rw [e22, setI_n _ _ _ _ z]
  have w2 : ∀ a j, ¬ (a = q ∧ j = 3) → a ≠ o → M22.1 a j = M.1 a j := fun a j z1 z2 => (w a j z1).trans (k2 a j z2)
  have w3 : M22.2 = M.2 := by rw [e22]; exact k1
  obtain ⟨d1, d2, d3, d4⟩ := hd
  refine hq hC M22 w3 (fun a j z => w2 a j (by omega) (by omega)) ⟨?_, ?_, fun m hm => ?_, fun s hs => ?_⟩
  · rw [w2 _ _ (by omega) (by omega), sS_o (by omega)]; exact d1
  · rw [e22, setI_s, sS_0, es]
  · rw [sS_o (by omega)] at hm
    have hm8 := hok.1.2
    obtain ⟨b1, b2, b3⟩ := d3 m hm
    refine ⟨by rw [w2 _ _ (by omega) (by omega), sS_o (by omega)]; exact b1, fun j hj => ?_, fun t ht => ?_⟩
    · rw [sS_o (by omega)] at hj
      rw [w2 _ _ (by omega) (by omega), w2 _ _ (by omega) (by omega), sS_o (by omega), sS_o (by omega)]; exact b2 j hj
    · rw [w2 _ _ (by omega) (by omega), sS_o (by omega)]; exact b3 t ht
  · rw [sS_0] at hs
    by_cases e : s = sc
    · subst e
      rw [← ho]
      refine ⟨fun k hk => ?_, by rw [w _ _ (by omega)]; exact k4, by rw [w _ _ (by omega), k6, sS_5, if_pos ts.symm], fun i hi => by rw [sS_5, if_pos ts.symm] at hi; omega⟩
      rw [w _ _ (by omega), k3 k hk, sS_4, ts, if_pos (by omega), show 4 * s + k - 4 * s = k by omega]
    · obtain ⟨b1, b2, b3, b4⟩ := d4 s (by omega)
      have hn6 := (hok.2.2.2 s (by omega)).2.1
      have q6 : ∀ j, sS S g 6 j = S 6 j := fun j => sS_o (by omega)
      refine ⟨fun k hk => ?_, by rw [w2 _ _ (by omega) (by omega)]; exact b2, by rw [w2 _ _ (by omega) (by omega), sS_5, ts, if_neg e]; exact b3, fun i hi => ?_⟩
      · rw [w2 _ _ (by omega) (by omega), sS_4, ts, if_neg (by omega)]; exact b1 k hk
      · rw [sS_5, ts, if_neg e] at hi
        rw [w3, w2 _ _ (by omega) (by omega), w2 _ _ (by omega) (by omega), w2 _ _ (by omega) (by omega), q6, q6, q6]; exact b4 i hi
end CST
