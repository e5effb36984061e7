/-! the class takes a patch item in -/
section CP2
variable {M : Mm} {S : IFn} {c q : Nat} {g : Nat → Int} {Q : Int → Mm → Prop}
theorem c_patchItem (hp : pl q) (hP : StrP M.2.2.1 q) (hd : cD M.1 M.2.2.1 q S) (hok : dsOk S) (hg : ∀ j, j < 3 → M.1 3 j = g j) (hgp : ∀ j, j < 3 → 0 ≤ g j) (h0 : ¬ pC S 3 g → Q 0 M) (hq : pC S 3 g → ∀ M' : Mm, M'.2.1 = M.2.1 → M'.2.2.2 = M.2.2.2 → rFr M.2.2.1 M'.2.2.1 q → (∀ o j, ¬ (q ≤ o ∧ o < q + 83) → M'.1 o j = M.1 o j) → cD M'.1 M'.2.2.1 q (pS S g) → Q 1 M') : P_X5_seatAt q (M.1 q 3 - 1) M (fun r6 => ∃ o7 : Nat, isA 14 (some 3) o7 0 ∧ P_X5_layerAt q (M.1 o7 (0 : Int).toNat) M (fun r9 => P_X5_takePatch q r6 r9 (some 3) M Q)) := by
  have hpl : q ≤ 87 ∧ 4 ≤ q := by rcases hp with rfl | rfl <;> omega
  obtain ⟨sc, es⟩ := toN (x := S 0 1) hok.2.1.1
  have hs6 := hok.2.1.2
  have hl8 := hok.1
  have v0 : M.1 q 3 = sc := by rw [hd.2.1]; exact es
  have g0 := hgp 0 (by decide)
  have g1 := hgp 1 (by decide)
  have hlay : ∀ r6 (l1 : ∀ l : Nat, g 0 = l → (l : Int) < S 0 0 → P_X5_takePatch q r6 (some (q + 3 + 4 * l)) (some 3) M Q) (l2 : ¬ g 0 < S 0 0 → P_X5_takePatch q r6 none (some 3) M Q), ∃ o7 : Nat, isA 14 (some 3) o7 0 ∧ P_X5_layerAt q (M.1 o7 (0 : Int).toNat) M (fun r9 => P_X5_takePatch q r6 r9 (some 3) M Q) := by
    intro r6 l1 l2
    refine goA rfl (by decide) (by decide) ?_
    rw [show ((0 : Int)).toNat = 0 from rfl, hg 0 (by decide)]
    exact c_layerAt hp hP (by rw [hd.1]; exact hok.1) (fun l e h => l1 l e (by rw [← hd.1]; exact h)) (fun z => l2 (fun y => z ⟨g0, by rw [hd.1]; exact y⟩))
  refine c_seatAt hp hP (by omega) (fun s e1 hs => ?_) (fun z => ?_)
  · have hsc : sc = s + 1 := by omega
    subst hsc
    have tm : (S 0 1).toNat - 1 = s := by omega
    obtain ⟨d1, d2, d3, d4⟩ := id hd
    obtain ⟨k1, k2, k3⟩ := hok.2.2.2 s (by omega)
    obtain ⟨n, en⟩ := toN (x := S 5 s) k2.1
    have w9 : M.1 (q + 35 + 8 * s) 6 = n := by rw [(d4 s (by omega)).2.2.1]; exact en
    have hC' : pC S 3 g ↔ (n < 6 ∧ g 0 < S 0 0 ∧ g 1 ≤ 200 ∧ 1 ≤ g 2 ∧ g 2 ≤ 400) := by
      show (3 = 3 ∧ 0 < S 0 1 ∧ S 5 ((S 0 1).toNat - 1) < 6 ∧ g 0 < S 0 0 ∧ g 1 ≤ 200 ∧ 1 ≤ g 2 ∧ g 2 ≤ 400) ↔ _
      rw [tm]; omega
    rw [hC'] at h0 hq
    refine hlay _ (fun l el hl => ⟨fun y => (by cases y), fun _ _ => ⟨fun y => (by cases y), fun _ _ => ?_⟩⟩) (fun hl => ⟨fun y => (by cases y), fun _ _ => ⟨fun _ => h0 (fun y => hl y.2.1), fun _ y => (by cases y)⟩⟩)
    refine goA rfl (by decide) (by decide) ?_
    rw [show ((1 : Int)).toNat = 1 from rfl, hg 1 (by decide), p_isWithin]
    refine ⟨fun y => h0 (fun w => bi0.mp y ⟨g1, w.2.2.1⟩), fun y1 => goA rfl (by decide) (by decide) ?_⟩
    rw [show ((2 : Int)).toNat = 2 from rfl, hg 2 (by decide), p_isWithin]
    refine ⟨fun y2 => ?_, fun y => h0 (fun w => bi0.mp y w.2.2.2)⟩
    rw [bi0] at y1 y2
    refine goA rfl (by decide) (by decide) (goA rfl (by decide) (by decide) (goO rfl ⟨by omega, by rw [(sh_S hp (show s < 6 by omega)).1]⟩ ?_))
    rw [hg 1 (by decide), hg 2 (by decide)]
    refine c_addPatch (n := n) hp hP (by omega) (by omega) w9 (fun z => ⟨Or.inl rfl, h0 (by omega)⟩) (fun hn M' m1 m2 m3 m4 m5 m6 m7 m8 m9 => ⟨Or.inr rfl, ?_⟩)
    refine hq ⟨hn, by omega, by omega, by omega⟩ M' m1 m2 (fun o j z => m4 o j (fun y => z ⟨by omega, by omega, by omega, y.2⟩)) (fun o j z => m3 o j (by omega) (by omega)) ⟨?_, ?_, fun m hm => ?_, fun t ht => ?_⟩
    · rw [m3 _ _ (by omega) (by omega), pS_o (by decide)]; exact d1
    · rw [m3 _ _ (by omega) (by omega), pS_o (by decide)]; exact d2
    · rw [pS_o (by decide)] at hm
      obtain ⟨b1, b2, b3⟩ := d3 m hm
      refine ⟨by rw [m3 _ _ (by omega) (by omega), pS_o (by decide)]; exact b1, fun j hj => ?_, fun u hu => ?_⟩
      · rw [pS_o (by decide)] at hj
        rw [m3 _ _ (by omega) (by omega), m3 _ _ (by omega) (by omega), pS_o (by decide), pS_o (by decide)]; exact b2 j hj
      · rw [m3 _ _ (by omega) (by omega), pS_o (by decide)]; exact b3 u hu
    · rw [pS_o (by decide)] at ht
      obtain ⟨b1, b2, b3, b4⟩ := d4 t ht
      have k5 := (hok.2.2.2 t ht).2.1
      refine ⟨fun k hk => by rw [m3 _ _ (by omega) (by omega), pS_o (by decide)]; exact b1 k hk, by rw [m3 _ _ (by omega) (by omega)]; exact b2, ?_, fun i hi => ?_⟩
      · rw [pS_5, tm]
        by_cases e : t = s
        · subst e; rw [if_pos rfl, m9, en]
        · rw [if_neg e, m3 _ _ (by omega) (by omega)]; exact b3
      · rw [pS_5, tm] at hi
        rw [pS_6, pS_6, pS_6, tm, en, show ((n : Int)).toNat = n by omega]
        by_cases e : t = s
        · subst e
          rw [if_pos rfl, en] at hi
          by_cases e2 : i = n
          · subst e2
            rw [if_pos (by omega), if_pos (by omega), if_pos (by omega), show 18 * t + 3 * i - (18 * t + 3 * i) = 0 by omega, show 18 * t + 3 * i + 1 - (18 * t + 3 * i) = 1 by omega, show 18 * t + 3 * i + 2 - (18 * t + 3 * i) = 2 by omega, show (g 0).toNat = l by omega]
            exact ⟨m5, m6, m7, m8⟩
          · rw [if_neg (by omega), if_neg (by omega), if_neg (by omega), m4 _ _ (by omega), m3 _ _ (by omega) (by omega), m3 _ _ (by omega) (by omega), m3 _ _ (by omega) (by omega)]
            exact b4 i (by omega)
        · rw [if_neg e] at hi
          rw [if_neg (by omega), if_neg (by omega), if_neg (by omega), m4 _ _ (by omega), m3 _ _ (by omega) (by omega), m3 _ _ (by omega) (by omega), m3 _ _ (by omega) (by omega)]
          exact b4 i hi
  · have no : Q 0 M := h0 (fun y => z (by have := y.2.1; omega))
    exact hlay _ (fun l el hl => ⟨fun _ => no, fun _ y => (by cases y)⟩) (fun hl => ⟨fun _ => no, fun _ y => (by cases y)⟩)
end CP2
