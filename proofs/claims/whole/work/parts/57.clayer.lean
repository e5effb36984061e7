/-! the class takes a layer in -/
section CLY
variable {M : Mm} {S : IFn} {c q : Nat} {g : Nat → Int} {Q : Int → Mm → Prop}
theorem c_takeLayer (hp : pl q) (hP : StrP M.2.2.1 q) (hd : cD M.1 M.2.2.1 q S) (hok : dsOk S) (h1 : 1 ≤ c) (hc : c ≤ 8) (hg : ∀ j, j < c → M.1 3 j = g j) (h0 : ¬ lC S c g → Q 0 M) (hq : lC S c g → ∀ M' : Mm, M'.2 = M.2 → (∀ o j, ¬ (q ≤ o ∧ o < q + 83) → M'.1 o j = M.1 o j) → cD M'.1 M'.2.2.1 q (lS S c g) → Q 1 M') : P_X5_takeLayer q (some 3) c M Q := by
  have hpl : q ≤ 87 ∧ 4 ≤ q := by rcases hp with rfl | rfl <;> omega
  obtain ⟨lc, el⟩ := toN (x := S 0 0) hok.1.1
  have hl8 := hok.1.2
  have tn : (S 0 0).toNat = lc := by omega
  have tm : Int.tmod (c : Int) 2 = ((c % 2 : Nat) : Int) := by rw [Int.tmod_eq_emod_of_nonneg (by omega)]; rfl
  have td : Int.tdiv (c : Int) 2 = ((c / 2 : Nat) : Int) := by rw [Int.tdiv_eq_ediv_of_nonneg (by omega)]; rfl
  have v0 : M.1 q 1 = lc := by rw [hd.1]; exact el
  unfold P_X5_takeLayer
  rw [v0]
  refine ⟨fun z => h0 (fun y => by have := y.1; omega), fun z8 => ⟨fun z => h0 (fun y => by have := y.2.1; omega), fun z2 => ⟨fun zt => ?_, fun z => h0 (fun y => z (by rw [tm, y.2.2.1]; rfl))⟩⟩⟩
  have hc2 : c % 2 = 0 := by rw [tm] at zt; omega
  unfold P_X5_takeLayer_24
  refine lp_i (fun y : Int => ∃ k : Nat, y = 2 * k ∧ 2 * k ≤ c ∧ ∀ m, m < k → (1 ≤ g (2 * m) ∧ g (2 * m) ≤ 100) ∧ 1 ≤ g (2 * m + 1) ∧ g (2 * m + 1) ≤ 200) (fun y => (10 - y).toNat) ⟨0, rfl, by omega, fun m hm => by omega⟩ ?_
  rintro y ⟨k, f1, f2, f3⟩
  subst f1
  show F_X5_takeLayer_24 q (some 3) c M Q _ (2 * (k : Int))
  unfold F_X5_takeLayer_24
  refine ⟨inI_s (by omega) (by omega), fun hle => ?_, fun hlt => ?_⟩
  · have hk : 2 * k = c := by omega
    have hC : lC S c g := ⟨by omega, by omega, hc2, fun m hm => f3 m (by omega)⟩
    have e1 := (sh_pl hp).2.1
    rw [v0, td]
    rintro _ rfl
    refine goA hP.1 ⟨by omega, by rw [e1]⟩ ⟨by omega, by rw [e1]; show (lc : Int) < 8; omega⟩ ?_
    rintro _ rfl
    refine goO (k := q + 3 + 4 * lc) (by rw [show ((lc : Int)).toNat = lc by omega]; exact (hP.2.2.1 lc (by omega)).1) ⟨by omega, by rw [(sh_L hp (show lc < 8 by omega)).1]⟩ ?_
    refine c_begin hp hP (by omega) hc hg (fun M7 k1 k2 k3 k4 k5 => ?_)
    have v7 : M7.1 q 1 = lc := by rw [k2 _ _ (by omega)]; exact v0
    rw [v7]
    refine ⟨inI_s (by omega) (by omega), ?_⟩
    intro M9 e9
    have w : ∀ o j, ¬ (o = q ∧ j = 1) → M9.1 o j = M7.1 o j := fun o j z => by rw [e9, setI_n _ _ _ _ z]
    have w2 : ∀ o j, ¬ (o = q ∧ j = 1) → ¬ (q + 3 + 4 * lc ≤ o ∧ o ≤ q + 6 + 4 * lc) → M9.1 o j = M.1 o j := fun o j z1 z2 => (w o j z1).trans (k2 o j z2)
    have w3 : M9.2 = M.2 := by rw [e9]; exact k1
    obtain ⟨d1, d2, d3, d4⟩ := hd
    refine hq hC M9 w3 (fun o j z => w2 o j (by omega) (by omega)) ⟨?_, ?_, fun l hl => ?_, fun s hs => ?_⟩
    · rw [e9, setI_s, lS_0, el]
    · rw [w2 _ _ (by omega) (by omega), lS_o (Or.inr ⟨rfl, by decide⟩)]; exact d2
    · rw [lS_0] at hl
      by_cases e : l = lc
      · subst e
        rw [lS_1, if_pos tn.symm]
        refine ⟨by rw [w _ _ (by omega)]; exact k3, fun m hm => ?_, fun t ht => ?_⟩
        · have := k4 m (by omega)
          rw [w _ _ (by omega), w _ _ (by omega), lS_2, tn, if_pos (by omega), lS_2, tn, if_pos (by omega), show 8 * l + 2 * m - 8 * l = 2 * m by omega, show 8 * l + 2 * m + 1 - 8 * l = 2 * m + 1 by omega]
          exact this
        · rw [w _ _ (by omega), k5 t ht, lS_3, tn, if_pos (by omega)]
      · obtain ⟨b1, b2, b3⟩ := d3 l (by omega)
        have h4 := (hok.2.2.1 l (by omega)).1
        rw [lS_1, tn, if_neg e]
        refine ⟨by rw [w2 _ _ (by omega) (by omega)]; exact b1, fun m hm => ?_, fun t ht => ?_⟩
        · rw [w2 _ _ (by omega) (by omega), w2 _ _ (by omega) (by omega), lS_2, tn, if_neg (by omega), lS_2, tn, if_neg (by omega)]; exact b2 m hm
        · rw [w2 _ _ (by omega) (by omega), lS_3, tn, if_neg (by omega)]; exact b3 t ht
    · rw [lS_o (Or.inr ⟨rfl, by decide⟩)] at hs
      have q6 : ∀ o j, 4 ≤ o → lS S c g o j = S o j := fun o j z => lS_o (Or.inl z)
      obtain ⟨b1, b2, b3, b4⟩ := d4 s hs
      refine ⟨fun k hk => ?_, ?_, ?_, fun i hi => ?_⟩
      · rw [w2 _ _ (by omega) (by omega), q6 _ _ (by decide)]; exact b1 k hk
      · rw [w2 _ _ (by omega) (by omega)]; exact b2
      · rw [w2 _ _ (by omega) (by omega), q6 _ _ (by decide)]; exact b3
      · rw [q6 _ _ (by decide)] at hi
        rw [w3, w2 _ _ (by omega) (by omega), w2 _ _ (by omega) (by omega), w2 _ _ (by omega) (by omega), q6 _ _ (by decide), q6 _ _ (by decide), q6 _ _ (by decide)]; exact b4 i hi
  · have hk : 2 * k + 1 < c := by omega
    refine goA rfl (by decide) ⟨by omega, by rw [show (SH 3).2 = 8 by decide]; omega⟩ ?_
    rw [show (2 * (k : Int)).toNat = 2 * k by omega, hg (2 * k) (by omega), p_isWithin]
    refine ⟨fun z1 => h0 (fun y => bi0.mp z1 (y.2.2.2 k (by omega)).1), fun z1 => ⟨inI_s (by omega) (by omega), goA rfl (by decide) ⟨by omega, by rw [show (SH 3).2 = 8 by decide]; omega⟩ ?_⟩⟩
    rw [show (2 * (k : Int) + 1).toNat = 2 * k + 1 by omega, hg (2 * k + 1) (by omega), p_isWithin]
    refine ⟨fun z3 => ⟨inI_s (by omega) (by omega), ?_⟩, fun z3 => h0 (fun y => bi0.mp z3 (y.2.2.2 k (by omega)).2)⟩
    rw [bi0] at z1 z3
    intro v ev
    refine ⟨⟨k + 1, by omega, by omega, fun m hm => ?_⟩, by omega⟩
    by_cases e : m = k
    · subst e; exact ⟨Classical.not_not.mp z1, Classical.not_not.mp z3⟩
    · exact f3 m (by omega)
end CLY
