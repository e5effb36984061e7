/-! A BODY AT REST: what each patch does there, in the class -/
noncomputable def zL (I : IFn) (w : Nat → Int) (s b : Nat) : Int := zOf (totW I w s b) (I 233 (6 * b))
noncomputable def aL (I : IFn) (w : Nat → Int) (s b : Nat) : Int := frN (zL I w s b) (totW I w s b (zL I w s b)) (totW I w s b (zL I w s b + 1)) (I 233 (6 * b))
noncomputable def bL (I : IFn) (w : Nat → Int) (s b : Nat) : Int := frD (zL I w s b) (totW I w s b (zL I w s b)) (totW I w s b (zL I w s b + 1)) (I 233 (6 * b))
noncomputable def sqL (I : IFn) (w : Nat → Int) (s b i : Nat) : Int := tch I w s b i * bL I w s b - aL I w s b
noncomputable def puL (I : IFn) (w : Nat → Int) (s b i : Nat) : Int := puR I (Li I s i) (sqL I w s b i) (bL I w s b)
def wlR (I : IFn) (l : Nat) : Int := sumN (lnR I l) (ctR I l)
noncomputable def saL (I : IFn) (w : Nat → Int) (s b i : Nat) : Int := if sqL I w s b i ≤ 0 then 0 else if sqL I w s b i < wlR I (Li I s i) * bL I w s b then 1 else 2
def arR (I : IFn) (s i : Nat) : Int := I 230 (108 + 18 * s + 3 * i + 2)
noncomputable def prL (I : IFn) (w : Nat → Int) (s b i : Nat) : Int := (100 * puL I w s b i).tdiv (bL I w s b * arR I s i)
def ltR (I : IFn) (s i t : Nat) : Int := I 226 (32 + 4 * Li I s i + t)
section SE
variable {M : Mm} {I : IFn} {R : RFn} {p q s b : Nat} {w : Nat → Int}
theorem lv_z (h : RC M I R p q s b) (hw : okW I w s) : ∃ z, z = zL I w s b ∧ I 233 (6 * b) ≤ totW I w s b z ∧ totW I w s b (z + 1) < I 233 (6 * b) ∧ -600 ≤ z ∧ z ≤ 300 := by
  have hL := h.1.2.2.2.2.2.2.2.1
  have hE := h.1.2.2.2.2.2.2.2.2
  have hH := h.1.2.2.2.1
  have hW := h.wt
  have hlo := tot_lo hL hE hH hw h.2.2.2.1 h.b12
  have hhi := tot_hi hL hE hH hw h.2.2.2.1 h.b12
  have key : ∀ k : Nat, k ≤ 900 → totW I w s b (-600 + k) < I 233 (6 * b) → ∃ z, I 233 (6 * b) ≤ totW I w s b z ∧ totW I w s b (z + 1) < I 233 (6 * b) ∧ -600 ≤ z ∧ z ≤ 300 := by
    intro k
    induction k with
    | zero => intro _ h1; simp at h1; omega
    | succ k ih =>
      intro hk h1
      by_cases h2 : totW I w s b (-600 + k) < I 233 (6 * b)
      · exact ih (by omega) h2
      · exact ⟨-600 + k, by omega, by rw [show -600 + (k : Int) + 1 = -600 + ((k + 1 : Nat) : Int) by omega]; exact h1, by omega, by omega⟩
  obtain ⟨z, h1, h2, h3, h4⟩ := key 900 (by omega) (by rw [show -600 + ((900 : Nat) : Int) = 300 by decide]; omega)
  exact ⟨z, zOf_eq (tot := totW I w s b) (fun z z' hz => tot_m hL hE h.2.2.2.1 hz) h1 h2, h1, h2, h3, h4⟩
theorem lv_f (h : RC M I R p q s b) (hw : okW I w s) : 1 ≤ bL I w s b ∧ bL I w s b ≤ 6000 ∧ -3700000 ≤ aL I w s b ∧ aL I w s b ≤ 3700000 ∧ sumN (puL I w s b) (npR I s) = I 233 (6 * b) * bL I w s b ∧ ∀ i, i < npR I s → 0 ≤ puL I w s b i ∧ puL I w s b i ≤ I 233 (6 * b) * bL I w s b ∧ -10000000 ≤ sqL I w s b i ∧ sqL I w s b i ≤ 10000000 := by
  obtain ⟨z, ez, h1, h2, h3, h4⟩ := lv_z h hw
  have hL := h.1.2.2.2.2.2.2.2.1
  have hE := h.1.2.2.2.2.2.2.2.2
  have hH := h.1.2.2.2.1
  have hd := tot_d (w := w) (b := b) hL hE h.2.2.2.1 z
  obtain ⟨t, f1, f2, f3, f4, f5, f6⟩ := fr_ok (z := z) h1 h2
  have eb : frD z (totW I w s b z) (totW I w s b (z + 1)) (I 233 (6 * b)) = bL I w s b := by unfold bL; rw [← ez]
  have ea : frN z (totW I w s b z) (totW I w s b (z + 1)) (I 233 (6 * b)) = aL I w s b := by unfold aL; rw [← ez]
  rw [eb] at f1 f3 f4 f5 f6
  rw [ea] at f1
  have m1 : z * bL I w s b ≤ 300 * bL I w s b := Int.mul_le_mul_of_nonneg_right h4 (by omega)
  have m2 : -600 * bL I w s b ≤ z * bL I w s b := Int.mul_le_mul_of_nonneg_right h3 (by omega)
  have hlin : ∀ i, i < npR I s → puL I w s b i = bL I w s b * puR I (Li I s i) (tch I w s b i - z) 1 - t * (puR I (Li I s i) (tch I w s b i - z) 1 - puR I (Li I s i) (tch I w s b i - (z + 1)) 1) := by
    intro i hi
    have e1 : sqL I w s b i = bL I w s b * (tch I w s b i - z) - t := by unfold sqL; rw [f1]; grind
    unfold puL
    rw [e1, puR_lin (seat_L hL hE h.2.2.2.1 hi).2.2 f2 (by omega), show tch I w s b i - z - 1 = tch I w s b i - (z + 1) by omega]
  have hsum : sumN (puL I w s b) (npR I s) = I 233 (6 * b) * bL I w s b := by
    rw [sumN_lin hlin]
    show bL I w s b * totW I w s b z - t * (totW I w s b z - totW I w s b (z + 1)) = _
    rw [f4]
    grind
  have hpos : ∀ i, i < npR I s → 0 ≤ puL I w s b i := fun i hi => (puR_b (seat_L hL hE h.2.2.2.1 hi).2.2 (by omega)).1
  refine ⟨f5, by omega, by omega, by omega, hsum, fun i hi => ⟨hpos i hi, ?_, ?_⟩⟩
  · rw [← hsum]; exact sumN_1 hpos hi
  · have ht := tch_b hE hH hw h.2.2.2.1 h.b12 hi
    have b1 : tch I w s b i * bL I w s b ≤ 300 * bL I w s b := Int.mul_le_mul_of_nonneg_right ht.2 (by omega)
    have b2 : -100 * bL I w s b ≤ tch I w s b i * bL I w s b := Int.mul_le_mul_of_nonneg_right ht.1 (by omega)
    unfold sqL
    omega
theorem lv_W (h : RC M I R p q s b) (hw : okW I w s) : I 233 (6 * b) * bL I w s b ≤ 12000000 := by
  have hW := h.wt
  have hf := lv_f h hw
  have h1 : I 233 (6 * b) * bL I w s b ≤ 2000 * bL I w s b := Int.mul_le_mul_of_nonneg_right hW.2 (by omega)
  omega
theorem wl_b {l : Nat} (hL : LAY I p) (hl : (l : Int) < I 223 1) : 0 ≤ wlR I l ∧ wlR I l ≤ 400 := by
  obtain ⟨hok, hc, hc1, hc4⟩ := lay_ok hL hl
  have h1 := sumN_le (f := fun _ => 0) (g := lnR I l) (n := ctR I l) (fun k hk => by have := hok k hk; omega)
  have h2 := sumN_le (f := lnR I l) (g := fun _ => 100) (n := ctR I l) (fun k hk => by have := hok k hk; omega)
  rw [sumN_c] at h1 h2
  unfold wlR
  omega
theorem c_whole {l : Nat} {Q : Int → Prop} (hL : LAY I p) (hp : pl p) (hP : StrP M.2.2.1 p) (hA : AG M I p) (hl : (l : Int) < I 223 1) (hq : Q (wlR I l)) : P_X3_wholeLength (p + 3 + 4 * l) M Q := by
  have hl8 : l < 8 := by have := hL.2.2.1; omega
  obtain ⟨hok, hc, hc1, hc4⟩ := lay_ok hL hl
  obtain ⟨g1, g2, g3⟩ := hL.2.2.2 l hl
  obtain ⟨s1, s2, s3, s4⟩ := sh_L hp hl8
  obtain ⟨r0, r1, r2, r3⟩ := hP.2.2.1 l hl8
  have hp87 : p ≤ 87 := by rcases hp with rfl | rfl <;> omega
  have hcm : M.1 (p + 3 + 4 * l) 2 = (ctR I l : Nat) := by rw [hA _ _ (dR_P (by omega) (by omega)) (by omega), g1.1, hc]
  unfold P_X3_wholeLength P_X3_wholeLength_4
  refine lp_i (fun y : Int × Int => ∃ i : Nat, y.2 = i ∧ i ≤ ctR I l ∧ y.1 = sumN (lnR I l) i) (fun y => (4 - y.2).toNat) ⟨0, rfl, by omega, rfl⟩ ?_
  rintro ⟨x1, x2⟩ ⟨i, e1, e2, e3⟩
  dsimp only at e1 e3
  subst e1
  show F_X3_wholeLength_4 (p + 3 + 4 * l) M Q _ x1 (i : Int)
  unfold F_X3_wholeLength_4
  rw [hcm]
  refine ⟨fun hle => ?_, fun hlt => ?_⟩
  · have : i = ctR I l := by omega
    subst this
    rw [e3]; exact hq
  · have hi : i < ctR I l := by omega
    have hk := hok i hi
    rintro _ rfl
    refine goA r1 ⟨by omega, by rw [s2]⟩ ⟨by omega, by rw [s2]; show (i : Int) < 4; omega⟩ ?_
    have f1 : M.1 (p + 4 + 4 * l) i = lnR I l i := by rw [hA _ _ (dR_P (by omega) (by omega)) (by omega)]; exact (g2 i (by omega)).1.1
    rw [show ((i : Int)).toNat = i by omega, f1]
    have b1 := sumN_le (f := lnR I l) (g := fun _ => 100) (n := i) (fun k hk => by have := hok k (by omega); omega)
    have b0 := sumN_le (f := fun _ => 0) (g := lnR I l) (n := i) (fun k hk => by have := hok k (by omega); omega)
    rw [sumN_c] at b0 b1
    refine ⟨inI_s (by omega) (by omega), ?_⟩
    intro v4 e4
    refine ⟨inI_s (by omega) (by omega), ?_⟩
    intro v5 e5
    exact ⟨⟨i + 1, by dsimp only; omega, by omega, by dsimp only; rw [e4, e3]; rfl⟩, by dsimp only; omega⟩
theorem c_lets {i : Nat} {a1 a2 : Option Nat} {Q : Mm → Prop} {K16 : Int × Mm → Prop} (h : RC M I R p q s b) (hi : i < npR I s) (hq : ∀ M' : Mm, M'.2 = M.2 → (∀ o j, ¬ (o = 214 ∧ 4 * i ≤ j ∧ j < 4 * i + 4) → M'.1 o j = M.1 o j) → (∀ t, t < 4 → M'.1 214 (4 * i + t) = ltR I s i t) → K16 ((i : Int) + 1, M')) : P_X6_settle_157 209 a1 a2 i (some (p + 37 + 8 * s + i)) 0 M Q K16 := by
  have hn := h.np
  have hp := h.1.1.1.p
  have hpl : p ≤ 87 := by rcases hp with rfl | rfl <;> omega
  have hR := h.2.1
  have hS := h.1.1
  have hL := h.1.2.2.2.2.2.2.2.1
  have hE := h.1.2.2.2.2.2.2.2.2
  have hg := (hE.2.2.2 s h.2.2.2.1).2.2.2.2 i (by omega)
  have hl := seat_L hL hE h.2.2.2.1 hi
  have hl8 : Li I s i < 8 := by have := hL.2.2.1; omega
  have hsl := sh_L hp hl8
  unfold P_X6_settle_157
  refine lp_i (fun y : Int × Mm => ∃ t : Nat, y.1 = t ∧ t ≤ 4 ∧ y.2.2 = M.2 ∧ (∀ o j, ¬ (o = 214 ∧ 4 * i ≤ j ∧ j < 4 * i + t) → y.2.1 o j = M.1 o j) ∧ ∀ k, k < t → y.2.1 214 (4 * i + k) = ltR I s i k) (fun y => (4 - y.1).toNat) ⟨0, rfl, by omega, rfl, fun _ _ _ => rfl, fun k hk => by omega⟩ ?_
  rintro ⟨x8, M'⟩ ⟨t, e1, e2, e3, e4, e5⟩
  dsimp only at e1 e3 e4 e5
  subst e1
  show F_X6_settle_157 209 a1 a2 i (some (p + 37 + 8 * s + i)) Q K16 _ (t : Int) M'
  have hR' : M'.2.2.1 = R := by rw [e3]; exact hR
  unfold F_X6_settle_157
  refine ⟨fun hle => ?_, fun hlt => ?_⟩
  · have : t = 4 := by omega
    subst this
    refine ⟨inI_s (by omega) (by omega), ?_⟩
    rintro _ rfl
    exact hq M' e3 e4 e5
  · rintro _ rfl
    refine ⟨inI_s (by omega) (by omega), inI_s (by omega) (by omega), goO rfl ⟨by omega, by rw [sh_P hp hn.2.2.2 (by omega)]⟩ ?_⟩
    rintro _ rfl
    refine goO (k := p + 3 + 4 * Li I s i) (by rw [hR']; exact hg.1.1) ⟨by omega, by rw [hsl.1]⟩ ?_
    rintro _ rfl
    refine goA (k := p + 6 + 4 * Li I s i) (by rw [hR']; exact (hS.P.2.2.1 _ hl8).2.2.2) ⟨by omega, by rw [hsl.2.2.2]⟩ ⟨by omega, by rw [hsl.2.2.2]; show (t : Int) < 4; omega⟩ ?_
    refine goA (k := 214) (by rw [hR']; exact hS.2.2.2.1.2.2.2.2.2.2.2.2.2.2.2.2.1) (by decide) ⟨by omega, by rw [show (SH 214).2 = 24 by decide]; omega⟩ ?_
    have f1 : M'.1 (p + 6 + 4 * Li I s i) t = ltR I s i t := by rw [e4 _ _ (by omega), h.2.2.1 _ _ (dR_P (by omega) (by omega)) (by omega)]; exact ((hL.2.2.2 _ hl.1).2.2 t (by omega)).1
    rw [show ((t : Int)).toNat = t by omega, f1, show ((i : Int) * 4 + (t : Int)).toNat = 4 * i + t by omega]
    rintro _ rfl
    refine ⟨inI_s (by omega) (by omega), ?_⟩
    intro v15 e15
    refine ⟨⟨t + 1, by dsimp only; omega, by omega, e3, fun o j hoj => ?_, fun k hk => ?_⟩, by dsimp only; omega⟩
    · show (setI M' 214 (4 * i + t) _).1 o j = _
      rw [setI_n _ _ _ _ (by omega), e4 o j (by omega)]
    · show (setI M' 214 (4 * i + t) _).1 214 _ = _
      by_cases ek : k = t
      · subst ek; rw [setI_s]
      · rw [setI_n _ _ _ _ (by omega), e5 k (by omega)]
/-- what is written at patch i -/
def at_ (M : Mm) (I : IFn) (w : Nat → Int) (s b i : Nat) : Prop := M.1 213 i = puL I w s b i ∧ M.1 212 i = saL I w s b i ∧ M.1 211 i = prL I w s b i ∧ ∀ t, t < 4 → M.1 214 (4 * i + t) = ltR I s i t
theorem pr_b {i : Nat} (h : RC M I R p q s b) (hw : okW I w s) (hi : i < npR I s) : 1 ≤ arR I s i ∧ arR I s i ≤ 400 ∧ 1 ≤ bL I w s b * arR I s i ∧ bL I w s b * arR I s i ≤ 2400000 ∧ 0 ≤ prL I w s b i ∧ prL I w s b i ≤ 200000 := by
  have hn := h.np
  have hW := h.wt
  have hf := lv_f h hw
  have hfi := hf.2.2.2.2.2 i hi
  have ha : 1 ≤ arR I s i ∧ arR I s i ≤ 400 := ((h.1.2.2.2.2.2.2.2.2.2.2.2 s h.2.2.2.1).2.2.2.2 i (by omega)).2.2.1.2
  have m1 : bL I w s b * 1 ≤ bL I w s b * arR I s i := Int.mul_le_mul_of_nonneg_left ha.1 (by omega)
  have m2 : bL I w s b * arR I s i ≤ bL I w s b * 400 := Int.mul_le_mul_of_nonneg_left ha.2 (by omega)
  have hd : 0 < bL I w s b * arR I s i := by omega
  have q0 : 0 ≤ prL I w s b i := Int.tdiv_nonneg (by omega) (by omega)
  have hm : I 233 (6 * b) * bL I w s b ≤ 2000 * bL I w s b := Int.mul_le_mul_of_nonneg_right hW.2 (by omega)
  have q1 : prL I w s b i ≤ 200000 := by
    unfold prL
    rw [Int.tdiv_eq_ediv_of_nonneg (by omega)]
    have : 100 * puL I w s b i / (bL I w s b * arR I s i) < 200000 + 1 := by
      rw [Int.ediv_lt_iff_lt_mul hd]
      have m3 : 200001 * (bL I w s b) ≤ 200001 * (bL I w s b * arR I s i) := by omega
      omega
    omega
  exact ⟨ha.1, ha.2, by omega, by omega, q0, q1⟩
theorem l2i_in {x : Int} (h : inI x) : l2iV x = x := by
  unfold l2iV
  have e : Int64.ofInt x = (Int32.ofInt x).toInt64 := (i2lt h).symm
  rw [e]
  have : (Int32.ofInt x).toInt64.toInt32 = Int32.ofInt x := by
    apply Int32.toInt_inj.mp
    rw [Int64.toInt_toInt32, Int32.toInt_toInt64, i32t h]
    exact Int.bmod_eq_of_le (by have := h.1; simpa using this) (by have := h.2; simpa using this)
  rw [this, i32t h]
theorem RC.mv {M' : Mm} (h : RC M I R p q s b) (e : M'.2.2.1 = M.2.2.1) (ei : ∀ o j, dREL p o j → (o ≠ 231 ∧ ¬ (o < 170 ∧ p + 35 ≤ o ∧ (j = 3 ∨ j = 4))) → M'.1 o j = M.1 o j) : RC M' I R p q s b := ⟨h.1, e.trans h.2.1, fun o j z z2 => (ei o j z z2).trans (h.2.2.1 o j z z2), h.2.2.2⟩
theorem RC.mv2 {M' : Mm} (h : RC M I R p q s b) (e : M'.2.2.1 = M.2.2.1) (ei : ∀ o j, ¬ (209 ≤ o ∧ o ≤ 214) → M'.1 o j = M.1 o j) : RC M' I R p q s b := h.mv e (fun o j z _ => ei o j (dREL_sc h.1.1.1.p z).1.2.2.2.1)
theorem c_settle {Q : Mm → Prop} (h : RC M I R p q s b) (hw : okW I w s) (hwm : ∀ i, i < npR I s → M.1 210 i = w i) (hq : ∀ M' : Mm, M'.2 = M.2 → (∀ o j, ¬ (o = 209 ∧ j ≤ 2) → ¬ (211 ≤ o ∧ o ≤ 214) → M'.1 o j = M.1 o j) → M'.1 209 0 = aL I w s b → M'.1 209 1 = bL I w s b → M'.1 209 2 = ((npR I s : Nat) : Int) → (∀ i, i < npR I s → at_ M' I w s b i) → Q M') : P_X6_settle 209 (some (173 + 3 * b)) (some (p + 35 + 8 * s)) M Q := by
  have hn := h.np
  have hb := h.b12
  have hp := h.1.1.1.p
  have hpl : p ≤ 87 := by rcases hp with rfl | rfl <;> omega
  have hS := h.1.1
  have hL := h.1.2.2.2.2.2.2.2.1
  have hE := h.1.2.2.2.2.2.2.2.2
  have hss := hE.2.2.2 s h.2.2.2.1
  have hf := lv_f h hw
  have hWb := lv_W h hw
  unfold P_X6_settle
  refine c_findLevel h hw hwm (fun z ez h1 h2 h3 h4 => ?_)
  have eb : frD z (totW I w s b z) (totW I w s b (z + 1)) (I 233 (6 * b)) = bL I w s b := by unfold bL zL; rw [← ez]
  have ea : frN z (totW I w s b z) (totW I w s b (z + 1)) (I 233 (6 * b)) = aL I w s b := by unfold aL zL; rw [← ez]
  rw [ea, eb]
  refine goO rfl ⟨by omega, by rw [(sh_S hp hn.2.2.2).1]⟩ ?_
  have f6 : M.1 (p + 35 + 8 * s) 6 = (npR I s : Nat) := by rw [h.2.2.1 _ _ (dR_P (by omega) (by omega)) (by omega), hss.2.2.2.1.1, hn.1]
  rintro _ rfl
  rw [setI_o _ _ _ _ (by omega), setI_o _ _ _ _ (by omega), f6]
  unfold P_X6_settle_16
  refine lp_i (fun y : Int × Mm => ∃ i : Nat, y.1 = i ∧ i ≤ npR I s ∧ y.2.2 = M.2 ∧ (∀ o j, ¬ (o = 209 ∧ j ≤ 2) → ¬ (211 ≤ o ∧ o ≤ 214) → y.2.1 o j = M.1 o j) ∧ y.2.1 209 0 = aL I w s b ∧ y.2.1 209 1 = bL I w s b ∧ y.2.1 209 2 = ((npR I s : Nat) : Int) ∧ ∀ k, k < i → at_ y.2 I w s b k) (fun y => (6 - y.1).toNat) ⟨0, rfl, by omega, rfl, fun o j g1 g2 => ?_, ?_, ?_, ?_, fun k hk => by omega⟩ ?_
  · show (setI (setI (setI M 209 0 _) 209 1 _) 209 2 _).1 o j = _
    rw [setI_n _ _ _ _ (by omega), setI_n _ _ _ _ (by omega), setI_n _ _ _ _ (by omega)]
  · show (setI (setI (setI M 209 0 _) 209 1 _) 209 2 _).1 209 0 = _
    rw [setI_n _ _ _ _ (by omega), setI_n _ _ _ _ (by omega), setI_s]
  · show (setI (setI (setI M 209 0 _) 209 1 _) 209 2 _).1 209 1 = _
    rw [setI_n _ _ _ _ (by omega), setI_s]
  · show (setI (setI (setI M 209 0 _) 209 1 _) 209 2 _).1 209 2 = _
    rw [setI_s]
  rintro ⟨x3, M1⟩ ⟨i, e1, e2, e3, e4, e5, e6, e7, e8⟩
  dsimp only at e1 e3 e4 e5 e6 e7 e8
  subst e1
  show F_X6_settle_16 209 (some (173 + 3 * b)) (some (p + 35 + 8 * s)) Q _ (i : Int) M1
  have h' : RC M1 I R p q s b := h.mv2 (by rw [e3]) (fun o j z => e4 o j (by omega) (by omega))
  unfold F_X6_settle_16
  rw [e7]
  refine ⟨fun hle => ?_, fun hlt => ?_⟩
  · have : i = npR I s := by omega
    subst this
    exact hq M1 e3 e4 e5 e6 e7 e8
  · have hi : i < npR I s := by omega
    have hfi := hf.2.2.2.2.2 i hi
    have hg := hss.2.2.2.2 i (by omega)
    have hl := seat_L hL hE h.2.2.2.1 hi
    have hl8 : Li I s i < 8 := by have := hL.2.2.1; omega
    have hP : StrP M1.2.2.1 p := by rw [h'.2.1]; exact hS.P
    have hC : StrC M1.2.2.1 := by rw [h'.2.1]; exact hS.2.2.2.1
    have ei : ((i : Int)).toNat = i := by omega
    refine goO rfl ⟨by omega, by rw [(sh_S hp hn.2.2.2).1]⟩ ?_
    rintro _ rfl
    refine goA (hP.2.2.2 s hn.2.2.2).2.1 ⟨by omega, by rw [(sh_S hp hn.2.2.2).2]⟩ ⟨by omega, by rw [(sh_S hp hn.2.2.2).2]; show (i : Int) < 6; omega⟩ ?_
    rw [ei, (hP.2.2.2 s hn.2.2.2).2.2 i (by omega)]
    rintro _ rfl
    rw [e5, e6]
    refine c_squeeze h' hi hw ((e4 210 i (by omega) (by omega)).trans (hwm i hi)) (by omega) (by omega) ?_
    show ∀ r42, _ → _
    have esq : tch I w s b i * bL I w s b - aL I w s b = sqL I w s b i := rfl
    rw [esq]
    intro r42 e42
    have hr42 : r42 = some 213 := by rw [e42]; exact hC.2.2.2.2.2.2.2.2.2.2.2.1
    refine goO rfl ⟨by omega, by rw [sh_P hp hn.2.2.2 (by omega)]⟩ ?_
    intro r45 e45
    have hr45 : r45 = some (p + 3 + 4 * Li I s i) := by rw [e45, h'.2.1]; exact hg.1.1
    refine goO hr45 ⟨by omega, by rw [(sh_L hp hl8).1]⟩ ?_
    have epu : puR I (Li I s i) (sqL I w s b i) (bL I w s b) = puL I w s b i := rfl
    refine c_pushOf hL hp hP h'.2.2.1 hl.1 (by omega) (by omega) (by rw [epu]; omega) ?_
    rw [epu]
    refine goA hr42 (by decide) ⟨by omega, by rw [show (SH 213).2 = 6 by decide]; omega⟩ ?_
    intro M51 e51
    have h51 : RC M51 I R p q s b := h'.mv2 (by rw [e51]) (fun o j z => by rw [e51, setI_o _ _ _ _ (by omega)])
    have s1 : M51.1 209 1 = bL I w s b := by rw [e51, setI_o _ _ _ _ (by omega), e6]
    intro r53 e53
    have hr53 : r53 = some 212 := by rw [e53, h51.2.1]; exact hS.2.2.2.1.2.2.2.2.2.2.2.2.2.2.1
    have fin : ∀ sv : Int, sv = saL I w s b i → P_X6_settle_107 209 (some (173 + 3 * b)) (some (p + 35 + 8 * s)) i (some (p + 37 + 8 * s + i)) r53 i sv M51 Q (fun y => (∃ i : Nat, y.1 = i ∧ i ≤ npR I s ∧ y.2.2 = M.2 ∧ (∀ o j, ¬ (o = 209 ∧ j ≤ 2) → ¬ (211 ≤ o ∧ o ≤ 214) → y.2.1 o j = M.1 o j) ∧ y.2.1 209 0 = aL I w s b ∧ y.2.1 209 1 = bL I w s b ∧ y.2.1 209 2 = ((npR I s : Nat) : Int) ∧ ∀ k, k < i → at_ y.2 I w s b k) ∧ (6 - y.1).toNat < (6 - (i : Int)).toNat) := by
      intro sv hsv
      have hpr := pr_b h hw hi
      unfold P_X6_settle_107
      refine goA hr53 (by decide) ⟨by omega, by rw [show (SH 212).2 = 6 by decide]; omega⟩ ?_
      rw [ei]
      intro M18 e18
      have h18 : RC M18 I R p q s b := h51.mv2 (by rw [e18]) (fun o j z => by rw [e18, setI_o _ _ _ _ (by omega)])
      have t1 : M18.1 209 1 = bL I w s b := by rw [e18, setI_o _ _ _ _ (by omega), s1]
      refine goO rfl ⟨by omega, by rw [sh_P hp hn.2.2.2 (by omega)]⟩ ?_
      have t2 : M18.1 (p + 37 + 8 * s + i) 2 = arR I s i := by rw [h18.2.2.1 _ _ (dR_P (by omega) (by omega)) (by omega)]; exact hg.2.2.1.1
      rw [t1, t2]
      refine ⟨inL_s (by omega) (by omega), ?_⟩
      rintro _ rfl
      intro r23 e23
      have hr23 : r23 = some 211 := by rw [e23, h18.2.1]; exact hS.2.2.2.1.2.2.2.2.2.2.2.2.2.1
      refine ⟨fun _ => ?_, fun z => absurd (by omega) z⟩
      intro r24 e24
      have hr24 : r24 = some 213 := by rw [e24, h18.2.1]; exact hS.2.2.2.1.2.2.2.2.2.2.2.2.2.2.2.1
      refine goA hr24 (by decide) ⟨by omega, by rw [show (SH 213).2 = 6 by decide]; omega⟩ ?_
      have t3 : M18.1 213 i = puL I w s b i := by rw [e18, setI_o _ _ _ _ (by omega), e51, setI_s]
      rw [t3]
      refine ⟨inL_s (by omega) (by omega), by omega, goA hr23 (by decide) ⟨by omega, by rw [show (SH 211).2 = 6 by decide]; omega⟩ ?_⟩
      have epr : (100 * puL I w s b i).tdiv (bL I w s b * arR I s i) = prL I w s b i := rfl
      rw [epr, l2i_in (inI_s (by omega) (by omega))]
      intro M29 e29
      have h29 : RC M29 I R p q s b := h18.mv2 (by rw [e29]) (fun o j z => by rw [e29, setI_o _ _ _ _ (by omega)])
      refine c_lets h29 hi (fun M9 g1 g2 g3 => ?_)
      have o9 : ∀ o j, ¬ (o = 214 ∧ 4 * i ≤ j ∧ j < 4 * i + 4) → ¬ (o = 211 ∧ j = i) → ¬ (o = 212 ∧ j = i) → ¬ (o = 213 ∧ j = i) → M9.1 o j = M1.1 o j := by
        intro o j k1 k2 k3 k4
        rw [g2 o j k1, e29, setI_n _ _ _ _ k2, e18, setI_n _ _ _ _ k3, e51, setI_n _ _ _ _ k4]
      refine ⟨⟨i + 1, by dsimp only; omega, by omega, ?_, fun o j k1 k2 => ?_, ?_, ?_, ?_, fun k hk => ?_⟩, by dsimp only; omega⟩
      · show M9.2 = M.2
        rw [g1, e29]
        show M18.2 = _
        rw [e18]
        show M51.2 = _
        rw [e51]
        exact e3
      · show M9.1 o j = _
        rw [o9 o j (by omega) (by omega) (by omega) (by omega), e4 o j k1 k2]
      · show M9.1 209 0 = _
        rw [o9 _ _ (by omega) (by omega) (by omega) (by omega), e5]
      · show M9.1 209 1 = _
        rw [o9 _ _ (by omega) (by omega) (by omega) (by omega), e6]
      · show M9.1 209 2 = _
        rw [o9 _ _ (by omega) (by omega) (by omega) (by omega), e7]
      · show at_ M9 I w s b k
        by_cases ek : k = i
        · subst ek
          refine ⟨?_, ?_, ?_, g3⟩
          · rw [g2 _ _ (by omega), e29, setI_o _ _ _ _ (by omega), e18, setI_o _ _ _ _ (by omega), e51, setI_s]
          · rw [g2 _ _ (by omega), e29, setI_o _ _ _ _ (by omega), e18, setI_s, hsv]
          · rw [g2 _ _ (by omega), e29, setI_s]
        · obtain ⟨k1, k2, k3, k4⟩ := e8 k (by omega)
          refine ⟨?_, ?_, ?_, fun t ht => ?_⟩
          · rw [o9 _ _ (by omega) (by omega) (by omega) (by omega), k1]
          · rw [o9 _ _ (by omega) (by omega) (by omega) (by omega), k2]
          · rw [o9 _ _ (by omega) (by omega) (by omega) (by omega), k3]
          · rw [o9 _ _ (by omega) (by omega) (by omega) (by omega), k4 t ht]
    refine ⟨fun hpos => ?_, fun hneg => fin 0 ?_⟩
    · intro r54 e54
      have hr54 : r54 = some (p + 3 + 4 * Li I s i) := by rw [e54, h51.2.1]; exact hg.1.1
      refine goO hr54 ⟨by omega, by rw [(sh_L hp hl8).1]⟩ ?_
      refine c_whole hL hp (by rw [h51.2.1]; exact hS.P) h51.2.2.1 hl.1 ?_
      rw [s1]
      have hwl := wl_b hL hl.1
      have m1 : wlR I (Li I s i) * bL I w s b ≤ 400 * bL I w s b := Int.mul_le_mul_of_nonneg_right hwl.2 (by omega)
      have m0 : 0 ≤ wlR I (Li I s i) * bL I w s b := Int.mul_nonneg hwl.1 (by omega)
      refine ⟨inI_s (by omega) (by omega), fun k1 => fin 2 ?_, fun k1 => fin 1 ?_⟩
      · unfold saL; rw [if_neg (by omega), if_neg (by omega)]
      · unfold saL; rw [if_neg (by omega), if_pos (by omega)]
    · unfold saL; rw [if_pos (by omega)]
theorem c_takeWorn {Q : Mm → Prop} (h : RC M I R p q s b) (hpw : ∀ i, i < npR I s → M.1 (p + 37 + 8 * s + i) 3 = I 231 (6 * s + i)) (hq : ∀ M' : Mm, M'.2 = M.2 → (∀ o j, o ≠ 210 → M'.1 o j = M.1 o j) → (∀ i, i < npR I s → M'.1 210 i = I 231 (6 * s + i)) → Q M') : P_X6_takeWorn 209 (some (p + 35 + 8 * s)) M Q := by
  have hn := h.np
  have hp := h.1.1.1.p
  have hpl : p ≤ 87 := by rcases hp with rfl | rfl <;> omega
  have hS := h.1.1
  have hE := h.1.2.2.2.2.2.2.2.2
  have hss := hE.2.2.2 s h.2.2.2.1
  unfold P_X6_takeWorn P_X6_takeWorn_2
  refine lp_i (fun y : Int × Mm => ∃ i : Nat, y.1 = i ∧ i ≤ npR I s ∧ y.2.2 = M.2 ∧ (∀ o j, o ≠ 210 → y.2.1 o j = M.1 o j) ∧ ∀ k, k < i → y.2.1 210 k = I 231 (6 * s + k)) (fun y => (6 - y.1).toNat) ⟨0, rfl, by omega, rfl, fun _ _ _ => rfl, fun k hk => by omega⟩ ?_
  rintro ⟨x2, M1⟩ ⟨i, e1, e2, e3, e4, e5⟩
  dsimp only at e1 e3 e4 e5
  subst e1
  show F_X6_takeWorn_2 209 (some (p + 35 + 8 * s)) Q _ (i : Int) M1
  have h' : RC M1 I R p q s b := h.mv2 (by rw [e3]) (fun o j z => e4 o j (by omega))
  have hP : StrP M1.2.2.1 p := by rw [h'.2.1]; exact hS.P
  have f6 : M1.1 (p + 35 + 8 * s) 6 = (npR I s : Nat) := by rw [h'.2.2.1 _ _ (dR_P (by omega) (by omega)) (by omega), hss.2.2.2.1.1, hn.1]
  unfold F_X6_takeWorn_2
  refine goO rfl ⟨by omega, by rw [(sh_S hp hn.2.2.2).1]⟩ ?_
  rw [f6]
  refine ⟨fun hle => ?_, fun hlt => ?_⟩
  · have : i = npR I s := by omega
    subst this
    exact hq M1 e3 e4 e5
  · have hi : i < npR I s := by omega
    have hg := hss.2.2.2.2 i (by omega)
    have ei : ((i : Int)).toNat = i := by omega
    intro r3 er3
    have hr3 : r3 = some 210 := by rw [er3, h'.2.1]; exact hS.2.2.2.1.2.2.2.2.2.2.2.2.1
    rintro _ rfl
    refine goA (hP.2.2.2 s hn.2.2.2).2.1 ⟨by omega, by rw [(sh_S hp hn.2.2.2).2]⟩ ⟨by omega, by rw [(sh_S hp hn.2.2.2).2]; show (i : Int) < 6; omega⟩ ?_
    rw [ei, (hP.2.2.2 s hn.2.2.2).2.2 i (by omega)]
    rintro _ rfl
    refine goO rfl ⟨by omega, by rw [sh_P hp hn.2.2.2 (by omega)]⟩ ?_
    refine goA hr3 (by decide) ⟨by omega, by rw [show (SH 210).2 = 6 by decide]; omega⟩ ?_
    have f3 : M1.1 (p + 37 + 8 * s + i) 3 = I 231 (6 * s + i) := by rw [e4 _ _ (by omega)]; exact hpw i hi
    rw [f3]
    rintro _ rfl
    refine ⟨inI_s (by omega) (by omega), ?_⟩
    intro v14 e14
    refine ⟨⟨i + 1, by dsimp only; omega, by omega, e3, fun o j z => ?_, fun k hk => ?_⟩, by dsimp only; omega⟩
    · show (setI M1 210 i _).1 o j = _
      rw [setI_o _ _ _ _ z, e4 o j z]
    · show (setI M1 210 i _).1 210 k = _
      by_cases ek : k = i
      · subst ek; rw [setI_s]
      · rw [setI_n _ _ _ _ (by omega), e5 k (by omega)]
end SE
