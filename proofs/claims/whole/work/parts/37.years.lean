/-! years, until -/
noncomputable def wIt (I : IFn) (s b : Nat) (hrs : Int) (w : Nat → Int) : Nat → Nat → Int
  | 0 => w
  | k + 1 => wNx I s b hrs (wIt I s b hrs w k)
/-- years until m: from year y on, k tries, worn by w -/
noncomputable def utF (I : IFn) (s b : Nat) (hrs m : Int) : Nat → Int → (Nat → Int) → Int
  | 0, _, _ => -4
  | k + 1, y, w => if m ≤ mxF w (npR I s) then y else utF I s b hrs m k (y + 1) (wNx I s b hrs w)
theorem LAY.c2 {I I' : IFn} {p : Nat} (h : LAY I p) (e : ∀ o j, (o = p ∨ (p + 3 ≤ o ∧ o < p + 35) ∨ (223 ≤ o ∧ o ≤ 226)) → I' o j = I o j) : LAY I' p := by
  obtain ⟨h1, h2, h3, h4⟩ := h
  have e1 := e p 1 (Or.inl rfl)
  have e2 := e 223 1 (Or.inr (Or.inr (by omega)))
  refine ⟨by rw [e1, e2]; exact h1, by rw [e2]; exact h2, by rw [e2]; exact h3, fun l hl => ?_⟩
  rw [e2] at hl
  obtain ⟨g1, g2, g3⟩ := h4 l hl
  have hl8 : l < 8 := by omega
  have e3 := e 224 (8 + l) (Or.inr (Or.inr (by omega)))
  refine ⟨by rw [e3, e (p + 3 + 4 * l) 2 (by omega)]; exact g1, fun k hk => ?_, fun t ht => ?_⟩
  · rw [e3] at hk
    rw [e 225 (64 + 8 * l + 2 * k) (by omega), e 225 (64 + 8 * l + 2 * k + 1) (by omega), e (p + 4 + 4 * l) k (by omega), e (p + 5 + 4 * l) k (by omega)]
    exact g2 k hk
  · rw [e 226 _ (by omega), e (p + 6 + 4 * l) t (by omega)]
    exact g3 t ht
section YR
variable {M : Mm} {I : IFn} {R : RFn} {p q s b : Nat} {w : Nat → Int} {hrs : Int} {x1 x2 x3 x4 : Int}
theorem wIt_ok (h : RC M I R p q s b) (hw : okW I w s) (hh : 1 ≤ hrs ∧ hrs ≤ 5000) : ∀ k, okW I (wIt I s b hrs w k) s := by
  intro k
  induction k with
  | zero => exact hw
  | succ k ih => exact wn_ok h ih hh
theorem c_give {v : Nat → Int} {Q : Mm → Prop} (h : RC M I R p q s b) (hv : ∀ i, i < npR I s → M.1 210 i = v i) (hq : ∀ M' : Mm, M'.2 = M.2 → (∀ o j, ¬ (p + 37 + 8 * s ≤ o ∧ o < p + 37 + 8 * s + npR I s ∧ j = 3) → M'.1 o j = M.1 o j) → (∀ i, i < npR I s → M'.1 (p + 37 + 8 * s + i) 3 = v i) → Q M') : P_X6_giveWorn 209 (some (p + 35 + 8 * s)) M Q := by
  have hn := h.np
  have hp := h.1.1.1.p
  have hpl : p ≤ 87 := by rcases hp with rfl | rfl <;> omega
  have hS := h.1.1
  have hss := h.1.2.2.2.2.2.2.2.2.2.2.2 s h.2.2.2.1
  have f6 : M.1 (p + 35 + 8 * s) 6 = (npR I s : Nat) := by rw [h.2.2.1 _ _ (dR_P (by omega) (by omega)) (by omega), hss.2.2.2.1.1, hn.1]
  unfold P_X6_giveWorn P_X6_giveWorn_2
  refine lp_i (fun y : Int × Mm => ∃ i : Nat, y.1 = i ∧ i ≤ npR I s ∧ y.2.2 = M.2 ∧ (∀ o j, ¬ (p + 37 + 8 * s ≤ o ∧ o < p + 37 + 8 * s + i ∧ j = 3) → y.2.1 o j = M.1 o j) ∧ ∀ k, k < i → y.2.1 (p + 37 + 8 * s + k) 3 = v k) (fun y => (6 - y.1).toNat) ⟨0, rfl, by omega, rfl, fun _ _ _ => rfl, fun k hk => by omega⟩ ?_
  rintro ⟨x2, M1⟩ ⟨i, e1, e2, e3, e4, e5⟩
  dsimp only at e1 e3 e4 e5
  subst e1
  show F_X6_giveWorn_2 209 (some (p + 35 + 8 * s)) Q _ (i : Int) M1
  have hR1 : M1.2.2.1 = R := by rw [e3]; exact h.2.1
  have hP : StrP M1.2.2.1 p := by rw [hR1]; exact hS.P
  unfold F_X6_giveWorn_2
  refine goO rfl ⟨by omega, by rw [(sh_S hp hn.2.2.2).1]⟩ ?_
  rw [e4 _ _ (by omega), f6]
  refine ⟨fun hle => ?_, fun hlt => ?_⟩
  · have : i = npR I s := by omega
    subst this
    exact hq M1 e3 e4 e5
  · have hi : i < npR I s := by omega
    have ei : ((i : Int)).toNat = i := by omega
    rintro _ rfl
    refine goA (hP.2.2.2 s hn.2.2.2).2.1 ⟨by omega, by rw [(sh_S hp hn.2.2.2).2]⟩ ⟨by omega, by rw [(sh_S hp hn.2.2.2).2]; show (i : Int) < 6; omega⟩ ?_
    rw [ei, (hP.2.2.2 s hn.2.2.2).2.2 i (by omega)]
    rintro _ rfl
    rintro _ rfl
    refine goA (k := 210) (by rw [hR1]; exact hS.2.2.2.1.2.2.2.2.2.2.2.2.1) (by decide) ⟨by omega, by rw [show (SH 210).2 = 6 by decide]; omega⟩ ?_
    refine goO rfl ⟨by omega, by rw [sh_P hp hn.2.2.2 (by omega)]⟩ ?_
    rw [e4 _ _ (by omega), hv i hi]
    rintro _ rfl
    refine ⟨inI_s (by omega) (by omega), ?_⟩
    intro v14 e14
    refine ⟨⟨i + 1, by dsimp only; omega, by omega, e3, fun o j z => ?_, fun k hk => ?_⟩, by dsimp only; omega⟩
    · show (setI M1 (p + 37 + 8 * s + i) 3 _).1 o j = _
      rw [setI_n _ _ _ _ (by omega), e4 o j (by omega)]
    · show (setI M1 (p + 37 + 8 * s + i) 3 _).1 (p + 37 + 8 * s + k) 3 = _
      by_cases ek : k = i
      · subst ek; rw [setI_s]
      · rw [setI_n _ _ _ _ (by omega), e5 k (by omega)]
theorem c_years {n : Nat} {Q : Int → Mm → Prop} (h : RC M I R p q s b) (hw : okW I w s) (hwm : ∀ i, i < npR I s → M.1 210 i = w i) (hh : 1 ≤ hrs ∧ hrs ≤ 5000) (hy : M.1 (p + 35 + 8 * s) 4 = I 232 s ∧ 0 ≤ I 232 s ∧ I 232 s ≤ 100) (hn20 : n ≤ 20) (hq : ∀ M' : Mm, M'.2 = M.2 → (∀ o j, ¬ (209 ≤ o ∧ o ≤ 214) → ¬ (p + 37 + 8 * s ≤ o ∧ o < p + 37 + 8 * s + npR I s ∧ j = 3) → ¬ (o = p + 35 + 8 * s ∧ j = 4) → M'.1 o j = M.1 o j) → (∀ i, i < npR I s → M'.1 (p + 37 + 8 * s + i) 3 = wIt I s b hrs w n i) → M'.1 (p + 35 + 8 * s) 4 = I 232 s + n → Q (I 232 s + n) M') : P_X11_years_82 0 hrs n (some (173 + 3 * b)) (some (p + 35 + 8 * s)) 0 M Q := by
  have hn := h.np
  have hp := h.1.1.1.p
  have hpl : p ≤ 87 := by rcases hp with rfl | rfl <;> omega
  have hS := h.1.1
  unfold P_X11_years_82
  refine lp_i (fun y : Int × Mm => ∃ k : Nat, y.1 = k ∧ k ≤ n ∧ y.2.2 = M.2 ∧ (∀ o j, ¬ (209 ≤ o ∧ o ≤ 214) → y.2.1 o j = M.1 o j) ∧ ∀ i, i < npR I s → y.2.1 210 i = wIt I s b hrs w k i) (fun y => (20 - y.1).toNat) ⟨0, rfl, by omega, rfl, fun _ _ _ => rfl, hwm⟩ ?_
  rintro ⟨x7, M1⟩ ⟨k, e1, e2, e3, e4, e5⟩
  dsimp only at e1 e3 e4 e5
  subst e1
  show F_X11_years_82 0 hrs n (some (173 + 3 * b)) (some (p + 35 + 8 * s)) Q _ (k : Int) M1
  have h1 : RC M1 I R p q s b := h.mv2 (by rw [e3]) e4
  have hr4 : ∀ M2 : Mm, M2.2 = M.2 → M2.2.2.1 0 4 = some 209 := fun M2 g => by rw [g, h.2.1]; exact hS.2.2.2.1.2.2.1
  unfold F_X11_years_82
  refine ⟨fun hle => ?_, fun hlt => ?_⟩
  · have : k = n := by omega
    subst this
    rintro _ rfl
    refine goO (hr4 M1 e3) (by decide) (c_give h1 e5 (fun M4 g1 g2 g3 => ?_))
    refine goO rfl ⟨by omega, by rw [(sh_S hp hn.2.2.2).1]⟩ ?_
    have y4 : M4.1 (p + 35 + 8 * s) 4 = I 232 s := by rw [g2 _ _ (by omega), e4 _ _ (by omega)]; exact hy.1
    rw [y4]
    refine ⟨inI_s (by omega) (by omega), ?_⟩
    rintro _ rfl
    rw [setI_s]
    refine hq _ (g1.trans e3) (fun o j z1 z2 z3 => ?_) (fun i hi => ?_) (setI_s _ _ _ _)
    · rw [setI_n _ _ _ _ z3, g2 o j z2, e4 o j z1]
    · rw [setI_n _ _ _ _ (by omega), g3 i hi]
  · have hwk := wIt_ok h hw hh k
    rintro _ rfl
    refine goO (hr4 M1 e3) (by decide) (c_settle h1 hwk e5 (fun M2 f1 f2 f3 f4 f5 f6 => ?_))
    have h2 : RC M2 I R p q s b := h1.mv2 (by rw [f1]) (fun o j z => f2 o j (by omega) (by omega))
    have hr2 : Rst M2 I R (wIt I s b hrs w k) s b := ⟨by rw [h2.2.1]; exact hS.2.2.2.1, h2.2.1, f3, f4, f5, f6⟩
    rintro _ rfl
    refine goO (hr4 M2 (f1.trans e3)) (by decide) (c_wear h2 hwk hr2 (fun i hi => (f2 _ _ (by omega) (by omega)).trans (e5 i hi)) hh (fun M3 d1 d2 d3 => ?_))
    refine ⟨inI_s (by omega) (by omega), ?_⟩
    intro v20 e20
    exact ⟨⟨k + 1, by dsimp only; omega, by omega, d1.trans (f1.trans e3), fun o j z => (d2 o j (by omega)).trans ((f2 o j (by omega) (by omega)).trans (e4 o j z)), d3⟩, by dsimp only; omega⟩
theorem r_years {n : Nat} {Q : Int → Mm → Prop} (h : RC M I R p q s b) (hw : okW I w s) (hwm : ∀ i, i < npR I s → M.1 231 (6 * s + i) = w i) (hh : 1 ≤ hrs ∧ hrs ≤ 5000) (hy : M.1 232 s = I 232 s ∧ 0 ≤ I 232 s ∧ I 232 s ≤ 100) (hn20 : n ≤ 20) (hq : ∀ M' : Mm, M'.2.2 = M.2.2 → (∀ o j, ¬ (o = 231 ∧ 6 * s ≤ j ∧ j < 6 * s + npR I s) → o ≠ 238 → ¬ (o = 232 ∧ j = s) → M'.1 o j = M.1 o j) → (∀ i, i < npR I s → M'.1 231 (6 * s + i) = wIt I s b hrs w n i) → M'.1 232 s = I 232 s + n → Q (I 232 s + n) M') : P_X12_years_63 221 s b hrs n 0 M Q := by
  have hn := h.np
  have hS := h.1.1.2.2.2.2.2.1
  unfold P_X12_years_63
  refine lp_i (fun y : Int × Mm => ∃ k : Nat, y.1 = k ∧ k ≤ n ∧ y.2.2.2 = M.2.2 ∧ (∀ o j, ¬ (o = 231 ∧ 6 * s ≤ j ∧ j < 6 * s + npR I s) → o ≠ 238 → y.2.1 o j = M.1 o j) ∧ ∀ i, i < npR I s → y.2.1 231 (6 * s + i) = wIt I s b hrs w k i) (fun y => (20 - y.1).toNat) ⟨0, rfl, by omega, rfl, fun _ _ _ _ => rfl, hwm⟩ ?_
  rintro ⟨x5, M1⟩ ⟨k, e1, e2, e3, e4, e5⟩
  dsimp only at e1 e3 e4 e5
  subst e1
  show F_X12_years_63 221 s b hrs n Q _ (k : Int) M1
  have h1 : RC M1 I R p q s b := h.mv (by rw [e3]) (fun o j z z2 => e4 o j (by omega) (by have := dREL_sc h.1.1.1.p z; omega))
  have hSM : StrM M1.2.2.1 := by rw [h1.2.1]; exact hS
  unfold F_X12_years_63
  refine ⟨fun hle => ?_, fun hlt => ?_⟩
  · have : k = n := by omega
    subst this
    have hr := hSM.2.2.2.2.2.2.2.2.2.2.1
    have y4 : M1.1 232 s = I 232 s := by rw [e4 _ _ (by omega) (by decide)]; exact hy.1
    have es : ((s : Int)).toNat = s := by omega
    rintro _ rfl
    refine goA hr (by decide) ⟨by omega, by rw [show (SH 232).2 = 6 by decide]; omega⟩ ?_
    rw [es, y4]
    refine ⟨inI_s (by omega) (by omega), goA hr (by decide) ⟨by omega, by rw [show (SH 232).2 = 6 by decide]; omega⟩ ?_⟩
    rintro _ rfl _ rfl
    refine goA hr (by decide) ⟨by omega, by rw [show (SH 232).2 = 6 by decide]; omega⟩ ?_
    rw [setI_s]
    refine hq _ e3 (fun o j z1 z2 z3 => ?_) (fun i hi => ?_) (setI_s _ _ _ _)
    · rw [setI_n _ _ _ _ z3, e4 o j z1 z2]
    · rw [setI_o _ _ _ _ (by decide), e5 i hi]
  · refine r_wear h1 (wIt_ok h hw hh k) e5 hh (fun M2 f1 f2 f3 => ?_)
    refine ⟨inI_s (by omega) (by omega), ?_⟩
    intro v13 e13
    exact ⟨⟨k + 1, by dsimp only; omega, by omega, f1.trans e3, fun o j z1 z2 => (f2 o j z1 z2).trans (e4 o j z1 z2), f3⟩, by dsimp only; omega⟩
theorem st_years (h : Rel M) : P_X11_years 0 x1 x2 x3 x4 M (fun r M1 => P_X12_years 221 x1 x2 x3 x4 M1 (fun r2 M2 => r = r2 ∧ Rel M2)) := by
  obtain ⟨p, q, hF⟩ := id h
  obtain ⟨hS, hT, hC, hH, hA, hM, hR, hL, hE⟩ := id hF
  have hc := hC.1
  have he := hE.1
  have hCn : 0 ≤ M.1 221 12 ∧ M.1 221 12 ≤ 12 := ⟨hC.2.1, hC.2.2.1⟩
  have hEn : 0 ≤ M.1 227 1 ∧ M.1 227 1 ≤ 6 := ⟨hE.2.1, hE.2.2.1⟩
  have hpl : p ≤ 87 := by rcases hS.1.p with rfl | rfl <;> omega
  have bad : ¬ (((0 ≤ x2 ∧ x2 < M.1 221 12) ∧ 0 ≤ x1 ∧ x1 < M.1 227 1) ∧ (1 ≤ x3 ∧ x3 ≤ 5000) ∧ 1 ≤ x4 ∧ x4 ≤ 20) → P_X12_years 221 x1 x2 x3 x4 M (fun r2 M2 => -1 = r2 ∧ Rel M2) := by
    intro hb
    unfold P_X12_years
    rw [r_isSeat hS.2.2.2.2.2.1 hEn]
    refine ⟨fun _ => ⟨rfl, h⟩, fun g1 => ?_⟩
    rw [r_isBody hCn]
    refine ⟨fun _ => ⟨rfl, h⟩, fun g2 => ?_⟩
    rw [p_in]
    refine ⟨fun _ => ⟨rfl, h⟩, fun g3 => ?_⟩
    rw [p_in]
    refine ⟨fun g4 => ?_, fun _ => ⟨rfl, h⟩⟩
    rw [bi0] at g1 g2 g3 g4
    exact absurd ⟨⟨by omega, by omega⟩, by omega, by omega⟩ hb
  unfold P_X11_years
  rintro _ rfl
  refine goO hS.2.2.2.1.2.1 (by decide) ?_
  have hseat : ∀ (K : Option Nat → Prop), (∀ s : Nat, x1 = s → (s : Int) < M.1 227 1 → K (some (p + 35 + 8 * s))) → (¬ (0 ≤ x1 ∧ x1 < M.1 227 1) → K none) → ∀ r5 : Option Nat, r5 = M.2.2.1 0 1 → ∃ o6, isO 5 r5 o6 ∧ P_X5_seatAt o6 x1 M K := by
    intro K k1 k2
    rintro _ rfl
    exact goO hS.2.1 ⟨by omega, by rw [(sh_pl hS.1.p).1]⟩ (c_seatAt hS.1.p hS.P (by omega) (fun s e hs => k1 s e (by omega)) (fun z => k2 (by omega)))
  refine c_bodyAt hS.2.2.2.2.1 (by omega) (fun b e2 hb => ?_) (fun hz => ?_)
  · refine hseat _ (fun s e1 hs => ?_) (fun hz => ⟨fun z => (by cases z), fun _ _ => ⟨fun _ => bad (fun y => hz y.1.2), fun _ z => (by cases z)⟩⟩)
    refine ⟨fun z => (by cases z), fun _ _ => ⟨fun z => (by cases z), fun _ _ => ?_⟩⟩
    rw [p_isWithin]
    refine ⟨fun z => bad (fun y => bi0.mp z y.2.1), fun g3 => ?_⟩
    rw [p_isWithin]
    refine ⟨fun g4 => ?_, fun z => bad (fun y => bi0.mp z y.2.2)⟩
    have g3' := g3
    have g4' := g4
    rw [bi0] at g3' g4'
    have hb2 : (b : Int) < M.1 221 12 := by omega
    have hn := seat_np hE hs
    have hss := hE.2.2.2 s hs
    have hyc := hss.2.2.1
    have hwo := w0_ok hE hs
    have hRC := RC.self hF hs hb2
    obtain ⟨n, rfl⟩ := toN (x := x4) (by omega)
    subst e1 e2
    refine goO rfl ⟨by omega, by rw [(sh_S hS.1.p hn.2.2.2).1]⟩ ?_
    rw [hyc.1]
    have ref : ∀ (M1 : Mm) (Q : Int → Mm → Prop), RC M1 M.1 M.2.2.1 p q s b → M1.1 232 s = M.1 232 s → (¬ M.1 232 s + n ≤ 100 → Q (-3) M1) → (M.1 232 s + n ≤ 100 → P_X12_years_63 221 s b x3 n 0 M1 Q) → P_X12_years 221 s b x3 n M1 Q := by
      intro M1 Q h1 hy1 q1 q2
      have a4 : M1.1 221 12 = M.1 221 12 := h1.2.2.1 _ _ dR_nb (by omega)
      have a5 : M1.1 227 1 = M.1 227 1 := h1.2.2.1 _ _ (dR_L dP227) (by omega)
      have hSM : StrM M1.2.2.1 := by rw [h1.2.1]; exact hS.2.2.2.2.2.1
      unfold P_X12_years
      rw [r_isSeat hSM (by rw [a5]; exact hEn), a5]
      refine ⟨fun z => by rw [bi0] at z; omega, fun _ => ?_⟩
      rw [r_isBody (by rw [a4]; exact hCn), a4]
      refine ⟨fun z => by rw [bi0] at z; omega, fun _ => ?_⟩
      rw [p_in]
      refine ⟨fun z => absurd z g3, fun _ => ?_⟩
      rw [p_in]
      refine ⟨fun _ => ?_, fun z => absurd z g4⟩
      rintro _ rfl
      refine goA hSM.2.2.2.2.2.2.2.2.2.2.1 (by decide) ⟨by omega, by rw [show (SH 232).2 = 6 by decide]; omega⟩ ?_
      rw [show ((s : Int)).toNat = s by omega, hy1]
      exact ⟨inI_s (by omega) (by omega), q2, q1⟩
    refine ⟨inI_s (by omega) (by omega), fun hle => ?_, fun hgt => ref M _ hRC rfl (fun _ => ⟨rfl, h⟩) (fun z => absurd z hgt)⟩
    rintro _ rfl
    refine goO hS.2.2.2.1.2.2.1 (by decide) ?_
    refine c_takeWorn hRC (fun i hi => (hss.2.2.2.2 i (by omega)).2.2.2.1) (fun M1 g1 g2 g3x => ?_)
    have hRC1 : RC M1 M.1 M.2.2.1 p q s b := hRC.mv2 (by rw [g1]) (fun o j z => g2 o j (by omega))
    refine c_years hRC1 hwo g3x (by omega) ⟨(g2 _ _ (by omega)).trans hyc.1, hyc.2⟩ (by omega) (fun M2 k1 k2 k3 k4 => ?_)
    have o2 : ∀ o j, ¬ (209 ≤ o ∧ o ≤ 214) → ¬ (p + 37 + 8 * s ≤ o ∧ o < p + 37 + 8 * s + npR M.1 s ∧ j = 3) → ¬ (o = p + 35 + 8 * s ∧ j = 4) → M2.1 o j = M.1 o j := fun o j z1 z2 z3 => (k2 o j z1 z2 z3).trans (g2 o j (by omega))
    have hRC2 : RC M2 M.1 M.2.2.1 p q s b := hRC.mv (by rw [k1, g1]) (fun o j z z2 => o2 o j (by have := dREL_sc hS.1.p z; omega) (by omega) (by omega))
    refine ref M2 _ hRC2 (o2 _ _ (by omega) (by omega) (by omega)) (fun z => absurd hle z) (fun _ => ?_)
    refine r_years hRC2 hwo (fun i hi => o2 _ _ (by omega) (by omega) (by omega)) (by omega) ⟨o2 _ _ (by omega) (by omega) (by omega), hyc.2⟩ (by omega) (fun M3 d1 d2 d3 d4 => ⟨rfl, p, q, ?_⟩)
    have hwn := wIt_ok hRC hwo (by omega : 1 ≤ x3 ∧ x3 ≤ 5000) n
    have er : M3.2.2.1 = M.2.2.1 := by rw [d1, k1, g1]
    rw [er]
    have e0 : ∀ o j, ¬ (209 ≤ o ∧ o ≤ 214) → ¬ (p + 37 + 8 * s ≤ o ∧ o < p + 37 + 8 * s + npR M.1 s ∧ j = 3) → ¬ (o = p + 35 + 8 * s ∧ j = 4) → ¬ (o = 231 ∧ 6 * s ≤ j ∧ j < 6 * s + npR M.1 s) → o ≠ 238 → ¬ (o = 232 ∧ j = s) → M3.1 o j = M.1 o j := fun o j z1 z2 z3 z4 z5 z6 => (d2 o j z4 z5 z6).trans (o2 o j z1 z2 z3)
    have far : ∀ o j, (o < 4 ∨ (170 ≤ o ∧ o < 209) ∨ (214 < o ∧ o < 231) ∨ (232 < o ∧ o < 238)) → M3.1 o j = M.1 o j := fun o j z => e0 o j (by omega) (by omega) (by omega) (by omega) (by omega) (by omega)
    refine ⟨hS, hT.c (fun o j z => far o j (by unfold dTXT at z; omega)), hC.c (fun o j z => far o j (by unfold dCRW at z; omega)), hH.c (fun o j z => far o j (by unfold dHNG at z; omega)), hA.c (fun o j z => far o j (by unfold dSAI at z; omega)), hM.c (fun o j z => far o j (by unfold dMSC at z; omega)), hR.c (fun o j z => far o j (by unfold dRDS at z; omega)), hL.c2 (fun o j z => e0 o j (by omega) (by omega) (by omega) (by omega) (by omega) (by omega)), ?_⟩
    have y227 := far 227 1 (by omega)
    have y223 := far 223 1 (by omega)
    refine ⟨by rw [y227, e0 p 3 (by omega) (by omega) (by omega) (by omega) (by omega) (by omega)]; exact he, by rw [y227]; exact hEn.1, by rw [y227]; exact hEn.2, fun t ht => ?_⟩
    rw [y227] at ht
    obtain ⟨t1, t2, t3, t4, t5⟩ := hE.2.2.2 t ht
    have ht6 : t < 6 := by omega
    have e3 : ∀ k, M3.1 228 (24 + 4 * t + k) = M.1 228 (24 + 4 * t + k) := fun k => far _ _ (by omega)
    have e4 : M3.1 229 (6 + t) = M.1 229 (6 + t) := far _ _ (by omega)
    have e5 : ∀ k, M3.1 230 k = M.1 230 k := fun k => far _ _ (by omega)
    refine ⟨fun k hk => by rw [e3, e0 _ _ (by omega) (by omega) (by omega) (by omega) (by omega) (by omega)]; exact t1 k hk, by simp only [e3]; exact t2, ?_, by rw [e4, e0 (p + 35 + 8 * t) 6 (by omega) (by omega) (by omega) (by omega) (by omega) (by omega)]; exact t4, fun i hi => ?_⟩
    · by_cases est : t = s
      · subst est
        have y1 : M3.1 (p + 35 + 8 * t) 4 = M.1 232 t + n := by rw [d2 _ _ (by omega) (by omega) (by omega)]; exact k4
        rw [y1, d4]
        omega
      · rw [e0 (p + 35 + 8 * t) 4 (by omega) (by omega) (by omega) (by omega) (by omega) (by omega), e0 232 t (by omega) (by omega) (by omega) (by omega) (by omega) (by omega)]
        exact t3
    · rw [e4] at hi
      obtain ⟨i1, i2, i3, i4⟩ := t5 i hi
      have hi6 : i < 6 := by omega
      rw [y223, e5, e5, e5, e0 (p + 37 + 8 * t + i) 1 (by omega) (by omega) (by omega) (by omega) (by omega) (by omega), e0 (p + 37 + 8 * t + i) 2 (by omega) (by omega) (by omega) (by omega) (by omega) (by omega)]
      refine ⟨i1, i2, i3, ?_⟩
      by_cases est : t = s
      · subst est
        have hin : i < npR M.1 t := by omega
        have y1 : M3.1 (p + 37 + 8 * t + i) 3 = wIt M.1 t b x3 (w0 M.1 t) n i := by rw [d2 _ _ (by omega) (by omega) (by omega)]; exact k3 i hin
        rw [y1, d3 i hin]
        exact ⟨rfl, hwn i hin⟩
      · rw [e0 (p + 37 + 8 * t + i) 3 (by omega) (by omega) (by omega) (by omega) (by omega) (by omega), e0 231 (6 * t + i) (by omega) (by omega) (by omega) (by omega) (by omega) (by omega)]
        exact i4
  · have hbd := bad (fun y => hz (by omega))
    exact hseat _ (fun s e1 hs => ⟨fun _ => hbd, fun _ z => (by cases z)⟩) (fun _ => ⟨fun _ => hbd, fun _ z => (by cases z)⟩)
end YR
