/-! until -/
section UN
variable {M : Mm} {I : IFn} {R : RFn} {p q s b : Nat} {w : Nat → Int} {hrs m : Int} {x1 x2 x3 x4 : Int}
theorem c_until {Q : Int → Mm → Prop} (h : RC M I R p q s b) (hw : okW I w s) (hwm : ∀ i, i < npR I s → M.1 210 i = w i) (hh : 1 ≤ hrs ∧ hrs ≤ 5000) (hq : ∀ M' : Mm, M'.2 = M.2 → (∀ o j, ¬ (209 ≤ o ∧ o ≤ 214) → M'.1 o j = M.1 o j) → Q (utF I s b hrs m 101 0 w) M') : P_X11_until_66 0 hrs m (some (173 + 3 * b)) (some (p + 35 + 8 * s)) 0 M Q := by
  have hn := h.np
  have hS := h.1.1
  unfold P_X11_until_66
  refine lp_i (fun y : Int × Mm => ∃ (k : Nat) (v : Nat → Int), k ≤ 101 ∧ y.1 = 101 - k ∧ okW I v s ∧ y.2.2 = M.2 ∧ (∀ o j, ¬ (209 ≤ o ∧ o ≤ 214) → y.2.1 o j = M.1 o j) ∧ (∀ i, i < npR I s → y.2.1 210 i = v i) ∧ utF I s b hrs m k y.1 v = utF I s b hrs m 101 0 w) (fun y => (101 - y.1).toNat) ⟨101, w, by omega, rfl, hw, rfl, fun _ _ _ => rfl, hwm, rfl⟩ ?_
  rintro ⟨x7, M1⟩ ⟨k, v, e1, e2, e3, e4, e5, e6, e7⟩
  dsimp only at e2 e4 e5 e6 e7
  show F_X11_until_66 0 hrs m (some (173 + 3 * b)) (some (p + 35 + 8 * s)) Q _ x7 M1
  have h1 : RC M1 I R p q s b := h.mv2 (by rw [e4]) e5
  have hr4 : ∀ M2 : Mm, M2.2 = M.2 → M2.2.2.1 0 4 = some 209 := fun M2 g => by rw [g, h.2.1]; exact hS.2.2.2.1.2.2.1
  unfold F_X11_until_66
  refine ⟨fun hgt => ?_, fun hle => ?_⟩
  · have : k = 0 := by omega
    subst this
    have e8 : (-4 : Int) = utF I s b hrs m 101 0 w := e7
    rw [e8]
    exact hq M1 e4 e5
  · obtain ⟨k', rfl⟩ : ∃ k', k = k' + 1 := ⟨k - 1, by omega⟩
    have e8 : (if m ≤ mxF v (npR I s) then x7 else utF I s b hrs m k' (x7 + 1) (wNx I s b hrs v)) = utF I s b hrs m 101 0 w := e7
    rintro _ rfl
    refine goO (hr4 M1 e4) (by decide) (c_settle h1 e3 e6 (fun M2 f1 f2 f3 f4 f5 f6 => ?_))
    have h2 : RC M2 I R p q s b := h1.mv2 (by rw [f1]) (fun o j z => f2 o j (by omega) (by omega))
    have hr2 : Rst M2 I R v s b := ⟨by rw [h2.2.1]; exact hS.2.2.2.1, h2.2.1, f3, f4, f5, f6⟩
    have hwm2 : ∀ i, i < npR I s → M2.1 210 i = v i := fun i hi => (f2 _ _ (by omega) (by omega)).trans (e6 i hi)
    rintro _ rfl
    refine goO (hr4 M2 (f1.trans e4)) (by decide) (c_most hr2 hn.2.2.1 hwm2 ?_)
    refine ⟨fun hlt => ?_, fun hge => ?_⟩
    · rw [if_neg (by omega)] at e8
      rintro _ rfl
      refine goO (hr4 M2 (f1.trans e4)) (by decide) (c_wear h2 e3 hr2 hwm2 hh (fun M3 d1 d2 d3 => ?_))
      refine ⟨inI_s (by omega) (by omega), ?_⟩
      intro v15 e15
      subst e15
      exact ⟨⟨k', wNx I s b hrs v, by omega, by dsimp only; omega, wn_ok h e3 hh, d1.trans (f1.trans e4), fun o j z => (d2 o j (by omega)).trans ((f2 o j (by omega) (by omega)).trans (e5 o j z)), d3, e8⟩, by dsimp only; omega⟩
    · rw [if_pos (by omega)] at e8
      rw [e8]
      exact hq M2 (f1.trans e4) (fun o j z => (f2 o j (by omega) (by omega)).trans (e5 o j z))
theorem r_restore {M0 : Mm} {x5 : Int} {Q : Int → Mm → Prop} (hSM : StrM M.2.2.1) (hs : s < 6) (h1 : ∀ k, k < 6 → M.1 242 k = M0.1 231 (6 * s + k)) (h2 : ∀ j, ¬ (6 * s ≤ j ∧ j < 6 * s + 6) → M.1 231 j = M0.1 231 j) (hq : ∀ M' : Mm, M'.2 = M.2 → (∀ o j, o ≠ 231 → M'.1 o j = M.1 o j) → (∀ j, M'.1 231 j = M0.1 231 j) → Q (if x5 ≤ 100 then x5 else -4) M') : P_X12_until_114 221 s x5 0 M Q := by
  unfold P_X12_until_114
  refine lp_i (fun y : Int × Mm => ∃ i : Nat, y.1 = i ∧ i ≤ 6 ∧ y.2.2 = M.2 ∧ (∀ o j, o ≠ 231 → y.2.1 o j = M.1 o j) ∧ (∀ j, ¬ (6 * s + i ≤ j ∧ j < 6 * s + 6) → y.2.1 231 j = M0.1 231 j)) (fun y => (6 - y.1).toNat) ⟨0, rfl, by omega, rfl, fun _ _ _ => rfl, fun j hj => h2 j (by omega)⟩ ?_
  rintro ⟨x6, M1⟩ ⟨i, e1, e2, e3, e4, e5⟩
  dsimp only at e1 e3 e4 e5
  subst e1
  show F_X12_until_114 221 s x5 Q _ (i : Int) M1
  have hSM1 : StrM M1.2.2.1 := by rw [e3]; exact hSM
  unfold F_X12_until_114
  refine ⟨fun hle => ?_, fun hlt => ?_⟩
  · have := hq M1 e3 e4 (fun j => e5 j (by omega))
    refine ⟨fun h5 => ?_, fun h5 => ?_⟩
    · rw [if_pos h5] at this; exact this
    · rw [if_neg h5] at this; exact this
  · rintro _ rfl
    refine ⟨inI_s (by omega) (by omega), inI_s (by omega) (by omega), ?_⟩
    rintro _ rfl
    refine goA hSM1.2.2.2.2.2.2.2.2.2.2.2.2.2.2.2.2.2.2.2.2 (by decide) ⟨by omega, by rw [show (SH 242).2 = 6 by decide]; omega⟩ ?_
    refine goA hSM1.2.2.2.2.2.2.2.2.2.1 (by decide) ⟨by omega, by rw [show (SH 231).2 = 36 by decide]; omega⟩ ?_
    rw [show ((i : Int)).toNat = i by omega, show (6 * (s : Int) + (i : Int)).toNat = 6 * s + i by omega, e4 242 i (by decide), h1 i (by omega)]
    rintro _ rfl
    refine ⟨inI_s (by omega) (by omega), ?_⟩
    intro v9 e9
    refine ⟨⟨i + 1, by dsimp only; omega, by omega, e3, fun o j z => ?_, fun j hj => ?_⟩, by dsimp only; omega⟩
    · show (setI M1 231 (6 * s + i) _).1 o j = _
      rw [setI_o _ _ _ _ z, e4 o j z]
    · show (setI M1 231 (6 * s + i) _).1 231 j = _
      by_cases ej : j = 6 * s + i
      · subst ej; rw [setI_s]
      · rw [setI_n _ _ _ _ (by omega), e5 j (by omega)]
theorem r_until {Q : Int → Mm → Prop} (h : RC M I R p q s b) (hw : okW I w s) (hwm : ∀ i, i < npR I s → M.1 231 (6 * s + i) = w i) (hh : 1 ≤ hrs ∧ hrs ≤ 5000) (hm : 1 ≤ m) (hq : ∀ M' : Mm, M'.2.2 = M.2.2 → (∀ o j, o ≠ 238 → o ≠ 242 → M'.1 o j = M.1 o j) → Q (utF I s b hrs m 101 0 w) M') : P_X12_until_46 221 s b hrs m 0 M Q := by
  have hn := h.np
  have hS := h.1.1.2.2.2.2.2.1
  have hSM0 : StrM M.2.2.1 := by rw [h.2.1]; exact hS
  have main : ∀ M1 : Mm, M1.2 = M.2 → (∀ o j, o ≠ 242 → M1.1 o j = M.1 o j) → (∀ k, k < 6 → M1.1 242 k = M.1 231 (6 * s + k)) → P_X12_until_81 221 s b hrs m 0 M1 Q := by
    intro M1 g1 g2 g3
    unfold P_X12_until_81
    refine lp_i (fun y : Int × Mm => ∃ (k : Nat) (v : Nat → Int), k ≤ 101 ∧ y.1 = 101 - k ∧ okW I v s ∧ y.2.2.2 = M.2.2 ∧ (∀ o j, ¬ (o = 231 ∧ 6 * s ≤ j ∧ j < 6 * s + npR I s) → o ≠ 238 → y.2.1 o j = M1.1 o j) ∧ (∀ i, i < npR I s → y.2.1 231 (6 * s + i) = v i) ∧ utF I s b hrs m k y.1 v = utF I s b hrs m 101 0 w) (fun y => (101 - y.1).toNat) ⟨101, w, by omega, rfl, hw, by dsimp only; rw [g1], fun _ _ _ _ => rfl, fun i hi => (g2 _ _ (by decide)).trans (hwm i hi), rfl⟩ ?_
    rintro ⟨x5, M2⟩ ⟨k, v, e1, e2, e3, e4, e5, e6, e7⟩
    dsimp only at e2 e4 e5 e6 e7
    show F_X12_until_81 221 s b hrs m Q _ x5 M2
    have h2 : RC M2 I R p q s b := h.mv (by rw [e4]) (fun o j z z2 => (e5 o j (by omega) (by have := dREL_sc h.1.1.1.p z; omega)).trans (g2 o j (by have := dREL_sc h.1.1.1.p z; omega)))
    have hSM2 : StrM M2.2.2.1 := by rw [h2.2.1]; exact hS
    have restore : (if x5 ≤ 100 then x5 else -4) = utF I s b hrs m 101 0 w → P_X12_until_114 221 s x5 0 M2 Q := by
      intro hT
      refine r_restore (M0 := M) hSM2 hn.2.2.2 (fun k hk => (e5 _ _ (by omega) (by decide)).trans (g3 k hk)) (fun j hj => (e5 _ _ (by omega) (by decide)).trans (g2 _ _ (by decide))) (fun M3 d1 d2 d3 => ?_)
      rw [hT]
      refine hq M3 (by rw [d1]; exact e4) (fun o j z1 z2 => ?_)
      by_cases ho : o = 231
      · subst ho; exact d3 j
      · rw [d2 o j ho, e5 o j (by omega) z1, g2 o j z2]
    unfold F_X12_until_81
    refine ⟨fun hgt => restore ?_, fun hle => ?_⟩
    · have : k = 0 := by omega
      subst this
      rw [if_neg (by omega)]
      exact e7
    · obtain ⟨k', rfl⟩ : ∃ k', k = k' + 1 := ⟨k - 1, by omega⟩
      have e8 : (if m ≤ mxF v (npR I s) then x5 else utF I s b hrs m k' (x5 + 1) (wNx I s b hrs v)) = utF I s b hrs m 101 0 w := e7
      refine r_past h2 e6 hm ⟨fun hy => restore ?_, fun hy => ?_⟩
      · rw [bi0] at hy
        rw [if_pos (Classical.not_not.mp hy)] at e8
        rw [if_pos (by omega)]
        exact e8
      · rw [bi0] at hy
        rw [if_neg hy] at e8
        refine r_wear h2 e3 e6 hh (fun M3 d1 d2 d3 => ?_)
        refine ⟨inI_s (by omega) (by omega), ?_⟩
        intro v13 e13
        subst e13
        exact ⟨⟨k', wNx I s b hrs v, by omega, by dsimp only; omega, wn_ok h e3 hh, d1.trans e4, fun o j z1 z2 => (d2 o j z1 z2).trans (e5 o j z1 z2), d3, e8⟩, by dsimp only; omega⟩
  unfold P_X12_until_46
  refine lp_i (fun y : Int × Mm => ∃ i : Nat, y.1 = i ∧ i ≤ 6 ∧ y.2.2 = M.2 ∧ (∀ o j, o ≠ 242 → y.2.1 o j = M.1 o j) ∧ ∀ k, k < i → y.2.1 242 k = M.1 231 (6 * s + k)) (fun y => (6 - y.1).toNat) ⟨0, rfl, by omega, rfl, fun _ _ _ => rfl, fun k hk => by omega⟩ ?_
  rintro ⟨x5, M1⟩ ⟨i, e1, e2, e3, e4, e5⟩
  dsimp only at e1 e3 e4 e5
  subst e1
  show F_X12_until_46 221 s b hrs m Q _ (i : Int) M1
  have hSM1 : StrM M1.2.2.1 := by rw [e3]; exact hSM0
  unfold F_X12_until_46
  refine ⟨fun hle => main M1 e3 e4 (fun k hk => e5 k (by omega)), fun hlt => ?_⟩
  intro r14 er14
  have hr14 : r14 = some 242 := by rw [er14]; exact hSM1.2.2.2.2.2.2.2.2.2.2.2.2.2.2.2.2.2.2.2.2
  rintro _ rfl
  refine ⟨inI_s (by omega) (by omega), inI_s (by omega) (by omega), goA hSM1.2.2.2.2.2.2.2.2.2.1 (by decide) ⟨by omega, by rw [show (SH 231).2 = 36 by decide]; omega⟩ ?_⟩
  refine goA hr14 (by decide) ⟨by omega, by rw [show (SH 242).2 = 6 by decide]; omega⟩ ?_
  rw [show ((i : Int)).toNat = i by omega, show (6 * (s : Int) + (i : Int)).toNat = 6 * s + i by omega, e4 231 _ (by decide)]
  rintro _ rfl
  refine ⟨inI_s (by omega) (by omega), ?_⟩
  intro v22 e22
  refine ⟨⟨i + 1, by dsimp only; omega, by omega, e3, fun o j z => ?_, fun k hk => ?_⟩, by dsimp only; omega⟩
  · show (setI M1 242 i _).1 o j = _
    rw [setI_o _ _ _ _ z, e4 o j z]
  · show (setI M1 242 i _).1 242 k = _
    by_cases ek : k = i
    · subst ek; rw [setI_s]
    · rw [setI_n _ _ _ _ (by omega), e5 k (by omega)]
theorem st_until (h : Rel M) : P_X11_until 0 x1 x2 x3 x4 M (fun r M1 => P_X12_until 221 x1 x2 x3 x4 M1 (fun r2 M2 => r = r2 ∧ Rel M2)) := by
  obtain ⟨p, q, hF⟩ := id h
  obtain ⟨hS, hT, hC, hH, hA, hM, hR, hL, hE⟩ := id hF
  have hc := hC.1
  have he := hE.1
  have hCn : 0 ≤ M.1 221 12 ∧ M.1 221 12 ≤ 12 := ⟨hC.2.1, hC.2.2.1⟩
  have hEn : 0 ≤ M.1 227 1 ∧ M.1 227 1 ≤ 6 := ⟨hE.2.1, hE.2.2.1⟩
  have hpl : p ≤ 87 := by rcases hS.1.p with rfl | rfl <;> omega
  have bad : ¬ (((0 ≤ x2 ∧ x2 < M.1 221 12) ∧ 0 ≤ x1 ∧ x1 < M.1 227 1) ∧ (1 ≤ x3 ∧ x3 ≤ 5000) ∧ 1 ≤ x4 ∧ x4 ≤ 100) → P_X12_until 221 x1 x2 x3 x4 M (fun r2 M2 => -1 = r2 ∧ Rel M2) := by
    intro hb
    unfold P_X12_until
    rw [r_isSeat hS.2.2.2.2.2.1 hEn]
    refine ⟨fun _ => ⟨rfl, h⟩, fun g1 => ?_⟩
    rw [r_isBody hCn]
    refine ⟨fun _ => ⟨rfl, h⟩, fun g2 => ?_⟩
    rw [p_in]
    refine ⟨fun _ => ⟨rfl, h⟩, fun g3 => ?_⟩
    rw [p_in]
    refine ⟨fun g4 => ?_, fun _ => ⟨rfl, h⟩⟩
    rw [bi0] at g1 g2 g3 g4
    exact absurd ⟨⟨by omega, by omega⟩, by omega, by omega⟩ hb
  unfold P_X11_until
  rintro _ rfl
  refine goO hS.2.2.2.1.2.1 (by decide) ?_
  have hseat : ∀ (K : Option Nat → Prop), (∀ s : Nat, x1 = s → (s : Int) < M.1 227 1 → K (some (p + 35 + 8 * s))) → (¬ (0 ≤ x1 ∧ x1 < M.1 227 1) → K none) → ∀ r5 : Option Nat, r5 = M.2.2.1 0 1 → ∃ o6, isO 5 r5 o6 ∧ P_X5_seatAt o6 x1 M K := by
    intro K k1 k2
    rintro _ rfl
    exact goO hS.2.1 ⟨by omega, by rw [(sh_pl hS.1.p).1]⟩ (c_seatAt hS.1.p hS.P (by omega) (fun s e hs => k1 s e (by omega)) (fun z => k2 (by omega)))
  refine c_bodyAt hS.2.2.2.2.1 (by omega) (fun b e2 hb => ?_) (fun hz => ?_)
  · refine hseat _ (fun s e1 hs => ?_) (fun hz => ⟨fun z => (by cases z), fun _ _ => ⟨fun _ => bad (fun y => hz y.1.2), fun _ z => (by cases z)⟩⟩)
    refine ⟨fun z => (by cases z), fun _ _ => ⟨fun z => (by cases z), fun _ _ => ?_⟩⟩
    rw [p_isWithin]
    refine ⟨fun z => bad (fun y => bi0.mp z y.2.1), fun g3 => ?_⟩
    rw [p_isWithin]
    refine ⟨fun g4 => ?_, fun z => bad (fun y => bi0.mp z y.2.2)⟩
    have g3' := g3
    have g4' := g4
    rw [bi0] at g3' g4'
    have hb2 : (b : Int) < M.1 221 12 := by omega
    have hn := seat_np hE hs
    have hss := hE.2.2.2 s hs
    have hwo := w0_ok hE hs
    have hRC := RC.self hF hs hb2
    subst e1 e2
    rintro _ rfl
    refine goO hS.2.2.2.1.2.2.1 (by decide) ?_
    refine c_takeWorn hRC (fun i hi => (hss.2.2.2.2 i (by omega)).2.2.2.1) (fun M1 g1 g2 g3x => ?_)
    have hRC1 : RC M1 M.1 M.2.2.1 p q s b := hRC.mv2 (by rw [g1]) (fun o j z => g2 o j (by omega))
    refine c_until hRC1 hwo g3x (by omega) (fun M2 k1 k2 => ?_)
    have o2 : ∀ o j, ¬ (209 ≤ o ∧ o ≤ 214) → M2.1 o j = M.1 o j := fun o j z1 => (k2 o j z1).trans (g2 o j (by omega))
    obtain ⟨a1, a2, a3, a4, a5, a6⟩ := after hF hs hb2 (k1.trans g1) o2
    show P_X12_until 221 s b x3 x4 M2 _
    unfold P_X12_until
    rw [r_isSeat a3 (by rw [a5]; exact hEn), a5]
    refine ⟨fun z => by rw [bi0] at z; omega, fun _ => ?_⟩
    rw [r_isBody (by rw [a4]; exact hCn), a4]
    refine ⟨fun z => by rw [bi0] at z; omega, fun _ => ?_⟩
    rw [p_in]
    refine ⟨fun z => absurd z g3, fun _ => ?_⟩
    rw [p_in]
    refine ⟨fun _ => ?_, fun z => absurd z g4⟩
    refine r_until a1 hwo a2 (by omega) (by omega) (fun M3 d1 d2 => ⟨rfl, ?_⟩)
    exact Rel.keep hF (by rw [d1, k1, g1]) (fun o j z1 z2 _ _ _ _ => by rw [d2 o j (by omega) (by omega)]; exact o2 o j z1)
  · have hbd := bad (fun y => hz (by omega))
    exact hseat _ (fun s e1 hs => ⟨fun _ => hbd, fun _ z => (by cases z)⟩) (fun _ => ⟨fun _ => hbd, fun _ z => (by cases z)⟩)
end UN
