/-! through, dose, hours: the calls -/
/-- the first hour from h on, n of them, at which h times H is lim or more -/
def hrF (H lim : Int) : Nat → Int → Int
  | 0, _ => -4
  | n + 1, h => if lim ≤ h * H then h else hrF H lim n (h + 1)
noncomputable def huL (I : IFn) (w : Nat → Int) (s b i : Nat) : Int := max 0 (prL I w s b i - I 221 18)
noncomputable def huM (I : IFn) (w : Nat → Int) (s b : Nat) : Int := huL I w s b (fstF (prL I w s b) (npR I s))
section HR
variable {M : Mm} {I : IFn} {R : RFn} {p q s b : Nat} {w : Nat → Int} {x1 x2 x3 x4 x5 x6 : Int}
theorem hu_max (h : RC M I R p q s b) {i : Nat} (hi : i < npR I s) : huL I w s b i ≤ huM I w s b := by
  have := fstF_max (f := prL I w s b) (npR I s) i hi
  unfold huM huL
  omega
theorem hu_b (h : RC M I R p q s b) (hw : okW I w s) {i : Nat} (hi : i < npR I s) : 0 ≤ huL I w s b i ∧ huL I w s b i ≤ 200000 := by
  have := pr_b h hw hi
  have hm := h.1.2.2.2.2.2.1.2.1
  unfold huL
  omega
theorem fst_in (h : RC M I R p q s b) : fstF (prL I w s b) (npR I s) < npR I s := by
  have := fstF_lt (f := prL I w s b) (npR I s)
  have := h.np
  omega
theorem c_hurt {Q : Int → Prop} (h : RC M I R p q s b) (hw : okW I w s) (hr : Rst M I R w s b) (hm : M.1 215 0 = I 221 18) (hq : Q (huM I w s b)) : P_X2_hurtOfHour 215 (some 209) M Q := by
  have hn := h.np
  have hf := fst_in (w := w) h
  have hpr := pr_b h hw hf
  have hmk := h.1.2.2.2.2.2.1.2.1
  unfold P_X2_hurtOfHour
  refine goO rfl (by decide) ?_
  refine c_first hr ⟨hn.2.1, hn.2.2.1⟩ (c_pressAt hr hn.2.2.1 hf ?_)
  rw [hm]
  exact ⟨inI_s (by omega) (by omega), hq⟩
theorem c_hoursU {H lim : Int} {Q : Int → Prop} (hH : 0 ≤ H ∧ H ≤ 200000) (hq : Q (hrF H lim 24 1)) : P_X2_hoursUntil_9 lim H 1 M Q := by
  unfold P_X2_hoursUntil_9
  refine lp_i (fun y : Int => ∃ n : Nat, n ≤ 24 ∧ y = 25 - n ∧ hrF H lim n y = hrF H lim 24 1) (fun y => (25 - y).toNat) ⟨24, by omega, by omega, rfl⟩ ?_
  rintro y ⟨n, e1, e2, e3⟩
  show F_X2_hoursUntil_9 lim H M Q _ y
  unfold F_X2_hoursUntil_9
  refine ⟨fun h1 => ?_, fun h1 => ?_⟩
  · have : n = 0 := by omega
    subst this
    have e4 : (-4 : Int) = hrF H lim 24 1 := e3
    rw [e4]; exact hq
  · obtain ⟨n', rfl⟩ : ∃ n', n = n' + 1 := ⟨n - 1, by omega⟩
    have e4 : (if lim ≤ y * H then y else hrF H lim n' (y + 1)) = hrF H lim 24 1 := e3
    have m0 : 0 ≤ y * H := Int.mul_nonneg (by omega) hH.1
    have m1 : y * H ≤ 24 * H := Int.mul_le_mul_of_nonneg_right (by omega) hH.1
    refine ⟨inI_s (by omega) (by omega), fun h2 => ⟨inI_s (by omega) (by omega), ?_⟩, fun h2 => ?_⟩
    · intro v e
      rw [if_neg (by omega)] at e4
      subst e
      exact ⟨⟨n', by omega, by omega, e4⟩, by omega⟩
    · rw [if_pos (by omega)] at e4
      rw [e4]; exact hq
theorem r_hurts {i : Nat} {Q : Int → Prop} (h : RC M I R p q s b) (hw : okW I w s) (hi : i < npR I s) (hv : M.1 238 i = prL I w s b i) (hq : Q (huL I w s b i)) : P_X12_hurts 221 i M Q := by
  have hn := h.np
  have hpr := pr_b h hw hi
  have hmk := h.1.2.2.2.2.2.1.2.1
  have hSM : StrM M.2.2.1 := by rw [h.2.1]; exact h.1.1.2.2.2.2.2.1
  have hr := hSM.2.2.2.2.2.2.2.2.2.2.2.2.2.2.2.2.1
  have hm : M.1 221 18 = I 221 18 := h.2.2.1 _ _ (Or.inr (Or.inr (Or.inr (Or.inr (Or.inl (Or.inr (Or.inr (Or.inr ⟨rfl, by omega⟩)))))))) (by omega)
  unfold P_X12_hurts
  rintro _ rfl
  refine goA hr (by decide) ⟨by omega, by rw [show (SH 238).2 = 6 by decide]; omega⟩ ?_
  rw [show ((i : Int)).toNat = i by omega, hv, hm]
  refine ⟨fun h1 => ?_, fun h1 => ?_⟩
  · have e : huL I w s b i = 0 := by unfold huL; omega
    rw [← e]; exact hq
  · rintro _ rfl
    refine goA hr (by decide) ⟨by omega, by rw [show (SH 238).2 = 6 by decide]; omega⟩ ?_
    rw [hv]
    have e : huL I w s b i = prL I w s b i - I 221 18 := by unfold huL; omega
    rw [← e]
    have := hu_b h hw hi
    exact ⟨inI_s (by omega) (by omega), hq⟩
theorem r_hours {lim : Int} {Q : Int → Mm → Prop} (h : RC M I R p q s b) (hw : okW I w s) (hv : ∀ i, i < npR I s → M.1 238 i = prL I w s b i) (hq : Q (hrF (huM I w s b) lim 24 1) M) : P_X12_hours_39 221 s lim 1 M Q := by
  have hn := h.np
  have hf := fst_in (w := w) h
  have hSM : StrM M.2.2.1 := by rw [h.2.1]; exact h.1.1.2.2.2.2.2.1
  have f6 : M.1 229 (6 + s) = (npR I s : Nat) := by rw [h.2.2.1 _ _ (dR_L (dP229 (by omega))) (by omega), hn.1]
  unfold P_X12_hours_39
  refine lp_i (fun y : Int => ∃ n : Nat, n ≤ 24 ∧ y = 25 - n ∧ hrF (huM I w s b) lim n y = hrF (huM I w s b) lim 24 1) (fun y => (25 - y).toNat) ⟨24, by omega, by omega, rfl⟩ ?_
  rintro y ⟨n, e1, e2, e3⟩
  show F_X12_hours_39 221 s lim M Q _ y
  unfold F_X12_hours_39
  refine ⟨fun h1 => ?_, fun h1 => ?_⟩
  · have : n = 0 := by omega
    subst this
    have e4 : (-4 : Int) = hrF (huM I w s b) lim 24 1 := e3
    rw [e4]; exact hq
  · obtain ⟨n', rfl⟩ : ∃ n', n = n' + 1 := ⟨n - 1, by omega⟩
    have e4 : (if lim ≤ y * huM I w s b then y else hrF (huM I w s b) lim n' (y + 1)) = hrF (huM I w s b) lim 24 1 := e3
    unfold P_X12_hours_49
    refine lp_i (fun z : Int => ∃ i : Nat, z = i ∧ i ≤ npR I s ∧ ∀ k, k < i → y * huL I w s b k < lim) (fun z => (6 - z).toNat) ⟨0, rfl, by omega, fun k hk => by omega⟩ ?_
    rintro z ⟨i, f1, f2, f3⟩
    subst f1
    show F_X12_hours_49 221 s lim y M Q _ _ (i : Int)
    unfold F_X12_hours_49
    rintro _ rfl
    refine ⟨inI_s (by omega) (by omega), goA hSM.2.2.2.2.2.2.2.1 (by decide) ⟨by omega, by rw [show (SH 229).2 = 12 by decide]; omega⟩ ?_⟩
    rw [show (6 + (s : Int)).toNat = 6 + s by omega, f6]
    refine ⟨fun hle => ⟨inI_s (by omega) (by omega), ?_⟩, fun hlt => ?_⟩
    · have : i = npR I s := by omega
      subst this
      intro v ev
      have := f3 _ hf
      have e5 : y * huM I w s b < lim := this
      rw [if_neg (by omega)] at e4
      subst ev
      exact ⟨⟨n', by omega, by omega, e4⟩, by omega⟩
    · have hi : i < npR I s := by omega
      have hb := hu_b h hw hi
      refine r_hurts h hw hi (hv i hi) ?_
      have m0 : 0 ≤ y * huL I w s b i := Int.mul_nonneg (by omega) hb.1
      have m1 : y * huL I w s b i ≤ 24 * huL I w s b i := Int.mul_le_mul_of_nonneg_right (by omega) hb.1
      refine ⟨inI_s (by omega) (by omega), fun h2 => ⟨inI_s (by omega) (by omega), ?_⟩, fun h2 => ?_⟩
      · intro v ev
        refine ⟨⟨i + 1, by omega, by omega, fun k hk => ?_⟩, by omega⟩
        by_cases ek : k = i
        · subst ek; exact h2
        · exact f3 k (by omega)
      · have m2 : y * huL I w s b i ≤ y * huM I w s b := Int.mul_le_mul_of_nonneg_left (hu_max h hi) (by omega)
        rw [if_pos (by omega)] at e4
        rw [e4]; exact hq
theorem st_hours (h : Rel M) : P_X11_hours 0 x1 x2 x3 M (fun r M1 => P_X12_hours 221 x1 x2 x3 M1 (fun r2 M2 => r = r2 ∧ Rel M2)) := by
  obtain ⟨p, q, hF⟩ := id h
  obtain ⟨hS, hT, hC, hH, hA, hM, hR, hL, hE⟩ := id hF
  have hCn : 0 ≤ M.1 221 12 ∧ M.1 221 12 ≤ 12 := ⟨hC.2.1, hC.2.2.1⟩
  have hEn : 0 ≤ M.1 227 1 ∧ M.1 227 1 ≤ 6 := ⟨hE.2.1, hE.2.2.1⟩
  have bad : ¬ (((0 ≤ x1 ∧ x1 < M.1 221 12) ∧ 0 ≤ x2 ∧ x2 < M.1 227 1) ∧ 1 ≤ x3 ∧ x3 ≤ 100000) → P_X12_hours 221 x1 x2 x3 M (fun r2 M2 => -1 = r2 ∧ Rel M2) := by
    intro hb
    unfold P_X12_hours
    rw [r_isBody hCn]
    refine ⟨fun _ => ⟨rfl, h⟩, fun g1 => ?_⟩
    rw [r_isSeat hS.2.2.2.2.2.1 hEn]
    refine ⟨fun _ => ⟨rfl, h⟩, fun g2 => ?_⟩
    rw [p_in]
    refine ⟨fun g3 => ?_, fun _ => ⟨rfl, h⟩⟩
    rw [bi0] at g1 g2 g3
    exact absurd ⟨⟨by omega, by omega⟩, by omega⟩ hb
  unfold P_X11_hours
  rw [p_isWithin]
  refine ⟨fun z => bad (fun y => bi0.mp z y.2), fun g3 => ?_⟩
  refine c_settles hF (fun b s e1 e2 hb hs M' k1 k2 k3 => ?_) (fun hz => ⟨fun z => absurd rfl z, fun _ => bad (fun y => hz y.1)⟩)
  refine ⟨fun _ => ?_, fun z => absurd z (by decide)⟩
  obtain ⟨a1, a2, a3, a4, a5, a6⟩ := after hF hs hb k1 k2
  have hwo := w0_ok hE hs
  have hf := fst_in (w := w0 M.1 s) a1
  have hub := hu_b a1 hwo hf
  subst e1 e2
  rintro _ rfl
  intro r6 e6
  have hr6 : r6 = some 209 := by rw [e6]; exact k3.1.2.2.1
  subst hr6
  refine goO k3.1.2.2.2.1 (by decide) ?_
  unfold P_X2_hoursUntil
  refine c_hurt a1 hwo k3 ((k2 _ _ (by decide)).trans hM.2.1.1) (c_hoursU hub ?_)
  show P_X12_hours 221 b s x3 M' _
  unfold P_X12_hours
  rw [r_isBody (by rw [a4]; exact hCn), a4]
  refine ⟨fun z => by rw [bi0] at z; omega, fun _ => ?_⟩
  rw [r_isSeat a3 (by rw [a5]; exact hEn), a5]
  refine ⟨fun z => by rw [bi0] at z; omega, fun _ => ?_⟩
  rw [p_in]
  refine ⟨fun _ => ?_, fun z => absurd z g3⟩
  refine r_presses a1 hwo a2 (fun M2 m1 m2 m3 m4 => ?_)
  have a1' : RC M2 M.1 M.2.2.1 p q s b := a1.mv (by rw [m1]) (fun o j z _ => m3 o j (by have := dREL_sc hS.1.p z; omega))
  refine r_hours a1' hwo m4 ⟨rfl, ?_⟩
  exact Rel.keep hF (by rw [m1, k1]) (fun o j z1 z2 _ _ _ _ => by rw [m3 o j (by omega)]; exact k2 o j z1)
theorem st_through (h : Rel M) : P_X11_through 0 x1 x2 x3 x4 M (fun r M1 => P_X12_through 221 x1 x2 x3 x4 M1 (fun r2 M2 => r = r2 ∧ Rel M2)) := by
  obtain ⟨p, q, hF⟩ := id h
  obtain ⟨hS, hT, hC, hH, hA, hM, hR, hL, hE⟩ := id hF
  have hCn : 0 ≤ M.1 221 12 ∧ M.1 221 12 ≤ 12 := ⟨hC.2.1, hC.2.2.1⟩
  have hEn : 0 ≤ M.1 227 1 ∧ M.1 227 1 ≤ 6 := ⟨hE.2.1, hE.2.2.1⟩
  have bad : ¬ (((0 ≤ x1 ∧ x1 < M.1 221 12) ∧ 0 ≤ x2 ∧ x2 < M.1 227 1) ∧ (0 ≤ x3 ∧ x3 ≤ 3) ∧ 0 ≤ x4 ∧ x4 ≤ 3) → P_X12_through 221 x1 x2 x3 x4 M (fun r2 M2 => -1 = r2 ∧ Rel M2) := by
    intro hb
    unfold P_X12_through
    rw [r_isBody hCn]
    refine ⟨fun _ => ⟨rfl, h⟩, fun g1 => ?_⟩
    rw [r_isSeat hS.2.2.2.2.2.1 hEn]
    refine ⟨fun _ => ⟨rfl, h⟩, fun g2 => ?_⟩
    rw [p_isRoad2]
    refine ⟨fun _ => ⟨rfl, h⟩, fun g3 => ?_⟩
    rw [p_in]
    refine ⟨fun g4 => ?_, fun _ => ⟨rfl, h⟩⟩
    rw [bi0] at g1 g2 g3 g4
    exact absurd ⟨⟨by omega, by omega⟩, by omega, by omega⟩ hb
  unfold P_X11_through
  rw [p_isRoad]
  refine ⟨fun z => bad (fun y => bi0.mp z y.2.1), fun g3 => ?_⟩
  rw [p_isTone]
  refine ⟨fun z => bad (fun y => bi0.mp z y.2.2), fun g4 => ?_⟩
  refine c_settles hF (fun b s e1 e2 hb hs M' k1 k2 k3 => ?_) (fun hz => ⟨fun z => absurd rfl z, fun _ => bad (fun y => hz y.1)⟩)
  refine ⟨fun _ => ?_, fun z => absurd z (by decide)⟩
  obtain ⟨a1, a2, a3, a4, a5, a6⟩ := after hF hs hb k1 k2
  have hwo := w0_ok hE hs
  have g3' := g3
  have g4' := g4
  rw [bi0] at g3' g4'
  obtain ⟨rd, rfl⟩ := toN (x := x3) (by omega)
  obtain ⟨t, rfl⟩ := toN (x := x4) (by omega)
  subst e1 e2
  rintro _ rfl
  intro r7 e7
  have hr7 : r7 = some 209 := by rw [e7]; exact k3.1.2.2.1
  subst hr7
  refine goO k3.1.2.2.2.2.1 (by decide) ?_
  have hrt := hR (4 * rd + t) (by omega)
  refine c_through (tone := M.1 236 (4 * rd + t)) a1 hwo k3 (by omega) (by omega) ⟨(k2 _ _ (by decide)).trans hrt.1, hrt.2⟩ ?_
  show P_X12_through 221 b s rd t M' _
  unfold P_X12_through
  rw [r_isBody (by rw [a4]; exact hCn), a4]
  refine ⟨fun z => by rw [bi0] at z; omega, fun _ => ?_⟩
  rw [r_isSeat a3 (by rw [a5]; exact hEn), a5]
  refine ⟨fun z => by rw [bi0] at z; omega, fun _ => ?_⟩
  rw [p_isRoad2]
  refine ⟨fun z => absurd z g3, fun _ => ?_⟩
  rw [p_in]
  refine ⟨fun _ => ?_, fun z => absurd z g4⟩
  refine r_lay a1 hwo a2 (fun M2 m1 m2 m3 => ?_)
  have a1' : RC M2 M.1 M.2.2.1 p q s b := a1.mv (by rw [m2]) (fun o j _ _ => by rw [m1])
  refine r_through (tone := M.1 236 (4 * rd + t)) a1' hwo (fun i hi => by rw [m1]; exact a2 i hi) m3 (by omega) (by omega) ⟨by rw [m1]; exact k2 _ _ (by decide), hrt.2⟩ ⟨rfl, ?_⟩
  exact Rel.keep hF (by rw [m2, k1]) (fun o j z1 _ _ _ _ _ => by rw [m1]; exact k2 o j z1)
theorem st_dose (h : Rel M) : P_X11_dose 0 x1 x2 x3 x4 x5 x6 M (fun r M1 => P_X12_dose 221 x1 x2 x3 x4 x5 x6 M1 (fun r2 M2 => r = r2 ∧ Rel M2)) := by
  obtain ⟨p, q, hF⟩ := id h
  obtain ⟨hS, hT, hC, hH, hA, hM, hR, hL, hE⟩ := id hF
  have hCn : 0 ≤ M.1 221 12 ∧ M.1 221 12 ≤ 12 := ⟨hC.2.1, hC.2.2.1⟩
  have hEn : 0 ≤ M.1 227 1 ∧ M.1 227 1 ≤ 6 := ⟨hE.2.1, hE.2.2.1⟩
  have bad : ¬ (((0 ≤ x1 ∧ x1 < M.1 221 12) ∧ 0 ≤ x2 ∧ x2 < M.1 227 1) ∧ (0 ≤ x3 ∧ x3 ≤ 24) ∧ (0 ≤ x4 ∧ x4 ≤ 24) ∧ (0 ≤ x5 ∧ x5 ≤ 24) ∧ 0 ≤ x6 ∧ x6 ≤ 24) → P_X12_dose 221 x1 x2 x3 x4 x5 x6 M (fun r2 M2 => -1 = r2 ∧ Rel M2) := by
    intro hb
    unfold P_X12_dose
    rw [r_isBody hCn]
    refine ⟨fun _ => ⟨rfl, h⟩, fun g1 => ?_⟩
    rw [r_isSeat hS.2.2.2.2.2.1 hEn]
    refine ⟨fun _ => ⟨rfl, h⟩, fun g2 => ?_⟩
    rw [p_in]
    refine ⟨fun _ => ⟨rfl, h⟩, fun g3 => ?_⟩
    rw [p_in]
    refine ⟨fun _ => ⟨rfl, h⟩, fun g4 => ?_⟩
    rw [p_in]
    refine ⟨fun _ => ⟨rfl, h⟩, fun g5 => ?_⟩
    rw [p_in]
    refine ⟨fun g6 => ?_, fun _ => ⟨rfl, h⟩⟩
    rw [bi0] at g1 g2 g3 g4 g5 g6
    exact absurd ⟨⟨by omega, by omega⟩, by omega, by omega, by omega, by omega⟩ hb
  unfold P_X11_dose
  rw [p_isHours]
  refine ⟨fun z => bad (fun y => bi0.mp z y.2.1), fun g3 => ?_⟩
  rw [p_isHours]
  refine ⟨fun z => bad (fun y => bi0.mp z y.2.2.1), fun g4 => ?_⟩
  rw [p_isHours]
  refine ⟨fun z => bad (fun y => bi0.mp z y.2.2.2.1), fun g5 => ?_⟩
  rw [p_isHours]
  refine ⟨fun z => bad (fun y => bi0.mp z y.2.2.2.2), fun g6 => ?_⟩
  refine c_settles hF (fun b s e1 e2 hb hs M' k1 k2 k3 => ?_) (fun hz => ⟨fun z => absurd rfl z, fun _ => bad (fun y => hz y.1)⟩)
  refine ⟨fun _ => ?_, fun z => absurd z (by decide)⟩
  obtain ⟨a1, a2, a3, a4, a5, a6⟩ := after hF hs hb k1 k2
  have hwo := w0_ok hE hs
  subst e1 e2
  obtain ⟨ft, hft⟩ : ∃ ft : Nat → Nat → Int, ft = fun rd t => M.1 236 (4 * rd + t) := ⟨_, rfl⟩
  have hto : ∀ rd, rd < 4 → ∀ t, t < 4 → M'.1 219 (4 * rd + t) = ft rd t ∧ 0 ≤ ft rd t ∧ ft rd t ≤ 1000 := by
    intro rd hrd t ht
    have := hR (4 * rd + t) (by omega)
    rw [hft]
    exact ⟨(k2 _ _ (by decide)).trans this.1, this.2⟩
  have hdb : ∀ rd, rd < 4 → 0 ≤ doL M.1 (w0 M.1 s) s b (ft rd) 4 ∧ doL M.1 (w0 M.1 s) s b (ft rd) 4 ≤ 36000000 := fun rd hrd => do_b a1 hwo (fun t ht => (hto rd hrd t ht).2) (Nat.le_refl _)
  have mb : ∀ (x : Int) (rd : Nat), rd < 4 → 0 ≤ x ∧ x ≤ 24 → 0 ≤ x * doL M.1 (w0 M.1 s) s b (ft rd) 4 ∧ x * doL M.1 (w0 M.1 s) s b (ft rd) 4 ≤ 24 * 36000000 := fun x rd hrd hx => ⟨Int.mul_nonneg hx.1 (hdb rd hrd).1, Int.mul_le_mul hx.2 (hdb rd hrd).2 (hdb rd hrd).1 (by decide)⟩
  have g3' := g3
  have g4' := g4
  have g5' := g5
  have g6' := g6
  rw [bi0] at g3' g4' g5' g6'
  have b0 := mb x3 0 (by decide) (by omega)
  have b1 := mb x4 1 (by decide) (by omega)
  have b2 := mb x5 2 (by decide) (by omega)
  have b3 := mb x6 3 (by decide) (by omega)
  have stepC : ∀ (rd : Nat) (K : Int → Prop), rd < 4 → K (doL M.1 (w0 M.1 s) s b (ft rd) 4) → ∀ r8 : Option Nat, r8 = M'.2.2.1 0 6 → ∀ r9 : Option Nat, r9 = M'.2.2.1 0 4 → ∃ o10, isO 7 r8 o10 ∧ P_X7_doseOfHour o10 r9 rd M' K := by
    intro rd K hrd hK
    rintro _ rfl
    intro r9 e9
    have hr9 : r9 = some 209 := by rw [e9]; exact k3.1.2.2.1
    subst hr9
    exact goO k3.1.2.2.2.2.1 (by decide) (c_dose a1 hwo k3 hrd (hto rd hrd) hK)
  refine stepC 0 _ (by decide) ⟨inL_s (by omega) (by omega), ?_⟩
  refine stepC 1 _ (by decide) ⟨inL_s (by omega) (by omega), inL_s (by omega) (by omega), ?_⟩
  refine stepC 2 _ (by decide) ⟨inL_s (by omega) (by omega), inL_s (by omega) (by omega), ?_⟩
  refine stepC 3 _ (by decide) ⟨inL_s (by omega) (by omega), inL_s (by omega) (by omega), ?_⟩
  show P_X12_dose 221 b s x3 x4 x5 x6 M' _
  unfold P_X12_dose
  rw [r_isBody (by rw [a4]; exact hCn), a4]
  refine ⟨fun z => by rw [bi0] at z; omega, fun _ => ?_⟩
  rw [r_isSeat a3 (by rw [a5]; exact hEn), a5]
  refine ⟨fun z => by rw [bi0] at z; omega, fun _ => ?_⟩
  rw [p_in]
  refine ⟨fun z => absurd z g3, fun _ => ?_⟩
  rw [p_in]
  refine ⟨fun z => absurd z g4, fun _ => ?_⟩
  rw [p_in]
  refine ⟨fun z => absurd z g5, fun _ => ?_⟩
  rw [p_in]
  refine ⟨fun _ => ?_, fun z => absurd z g6⟩
  refine r_lay a1 hwo a2 (fun M2 m1 m2 m3 => ?_)
  have a1' : RC M2 M.1 M.2.2.1 p q s b := a1.mv (by rw [m2]) (fun o j _ _ => by rw [m1])
  have hto2 : ∀ rd, rd < 4 → ∀ t, t < 4 → M2.1 236 (4 * rd + t) = ft rd t ∧ 0 ≤ ft rd t ∧ ft rd t ≤ 1000 := by
    intro rd hrd t ht
    have := hR (4 * rd + t) (by omega)
    rw [hft, m1]
    exact ⟨k2 _ _ (by decide), this.2⟩
  have hwm2 : ∀ i, i < npR M.1 s → M2.1 231 (6 * s + i) = w0 M.1 s i := fun i hi => by rw [m1]; exact a2 i hi
  refine r_dose (rd := 0) a1' hwo hwm2 m3 (by decide) (by omega) (hto2 0 (by decide)) ?_
  refine r_dose (rd := 1) a1' hwo hwm2 m3 (by decide) (by omega) (hto2 1 (by decide)) ⟨inL_s (by omega) (by omega), ?_⟩
  refine r_dose (rd := 2) a1' hwo hwm2 m3 (by decide) (by omega) (hto2 2 (by decide)) ⟨inL_s (by omega) (by omega), ?_⟩
  refine r_dose (rd := 3) a1' hwo hwm2 m3 (by decide) (by omega) (hto2 3 (by decide)) ⟨inL_s (by omega) (by omega), rfl, ?_⟩
  exact Rel.keep hF (by rw [m2, k1]) (fun o j z1 _ _ _ _ _ => by rw [m1]; exact k2 o j z1)
end HR
