/-! A YEAR'S WEAR -/
noncomputable def wNx (I : IFn) (s b : Nat) (hrs : Int) (w : Nat → Int) (i : Nat) : Int := min 100 (w i + (pcL I w s b i * hrs).tdiv 1000000)
def mxF (w : Nat → Int) : Nat → Int
  | 0 => 0
  | n + 1 => max (mxF w n) (w n)
section WE
variable {M : Mm} {I : IFn} {R : RFn} {p q s b : Nat} {w : Nat → Int} {hrs : Int}
theorem wn_b {i : Nat} (h : RC M I R p q s b) (hw : okW I w s) (hh : 1 ≤ hrs ∧ hrs ≤ 5000) (hi : i < npR I s) : 0 ≤ pcL I w s b i * hrs ∧ pcL I w s b i * hrs ≤ 10000000 ∧ 0 ≤ (pcL I w s b i * hrs).tdiv 1000000 ∧ (pcL I w s b i * hrs).tdiv 1000000 ≤ 10 := by
  have hp := pc_b h hw hi
  have m0 := Int.mul_nonneg hp.1 (by omega : 0 ≤ hrs)
  have m1 := Int.mul_le_mul hp.2 hh.2 (by omega) (by decide : (0 : Int) ≤ 2000)
  rw [Int.tdiv_eq_ediv_of_nonneg m0]
  omega
theorem wn_ok (h : RC M I R p q s b) (hw : okW I w s) (hh : 1 ≤ hrs ∧ hrs ≤ 5000) : okW I (wNx I s b hrs w) s := by
  intro i hi
  have := wn_b h hw hh hi
  have := hw i hi
  unfold wNx
  omega
theorem c_wear {Q : Mm → Prop} (h : RC M I R p q s b) (hw : okW I w s) (hr : Rst M I R w s b) (hwm : ∀ i, i < npR I s → M.1 210 i = w i) (hh : 1 ≤ hrs ∧ hrs ≤ 5000) (hq : ∀ M' : Mm, M'.2 = M.2 → (∀ o j, o ≠ 210 → M'.1 o j = M.1 o j) → (∀ i, i < npR I s → M'.1 210 i = wNx I s b hrs w i) → Q M') : P_X6_wearOneYear 209 hrs M Q := by
  have hn := h.np
  unfold P_X6_wearOneYear P_X6_wearOneYear_2
  refine lp_i (fun y : Int × Mm => ∃ i : Nat, y.1 = i ∧ i ≤ npR I s ∧ y.2.2 = M.2 ∧ (∀ o j, o ≠ 210 → y.2.1 o j = M.1 o j) ∧ (∀ k, k < i → y.2.1 210 k = wNx I s b hrs w k) ∧ ∀ k, i ≤ k → y.2.1 210 k = M.1 210 k) (fun y => (6 - y.1).toNat) ⟨0, rfl, by omega, rfl, fun _ _ _ => rfl, fun k hk => by omega, fun _ _ => rfl⟩ ?_
  rintro ⟨x2, M1⟩ ⟨i, e1, e2, e3, e4, e5, e6⟩
  dsimp only at e1 e3 e4 e5 e6
  subst e1
  show F_X6_wearOneYear_2 209 hrs Q _ (i : Int) M1
  have h' : RC M1 I R p q s b := h.mv2 (by rw [e3]) (fun o j z => e4 o j (by omega))
  have hr' : Rst M1 I R w s b := by
    obtain ⟨r1, r2, r3, r4, r5, r6⟩ := hr
    refine ⟨by rw [e3]; exact r1, by rw [e3]; exact r2, by rw [e4 _ _ (by decide)]; exact r3, by rw [e4 _ _ (by decide)]; exact r4, by rw [e4 _ _ (by decide)]; exact r5, fun k hk => ?_⟩
    obtain ⟨t1, t2, t3, t4⟩ := r6 k hk
    exact ⟨by rw [e4 _ _ (by decide)]; exact t1, by rw [e4 _ _ (by decide)]; exact t2, by rw [e4 _ _ (by decide)]; exact t3, fun t ht => by rw [e4 _ _ (by decide)]; exact t4 t ht⟩
  unfold F_X6_wearOneYear_2
  rw [hr'.2.2.2.2.1]
  refine ⟨fun hle => ?_, fun hlt => ?_⟩
  · have : i = npR I s := by omega
    subst this
    exact hq M1 e3 e4 e5
  · have hi : i < npR I s := by omega
    have hb := wn_b h hw hh hi
    have hwi := hw i hi
    have ei : ((i : Int)).toNat = i := by omega
    have hrr := hr'.1.2.2.2.2.2.2.2.2.1
    intro r1 er1
    have hr1 : r1 = some 210 := by rw [er1]; exact hrr
    rintro _ rfl
    refine goA hrr (by decide) ⟨by omega, by rw [show (SH 210).2 = 6 by decide]; omega⟩ ?_
    refine c_pushCut h' hw hr' hi ?_
    rw [ei, e6 i (Nat.le_refl _), hwm i hi]
    refine ⟨inI_s (by omega) (by omega), inI_s (by omega) (by omega), goA hr1 (by decide) ⟨by omega, by rw [show (SH 210).2 = 6 by decide]; omega⟩ ?_⟩
    rintro _ rfl
    refine ⟨inI_s (by omega) (by omega), ?_⟩
    intro v10 e10
    refine ⟨⟨i + 1, by dsimp only; omega, by omega, e3, fun o j z => ?_, fun k hk => ?_, fun k hk => ?_⟩, by dsimp only; omega⟩
    · show (setI M1 210 i _).1 o j = _
      rw [setI_o _ _ _ _ z, e4 o j z]
    · show (setI M1 210 i _).1 210 k = _
      by_cases ek : k = i
      · subst ek; rw [setI_s]; rfl
      · rw [setI_n _ _ _ _ (by omega), e5 k (by omega)]
    · show (setI M1 210 i _).1 210 k = _
      rw [setI_n _ _ _ _ (by omega), e6 k (by omega)]
theorem r_wear {Q : Mm → Prop} (h : RC M I R p q s b) (hw : okW I w s) (hwm : ∀ i, i < npR I s → M.1 231 (6 * s + i) = w i) (hh : 1 ≤ hrs ∧ hrs ≤ 5000) (hq : ∀ M' : Mm, M'.2.2 = M.2.2 → (∀ o j, ¬ (o = 231 ∧ 6 * s ≤ j ∧ j < 6 * s + npR I s) → o ≠ 238 → M'.1 o j = M.1 o j) → (∀ i, i < npR I s → M'.1 231 (6 * s + i) = wNx I s b hrs w i) → Q M') : P_X12_wear 221 s b hrs M Q := by
  have hn := h.np
  have hS := h.1.1.2.2.2.2.2.1
  have hf := lv_f h hw
  unfold P_X12_wear
  refine r_lay h hw hwm (fun M1 g1 g2 g3 => ?_)
  unfold P_X12_wear_9
  refine lp_i (fun y : Int × Mm => ∃ i : Nat, y.1 = i ∧ i ≤ npR I s ∧ y.2.2 = M1.2 ∧ (∀ o j, o ≠ 238 → y.2.1 o j = M.1 o j) ∧ ∀ k, k < i → y.2.1 238 k = pcL I w s b k) (fun y => (6 - y.1).toNat) ⟨0, rfl, by omega, rfl, fun o j _ => by dsimp only; rw [g1], fun k hk => by omega⟩ ?_
  rintro ⟨x4, M2⟩ ⟨i, e1, e2, e3, e4, e5⟩
  dsimp only at e1 e3 e4 e5
  subst e1
  show F_X12_wear_9 221 s b hrs Q _ (i : Int) M2
  have h2 : RC M2 I R p q s b := h.mv (by rw [e3, g2]) (fun o j z _ => e4 o j (by have := dREL_sc h.1.1.1.p z; omega))
  have hv2 : LVr M2 I w s b := by unfold LVr; rw [e3]; exact g3
  have f6 : M2.1 229 (6 + s) = (npR I s : Nat) := by rw [h2.2.2.1 _ _ (dR_L (dP229 (by omega))) (by omega), hn.1]
  have hSM : StrM M2.2.2.1 := by rw [h2.2.1]; exact hS
  unfold F_X12_wear_9
  rintro _ rfl
  refine ⟨inI_s (by omega) (by omega), goA hSM.2.2.2.2.2.2.2.1 (by decide) ⟨by omega, by rw [show (SH 229).2 = 12 by decide]; omega⟩ ?_⟩
  rw [show (6 + (s : Int)).toNat = 6 + s by omega, f6]
  refine ⟨fun hle => ?_, fun hlt => ?_⟩
  · have : i = npR I s := by omega
    subst this
    unfold P_X12_wear_53
    refine lp_i (fun y : Int × Mm => ∃ i : Nat, y.1 = i ∧ i ≤ npR I s ∧ y.2.2 = M2.2 ∧ (∀ o j, ¬ (o = 231 ∧ 6 * s ≤ j ∧ j < 6 * s + i) → y.2.1 o j = M2.1 o j) ∧ ∀ k, k < i → y.2.1 231 (6 * s + k) = wNx I s b hrs w k) (fun y => (6 - y.1).toNat) ⟨0, rfl, by omega, rfl, fun _ _ _ => rfl, fun k hk => by omega⟩ ?_
    rintro ⟨x4, M3⟩ ⟨i, d1, d2, d3, d4, d5⟩
    dsimp only at d1 d3 d4 d5
    subst d1
    show F_X12_wear_53 221 s hrs Q _ (i : Int) M3
    have hSM3 : StrM M3.2.2.1 := by rw [d3]; exact hSM
    have f63 : M3.1 229 (6 + s) = (npR I s : Nat) := by rw [d4 _ _ (by omega)]; exact f6
    unfold F_X12_wear_53
    rintro _ rfl
    refine ⟨inI_s (by omega) (by omega), goA hSM3.2.2.2.2.2.2.2.1 (by decide) ⟨by omega, by rw [show (SH 229).2 = 12 by decide]; omega⟩ ?_⟩
    rw [show (6 + (s : Int)).toNat = 6 + s by omega, f63]
    refine ⟨fun hle => ?_, fun hlt => ?_⟩
    · have : i = npR I s := by omega
      subst this
      refine hq M3 (by rw [d3, e3]; exact g2) (fun o j z1 z2 => (d4 o j z1).trans (e4 o j z2)) d5
    · have hi : i < npR I s := by omega
      have hb := wn_b h hw hh hi
      have hwi := hw i hi
      have ei : ((i : Int)).toNat = i := by omega
      have es : (6 * (s : Int) + (i : Int)).toNat = 6 * s + i := by omega
      have hr10 := hSM3.2.2.2.2.2.2.2.2.2.1
      have hr25 := hSM3.2.2.2.2.2.2.2.2.2.2.2.2.2.2.2.2.1
      rintro _ rfl
      refine ⟨inI_s (by omega) (by omega), inI_s (by omega) (by omega), goA hr10 (by decide) ⟨by omega, by rw [show (SH 231).2 = 36 by decide]; omega⟩ ?_⟩
      rintro _ rfl
      refine goA hr25 (by decide) ⟨by omega, by rw [show (SH 238).2 = 6 by decide]; omega⟩ ?_
      have c1 : M3.1 231 (6 * s + i) = w i := by rw [d4 _ _ (by omega), e4 _ _ (by decide)]; exact hwm i hi
      have c2 : M3.1 238 i = pcL I w s b i := by rw [d4 _ _ (by omega)]; exact e5 i hi
      rw [ei, es, c1, c2]
      refine ⟨inI_s (by omega) (by omega), inI_s (by omega) (by omega), ?_⟩
      intro v10 e10
      rintro _ rfl
      refine ⟨inI_s (by omega) (by omega), inI_s (by omega) (by omega), ?_⟩
      have fin : ∀ nv : Int, nv = wNx I s b hrs w i → ∃ o12, isA 14 (M3.2.2.1 221 10) o12 (6 * (s : Int) + (i : Int)) ∧ ∀ M14 : Mm, M14 = setI M3 o12 (6 * s + i) nv → inI ((i : Int) + 1) ∧ ∀ v16 : Int, v16 = (i : Int) + 1 → (∃ i : Nat, v16 = i ∧ i ≤ npR I s ∧ M14.2 = M2.2 ∧ (∀ o j, ¬ (o = 231 ∧ 6 * s ≤ j ∧ j < 6 * s + i) → M14.1 o j = M2.1 o j) ∧ ∀ k, k < i → M14.1 231 (6 * s + k) = wNx I s b hrs w k) ∧ (6 - v16).toNat < (6 - (i : Int)).toNat := by
        intro nv hnv
        refine goA hr10 (by decide) ⟨by omega, by rw [show (SH 231).2 = 36 by decide]; omega⟩ ?_
        rintro _ rfl
        refine ⟨inI_s (by omega) (by omega), ?_⟩
        intro v16 e16
        refine ⟨⟨i + 1, by omega, by omega, d3, fun o j z => ?_, fun k hk => ?_⟩, by omega⟩
        · rw [setI_n _ _ _ _ (by omega), d4 o j (by omega)]
        · by_cases ek : k = i
          · subst ek; rw [setI_s, hnv]
          · rw [setI_n _ _ _ _ (by omega), d5 k (by omega)]
      exact ⟨fun h1 => fin _ (by unfold wNx; omega), fun h1 => fin _ (by unfold wNx; omega)⟩
  · have hi : i < npR I s := by omega
    have hp := pc_b h hw hi
    intro r25 er25
    have hr25 : r25 = some 238 := by rw [er25]; exact hSM.2.2.2.2.2.2.2.2.2.2.2.2.2.2.2.2.1
    refine r_pushOf h2 hw ((e4 _ _ (by decide)).trans (hwm i hi)) hv2 hi ?_
    rw [hv2.2]
    refine ⟨by omega, goA hr25 (by decide) ⟨by omega, by rw [show (SH 238).2 = 6 by decide]; omega⟩ ?_⟩
    have ep : (puL I w s b i).tdiv (bL I w s b) = pcL I w s b i := rfl
    rw [ep, l2i_in (inI_s (by omega) (by omega)), show ((i : Int)).toNat = i by omega]
    rintro _ rfl
    refine ⟨inI_s (by omega) (by omega), ?_⟩
    intro v31 e31
    refine ⟨⟨i + 1, by dsimp only; omega, by omega, e3, fun o j z => ?_, fun k hk => ?_⟩, by dsimp only; omega⟩
    · show (setI M2 238 i _).1 o j = _
      rw [setI_o _ _ _ _ z, e4 o j z]
    · show (setI M2 238 i _).1 238 k = _
      by_cases ek : k = i
      · subst ek; rw [setI_s]
      · rw [setI_n _ _ _ _ (by omega), e5 k (by omega)]
theorem c_most {Q : Int → Prop} (hr : Rst M I R w s b) (hn : npR I s ≤ 6) (hwm : ∀ i, i < npR I s → M.1 210 i = w i) (hq : Q (mxF w (npR I s))) : P_X6_mostWorn 209 M Q := by
  unfold P_X6_mostWorn P_X6_mostWorn_4
  refine lp_i (fun y : Int × Int => ∃ i : Nat, y.2 = i ∧ i ≤ npR I s ∧ y.1 = mxF w i) (fun y => (6 - y.2).toNat) ⟨0, rfl, by omega, rfl⟩ ?_
  rintro ⟨x1, x2⟩ ⟨i, e1, e2, e3⟩
  dsimp only at e1 e3
  subst e1
  show F_X6_mostWorn_4 209 M Q _ x1 (i : Int)
  unfold F_X6_mostWorn_4
  rw [hr.2.2.2.2.1]
  refine ⟨fun hle => ?_, fun hlt => ?_⟩
  · have : i = npR I s := by omega
    subst this
    rw [e3]; exact hq
  · rintro _ rfl
    refine goA hr.1.2.2.2.2.2.2.2.2.1 (by decide) ⟨by omega, by rw [show (SH 210).2 = 6 by decide]; omega⟩ ?_
    rw [show ((i : Int)).toNat = i by omega, hwm i (by omega)]
    intro v4 e4
    refine ⟨inI_s (by omega) (by omega), ?_⟩
    intro v5 e5
    exact ⟨⟨i + 1, by dsimp only; omega, by omega, by dsimp only; rw [e4, e3]; rfl⟩, by dsimp only; omega⟩
theorem r_past {m : Int} {Q : Int → Prop} (h : RC M I R p q s b) (hwm : ∀ i, i < npR I s → M.1 231 (6 * s + i) = w i) (hm : 1 ≤ m) (hq : Q (bi (m ≤ mxF w (npR I s)))) : P_X12_isPast 221 s m M Q := by
  have hn := h.np
  have hSM : StrM M.2.2.1 := by rw [h.2.1]; exact h.1.1.2.2.2.2.2.1
  have f6 : M.1 229 (6 + s) = (npR I s : Nat) := by rw [h.2.2.1 _ _ (dR_L (dP229 (by omega))) (by omega), hn.1]
  unfold P_X12_isPast P_X12_isPast_5
  refine lp_i (fun y : Int × Int => ∃ i : Nat, y.2 = i ∧ i ≤ npR I s ∧ y.1 = bi (m ≤ mxF w i)) (fun y => (6 - y.2).toNat) ⟨0, rfl, by omega, by show (0 : Int) = bi (m ≤ 0); rw [bi_f (by omega)]⟩ ?_
  rintro ⟨x3, x4⟩ ⟨i, e1, e2, e3⟩
  dsimp only at e1 e3
  subst e1
  show F_X12_isPast_5 221 s m M Q _ x3 (i : Int)
  unfold F_X12_isPast_5
  rintro _ rfl
  refine ⟨inI_s (by omega) (by omega), goA hSM.2.2.2.2.2.2.2.1 (by decide) ⟨by omega, by rw [show (SH 229).2 = 12 by decide]; omega⟩ ?_⟩
  rw [show (6 + (s : Int)).toNat = 6 + s by omega, f6]
  refine ⟨fun hle => ?_, fun hlt => ?_⟩
  · have : i = npR I s := by omega
    subst this
    rw [e3]; exact ⟨bi01, hq⟩
  · have hi : i < npR I s := by omega
    have em : mxF w (i + 1) = max (mxF w i) (w i) := rfl
    have nx : ∀ v : Int, v = (i : Int) + 1 → ∀ r : Int, r = bi (m ≤ mxF w (i + 1)) → (∃ i : Nat, v = i ∧ i ≤ npR I s ∧ r = bi (m ≤ mxF w i)) ∧ (6 - v).toNat < (6 - (i : Int)).toNat := fun v ev r er => ⟨⟨i + 1, by omega, by omega, er⟩, by omega⟩
    refine ⟨fun hz => ⟨inI_s (by omega) (by omega), fun v ev => nx v ev 1 ?_⟩, fun hz => ?_⟩
    · rw [e3, bi0] at hz
      have : m ≤ mxF w i := Classical.not_not.mp hz
      exact (bi_t (by rw [em]; omega)).symm
    · rw [e3, bi0] at hz
      rintro _ rfl
      refine ⟨inI_s (by omega) (by omega), inI_s (by omega) (by omega), goA hSM.2.2.2.2.2.2.2.2.2.1 (by decide) ⟨by omega, by rw [show (SH 231).2 = 36 by decide]; omega⟩ ?_⟩
      rw [show (6 * (s : Int) + (i : Int)).toNat = 6 * s + i by omega, hwm i hi]
      refine ⟨fun h1 => ⟨inI_s (by omega) (by omega), fun v ev => nx v ev 0 ?_⟩, fun h1 => ⟨inI_s (by omega) (by omega), fun v ev => nx v ev 1 ?_⟩⟩
      · exact (bi_f (by rw [em]; omega)).symm
      · exact (bi_t (by rw [em]; omega)).symm
end WE
