/-! through, dose -/
noncomputable def pcL (I : IFn) (w : Nat → Int) (s b i : Nat) : Int := (puL I w s b i).tdiv (bL I w s b)
noncomputable def thL (I : IFn) (w : Nat → Int) (s b : Nat) (t : Nat) (tone : Int) : Int := if sumN (pcL I w s b) (npR I s) < 1 then 0 else (((sumN (fun i => ltR I s i t * pcL I w s b i) (npR I s)).tdiv (sumN (pcL I w s b) (npR I s))) * tone).tdiv 100
section TH
variable {M : Mm} {I : IFn} {R : RFn} {p q s b : Nat} {w : Nat → Int}
theorem pc_b {i : Nat} (h : RC M I R p q s b) (hw : okW I w s) (hi : i < npR I s) : 0 ≤ pcL I w s b i ∧ pcL I w s b i ≤ 2000 := by
  have hf := lv_f h hw
  have hfi := hf.2.2.2.2.2 i hi
  have hW := h.wt
  have hm : I 233 (6 * b) * bL I w s b ≤ 2000 * bL I w s b := Int.mul_le_mul_of_nonneg_right hW.2 (by omega)
  unfold pcL
  rw [Int.tdiv_eq_ediv_of_nonneg (by omega)]
  refine ⟨Int.ediv_nonneg (by omega) (by omega), ?_⟩
  have : puL I w s b i / bL I w s b < 2001 := by
    rw [Int.ediv_lt_iff_lt_mul (by omega)]
    omega
  omega
theorem pc_0 {i : Nat} (h : RC M I R p q s b) (hw : okW I w s) (hi : i < npR I s) (h0 : saL I w s b i ≤ 0) : pcL I w s b i = 0 := by
  have hf := lv_f h hw
  have hs : sqL I w s b i ≤ 0 := by
    unfold saL at h0
    split at h0
    · assumption
    · split at h0 <;> omega
  have : puL I w s b i = 0 := puR_0 (seat_L h.1.2.2.2.2.2.2.2.1 h.1.2.2.2.2.2.2.2.2 h.2.2.2.1 hi).2.2 (by omega) hs
  unfold pcL
  rw [this]
  simp
theorem lt_b {i t : Nat} (h : RC M I R p q s b) (hi : i < npR I s) (ht : t < 4) : 0 ≤ ltR I s i t ∧ ltR I s i t ≤ 300 := by
  have hL := h.1.2.2.2.2.2.2.2.1
  have hl := seat_L hL h.1.2.2.2.2.2.2.2.2 h.2.2.2.1 hi
  have := (hL.2.2.2 _ hl.1).2.2 t ht
  unfold ltR
  omega
theorem th_sum {t n : Nat} (h : RC M I R p q s b) (hw : okW I w s) (ht : t < 4) (hn : n ≤ npR I s) : 0 ≤ sumN (pcL I w s b) n ∧ sumN (pcL I w s b) n ≤ 12000 ∧ 0 ≤ sumN (fun i => ltR I s i t * pcL I w s b i) n ∧ sumN (fun i => ltR I s i t * pcL I w s b i) n ≤ 300 * sumN (pcL I w s b) n := by
  have h6 := h.np
  have a1 := sumN_le (f := fun _ => 0) (g := pcL I w s b) (n := n) (fun i hi => (pc_b h hw (by omega)).1)
  have a2 := sumN_le (f := pcL I w s b) (g := fun _ => 2000) (n := n) (fun i hi => (pc_b h hw (by omega)).2)
  have a3 := sumN_le (f := fun _ => 0) (g := fun i => ltR I s i t * pcL I w s b i) (n := n) (fun i hi => Int.mul_nonneg (lt_b h (by omega) ht).1 (pc_b h hw (by omega)).1)
  have a4 : ∀ k, k ≤ n → sumN (fun i => ltR I s i t * pcL I w s b i) k ≤ 300 * sumN (pcL I w s b) k := by
    intro k
    induction k with
    | zero => intro _; exact Int.le_refl _
    | succ k ih =>
      intro hk
      have := ih (by omega)
      have h1 : ltR I s k t * pcL I w s b k ≤ 300 * pcL I w s b k := Int.mul_le_mul_of_nonneg_right (lt_b h (by omega) ht).2 (pc_b h hw (by omega)).1
      show sumN _ k + ltR I s k t * pcL I w s b k ≤ 300 * (sumN _ k + pcL I w s b k)
      omega
  rw [sumN_c] at a1 a2 a3
  have := a4 n (Nat.le_refl _)
  omega
theorem th_b {t : Nat} {tone : Int} (h : RC M I R p q s b) (hw : okW I w s) (ht : t < 4) (hto : 0 ≤ tone ∧ tone ≤ 1000) : 0 ≤ thL I w s b t tone ∧ thL I w s b t tone ≤ 3000 := by
  have hs := th_sum h hw ht (Nat.le_refl _)
  unfold thL
  split
  · omega
  · rw [Int.tdiv_eq_ediv_of_nonneg (a := sumN (fun i => ltR I s i t * pcL I w s b i) (npR I s)) hs.2.2.1]
    obtain ⟨d, hd⟩ : ∃ d, d = sumN (fun i => ltR I s i t * pcL I w s b i) (npR I s) / sumN (pcL I w s b) (npR I s) := ⟨_, rfl⟩
    rw [← hd]
    have d0 : 0 ≤ d := by rw [hd]; exact Int.ediv_nonneg hs.2.2.1 hs.1
    have d1 : d < 301 := by
      rw [hd, Int.ediv_lt_iff_lt_mul (by omega)]
      omega
    have m0 : 0 ≤ d * tone := Int.mul_nonneg d0 hto.1
    have m1 : d * tone ≤ 300 * tone := Int.mul_le_mul_of_nonneg_right (by omega) hto.1
    rw [Int.tdiv_eq_ediv_of_nonneg m0]
    omega
theorem c_pushCut {i : Nat} {Q : Int → Prop} (h : RC M I R p q s b) (hw : okW I w s) (hr : Rst M I R w s b) (hi : i < npR I s) (hq : Q (pcL I w s b i)) : P_X6_pushCutAt 209 i M Q := by
  have hf := lv_f h hw
  have hn := h.np
  unfold P_X6_pushCutAt
  rw [hr.2.2.2.1]
  exact ⟨fun _ => c_pushAt hr (by omega) hi ⟨by omega, hq⟩, fun z => absurd (by omega) z⟩
theorem c_through {rd t : Nat} {tone : Int} {Q : Int → Prop} (h : RC M I R p q s b) (hw : okW I w s) (hr : Rst M I R w s b) (hrd : rd < 4) (ht : t < 4) (hto : M.1 219 (4 * rd + t) = tone ∧ 0 ≤ tone ∧ tone ≤ 1000) (hq : Q (thL I w s b t tone)) : P_X7_comesThrough 218 (some 209) rd t M Q := by
  have hn := h.np
  unfold P_X7_comesThrough P_X7_comesThrough_9
  refine lp_i (fun y : Int × Int × Int => ∃ i : Nat, y.2.2 = i ∧ i ≤ npR I s ∧ y.1 = sumN (fun i => ltR I s i t * pcL I w s b i) i ∧ y.2.1 = sumN (pcL I w s b) i) (fun y => (6 - y.2.2).toNat) ⟨0, rfl, by omega, rfl, rfl⟩ ?_
  rintro ⟨x4, x5, x6⟩ ⟨i, e1, e2, e3, e4⟩
  dsimp only at e1 e3 e4
  subst e1
  show F_X7_comesThrough_9 218 (some 209) rd t M Q _ x4 x5 (i : Int)
  subst e3 e4
  have hs := th_sum h hw ht e2
  unfold F_X7_comesThrough_9
  refine goO rfl (by decide) ?_
  unfold P_X6_patches
  rw [hr.2.2.2.2.1]
  refine ⟨fun hle => ?_, fun hlt => ?_⟩
  · have : i = npR I s := by omega
    subst this
    have hb := th_b h hw ht hto.2
    unfold thL at hq hb
    refine ⟨fun h1 => ⟨by omega, c_tone hr.1.2.2.2.2.2.2.2.2.2.2.2.2.2.2.2 (fun a c e1 e2 ha hc => ?_) (fun z => absurd ⟨by omega, by omega⟩ z)⟩, fun h1 => ?_⟩
    · have ea : a = rd := by omega
      have ec : c = t := by omega
      subst ea ec
      rw [hto.1]
      rw [if_neg (by omega)] at hq hb
      rw [Int.tdiv_eq_ediv_of_nonneg (a := sumN (fun i => ltR I s i c * pcL I w s b i) (npR I s)) hs.2.2.1] at hq ⊢
      obtain ⟨d, hd⟩ : ∃ d, d = sumN (fun i => ltR I s i c * pcL I w s b i) (npR I s) / sumN (pcL I w s b) (npR I s) := ⟨_, rfl⟩
      rw [← hd] at hq ⊢
      have d0 : 0 ≤ d := by rw [hd]; exact Int.ediv_nonneg hs.2.2.1 hs.1
      have d1 : d < 301 := by
        rw [hd, Int.ediv_lt_iff_lt_mul (by omega)]
        omega
      have m0 : 0 ≤ d * tone := Int.mul_nonneg d0 hto.2.1
      have m1 : d * tone ≤ 300 * tone := Int.mul_le_mul_of_nonneg_right (by omega) hto.2.1
      exact ⟨inI_s (by omega) (by omega), hq⟩
    · rw [if_pos (by omega)] at hq
      exact hq
  · have hi : i < npR I s := by omega
    have hp1 := pc_b h hw hi
    have hl1 := lt_b h hi ht
    refine c_pushCut h hw hr hi ?_
    unfold P_X6_letAt
    rw [c_isHere hr.2.2.2.2.1 (by omega), bi_t (by omega)]
    refine ⟨fun z => absurd z (by decide), fun _ => ?_⟩
    rw [p_isTone, bi_t (by omega)]
    refine ⟨fun z => absurd z (by decide), fun _ => ?_⟩
    rintro _ rfl
    refine ⟨inI_s (by omega) (by omega), inI_s (by omega) (by omega), goA hr.1.2.2.2.2.2.2.2.2.2.2.2.2.1 (by decide) ⟨by omega, by rw [show (SH 214).2 = 24 by decide]; omega⟩ ?_⟩
    rw [show ((i : Int) * 4 + (t : Int)).toNat = 4 * i + t by omega, (hr.2.2.2.2.2 i hi).2.2.2 t ht]
    have m0 : 0 ≤ ltR I s i t * pcL I w s b i := Int.mul_nonneg hl1.1 hp1.1
    have m1 : ltR I s i t * pcL I w s b i ≤ 300 * pcL I w s b i := Int.mul_le_mul_of_nonneg_right hl1.2 hp1.1
    refine ⟨inI_s (by omega) (by omega), inI_s (by omega) (by omega), ?_⟩
    intro v7 e7
    refine ⟨inI_s (by omega) (by omega), ?_⟩
    intro v8 e8
    refine ⟨inI_s (by omega) (by omega), ?_⟩
    intro v9 e9
    exact ⟨⟨i + 1, by dsimp only; omega, by omega, e7, e8⟩, by dsimp only; omega⟩
theorem r_through {rd t : Nat} {tone : Int} {Q : Int → Prop} (h : RC M I R p q s b) (hw : okW I w s) (hwm : ∀ i, i < npR I s → M.1 231 (6 * s + i) = w i) (hv : LVr M I w s b) (hrd : rd < 4) (ht : t < 4) (hto : M.1 236 (4 * rd + t) = tone ∧ 0 ≤ tone ∧ tone ≤ 1000) (hq : Q (thL I w s b t tone)) : P_X12_throughOf 221 b s rd t M Q := by
  have hn := h.np
  have hf := lv_f h hw
  have hSM : StrM M.2.2.1 := by rw [h.2.1]; exact h.1.1.2.2.2.2.2.1
  have f6 : M.1 229 (6 + s) = (npR I s : Nat) := by rw [h.2.2.1 _ _ (dR_L (dP229 (by omega))) (by omega), hn.1]
  unfold P_X12_throughOf P_X12_throughOf_9
  refine lp_i (fun y : Int × Int × Int => ∃ i : Nat, y.2.2 = i ∧ i ≤ npR I s ∧ y.1 = sumN (fun i => ltR I s i t * pcL I w s b i) i ∧ y.2.1 = sumN (pcL I w s b) i) (fun y => (6 - y.2.2).toNat) ⟨0, rfl, by omega, rfl, rfl⟩ ?_
  rintro ⟨x5, x7, x9⟩ ⟨i, e1, e2, e3, e4⟩
  dsimp only at e1 e3 e4
  subst e1
  show F_X12_throughOf_9 221 b s rd t M Q _ x5 x7 (i : Int)
  subst e3 e4
  have hs := th_sum h hw ht e2
  unfold F_X12_throughOf_9
  rintro _ rfl
  refine ⟨inI_s (by omega) (by omega), goA hSM.2.2.2.2.2.2.2.1 (by decide) ⟨by omega, by rw [show (SH 229).2 = 12 by decide]; omega⟩ ?_⟩
  rw [show (6 + (s : Int)).toNat = 6 + s by omega, f6]
  refine ⟨fun hle => ?_, fun hlt => ?_⟩
  · have : i = npR I s := by omega
    subst this
    have hb := th_b h hw ht hto.2
    unfold thL at hq hb
    refine ⟨fun h1 => ⟨by omega, ?_⟩, fun h1 => ?_⟩
    · rintro _ rfl
      refine ⟨inI_s (by omega) (by omega), inI_s (by omega) (by omega), goA hSM.2.2.2.2.2.2.2.2.2.2.2.2.2.2.1 (by decide) ⟨by omega, by rw [show (SH 236).2 = 16 by decide]; omega⟩ ?_⟩
      rw [show (4 * (rd : Int) + (t : Int)).toNat = 4 * rd + t by omega, hto.1]
      rw [if_neg (by omega)] at hq hb
      rw [Int.tdiv_eq_ediv_of_nonneg (a := sumN (fun i => ltR I s i t * pcL I w s b i) (npR I s)) hs.2.2.1] at hq hb ⊢
      obtain ⟨d, hd⟩ : ∃ d, d = sumN (fun i => ltR I s i t * pcL I w s b i) (npR I s) / sumN (pcL I w s b) (npR I s) := ⟨_, rfl⟩
      rw [← hd] at hq hb ⊢
      have d0 : 0 ≤ d := by rw [hd]; exact Int.ediv_nonneg hs.2.2.1 hs.1
      have d1 : d < 301 := by
        rw [hd, Int.ediv_lt_iff_lt_mul (by omega)]
        omega
      have m0 : 0 ≤ d * tone := Int.mul_nonneg d0 hto.2.1
      have m1 : d * tone ≤ 300 * tone := Int.mul_le_mul_of_nonneg_right (by omega) hto.2.1
      exact ⟨inL_s (by omega) (by omega), by rw [l2i_in (inI_s (by omega) (by omega))]; exact hq⟩
    · rw [if_pos (by omega)] at hq
      exact hq
  · have hi : i < npR I s := by omega
    have hp1 := pc_b h hw hi
    have hl1 := lt_b h hi ht
    have hl := seat_L h.1.2.2.2.2.2.2.2.1 h.1.2.2.2.2.2.2.2.2 h.2.2.2.1 hi
    have hl8 : Li I s i < 8 := by have := h.1.2.2.2.2.2.2.2.1.2.2.1; omega
    refine r_bearsBy h hw (hwm i hi) hv hi ⟨fun h1 => ⟨inI_s (by omega) (by omega), ?_⟩, fun h1 => ?_⟩
    · have h0 := pc_0 h hw hi h1
      intro v8 e8
      refine ⟨⟨i + 1, by dsimp only; omega, by omega, ?_, ?_⟩, by dsimp only; omega⟩
      · show _ = sumN _ i + ltR I s i t * pcL I w s b i
        rw [h0]; simp
      · show _ = sumN _ i + pcL I w s b i
        rw [h0]; simp
    · refine r_pushOf h hw (hwm i hi) hv hi ?_
      rw [hv.2]
      refine ⟨by omega, ?_⟩
      rintro v10 e10
      have e10' : v10 = pcL I w s b i := e10
      rintro _ rfl
      refine r_layerOf h hi ?_
      refine ⟨inI_s (by omega) (by omega), inI_s (by omega) (by omega), inI_s (by omega) (by omega), goA hSM.2.2.2.2.1 (by decide) ⟨by omega, by rw [show (SH 226).2 = 64 by decide]; omega⟩ ?_⟩
      have fl : M.1 226 (32 + 4 * ((Li I s i : Nat) : Int) + (t : Int)).toNat = ltR I s i t := by rw [show (32 + 4 * ((Li I s i : Nat) : Int) + (t : Int)).toNat = 32 + 4 * Li I s i + t by omega, h.2.2.1 _ _ (dR_L (dP226 (by omega))) (by omega)]; rfl
      rw [fl, e10']
      have m0 : 0 ≤ pcL I w s b i * ltR I s i t := Int.mul_nonneg hp1.1 hl1.1
      have m1 : pcL I w s b i * ltR I s i t ≤ pcL I w s b i * 300 := Int.mul_le_mul_of_nonneg_left hl1.2 hp1.1
      refine ⟨inL_s (by omega) (by omega), inL_s (by omega) (by omega), ?_⟩
      intro v15 e15
      refine ⟨inL_s (by omega) (by omega), ?_⟩
      intro v16 e16
      refine ⟨inI_s (by omega) (by omega), ?_⟩
      intro v17 e17
      refine ⟨⟨i + 1, by dsimp only; omega, by omega, ?_, e16⟩, by dsimp only; omega⟩
      dsimp only
      rw [e15, Int.mul_comm]
      rfl
/-- the dose of an hour on a road whose tones are f -/
noncomputable def doL (I : IFn) (w : Nat → Int) (s b : Nat) (f : Nat → Int) (n : Nat) : Int := sumN (fun t => thL I w s b t (f t) * thL I w s b t (f t)) n
theorem do_b {f : Nat → Int} {n : Nat} (h : RC M I R p q s b) (hw : okW I w s) (hf : ∀ t, t < 4 → 0 ≤ f t ∧ f t ≤ 1000) (hn : n ≤ 4) : 0 ≤ doL I w s b f n ∧ doL I w s b f n ≤ 36000000 := by
  have a1 := sumN_le (f := fun _ => 0) (g := fun t => thL I w s b t (f t) * thL I w s b t (f t)) (n := n) (fun t ht => by
    have := th_b h hw (t := t) (by omega) (hf t (by omega))
    exact Int.mul_nonneg this.1 this.1)
  have a2 := sumN_le (f := fun t => thL I w s b t (f t) * thL I w s b t (f t)) (g := fun _ => 9000000) (n := n) (fun t ht => by
    have := th_b h hw (t := t) (by omega) (hf t (by omega))
    have m := Int.mul_le_mul this.2 this.2 this.1 (by decide : (0 : Int) ≤ 3000)
    omega)
  rw [sumN_c] at a1 a2
  unfold doL
  omega
theorem c_dose {rd : Nat} {f : Nat → Int} {Q : Int → Prop} (h : RC M I R p q s b) (hw : okW I w s) (hr : Rst M I R w s b) (hrd : rd < 4) (hto : ∀ t, t < 4 → M.1 219 (4 * rd + t) = f t ∧ 0 ≤ f t ∧ f t ≤ 1000) (hq : Q (doL I w s b f 4)) : P_X7_doseOfHour 218 (some 209) rd M Q := by
  unfold P_X7_doseOfHour P_X7_doseOfHour_5
  refine lp_i (fun y : Int × Int => ∃ t : Nat, y.2 = t ∧ t ≤ 4 ∧ y.1 = doL I w s b f t) (fun y => (4 - y.2).toNat) ⟨0, rfl, by omega, rfl⟩ ?_
  rintro ⟨x3, x5⟩ ⟨t, e1, e2, e3⟩
  dsimp only at e1 e3
  subst e1
  show F_X7_doseOfHour_5 218 (some 209) rd M Q _ x3 (t : Int)
  subst e3
  unfold F_X7_doseOfHour_5
  refine ⟨fun hle => ?_, fun hlt => ?_⟩
  · have : t = 4 := by omega
    subst this
    exact hq
  · have hb := do_b h hw (fun t ht => (hto t ht).2) e2
    refine c_through h hw hr hrd (by omega) (hto t (by omega)) ?_
    have htb := th_b h hw (t := t) (by omega) (hto t (by omega)).2
    have m0 := Int.mul_nonneg htb.1 htb.1
    have m1 := Int.mul_le_mul htb.2 htb.2 htb.1 (by decide : (0 : Int) ≤ 3000)
    refine ⟨inL_s (by omega) (by omega), inL_s (by omega) (by omega), ?_⟩
    intro v2 ev2
    refine ⟨inI_s (by omega) (by omega), ?_⟩
    intro v3 ev3
    exact ⟨⟨t + 1, by dsimp only; omega, by omega, ev2⟩, by dsimp only; omega⟩
theorem r_dose {rd : Nat} {hh : Int} {f : Nat → Int} {Q : Int → Prop} (h : RC M I R p q s b) (hw : okW I w s) (hwm : ∀ i, i < npR I s → M.1 231 (6 * s + i) = w i) (hv : LVr M I w s b) (hrd : rd < 4) (hhh : 0 ≤ hh ∧ hh ≤ 24) (hto : ∀ t, t < 4 → M.1 236 (4 * rd + t) = f t ∧ 0 ≤ f t ∧ f t ≤ 1000) (hq : Q (hh * doL I w s b f 4)) : P_X12_doseOf 221 b s rd hh M Q := by
  unfold P_X12_doseOf P_X12_doseOf_6
  refine lp_i (fun y : Int × Int => ∃ t : Nat, y.2 = t ∧ t ≤ 4 ∧ y.1 = doL I w s b f t) (fun y => (4 - y.2).toNat) ⟨0, rfl, by omega, rfl⟩ ?_
  rintro ⟨x5, x7⟩ ⟨t, e1, e2, e3⟩
  dsimp only at e1 e3
  subst e1
  show F_X12_doseOf_6 221 b s rd hh M Q _ x5 (t : Int)
  subst e3
  unfold F_X12_doseOf_6
  have hb := do_b h hw (fun t ht => (hto t ht).2) e2
  refine ⟨fun hle => ?_, fun hlt => ?_⟩
  · have : t = 4 := by omega
    subst this
    rw [Int.mul_comm]
    have m0 := Int.mul_nonneg hhh.1 hb.1
    have m1 := Int.mul_le_mul hhh.2 hb.2 hb.1 (by decide : (0 : Int) ≤ 24)
    exact ⟨inL_s (by omega) (by omega), hq⟩
  · refine r_through h hw hwm hv hrd (by omega) (hto t (by omega)) ?_
    have htb := th_b h hw (t := t) (by omega) (hto t (by omega)).2
    have m0 := Int.mul_nonneg htb.1 htb.1
    have m1 := Int.mul_le_mul htb.2 htb.2 htb.1 (by decide : (0 : Int) ≤ 3000)
    refine ⟨inL_s (by omega) (by omega), inL_s (by omega) (by omega), ?_⟩
    intro v2 ev2
    refine ⟨inI_s (by omega) (by omega), ?_⟩
    intro v3 ev3
    exact ⟨⟨t + 1, by dsimp only; omega, by omega, ev2⟩, by dsimp only; omega⟩
end TH
