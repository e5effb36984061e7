/-! level, push, bears, press -/
theorem setJ_s (M : Mm) (o k : Nat) (v : Int) : (setJ M o k v).2.1 o k = v := by simp [setJ, up2]
theorem setJ_n (M : Mm) (o k : Nat) (v : Int) {a j : Nat} (h : ¬ (a = o ∧ j = k)) : (setJ M o k v).2.1 a j = M.2.1 a j := by simp [setJ, up2, h]
/-- the first of the greatest among the first n -/
def fstF (f : Nat → Int) : Nat → Nat
  | 0 => 0
  | n + 1 => if n = 0 then 0 else if f (fstF f n) < f n then n else fstF f n
theorem fstF_lt {f : Nat → Int} : ∀ n, fstF f n ≤ n - 1 := by
  intro n
  induction n with
  | zero => exact Nat.le_refl _
  | succ n ih =>
    show (if n = 0 then 0 else if f (fstF f n) < f n then n else fstF f n) ≤ n
    split
    · omega
    · split <;> omega
theorem fstF_s {f : Nat → Int} {n : Nat} (h : 1 ≤ n) : fstF f (n + 1) = if f (fstF f n) < f n then n else fstF f n := by
  show (if n = 0 then 0 else if f (fstF f n) < f n then n else fstF f n) = _
  rw [if_neg (by omega)]
theorem fstF_max {f : Nat → Int} : ∀ n k, k < n → f k ≤ f (fstF f n) := by
  intro n
  induction n with
  | zero => intro k hk; omega
  | succ n ih =>
    intro k hk
    by_cases h0 : n = 0
    · subst h0
      have : k = 0 := by omega
      subst this
      exact Int.le_refl _
    · rw [fstF_s (by omega)]
      have := ih (n - 1) (by omega)
      by_cases hkn : k = n
      · subst hkn
        split <;> omega
      · have := ih k (by omega)
        split <;> omega
theorem fstF_congr {f g : Nat → Int} : ∀ n, (∀ k, k < n → f k = g k) → fstF f n = fstF g n := by
  intro n
  induction n with
  | zero => intro _; rfl
  | succ n ih =>
    intro h
    have e := ih (fun k hk => h k (by omega))
    by_cases h0 : n = 0
    · subst h0; rfl
    · rw [fstF_s (by omega), fstF_s (by omega), e, h n (by omega)]
      have := fstF_lt (f := g) n
      rw [h (fstF g n) (by omega)]
section RS
variable {M : Mm} {I : IFn} {R : RFn} {p q s b : Nat} {w : Nat → Int}
/-- the class's Rest holds a body at rest -/
def Rst (M : Mm) (I : IFn) (R : RFn) (w : Nat → Int) (s b : Nat) : Prop := StrC M.2.2.1 ∧ M.2.2.1 = R ∧ M.1 209 0 = aL I w s b ∧ M.1 209 1 = bL I w s b ∧ M.1 209 2 = ((npR I s : Nat) : Int) ∧ ∀ i, i < npR I s → at_ M I w s b i
def LVr (M : Mm) (I : IFn) (w : Nat → Int) (s b : Nat) : Prop := M.2.1 221 23 = aL I w s b ∧ M.2.1 221 24 = bL I w s b
theorem r_lay {Q : Mm → Prop} (h : RC M I R p q s b) (hw : okW I w s) (hwm : ∀ i, i < npR I s → M.1 231 (6 * s + i) = w i) (hq : ∀ M' : Mm, M'.1 = M.1 → M'.2.2 = M.2.2 → LVr M' I w s b → Q M') : P_X12_layLevel 221 b s M Q := by
  refine r_layLevel h hw hwm (fun z ez h1 h2 h3 h4 => hq _ rfl rfl ?_)
  have eb : frD z (totW I w s b z) (totW I w s b (z + 1)) (I 233 (6 * b)) = bL I w s b := by unfold bL zL; rw [← ez]
  have ea : frN z (totW I w s b z) (totW I w s b (z + 1)) (I 233 (6 * b)) = aL I w s b := by unfold aL zL; rw [← ez]
  rw [ea, eb]
  exact ⟨by rw [setJ_n _ _ _ _ (by omega), setJ_s], by rw [setJ_s]⟩
theorem r_squeezed {i : Nat} {Q : Int → Prop} (h : RC M I R p q s b) (hw : okW I w s) (hwm : M.1 231 (6 * s + i) = w i) (hv : LVr M I w s b) (hi : i < npR I s) (hq : Q (sqL I w s b i)) : P_X12_squeezed 221 b s i M Q := by
  have hf := lv_f h hw
  have ht := tch_b h.1.2.2.2.2.2.2.2.2 h.1.2.2.2.1 hw h.2.2.2.1 h.b12 hi
  have b1 : tch I w s b i * bL I w s b ≤ 300 * bL I w s b := Int.mul_le_mul_of_nonneg_right ht.2 (by omega)
  have b2 : -100 * bL I w s b ≤ tch I w s b i * bL I w s b := Int.mul_le_mul_of_nonneg_right ht.1 (by omega)
  unfold P_X12_squeezed
  refine r_touchOf h hi hw hwm ?_
  rw [hv.1, hv.2]
  exact ⟨inL_s (by omega) (by omega), inL_s (by omega) (by omega), hq⟩
theorem r_pushOf {i : Nat} {Q : Int → Prop} (h : RC M I R p q s b) (hw : okW I w s) (hwm : M.1 231 (6 * s + i) = w i) (hv : LVr M I w s b) (hi : i < npR I s) (hq : Q (puL I w s b i)) : P_X12_pushOf 221 b s i M Q := by
  have hf := lv_f h hw
  have hfi := hf.2.2.2.2.2 i hi
  have hl := seat_L h.1.2.2.2.2.2.2.2.1 h.1.2.2.2.2.2.2.2.2 h.2.2.2.1 hi
  unfold P_X12_pushOf
  refine r_layerOf h hi (r_squeezed h hw hwm hv hi ?_)
  rw [hv.2]
  exact r_pushBy h.1.2.2.2.2.2.2.2.1 (by rw [h.2.1]; exact h.1.1.2.2.2.2.2.1) h.2.2.1 hl.1 (by omega) (by omega) hq
theorem r_long {l : Nat} {Q : Int → Prop} (hL : LAY I p) (hS : StrM M.2.2.1) (hA : AG M I p) (hl : (l : Int) < I 223 1) (hq : Q (wlR I l)) : P_X12_longOf 221 l M Q := by
  have hl8 : l < 8 := by have := hL.2.2.1; omega
  obtain ⟨hok, hc, hc1, hc4⟩ := lay_ok hL hl
  have hcm : M.1 224 (8 + l) = (ctR I l : Nat) := by rw [hA _ _ (dR_L (dP224 (by omega))) (by omega), hc]
  unfold P_X12_longOf P_X12_longOf_4
  refine lp_i (fun y : Int × Int => ∃ i : Nat, y.2 = i ∧ i ≤ ctR I l ∧ y.1 = sumN (lnR I l) i) (fun y => (4 - y.2).toNat) ⟨0, rfl, by omega, rfl⟩ ?_
  rintro ⟨x2, x3⟩ ⟨i, e1, e2, e3⟩
  dsimp only at e1 e3
  subst e1
  show F_X12_longOf_4 221 l M Q _ x2 (i : Int)
  unfold F_X12_longOf_4
  rintro _ rfl
  refine ⟨inI_s (by omega) (by omega), goA hS.2.2.1 (by decide) ⟨by omega, by rw [show (SH 224).2 = 16 by decide]; omega⟩ ?_⟩
  rw [show (8 + (l : Int)).toNat = 8 + l by omega, hcm]
  refine ⟨fun hle => ?_, fun hlt => ?_⟩
  · have : i = ctR I l := by omega
    subst this
    rw [e3]; exact hq
  · have hk := hok i (by omega)
    rintro _ rfl
    refine ⟨inI_s (by omega) (by omega), inI_s (by omega) (by omega), inI_s (by omega) (by omega), inI_s (by omega) (by omega), goA hS.2.2.2.1 (by decide) ⟨by omega, by rw [show (SH 225).2 = 128 by decide]; omega⟩ ?_⟩
    have f1 : M.1 225 ((64 + 8 * (l : Int)) + 2 * (i : Int)).toNat = lnR I l i := by rw [show ((64 + 8 * (l : Int)) + 2 * (i : Int)).toNat = 64 + 8 * l + 2 * i by omega, hA _ _ (dR_L (dP225 (by omega))) (by omega)]; rfl
    rw [f1]
    have b1 := sumN_le (f := lnR I l) (g := fun _ => 100) (n := i) (fun k hk => by have := hok k (by omega); omega)
    have b0 := sumN_le (f := fun _ => 0) (g := lnR I l) (n := i) (fun k hk => by have := hok k (by omega); omega)
    rw [sumN_c] at b0 b1
    refine ⟨inI_s (by omega) (by omega), ?_⟩
    intro v7 e7
    refine ⟨inI_s (by omega) (by omega), ?_⟩
    intro v8 e8
    exact ⟨⟨i + 1, by dsimp only; omega, by omega, by dsimp only; rw [e7, e3]; rfl⟩, by dsimp only; omega⟩
theorem r_bearsBy {i : Nat} {Q : Int → Prop} (h : RC M I R p q s b) (hw : okW I w s) (hwm : M.1 231 (6 * s + i) = w i) (hv : LVr M I w s b) (hi : i < npR I s) (hq : Q (saL I w s b i)) : P_X12_bearsBy 221 b s i M Q := by
  have hf := lv_f h hw
  have hL := h.1.2.2.2.2.2.2.2.1
  have hl := seat_L hL h.1.2.2.2.2.2.2.2.2 h.2.2.2.1 hi
  have hwl := wl_b hL hl.1
  have m1 : wlR I (Li I s i) * bL I w s b ≤ 400 * bL I w s b := Int.mul_le_mul_of_nonneg_right hwl.2 (by omega)
  have m0 : 0 ≤ wlR I (Li I s i) * bL I w s b := Int.mul_nonneg hwl.1 (by omega)
  unfold P_X12_bearsBy
  refine r_squeezed h hw hwm hv hi ⟨fun h1 => ?_, fun h1 => ?_⟩
  · refine r_layerOf h hi (r_long hL (by rw [h.2.1]; exact h.1.1.2.2.2.2.2.1) h.2.2.1 hl.1 ?_)
    rw [hv.2]
    refine ⟨inL_s (by omega) (by omega), fun h2 => ?_, fun h2 => ?_⟩
    · have e : saL I w s b i = 1 := by unfold saL; rw [if_neg (by omega), if_pos h2]
      rw [← e]; exact hq
    · have e : saL I w s b i = 2 := by unfold saL; rw [if_neg (by omega), if_neg h2]
      rw [← e]; exact hq
  · have e : saL I w s b i = 0 := by unfold saL; rw [if_pos (by omega)]
    rw [← e]; exact hq
theorem r_presses {Q : Mm → Prop} (h : RC M I R p q s b) (hw : okW I w s) (hwm : ∀ i, i < npR I s → M.1 231 (6 * s + i) = w i) (hq : ∀ M' : Mm, M'.2.2 = M.2.2 → LVr M' I w s b → (∀ o j, o ≠ 238 → M'.1 o j = M.1 o j) → (∀ i, i < npR I s → M'.1 238 i = prL I w s b i) → Q M') : P_X12_layPresses 221 b s M Q := by
  have hn := h.np
  have hS := h.1.1.2.2.2.2.2.1
  have hf := lv_f h hw
  have hWb := lv_W h hw
  unfold P_X12_layPresses
  refine r_lay h hw hwm (fun M1 g1 g2 g3 => ?_)
  unfold P_X12_layPresses_8
  refine lp_i (fun y : Int × Mm => ∃ i : Nat, y.1 = i ∧ i ≤ npR I s ∧ y.2.2 = M1.2 ∧ (∀ o j, o ≠ 238 → y.2.1 o j = M.1 o j) ∧ ∀ k, k < i → y.2.1 238 k = prL I w s b k) (fun y => (6 - y.1).toNat) ⟨0, rfl, by omega, rfl, fun o j _ => by dsimp only; rw [g1], fun k hk => by omega⟩ ?_
  rintro ⟨x3, M2⟩ ⟨i, e1, e2, e3, e4, e5⟩
  dsimp only at e1 e3 e4 e5
  subst e1
  show F_X12_layPresses_8 221 b s Q _ (i : Int) M2
  have hR2 : M2.2.2.1 = M.2.2.1 := by rw [e3, g2]
  have h2 : RC M2 I R p q s b := h.mv hR2 (fun o j z _ => e4 o j (by have := dREL_sc h.1.1.1.p z; omega))
  have hv2 : LVr M2 I w s b := by unfold LVr; rw [e3]; exact g3
  have f6 : M2.1 229 (6 + s) = (npR I s : Nat) := by rw [h2.2.2.1 _ _ (dR_L (dP229 (by omega))) (by omega), hn.1]
  have hSM : StrM M2.2.2.1 := by rw [h2.2.1]; exact hS
  unfold F_X12_layPresses_8
  rintro _ rfl
  refine ⟨inI_s (by omega) (by omega), goA hSM.2.2.2.2.2.2.2.1 (by decide) ⟨by omega, by rw [show (SH 229).2 = 12 by decide]; omega⟩ ?_⟩
  rw [show (6 + (s : Int)).toNat = 6 + s by omega, f6]
  refine ⟨fun hle => ?_, fun hlt => ?_⟩
  · have : i = npR I s := by omega
    subst this
    exact hq M2 (by rw [e3]; exact g2) hv2 e4 e5
  · have hi : i < npR I s := by omega
    have hfi := hf.2.2.2.2.2 i hi
    have hpr := pr_b h hw hi
    intro r4 er4
    have hr4 : r4 = some 238 := by rw [er4]; exact hSM.2.2.2.2.2.2.2.2.2.2.2.2.2.2.2.2.1
    refine r_pushOf h2 hw ((e4 _ _ (by decide)).trans (hwm i hi)) hv2 hi ?_
    refine ⟨inL_s (by omega) (by omega), ?_⟩
    rintro _ rfl
    refine ⟨inI_s (by omega) (by omega), inI_s (by omega) (by omega), inI_s (by omega) (by omega), inI_s (by omega) (by omega), inI_s (by omega) (by omega), goA hSM.2.2.2.2.2.2.2.2.1 (by decide) ⟨by omega, by rw [show (SH 230).2 = 216 by decide]; omega⟩ ?_⟩
    have fa : M2.1 230 (108 + 18 * (s : Int) + 3 * (i : Int) + 2).toNat = arR I s i := by rw [show (108 + 18 * (s : Int) + 3 * (i : Int) + 2).toNat = 108 + 18 * s + 3 * i + 2 by omega, h2.2.2.1 _ _ (dR_L (dP230 (by omega))) (by omega)]; rfl
    rw [fa, hv2.2]
    refine ⟨inL_s (by omega) (by omega), by omega, goA hr4 (by decide) ⟨by omega, by rw [show (SH 238).2 = 6 by decide]; omega⟩ ?_⟩
    have epr : (100 * puL I w s b i).tdiv (bL I w s b * arR I s i) = prL I w s b i := rfl
    rw [epr, l2i_in (inI_s (by omega) (by omega)), show ((i : Int)).toNat = i by omega]
    rintro _ rfl
    refine ⟨inI_s (by omega) (by omega), ?_⟩
    intro v13 e13
    refine ⟨⟨i + 1, by dsimp only; omega, by omega, e3, fun o j z => ?_, fun k hk => ?_⟩, by dsimp only; omega⟩
    · show (setI M2 238 i _).1 o j = _
      rw [setI_o _ _ _ _ z, e4 o j z]
    · show (setI M2 238 i _).1 238 k = _
      by_cases ek : k = i
      · subst ek; rw [setI_s]
      · rw [setI_n _ _ _ _ (by omega), e5 k (by omega)]
-- the class's Rest, read
theorem c_isHere {x : Int} {Q : Int → Prop} (h : M.1 209 2 = ((npR I s : Nat) : Int)) (hn : npR I s ≤ 6) : P_X6_isHere 209 x M Q ↔ Q (bi (0 ≤ x ∧ x ≤ ((npR I s : Nat) : Int) - 1)) := by
  unfold P_X6_isHere
  rw [h, p_isWithin]
  exact ⟨fun h => h.2.2, fun h => ⟨inI_s (by omega) (by omega), bi01, h⟩⟩
theorem c_pushAt {i : Nat} {Q : Int → Prop} (h : Rst M I R w s b) (hn : npR I s ≤ 6) (hi : i < npR I s) (hq : Q (puL I w s b i)) : P_X6_pushAt 209 i M Q := by
  unfold P_X6_pushAt
  rw [c_isHere h.2.2.2.2.1 hn, bi_t (by omega)]
  refine ⟨fun z => absurd z (by decide), fun _ => ?_⟩
  rintro _ rfl
  refine goA h.1.2.2.2.2.2.2.2.2.2.2.2.1 (by decide) ⟨by omega, by rw [show (SH 213).2 = 6 by decide]; omega⟩ ?_
  rw [show ((i : Int)).toNat = i by omega, (h.2.2.2.2.2 i hi).1]
  exact hq
theorem c_stateAt {i : Nat} {Q : Int → Prop} (h : Rst M I R w s b) (hn : npR I s ≤ 6) (hi : i < npR I s) (hq : Q (saL I w s b i)) : P_X6_stateAt 209 i M Q := by
  unfold P_X6_stateAt
  rw [c_isHere h.2.2.2.2.1 hn, bi_t (by omega)]
  refine ⟨fun z => absurd z (by decide), fun _ => ?_⟩
  rintro _ rfl
  refine goA h.1.2.2.2.2.2.2.2.2.2.2.1 (by decide) ⟨by omega, by rw [show (SH 212).2 = 6 by decide]; omega⟩ ?_
  rw [show ((i : Int)).toNat = i by omega, (h.2.2.2.2.2 i hi).2.1]
  exact hq
theorem c_pressAt {i : Nat} {Q : Int → Prop} (h : Rst M I R w s b) (hn : npR I s ≤ 6) (hi : i < npR I s) (hq : Q (prL I w s b i)) : P_X6_pressAt 209 i M Q := by
  unfold P_X6_pressAt
  rw [c_isHere h.2.2.2.2.1 hn, bi_t (by omega)]
  refine ⟨fun z => absurd z (by decide), fun _ => ?_⟩
  rintro _ rfl
  refine goA h.1.2.2.2.2.2.2.2.2.2.1 (by decide) ⟨by omega, by rw [show (SH 211).2 = 6 by decide]; omega⟩ ?_
  rw [show ((i : Int)).toNat = i by omega, (h.2.2.2.2.2 i hi).2.2.1]
  exact hq
theorem c_first {Q : Int → Prop} (h : Rst M I R w s b) (hn : 1 ≤ npR I s ∧ npR I s ≤ 6) (hq : Q ((fstF (prL I w s b) (npR I s) : Nat) : Int)) : P_X6_firstPatch 209 M Q := by
  unfold P_X6_firstPatch P_X6_firstPatch_4
  refine lp_i (fun y : Int × Int => ∃ i : Nat, y.2 = i ∧ 1 ≤ i ∧ i ≤ npR I s ∧ y.1 = ((fstF (prL I w s b) i : Nat) : Int)) (fun y => (6 - y.2).toNat) ⟨1, rfl, by omega, by omega, rfl⟩ ?_
  rintro ⟨x1, x2⟩ ⟨i, e1, e2, e3, e4⟩
  dsimp only at e1 e4
  subst e1 e4
  show F_X6_firstPatch_4 209 M Q _ _ (i : Int)
  unfold F_X6_firstPatch_4
  rw [h.2.2.2.2.1]
  refine ⟨fun hle => ?_, fun hlt => ?_⟩
  · have : i = npR I s := by omega
    subst this
    exact hq
  · have hlt2 := fstF_lt (f := prL I w s b) i
    have hr := h.1.2.2.2.2.2.2.2.2.2.1
    rintro _ rfl
    refine goA hr (by decide) ⟨by omega, by rw [show (SH 211).2 = 6 by decide]; omega⟩ ?_
    rintro _ rfl
    refine goA hr (by decide) ⟨by omega, by rw [show (SH 211).2 = 6 by decide]; omega⟩ ?_
    rw [show ((i : Int)).toNat = i by omega, show ((fstF (prL I w s b) i : Nat) : Int).toNat = fstF (prL I w s b) i by omega, (h.2.2.2.2.2 i (by omega)).2.2.1, (h.2.2.2.2.2 (fstF (prL I w s b) i) (by omega)).2.2.1]
    refine ⟨fun hle => ⟨inI_s (by omega) (by omega), ?_⟩, fun hgt => ⟨inI_s (by omega) (by omega), ?_⟩⟩
    · intro v e
      exact ⟨⟨i + 1, by dsimp only; omega, by omega, by omega, by dsimp only; rw [fstF_s e2, if_neg (by omega)]⟩, by dsimp only; omega⟩
    · intro v e
      exact ⟨⟨i + 1, by dsimp only; omega, by omega, by omega, by dsimp only; rw [fstF_s e2, if_pos (by omega)]⟩, by dsimp only; omega⟩
end RS
