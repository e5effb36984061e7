/-! WHERE A BODY COMES TO REST: the class's search and the reference's -/
section FI
variable {M : Mm} {I : IFn} {R : RFn} {p q s b : Nat} {w : Nat → Int}
/-- a seat and a body that are there; the memory holds what I says -/
def RC (M : Mm) (I : IFn) (R : RFn) (p q s b : Nat) : Prop := RelF I R p q ∧ M.2.2.1 = R ∧ AG M I p ∧ (s : Int) < I 227 1 ∧ (b : Int) < I 221 12
theorem RC.b12 (h : RC M I R p q s b) : b < 12 := by
  have h1 := h.2.2.2.2
  have h2 := h.1.2.2.1.2.2.1
  omega
theorem RC.np (h : RC M I R p q s b) : I 229 (6 + s) = (npR I s : Nat) ∧ 1 ≤ npR I s ∧ npR I s ≤ 6 ∧ s < 6 := seat_np h.1.2.2.2.2.2.2.2.2 h.2.2.2.1
theorem RC.wt (h : RC M I R p q s b) : 100 ≤ I 233 (6 * b) ∧ I 233 (6 * b) ≤ 2000 := by
  have := (h.1.2.2.1.2.2.2 b h.2.2.2.2).2
  exact ⟨this.1, this.2.1⟩
theorem c_squeeze {i : Nat} {z u : Int} {Q : Int → Prop} (h : RC M I R p q s b) (hi : i < npR I s) (hw : okW I w s) (hwm : M.1 210 i = w i) (hz : -100000000 ≤ z ∧ z ≤ 100000000) (hu : 0 ≤ u ∧ u ≤ 10000) (hq : Q (tch I w s b i * u - z)) : P_X6_squeezeAt 209 i (some (p + 37 + 8 * s + i)) (some (173 + 3 * b)) z u M Q := by
  have hn := h.np
  have hb := h.b12
  have hp := h.1.1.1.p
  have hpl : p ≤ 87 := by rcases hp with rfl | rfl <;> omega
  have hR := h.2.1
  have hS := h.1.1
  have hg := (h.1.2.2.2.2.2.2.2.2.2.2.2 s h.2.2.2.1).2.2.2.2 i (by omega)
  have hH := h.1.2.2.2.1 b i hb (by omega)
  have ht := tch_b h.1.2.2.2.2.2.2.2.2 h.1.2.2.2.1 hw h.2.2.2.1 hb hi
  have hwi := hw i hi
  have sb := sh_B b hb
  have ei : ((i : Int)).toNat = i := by omega
  have f1 : M.1 (p + 37 + 8 * s + i) 1 = I 230 (108 + 18 * s + 3 * i + 1) := by rw [h.2.2.1 _ _ (dR_P (by omega) (by omega)) (by omega)]; exact hg.2.1.1
  have f2 : M.1 (174 + 3 * b) i = I 234 (6 * b + i) := by rw [h.2.2.1 _ _ (dR_H hb) (by omega)]; exact hH.1
  unfold P_X6_squeezeAt
  rw [p_isWithin]
  refine ⟨fun _ => ?_, fun z => by rw [bi0] at z; omega⟩
  refine goO rfl ⟨by omega, by rw [sh_P hp hn.2.2.2 (by omega)]⟩ ?_
  rintro _ rfl
  refine goA (k := 210) (by rw [hR]; exact hS.2.2.2.1.2.2.2.2.2.2.2.2.1) (by decide) ⟨by omega, by rw [show (SH 210).2 = 6 by decide]; omega⟩ ?_
  rw [ei, f1, hwm]
  refine ⟨inI_s (by omega) (by omega), goO rfl ⟨by omega, by rw [sb.1]⟩ ?_⟩
  rintro _ rfl
  refine goA (k := 174 + 3 * b) (by rw [hR]; exact (hS.2.2.2.2.1.2.2 b hb).2.1) ⟨by omega, by rw [sb.2.1]⟩ ⟨by omega, by rw [sb.2.1]; show (i : Int) < 6; omega⟩ ?_
  rw [f2]
  have e : I 230 (108 + 18 * s + 3 * i + 1) - w i + I 234 (6 * b + i) = tch I w s b i := rfl
  rw [e]
  have b1 : tch I w s b i * u ≤ 300 * u := Int.mul_le_mul_of_nonneg_right ht.2 hu.1
  have b2 : -100 * u ≤ tch I w s b i * u := Int.mul_le_mul_of_nonneg_right ht.1 hu.1
  exact ⟨inI_s (by omega) (by omega), inI_s (by omega) (by omega), inI_s (by omega) (by omega), hq⟩
theorem c_together {z : Int} {Q : Int → Prop} (h : RC M I R p q s b) (hw : okW I w s) (hwm : ∀ i, i < npR I s → M.1 210 i = w i) (hz : -600 ≤ z ∧ z ≤ 400) (hq : Q (totW I w s b z)) : P_X6_pushTogether 209 (some (173 + 3 * b)) (some (p + 35 + 8 * s)) z M Q := by
  have hn := h.np
  have hb := h.b12
  have hp := h.1.1.1.p
  have hpl : p ≤ 87 := by rcases hp with rfl | rfl <;> omega
  have hR := h.2.1
  have hS := h.1.1
  have hL := h.1.2.2.2.2.2.2.2.1
  have hE := h.1.2.2.2.2.2.2.2.2
  have hss := hE.2.2.2 s h.2.2.2.1
  have hP : StrP M.2.2.1 p := by rw [hR]; exact hS.P
  have f6 : M.1 (p + 35 + 8 * s) 6 = (npR I s : Nat) := by rw [h.2.2.1 _ _ (dR_P (by omega) (by omega)) (by omega), hss.2.2.2.1.1, hn.1]
  have htb := tot_b hL hE h.1.2.2.2.1 hw h.2.2.2.1 hb hz.1
  have pos : ∀ i, i < npR I s → 0 ≤ puR I (Li I s i) (tch I w s b i - z) 1 := fun i hi => (puR_b (seat_L hL hE h.2.2.2.1 hi).2.2 (by decide)).1
  unfold P_X6_pushTogether P_X6_pushTogether_6
  refine lp_i (fun y : Int × Int => ∃ i : Nat, y.2 = i ∧ i ≤ npR I s ∧ y.1 = sumN (fun i => puR I (Li I s i) (tch I w s b i - z) 1) i) (fun y => (6 - y.2).toNat) ⟨0, rfl, by omega, rfl⟩ ?_
  rintro ⟨x4, x5⟩ ⟨i, e1, e2, e3⟩
  dsimp only at e1 e3
  subst e1
  show F_X6_pushTogether_6 209 (some (173 + 3 * b)) (some (p + 35 + 8 * s)) z M Q _ x4 (i : Int)
  unfold F_X6_pushTogether_6
  refine goO rfl ⟨by omega, by rw [(sh_S hp hn.2.2.2).1]⟩ ?_
  rw [f6]
  refine ⟨fun hle => ?_, fun hlt => ?_⟩
  · have : i = npR I s := by omega
    subst this
    rw [e3]
    exact hq
  · have hi : i < npR I s := by omega
    have hg := hss.2.2.2.2 i (by omega)
    have hl := seat_L hL hE h.2.2.2.1 hi
    have hl8 : Li I s i < 8 := by have := hL.2.2.1; omega
    have ei : ((i : Int)).toNat = i := by omega
    rintro _ rfl
    refine goA (hP.2.2.2 s hn.2.2.2).2.1 ⟨by omega, by rw [(sh_S hp hn.2.2.2).2]⟩ ⟨by omega, by rw [(sh_S hp hn.2.2.2).2]; show (i : Int) < 6; omega⟩ ?_
    rintro _ rfl
    rw [ei, (hP.2.2.2 s hn.2.2.2).2.2 i (by omega)]
    refine goO rfl ⟨by omega, by rw [sh_P hp hn.2.2.2 (by omega)]⟩ ?_
    intro r9 e9
    refine c_squeeze h hi hw (hwm i hi) (by omega) (by decide) ?_
    have ht := tch_b hE h.1.2.2.2.1 hw h.2.2.2.1 hb hi
    have hr9 : r9 = some (p + 3 + 4 * Li I s i) := by rw [e9, hR]; exact hg.1.1
    refine goO hr9 ⟨by omega, by rw [(sh_L hp hl8).1]⟩ ?_
    rw [show tch I w s b i * 1 - z = tch I w s b i - z by omega]
    have hpb := puR_b (sq := tch I w s b i - z) (u := 1) hl.2.2 (by decide)
    refine c_pushOf hL hp hP h.2.2.1 hl.1 (by decide) (by omega) (by omega) ?_
    have hs1 : x4 + puR I (Li I s i) (tch I w s b i - z) 1 = sumN (fun i => puR I (Li I s i) (tch I w s b i - z) 1) (i + 1) := by rw [e3]; rfl
    have h0 : 0 ≤ x4 := by
      rw [e3]
      have := sumN_le (f := fun _ => 0) (g := fun i => puR I (Li I s i) (tch I w s b i - z) 1) (n := i) (fun k hk => pos k (by omega))
      rw [sumN_c] at this
      omega
    have h1 : x4 ≤ 5400000 := by
      rw [e3]
      have := sumN_le (f := fun i => puR I (Li I s i) (tch I w s b i - z) 1) (g := fun _ => 900000) (n := i) (fun k hk => by
        have h1 := (puR_b (sq := tch I w s b k - z) (u := 1) (seat_L hL hE h.2.2.2.1 (i := k) (by omega)).2.2 (by decide)).2
        have h2 := tch_b hE h.1.2.2.2.1 hw h.2.2.2.1 hb (i := k) (by omega)
        omega)
      rw [sumN_c] at this
      omega
    refine ⟨inI_s (by omega) (by omega), ?_⟩
    intro v14 e14
    refine ⟨inI_s (by omega) (by omega), ?_⟩
    intro v15 e15
    exact ⟨⟨i + 1, by dsimp only; omega, by omega, by dsimp only; rw [e14, hs1]⟩, by dsimp only; omega⟩
theorem c_findLevel {Q : Mm → Prop} (h : RC M I R p q s b) (hw : okW I w s) (hwm : ∀ i, i < npR I s → M.1 210 i = w i) (hq : ∀ z, z = zOf (totW I w s b) (I 233 (6 * b)) → I 233 (6 * b) ≤ totW I w s b z → totW I w s b (z + 1) < I 233 (6 * b) → -600 ≤ z → z ≤ 300 → Q (setI (setI M 209 0 (frN z (totW I w s b z) (totW I w s b (z + 1)) (I 233 (6 * b)))) 209 1 (frD z (totW I w s b z) (totW I w s b (z + 1)) (I 233 (6 * b))))) : P_X6_findLevel 209 (some (173 + 3 * b)) (some (p + 35 + 8 * s)) M Q := by
  have hn := h.np
  have hb := h.b12
  have hW := h.wt
  have hL := h.1.2.2.2.2.2.2.2.1
  have hE := h.1.2.2.2.2.2.2.2.2
  have hH := h.1.2.2.2.1
  have hlo := tot_lo hL hE hH hw h.2.2.2.1 hb
  have hhi := tot_hi hL hE hH hw h.2.2.2.1 hb
  have hh1 : totW I w s b 301 ≤ 0 := by have := tot_m (w := w) (b := b) hL hE h.2.2.2.1 (z := 300) (z' := 301) (by decide); omega
  have fw : M.1 (173 + 3 * b) 0 = I 233 (6 * b) := by rw [h.2.2.1 _ _ (dR_B hb) (by omega), (h.1.2.2.1.2.2.2 b h.2.2.2.2).1 0 (by decide)]; rfl
  have sb := sh_B b hb
  have fin : ∀ x3 : Int, -600 ≤ x3 → x3 ≤ 300 → I 233 (6 * b) ≤ totW I w s b x3 → totW I w s b (x3 + 1) < I 233 (6 * b) → P_X6_findLevel_68 209 (some (173 + 3 * b)) (some (p + 35 + 8 * s)) x3 M Q := by
    intro z h1 h2 h3 h4
    have ez := zOf_eq (tot := totW I w s b) (fun z z' hz => tot_m hL hE h.2.2.2.1 hz) h3 h4
    have hd := tot_d (w := w) (b := b) hL hE h.2.2.2.1 z
    have hb0 := tot_b hL hE hH hw h.2.2.2.1 hb h1
    have hb1 := tot_b hL hE hH hw h.2.2.2.1 hb (z := z + 1) (by omega)
    unfold P_X6_findLevel_68
    refine c_together h hw hwm (by omega) ?_
    refine ⟨inI_s (by omega) (by omega), c_together h hw hwm (by omega) ?_⟩
    refine ⟨inI_s (by omega) (by omega), ?_⟩
    intro v3 e3
    have e3' : v3 = totW I w s b z - totW I w s b (z + 1) := by omega
    have m1 : z * v3 ≤ 300 * v3 := Int.mul_le_mul_of_nonneg_right h2 (by omega)
    have m2 : -600 * v3 ≤ z * v3 := Int.mul_le_mul_of_nonneg_right h1 (by omega)
    refine ⟨inI_s (by omega) (by omega), inI_s (by omega) (by omega), goO rfl ⟨by omega, by rw [sb.1]⟩ ?_⟩
    rw [fw]
    refine ⟨inI_s (by omega) (by omega), ?_⟩
    intro v6 e6
    refine c_cd (by omega) (by omega) ?_
    have hgp : 1 ≤ Nat.gcd v6.natAbs v3.natAbs := Nat.gcd_pos_of_pos_right _ (by omega)
    rw [show max 1 ((Nat.gcd v6.natAbs v3.natAbs : Nat) : Int) = ((Nat.gcd v6.natAbs v3.natAbs : Nat) : Int) by omega]
    refine ⟨by omega, ?_⟩
    rintro _ rfl
    refine ⟨by omega, ?_⟩
    rintro _ rfl
    have := hq z ez h3 h4 h1 h2
    unfold frN frD at this
    rw [← e3', ← e6] at this
    exact this
  unfold P_X6_findLevel P_X6_findLevel_12
  refine lp_i (fun y : Int × Int × Int => ∃ k : Nat, y.2.2 = k ∧ k ≤ 11 ∧ -600 ≤ y.1 ∧ y.1 < y.2.1 ∧ y.2.1 ≤ 301 ∧ I 233 (6 * b) ≤ totW I w s b y.1 ∧ totW I w s b y.2.1 < I 233 (6 * b) ∧ (y.2.1 - y.1) * 2 ^ k ≤ 1024 + 2 ^ k) (fun y => (20 - y.2.2).toNat) ⟨0, rfl, by omega, by decide, by decide, by decide, by dsimp only; omega, by dsimp only; omega, by decide⟩ ?_
  rintro ⟨x3, x4, x5⟩ ⟨k, e1, e2, e3, e4, e5, e6, e7, e8⟩
  dsimp only at e1 e3 e4 e5 e6 e7 e8
  subst e1
  show F_X6_findLevel_12 209 (some (173 + 3 * b)) (some (p + 35 + 8 * s)) M Q _ x3 x4 (k : Int)
  unfold F_X6_findLevel_12
  refine ⟨fun hz => by omega, fun _ => ⟨inI_s (by omega) (by omega), fun h1 => ?_, fun h1 => ?_⟩⟩
  · exact fin x3 e3 (by omega) e6 (by rw [show x3 + 1 = x4 by omega]; exact e7)
  · have hk : k < 11 := by
      rcases Nat.lt_or_ge k 11 with hz | hz
      · exact hz
      · have : k = 11 := by omega
        subst this
        have e8' : (x4 - x3) * 2048 ≤ 1024 + 2048 := e8
        omega
    have ht : 1 ≤ (x4 - x3).tdiv 2 ∧ 2 * (x4 - x3).tdiv 2 ≤ x4 - x3 ∧ x4 - x3 ≤ 2 * (x4 - x3).tdiv 2 + 1 := by
      rw [Int.tdiv_eq_ediv_of_nonneg (by omega)]
      omega
    refine ⟨inI_s (by omega) (by omega), inI_s (by omega) (by omega), ?_⟩
    intro v12 e12
    have half : ∀ d : Int, 0 ≤ d → 2 * d ≤ x4 - x3 + 1 → d * 2 ^ (k + 1) ≤ 1024 + 2 ^ (k + 1) := by
      intro d hd0 hd
      have hpk : (0 : Int) < 2 ^ k := Int.pow_pos (by decide)
      have e9 : d * 2 ^ (k + 1) = 2 * d * 2 ^ k := by rw [Int.pow_succ]; grind
      have e10 : (2 : Int) ^ (k + 1) = 2 * 2 ^ k := by rw [Int.pow_succ]; omega
      rw [e9, e10]
      have h11 : 2 * d * 2 ^ k ≤ (x4 - x3 + 1) * 2 ^ k := Int.mul_le_mul_of_nonneg_right hd (by omega)
      have h12 : (x4 - x3 + 1) * 2 ^ k = (x4 - x3) * 2 ^ k + 2 ^ k := by grind
      omega
    refine c_together h hw hwm (by omega) ?_
    refine goO rfl ⟨by omega, by rw [sb.1]⟩ ?_
    rw [fw]
    refine ⟨fun hlt => ⟨inI_s (by omega) (by omega), ?_⟩, fun hge => ⟨inI_s (by omega) (by omega), ?_⟩⟩
    · intro v16 e16
      refine ⟨⟨k + 1, by dsimp only; omega, by omega, by dsimp only; omega, by dsimp only; omega, by dsimp only; omega, e6, hlt, ?_⟩, by dsimp only; omega⟩
      show (v12 - x3) * 2 ^ (k + 1) ≤ _
      exact half _ (by omega) (by omega)
    · intro v17 e17
      refine ⟨⟨k + 1, by dsimp only; omega, by omega, by dsimp only; omega, by dsimp only; omega, by dsimp only; omega, by dsimp only; omega, e7, ?_⟩, by dsimp only; omega⟩
      show (x4 - v12) * 2 ^ (k + 1) ≤ _
      exact half _ (by omega) (by omega)
-- the reference
theorem r_layerOf {i : Nat} {Q : Int → Prop} (h : RC M I R p q s b) (hi : i < npR I s) (hq : Q (Li I s i : Nat)) : P_X12_layerOf 221 s i M Q := by
  have hn := h.np
  have hl := seat_L h.1.2.2.2.2.2.2.2.1 h.1.2.2.2.2.2.2.2.2 h.2.2.2.1 hi
  unfold P_X12_layerOf
  rintro _ rfl
  refine ⟨inI_s (by omega) (by omega), inI_s (by omega) (by omega), inI_s (by omega) (by omega), inI_s (by omega) (by omega), goA (k := 230) (by rw [h.2.1]; exact h.1.1.2.2.2.2.2.1.2.2.2.2.2.2.2.2.1) (by decide) ⟨by omega, by rw [show (SH 230).2 = 216 by decide]; omega⟩ ?_⟩
  rw [show (108 + 18 * (s : Int) + 3 * (i : Int)).toNat = 108 + 18 * s + 3 * i by omega, h.2.2.1 _ _ (dR_L (dP230 (by omega))) (by omega), hl.2.1]
  exact hq
theorem r_touchOf {i : Nat} {Q : Int → Prop} (h : RC M I R p q s b) (hi : i < npR I s) (hw : okW I w s) (hwm : M.1 231 (6 * s + i) = w i) (hq : Q (tch I w s b i)) : P_X12_touchOf 221 b s i M Q := by
  have hn := h.np
  have hb := h.b12
  have hR := h.2.1
  have hS := h.1.1.2.2.2.2.2.1
  have hg := (h.1.2.2.2.2.2.2.2.2.2.2.2 s h.2.2.2.1).2.2.2.2 i (by omega)
  have hH := h.1.2.2.2.1 b i hb (by omega)
  have hwi := hw i hi
  unfold P_X12_touchOf
  rintro _ rfl
  refine ⟨inI_s (by omega) (by omega), inI_s (by omega) (by omega), inI_s (by omega) (by omega), inI_s (by omega) (by omega), inI_s (by omega) (by omega), goA (k := 230) (by rw [hR]; exact hS.2.2.2.2.2.2.2.2.1) (by decide) ⟨by omega, by rw [show (SH 230).2 = 216 by decide]; omega⟩ ?_⟩
  rintro _ rfl
  refine ⟨inI_s (by omega) (by omega), inI_s (by omega) (by omega), goA (k := 231) (by rw [hR]; exact hS.2.2.2.2.2.2.2.2.2.1) (by decide) ⟨by omega, by rw [show (SH 231).2 = 36 by decide]; omega⟩ ?_⟩
  rw [show (108 + 18 * (s : Int) + 3 * (i : Int) + 1).toNat = 108 + 18 * s + 3 * i + 1 by omega, h.2.2.1 _ _ (dR_L (dP230 (by omega))) (by omega), show (6 * (s : Int) + (i : Int)).toNat = 6 * s + i by omega, hwm]
  refine ⟨inI_s (by omega) (by omega), ?_⟩
  rintro _ rfl
  refine ⟨inI_s (by omega) (by omega), inI_s (by omega) (by omega), goA (k := 234) (by rw [hR]; exact hS.2.2.2.2.2.2.2.2.2.2.2.2.1) (by decide) ⟨by omega, by rw [show (SH 234).2 = 72 by decide]; omega⟩ ?_⟩
  rw [show (6 * (b : Int) + (i : Int)).toNat = 6 * b + i by omega, h.2.2.1 _ _ dR_234 (by omega)]
  exact ⟨inI_s (by omega) (by omega), hq⟩
theorem r_pushesAt {z : Int} {Q : Int → Prop} (h : RC M I R p q s b) (hw : okW I w s) (hwm : ∀ i, i < npR I s → M.1 231 (6 * s + i) = w i) (hz : -601 ≤ z ∧ z ≤ 400) (hq : Q (totW I w s b z)) : P_X12_pushesAt 221 b s z M Q := by
  have hn := h.np
  have hb := h.b12
  have hS := h.1.1.2.2.2.2.2.1
  have hL := h.1.2.2.2.2.2.2.2.1
  have hE := h.1.2.2.2.2.2.2.2.2
  have f6 : M.1 229 (6 + s) = (npR I s : Nat) := by rw [h.2.2.1 _ _ (dR_L (dP229 (by omega))) (by omega), hn.1]
  have hSM : StrM M.2.2.1 := by rw [h.2.1]; exact hS
  unfold P_X12_pushesAt P_X12_pushesAt_6
  refine lp_i (fun y : Int × Int => ∃ i : Nat, y.2 = i ∧ i ≤ npR I s ∧ y.1 = sumN (fun i => puR I (Li I s i) (tch I w s b i - z) 1) i) (fun y => (6 - y.2).toNat) ⟨0, rfl, by omega, rfl⟩ ?_
  rintro ⟨x4, x6⟩ ⟨i, e1, e2, e3⟩
  dsimp only at e1 e3
  subst e1
  show F_X12_pushesAt_6 221 b s z M Q _ x4 (i : Int)
  unfold F_X12_pushesAt_6
  rintro _ rfl
  refine ⟨inI_s (by omega) (by omega), goA hSM.2.2.2.2.2.2.2.1 (by decide) ⟨by omega, by rw [show (SH 229).2 = 12 by decide]; omega⟩ ?_⟩
  rw [show (6 + (s : Int)).toNat = 6 + s by omega, f6]
  refine ⟨fun hle => ?_, fun hlt => ?_⟩
  · have : i = npR I s := by omega
    subst this
    rw [e3]
    exact hq
  · have hi : i < npR I s := by omega
    have hl := seat_L hL hE h.2.2.2.1 hi
    have ht := tch_b hE h.1.2.2.2.1 hw h.2.2.2.1 hb hi
    refine r_layerOf h hi (r_touchOf h hi hw (hwm i hi) ⟨inI_s (by omega) (by omega), ?_⟩)
    refine r_pushBy hL hSM h.2.2.1 hl.1 (by decide) (by omega) ?_
    have hs1 : x4 + puR I (Li I s i) (tch I w s b i - z) 1 = sumN (fun i => puR I (Li I s i) (tch I w s b i - z) 1) (i + 1) := by rw [e3]; rfl
    have hpb := puR_b (sq := tch I w s b i - z) (u := 1) hl.2.2 (by decide)
    have h0 : 0 ≤ x4 := by
      rw [e3]
      have := sumN_le (f := fun _ => 0) (g := fun i => puR I (Li I s i) (tch I w s b i - z) 1) (n := i) (fun k hk => (puR_b (seat_L hL hE h.2.2.2.1 (i := k) (by omega)).2.2 (by decide)).1)
      rw [sumN_c] at this
      omega
    have h1 : x4 ≤ 5500000 := by
      rw [e3]
      have := sumN_le (f := fun i => puR I (Li I s i) (tch I w s b i - z) 1) (g := fun _ => 901000) (n := i) (fun k hk => by
        have h1 := (puR_b (sq := tch I w s b k - z) (u := 1) (seat_L hL hE h.2.2.2.1 (i := k) (by omega)).2.2 (by decide)).2
        have h2 := tch_b hE h.1.2.2.2.1 hw h.2.2.2.1 hb (i := k) (by omega)
        omega)
      rw [sumN_c] at this
      omega
    refine ⟨inL_s (by omega) (by omega), ?_⟩
    intro v7 e7
    refine ⟨inI_s (by omega) (by omega), ?_⟩
    intro v8 e8
    exact ⟨⟨i + 1, by dsimp only; omega, by omega, by dsimp only; rw [e7, hs1]⟩, by dsimp only; omega⟩
theorem r_layLevel {Q : Mm → Prop} (h : RC M I R p q s b) (hw : okW I w s) (hwm : ∀ i, i < npR I s → M.1 231 (6 * s + i) = w i) (hq : ∀ z, z = zOf (totW I w s b) (I 233 (6 * b)) → I 233 (6 * b) ≤ totW I w s b z → totW I w s b (z + 1) < I 233 (6 * b) → -600 ≤ z → z ≤ 300 → Q (setJ (setJ M 221 23 (frN z (totW I w s b z) (totW I w s b (z + 1)) (I 233 (6 * b)))) 221 24 (frD z (totW I w s b z) (totW I w s b (z + 1)) (I 233 (6 * b))))) : P_X12_layLevel 221 b s M Q := by
  have hn := h.np
  have hb := h.b12
  have hW := h.wt
  have hL := h.1.2.2.2.2.2.2.2.1
  have hE := h.1.2.2.2.2.2.2.2.2
  have hH := h.1.2.2.2.1
  have hlo := tot_lo hL hE hH hw h.2.2.2.1 hb
  have hhi := tot_hi hL hE hH hw h.2.2.2.1 hb
  unfold P_X12_layLevel
  rintro _ rfl
  refine ⟨inI_s (by omega) (by omega), goA (k := 233) (by rw [h.2.1]; exact h.1.1.2.2.2.2.2.1.2.2.2.2.2.2.2.2.2.2.2.1) (by decide) ⟨by omega, by rw [show (SH 233).2 = 72 by decide]; omega⟩ ?_⟩
  rintro _ rfl
  rw [show (6 * (b : Int)).toNat = 6 * b by omega, h.2.2.1 _ _ dR_233 (by omega)]
  unfold P_X12_layLevel_15
  refine lp_i (fun y : Int => -600 ≤ y ∧ y ≤ 300 ∧ totW I w s b (y + 1) < I 233 (6 * b)) (fun y => (y + 600).toNat) ⟨by decide, by decide, by have := tot_m (w := w) (b := b) hL hE h.2.2.2.1 (z := 300) (z' := 300 + 1) (by decide); omega⟩ ?_
  rintro z ⟨h1, h2, h3⟩
  show F_X12_layLevel_15 221 b s (I 233 (6 * b)) M Q _ z
  unfold F_X12_layLevel_15
  refine r_pushesAt h hw hwm (by omega) ?_
  refine ⟨fun hle => ?_, fun hlt => ?_⟩
  · have ez := zOf_eq (tot := totW I w s b) (fun z z' hz => tot_m hL hE h.2.2.2.1 hz) hle h3
    have hd := tot_d (w := w) (b := b) hL hE h.2.2.2.1 z
    have hb0 := tot_b hL hE hH hw h.2.2.2.1 hb h1
    have hb1 := tot_b hL hE hH hw h.2.2.2.1 hb (z := z + 1) (by omega)
    refine r_pushesAt h hw hwm (by omega) ?_
    refine ⟨inI_s (by omega) (by omega), r_pushesAt h hw hwm (by omega) ?_⟩
    refine ⟨inL_s (by omega) (by omega), ?_⟩
    intro v4 e4
    have m1 : z * v4 ≤ 300 * v4 := Int.mul_le_mul_of_nonneg_right h2 (by omega)
    have m2 : -600 * v4 ≤ z * v4 := Int.mul_le_mul_of_nonneg_right h1 (by omega)
    refine ⟨inL_s (by omega) (by omega), inL_s (by omega) (by omega), inL_s (by omega) (by omega), ?_⟩
    intro v5 e5
    refine r_common (inL_s (by omega) (by omega)) (inL_s (by omega) (by omega)) ?_
    have hgp : 1 ≤ Nat.gcd v5.natAbs v4.natAbs := Nat.gcd_pos_of_pos_right _ (by omega)
    refine ⟨by omega, ?_⟩
    rintro _ rfl
    refine ⟨by omega, ?_⟩
    rintro _ rfl
    have := hq z ez hle h3 h1 h2
    unfold frN frD at this
    rw [← e4, ← e5] at this
    exact this
  · refine ⟨inI_s (by omega) (by omega), ?_⟩
    intro v11 e11
    have hz6 : -600 < z := by
      rcases Int.lt_or_le (-600) z with hz | hz
      · exact hz
      · have : z = -600 := by omega
        subst this
        omega
    refine ⟨⟨by omega, by omega, ?_⟩, by omega⟩
    rw [show v11 + 1 = z by omega]
    omega
end FI
