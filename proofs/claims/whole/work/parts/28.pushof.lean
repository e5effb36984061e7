/-! A LAYER'S PUSH, in the class and in the reference -/
theorem dR_P {p o j : Nat} (h1 : p ≤ o) (h2 : o < p + 83) : dREL p o j := Or.inr (Or.inr (Or.inr (Or.inr (Or.inr (Or.inr (dP0 h1 h2))))))
theorem dR_L {p o j : Nat} (h : dPLN p o j) : dREL p o j := Or.inr (Or.inr (Or.inr (Or.inr (Or.inr (Or.inr h)))))
theorem dR_B {p b k : Nat} (h : b < 12) : dREL p (173 + 3 * b) k := Or.inr (Or.inl (Or.inr (Or.inl ⟨by omega, by omega, by omega⟩)))
theorem dR_H {p b k : Nat} (h : b < 12) : dREL p (174 + 3 * b) k := Or.inr (Or.inr (Or.inl (Or.inl ⟨by omega, by omega, by omega⟩)))
theorem dR_S {p b k : Nat} (h : b < 12) : dREL p (175 + 3 * b) k := Or.inr (Or.inr (Or.inr (Or.inl (Or.inl ⟨by omega, by omega, by omega⟩))))
theorem dR_233 {p k : Nat} : dREL p 233 k := Or.inr (Or.inl (Or.inr (Or.inr (Or.inr rfl))))
theorem dR_234 {p k : Nat} : dREL p 234 k := Or.inr (Or.inr (Or.inl (Or.inr rfl)))
theorem dR_235 {p k : Nat} : dREL p 235 k := Or.inr (Or.inr (Or.inr (Or.inl (Or.inr rfl))))
theorem dR_nb {p : Nat} : dREL p 221 12 := Or.inr (Or.inl (Or.inr (Or.inr (Or.inl ⟨rfl, rfl⟩))))
theorem dR_170 {p : Nat} : dREL p 170 1 := Or.inr (Or.inl (Or.inl ⟨rfl, rfl⟩))
/-- the memory holds what I holds, but for scratch and worn -/
def AG (M : Mm) (I : IFn) (p : Nat) : Prop := ∀ o j, dREL p o j → (o ≠ 231 ∧ ¬ (o < 170 ∧ p + 35 ≤ o ∧ (j = 3 ∨ j = 4))) → M.1 o j = I o j
-- the reference's words for a seat
def Li (I : IFn) (s i : Nat) : Nat := (I 230 (108 + 18 * s + 3 * i)).toNat
def lnR (I : IFn) (l k : Nat) : Int := I 225 (64 + 8 * l + 2 * k)
def hdR (I : IFn) (l k : Nat) : Int := I 225 (64 + 8 * l + 2 * k + 1)
def ctR (I : IFn) (l : Nat) : Nat := (I 224 (8 + l)).toNat
def npR (I : IFn) (s : Nat) : Nat := (I 229 (6 + s)).toNat
def tch (I : IFn) (w : Nat → Int) (s b i : Nat) : Int := I 230 (108 + 18 * s + 3 * i + 1) - w i + I 234 (6 * b + i)
def puR (I : IFn) (l : Nat) (sq u : Int) : Int := pu (lnR I l) (hdR I l) u 0 (ctR I l) (max 0 sq)
section PO
variable {M : Mm} {I : IFn} {R : RFn} {p q : Nat}
theorem lay_ok {l : Nat} (h : LAY I p) (hl : (l : Int) < I 223 1) : okL (lnR I l) (hdR I l) (ctR I l) ∧ (I 224 (8 + l) = (ctR I l : Nat)) ∧ 1 ≤ ctR I l ∧ ctR I l ≤ 4 := by
  obtain ⟨g1, g2, g3⟩ := h.2.2.2 l hl
  have hc : I 224 (8 + l) = (ctR I l : Nat) := by unfold ctR; omega
  refine ⟨fun k hk => ?_, hc, by omega, by omega⟩
  have := g2 k (by omega)
  unfold lnR hdR
  omega
theorem c_pushOf {l : Nat} {sq u : Int} {Q : Int → Prop} (hL : LAY I p) (hp : pl p) (hP : StrP M.2.2.1 p) (hA : AG M I p) (hl : (l : Int) < I 223 1) (hu : 1 ≤ u ∧ u ≤ 10000) (hs : sq ≤ 100000000) (hB : puR I l sq u ≤ 1000000000) (hq : Q (puR I l sq u)) : P_X3_pushOf (p + 3 + 4 * l) sq u M Q := by
  have hl8 : l < 8 := by have := hL.2.2.1; omega
  obtain ⟨hok, hc, hc1, hc4⟩ := lay_ok hL hl
  obtain ⟨g1, g2, g3⟩ := hL.2.2.2 l hl
  obtain ⟨s1, s2, s3, s4⟩ := sh_L hp hl8
  obtain ⟨r0, r1, r2, r3⟩ := hP.2.2.1 l hl8
  have hp83 : p + 6 + 4 * l < p + 83 := by omega
  have hp87 : p ≤ 87 := by rcases hp with rfl | rfl <;> omega
  unfold P_X3_pushOf
  intro v11 e11
  unfold P_X3_pushOf_12
  refine lp_i (fun y : Int × Int × Int => ∃ i m : Nat, y.2.2 = i ∧ i + m = ctR I l ∧ 0 ≤ y.1 ∧ y.1 ≤ 100000000 ∧ 0 ≤ y.2.1 ∧ y.2.1 + pu (lnR I l) (hdR I l) u i m y.1 = puR I l sq u) (fun y => (4 - y.2.2).toNat) ⟨0, ctR I l, rfl, by omega, by dsimp only; omega, by dsimp only; omega, by dsimp only; omega, by dsimp only; rw [e11]; unfold puR; omega⟩ ?_
  rintro ⟨x3, x4, x5⟩ ⟨i, m, e1, e2, e3, e4, e5, e6⟩
  dsimp only at e1 e3 e4 e5 e6
  subst e1
  show F_X3_pushOf_12 (p + 3 + 4 * l) u M Q _ x3 x4 (i : Int)
  have hcm : M.1 (p + 3 + 4 * l) 2 = (ctR I l : Nat) := by rw [hA _ _ (dR_P (by omega) (by omega)) (by omega), g1.1, hc]
  unfold F_X3_pushOf_12
  rw [hcm]
  refine ⟨fun h => ?_, fun h => ?_⟩
  · have hm : m = 0 := by omega
    subst hm
    have e7 : x4 + 1000 * x3 = puR I l sq u := e6
    refine ⟨inI_s (by omega) (by omega), inI_s (by omega) (by omega), ?_⟩
    rw [show x4 + x3 * 1000 = puR I l sq u by omega]
    exact hq
  · obtain ⟨m', rfl⟩ : ∃ m', m = m' + 1 := ⟨m - 1, by omega⟩
    have hk := hok i (by omega)
    have hgi := g2 i (by omega)
    have ei : ((i : Int)).toNat = i := by omega
    rintro _ rfl
    refine goA r1 ⟨by omega, by rw [s2]⟩ ⟨by omega, by rw [s2]; show (i : Int) < 4; omega⟩ ?_
    have f1 : M.1 (p + 4 + 4 * l) i = lnR I l i := by rw [hA _ _ (dR_P (by omega) (by omega)) (by omega)]; exact hgi.1.1
    have f2 : M.1 (p + 5 + 4 * l) i = hdR I l i := by rw [hA _ _ (dR_P (by omega) (by omega)) (by omega)]; exact hgi.2.1
    rw [ei, f1]
    have b1 : lnR I l i * u ≤ 100 * u := Int.mul_le_mul_of_nonneg_right hk.2.1 (by omega)
    have b0 : 0 ≤ lnR I l i * u := Int.mul_nonneg (by omega) (by omega)
    refine ⟨inI_s (by omega) (by omega), ?_⟩
    intro v4 ev4
    rintro _ rfl
    refine goA r2 ⟨by omega, by rw [s3]⟩ ⟨by omega, by rw [s3]; show (i : Int) < 4; omega⟩ ?_
    rw [f2]
    have e7 : x4 + (min x3 (lnR I l i * u) * hdR I l i + pu (lnR I l) (hdR I l) u (i + 1) m' (x3 - min x3 (lnR I l i * u))) = puR I l sq u := e6
    rw [← ev4] at e7
    have b2 := (pu_b u hok (by omega) m' (i + 1) (x3 - v4) (by omega) (by omega)).1
    have b3 : 0 ≤ v4 * hdR I l i := Int.mul_nonneg (by omega) (by omega)
    refine ⟨inI_s (by omega) (by omega), inI_s (by omega) (by omega), ?_⟩
    intro v8 ev8
    refine ⟨inI_s (by omega) (by omega), ?_⟩
    intro v9 ev9
    refine ⟨inI_s (by omega) (by omega), ?_⟩
    intro v10 ev10
    refine ⟨⟨i + 1, m', by dsimp only; omega, by omega, by dsimp only; omega, by dsimp only; omega, by dsimp only; omega, ?_⟩, by dsimp only; omega⟩
    dsimp only
    rw [ev8, ev9]
    omega
theorem r_pushBy {l : Nat} {sq u : Int} {Q : Int → Prop} (hL : LAY I p) (hS : StrM M.2.2.1) (hA : AG M I p) (hl : (l : Int) < I 223 1) (hu : 1 ≤ u ∧ u ≤ 10000) (hs : -1000000000 ≤ sq ∧ sq ≤ 1000000000) (hq : Q (puR I l sq u)) : P_X12_pushBy 221 l sq u M Q := by
  have hl8 : l < 8 := by have := hL.2.2.1; omega
  obtain ⟨hok, hc, hc1, hc4⟩ := lay_ok hL hl
  obtain ⟨g1, g2, g3⟩ := hL.2.2.2 l hl
  have hcm : M.1 224 (8 + l) = (ctR I l : Nat) := by rw [hA _ _ (dR_L (dP224 (by omega))) (by omega), hc]
  have hB := pu_b u hok (by omega) (ctR I l) 0 (max 0 sq) (by omega) (by omega)
  have hB2 : puR I l sq u ≤ 1000 * max 0 sq := hB.2
  have hB0 : 0 ≤ puR I l sq u := by have : max 0 sq ≤ puR I l sq u := hB.1; omega
  unfold P_X12_pushBy P_X12_pushBy_9
  refine lp_i (fun y : Int × Int × Int => ∃ i m : Nat, y.2.2 = i ∧ i + m = ctR I l ∧ -1000000000 ≤ y.1 ∧ y.1 ≤ 1000000000 ∧ 0 ≤ y.2.1 ∧ y.2.1 + pu (lnR I l) (hdR I l) u i m (max 0 y.1) = puR I l sq u) (fun y => (4 - y.2.2).toNat) ⟨0, ctR I l, rfl, by omega, by dsimp only; omega, by dsimp only; omega, by dsimp only; omega, by dsimp only; unfold puR; omega⟩ ?_
  rintro ⟨x6, x8, x10⟩ ⟨i, m, e1, e2, e3, e4, e5, e6⟩
  dsimp only at e1 e3 e4 e5 e6
  subst e1
  show F_X12_pushBy_9 221 l u M Q _ x6 x8 (i : Int)
  have neg : x6 ≤ 0 → x8 = puR I l sq u := by
    intro h
    rw [show max 0 x6 = 0 by omega, pu_0 u hok (by omega) m i e2] at e6
    omega
  unfold F_X12_pushBy_9
  rintro _ rfl
  refine ⟨inI_s (by omega) (by omega), goA hS.2.2.1 (by decide) ⟨by omega, by rw [show (SH 224).2 = 16 by decide]; omega⟩ ?_⟩
  rw [show (8 + (l : Int)).toNat = 8 + l by omega, hcm]
  refine ⟨fun h => ?_, fun h => ⟨fun h2 => ?_, fun h2 => ?_⟩⟩
  · have hm : m = 0 := by omega
    subst hm
    have e7 : x8 + 1000 * max 0 x6 = puR I l sq u := e6
    unfold P_X12_pushBy_111
    refine ⟨fun h3 => ?_, fun h3 => ⟨inL_s (by omega) (by omega), inL_s (by omega) (by omega), ?_⟩⟩
    · rw [neg h3]; exact hq
    · rw [show x8 + 1000 * x6 = puR I l sq u by omega]; exact hq
  · unfold P_X12_pushBy_111
    exact ⟨fun _ => by rw [neg h2]; exact hq, fun z => absurd h2 z⟩
  · obtain ⟨m', rfl⟩ : ∃ m', m = m' + 1 := ⟨m - 1, by omega⟩
    have hk := hok i (by omega)
    rintro _ rfl
    refine ⟨inI_s (by omega) (by omega), inI_s (by omega) (by omega), inI_s (by omega) (by omega), inI_s (by omega) (by omega), goA hS.2.2.2.1 (by decide) ⟨by omega, by rw [show (SH 225).2 = 128 by decide]; omega⟩ ?_⟩
    have f1 : M.1 225 ((64 + 8 * (l : Int)) + 2 * (i : Int)).toNat = lnR I l i := by rw [show ((64 + 8 * (l : Int)) + 2 * (i : Int)).toNat = 64 + 8 * l + 2 * i by omega, hA _ _ (dR_L (dP225 (by omega))) (by omega)]; rfl
    have f2 : M.1 225 (((64 + 8 * (l : Int)) + 2 * (i : Int)) + 1).toNat = hdR I l i := by rw [show (((64 + 8 * (l : Int)) + 2 * (i : Int)) + 1).toNat = 64 + 8 * l + 2 * i + 1 by omega, hA _ _ (dR_L (dP225 (by omega))) (by omega)]; rfl
    rw [f1]
    have b1 : lnR I l i * u ≤ 100 * u := Int.mul_le_mul_of_nonneg_right hk.2.1 (by omega)
    have b0 : 0 ≤ lnR I l i * u := Int.mul_nonneg (by omega) (by omega)
    refine ⟨inL_s (by omega) (by omega), ?_⟩
    intro v13 e13
    rw [show max 0 x6 = x6 by omega] at e6
    have e7 : x8 + (min x6 (lnR I l i * u) * hdR I l i + pu (lnR I l) (hdR I l) u (i + 1) m' (x6 - min x6 (lnR I l i * u))) = puR I l sq u := e6
    have key : ∀ pt, pt = min x6 (lnR I l i * u) → P_X12_pushBy_68 221 l u x6 x8 i pt M Q (fun y => (∃ i m : Nat, y.2.2 = i ∧ i + m = ctR I l ∧ -1000000000 ≤ y.1 ∧ y.1 ≤ 1000000000 ∧ 0 ≤ y.2.1 ∧ y.2.1 + pu (lnR I l) (hdR I l) u i m (max 0 y.1) = puR I l sq u) ∧ (4 - y.2.2).toNat < (4 - (i : Int)).toNat) := by
      intro pt hpt
      rw [← hpt] at e7
      unfold P_X12_pushBy_68
      rintro _ rfl
      refine ⟨inI_s (by omega) (by omega), inI_s (by omega) (by omega), inI_s (by omega) (by omega), inI_s (by omega) (by omega), inI_s (by omega) (by omega), goA hS.2.2.2.1 (by decide) ⟨by omega, by rw [show (SH 225).2 = 128 by decide]; omega⟩ ?_⟩
      rw [f2]
      have b2 := (pu_b u hok (by omega) m' (i + 1) (x6 - pt) (by omega) (by omega)).1
      have b3 : 0 ≤ pt * hdR I l i := Int.mul_nonneg (by omega) (by omega)
      refine ⟨inL_s (by omega) (by omega), inL_s (by omega) (by omega), ?_⟩
      intro v4 ev4
      refine ⟨inL_s (by omega) (by omega), ?_⟩
      intro v5 ev5
      refine ⟨inI_s (by omega) (by omega), ?_⟩
      intro v6 ev6
      refine ⟨⟨i + 1, m', by dsimp only; omega, by omega, by dsimp only; omega, by dsimp only; omega, by dsimp only; omega, ?_⟩, by dsimp only; omega⟩
      dsimp only
      rw [show max 0 v5 = x6 - pt by omega, ev4]
      omega
    refine ⟨fun h3 => key _ (by omega), fun h3 => key _ (by omega)⟩
end PO
