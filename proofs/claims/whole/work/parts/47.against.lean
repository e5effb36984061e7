/-! against, score -/
abbrev saV (I : IFn) (b s : Nat) : Int := I 235 (6 * b + s)
def cmW (I : IFn) (s1 s2 b : Nat) : Bool := decide (0 ≤ saV I b s1 ∧ 0 ≤ saV I b s2 ∧ saV I b s2 < saV I b s1)
def cmL (I : IFn) (s1 s2 b : Nat) : Bool := decide (0 ≤ saV I b s1 ∧ 0 ≤ saV I b s2 ∧ saV I b s1 < saV I b s2)
def cmA (I : IFn) (s1 s2 b : Nat) : Bool := decide (0 ≤ saV I b s1 ∧ 0 ≤ saV I b s2 ∧ saV I b s1 = saV I b s2)
/-- what was said, 0 where nothing was -/
def sdV (I : IFn) (b s : Nat) : Int := if 0 ≤ saV I b s then saV I b s else 0
def trV (I : IFn) (b s : Nat) : Int := if 0 ≤ saV I b s then 1 else 0
section AGN
variable {M : Mm} {I : IFn} {R : RFn} {p q s b : Nat} {x1 x2 x3 x4 : Int}
theorem FA.mvg {M' : Mm} (h : FA M I R p q) (e : M'.2.2.1 = M.2.2.1) (ei : ∀ o j, dREL p o j → M'.1 o j = M.1 o j) : FA M' I R p q := ⟨h.1, e.trans h.2.1, fun o j z => (ei o j z).trans (h.2.2 o j z)⟩
theorem FA.sai (h : FA M I R p q) (hb : b < 12) (hs : s < 6) : (M.1 (175 + 3 * b) s = saV I b s ∧ 0 ≤ saV I b s ∧ saV I b s ≤ 100) ∨ (M.1 (175 + 3 * b) s = -1 ∧ saV I b s = -4) := by
  rw [h.2.2 _ _ (dR_S hb)]
  exact h.1.2.2.2.2.1 b s hb hs
theorem FA.r7 (h : FA M I R p q) (hb : b < 12) : M.2.2.1 (173 + 3 * b) 7 = some (175 + 3 * b) := by
  rw [h.2.1]; exact (h.1.1.2.2.2.2.1.2.2 b hb).2.2
theorem c_hasTried {Q : Int → Prop} (h : FA M I R p q) (hb : b < 12) (hs : s < 6) (hq : Q (bi (0 ≤ saV I b s))) : P_X0_hasTried (173 + 3 * b) s M Q := by
  have hsa := h.sai hb hs
  unfold P_X0_hasTried
  rw [p_isWithin]
  refine ⟨fun z => by rw [bi0] at z; omega, fun _ => ?_⟩
  rintro _ rfl
  refine goA (h.r7 hb) ⟨by omega, by rw [(sh_B b hb).2.2]⟩ ⟨by omega, by rw [(sh_B b hb).2.2]; show (s : Int) < 6; omega⟩ ?_
  rw [show ((s : Int)).toNat = s by omega]
  refine ⟨fun z => ?_, fun z => ?_⟩
  · rw [bi_f (by omega)] at hq; exact hq
  · rw [bi_t (by omega)] at hq; exact hq
theorem c_saidOf {Q : Int → Prop} (h : FA M I R p q) (hb : b < 12) (hs : s < 6) (hq : Q (sdV I b s)) : P_X0_saidOf (173 + 3 * b) s M Q := by
  have hsa := h.sai hb hs
  unfold P_X0_saidOf
  refine c_hasTried h hb hs ⟨fun z => ?_, fun z => ?_⟩
  · rw [bi0] at z
    unfold sdV at hq
    rw [if_neg z] at hq; exact hq
  · rw [bi0] at z
    unfold sdV at hq
    rw [if_pos (by omega)] at hq
    rintro _ rfl
    refine goA (h.r7 hb) ⟨by omega, by rw [(sh_B b hb).2.2]⟩ ⟨by omega, by rw [(sh_B b hb).2.2]; show (s : Int) < 6; omega⟩ ?_
    rw [show ((s : Int)).toNat = s by omega, show M.1 (175 + 3 * b) s = saV I b s by omega]
    exact hq
theorem c_c86 {a1 : Option Nat} {v s2 : Int} {Q : Mm → Prop} {K : Int × Mm → Prop} (h1 : 0 ≤ M.1 220 1 ∧ M.1 220 1 ≤ 100) (h2 : 0 ≤ M.1 220 2 ∧ M.1 220 2 ≤ 100) (h3 : 0 ≤ M.1 220 3 ∧ M.1 220 3 ≤ 100) (hs : 0 ≤ s2 ∧ s2 ≤ 1) (h4 : 0 ≤ x4 ∧ x4 ≤ 100) (hK : ∀ M' : Mm, M'.2 = M.2 → (∀ o j, ¬ (o = 220 ∧ j ≠ 0) → M'.1 o j = M.1 o j) → M'.1 220 1 = M.1 220 1 + s2 → M'.1 220 2 = M.1 220 2 + (if 0 ≤ v then 0 else 1) → M'.1 220 3 = M.1 220 3 + (if v = 0 then 1 else 0) → K (x4 + 1, M')) : P_X10_compare_86 220 a1 x2 x3 x4 v (some 220) (M.1 220 1) s2 M Q K := by
  unfold P_X10_compare_86
  refine ⟨inI_s (by omega) (by omega), goO rfl (by decide) ?_⟩
  intro M13 e13
  have a2 : M13.1 220 2 = M.1 220 2 := by rw [e13, setI_n _ _ _ _ (by omega)]
  have a3 : M13.1 220 3 = M.1 220 3 := by rw [e13, setI_n _ _ _ _ (by omega)]
  have a1' : M13.1 220 1 = M.1 220 1 + s2 := by rw [e13, setI_s]
  have go : ∀ y : Int, y = (if 0 ≤ v then 0 else 1) → P_X10_compare_105 220 a1 x2 x3 x4 v (some 220) (M13.1 220 2) y M13 Q K := by
    intro y ey
    have hy : 0 ≤ y ∧ y ≤ 1 := by rw [ey]; split <;> omega
    unfold P_X10_compare_105
    refine ⟨inI_s (by omega) (by omega), goO rfl (by decide) ?_⟩
    intro M3 e3
    have b2 : M3.1 220 2 = M.1 220 2 + y := by rw [e3, setI_s, a2]
    have b1 : M3.1 220 1 = M.1 220 1 + s2 := by rw [e3, setI_n _ _ _ _ (by omega), a1']
    have b3 : M3.1 220 3 = M.1 220 3 := by rw [e3, setI_n _ _ _ _ (by omega), a3]
    have fin : ∀ z : Int, z = (if v = 0 then 1 else 0) → K (x4 + 1, setI M3 220 3 (M3.1 220 3 + z)) := by
      intro z ez
      refine hK _ (by show M3.2 = M.2; rw [e3]; show M13.2 = M.2; rw [e13]) (fun o j hoj => ?_) ?_ ?_ ?_
      · rw [setI_n _ _ _ _ (by omega), e3, setI_n _ _ _ _ (by omega), e13, setI_n _ _ _ _ (by omega)]
      · rw [setI_n _ _ _ _ (by omega)]; exact b1
      · rw [setI_n _ _ _ _ (by omega), b2, ey]
      · rw [setI_s, b3, ez]
    refine ⟨fun g => ⟨inI_s (by omega) (by omega), ?_⟩, fun g => ⟨inI_s (by omega) (by omega), ?_⟩⟩
    · rintro _ rfl
      refine ⟨inI_s (by omega) (by omega), ?_⟩
      rintro _ rfl
      exact fin 0 (by rw [if_neg g])
    · rintro _ rfl
      refine ⟨inI_s (by omega) (by omega), ?_⟩
      rintro _ rfl
      exact fin 1 (by rw [if_pos g])
  exact ⟨fun g => go 0 (by rw [if_pos g]), fun g => go 1 (by rw [if_neg g])⟩
theorem c_compare {s1 s2 N : Nat} {Q : Mm → Prop} (h : FA M I R p q) (hN : I 221 12 = N) (h1 : s1 < 6) (h2 : s2 < 6) (hq : ∀ M' : Mm, M'.2 = M.2 → (∀ o j, ¬ (o = 220 ∧ j ≠ 0) → M'.1 o j = M.1 o j) → M'.1 220 1 = (ctF (cmW I s1 s2) N : Nat) → M'.1 220 2 = (ctF (cmL I s1 s2) N : Nat) → M'.1 220 3 = (ctF (cmA I s1 s2) N : Nat) → Q M') : P_X10_compare 220 (some 170) s1 s2 M Q := by
  obtain ⟨N', e0, e1, e2, e3⟩ := h.nb
  have : N' = N := by omega
  subst this
  unfold P_X10_compare
  intro M30 e30 M32 e32 M34 e34
  unfold P_X10_compare_18
  refine lp_i (fun y : Int × Mm => ∃ i : Nat, y.1 = i ∧ i ≤ N' ∧ y.2.2 = M.2 ∧ (∀ o j, ¬ (o = 220 ∧ j ≠ 0) → y.2.1 o j = M.1 o j) ∧ y.2.1 220 1 = (ctF (cmW I s1 s2) i : Nat) ∧ y.2.1 220 2 = (ctF (cmL I s1 s2) i : Nat) ∧ y.2.1 220 3 = (ctF (cmA I s1 s2) i : Nat)) (fun y => (12 - y.1).toNat) ⟨0, rfl, by omega, ?_, ?_, ?_, ?_, ?_⟩ ?_
  · show M34.2 = M.2; rw [e34, e32, e30]
  · intro o j hoj
    show M34.1 o j = _
    rw [e34, setI_n _ _ _ _ (by omega), e32, setI_n _ _ _ _ (by omega), e30, setI_n _ _ _ _ (by omega)]
  · show M34.1 220 1 = _
    rw [e34, setI_n _ _ _ _ (by omega), e32, setI_n _ _ _ _ (by omega), e30, setI_s]; rfl
  · show M34.1 220 2 = _
    rw [e34, setI_n _ _ _ _ (by omega), e32, setI_s]; rfl
  · show M34.1 220 3 = _
    rw [e34, setI_s]; rfl
  rintro ⟨y4, M1⟩ ⟨i, f1, f2, f3, f4, f5, f6, f7⟩
  dsimp only at f1 f3 f4 f5 f6 f7
  subst f1
  show F_X10_compare_18 220 (some 170) s1 s2 Q _ (i : Int) M1
  have hA : FA M1 I R p q := h.mvg (by rw [f3]) (fun o j z => f4 o j (dREL_sc h.1.1.1.p z).2.2.1)
  have hB : StrB M1.2.2.1 := by rw [hA.2.1]; exact h.1.1.2.2.2.2.1
  have hW := ct_le (f := cmW I s1 s2) i
  have hL := ct_le (f := cmL I s1 s2) i
  have hE := ct_le (f := cmA I s1 s2) i
  have sW : ctF (cmW I s1 s2) (i + 1) = ctF (cmW I s1 s2) i + (if cmW I s1 s2 i then 1 else 0) := rfl
  have sL : ctF (cmL I s1 s2) (i + 1) = ctF (cmL I s1 s2) i + (if cmL I s1 s2 i then 1 else 0) := rfl
  have sA : ctF (cmA I s1 s2) (i + 1) = ctF (cmA I s1 s2) i + (if cmA I s1 s2 i then 1 else 0) := rfl
  unfold F_X10_compare_18
  refine goO rfl (by decide) ?_
  rw [f4 170 1 (by omega), e2]
  refine ⟨fun hle => ?_, fun hlt => ?_⟩
  · have : i = N' := by omega
    subst this
    exact hq M1 f3 f4 f5 f6 f7
  · have hi : i < 12 := by omega
    rintro _ rfl
    refine goA hB.1 (by decide) ⟨by omega, by rw [show (SH 171).2 = 12 by decide]; omega⟩ ?_
    rintro _ rfl
    refine goO (k := 173 + 3 * i) (by rw [show ((i : Int)).toNat = i by omega]; exact (hB.2.2 i hi).1) ⟨by omega, by rw [(sh_B i hi).1]⟩ ?_
    have none : ¬ (0 ≤ saV I i s1 ∧ 0 ≤ saV I i s2) → ∀ v : Int, v = (i : Int) + 1 → (∃ i : Nat, v = i ∧ i ≤ N' ∧ M1.2 = M.2 ∧ (∀ o j, ¬ (o = 220 ∧ j ≠ 0) → M1.1 o j = M.1 o j) ∧ M1.1 220 1 = (ctF (cmW I s1 s2) i : Nat) ∧ M1.1 220 2 = (ctF (cmL I s1 s2) i : Nat) ∧ M1.1 220 3 = (ctF (cmA I s1 s2) i : Nat)) ∧ (12 - v).toNat < (12 - (i : Int)).toNat := by
      intro hno v ev
      have c1 : ¬ cmW I s1 s2 i = true := fun z => by have := decide_eq_true_iff.mp z; omega
      have c2 : ¬ cmL I s1 s2 i = true := fun z => by have := decide_eq_true_iff.mp z; omega
      have c3 : ¬ cmA I s1 s2 i = true := fun z => by have := decide_eq_true_iff.mp z; omega
      exact ⟨⟨i + 1, by omega, by omega, f3, f4, by rw [sW, if_neg c1]; exact f5, by rw [sL, if_neg c2]; exact f6, by rw [sA, if_neg c3]; exact f7⟩, by omega⟩
    refine c_hasTried hA hi h1 ⟨fun z => ⟨inI_s (by omega) (by omega), none (fun y => bi0.mp z y.1)⟩, fun z1 => ?_⟩
    refine c_hasTried hA hi h2 ⟨fun z => ⟨inI_s (by omega) (by omega), none (fun y => bi0.mp z y.2)⟩, fun z2 => ?_⟩
    rw [bi0] at z1 z2
    have z1 := Classical.not_not.mp z1
    have z2 := Classical.not_not.mp z2
    refine c_saidOf hA hi h1 (c_saidOf hA hi h2 ?_)
    rw [show sdV I i s1 = saV I i s1 from if_pos z1, show sdV I i s2 = saV I i s2 from if_pos z2]
    have fin : ∀ (v s : Int), 0 ≤ s ∧ s ≤ 1 → s = (if cmW I s1 s2 i then 1 else 0) → (if 0 ≤ v then (0 : Int) else 1) = (if cmL I s1 s2 i then 1 else 0) → (if v = 0 then (1 : Int) else 0) = (if cmA I s1 s2 i then 1 else 0) → P_X10_compare_86 220 (some 170) s1 s2 i v (some 220) (M1.1 220 1) s M1 Q (fun y => (∃ i : Nat, y.1 = i ∧ i ≤ N' ∧ y.2.2 = M.2 ∧ (∀ o j, ¬ (o = 220 ∧ j ≠ 0) → y.2.1 o j = M.1 o j) ∧ y.2.1 220 1 = (ctF (cmW I s1 s2) i : Nat) ∧ y.2.1 220 2 = (ctF (cmL I s1 s2) i : Nat) ∧ y.2.1 220 3 = (ctF (cmA I s1 s2) i : Nat)) ∧ (12 - y.1).toNat < (12 - (i : Int)).toNat) := by
      intro v s hs es el ea
      refine c_c86 (by omega) (by omega) (by omega) hs (by omega) (fun M' k1 k2 k3 k4 k5 => ?_)
      refine ⟨⟨i + 1, by dsimp only; omega, by omega, k1.trans f3, fun o j z => (k2 o j z).trans (f4 o j z), ?_, ?_, ?_⟩, by dsimp only; omega⟩
      · dsimp only; rw [k3, es, sW, f5]; split <;> omega
      · dsimp only; rw [k4, el, sL, f6]; split <;> omega
      · dsimp only; rw [k5, ea, sA, f7]; split <;> omega
    have dW : cmW I s1 s2 i = decide (0 ≤ saV I i s1 ∧ 0 ≤ saV I i s2 ∧ saV I i s2 < saV I i s1) := rfl
    have dL : cmL I s1 s2 i = decide (0 ≤ saV I i s1 ∧ 0 ≤ saV I i s2 ∧ saV I i s1 < saV I i s2) := rfl
    have dA : cmA I s1 s2 i = decide (0 ≤ saV I i s1 ∧ 0 ≤ saV I i s2 ∧ saV I i s1 = saV I i s2) := rfl
    unfold P_J6_compare_7cf53
    refine ⟨fun g1 => ⟨fun g2 => ?_, fun g2 => ?_⟩, fun g1 => ?_⟩
    · refine ⟨fun z => absurd z (by decide), fun _ => fin 1 1 (by decide) ?_ ?_ ?_⟩
      · rw [dW, decide_eq_true (by omega)]; rfl
      · rw [dL, decide_eq_false (by omega)]; rfl
      · rw [dA, decide_eq_false (by omega)]; rfl
    · refine ⟨fun _ => fin 0 0 (by decide) ?_ ?_ ?_, fun z => absurd (Int.le_refl _) z⟩
      · rw [dW, decide_eq_false (by omega)]; rfl
      · rw [dL, decide_eq_false (by omega)]; rfl
      · rw [dA, decide_eq_true (by omega)]; rfl
    · refine ⟨fun _ => fin (-1) 0 (by decide) ?_ ?_ ?_, fun z => absurd (by decide) z⟩
      · rw [dW, decide_eq_false (by omega)]; rfl
      · rw [dL, decide_eq_true (by omega)]; rfl
      · rw [dA, decide_eq_false (by omega)]; rfl
theorem r_against {s1 s2 N : Nat} {Q : Int → Prop} (h : FA M I R p q) (hN : I 221 12 = N) (h1 : s1 < 6) (h2 : s2 < 6) (h3 : 0 ≤ x3 ∧ x3 ≤ 3) (hq : Q (if x3 = 0 then ((ctF (cmW I s1 s2) N : Nat) : Int) else if x3 = 1 then ((ctF (cmL I s1 s2) N : Nat) : Int) else if x3 = 2 then ((ctF (cmA I s1 s2) N : Nat) : Int) else ((tri (ctF (cmW I s1 s2) N + ctF (cmL I s1 s2) N) (ctF (cmW I s1 s2) N) : Nat) : Int))) : P_X12_against_47 221 s1 s2 x3 0 0 0 0 M Q := by
  obtain ⟨N', e0, e1, e2, e3⟩ := h.nb
  have : N' = N := by omega
  subst this
  have hSM : StrM M.2.2.1 := by rw [h.2.1]; exact h.1.1.2.2.2.2.2.1
  have r16 := hSM.2.2.2.2.2.2.2.2.2.2.2.2.2.1
  have z35 : (SH 235).2 = 72 := by decide
  unfold P_X12_against_47
  refine lp_i (fun y : Int × Int × Int × Int => ∃ i : Nat, y.2.2.2 = i ∧ i ≤ N' ∧ y.1 = (ctF (cmW I s1 s2) i : Nat) ∧ y.2.1 = (ctF (cmL I s1 s2) i : Nat) ∧ y.2.2.1 = (ctF (cmA I s1 s2) i : Nat)) (fun y => (12 - y.2.2.2).toNat) ⟨0, rfl, by omega, rfl, rfl, rfl⟩ ?_
  rintro ⟨x4, x5, x6, x7⟩ ⟨i, f1, f2, f3, f4, f5⟩
  dsimp only at f1 f3 f4 f5
  subst f1
  show F_X12_against_47 221 s1 s2 x3 M Q _ x4 x5 x6 (i : Int)
  have hW := ct_le (f := cmW I s1 s2) i
  have hL := ct_le (f := cmL I s1 s2) i
  have hE := ct_le (f := cmA I s1 s2) i
  have sW : ctF (cmW I s1 s2) (i + 1) = ctF (cmW I s1 s2) i + (if cmW I s1 s2 i then 1 else 0) := rfl
  have sL : ctF (cmL I s1 s2) (i + 1) = ctF (cmL I s1 s2) i + (if cmL I s1 s2 i then 1 else 0) := rfl
  have sA : ctF (cmA I s1 s2) (i + 1) = ctF (cmA I s1 s2) i + (if cmA I s1 s2 i then 1 else 0) := rfl
  unfold F_X12_against_47
  rw [e3]
  refine ⟨fun hle => ?_, fun hlt => ?_⟩
  · have : i = N' := by omega
    subst this
    have hwl := ct_2 (f := cmW I s1 s2) (g := cmL I s1 s2) (fun b z => by
      have z1 := decide_eq_true_iff.mp z.1
      have z2 := decide_eq_true_iff.mp z.2
      omega) i
    refine ⟨fun g => ?_, fun g => ⟨fun g0 => ⟨fun g1 => ?_, fun g1 => ?_⟩, fun g0 => ?_⟩⟩
    · rw [if_neg (by omega), if_neg (by omega), if_neg (by omega)] at hq
      rw [f3, f4]
      exact r_odds (by omega) hq
    · rw [if_neg (by omega), if_neg (by omega), if_pos (by omega)] at hq
      rw [f5]; exact hq
    · rw [if_neg (by omega), if_pos (by omega)] at hq
      rw [f4]; exact hq
    · rw [if_pos (by omega)] at hq
      rw [f3]; exact hq
  · have hi : i < 12 := by omega
    have g35 : ∀ s : Nat, M.1 235 (6 * i + s) = saV I i s := fun s => h.2.2 _ _ dR_235
    have v1 := h.sai hi h1
    have v2 := h.sai hi h2
    have dW : cmW I s1 s2 i = decide (0 ≤ saV I i s1 ∧ 0 ≤ saV I i s2 ∧ saV I i s2 < saV I i s1) := rfl
    have dL : cmL I s1 s2 i = decide (0 ≤ saV I i s1 ∧ 0 ≤ saV I i s2 ∧ saV I i s1 < saV I i s2) := rfl
    have dA : cmA I s1 s2 i = decide (0 ≤ saV I i s1 ∧ 0 ≤ saV I i s2 ∧ saV I i s1 = saV I i s2) := rfl
    rintro _ rfl
    refine ⟨inI_s (by omega) (by omega), inI_s (by omega) (by omega), goA r16 (by decide) ⟨by omega, by rw [z35]; omega⟩ ?_⟩
    rw [show (6 * (i : Int) + s1).toNat = 6 * i + s1 by omega, g35]
    intro v15 e15
    rintro _ rfl
    refine ⟨inI_s (by omega) (by omega), inI_s (by omega) (by omega), goA r16 (by decide) ⟨by omega, by rw [z35]; omega⟩ ?_⟩
    rw [show (6 * (i : Int) + s2).toNat = 6 * i + s2 by omega, g35]
    intro v19 e19
    have nx : ∀ (a b c v : Int), a = (ctF (cmW I s1 s2) (i + 1) : Nat) → b = (ctF (cmL I s1 s2) (i + 1) : Nat) → c = (ctF (cmA I s1 s2) (i + 1) : Nat) → v = (i : Int) + 1 → (∃ i : Nat, v = i ∧ i ≤ N' ∧ a = (ctF (cmW I s1 s2) i : Nat) ∧ b = (ctF (cmL I s1 s2) i : Nat) ∧ c = (ctF (cmA I s1 s2) i : Nat)) ∧ (12 - v).toNat < (12 - (i : Int)).toNat := fun a b c v ha hb hc hv => ⟨⟨i + 1, by omega, by omega, ha, hb, hc⟩, by omega⟩
    have none : ¬ (0 ≤ saV I i s1 ∧ 0 ≤ saV I i s2) → ∀ v : Int, v = (i : Int) + 1 → (∃ i : Nat, v = i ∧ i ≤ N' ∧ x4 = (ctF (cmW I s1 s2) i : Nat) ∧ x5 = (ctF (cmL I s1 s2) i : Nat) ∧ x6 = (ctF (cmA I s1 s2) i : Nat)) ∧ (12 - v).toNat < (12 - (i : Int)).toNat := by
      intro hno v ev
      refine nx x4 x5 x6 v ?_ ?_ ?_ ev
      · rw [sW, dW, decide_eq_false (by omega)]; exact f3
      · rw [sL, dL, decide_eq_false (by omega)]; exact f4
      · rw [sA, dA, decide_eq_false (by omega)]; exact f5
    refine ⟨fun z => ⟨inI_s (by omega) (by omega), none (by omega)⟩, fun z1 => ⟨fun z => ⟨inI_s (by omega) (by omega), none (by omega)⟩, fun z2 => ?_⟩⟩
    have s125 : ∀ a y : Int, a = (ctF (cmW I s1 s2) (i + 1) : Nat) → y = (if cmL I s1 s2 i then 1 else 0) → P_X12_against_125 221 s1 s2 x3 a x6 i v15 v19 x5 y M Q (fun y => (∃ i : Nat, y.2.2.2 = i ∧ i ≤ N' ∧ y.1 = (ctF (cmW I s1 s2) i : Nat) ∧ y.2.1 = (ctF (cmL I s1 s2) i : Nat) ∧ y.2.2.1 = (ctF (cmA I s1 s2) i : Nat)) ∧ (12 - y.2.2.2).toNat < (12 - (i : Int)).toNat) := by
      intro a y ha hy
      have hy1 : 0 ≤ y ∧ y ≤ 1 := by rw [hy]; split <;> omega
      unfold P_X12_against_125
      refine ⟨inI_s (by omega) (by omega), ?_⟩
      intro v6 e6
      have h6 : v6 = (ctF (cmL I s1 s2) (i + 1) : Nat) := by rw [e6, sL, f4, hy]; split <;> omega
      refine ⟨fun g => ⟨inI_s (by omega) (by omega), ?_⟩, fun g => ⟨inI_s (by omega) (by omega), ?_⟩⟩
      · intro v7 e7
        refine ⟨inI_s (by omega) (by omega), ?_⟩
        intro v8 e8
        refine nx a v6 v7 v8 ha h6 ?_ e8
        rw [sA, dA, decide_eq_false (by omega), e7, f5]; rfl
      · intro v9 e9
        refine ⟨inI_s (by omega) (by omega), ?_⟩
        intro v10 e10
        refine nx a v6 v9 v10 ha h6 ?_ e10
        rw [sA, dA, decide_eq_true (by omega), e9, f5]; rfl
    have s108 : ∀ y : Int, y = (if cmW I s1 s2 i then 1 else 0) → P_X12_against_108 221 s1 s2 x3 x5 x6 i v15 v19 x4 y M Q (fun y => (∃ i : Nat, y.2.2.2 = i ∧ i ≤ N' ∧ y.1 = (ctF (cmW I s1 s2) i : Nat) ∧ y.2.1 = (ctF (cmL I s1 s2) i : Nat) ∧ y.2.2.1 = (ctF (cmA I s1 s2) i : Nat)) ∧ (12 - y.2.2.2).toNat < (12 - (i : Int)).toNat) := by
      intro y hy
      have hy1 : 0 ≤ y ∧ y ≤ 1 := by rw [hy]; split <;> omega
      unfold P_X12_against_108
      refine ⟨inI_s (by omega) (by omega), ?_⟩
      intro v11 e11
      have h11 : v11 = (ctF (cmW I s1 s2) (i + 1) : Nat) := by rw [e11, sW, f3, hy]; split <;> omega
      refine ⟨fun g => s125 v11 0 h11 ?_, fun g => s125 v11 1 h11 ?_⟩
      · rw [dL, decide_eq_false (by omega)]; rfl
      · rw [dL, decide_eq_true (by omega)]; rfl
    refine ⟨fun g => s108 0 ?_, fun g => s108 1 ?_⟩
    · rw [dW, decide_eq_false (by omega)]; rfl
    · rw [dW, decide_eq_true (by omega)]; rfl
theorem st_against (h : Rel M) : P_X11_against 0 x1 x2 x3 M (fun r M1 => P_X12_against 221 x1 x2 x3 M1 (fun r2 => r = r2 ∧ Rel M1)) := by
  obtain ⟨p, q, hF⟩ := id h
  obtain ⟨hS, hT, hC, hH, hA, hM, hR, hL, hE⟩ := id hF
  have hFA := FA.self hF
  obtain ⟨N, hN, hN12, hNc, hNr⟩ := hFA.nb
  have he := hE.1
  have hEn : 0 ≤ M.1 227 1 ∧ M.1 227 1 ≤ 6 := ⟨hE.2.1, hE.2.2.1⟩
  have hpl : p ≤ 87 := by rcases hS.1.p with rfl | rfl <;> omega
  have hSM := hS.2.2.2.2.2.1
  have ref0 : ∀ (M1 : Mm) (Q : Int → Prop), M1.2 = M.2 → M1.1 227 1 = M.1 227 1 → (((0 ≤ x1 ∧ x1 < M.1 227 1) ∧ (0 ≤ x2 ∧ x2 < M.1 227 1) ∧ ¬ x1 = x2 ∧ 0 ≤ x3 ∧ x3 ≤ 3) → P_X12_against_47 221 x1 x2 x3 0 0 0 0 M1 Q) → (¬ ((0 ≤ x1 ∧ x1 < M.1 227 1) ∧ (0 ≤ x2 ∧ x2 < M.1 227 1) ∧ ¬ x1 = x2 ∧ 0 ≤ x3 ∧ x3 ≤ 3) → Q (-1)) → P_X12_against 221 x1 x2 x3 M1 Q := by
    intro M1 Q m1 m2 q1 q2
    unfold P_X12_against
    rw [r_isSeat (by rw [m1]; exact hSM) (by rw [m2]; exact hEn), m2]
    refine ⟨fun z => q2 (fun y => bi0.mp z (by omega)), fun g1 => ?_⟩
    rw [r_isSeat (by rw [m1]; exact hSM) (by rw [m2]; exact hEn), m2]
    refine ⟨fun z => q2 (fun y => bi0.mp z (by omega)), fun g2 => ⟨fun z => q2 (fun y => y.2.2.1 z), fun g3 => ?_⟩⟩
    rw [p_in]
    rw [bi0] at g1 g2
    refine ⟨fun g4 => ?_, fun z => q2 (fun y => bi0.mp z y.2.2.2)⟩
    rw [bi0] at g4
    exact q1 ⟨by omega, by omega, g3, by omega⟩
  have bad : ¬ ((0 ≤ x1 ∧ x1 < M.1 227 1) ∧ (0 ≤ x2 ∧ x2 < M.1 227 1) ∧ ¬ x1 = x2 ∧ 0 ≤ x3 ∧ x3 ≤ 3) → P_X12_against 221 x1 x2 x3 M (fun r2 => -1 = r2 ∧ Rel M) := fun hb => ref0 M _ rfl rfl (fun y => absurd y hb) (fun _ => ⟨rfl, h⟩)
  unfold P_X11_against
  rintro _ rfl
  refine goO hS.2.1 ⟨by omega, by rw [(sh_pl hS.1.p).1]⟩ ?_
  refine c_seatAt hS.1.p hS.P (by omega) (fun s1 e1 hs1 => ?_) (fun hz => ⟨fun _ => bad (fun y => hz (by omega)), fun _ z => (by cases z)⟩)
  refine ⟨fun z => (by cases z), fun _ _ => ?_⟩
  rintro _ rfl
  refine goO hS.2.1 ⟨by omega, by rw [(sh_pl hS.1.p).1]⟩ ?_
  refine c_seatAt hS.1.p hS.P (by omega) (fun s2 e2 hs2 => ?_) (fun hz => ⟨fun _ => bad (fun y => hz (by omega)), fun _ z => (by cases z)⟩)
  refine ⟨fun z => (by cases z), fun _ _ => ⟨fun z => bad (fun y => y.2.2.1 z), fun hne => ?_⟩⟩
  rw [p_isWithin]
  refine ⟨fun g3 => ?_, fun z => bad (fun y => bi0.mp z y.2.2.2)⟩
  rw [bi0] at g3
  have g3 := Classical.not_not.mp g3
  subst e1 e2
  have r7 : M.2.2.1 0 7 = some 220 := hS.2.2.2.1.2.2.2.2.2.1
  rintro _ rfl
  rw [hS.2.2.2.1.2.1]
  rintro _ rfl
  refine goO r7 (by decide) ?_
  refine c_compare hFA hN (by omega) (by omega) (fun M1 k1 k2 k3 k4 k5 => ?_)
  have hFA1 : FA M1 M.1 M.2.2.1 p q := hFA.mvg (by rw [k1]) (fun o j z => k2 o j (dREL_sc hS.1.p z).2.2.1)
  have hR1 : Rel M1 := ⟨p, q, by rw [k1]; exact hF.c (fun o j z => k2 o j (dREL_sc hS.1.p z).2.2.1)⟩
  have r7' : M1.2.2.1 0 7 = some 220 := by rw [k1]; exact r7
  have ref : ∀ r : Int, r = (if x3 = 0 then ((ctF (cmW M.1 s1 s2) N : Nat) : Int) else if x3 = 1 then ((ctF (cmL M.1 s1 s2) N : Nat) : Int) else if x3 = 2 then ((ctF (cmA M.1 s1 s2) N : Nat) : Int) else ((tri (ctF (cmW M.1 s1 s2) N + ctF (cmL M.1 s1 s2) N) (ctF (cmW M.1 s1 s2) N) : Nat) : Int)) → P_X12_against 221 s1 s2 x3 M1 (fun r2 => r = r2 ∧ Rel M1) := fun r er => ref0 M1 _ k1 (k2 _ _ (by omega)) (fun _ => r_against hFA1 hN (by omega) (by omega) g3 ⟨er, hR1⟩) (fun z => absurd ⟨⟨by omega, by omega⟩, ⟨by omega, by omega⟩, hne, g3⟩ z)
  have hwl := ct_2 (f := cmW M.1 s1 s2) (g := cmL M.1 s1 s2) (fun b z => by
      have z1 := decide_eq_true_iff.mp z.1
      have z2 := decide_eq_true_iff.mp z.2
      omega) N
  refine ⟨fun z => ?_, fun z => ?_, fun z => ?_, fun z => ?_⟩
  · rintro _ rfl
    exact goO r7' (by decide) (ref _ (by rw [if_pos z]; exact k3))
  · rintro _ rfl
    exact goO r7' (by decide) (ref _ (by rw [if_neg (by omega), if_pos z]; exact k4))
  · rintro _ rfl
    exact goO r7' (by decide) (ref _ (by rw [if_neg (by omega), if_neg (by omega), if_pos z]; exact k5))
  · rintro _ rfl
    exact goO r7' (by decide) (c_odds k3 k4 (by omega) (ref _ (by rw [if_neg (by omega), if_neg (by omega), if_neg (by omega)])))
end AGN
