/-! level, push, bears, press: the calls -/
def w0 (I : IFn) (s : Nat) : Nat → Int := fun i => I 231 (6 * s + i)
section RS2
variable {M : Mm} {p q : Nat} {x1 x2 x3 x4 : Int}
theorem w0_ok {I : IFn} {R : RFn} {s : Nat} (hE : SEA I R p) (hs : (s : Int) < I 227 1) : okW I (w0 I s) s := by
  intro i hi
  have hn := seat_np hE hs
  have := ((hE.2.2.2 s hs).2.2.2.2 i (by omega)).2.2.2.2
  exact this
theorem RC.self {s b : Nat} (h : RelF M.1 M.2.2.1 p q) (hs : (s : Int) < M.1 227 1) (hb : (b : Int) < M.1 221 12) : RC M M.1 M.2.2.1 p q s b := ⟨h, rfl, fun _ _ _ _ => rfl, hs, hb⟩
theorem Rel.keep {I : IFn} {R : RFn} {M2 : Mm} (h : RelF I R p q) (er : M2.2.2.1 = R) (e : ∀ o j, ¬ (209 ≤ o ∧ o ≤ 214) → ¬ (237 ≤ o) → o ≠ 216 → o ≠ 217 → o ≠ 172 → o ≠ 3 → M2.1 o j = I o j) : Rel M2 := by
  refine ⟨p, q, ?_⟩
  rw [er]
  exact h.c (fun o j z => by
    have := (dREL_sc h.1.1.p z).1
    exact e o j (by omega) (by omega) (by omega) (by omega) (by omega) (by omega))
theorem c_settles {Q : Int → Mm → Prop} (h : RelF M.1 M.2.2.1 p q) (h1 : ∀ b s : Nat, x1 = b → x2 = s → (b : Int) < M.1 221 12 → (s : Int) < M.1 227 1 → ∀ M' : Mm, M'.2 = M.2 → (∀ o j, ¬ (209 ≤ o ∧ o ≤ 214) → M'.1 o j = M.1 o j) → Rst M' M.1 M.2.2.1 (w0 M.1 s) s b → Q 1 M') (h2 : ¬ ((0 ≤ x1 ∧ x1 < M.1 221 12) ∧ 0 ≤ x2 ∧ x2 < M.1 227 1) → Q 0 M) : P_X11_settles 0 x1 x2 M Q := by
  obtain ⟨hS, hT, hC, hH, hA, hM, hR, hL, hE⟩ := id h
  have hc := hC.1
  have he := hE.1
  have hCn : 0 ≤ M.1 221 12 ∧ M.1 221 12 ≤ 12 := ⟨hC.2.1, hC.2.2.1⟩
  have hEn : 0 ≤ M.1 227 1 ∧ M.1 227 1 ≤ 6 := ⟨hE.2.1, hE.2.2.1⟩
  have hpl : p ≤ 87 := by rcases hS.1.p with rfl | rfl <;> omega
  unfold P_X11_settles
  rintro _ rfl
  refine goO hS.2.2.2.1.2.1 (by decide) ?_
  have hseat : ∀ (r4 : Option Nat) (K : Option Nat → Prop), (∀ s : Nat, x2 = s → (s : Int) < M.1 227 1 → K (some (p + 35 + 8 * s))) → (¬ (0 ≤ x2 ∧ x2 < M.1 227 1) → K none) → ∀ r5 : Option Nat, r5 = M.2.2.1 0 1 → ∃ o6, isO 5 r5 o6 ∧ P_X5_seatAt o6 x2 M K := by
    intro r4 K k1 k2
    rintro _ rfl
    exact goO hS.2.1 ⟨by omega, by rw [(sh_pl hS.1.p).1]⟩ (c_seatAt hS.1.p hS.P (by omega) (fun s e hs => k1 s e (by omega)) (fun z => k2 (by omega)))
  refine c_bodyAt hS.2.2.2.2.1 (by omega) (fun b e1 hb => ?_) (fun hz => ?_)
  · refine hseat none _ (fun s e2 hs => ?_) (fun hz => ?_)
    · refine ⟨fun z => (by cases z), fun _ _ => ⟨fun _ _ => ?_, fun z => (by cases z)⟩⟩
      have hRC := RC.self h hs (by omega : (b : Int) < M.1 221 12)
      rintro _ rfl
      refine goO hS.2.2.2.1.2.2.1 (by decide) ?_
      refine c_takeWorn hRC (fun i hi => ((hE.2.2.2 s hs).2.2.2.2 i (by have := seat_np hE hs; omega)).2.2.2.1) (fun M1 g1 g2 g3 => ?_)
      have hRC1 : RC M1 M.1 M.2.2.1 p q s b := hRC.mv2 (by rw [g1]) (fun o j z => g2 o j (by omega))
      rintro _ rfl
      refine goO (k := 209) (by rw [hRC1.2.1]; exact hS.2.2.2.1.2.2.1) (by decide) ?_
      refine c_settle hRC1 (w0_ok hE hs) g3 (fun M2 k1 k2 k3 k4 k5 k6 => ?_)
      refine h1 b s e1 e2 (by omega) hs M2 (k1.trans g1) (fun o j z => (k2 o j (by omega) (by omega)).trans (g2 o j (by omega))) ⟨?_, ?_, k3, k4, k5, k6⟩
      · rw [k1, g1]; exact hS.2.2.2.1
      · rw [k1, g1]
    · exact ⟨fun z => (by cases z), fun _ _ => ⟨fun _ z => (by cases z), fun _ => h2 (fun z => hz z.2)⟩⟩
  · have hbad : Q 0 M := h2 (fun z => hz (by omega))
    exact hseat none _ (fun s e2 hs => ⟨fun _ => hbad, fun _ z => (by cases z)⟩) (fun _ => ⟨fun _ => hbad, fun _ z => (by cases z)⟩)
theorem c_isPatch {Q : Int → Prop} (h : RelF M.1 M.2.2.1 p q) (h1 : ∀ s i : Nat, x1 = s → x2 = i → (s : Int) < M.1 227 1 → i < npR M.1 s → Q 1) (h2 : ¬ ((0 ≤ x1 ∧ x1 ≤ M.1 227 1 - 1) ∧ 0 ≤ x2 ∧ x2 ≤ M.1 229 (6 + x1.toNat) - 1) → Q 0) : P_X11_isPatch 0 x1 x2 M Q := by
  obtain ⟨hS, hT, hC, hH, hA, hM, hR, hL, hE⟩ := id h
  have he := hE.1
  have hEn : 0 ≤ M.1 227 1 ∧ M.1 227 1 ≤ 6 := ⟨hE.2.1, hE.2.2.1⟩
  have hpl : p ≤ 87 := by rcases hS.1.p with rfl | rfl <;> omega
  unfold P_X11_isPatch
  rintro _ rfl
  refine goO hS.2.1 ⟨by omega, by rw [(sh_pl hS.1.p).1]⟩ ?_
  refine c_seatAt hS.1.p hS.P (by omega) (fun s e1 hs => ?_) (fun hz => ⟨fun _ => h2 (fun z => hz (by omega)), fun _ z => (by cases z)⟩)
  refine ⟨fun z => (by cases z), fun _ _ => ?_⟩
  have hn := seat_np hE (s := s) (by omega)
  have f6 := (hE.2.2.2 s (by omega)).2.2.2.1
  refine goO rfl ⟨by omega, by rw [(sh_S hS.1.p hn.2.2.2).1]⟩ ?_
  refine c_patchAt hS.1.p hn.2.2.2 hS.P (by omega) (fun i e2 hi => ⟨fun z => (by cases z), fun _ _ => h1 s i e1 e2 (by omega) (by omega)⟩) (fun hz => ⟨fun _ => h2 (fun z => hz ?_), fun _ z => (by cases z)⟩)
  rw [show x1.toNat = s by omega] at z
  omega
theorem pm_ok {I : IFn} {R : RFn} (hE : SEA I R p) : ∀ s : Nat, (s : Int) < I 227 1 → 0 ≤ I 229 (6 + s) ∧ I 229 (6 + s) ≤ 6 := fun s hs => by have := (hE.2.2.2 s hs).2.2.2.1; omega
/-- behind the class's settling the reference's own start stands -/
theorem after {M' : Mm} {b s : Nat} (h : RelF M.1 M.2.2.1 p q) (hs : (s : Int) < M.1 227 1) (hb : (b : Int) < M.1 221 12) (e1 : M'.2 = M.2) (e2 : ∀ o j, ¬ (209 ≤ o ∧ o ≤ 214) → M'.1 o j = M.1 o j) : RC M' M.1 M.2.2.1 p q s b ∧ (∀ i, i < npR M.1 s → M'.1 231 (6 * s + i) = w0 M.1 s i) ∧ StrM M'.2.2.1 ∧ M'.1 221 12 = M.1 221 12 ∧ M'.1 227 1 = M.1 227 1 ∧ ∀ k, M'.1 229 k = M.1 229 k :=
  ⟨(RC.self h hs hb).mv2 (by rw [e1]) e2, fun i _ => e2 _ _ (by decide), by rw [e1]; exact h.1.2.2.2.2.2.1, e2 _ _ (by decide), e2 _ _ (by decide), fun k => e2 _ _ (by decide)⟩
theorem st_level (h : Rel M) : P_X11_level 0 x1 x2 x3 M (fun r M1 => P_X12_level 221 x1 x2 x3 M1 (fun r2 M2 => r = r2 ∧ Rel M2)) := by
  obtain ⟨p, q, hF⟩ := id h
  obtain ⟨hS, hT, hC, hH, hA, hM, hR, hL, hE⟩ := id hF
  have hCn : 0 ≤ M.1 221 12 ∧ M.1 221 12 ≤ 12 := ⟨hC.2.1, hC.2.2.1⟩
  have hEn : 0 ≤ M.1 227 1 ∧ M.1 227 1 ≤ 6 := ⟨hE.2.1, hE.2.2.1⟩
  have bad : ¬ (((0 ≤ x1 ∧ x1 < M.1 221 12) ∧ 0 ≤ x2 ∧ x2 < M.1 227 1) ∧ 0 ≤ x3 ∧ x3 ≤ 1) → P_X12_level 221 x1 x2 x3 M (fun r2 M2 => -1000000000 = r2 ∧ Rel M2) := by
    intro hb
    unfold P_X12_level
    rw [r_isBody hCn]
    refine ⟨fun _ => ⟨rfl, h⟩, fun g1 => ?_⟩
    rw [r_isSeat hS.2.2.2.2.2.1 hEn]
    refine ⟨fun _ => ⟨rfl, h⟩, fun g2 => ?_⟩
    rw [p_in]
    refine ⟨fun g3 => ?_, fun _ => ⟨rfl, h⟩⟩
    rw [bi0] at g1 g2 g3
    exact absurd ⟨⟨by omega, by omega⟩, by omega⟩ hb
  unfold P_X11_level
  rw [p_isWithin]
  refine ⟨fun z => bad (fun y => bi0.mp z y.2), fun g3 => ?_⟩
  refine c_settles hF (fun b s e1 e2 hb hs M' k1 k2 k3 => ?_) (fun hz => ⟨fun z => absurd rfl z, fun _ => bad (fun y => hz y.1)⟩)
  refine ⟨fun _ => ?_, fun z => absurd z (by decide)⟩
  obtain ⟨a1, a2, a3, a4, a5, a6⟩ := after hF hs hb k1 k2
  have hf := lv_f a1 (w0_ok hE hs)
  have ref : ∀ Q : Int → Mm → Prop, (∀ M2 : Mm, M2.1 = M'.1 → M2.2.2 = M'.2.2 → Q (if x3 = 0 then aL M.1 (w0 M.1 s) s b else bL M.1 (w0 M.1 s) s b) M2) → P_X12_level 221 x1 x2 x3 M' Q := by
    intro Q hq
    unfold P_X12_level
    rw [r_isBody (by rw [a4]; exact hCn), a4]
    refine ⟨fun z => by rw [bi0] at z; omega, fun _ => ?_⟩
    rw [r_isSeat a3 (by rw [a5]; exact hEn), a5]
    refine ⟨fun z => by rw [bi0] at z; omega, fun _ => ?_⟩
    rw [p_in]
    refine ⟨fun _ => ?_, fun z => absurd z g3⟩
    subst e1 e2
    refine r_lay a1 (w0_ok hE hs) a2 (fun M2 m1 m2 m3 => ⟨fun z => ?_, fun z => ?_⟩)
    · rw [m3.2, l2i_in (inI_s (by omega) (by omega))]
      have := hq M2 m1 m2
      rw [if_neg z] at this
      exact this
    · rw [m3.1, l2i_in (inI_s (by omega) (by omega))]
      have := hq M2 m1 m2
      rw [if_pos z] at this
      exact this
  have keep : ∀ M2 : Mm, M2.1 = M'.1 → M2.2.2 = M'.2.2 → Rel M2 := fun M2 m1 m2 => Rel.keep hF (by rw [m2, k1]) (fun o j z1 _ _ _ _ _ => by rw [m1]; exact k2 o j z1)
  refine ⟨fun z => ?_, fun z => ?_⟩
  · rintro _ rfl
    refine goO k3.1.2.2.1 (by decide) (ref _ (fun M2 m1 m2 => ⟨?_, keep M2 m1 m2⟩))
    rw [k3.2.2.2.1, if_neg z]
  · rintro _ rfl
    refine goO k3.1.2.2.1 (by decide) (ref _ (fun M2 m1 m2 => ⟨?_, keep M2 m1 m2⟩))
    rw [k3.2.2.1, if_pos z]
theorem st_bears (h : Rel M) : P_X11_bears 0 x1 x2 x3 M (fun r M1 => P_X12_bears 221 x1 x2 x3 M1 (fun r2 M2 => r = r2 ∧ Rel M2)) := by
  obtain ⟨p, q, hF⟩ := id h
  obtain ⟨hS, hT, hC, hH, hA, hM, hR, hL, hE⟩ := id hF
  have hCn : 0 ≤ M.1 221 12 ∧ M.1 221 12 ≤ 12 := ⟨hC.2.1, hC.2.2.1⟩
  have hEn : 0 ≤ M.1 227 1 ∧ M.1 227 1 ≤ 6 := ⟨hE.2.1, hE.2.2.1⟩
  have bad : ¬ ((0 ≤ x1 ∧ x1 < M.1 221 12) ∧ (0 ≤ x2 ∧ x2 ≤ M.1 227 1 - 1) ∧ 0 ≤ x3 ∧ x3 ≤ M.1 229 (6 + x2.toNat) - 1) → P_X12_bears 221 x1 x2 x3 M (fun r2 M2 => -1 = r2 ∧ Rel M2) := by
    intro hb
    unfold P_X12_bears
    rw [r_isBody hCn]
    refine ⟨fun _ => ⟨rfl, h⟩, fun g1 => ?_⟩
    rw [r_isPatch hS.2.2.2.2.2.1 hEn (pm_ok hE)]
    refine ⟨fun g2 => ?_, fun _ => ⟨rfl, h⟩⟩
    rw [bi0] at g1 g2
    exact absurd ⟨by omega, by omega⟩ hb
  unfold P_X11_bears
  refine c_isPatch hF (fun s i e2 e3 hs hi => ?_) (fun hz => ⟨fun _ => bad (fun y => hz y.2), fun z => absurd rfl z⟩)
  refine ⟨fun z => absurd z (by decide), fun _ => ?_⟩
  have hn := seat_np hE hs
  refine c_settles hF (fun b s' e1 e2' hb hs' M' k1 k2 k3 => ?_) (fun hz => ⟨fun z => absurd rfl z, fun _ => bad (fun y => hz ⟨y.1, by omega⟩)⟩)
  have es : s' = s := by omega
  subst es
  refine ⟨fun _ => ?_, fun z => absurd z (by decide)⟩
  obtain ⟨a1, a2, a3, a4, a5, a6⟩ := after hF hs hb k1 k2
  rintro _ rfl
  refine goO k3.1.2.2.1 (by decide) ?_
  subst e1 e2 e3
  refine c_stateAt k3 (by omega) hi ?_
  show P_X12_bears 221 b s' i M' _
  unfold P_X12_bears
  rw [r_isBody (by rw [a4]; exact hCn), a4]
  refine ⟨fun z => by rw [bi0] at z; omega, fun _ => ?_⟩
  rw [r_isPatch a3 (by rw [a5]; exact hEn) (fun t ht => by rw [a6]; exact pm_ok hE t (by rw [← a5]; exact ht)), a5, a6]
  refine ⟨fun _ => ?_, fun z => by rw [bi0, show ((s' : Int)).toNat = s' by omega] at z; omega⟩
  refine r_lay a1 (w0_ok hE hs) a2 (fun M2 m1 m2 m3 => ?_)
  have a1' : RC M2 M.1 M.2.2.1 p q s' b := a1.mv (by rw [m2]) (fun o j _ _ => by rw [m1])
  refine r_bearsBy a1' (w0_ok hE hs) (by rw [m1]; exact a2 i hi) m3 hi ⟨rfl, ?_⟩
  exact Rel.keep hF (by rw [m2, k1]) (fun o j z1 _ _ _ _ _ => by rw [m1]; exact k2 o j z1)
theorem st_push (h : Rel M) : P_X11_push 0 x1 x2 x3 x4 M (fun r M1 => P_X12_push 221 x1 x2 x3 x4 M1 (fun r2 M2 => r = r2 ∧ Rel M2)) := by
  obtain ⟨p, q, hF⟩ := id h
  obtain ⟨hS, hT, hC, hH, hA, hM, hR, hL, hE⟩ := id hF
  have hCn : 0 ≤ M.1 221 12 ∧ M.1 221 12 ≤ 12 := ⟨hC.2.1, hC.2.2.1⟩
  have hEn : 0 ≤ M.1 227 1 ∧ M.1 227 1 ≤ 6 := ⟨hE.2.1, hE.2.2.1⟩
  have bad : ¬ (((0 ≤ x1 ∧ x1 < M.1 221 12) ∧ (0 ≤ x2 ∧ x2 ≤ M.1 227 1 - 1) ∧ 0 ≤ x3 ∧ x3 ≤ M.1 229 (6 + x2.toNat) - 1) ∧ 0 ≤ x4 ∧ x4 ≤ 1) → P_X12_push 221 x1 x2 x3 x4 M (fun r2 M2 => -1 = r2 ∧ Rel M2) := by
    intro hb
    unfold P_X12_push
    rw [r_isBody hCn]
    refine ⟨fun _ => ⟨rfl, h⟩, fun g1 => ?_⟩
    rw [r_isPatch hS.2.2.2.2.2.1 hEn (pm_ok hE)]
    refine ⟨fun _ => ⟨rfl, h⟩, fun g2 => ?_⟩
    rw [p_in]
    refine ⟨fun g3 => ?_, fun _ => ⟨rfl, h⟩⟩
    rw [bi0] at g1 g2 g3
    exact absurd ⟨⟨by omega, by omega⟩, by omega⟩ hb
  unfold P_X11_push
  rw [p_isWithin]
  refine ⟨fun z => bad (fun y => bi0.mp z y.2), fun g4 => ?_⟩
  refine c_isPatch hF (fun s i e2 e3 hs hi => ?_) (fun hz => ⟨fun _ => bad (fun y => hz y.1.2), fun z => absurd rfl z⟩)
  refine ⟨fun z => absurd z (by decide), fun _ => ?_⟩
  have hn := seat_np hE hs
  refine c_settles hF (fun b s' e1 e2' hb hs' M' k1 k2 k3 => ?_) (fun hz => ⟨fun z => absurd rfl z, fun _ => bad (fun y => hz ⟨y.1.1, by omega⟩)⟩)
  have es : s' = s := by omega
  subst es
  refine ⟨fun _ => ?_, fun z => absurd z (by decide)⟩
  obtain ⟨a1, a2, a3, a4, a5, a6⟩ := after hF hs hb k1 k2
  have hwo := w0_ok hE hs
  have hf := lv_f a1 hwo
  have hfi := hf.2.2.2.2.2 i hi
  have hWb := lv_W a1 hwo
  subst e1 e2 e3
  obtain ⟨g, hg⟩ : ∃ g : Nat, g = Nat.gcd (puL M.1 (w0 M.1 s') s' b i).natAbs (bL M.1 (w0 M.1 s') s' b).natAbs := ⟨_, rfl⟩
  have hgp : 1 ≤ g := by rw [hg]; exact Nat.gcd_pos_of_pos_right _ (by omega)
  have ref : ∀ Q : Int → Mm → Prop, (∀ M2 : Mm, M2.1 = M'.1 → M2.2.2 = M'.2.2 → Q ((if x4 = 0 then puL M.1 (w0 M.1 s') s' b i else bL M.1 (w0 M.1 s') s' b).tdiv (g : Int)) M2) → P_X12_push 221 b s' i x4 M' Q := by
    intro Q hq
    unfold P_X12_push
    rw [r_isBody (by rw [a4]; exact hCn), a4]
    refine ⟨fun z => by rw [bi0] at z; omega, fun _ => ?_⟩
    rw [r_isPatch a3 (by rw [a5]; exact hEn) (fun t ht => by rw [a6]; exact pm_ok hE t (by rw [← a5]; exact ht)), a5, a6]
    refine ⟨fun z => by rw [bi0, show ((s' : Int)).toNat = s' by omega] at z; omega, fun _ => ?_⟩
    rw [p_in]
    refine ⟨fun _ => ?_, fun z => absurd z g4⟩
    refine r_lay a1 hwo a2 (fun M2 m1 m2 m3 => ?_)
    have a1' : RC M2 M.1 M.2.2.1 p q s' b := a1.mv (by rw [m2]) (fun o j _ _ => by rw [m1])
    refine r_pushOf a1' hwo (by rw [m1]; exact a2 i hi) m3 hi ?_
    rw [m3.2]
    refine r_common (inL_s (by omega) (by omega)) (inL_s (by omega) (by omega)) ?_
    rw [← hg]
    have q1 : inI ((bL M.1 (w0 M.1 s') s' b).tdiv (g : Int)) := tdiv_in (inI_s (by omega) (by omega)) (by omega)
    have q2 : inI ((puL M.1 (w0 M.1 s') s' b i).tdiv (g : Int)) := tdiv_in (inI_s (by omega) (by omega)) (by omega)
    have := hq M2 m1 m2
    refine ⟨fun z => ⟨by omega, ?_⟩, fun z => ⟨by omega, ?_⟩⟩
    · rw [l2i_in q1]; rw [if_neg z] at this; exact this
    · rw [l2i_in q2]; rw [if_pos z] at this; exact this
  have keep : ∀ M2 : Mm, M2.1 = M'.1 → M2.2.2 = M'.2.2 → Rel M2 := fun M2 m1 m2 => Rel.keep hF (by rw [m2, k1]) (fun o j z1 _ _ _ _ _ => by rw [m1]; exact k2 o j z1)
  rintro _ rfl
  refine goO k3.1.2.2.1 (by decide) (c_pushAt k3 (by omega) hi ?_)
  rintro _ rfl
  refine goO k3.1.2.2.1 (by decide) ?_
  rw [k3.2.2.2.1]
  refine c_cd (by omega) (by omega) ?_
  rw [← hg, show max 1 ((g : Nat) : Int) = (g : Int) by omega]
  refine ⟨fun z => ?_, fun z => ?_⟩
  · rintro _ rfl
    refine goO k3.1.2.2.1 (by decide) ⟨by omega, ref _ (fun M2 m1 m2 => ⟨?_, keep M2 m1 m2⟩)⟩
    rw [k3.2.2.2.1, if_neg z]
  · rintro _ rfl
    refine goO k3.1.2.2.1 (by decide) (c_pushAt k3 (by omega) hi ⟨by omega, ref _ (fun M2 m1 m2 => ⟨?_, keep M2 m1 m2⟩)⟩)
    rw [if_pos z]
theorem r_first {I : IFn} {R : RFn} {s b : Nat} {w : Nat → Int} {Q : Int → Mm → Prop} (h : RC M I R p q s b) (hv : ∀ i, i < npR I s → M.1 238 i = prL I w s b i) (hq : Q ((fstF (prL I w s b) (npR I s) : Nat) : Int) M) : P_X12_press_55 221 s 0 1 M Q := by
  have hn := h.np
  have hSM : StrM M.2.2.1 := by rw [h.2.1]; exact h.1.1.2.2.2.2.2.1
  have f6 : M.1 229 (6 + s) = (npR I s : Nat) := by rw [h.2.2.1 _ _ (dR_L (dP229 (by omega))) (by omega), hn.1]
  unfold P_X12_press_55
  refine lp_i (fun y : Int × Int => ∃ i : Nat, y.2 = i ∧ 1 ≤ i ∧ i ≤ npR I s ∧ y.1 = ((fstF (prL I w s b) i : Nat) : Int)) (fun y => (6 - y.2).toNat) ⟨1, rfl, by omega, by omega, rfl⟩ ?_
  rintro ⟨x1, x2⟩ ⟨i, e1, e2, e3, e4⟩
  dsimp only at e1 e4
  subst e1 e4
  show F_X12_press_55 221 s M Q _ _ (i : Int)
  unfold F_X12_press_55
  rintro _ rfl
  refine ⟨inI_s (by omega) (by omega), goA hSM.2.2.2.2.2.2.2.1 (by decide) ⟨by omega, by rw [show (SH 229).2 = 12 by decide]; omega⟩ ?_⟩
  rw [show (6 + (s : Int)).toNat = 6 + s by omega, f6]
  refine ⟨fun hle => ?_, fun hlt => ?_⟩
  · have : i = npR I s := by omega
    subst this
    exact hq
  · have hlt2 := fstF_lt (f := prL I w s b) i
    have hr := hSM.2.2.2.2.2.2.2.2.2.2.2.2.2.2.2.2.1
    rintro _ rfl
    refine goA hr (by decide) ⟨by omega, by rw [show (SH 238).2 = 6 by decide]; omega⟩ ?_
    rintro _ rfl
    refine goA hr (by decide) ⟨by omega, by rw [show (SH 238).2 = 6 by decide]; omega⟩ ?_
    rw [show ((i : Int)).toNat = i by omega, show ((fstF (prL I w s b) i : Nat) : Int).toNat = fstF (prL I w s b) i by omega, hv i (by omega), hv (fstF (prL I w s b) i) (by omega)]
    refine ⟨fun hle => ⟨inI_s (by omega) (by omega), ?_⟩, fun hgt => ⟨inI_s (by omega) (by omega), ?_⟩⟩
    · intro v e
      exact ⟨⟨i + 1, by dsimp only; omega, by omega, by omega, by dsimp only; rw [fstF_s e2, if_neg (by omega)]⟩, by dsimp only; omega⟩
    · intro v e
      exact ⟨⟨i + 1, by dsimp only; omega, by omega, by omega, by dsimp only; rw [fstF_s e2, if_pos (by omega)]⟩, by dsimp only; omega⟩
theorem st_press (h : Rel M) : P_X11_press 0 x1 x2 x3 M (fun r M1 => P_X12_press 221 x1 x2 x3 M1 (fun r2 M2 => r = r2 ∧ Rel M2)) := by
  obtain ⟨p, q, hF⟩ := id h
  obtain ⟨hS, hT, hC, hH, hA, hM, hR, hL, hE⟩ := id hF
  have hCn : 0 ≤ M.1 221 12 ∧ M.1 221 12 ≤ 12 := ⟨hC.2.1, hC.2.2.1⟩
  have hEn : 0 ≤ M.1 227 1 ∧ M.1 227 1 ≤ 6 := ⟨hE.2.1, hE.2.2.1⟩
  have bad : ¬ (((0 ≤ x1 ∧ x1 < M.1 221 12) ∧ 0 ≤ x2 ∧ x2 < M.1 227 1) ∧ (x3 = -1 ∨ ((0 ≤ x2 ∧ x2 ≤ M.1 227 1 - 1) ∧ 0 ≤ x3 ∧ x3 ≤ M.1 229 (6 + x2.toNat) - 1))) → P_X12_press 221 x1 x2 x3 M (fun r2 M2 => -1 = r2 ∧ Rel M2) := by
    intro hb
    unfold P_X12_press
    rw [r_isBody hCn]
    refine ⟨fun _ => ⟨rfl, h⟩, fun g1 => ?_⟩
    rw [r_isSeat hS.2.2.2.2.2.1 hEn]
    refine ⟨fun _ => ⟨rfl, h⟩, fun g2 => ?_⟩
    rw [bi0] at g1 g2
    refine ⟨fun g3 => absurd ⟨⟨by omega, by omega⟩, Or.inl g3⟩ hb, fun g3 => ?_⟩
    rw [r_isPatch hS.2.2.2.2.2.1 hEn (pm_ok hE)]
    refine ⟨fun g4 => ?_, fun _ => ⟨rfl, h⟩⟩
    rw [bi0] at g4
    exact absurd ⟨⟨by omega, by omega⟩, Or.inr (Classical.not_not.mp g4)⟩ hb
  have key : (x3 = -1 ∨ ((0 ≤ x2 ∧ x2 ≤ M.1 227 1 - 1) ∧ 0 ≤ x3 ∧ x3 ≤ M.1 229 (6 + x2.toNat) - 1)) → P_X11_press_14 0 x1 x2 x3 M (fun r M1 => P_X12_press 221 x1 x2 x3 M1 (fun r2 M2 => r = r2 ∧ Rel M2)) := by
    intro h3
    unfold P_X11_press_14
    refine c_settles hF (fun b s e1 e2 hb hs M' k1 k2 k3 => ?_) (fun hz => ⟨fun z => absurd rfl z, fun _ => bad (fun y => hz y.1)⟩)
    refine ⟨fun _ => ?_, fun z => absurd z (by decide)⟩
    obtain ⟨a1, a2, a3, a4, a5, a6⟩ := after hF hs hb k1 k2
    have hn := seat_np hE hs
    have hwo := w0_ok hE hs
    subst e1 e2
    rw [show ((s : Int)).toNat = s by omega] at h3
    have ref : ∀ Q : Int → Mm → Prop, (P_X12_layPresses 221 b s M' (fun M12 => ((x3 < 0 → P_X12_press_55 221 s 0 1 M12 Q) ∧ (¬ x3 < 0 → ∀ r14 : Option Nat, r14 = M12.2.2.1 221 25 → ∃ o15 : Nat, isA 14 r14 o15 x3 ∧ Q (M12.1 o15 (x3 : Int).toNat) M12)))) → P_X12_press 221 b s x3 M' Q := by
      intro Q hq
      unfold P_X12_press
      rw [r_isBody (by rw [a4]; exact hCn), a4]
      refine ⟨fun z => by rw [bi0] at z; omega, fun _ => ?_⟩
      rw [r_isSeat a3 (by rw [a5]; exact hEn), a5]
      refine ⟨fun z => by rw [bi0] at z; omega, fun _ => ?_⟩
      refine ⟨fun _ => hq, fun hne => ?_⟩
      rw [r_isPatch a3 (by rw [a5]; exact hEn) (fun t ht => by rw [a6]; exact pm_ok hE t (by rw [← a5]; exact ht)), a5, a6, show ((s : Int)).toNat = s by omega]
      exact ⟨fun _ => hq, fun z => by rw [bi0] at z; rcases h3 with h3 | h3; exact absurd h3 hne; exact absurd h3 z⟩
    have keep : ∀ M2 : Mm, M2.2.2 = M'.2.2 → (∀ o j, o ≠ 238 → M2.1 o j = M'.1 o j) → Rel M2 := fun M2 m1 m2 => Rel.keep hF (by rw [m1, k1]) (fun o j z1 z2 _ _ _ _ => by rw [m2 o j (by omega)]; exact k2 o j z1)
    refine ⟨fun hne => ?_, fun heq => ?_⟩
    · have h4 : 0 ≤ x3 ∧ x3 ≤ M.1 229 (6 + s) - 1 := by rcases h3 with h3 | h3; exact absurd h3 hne; exact h3.2
      obtain ⟨i, rfl⟩ := toN (x := x3) h4.1
      have hi : i < npR M.1 s := by omega
      rintro _ rfl
      refine goO k3.1.2.2.1 (by decide) (c_pressAt k3 (by omega) hi (ref _ ?_))
      refine r_presses a1 hwo a2 (fun M2 m1 m2 m3 m4 => ⟨fun z => by omega, fun _ => ?_⟩)
      rintro _ rfl
      refine goA (k := 238) (by rw [m1]; exact a3.2.2.2.2.2.2.2.2.2.2.2.2.2.2.2.2.1) (by decide) ⟨by omega, by rw [show (SH 238).2 = 6 by decide]; omega⟩ ?_
      rw [show ((i : Int)).toNat = i by omega, m4 i hi]
      exact ⟨rfl, keep M2 m1 m3⟩
    · rintro _ rfl
      refine goO k3.1.2.2.1 (by decide) (c_first k3 (by omega) (ref _ ?_))
      refine r_presses a1 hwo a2 (fun M2 m1 m2 m3 m4 => ⟨fun _ => ?_, fun z => by omega⟩)
      have a1' : RC M2 M.1 M.2.2.1 p q s b := a1.mv (by rw [m1]) (fun o j z _ => m3 o j (by have := dREL_sc hS.1.p z; omega))
      exact r_first a1' m4 ⟨rfl, keep M2 m1 m3⟩
  unfold P_X11_press
  refine ⟨fun h3 => key (Or.inl h3), fun h3 => ?_⟩
  refine c_isPatch hF (fun s i e2 e3 hs hi => ⟨fun z => absurd z (by decide), fun _ => key (Or.inr ?_)⟩) (fun hz => ⟨fun _ => bad (fun y => ?_), fun z => absurd rfl z⟩)
  · have hn := seat_np hE hs
    rw [show x2.toNat = s by omega]
    omega
  · rcases y.2 with y2 | y2
    · exact h3 y2
    · exact hz y2
end RS2
