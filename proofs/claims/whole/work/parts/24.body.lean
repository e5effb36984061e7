/-! body -/
section ST3
variable {M : Mm} {x1 x2 x3 x4 x5 x6 : Int}
def bw (x1 x2 x3 x4 x5 x6 : Int) (k : Nat) : Int := if k = 0 then x1 else if k = 1 then x2 else if k = 2 then x3 else if k = 3 then x4 else if k = 4 then x5 else x6
def put6 (I : IFn) (o k : Nat) (x1 x2 x3 x4 x5 x6 : Int) : IFn := up2 (up2 (up2 (up2 (up2 (up2 I o k x1) o (k + 1) x2) o (k + 2) x3) o (k + 3) x4) o (k + 4) x5) o (k + 5) x6
theorem put6_in (I : IFn) (o k : Nat) {j : Nat} (hj : j < 6) : put6 I o k x1 x2 x3 x4 x5 x6 o (k + j) = bw x1 x2 x3 x4 x5 x6 j := by
  rcases (show j = 0 ∨ j = 1 ∨ j = 2 ∨ j = 3 ∨ j = 4 ∨ j = 5 by omega) with rfl | rfl | rfl | rfl | rfl | rfl <;> simp [put6, up2, bw]
theorem put6_out (I : IFn) (o k : Nat) {a j : Nat} (h : ¬ (a = o ∧ k ≤ j ∧ j < k + 6)) : put6 I o k x1 x2 x3 x4 x5 x6 a j = I a j := by
  unfold put6
  rw [up2_n, up2_n, up2_n, up2_n, up2_n, up2_n] <;> omega
theorem BODr_c {w w' : Nat → Int} (h : BODr w) (e : ∀ k, k < 6 → w' k = w k) : BODr w' := by
  unfold BODr at *
  rw [e 0 (by omega), e 1 (by omega), e 2 (by omega), e 3 (by omega), e 4 (by omega), e 5 (by omega)]
  exact h
theorem st_body (h : Rel M) : P_X11_body 0 x1 x2 x3 x4 x5 x6 M (fun r M1 => P_X12_body 221 x1 x2 x3 x4 x5 x6 M1 (fun r2 M2 => r = r2 ∧ Rel M2)) := by
  obtain ⟨p, q, hS, hT, hC, hH, hA, hM, hR, hL, hE⟩ := id h
  have hB := hS.2.2.2.2.1
  have hc := hC.1
  have hCn : 0 ≤ M.1 221 12 ∧ M.1 221 12 ≤ 12 := ⟨hC.2.1, hC.2.2.1⟩
  have hz0 : P_X12_body_90 221 x1 x2 x3 x4 x5 x6 0 M (fun r2 M2 => -1 = r2 ∧ Rel M2) := ⟨fun z => absurd rfl z, fun _ => ⟨rfl, h⟩⟩
  have bad : ¬ ((100 ≤ x1 ∧ x1 ≤ 2000) ∧ (250 ≤ x2 ∧ x2 ≤ 700) ∧ (400 ≤ x3 ∧ x3 ≤ 1200) ∧ (400 ≤ x4 ∧ x4 ≤ 1100) ∧ (200 ≤ x5 ∧ x5 ≤ 700) ∧ 1 ≤ x6 ∧ x6 ≤ 1000) → P_X12_body 221 x1 x2 x3 x4 x5 x6 M (fun r2 M2 => -1 = r2 ∧ Rel M2) := by
    intro hb
    unfold P_X12_body
    rw [p_in]
    refine ⟨fun _ => hz0, fun g1 => ?_⟩
    rw [p_in]
    refine ⟨fun _ => hz0, fun g2 => ?_⟩
    rw [p_in]
    refine ⟨fun _ => hz0, fun g3 => ?_⟩
    rw [p_in]
    refine ⟨fun _ => hz0, fun g4 => ?_⟩
    rw [p_in]
    refine ⟨fun _ => hz0, fun g5 => ?_⟩
    rw [p_in]
    refine ⟨fun _ => hz0, fun g6 => ?_⟩
    rw [bi0] at g1 g2 g3 g4 g5 g6
    exact absurd ⟨by omega, by omega, by omega, by omega, by omega, by omega⟩ hb
  unfold P_X11_body
  rw [p_isWithin]
  refine ⟨fun z => bad (fun y => bi0.mp z y.1), fun g1 => ?_⟩
  rw [p_isWithin]
  refine ⟨fun z => bad (fun y => bi0.mp z y.2.1), fun g2 => ?_⟩
  rw [p_isWithin]
  refine ⟨fun z => bad (fun y => bi0.mp z y.2.2.1), fun g3 => ?_⟩
  rw [p_isWithin]
  refine ⟨fun z => bad (fun y => bi0.mp z y.2.2.2.1), fun g4 => ?_⟩
  rw [p_isWithin]
  refine ⟨fun z => bad (fun y => bi0.mp z y.2.2.2.2.1), fun g5 => ?_⟩
  rw [p_isWithin]
  refine ⟨fun g6 => ?_, fun z => bad (fun y => bi0.mp z y.2.2.2.2.2)⟩
  have ref : ∀ (M1 : Mm) (Q : Int → Mm → Prop), P_X12_body_90 221 x1 x2 x3 x4 x5 x6 1 M1 Q → P_X12_body 221 x1 x2 x3 x4 x5 x6 M1 Q := by
    intro M1 Q hq
    unfold P_X12_body
    rw [p_in]
    refine ⟨fun z => absurd z g1, fun _ => ?_⟩
    rw [p_in]
    refine ⟨fun z => absurd z g2, fun _ => ?_⟩
    rw [p_in]
    refine ⟨fun z => absurd z g3, fun _ => ?_⟩
    rw [p_in]
    refine ⟨fun z => absurd z g4, fun _ => ?_⟩
    rw [p_in]
    refine ⟨fun z => absurd z g5, fun _ => ?_⟩
    rw [p_in]
    exact ⟨fun z => absurd z g6, fun _ => hq⟩
  rw [bi0] at g1 g2 g3 g4 g5 g6
  rintro _ rfl
  refine goO hS.2.2.2.1.2.1 (by decide) ?_
  unfold P_X1_nextBody
  refine ⟨fun hne => ?_, fun heq => ?_⟩
  · refine ⟨inI_s (by omega) (by omega), ?_⟩
    rintro _ rfl _ rfl
    rw [setI_s]
    refine ⟨inI_s (by omega) (by omega), ?_⟩
    obtain ⟨n, hnn⟩ := toN (x := M.1 221 12) (by omega)
    have hn12 : n < 12 := by omega
    refine goA hB.1 (by decide) ⟨by omega, by rw [show (SH 171).2 = 12 by decide]; omega⟩ ?_
    rintro _ rfl
    rw [show (M.1 170 1 + 1 - 1).toNat = n by omega]
    have hr : (setI M 170 1 (M.1 170 1 + 1)).2.2.1 171 n = some (173 + 3 * n) := (hB.2.2 n hn12).1
    rw [hr]
    refine ⟨fun _ _ => ?_, fun z => (by cases z)⟩
    have hsb := sh_B n hn12
    refine goO rfl ⟨by omega, by rw [hsb.1]⟩ ?_
    rintro _ rfl _ rfl _ rfl _ rfl _ rfl _ rfl _ rfl
    refine goO hS.2.2.2.1.2.1 (by decide) ?_
    obtain ⟨I1, hI1⟩ : ∃ I1, I1 = put6 (up2 M.1 170 1 (M.1 170 1 + 1)) (173 + 3 * n) 0 x1 x2 x3 x4 x5 x6 := ⟨_, rfl⟩
    obtain ⟨M1, hM1⟩ : ∃ M1 : Mm, M1 = (I1, M.2.1, M.2.2.1, M.2.2.2) := ⟨_, rfl⟩
    have eM : setI (setI (setI (setI (setI (setI (setI M 170 1 (M.1 170 1 + 1)) (173 + 3 * n) 0 x1) (173 + 3 * n) 1 x2) (173 + 3 * n) 2 x3) (173 + 3 * n) 3 x4) (173 + 3 * n) 4 x5) (173 + 3 * n) 5 x6 = M1 := by rw [hM1, hI1]; rfl
    rw [eM]
    have o1 : ∀ o j, ¬ (o = 173 + 3 * n ∧ j < 6) → ¬ (o = 170 ∧ j = 1) → M1.1 o j = M.1 o j := by
      intro o j h1 h2
      rw [hM1]
      show I1 o j = _
      rw [hI1, put6_out _ _ _ (by omega), up2_n _ _ _ _ h2]
    have v170 : M1.1 170 1 = M.1 170 1 + 1 := by
      rw [hM1]
      show I1 170 1 = _
      rw [hI1, put6_out _ _ _ (by omega), up2_s]
    have vb : ∀ k, k < 6 → M1.1 (173 + 3 * n) k = bw x1 x2 x3 x4 x5 x6 k := by
      intro k hk
      rw [hM1]
      show I1 _ k = _
      have := put6_in (x1 := x1) (x2 := x2) (x3 := x3) (x4 := x4) (x5 := x5) (x6 := x6) (up2 M.1 170 1 (M.1 170 1 + 1)) (173 + 3 * n) 0 hk
      rw [Nat.zero_add] at this
      rw [hI1]
      exact this
    rw [v170]
    refine ⟨inI_s (by omega) (by omega), ?_⟩
    refine ref _ _ ?_
    unfold P_X12_body_90
    refine ⟨fun _ => ?_, fun z => absurd z (by decide)⟩
    have w12 : M1.1 221 12 = M.1 221 12 := o1 _ _ (by omega) (by omega)
    have hrr : M1.2.2.1 = M.2.2.1 := by rw [hM1]
    rw [w12]
    refine ⟨fun _ => ?_, fun z => by omega⟩
    refine ⟨inI_s (by omega) (by omega), ?_⟩
    intro v hv
    have hr2 : M.2.2.1 221 13 = some 233 := hS.2.2.2.2.2.1.2.2.2.2.2.2.2.2.2.2.2.1
    have s233 : (SH 233).2 = 72 := by decide
    rintro _ rfl
    refine goA (k := 233) (by rw [hrr]; exact hr2) (by decide) ⟨by omega, by rw [s233]; omega⟩ ?_
    rintro _ rfl _ rfl
    refine ⟨inI_s (by omega) (by omega), goA (k := 233) (by show M1.2.2.1 _ _ = _; rw [hrr]; exact hr2) (by decide) ⟨by omega, by rw [s233]; omega⟩ ?_⟩
    rintro _ rfl _ rfl
    refine ⟨inI_s (by omega) (by omega), goA (k := 233) (by show M1.2.2.1 _ _ = _; rw [hrr]; exact hr2) (by decide) ⟨by omega, by rw [s233]; omega⟩ ?_⟩
    rintro _ rfl _ rfl
    refine ⟨inI_s (by omega) (by omega), goA (k := 233) (by show M1.2.2.1 _ _ = _; rw [hrr]; exact hr2) (by decide) ⟨by omega, by rw [s233]; omega⟩ ?_⟩
    rintro _ rfl _ rfl
    refine ⟨inI_s (by omega) (by omega), goA (k := 233) (by show M1.2.2.1 _ _ = _; rw [hrr]; exact hr2) (by decide) ⟨by omega, by rw [s233]; omega⟩ ?_⟩
    rintro _ rfl _ rfl
    refine ⟨inI_s (by omega) (by omega), goA (k := 233) (by show M1.2.2.1 _ _ = _; rw [hrr]; exact hr2) (by decide) ⟨by omega, by rw [s233]; omega⟩ ?_⟩
    rintro _ rfl
    rw [show v.toNat = 6 * n by omega, show (v + 1).toNat = 6 * n + 1 by omega, show (v + 2).toNat = 6 * n + 2 by omega, show (v + 3).toNat = 6 * n + 3 by omega, show (v + 4).toNat = 6 * n + 4 by omega, show (v + 5).toNat = 6 * n + 5 by omega]
    obtain ⟨I2, hI2⟩ : ∃ I2, I2 = put6 M1.1 233 (6 * n) x1 x2 x3 x4 x5 x6 := ⟨_, rfl⟩
    obtain ⟨M2, hM2⟩ : ∃ M2 : Mm, M2 = (I2, M1.2.1, M1.2.2.1, M1.2.2.2) := ⟨_, rfl⟩
    have eM2 : setI (setI (setI (setI (setI (setI M1 233 (6 * n) x1) 233 (6 * n + 1) x2) 233 (6 * n + 2) x3) 233 (6 * n + 3) x4) 233 (6 * n + 4) x5) 233 (6 * n + 5) x6 = M2 := by rw [hM2, hI2]; rfl
    rw [eM2]
    have o2 : ∀ o j, ¬ (o = 233 ∧ 6 * n ≤ j ∧ j < 6 * n + 6) → M2.1 o j = M1.1 o j := by
      intro o j h1
      rw [hM2]
      show I2 o j = _
      rw [hI2, put6_out _ _ _ (by omega)]
    have vr : ∀ k, k < 6 → M2.1 233 (6 * n + k) = bw x1 x2 x3 x4 x5 x6 k := by
      intro k hk
      rw [hM2]
      show I2 _ _ = _
      rw [hI2]
      exact put6_in _ _ _ hk
    have w2 : M2.1 221 12 = M.1 221 12 := (o2 _ _ (by omega)).trans w12
    rw [w2]
    refine ⟨inI_s (by omega) (by omega), ?_⟩
    rintro _ rfl
    rw [setI_s]
    refine ⟨inI_s (by omega) (by omega), by omega, p, q, ?_⟩
    have e0 : ∀ o j, ¬ (o = 173 + 3 * n ∧ j < 6) → ¬ (o = 170 ∧ j = 1) → ¬ (o = 233 ∧ 6 * n ≤ j ∧ j < 6 * n + 6) → ¬ (o = 221 ∧ j = 12) → (setI M2 221 12 (M.1 221 12 + 1)).1 o j = M.1 o j := by
      intro o j h1 h2 h3 h4
      rw [setI_n _ _ _ _ h4, o2 o j h3, o1 o j h1 h2]
    have er : (setI M2 221 12 (M.1 221 12 + 1)).2.2.1 = M.2.2.1 := by show M2.2.2.1 = _; rw [hM2]; exact hrr
    rw [er]
    refine ⟨hS, hT.c (fun o j z => e0 o j (by unfold dTXT at z; omega) (by unfold dTXT at z; omega) (by unfold dTXT at z; omega) (by unfold dTXT at z; omega)), ?_, hH.c (fun o j z => e0 o j (by unfold dHNG at z; omega) (by unfold dHNG at z; omega) (by unfold dHNG at z; omega) (by unfold dHNG at z; omega)), hA.c (fun o j z => e0 o j (by unfold dSAI at z; omega) (by unfold dSAI at z; omega) (by unfold dSAI at z; omega) (by unfold dSAI at z; omega)), hM.c (fun o j z => e0 o j (by unfold dMSC at z; omega) (by unfold dMSC at z; omega) (by unfold dMSC at z; omega) (by unfold dMSC at z; omega)), hR.c (fun o j z => e0 o j (by unfold dRDS at z; omega) (by unfold dRDS at z; omega) (by unfold dRDS at z; omega) (by unfold dRDS at z; omega)), hL.c (fun o j z => ?_), hE.c (fun o j z => ?_) (fun _ _ _ => rfl)⟩
    · have c170 : (setI M2 221 12 (M.1 221 12 + 1)).1 170 1 = M.1 170 1 + 1 := by rw [setI_o _ _ _ _ (by decide), o2 _ _ (by omega), v170]
      have c221 : (setI M2 221 12 (M.1 221 12 + 1)).1 221 12 = M.1 221 12 + 1 := setI_s _ _ _ _
      refine ⟨by rw [c170, c221]; omega, by rw [c221]; omega, by rw [c221]; omega, fun b hb => ?_⟩
      rw [c221] at hb
      by_cases hbn : b = n
      · subst hbn
        have e1 : ∀ k, k < 6 → (setI M2 221 12 (M.1 221 12 + 1)).1 233 (6 * b + k) = bw x1 x2 x3 x4 x5 x6 k := fun k hk => by rw [setI_o _ _ _ _ (by decide)]; exact vr k hk
        refine ⟨fun k hk => ?_, ?_⟩
        · rw [e1 k hk, setI_o _ _ _ _ (by omega), o2 _ _ (by omega)]
          exact vb k hk
        · refine BODr_c (w := bw x1 x2 x3 x4 x5 x6) ?_ e1
          simp [BODr, bw]
          omega
      · obtain ⟨f1, f2⟩ := hC.2.2.2 b (by omega)
        have e1 : ∀ k, k < 6 → (setI M2 221 12 (M.1 221 12 + 1)).1 233 (6 * b + k) = M.1 233 (6 * b + k) := fun k hk => e0 _ _ (by omega) (by omega) (by omega) (by omega)
        refine ⟨fun k hk => ?_, ?_⟩
        · rw [e1 k hk, e0 _ _ (by omega) (by omega) (by omega) (by omega)]
          exact f1 k hk
        · exact BODr_c f2 e1
    · have hz : o < 170 ∨ (222 < o ∧ o < 233) := by rcases hS.1.p with rfl | rfl <;> (unfold dPLN at z; omega)
      exact e0 o j (by omega) (by omega) (by omega) (by omega)
    · have hz : o < 170 ∨ (222 < o ∧ o < 233) := by rcases hS.1.p with rfl | rfl <;> (unfold dPLN at z; omega)
      exact e0 o j (by omega) (by omega) (by omega) (by omega)
  · refine ⟨fun _ z => (by cases z), fun _ => ref _ _ ⟨fun _ => ⟨fun z => absurd (hc ▸ heq) z, fun _ => ⟨rfl, h⟩⟩, fun z => absurd z (by decide)⟩⟩
end ST3
