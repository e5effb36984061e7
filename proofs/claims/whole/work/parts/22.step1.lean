/-! Each call against the reference's, and Rel behind both: hang, slack, law, road, wipe, trial, worn -/
section ST1
variable {M : Mm} {x1 x2 x3 x4 x5 x6 : Int}
theorem st_hang (h : Rel M) : P_X11_hang 0 x1 x2 x3 M (fun r M1 => P_X12_hang 221 x1 x2 x3 M1 (fun r2 M2 => r = r2 ∧ Rel M2)) := by
  obtain ⟨p, q, hS, hT, hC, hH, hA, hM, hR, hL, hE⟩ := id h
  have hc := hC.1
  have hn : 0 ≤ M.1 221 12 ∧ M.1 221 12 ≤ 12 := ⟨hC.2.1, hC.2.2.1⟩
  refine c_hang hS.2.2.2.1 hS.2.2.2.2.1 (by rw [hc]; exact hn) (fun b i e1 e2 hb hi hx => ?_) (fun hb => ?_)
  · have hb12 : b < 12 := by omega
    have ne : up2 M.1 (174 + 3 * b) i x3 221 12 = M.1 221 12 := up2_o _ _ _ _ (by omega)
    refine r_hang (M := setI M (174 + 3 * b) i x3) hS.2.2.2.2.2.1 (by show 0 ≤ up2 _ _ _ _ _ _ ∧ up2 _ _ _ _ _ _ ≤ _; rw [ne]; exact hn) (fun b' i' e1' e2' hb' hi' hx' => ?_) (fun hbad => absurd ⟨⟨by omega, by show x1 < up2 _ _ _ _ _ _; rw [ne]; omega⟩, by omega, hx⟩ hbad)
    have eb : b' = b := by omega
    have ei : i' = i := by omega
    subst eb ei
    have e0 : ∀ o j, ¬ ((o = 174 + 3 * b' ∧ j = i') ∨ (o = 234 ∧ j = 6 * b' + i')) → up2 (up2 M.1 (174 + 3 * b') i' x3) 234 (6 * b' + i') x3 o j = M.1 o j := fun o j hz => by rw [up2_n, up2_n] <;> omega
    refine ⟨?_, p, q, (?_ : RelF (up2 (up2 M.1 (174 + 3 * b') i' x3) 234 (6 * b' + i') x3) M.2.2.1 p q)⟩
    · show _ = up2 _ _ _ _ _ _
      rw [up2_o _ _ _ _ (by omega)]
      exact (hH b' i' hb12 hi').1
    · refine ⟨hS, hT.c (fun o j z => e0 o j (by unfold dTXT at z; omega)), hC.c (fun o j z => e0 o j (by unfold dCRW at z; omega)), fun b2 i2 hb2 hi2 => ?_, hA.c (fun o j z => e0 o j (by unfold dSAI at z; omega)), hM.c (fun o j z => e0 o j (by unfold dMSC at z; omega)), hR.c (fun o j z => e0 o j (by unfold dRDS at z; omega)), hL.c (fun o j z => e0 o j (by rcases hS.1.p with rfl | rfl <;> (unfold dPLN at z; omega))), hE.c (fun o j z => e0 o j (by rcases hS.1.p with rfl | rfl <;> (unfold dPLN at z; omega))) (fun _ _ _ => rfl)⟩
      have hh := hH b2 i2 hb2 hi2
      by_cases he : b2 = b' ∧ i2 = i'
      · obtain ⟨rfl, rfl⟩ := he
        rw [up2_s, up2_o _ _ _ _ (by omega), up2_s]
        exact ⟨rfl, hx⟩
      · rw [e0 _ _ (by omega), e0 _ _ (by omega)]
        exact hh
  · exact r_hang hS.2.2.2.2.2.1 hn (fun b i e1 e2 hb1 hi hx => absurd ⟨⟨by omega, by omega⟩, by omega, hx⟩ hb) (fun _ => ⟨rfl, h⟩)
theorem st_slack (h : Rel M) : P_X11_slack 0 x1 M (fun r M1 => P_X12_slack 221 x1 M1 (fun r2 M2 => r = r2 ∧ Rel M2)) := by
  obtain ⟨p, q, hS, hT, hC, hH, hA, hM, hR, hL, hE⟩ := id h
  unfold P_X11_slack
  rw [p_isWithin]
  refine ⟨fun hv => ?_, fun hv => ?_⟩
  · rw [bi0] at hv
    rintro _ rfl
    refine goO hS.2.2.2.1.2.1 (by decide) ?_
    rintro _ rfl _ rfl
    refine goO hS.2.2.2.1.2.1 (by decide) ?_
    rintro _ rfl
    unfold P_X12_slack
    rw [p_in]
    refine ⟨fun _ => ?_, fun z => absurd (bi0.mp z) hv⟩
    rintro _ rfl _ rfl
    have e0 : ∀ o j, ¬ ((o = 170 ∧ j = 2) ∨ (o = 221 ∧ j = 17)) → up2 (up2 M.1 170 2 x1) 221 17 x1 o j = M.1 o j := fun o j hz => by rw [up2_n, up2_n] <;> omega
    refine ⟨hM.1.1.trans (up2_o M.1 170 2 x1 (a := 221) (j := 17) (by decide)).symm, p, q, (?_ : RelF (up2 (up2 M.1 170 2 x1) 221 17 x1) M.2.2.1 p q)⟩
    refine ⟨hS, hT.c (fun o j z => e0 o j (by unfold dTXT at z; omega)), hC.c (fun o j z => e0 o j (by unfold dCRW at z; omega)), hH.c (fun o j z => e0 o j (by unfold dHNG at z; omega)), hA.c (fun o j z => e0 o j (by unfold dSAI at z; omega)), ?_, hR.c (fun o j z => e0 o j (by unfold dRDS at z; omega)), hL.c (fun o j z => e0 o j (by rcases hS.1.p with rfl | rfl <;> (unfold dPLN at z; omega))), hE.c (fun o j z => e0 o j (by rcases hS.1.p with rfl | rfl <;> (unfold dPLN at z; omega))) (fun _ _ _ => rfl)⟩
    unfold MSC at hM ⊢
    simp only [up2]
    simp
    omega
  · show P_X12_slack 221 x1 M _
    unfold P_X12_slack
    rw [p_in]
    exact ⟨fun z => absurd hv z, fun _ => ⟨rfl, h⟩⟩
theorem st_law (h : Rel M) : P_X11_law 0 x1 x2 M (fun r M1 => P_X12_law 221 x1 x2 M1 (fun r2 M2 => r = r2 ∧ Rel M2)) := by
  obtain ⟨p, q, hS, hT, hC, hH, hA, hM, hR, hL, hE⟩ := id h
  have hr := hS.2.2.2.1.2.2.2.1
  have fin : ∀ (k : Nat) (_ : k = 0 ∨ k = 1), (k = 0 → 0 ≤ x2 ∧ x2 ≤ 20000) → (k = 1 → 0 ≤ x2 ∧ x2 ≤ 1000) → Rel (setI (setI M 215 k x2) 221 (18 + k) x2) := by
    intro k hk hx0 hx1
    have e0 : ∀ o j, ¬ ((o = 215 ∧ j = k) ∨ (o = 221 ∧ j = 18 + k)) → up2 (up2 M.1 215 k x2) 221 (18 + k) x2 o j = M.1 o j := fun o j hz => by rw [up2_n, up2_n] <;> omega
    refine ⟨p, q, (?_ : RelF (up2 (up2 M.1 215 k x2) 221 (18 + k) x2) M.2.2.1 p q)⟩
    refine ⟨hS, hT.c (fun o j z => e0 o j (by unfold dTXT at z; omega)), hC.c (fun o j z => e0 o j (by unfold dCRW at z; omega)), hH.c (fun o j z => e0 o j (by unfold dHNG at z; omega)), hA.c (fun o j z => e0 o j (by unfold dSAI at z; omega)), ?_, hR.c (fun o j z => e0 o j (by unfold dRDS at z; omega)), hL.c (fun o j z => e0 o j (by rcases hS.1.p with rfl | rfl <;> (unfold dPLN at z; omega))), hE.c (fun o j z => e0 o j (by rcases hS.1.p with rfl | rfl <;> (unfold dPLN at z; omega))) (fun _ _ _ => rfl)⟩
    unfold MSC at hM ⊢
    rcases hk with rfl | rfl
    · have := hx0 rfl
      simp only [up2]; simp; omega
    · have := hx1 rfl
      simp only [up2]; simp; omega
  unfold P_X11_law
  rw [p_isWithin]
  refine ⟨fun hv => ?_, fun hv => ⟨fun h0 => ?_, fun h0 => ?_⟩⟩
  · show P_X12_law 221 x1 x2 M _
    unfold P_X12_law
    rw [p_in]
    exact ⟨fun _ => ⟨rfl, h⟩, fun z => absurd hv z⟩
  · unfold P_X11_law_24
    rw [p_isWithin]
    rw [bi0] at hv
    refine ⟨fun hw => ⟨fun _ => ?_, fun z => absurd z h0⟩, fun hw => ?_⟩
    · rw [bi0] at hw
      rintro _ rfl
      refine goO hr (by decide) ?_
      unfold P_X11_law_53
      refine ⟨fun _ => ?_, fun z => absurd z h0⟩
      rintro _ rfl
      refine goO hr (by decide) ?_
      rintro _ rfl
      unfold P_X12_law
      rw [p_in]
      refine ⟨fun z => absurd (bi0.mp z) hv, fun _ => ⟨fun _ => ?_, fun z => absurd z h0⟩⟩
      unfold P_X12_law_26
      rw [p_in]
      refine ⟨fun _ => ⟨fun _ => ?_, fun z => absurd z h0⟩, fun z => absurd (bi0.mp z) hw⟩
      unfold P_X12_law_49
      refine ⟨fun _ => ?_, fun z => absurd z h0⟩
      rintro _ rfl
      exact ⟨hM.2.2.1.1.trans (up2_o M.1 215 1 x2 (a := 221) (j := 19) (by decide)).symm, fin 1 (Or.inr rfl) (fun z => by cases z) (fun _ => by omega)⟩
    · show P_X12_law 221 x1 x2 M _
      unfold P_X12_law
      rw [p_in]
      refine ⟨fun z => absurd (bi0.mp z) hv, fun _ => ⟨fun _ => ?_, fun z => absurd z h0⟩⟩
      unfold P_X12_law_26
      rw [p_in]
      exact ⟨fun z => absurd hw z, fun _ => ⟨rfl, h⟩⟩
  · unfold P_X11_law_24
    rw [p_isWithin]
    rw [bi0] at hv
    refine ⟨fun hw => ⟨fun z => absurd h0 z, fun _ => ?_⟩, fun hw => ?_⟩
    · rw [bi0] at hw
      rintro _ rfl
      refine goO hr (by decide) ?_
      unfold P_X11_law_53
      refine ⟨fun z => absurd h0 z, fun _ => ?_⟩
      rintro _ rfl
      refine goO hr (by decide) ?_
      rintro _ rfl
      unfold P_X12_law
      rw [p_in]
      refine ⟨fun z => absurd (bi0.mp z) hv, fun _ => ⟨fun z => absurd h0 z, fun _ => ?_⟩⟩
      unfold P_X12_law_26
      rw [p_in]
      refine ⟨fun _ => ⟨fun z => absurd h0 z, fun _ => ?_⟩, fun z => absurd (bi0.mp z) hw⟩
      unfold P_X12_law_49
      refine ⟨fun z => absurd h0 z, fun _ => ?_⟩
      rintro _ rfl
      exact ⟨hM.2.1.1.trans (up2_o M.1 215 0 x2 (a := 221) (j := 18) (by decide)).symm, fin 0 (Or.inl rfl) (fun _ => by omega) (fun z => by cases z)⟩
    · show P_X12_law 221 x1 x2 M _
      unfold P_X12_law
      rw [p_in]
      refine ⟨fun z => absurd (bi0.mp z) hv, fun _ => ⟨fun z => absurd h0 z, fun _ => ?_⟩⟩
      unfold P_X12_law_26
      rw [p_in]
      exact ⟨fun z => absurd hw z, fun _ => ⟨rfl, h⟩⟩
theorem st_wipe (h : Rel M) : P_X11_wipe 0 M (fun r M1 => P_X12_wipe 221 M1 (fun r2 M2 => r = r2 ∧ Rel M2)) := by
  obtain ⟨p, q, hS, hT, hC, hH, hA, hM, hR, hL, hE⟩ := id h
  unfold P_X11_wipe
  rintro _ rfl
  refine goO hS.2.2.2.1.1 (by decide) ?_
  rintro _ rfl _ rfl
  refine goO hS.2.2.2.1.1 (by decide) ?_
  rintro _ rfl
  unfold P_X12_wipe
  rintro _ rfl _ rfl
  have e0 : ∀ o j, ¬ ((o = 1 ∧ j = 1) ∨ (o = 221 ∧ j = 0)) → up2 (up2 M.1 1 1 0) 221 0 0 o j = M.1 o j := fun o j hz => by rw [up2_n, up2_n] <;> omega
  refine ⟨hT.1.trans (up2_o M.1 1 1 0 (a := 221) (j := 0) (by decide)).symm, p, q, (?_ : RelF (up2 (up2 M.1 1 1 0) 221 0 0) M.2.2.1 p q)⟩
  refine ⟨hS, ?_, hC.c (fun o j z => e0 o j (by unfold dCRW at z; omega)), hH.c (fun o j z => e0 o j (by unfold dHNG at z; omega)), hA.c (fun o j z => e0 o j (by unfold dSAI at z; omega)), hM.c (fun o j z => e0 o j (by unfold dMSC at z; omega)), hR.c (fun o j z => e0 o j (by unfold dRDS at z; omega)), hL.c (fun o j z => e0 o j (by rcases hS.1.p with rfl | rfl <;> (unfold dPLN at z; omega))), hE.c (fun o j z => e0 o j (by rcases hS.1.p with rfl | rfl <;> (unfold dPLN at z; omega))) (fun _ _ _ => rfl)⟩
  unfold TXT
  rw [up2_s, up2_o _ _ _ _ (by decide), up2_s]
  exact ⟨rfl, by omega, by omega, fun k hk => by omega⟩
end ST1
