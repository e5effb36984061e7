/-! road, trial, worn, body -/
section ST2
variable {M : Mm} {x1 x2 x3 x4 x5 x6 : Int}
theorem c_tone {Q : Int → Prop} (hr : M.2.2.1 218 0 = some 219) (h1 : ∀ a b : Nat, x1 = a → x2 = b → a < 4 → b < 4 → Q (M.1 219 (4 * a + b))) (h2 : ¬ ((0 ≤ x1 ∧ x1 ≤ 3) ∧ 0 ≤ x2 ∧ x2 ≤ 3) → Q 0) : P_X7_toneOf 218 x1 x2 M Q := by
  unfold P_X7_toneOf
  rw [p_isRoad]
  refine ⟨fun h => h2 (fun z => bi0.mp h z.1), fun h => ?_⟩
  rw [bi0] at h
  rw [p_isTone]
  refine ⟨fun g => h2 (fun z => bi0.mp g z.2), fun g => ?_⟩
  rw [bi0] at g
  obtain ⟨a, rfl⟩ := toN (x := x1) (by omega)
  obtain ⟨b, rfl⟩ := toN (x := x2) (by omega)
  rintro _ rfl
  refine ⟨inI_s (by omega) (by omega), inI_s (by omega) (by omega), ?_⟩
  refine goA hr (by decide) ⟨by omega, by rw [show (SH 219).2 = 16 by decide]; omega⟩ ?_
  rw [show ((a : Int) * 4 + (b : Int)).toNat = 4 * a + b by omega]
  exact h1 a b rfl rfl (by omega) (by omega)
theorem st_road (h : Rel M) : P_X11_road 0 x1 x2 x3 M (fun r M1 => P_X12_road 221 x1 x2 x3 M1 (fun r2 M2 => r = r2 ∧ Rel M2)) := by
  obtain ⟨p, q, hS, hT, hC, hH, hA, hM, hR, hL, hE⟩ := id h
  have hbad : ¬ ((0 ≤ x1 ∧ x1 ≤ 3) ∧ (0 ≤ x2 ∧ x2 ≤ 3) ∧ 0 ≤ x3 ∧ x3 ≤ 1000) → P_X12_road 221 x1 x2 x3 M (fun r2 M2 => -1 = r2 ∧ Rel M2) := by
    intro hb
    unfold P_X12_road
    rw [p_isRoad2]
    refine ⟨fun _ => ⟨rfl, h⟩, fun h1 => ?_⟩
    rw [bi0] at h1
    rw [p_in]
    refine ⟨fun _ => ⟨rfl, h⟩, fun h2 => ?_⟩
    rw [bi0] at h2
    rw [p_in]
    exact ⟨fun h3 => absurd (bi0 (c := 0 ≤ x3 ∧ x3 ≤ 1000)) (fun _ => by rw [bi0] at h3; omega), fun _ => ⟨rfl, h⟩⟩
  unfold P_X11_road
  rw [p_isRoad]
  refine ⟨fun hv => hbad (fun z => bi0.mp hv z.1), fun h1 => ?_⟩
  rw [bi0] at h1
  rw [p_isTone]
  refine ⟨fun hv => hbad (fun z => bi0.mp hv z.2.1), fun h2 => ?_⟩
  rw [bi0] at h2
  rw [p_isWithin]
  refine ⟨fun h3 => ?_, fun hv => hbad (fun z => bi0.mp hv z.2.2)⟩
  rw [bi0] at h3
  rintro _ rfl
  refine goO hS.2.2.2.1.2.2.2.2.1 (by decide) ?_
  have hr : M.2.2.1 218 0 = some 219 := hS.2.2.2.1.2.2.2.2.2.2.2.2.2.2.2.2.2.2.2
  refine c_tone hr (fun a b e1 e2 ha hb => ?_) (fun z => absurd ⟨by omega, by omega⟩ z)
  rintro _ rfl
  refine goO hS.2.2.2.1.2.2.2.2.1 (by decide) ?_
  unfold P_X7_setTone
  rw [p_isRoad]
  refine ⟨fun z => absurd (bi0.mp z) h1, fun _ => ?_⟩
  rw [p_isTone]
  refine ⟨fun z => absurd (bi0.mp z) h2, fun _ => ?_⟩
  rintro _ rfl
  refine ⟨inI_s (by omega) (by omega), inI_s (by omega) (by omega), ?_⟩
  refine goA hr (by decide) ⟨by omega, by rw [show (SH 219).2 = 16 by decide]; omega⟩ ?_
  rintro _ rfl
  rw [show (x1 * 4 + x2).toNat = 4 * a + b by omega]
  unfold P_X12_road
  rw [p_isRoad2]
  refine ⟨fun z => absurd (bi0.mp z) h1, fun _ => ?_⟩
  rw [p_in]
  refine ⟨fun z => absurd (bi0.mp z) h2, fun _ => ?_⟩
  rw [p_in]
  refine ⟨fun _ => ?_, fun z => absurd (bi0.mp z) h3⟩
  have hr2 : M.2.2.1 221 20 = some 236 := hS.2.2.2.2.2.1.2.2.2.2.2.2.2.2.2.2.2.2.2.2.1
  rintro _ rfl
  refine ⟨inI_s (by omega) (by omega), inI_s (by omega) (by omega), ?_⟩
  refine goA hr2 (by decide) ⟨by omega, by rw [show (SH 236).2 = 16 by decide]; omega⟩ ?_
  rintro _ rfl _ rfl
  refine ⟨inI_s (by omega) (by omega), inI_s (by omega) (by omega), ?_⟩
  refine goA hr2 (by decide) ⟨by omega, by rw [show (SH 236).2 = 16 by decide]; omega⟩ ?_
  rintro _ rfl
  rw [show (4 * x1 + x2).toNat = 4 * a + b by omega]
  have e0 : ∀ o j, ¬ ((o = 219 ∧ j = 4 * a + b) ∨ (o = 236 ∧ j = 4 * a + b)) → up2 (up2 M.1 219 (4 * a + b) x3) 236 (4 * a + b) x3 o j = M.1 o j := fun o j hz => by rw [up2_n, up2_n] <;> omega
  refine ⟨(hR (4 * a + b) (by omega)).1.trans (up2_o M.1 219 (4 * a + b) x3 (a := 236) (j := 4 * a + b) (by decide)).symm, p, q, (?_ : RelF (up2 (up2 M.1 219 (4 * a + b) x3) 236 (4 * a + b) x3) M.2.2.1 p q)⟩
  refine ⟨hS, hT.c (fun o j z => e0 o j (by unfold dTXT at z; omega)), hC.c (fun o j z => e0 o j (by unfold dCRW at z; omega)), hH.c (fun o j z => e0 o j (by unfold dHNG at z; omega)), hA.c (fun o j z => e0 o j (by unfold dSAI at z; omega)), hM.c (fun o j z => e0 o j (by unfold dMSC at z; omega)), fun k hk => ?_, hL.c (fun o j z => e0 o j (by rcases hS.1.p with rfl | rfl <;> (unfold dPLN at z; omega))), hE.c (fun o j z => e0 o j (by rcases hS.1.p with rfl | rfl <;> (unfold dPLN at z; omega))) (fun _ _ _ => rfl)⟩
  by_cases he : k = 4 * a + b
  · subst he
    rw [up2_s, up2_o _ _ _ _ (by decide), up2_s]
    exact ⟨rfl, by omega, by omega⟩
  · rw [e0 _ _ (by omega), e0 _ _ (by omega)]
    exact hR k hk
-- trial
theorem r_trial_bad (h : Rel M) (hb : ¬ ((0 ≤ x1 ∧ x1 < M.1 221 12) ∧ (0 ≤ x2 ∧ x2 < M.1 227 1) ∧ 0 ≤ x3 ∧ x3 ≤ 100)) : P_X12_trial 221 x1 x2 x3 M (fun r2 M2 => -1 = r2 ∧ Rel M2) := by
  obtain ⟨p, q, hS, hT, hC, hH, hA, hM, hR, hL, hE⟩ := id h
  unfold P_X12_trial
  rw [r_isBody ⟨hC.2.1, hC.2.2.1⟩]
  refine ⟨fun _ => ⟨rfl, h⟩, fun h1 => ?_⟩
  rw [bi0] at h1
  rw [r_isSeat hS.2.2.2.2.2.1 ⟨hE.2.1, hE.2.2.1⟩]
  refine ⟨fun _ => ⟨rfl, h⟩, fun h2 => ?_⟩
  rw [bi0] at h2
  rw [p_in]
  exact ⟨fun h3 => by rw [bi0] at h3; omega, fun _ => ⟨rfl, h⟩⟩
theorem st_trial (h : Rel M) : P_X11_trial 0 x1 x2 x3 M (fun r M1 => P_X12_trial 221 x1 x2 x3 M1 (fun r2 M2 => r = r2 ∧ Rel M2)) := by
  obtain ⟨p, q, hS, hT, hC, hH, hA, hM, hR, hL, hE⟩ := id h
  have hB := hS.2.2.2.2.1
  have hc := hC.1
  have he := hE.1
  have hCn : 0 ≤ M.1 221 12 ∧ M.1 221 12 ≤ 12 := ⟨hC.2.1, hC.2.2.1⟩
  have hEn : 0 ≤ M.1 227 1 ∧ M.1 227 1 ≤ 6 := ⟨hE.2.1, hE.2.2.1⟩
  have hM1 := hM.2.2.2
  unfold P_X11_trial
  rintro _ rfl
  refine goO hS.2.2.2.1.2.1 (by decide) ?_
  refine c_bodyAt hB (by omega) (fun b e1 hb => ?_) (fun hz => ⟨fun _ => r_trial_bad h (fun z => hz (by omega)), fun z hz => (by cases hz)⟩)
  refine ⟨fun z => (by cases z), fun _ _ => ?_⟩
  rintro _ rfl
  refine goO hS.2.1 ⟨by rcases hS.1.p with rfl | rfl <;> decide, by rw [(sh_pl hS.1.p).1]⟩ ?_
  refine c_seatAt hS.1.p hS.P (by omega) (fun s e2 hs => ?_) (fun hz => ⟨fun _ => r_trial_bad h (fun z => hz (by omega)), fun z hz => (by cases hz)⟩)
  refine ⟨fun z => (by cases z), fun _ _ => ?_⟩
  rw [p_isWithin]
  refine ⟨fun h3 => ?_, fun hz => r_trial_bad h (fun z => bi0.mp hz z.2.2)⟩
  rw [bi0] at h3
  rintro _ rfl
  refine goO hS.2.2.2.1.2.2.2.2.2.1 (by decide) ?_
  have ref : ∀ (M1 : Mm) (Q : Int → Mm → Prop), M1.2.2.1 = M.2.2.1 → M1.1 221 12 = M.1 221 12 → M1.1 227 1 = M.1 227 1 → M1.1 221 15 = M.1 221 15 → (M.1 221 15 = 60 → Q (-3) M1) → (¬ M.1 221 15 = 60 → Q (M.1 221 15 + 1) (setI (setI M1 235 (6 * b + s) x3) 221 15 (M.1 221 15 + 1))) → P_X12_trial 221 x1 x2 x3 M1 Q := by
    intro M1 Q f1 f2 f3 f4 q1 q2
    unfold P_X12_trial
    rw [r_isBody (by rw [f2]; exact hCn), f2]
    refine ⟨fun z => by rw [bi0] at z; omega, fun _ => ?_⟩
    rw [r_isSeat (by rw [f1]; exact hS.2.2.2.2.2.1) (by rw [f3]; exact hEn), f3]
    refine ⟨fun z => by rw [bi0] at z; omega, fun _ => ?_⟩
    rw [p_in]
    refine ⟨fun _ => ?_, fun z => absurd (bi0.mp z) h3⟩
    rw [f4]
    refine ⟨fun hne => ?_, fun heq => q1 heq⟩
    rintro _ rfl
    refine ⟨inI_s (by omega) (by omega), inI_s (by omega) (by omega), ?_⟩
    refine goA (k := 235) (by rw [f1]; exact hS.2.2.2.2.2.1.2.2.2.2.2.2.2.2.2.2.2.2.2.1) (by decide) ⟨by omega, by rw [show (SH 235).2 = 72 by decide]; omega⟩ ?_
    rintro _ rfl
    rw [show (6 * x1 + x2).toNat = 6 * b + s by omega]
    have g : (setI M1 235 (6 * b + s) x3).1 221 15 = M.1 221 15 := (up2_o M1.1 235 (6 * b + s) x3 (a := 221) (j := 15) (by decide)).trans f4
    rw [g]
    refine ⟨inI_s (by omega) (by omega), ?_⟩
    rintro _ rfl
    have g2 : (setI (setI M1 235 (6 * b + s) x3) 221 15 (M.1 221 15 + 1)).1 221 15 = M.1 221 15 + 1 := setI_s _ _ _ _
    rw [g2]
    exact q2 hne
  refine ⟨fun hlt => ?_, fun hge => ?_⟩
  · have hsb := sh_B b (by omega)
    refine goO rfl ⟨by omega, by rw [hsb.1]⟩ ?_
    unfold P_X0_say
    rw [p_isWithin]
    refine ⟨fun z => by rw [bi0] at z; omega, fun _ => ?_⟩
    rintro _ rfl
    refine goA (hB.2.2 b (by omega)).2.2 ⟨by omega, by rw [hsb.2.2]⟩ ⟨by omega, by rw [hsb.2.2]; show x2 < 6; omega⟩ ?_
    rintro _ rfl
    rw [show x2.toNat = s by omega]
    rintro _ rfl
    refine goO hS.2.2.2.1.2.2.2.2.2.1 (by decide) ?_
    have g1 : (setI M (175 + 3 * b) s x3).1 220 0 = M.1 220 0 := up2_o _ _ _ _ (by omega)
    rw [g1]
    refine ⟨inI_s (by omega) (by omega), ?_⟩
    rintro _ rfl _ rfl
    refine goO hS.2.2.2.1.2.2.2.2.2.1 (by decide) ?_
    refine ref _ _ rfl ?_ ?_ ?_ (fun z => by omega) (fun hne => ?_)
    · show up2 (up2 M.1 (175 + 3 * b) s x3) 220 0 (M.1 220 0 + 1) 221 12 = _
      rw [up2_n, up2_n] <;> omega
    · show up2 (up2 M.1 (175 + 3 * b) s x3) 220 0 (M.1 220 0 + 1) 227 1 = _
      rw [up2_n, up2_n] <;> omega
    · show up2 (up2 M.1 (175 + 3 * b) s x3) 220 0 (M.1 220 0 + 1) 221 15 = _
      rw [up2_n, up2_n] <;> omega
    have e0 : ∀ o j, ¬ ((o = 175 + 3 * b ∧ j = s) ∨ (o = 235 ∧ j = 6 * b + s) ∨ (o = 220 ∧ j = 0) ∨ (o = 221 ∧ j = 15)) → up2 (up2 (up2 (up2 M.1 (175 + 3 * b) s x3) 220 0 (M.1 220 0 + 1)) 235 (6 * b + s) x3) 221 15 (M.1 221 15 + 1) o j = M.1 o j := fun o j hz => by rw [up2_n, up2_n, up2_n, up2_n] <;> omega
    refine ⟨?_, p, q, (?_ : RelF (up2 (up2 (up2 (up2 M.1 (175 + 3 * b) s x3) 220 0 (M.1 220 0 + 1)) 235 (6 * b + s) x3) 221 15 (M.1 221 15 + 1)) M.2.2.1 p q)⟩
    · show up2 (up2 M.1 (175 + 3 * b) s x3) 220 0 (M.1 220 0 + 1) 220 0 = _
      rw [up2_s]; omega
    · refine ⟨hS, hT.c (fun o j z => e0 o j (by unfold dTXT at z; omega)), hC.c (fun o j z => e0 o j (by unfold dCRW at z; omega)), hH.c (fun o j z => e0 o j (by unfold dHNG at z; omega)), fun b2 s2 hb2 hs2 => ?_, ?_, hR.c (fun o j z => e0 o j (by unfold dRDS at z; omega)), hL.c (fun o j z => e0 o j (by rcases hS.1.p with rfl | rfl <;> (unfold dPLN at z; omega))), hE.c (fun o j z => e0 o j (by rcases hS.1.p with rfl | rfl <;> (unfold dPLN at z; omega))) (fun _ _ _ => rfl)⟩
      · have hh := hA b2 s2 hb2 hs2
        by_cases hq : b2 = b ∧ s2 = s
        · obtain ⟨rfl, rfl⟩ := hq
          left
          simp only [up2]
          simp
          omega
        · rw [e0 _ _ (by omega), e0 _ _ (by omega)]
          exact hh
      · unfold MSC at hM ⊢
        rw [e0 170 2 (by omega), e0 221 17 (by omega), e0 215 0 (by omega), e0 221 18 (by omega), e0 215 1 (by omega), e0 221 19 (by omega), up2_s, up2_o _ _ _ _ (by decide), up2_o _ _ _ _ (by decide), up2_s]
        omega
  · exact ref M _ rfl rfl rfl rfl (fun _ => ⟨rfl, h⟩) (fun z => by omega)
-- worn
theorem st_worn (h : Rel M) : P_X11_worn 0 x1 x2 M (fun r => P_X12_worn 221 x1 x2 M (fun r2 => r = r2)) := by
  obtain ⟨p, q, hS, hT, hC, hH, hA, hM, hR, hL, hE⟩ := id h
  have he := hE.1
  have hEn : 0 ≤ M.1 227 1 ∧ M.1 227 1 ≤ 6 := ⟨hE.2.1, hE.2.2.1⟩
  have hpm : ∀ s : Nat, (s : Int) < M.1 227 1 → 0 ≤ M.1 229 (6 + s) ∧ M.1 229 (6 + s) ≤ 6 := fun s hs => by have := (hE.2.2.2 s hs).2.2.2.1; omega
  have bad : ¬ ((0 ≤ x1 ∧ x1 ≤ M.1 227 1 - 1) ∧ 0 ≤ x2 ∧ x2 ≤ M.1 229 (6 + x1.toNat) - 1) → P_X12_worn 221 x1 x2 M (fun r2 => -1 = r2) := by
    intro hb
    unfold P_X12_worn
    rw [r_isPatch hS.2.2.2.2.2.1 hEn hpm, bi_f hb]
    exact ⟨fun _ => rfl, fun z => absurd rfl z⟩
  unfold P_X11_worn
  rintro _ rfl
  refine goO hS.2.1 ⟨by rcases hS.1.p with rfl | rfl <;> decide, by rw [(sh_pl hS.1.p).1]⟩ ?_
  refine c_seatAt hS.1.p hS.P (by omega) (fun s e1 hs => ?_) (fun hz => ⟨fun z hz => (by cases hz), fun _ => ?_⟩)
  · refine ⟨fun _ _ => ?_, fun z => (by cases z)⟩
    have hs6 : s < 6 := by omega
    have hss := hE.2.2.2 s (by omega)
    have hpc := hss.2.2.2.1
    refine goO rfl ⟨by rcases hS.1.p with rfl | rfl <;> omega, by rw [(sh_S hS.1.p hs6).1]⟩ ?_
    refine c_patchAt hS.1.p hs6 hS.P (by omega) (fun i e2 hi => ?_) (fun hz => ?_)
    · unfold P_X11_worn_22
      refine ⟨fun _ _ => ?_, fun z => (by cases z)⟩
      have hi6 : i < 6 := by omega
      refine goO rfl ⟨by rcases hS.1.p with rfl | rfl <;> omega, by rw [sh_P hS.1.p hs6 hi6]⟩ ?_
      show P_X12_worn 221 x1 x2 M _
      unfold P_X12_worn
      rw [r_isPatch hS.2.2.2.2.2.1 hEn hpm, bi_t (by rw [show x1.toNat = s by omega]; omega)]
      refine ⟨fun z => absurd z (by decide), fun _ => ?_⟩
      rintro _ rfl
      refine ⟨inI_s (by omega) (by omega), inI_s (by omega) (by omega), ?_⟩
      refine goA hS.2.2.2.2.2.1.2.2.2.2.2.2.2.2.2.1 (by decide) ⟨by omega, by rw [show (SH 231).2 = 36 by decide]; omega⟩ ?_
      rw [show (6 * x1 + x2).toNat = 6 * s + i by omega]
      exact (hss.2.2.2.2 i (by omega)).2.2.2.1
    · unfold P_X11_worn_22
      refine ⟨fun _ z => (by cases z), fun _ => bad (fun z => hz ?_)⟩
      rw [show x1.toNat = s by omega] at z
      omega
  · unfold P_X11_worn_22
    exact ⟨fun _ z => (by cases z), fun _ => bad (fun z => hz (by omega))⟩
end ST2
