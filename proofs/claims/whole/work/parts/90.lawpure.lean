/-! THE LAW, over the pure memories -/
section LAWP
variable {L : Nat} {xs : Nat → Int32} {x3 : Int} {M : Mm} {n0 : Nat} {K : Int × Mm → Prop}
theorem l_write (hx : 0 ≤ x3) (hx2 : x3 ≤ (L : Int) - 7) (hL : L ≤ 3584) (h : Rel M) (hM : M.2.2.2 = 243) (hK : ∀ M' : Mm, Rel M' → M'.2.2.2 = 243 → K (x3 + 7, M')) : P_L_law_160 L xs (some 0) (some 221) x3 M n0 K := by
  unfold P_L_law_160
  refine ⟨inI_s (by omega) (by omega), by omega, by omega, inI_s (by omega) (by omega), by omega, by omega, inI_s (by omega) (by omega), by omega, by omega, goOn rfl ⟨by omega, by decide⟩ ⟨hM, _, st_write h, fun v M1 hv n1 => ?_⟩⟩
  refine ⟨inI_s (by omega) (by omega), by omega, by omega, inI_s (by omega) (by omega), by omega, by omega, inI_s (by omega) (by omega), by omega, by omega, goOn rfl ⟨by omega, by decide⟩ ⟨n1, _, hv, fun v2 M2 hv2 n2 => ⟨fun _ => ⟨inI_s (by omega) (by omega), fun v3 e3 => ?_⟩, fun z => absurd hv2.1 z⟩⟩⟩
  subst e3
  exact hK M2 hv2.2 n2
theorem l_wipe (hx : 0 ≤ x3) (hx2 : x3 ≤ (L : Int) - 7) (hL : L ≤ 3584) (h : Rel M) (hM : M.2.2.2 = 243) (hK : ∀ M' : Mm, Rel M' → M'.2.2.2 = 243 → K (x3 + 7, M')) : P_L_law_223 L xs (some 0) (some 221) x3 M n0 K := by
  unfold P_L_law_223
  refine goOn rfl ⟨by omega, by decide⟩ ⟨hM, _, st_wipe h, fun v M1 hv n1 => ?_⟩
  refine goOn rfl ⟨by omega, by decide⟩ ⟨n1, _, hv, fun v2 M2 hv2 n2 => ⟨fun _ => ⟨inI_s (by omega) (by omega), fun v3 e3 => ?_⟩, fun z => absurd hv2.1 z⟩⟩
  subst e3
  exact hK M2 hv2.2 n2
theorem l_fault (hx : 0 ≤ x3) (hx2 : x3 ≤ (L : Int) - 7) (hL : L ≤ 3584) (h : Rel M) (hM : M.2.2.2 = 243) (hK : ∀ M' : Mm, Rel M' → M'.2.2.2 = 243 → K (x3 + 7, M')) : P_L_law_236 L xs (some 0) (some 221) x3 M n0 K := by
  unfold P_L_law_236
  refine goOn rfl ⟨by omega, by decide⟩ ⟨hM, _, st_fault h, fun v M1 hv n1 => ?_⟩
  refine goOn rfl ⟨by omega, by decide⟩ ⟨n1, _, hv, fun v2 M2 hv2 n2 => ⟨fun _ => ⟨inI_s (by omega) (by omega), fun v3 e3 => ?_⟩, fun z => absurd hv2.1 z⟩⟩
  subst e3
  exact hK M2 hv2.2 n2
theorem l_lay (hx : 0 ≤ x3) (hx2 : x3 ≤ (L : Int) - 7) (hL : L ≤ 3584) (h : Rel M) (hM : M.2.2.2 = 243) (hK : ∀ M' : Mm, Rel M' → M'.2.2.2 = 243 → K (x3 + 7, M')) : P_L_law_249 L xs (some 0) (some 221) x3 M n0 K := by
  unfold P_L_law_249
  refine goOn rfl ⟨by omega, by decide⟩ ⟨hM, _, st_lay h, fun v M1 hv n1 => ?_⟩
  refine goOn rfl ⟨by omega, by decide⟩ ⟨n1, _, hv, fun v2 M2 hv2 n2 => ⟨fun _ => ⟨inI_s (by omega) (by omega), fun v3 e3 => ?_⟩, fun z => absurd hv2.1 z⟩⟩
  subst e3
  exact hK M2 hv2.2 n2
theorem l_body (hx : 0 ≤ x3) (hx2 : x3 ≤ (L : Int) - 7) (hL : L ≤ 3584) (h : Rel M) (hM : M.2.2.2 = 243) (hK : ∀ M' : Mm, Rel M' → M'.2.2.2 = 243 → K (x3 + 7, M')) : P_L_law_262 L xs (some 0) (some 221) x3 M n0 K := by
  unfold P_L_law_262
  refine ⟨inI_s (by omega) (by omega), by omega, by omega, inI_s (by omega) (by omega), by omega, by omega, inI_s (by omega) (by omega), by omega, by omega, inI_s (by omega) (by omega), by omega, by omega, inI_s (by omega) (by omega), by omega, by omega, inI_s (by omega) (by omega), by omega, by omega, goOn rfl ⟨by omega, by decide⟩ ⟨hM, _, st_body h, fun v M1 hv n1 => ?_⟩⟩
  refine ⟨inI_s (by omega) (by omega), by omega, by omega, inI_s (by omega) (by omega), by omega, by omega, inI_s (by omega) (by omega), by omega, by omega, inI_s (by omega) (by omega), by omega, by omega, inI_s (by omega) (by omega), by omega, by omega, inI_s (by omega) (by omega), by omega, by omega, goOn rfl ⟨by omega, by decide⟩ ⟨n1, _, hv, fun v2 M2 hv2 n2 => ⟨fun _ => ⟨inI_s (by omega) (by omega), fun v3 e3 => ?_⟩, fun z => absurd hv2.1 z⟩⟩⟩
  subst e3
  exact hK M2 hv2.2 n2
theorem l_hang (hx : 0 ≤ x3) (hx2 : x3 ≤ (L : Int) - 7) (hL : L ≤ 3584) (h : Rel M) (hM : M.2.2.2 = 243) (hK : ∀ M' : Mm, Rel M' → M'.2.2.2 = 243 → K (x3 + 7, M')) : P_L_law_337 L xs (some 0) (some 221) x3 M n0 K := by
  unfold P_L_law_337
  refine ⟨inI_s (by omega) (by omega), by omega, by omega, inI_s (by omega) (by omega), by omega, by omega, inI_s (by omega) (by omega), by omega, by omega, goOn rfl ⟨by omega, by decide⟩ ⟨hM, _, st_hang h, fun v M1 hv n1 => ?_⟩⟩
  refine ⟨inI_s (by omega) (by omega), by omega, by omega, inI_s (by omega) (by omega), by omega, by omega, inI_s (by omega) (by omega), by omega, by omega, goOn rfl ⟨by omega, by decide⟩ ⟨n1, _, hv, fun v2 M2 hv2 n2 => ⟨fun _ => ⟨inI_s (by omega) (by omega), fun v3 e3 => ?_⟩, fun z => absurd hv2.1 z⟩⟩⟩
  subst e3
  exact hK M2 hv2.2 n2
theorem l_level (hx : 0 ≤ x3) (hx2 : x3 ≤ (L : Int) - 7) (hL : L ≤ 3584) (h : Rel M) (hM : M.2.2.2 = 243) (hK : ∀ M' : Mm, Rel M' → M'.2.2.2 = 243 → K (x3 + 7, M')) : P_L_law_380 L xs (some 0) (some 221) x3 M n0 K := by
  unfold P_L_law_380
  refine ⟨inI_s (by omega) (by omega), by omega, by omega, inI_s (by omega) (by omega), by omega, by omega, inI_s (by omega) (by omega), by omega, by omega, goOn rfl ⟨by omega, by decide⟩ ⟨hM, _, st_level h, fun v M1 hv n1 => ?_⟩⟩
  refine ⟨inI_s (by omega) (by omega), by omega, by omega, inI_s (by omega) (by omega), by omega, by omega, inI_s (by omega) (by omega), by omega, by omega, goOn rfl ⟨by omega, by decide⟩ ⟨n1, _, hv, fun v2 M2 hv2 n2 => ⟨fun _ => ⟨inI_s (by omega) (by omega), fun v3 e3 => ?_⟩, fun z => absurd hv2.1 z⟩⟩⟩
  subst e3
  exact hK M2 hv2.2 n2
theorem l_push (hx : 0 ≤ x3) (hx2 : x3 ≤ (L : Int) - 7) (hL : L ≤ 3584) (h : Rel M) (hM : M.2.2.2 = 243) (hK : ∀ M' : Mm, Rel M' → M'.2.2.2 = 243 → K (x3 + 7, M')) : P_L_law_423 L xs (some 0) (some 221) x3 M n0 K := by
  unfold P_L_law_423
  refine ⟨inI_s (by omega) (by omega), by omega, by omega, inI_s (by omega) (by omega), by omega, by omega, inI_s (by omega) (by omega), by omega, by omega, inI_s (by omega) (by omega), by omega, by omega, goOn rfl ⟨by omega, by decide⟩ ⟨hM, _, st_push h, fun v M1 hv n1 => ?_⟩⟩
  refine ⟨inI_s (by omega) (by omega), by omega, by omega, inI_s (by omega) (by omega), by omega, by omega, inI_s (by omega) (by omega), by omega, by omega, inI_s (by omega) (by omega), by omega, by omega, goOn rfl ⟨by omega, by decide⟩ ⟨n1, _, hv, fun v2 M2 hv2 n2 => ⟨fun _ => ⟨inI_s (by omega) (by omega), fun v3 e3 => ?_⟩, fun z => absurd hv2.1 z⟩⟩⟩
  subst e3
  exact hK M2 hv2.2 n2
theorem l_bears (hx : 0 ≤ x3) (hx2 : x3 ≤ (L : Int) - 7) (hL : L ≤ 3584) (h : Rel M) (hM : M.2.2.2 = 243) (hK : ∀ M' : Mm, Rel M' → M'.2.2.2 = 243 → K (x3 + 7, M')) : P_L_law_476 L xs (some 0) (some 221) x3 M n0 K := by
  unfold P_L_law_476
  refine ⟨inI_s (by omega) (by omega), by omega, by omega, inI_s (by omega) (by omega), by omega, by omega, inI_s (by omega) (by omega), by omega, by omega, goOn rfl ⟨by omega, by decide⟩ ⟨hM, _, st_bears h, fun v M1 hv n1 => ?_⟩⟩
  refine ⟨inI_s (by omega) (by omega), by omega, by omega, inI_s (by omega) (by omega), by omega, by omega, inI_s (by omega) (by omega), by omega, by omega, goOn rfl ⟨by omega, by decide⟩ ⟨n1, _, hv, fun v2 M2 hv2 n2 => ⟨fun _ => ⟨inI_s (by omega) (by omega), fun v3 e3 => ?_⟩, fun z => absurd hv2.1 z⟩⟩⟩
  subst e3
  exact hK M2 hv2.2 n2
theorem l_press (hx : 0 ≤ x3) (hx2 : x3 ≤ (L : Int) - 7) (hL : L ≤ 3584) (h : Rel M) (hM : M.2.2.2 = 243) (hK : ∀ M' : Mm, Rel M' → M'.2.2.2 = 243 → K (x3 + 7, M')) : P_L_law_519 L xs (some 0) (some 221) x3 M n0 K := by
  unfold P_L_law_519
  refine ⟨inI_s (by omega) (by omega), by omega, by omega, inI_s (by omega) (by omega), by omega, by omega, inI_s (by omega) (by omega), by omega, by omega, goOn rfl ⟨by omega, by decide⟩ ⟨hM, _, st_press h, fun v M1 hv n1 => ?_⟩⟩
  refine ⟨inI_s (by omega) (by omega), by omega, by omega, inI_s (by omega) (by omega), by omega, by omega, inI_s (by omega) (by omega), by omega, by omega, goOn rfl ⟨by omega, by decide⟩ ⟨n1, _, hv, fun v2 M2 hv2 n2 => ⟨fun _ => ⟨inI_s (by omega) (by omega), fun v3 e3 => ?_⟩, fun z => absurd hv2.1 z⟩⟩⟩
  subst e3
  exact hK M2 hv2.2 n2
theorem l_slack (hx : 0 ≤ x3) (hx2 : x3 ≤ (L : Int) - 7) (hL : L ≤ 3584) (h : Rel M) (hM : M.2.2.2 = 243) (hK : ∀ M' : Mm, Rel M' → M'.2.2.2 = 243 → K (x3 + 7, M')) : P_L_law_562 L xs (some 0) (some 221) x3 M n0 K := by
  unfold P_L_law_562
  refine ⟨inI_s (by omega) (by omega), by omega, by omega, goOn rfl ⟨by omega, by decide⟩ ⟨hM, _, st_slack h, fun v M1 hv n1 => ?_⟩⟩
  refine ⟨inI_s (by omega) (by omega), by omega, by omega, goOn rfl ⟨by omega, by decide⟩ ⟨n1, _, hv, fun v2 M2 hv2 n2 => ⟨fun _ => ⟨inI_s (by omega) (by omega), fun v3 e3 => ?_⟩, fun z => absurd hv2.1 z⟩⟩⟩
  subst e3
  exact hK M2 hv2.2 n2
theorem l_fits (hx : 0 ≤ x3) (hx2 : x3 ≤ (L : Int) - 7) (hL : L ≤ 3584) (h : Rel M) (hM : M.2.2.2 = 243) (hK : ∀ M' : Mm, Rel M' → M'.2.2.2 = 243 → K (x3 + 7, M')) : P_L_law_585 L xs (some 0) (some 221) x3 M n0 K := by
  unfold P_L_law_585
  refine ⟨inI_s (by omega) (by omega), by omega, by omega, inI_s (by omega) (by omega), by omega, by omega, inI_s (by omega) (by omega), by omega, by omega, inI_s (by omega) (by omega), by omega, by omega, goOn rfl ⟨by omega, by decide⟩ ⟨hM, _, st_fits h, fun v hv => ?_⟩⟩
  refine ⟨inI_s (by omega) (by omega), by omega, by omega, inI_s (by omega) (by omega), by omega, by omega, inI_s (by omega) (by omega), by omega, by omega, inI_s (by omega) (by omega), by omega, by omega, goOn rfl ⟨by omega, by decide⟩ ⟨hM, _, hv, fun v2 hv2 => ⟨fun _ => ⟨inI_s (by omega) (by omega), fun v3 e3 => ?_⟩, fun z => absurd hv2 z⟩⟩⟩
  subst e3
  exact hK M h hM
theorem l_share (hx : 0 ≤ x3) (hx2 : x3 ≤ (L : Int) - 7) (hL : L ≤ 3584) (h : Rel M) (hM : M.2.2.2 = 243) (hK : ∀ M' : Mm, Rel M' → M'.2.2.2 = 243 → K (x3 + 7, M')) : P_L_law_638 L xs (some 0) (some 221) x3 M n0 K := by
  unfold P_L_law_638
  refine ⟨inI_s (by omega) (by omega), by omega, by omega, inI_s (by omega) (by omega), by omega, by omega, goOn rfl ⟨by omega, by decide⟩ ⟨hM, _, st_share h, fun v M1 hv n1 => ?_⟩⟩
  refine ⟨inI_s (by omega) (by omega), by omega, by omega, inI_s (by omega) (by omega), by omega, by omega, goOn rfl ⟨by omega, by decide⟩ ⟨n1, _, hv, fun v2 M2 hv2 n2 => ⟨fun _ => ⟨inI_s (by omega) (by omega), fun v3 e3 => ?_⟩, fun z => absurd hv2.1 z⟩⟩⟩
  subst e3
  exact hK M2 hv2.2 n2
theorem l_setting (hx : 0 ≤ x3) (hx2 : x3 ≤ (L : Int) - 7) (hL : L ≤ 3584) (h : Rel M) (hM : M.2.2.2 = 243) (hK : ∀ M' : Mm, Rel M' → M'.2.2.2 = 243 → K (x3 + 7, M')) : P_L_law_671 L xs (some 0) (some 221) x3 M n0 K := by
  unfold P_L_law_671
  refine ⟨inI_s (by omega) (by omega), by omega, by omega, inI_s (by omega) (by omega), by omega, by omega, goOn rfl ⟨by omega, by decide⟩ ⟨hM, _, st_setting h, fun v hv => ?_⟩⟩
  refine ⟨inI_s (by omega) (by omega), by omega, by omega, inI_s (by omega) (by omega), by omega, by omega, goOn rfl ⟨by omega, by decide⟩ ⟨hM, _, hv, fun v2 hv2 => ⟨fun _ => ⟨inI_s (by omega) (by omega), fun v3 e3 => ?_⟩, fun z => absurd hv2 z⟩⟩⟩
  subst e3
  exact hK M h hM
theorem l_fewest (hx : 0 ≤ x3) (hx2 : x3 ≤ (L : Int) - 7) (hL : L ≤ 3584) (h : Rel M) (hM : M.2.2.2 = 243) (hK : ∀ M' : Mm, Rel M' → M'.2.2.2 = 243 → K (x3 + 7, M')) : P_L_law_704 L xs (some 0) (some 221) x3 M n0 K := by
  unfold P_L_law_704
  refine ⟨inI_s (by omega) (by omega), by omega, by omega, goOn rfl ⟨by omega, by decide⟩ ⟨hM, _, st_fewest h, fun v M1 hv n1 => ?_⟩⟩
  refine ⟨inI_s (by omega) (by omega), by omega, by omega, goOn rfl ⟨by omega, by decide⟩ ⟨n1, _, hv, fun v2 M2 hv2 n2 => ⟨fun _ => ⟨inI_s (by omega) (by omega), fun v3 e3 => ?_⟩, fun z => absurd hv2.1 z⟩⟩⟩
  subst e3
  exact hK M2 hv2.2 n2
theorem l_law (hx : 0 ≤ x3) (hx2 : x3 ≤ (L : Int) - 7) (hL : L ≤ 3584) (h : Rel M) (hM : M.2.2.2 = 243) (hK : ∀ M' : Mm, Rel M' → M'.2.2.2 = 243 → K (x3 + 7, M')) : P_L_law_727 L xs (some 0) (some 221) x3 M n0 K := by
  unfold P_L_law_727
  refine ⟨inI_s (by omega) (by omega), by omega, by omega, inI_s (by omega) (by omega), by omega, by omega, goOn rfl ⟨by omega, by decide⟩ ⟨hM, _, st_law h, fun v M1 hv n1 => ?_⟩⟩
  refine ⟨inI_s (by omega) (by omega), by omega, by omega, inI_s (by omega) (by omega), by omega, by omega, goOn rfl ⟨by omega, by decide⟩ ⟨n1, _, hv, fun v2 M2 hv2 n2 => ⟨fun _ => ⟨inI_s (by omega) (by omega), fun v3 e3 => ?_⟩, fun z => absurd hv2.1 z⟩⟩⟩
  subst e3
  exact hK M2 hv2.2 n2
theorem l_hours (hx : 0 ≤ x3) (hx2 : x3 ≤ (L : Int) - 7) (hL : L ≤ 3584) (h : Rel M) (hM : M.2.2.2 = 243) (hK : ∀ M' : Mm, Rel M' → M'.2.2.2 = 243 → K (x3 + 7, M')) : P_L_law_760 L xs (some 0) (some 221) x3 M n0 K := by
  unfold P_L_law_760
  refine ⟨inI_s (by omega) (by omega), by omega, by omega, inI_s (by omega) (by omega), by omega, by omega, inI_s (by omega) (by omega), by omega, by omega, goOn rfl ⟨by omega, by decide⟩ ⟨hM, _, st_hours h, fun v M1 hv n1 => ?_⟩⟩
  refine ⟨inI_s (by omega) (by omega), by omega, by omega, inI_s (by omega) (by omega), by omega, by omega, inI_s (by omega) (by omega), by omega, by omega, goOn rfl ⟨by omega, by decide⟩ ⟨n1, _, hv, fun v2 M2 hv2 n2 => ⟨fun _ => ⟨inI_s (by omega) (by omega), fun v3 e3 => ?_⟩, fun z => absurd hv2.1 z⟩⟩⟩
  subst e3
  exact hK M2 hv2.2 n2
theorem l_stops (hx : 0 ≤ x3) (hx2 : x3 ≤ (L : Int) - 7) (hL : L ≤ 3584) (h : Rel M) (hM : M.2.2.2 = 243) (hK : ∀ M' : Mm, Rel M' → M'.2.2.2 = 243 → K (x3 + 7, M')) : P_L_law_803 L xs (some 0) (some 221) x3 M n0 K := by
  unfold P_L_law_803
  refine ⟨inI_s (by omega) (by omega), by omega, by omega, inI_s (by omega) (by omega), by omega, by omega, inI_s (by omega) (by omega), by omega, by omega, inI_s (by omega) (by omega), by omega, by omega, inI_s (by omega) (by omega), by omega, by omega, goOn rfl ⟨by omega, by decide⟩ ⟨hM, _, st_stops h, fun v M1 hv n1 => ?_⟩⟩
  refine ⟨inI_s (by omega) (by omega), by omega, by omega, inI_s (by omega) (by omega), by omega, by omega, inI_s (by omega) (by omega), by omega, by omega, inI_s (by omega) (by omega), by omega, by omega, inI_s (by omega) (by omega), by omega, by omega, goOn rfl ⟨by omega, by decide⟩ ⟨n1, _, hv, fun v2 M2 hv2 n2 => ⟨fun _ => ⟨inI_s (by omega) (by omega), fun v3 e3 => ?_⟩, fun z => absurd hv2.1 z⟩⟩⟩
  subst e3
  exact hK M2 hv2.2 n2
theorem l_road (hx : 0 ≤ x3) (hx2 : x3 ≤ (L : Int) - 7) (hL : L ≤ 3584) (h : Rel M) (hM : M.2.2.2 = 243) (hK : ∀ M' : Mm, Rel M' → M'.2.2.2 = 243 → K (x3 + 7, M')) : P_L_law_866 L xs (some 0) (some 221) x3 M n0 K := by
  unfold P_L_law_866
  refine ⟨inI_s (by omega) (by omega), by omega, by omega, inI_s (by omega) (by omega), by omega, by omega, inI_s (by omega) (by omega), by omega, by omega, goOn rfl ⟨by omega, by decide⟩ ⟨hM, _, st_road h, fun v M1 hv n1 => ?_⟩⟩
  refine ⟨inI_s (by omega) (by omega), by omega, by omega, inI_s (by omega) (by omega), by omega, by omega, inI_s (by omega) (by omega), by omega, by omega, goOn rfl ⟨by omega, by decide⟩ ⟨n1, _, hv, fun v2 M2 hv2 n2 => ⟨fun _ => ⟨inI_s (by omega) (by omega), fun v3 e3 => ?_⟩, fun z => absurd hv2.1 z⟩⟩⟩
  subst e3
  exact hK M2 hv2.2 n2
theorem l_through (hx : 0 ≤ x3) (hx2 : x3 ≤ (L : Int) - 7) (hL : L ≤ 3584) (h : Rel M) (hM : M.2.2.2 = 243) (hK : ∀ M' : Mm, Rel M' → M'.2.2.2 = 243 → K (x3 + 7, M')) : P_L_law_909 L xs (some 0) (some 221) x3 M n0 K := by
  unfold P_L_law_909
  refine ⟨inI_s (by omega) (by omega), by omega, by omega, inI_s (by omega) (by omega), by omega, by omega, inI_s (by omega) (by omega), by omega, by omega, inI_s (by omega) (by omega), by omega, by omega, goOn rfl ⟨by omega, by decide⟩ ⟨hM, _, st_through h, fun v M1 hv n1 => ?_⟩⟩
  refine ⟨inI_s (by omega) (by omega), by omega, by omega, inI_s (by omega) (by omega), by omega, by omega, inI_s (by omega) (by omega), by omega, by omega, inI_s (by omega) (by omega), by omega, by omega, goOn rfl ⟨by omega, by decide⟩ ⟨n1, _, hv, fun v2 M2 hv2 n2 => ⟨fun _ => ⟨inI_s (by omega) (by omega), fun v3 e3 => ?_⟩, fun z => absurd hv2.1 z⟩⟩⟩
  subst e3
  exact hK M2 hv2.2 n2
theorem l_dose (hx : 0 ≤ x3) (hx2 : x3 ≤ (L : Int) - 7) (hL : L ≤ 3584) (h : Rel M) (hM : M.2.2.2 = 243) (hK : ∀ M' : Mm, Rel M' → M'.2.2.2 = 243 → K (x3 + 7, M')) : P_L_law_962 L xs (some 0) (some 221) x3 M n0 K := by
  unfold P_L_law_962
  refine ⟨inI_s (by omega) (by omega), by omega, by omega, inI_s (by omega) (by omega), by omega, by omega, inI_s (by omega) (by omega), by omega, by omega, inI_s (by omega) (by omega), by omega, by omega, inI_s (by omega) (by omega), by omega, by omega, inI_s (by omega) (by omega), by omega, by omega, goOn rfl ⟨by omega, by decide⟩ ⟨hM, _, st_dose h, fun v M1 hv n1 => ?_⟩⟩
  refine ⟨inI_s (by omega) (by omega), by omega, by omega, inI_s (by omega) (by omega), by omega, by omega, inI_s (by omega) (by omega), by omega, by omega, inI_s (by omega) (by omega), by omega, by omega, inI_s (by omega) (by omega), by omega, by omega, inI_s (by omega) (by omega), by omega, by omega, goOn rfl ⟨by omega, by decide⟩ ⟨n1, _, hv, fun v2 M2 hv2 n2 => ⟨fun _ => ⟨inI_s (by omega) (by omega), fun v3 e3 => ?_⟩, fun z => absurd hv2.1 z⟩⟩⟩
  subst e3
  exact hK M2 hv2.2 n2
theorem l_years (hx : 0 ≤ x3) (hx2 : x3 ≤ (L : Int) - 7) (hL : L ≤ 3584) (h : Rel M) (hM : M.2.2.2 = 243) (hK : ∀ M' : Mm, Rel M' → M'.2.2.2 = 243 → K (x3 + 7, M')) : P_L_law_1038 L xs (some 0) (some 221) x3 M n0 K := by
  unfold P_L_law_1038
  refine ⟨inI_s (by omega) (by omega), by omega, by omega, inI_s (by omega) (by omega), by omega, by omega, inI_s (by omega) (by omega), by omega, by omega, inI_s (by omega) (by omega), by omega, by omega, goOn rfl ⟨by omega, by decide⟩ ⟨hM, _, st_years h, fun v M1 hv n1 => ?_⟩⟩
  refine ⟨inI_s (by omega) (by omega), by omega, by omega, inI_s (by omega) (by omega), by omega, by omega, inI_s (by omega) (by omega), by omega, by omega, inI_s (by omega) (by omega), by omega, by omega, goOn rfl ⟨by omega, by decide⟩ ⟨n1, _, hv, fun v2 M2 hv2 n2 => ⟨fun _ => ⟨inI_s (by omega) (by omega), fun v3 e3 => ?_⟩, fun z => absurd hv2.1 z⟩⟩⟩
  subst e3
  exact hK M2 hv2.2 n2
theorem l_worn (hx : 0 ≤ x3) (hx2 : x3 ≤ (L : Int) - 7) (hL : L ≤ 3584) (h : Rel M) (hM : M.2.2.2 = 243) (hK : ∀ M' : Mm, Rel M' → M'.2.2.2 = 243 → K (x3 + 7, M')) : P_L_law_1091 L xs (some 0) (some 221) x3 M n0 K := by
  unfold P_L_law_1091
  refine ⟨inI_s (by omega) (by omega), by omega, by omega, inI_s (by omega) (by omega), by omega, by omega, goOn rfl ⟨by omega, by decide⟩ ⟨hM, _, st_worn h, fun v hv => ?_⟩⟩
  refine ⟨inI_s (by omega) (by omega), by omega, by omega, inI_s (by omega) (by omega), by omega, by omega, goOn rfl ⟨by omega, by decide⟩ ⟨hM, _, hv, fun v2 hv2 => ⟨fun _ => ⟨inI_s (by omega) (by omega), fun v3 e3 => ?_⟩, fun z => absurd hv2 z⟩⟩⟩
  subst e3
  exact hK M h hM
theorem l_until (hx : 0 ≤ x3) (hx2 : x3 ≤ (L : Int) - 7) (hL : L ≤ 3584) (h : Rel M) (hM : M.2.2.2 = 243) (hK : ∀ M' : Mm, Rel M' → M'.2.2.2 = 243 → K (x3 + 7, M')) : P_L_law_1124 L xs (some 0) (some 221) x3 M n0 K := by
  unfold P_L_law_1124
  refine ⟨inI_s (by omega) (by omega), by omega, by omega, inI_s (by omega) (by omega), by omega, by omega, inI_s (by omega) (by omega), by omega, by omega, inI_s (by omega) (by omega), by omega, by omega, goOn rfl ⟨by omega, by decide⟩ ⟨hM, _, st_until h, fun v M1 hv n1 => ?_⟩⟩
  refine ⟨inI_s (by omega) (by omega), by omega, by omega, inI_s (by omega) (by omega), by omega, by omega, inI_s (by omega) (by omega), by omega, by omega, inI_s (by omega) (by omega), by omega, by omega, goOn rfl ⟨by omega, by decide⟩ ⟨n1, _, hv, fun v2 M2 hv2 n2 => ⟨fun _ => ⟨inI_s (by omega) (by omega), fun v3 e3 => ?_⟩, fun z => absurd hv2.1 z⟩⟩⟩
  subst e3
  exact hK M2 hv2.2 n2
theorem l_trial (hx : 0 ≤ x3) (hx2 : x3 ≤ (L : Int) - 7) (hL : L ≤ 3584) (h : Rel M) (hM : M.2.2.2 = 243) (hK : ∀ M' : Mm, Rel M' → M'.2.2.2 = 243 → K (x3 + 7, M')) : P_L_law_1177 L xs (some 0) (some 221) x3 M n0 K := by
  unfold P_L_law_1177
  refine ⟨inI_s (by omega) (by omega), by omega, by omega, inI_s (by omega) (by omega), by omega, by omega, inI_s (by omega) (by omega), by omega, by omega, goOn rfl ⟨by omega, by decide⟩ ⟨hM, _, st_trial h, fun v M1 hv n1 => ?_⟩⟩
  refine ⟨inI_s (by omega) (by omega), by omega, by omega, inI_s (by omega) (by omega), by omega, by omega, inI_s (by omega) (by omega), by omega, by omega, goOn rfl ⟨by omega, by decide⟩ ⟨n1, _, hv, fun v2 M2 hv2 n2 => ⟨fun _ => ⟨inI_s (by omega) (by omega), fun v3 e3 => ?_⟩, fun z => absurd hv2.1 z⟩⟩⟩
  subst e3
  exact hK M2 hv2.2 n2
theorem l_against (hx : 0 ≤ x3) (hx2 : x3 ≤ (L : Int) - 7) (hL : L ≤ 3584) (h : Rel M) (hM : M.2.2.2 = 243) (hK : ∀ M' : Mm, Rel M' → M'.2.2.2 = 243 → K (x3 + 7, M')) : P_L_law_1220 L xs (some 0) (some 221) x3 M n0 K := by
  unfold P_L_law_1220
  refine ⟨inI_s (by omega) (by omega), by omega, by omega, inI_s (by omega) (by omega), by omega, by omega, inI_s (by omega) (by omega), by omega, by omega, goOn rfl ⟨by omega, by decide⟩ ⟨hM, _, st_against h, fun v M1 hv n1 => ?_⟩⟩
  refine ⟨inI_s (by omega) (by omega), by omega, by omega, inI_s (by omega) (by omega), by omega, by omega, inI_s (by omega) (by omega), by omega, by omega, goOn rfl ⟨by omega, by decide⟩ ⟨n1, _, hv, fun v2 hv2 => ⟨fun _ => ⟨inI_s (by omega) (by omega), fun v3 e3 => ?_⟩, fun z => absurd hv2.1 z⟩⟩⟩
  subst e3
  exact hK M1 hv2.2 n1
theorem l_score (hx : 0 ≤ x3) (hx2 : x3 ≤ (L : Int) - 7) (hL : L ≤ 3584) (h : Rel M) (hM : M.2.2.2 = 243) (hK : ∀ M' : Mm, Rel M' → M'.2.2.2 = 243 → K (x3 + 7, M')) : P_L_law_1263 L xs (some 0) (some 221) x3 M n0 K := by
  unfold P_L_law_1263
  refine ⟨inI_s (by omega) (by omega), by omega, by omega, inI_s (by omega) (by omega), by omega, by omega, goOn rfl ⟨by omega, by decide⟩ ⟨hM, _, st_score h, fun v hv => ?_⟩⟩
  refine ⟨inI_s (by omega) (by omega), by omega, by omega, inI_s (by omega) (by omega), by omega, by omega, goOn rfl ⟨by omega, by decide⟩ ⟨hM, _, hv, fun v2 hv2 => ⟨fun _ => ⟨inI_s (by omega) (by omega), fun v3 e3 => ?_⟩, fun z => absurd hv2 z⟩⟩⟩
  subst e3
  exact hK M h hM
theorem l_count (hx : 0 ≤ x3) (hx2 : x3 ≤ (L : Int) - 7) (hL : L ≤ 3584) (h : Rel M) (hM : M.2.2.2 = 243) (hK : ∀ M' : Mm, Rel M' → M'.2.2.2 = 243 → K (x3 + 7, M')) : P_L_law_1296 L xs (some 0) (some 221) x3 M n0 K := by
  unfold P_L_law_1296
  refine ⟨inI_s (by omega) (by omega), by omega, by omega, goOn rfl ⟨by omega, by decide⟩ ⟨hM, _, st_count h, fun v hv => ?_⟩⟩
  refine ⟨inI_s (by omega) (by omega), by omega, by omega, goOn rfl ⟨by omega, by decide⟩ ⟨hM, _, hv, fun v2 hv2 => ⟨fun _ => ⟨inI_s (by omega) (by omega), fun v3 e3 => ?_⟩, fun z => absurd hv2 z⟩⟩⟩
  subst e3
  exact hK M h hM
end LAWP
theorem law_pure {L : Nat} {xs : Nat → Int32} (hL : L ≤ 3584) : P_L_law L xs M0z 0 := by
  unfold P_L_law
  refine al (n := 0) rfl (by decide +kernel) (fun A eA nA => ?_)
  refine nwS (n := 0) (m := 1) rfl nA (by decide +kernel) ?_
  refine i_X11 nA nA (fun M1 n1 r1 r2 hC hB h4 h87 hI => ?_)
  intro _
  refine al (n := 221) n1 (by decide +kernel) (fun B eB nB => ?_)
  refine nwS (n := 221) (m := 222) n1 nB (by decide +kernel) ?_
  refine i_X12 nB nB (fun M2 n2 f g0 g1 g2 g3 g4 => ?_)
  intro _
  have hR : Rel M2 := rel_start n1 r1 r2 hC hB h4 h87 hI eB f g0 g1 g2 g3 g4
  rw [n1]
  show P_L_law_18 L xs (some 0) (some 221) 0 M2 0
  unfold P_L_law_18
  refine lp_i (fun y : Int × Mm => 0 ≤ y.1 ∧ Rel y.2 ∧ y.2.2.2.2 = 243) (fun y => ((L : Int) - y.1).toNat) ⟨Int.le_refl 0, hR, n2⟩ ?_
  rintro ⟨x3, M⟩ ⟨p1, p2, p3⟩
  dsimp only at p1 p2 p3
  show F_L_law_18 L xs (some 0) (some 221) 0 _ x3 M
  unfold F_L_law_18
  refine ⟨inI_s (by omega) (by omega), fun _ => p3, fun hlt => ?_⟩
  have hx2 : x3 ≤ (L : Int) - 7 := by omega
  have hK : ∀ M' : Mm, Rel M' → M'.2.2.2 = 243 → (fun y : Int × Mm => (0 ≤ y.1 ∧ Rel y.2 ∧ y.2.2.2.2 = 243) ∧ ((L : Int) - y.1).toNat < ((L : Int) - x3).toNat) (x3 + 7, M') := fun M' a b => ⟨⟨by dsimp only; omega, a, b⟩, by dsimp only; omega⟩
  exact ⟨p1, by omega, fun _ => l_write p1 hx2 hL p2 p3 hK, fun _ => l_wipe p1 hx2 hL p2 p3 hK, fun _ => l_fault p1 hx2 hL p2 p3 hK, fun _ => l_lay p1 hx2 hL p2 p3 hK, fun _ => l_body p1 hx2 hL p2 p3 hK, fun _ => l_hang p1 hx2 hL p2 p3 hK, fun _ => l_level p1 hx2 hL p2 p3 hK, fun _ => l_push p1 hx2 hL p2 p3 hK, fun _ => l_bears p1 hx2 hL p2 p3 hK, fun _ => l_press p1 hx2 hL p2 p3 hK, fun _ => l_slack p1 hx2 hL p2 p3 hK, fun _ => l_fits p1 hx2 hL p2 p3 hK, fun _ => l_share p1 hx2 hL p2 p3 hK, fun _ => l_setting p1 hx2 hL p2 p3 hK, fun _ => l_fewest p1 hx2 hL p2 p3 hK, fun _ => l_law p1 hx2 hL p2 p3 hK, fun _ => l_hours p1 hx2 hL p2 p3 hK, fun _ => l_stops p1 hx2 hL p2 p3 hK, fun _ => l_road p1 hx2 hL p2 p3 hK, fun _ => l_through p1 hx2 hL p2 p3 hK, fun _ => l_dose p1 hx2 hL p2 p3 hK, fun _ => l_years p1 hx2 hL p2 p3 hK, fun _ => l_worn p1 hx2 hL p2 p3 hK, fun _ => l_until p1 hx2 hL p2 p3 hK, fun _ => l_trial p1 hx2 hL p2 p3 hK, fun _ => l_against p1 hx2 hL p2 p3 hK, fun _ => l_score p1 hx2 hL p2 p3 hK, fun _ => l_count p1 hx2 hL p2 p3 hK, fun _ => ⟨inI_s (by omega) (by omega), fun v ev => by subst ev; exact hK M p2 p3⟩⟩
