/-! lay: both -/
theorem StrP.same {R R' : RFn} {p : Nat} (h : StrP R p) (hp : 0 < p) (e : ∀ o j, o ≠ 0 → R' o j = R o j) : StrP R' p := by
  obtain ⟨h1, h2, h3, h4⟩ := h
  refine ⟨by rw [e _ _ (by omega)]; exact h1, by rw [e _ _ (by omega)]; exact h2, fun l hl => ?_, fun s hs => ?_⟩
  · obtain ⟨a, b, c, d⟩ := h3 l hl
    exact ⟨by rw [e _ _ (by omega)]; exact a, by rw [e _ _ (by omega)]; exact b, by rw [e _ _ (by omega)]; exact c, by rw [e _ _ (by omega)]; exact d⟩
  · obtain ⟨a, b, c⟩ := h4 s hs
    exact ⟨by rw [e _ _ (by omega)]; exact a, by rw [e _ _ (by omega)]; exact b, fun i hi => by rw [e _ _ (by omega)]; exact c i hi⟩
theorem Str.swap {R R' : RFn} {p q : Nat} (h : Str R p q) (e1 : R' 0 1 = some q) (e2 : R' 0 2 = some p) (e : ∀ o j, ¬ (o = 0 ∧ (j = 1 ∨ j = 2)) → R' o j = R o j) : Str R' q p := by
  obtain ⟨h1, h2, h3, h4, h5, h6, h7, h8⟩ := h
  have E : ∀ o j, o ≠ 0 → R' o j = R o j := fun o j z => e o j (fun y => z y.1)
  refine ⟨?_, e1, e2, ?_, ?_, ?_, h7.same (by decide) E, h8.same (by decide) E⟩
  · rcases h1 with h | h
    · exact Or.inr ⟨h.2, h.1⟩
    · exact Or.inl ⟨h.2, h.1⟩
  · unfold StrC at h4 ⊢
    simpa only [e 0 0 (by decide), e 0 3 (by decide), e 0 4 (by decide), e 0 5 (by decide), e 0 6 (by decide), e 0 7 (by decide), E 1 _ (by decide), E 209 _ (by decide), E 215 _ (by decide), E 218 _ (by decide)] using h4
  · obtain ⟨a, b, c⟩ := h5
    refine ⟨by rw [E _ _ (by decide)]; exact a, by rw [E _ _ (by decide)]; exact b, fun i hi => ?_⟩
    obtain ⟨c1, c2, c3⟩ := c i hi
    exact ⟨by rw [E _ _ (by decide)]; exact c1, by rw [E _ _ (by omega)]; exact c2, by rw [E _ _ (by omega)]; exact c3⟩
  · unfold StrM at h6 ⊢
    simpa only [E 221 _ (by decide)] using h6
section CLY
variable {M : Mm} {q : Nat}
theorem c_allSeats {K : Int → Prop} {n : Nat} (hp : pl q) (hP : StrP M.2.2.1 q) (hn : M.1 q 3 = n) (hn6 : n ≤ 6) (h0 : ∀ s, s < n → M.1 (q + 35 + 8 * s) 6 = 0 → K 0) (h1 : (∀ s, s < n → M.1 (q + 35 + 8 * s) 6 ≠ 0) → K 1) : P_X5_allSeatsHavePatches q M K := by
  have hpl : q ≤ 87 ∧ 4 ≤ q := by rcases hp with rfl | rfl <;> omega
  unfold P_X5_allSeatsHavePatches P_X5_allSeatsHavePatches_2
  refine lp_i (fun y : Int => ∃ k : Nat, y = k ∧ k ≤ n ∧ ∀ s, s < k → M.1 (q + 35 + 8 * s) 6 ≠ 0) (fun y => (7 - y).toNat) ⟨0, rfl, by omega, fun s hs => by omega⟩ ?_
  rintro x1 ⟨k, f1, f2, f3⟩
  subst f1
  show F_X5_allSeatsHavePatches_2 q M K _ (k : Int)
  unfold F_X5_allSeatsHavePatches_2
  rw [hn]
  refine ⟨fun hle => h1 (fun s hs => f3 s (by omega)), fun hlt => ?_⟩
  rintro _ rfl
  refine goA (k := q + 2) hP.2.1 ⟨by omega, by rw [(sh_pl hp).2.2]⟩ ⟨by omega, by rw [(sh_pl hp).2.2]; show (k : Int) < 6; omega⟩ ?_
  rw [show ((k : Int)).toNat = k by omega]
  rintro _ rfl
  refine goO (k := q + 35 + 8 * k) (hP.2.2.2 k (by omega)).1 ⟨by omega, by rw [(sh_S hp (by omega)).1]⟩ ?_
  refine ⟨fun hne => ⟨inI_s (by omega) (by omega), ?_⟩, fun h0' => h0 k (by omega) h0'⟩
  intro v ev
  refine ⟨⟨k + 1, by omega, by omega, fun s hs => ?_⟩, by omega⟩
  by_cases e : s = k
  · subst e; exact hne
  · exact f3 s (by omega)
theorem LAY.new {I1 I2 I3 : IFn} {R : RFn} {S : IFn} (ok : dsOk S) (cd : cD I1 R q S) (rd : rD I2 S) (cp : cpy I2 I3) (e : ∀ o j, q ≤ o → o < q + 83 → I3 o j = I1 o j) : LAY I3 q := by
  obtain ⟨k1, k2, k3, k4⟩ := ok
  obtain ⟨c1, c2, c3, c4⟩ := cd
  obtain ⟨r1, r2, r3, r4⟩ := rd
  obtain ⟨-, p1, p2, p3, p4, p5, p6, p7, p8, p9⟩ := cp
  have n1 : I3 223 1 = S 0 0 := p1.trans r1
  refine ⟨by rw [n1, e _ _ (by omega) (by omega)]; exact c1, by rw [n1]; exact k1.1, by rw [n1]; exact k1.2, fun l hl => ?_⟩
  rw [n1] at hl
  have l8 : l < 8 := by omega
  obtain ⟨a1, a2, a3⟩ := k3 l hl
  obtain ⟨b1, b2, b3⟩ := c3 l hl
  obtain ⟨d1, d2, d3⟩ := r3 l hl
  have m1 : I3 224 (8 + l) = S 1 l := (p3 l l8).trans d1
  refine ⟨by rw [m1, e _ _ (by omega) (by omega)]; exact ⟨b1, a1⟩, fun k hk => ?_, fun t ht => ?_⟩
  · rw [m1] at hk
    have x0 : I3 225 (64 + 8 * l + 2 * k) = S 2 (8 * l + 2 * k) := by
      rw [show 64 + 8 * l + 2 * k = 64 + (8 * l + 2 * k) by omega, p4 _ (by omega)]; exact d2 (2 * k) (by omega)
    have x1 : I3 225 (64 + 8 * l + 2 * k + 1) = S 2 (8 * l + 2 * k + 1) := by
      rw [show 64 + 8 * l + 2 * k + 1 = 64 + (8 * l + (2 * k + 1)) by omega, p4 _ (by omega)]; exact (d2 (2 * k + 1) (by omega)).trans (congrArg (S 2) (by omega))
    rw [x0, x1, e _ _ (by omega) (by omega), e _ _ (by omega) (by omega)]
    obtain ⟨y1, y2⟩ := a2 k hk
    obtain ⟨z1, z2⟩ := b2 k hk
    exact ⟨⟨z1, y1⟩, z2, y2⟩
  · have x0 : I3 226 (32 + 4 * l + t) = S 3 (4 * l + t) := by
      rw [show 32 + 4 * l + t = 32 + (4 * l + t) by omega, p5 _ (by omega)]; exact d3 t ht
    rw [x0, e _ _ (by omega) (by omega)]
    exact ⟨b3 t ht, a3 t ht⟩
theorem SEA.new {I1 I2 I3 : IFn} {R R' : RFn} {S : IFn} (ok : dsOk S) (hall : ∀ s : Nat, (s : Int) < S 0 1 → S 5 s ≠ 0) (cd : cD I1 R q S) (rd : rD I2 S) (cp : cpy I2 I3) (e : ∀ o j, q ≤ o → o < q + 83 → I3 o j = I1 o j) (er : ∀ o, q ≤ o → o < q + 83 → R' o 0 = R o 0) : SEA I3 R' q := by
  obtain ⟨k1, k2, k3, k4⟩ := ok
  obtain ⟨c1, c2, c3, c4⟩ := cd
  obtain ⟨r1, r2, r3, r4⟩ := rd
  obtain ⟨-, p1, p2, p3, p4, p5, p6, p7, p8, p9⟩ := cp
  have n1 : I3 227 1 = S 0 1 := p2.trans r2
  have n2 : I3 223 1 = S 0 0 := p1.trans r1
  refine ⟨by rw [n1, e _ _ (by omega) (by omega)]; exact c2, by rw [n1]; exact k2.1, by rw [n1]; exact k2.2, fun s hs => ?_⟩
  rw [n1] at hs
  have s6 : s < 6 := by omega
  obtain ⟨a1, a2, a3⟩ := k4 s hs
  obtain ⟨b1, b2, b3, b4⟩ := c4 s hs
  obtain ⟨d1, d2, d3⟩ := r4 s hs
  have w : ∀ k, k < 4 → I3 228 (24 + 4 * s + k) = S 4 (4 * s + k) := fun k hk => by
    rw [show 24 + 4 * s + k = 24 + (4 * s + k) by omega, p6 _ (by omega)]; exact d1 k hk
  have m1 : I3 229 (6 + s) = S 5 s := (p7 s s6).1.trans d2
  have hs0 := hall s hs
  refine ⟨fun k hk => by rw [w k hk, e _ _ (by omega) (by omega)]; exact b1 k hk, SEAr.c a1 w, ?_, ?_, fun i hi => ?_⟩
  · rw [(p7 s s6).2, e _ _ (by omega) (by omega), b2]; exact ⟨rfl, by decide, by decide⟩
  · rw [m1, e _ _ (by omega) (by omega)]; exact ⟨b3, by omega, a2.2⟩
  · rw [m1] at hi
    have hi6 : i < 6 := by omega
    obtain ⟨y1, y2, y3⟩ := a3 i hi
    obtain ⟨z1, z2, z3, z4⟩ := b4 i hi
    have x0 : I3 230 (108 + 18 * s + 3 * i) = S 6 (18 * s + 3 * i) := by
      rw [show 108 + 18 * s + 3 * i = 108 + (18 * s + 3 * i) by omega, p8 _ (by omega)]; exact d3 (3 * i) (by omega)
    have x1 : I3 230 (108 + 18 * s + 3 * i + 1) = S 6 (18 * s + 3 * i + 1) := by
      rw [show 108 + 18 * s + 3 * i + 1 = 108 + (18 * s + (3 * i + 1)) by omega, p8 _ (by omega)]; exact (d3 (3 * i + 1) (by omega)).trans (congrArg (S 6) (by omega))
    have x2 : I3 230 (108 + 18 * s + 3 * i + 2) = S 6 (18 * s + 3 * i + 2) := by
      rw [show 108 + 18 * s + 3 * i + 2 = 108 + (18 * s + (3 * i + 2)) by omega, p8 _ (by omega)]; exact (d3 (3 * i + 2) (by omega)).trans (congrArg (S 6) (by omega))
    rw [n2, x0, x1, x2, p9 (6 * s + i) (by omega), e (q + 37 + 8 * s + i) 1 (by omega) (by omega), e (q + 37 + 8 * s + i) 2 (by omega) (by omega), e (q + 37 + 8 * s + i) 3 (by omega) (by omega), er (q + 37 + 8 * s + i) (by omega) (by omega)]
    exact ⟨⟨z1, y1⟩, ⟨z2, y2⟩, ⟨z3, y3⟩, z4, by decide, by decide⟩
theorem st_lay (h : Rel M) : P_X11_lay 0 M (fun r M1 => P_X12_lay 221 M1 (fun r2 M2 => r = r2 ∧ Rel M2)) := by
  obtain ⟨p, q, hF⟩ := id h
  obtain ⟨hS, hT, hC, hH, hA, hMs, hR, -, -⟩ := id hF
  have hpq : (p = 4 ∧ q = 87) ∨ (p = 87 ∧ q = 4) := hS.1
  obtain ⟨len, hl⟩ := toN (x := M.1 221 0) hT.2.1
  obtain ⟨P0, hP0⟩ : ∃ P0, P0 = psF (fun k => M.1 222 k) len (len + 1) 0 S0 := ⟨_, rfl⟩
  unfold P_X11_lay
  rintro _ rfl
  intro r2 e2
  have hr2 : r2 = some q := by rw [e2]; exact hS.2.2.1
  subst hr2
  refine goO hS.2.2.2.1.1 (by decide) (both_read hF hl (fun M1 k1 k2 k3 k4 k5 => ?_))
  rw [← hP0] at k5 ⊢
  have hS1 := hS.fr k3
  have rread : ∀ (M9 : Mm) (Q9 : Int → Mm → Prop), M9.1 = M1.1 → StrM M9.2.2.1 → (∀ M2 : Mm, M2.2 = M9.2 → (∀ o j, ¬ dLow o j → o ≠ 237 → ¬ (o = 221 ∧ j = 21) → M2.1 o j = M1.1 o j) → (P0.1 = -4 → dsOk P0.2 ∧ rD M2.1 P0.2) → Q9 P0.1 M2) → P_X12_readAll 221 M9 Q9 := by
    intro M9 Q9 i9 s9 hq9
    refine r_readAll (T := fun k => M.1 222 k) (len := len) s9 (by rw [i9, k4 _ _ (by omega) (by omega) (by omega)]; exact hl) (by have := hT.2.2.1; omega) (fun k hk => by rw [i9]; exact k4 _ _ (by omega) (by omega) (by omega)) ?_
    rw [← hP0, i9]
    exact hq9
  have same : ∀ M2 : Mm, M2.2 = M1.2 → (∀ o j, ¬ dLow o j → o ≠ 237 → ¬ (o = 221 ∧ j = 21) → M2.1 o j = M1.1 o j) → Rel M2 := by
    intro M2 m1 m2
    refine ⟨p, q, ?_⟩
    rw [m1]
    refine hF.fr k3 (fun o j z => ?_)
    have a := dREL_q hS.1 z
    have b := dREL_sc hS.1.p z
    rw [m2 o j a.2 (by omega) (by omega), k4 o j a.1 (by omega) (by omega)]
  refine ⟨fun hne => ?_, fun he => ?_⟩
  · unfold P_X12_lay
    exact rread M1 _ rfl hS1.2.2.2.2.2.1 (fun M2 m1 m2 m3 => ⟨fun z => absurd z hne, fun _ => ⟨rfl, same M2 m1 m2⟩⟩)
  · obtain ⟨ok, cd⟩ := k5 he
    obtain ⟨S, hS'⟩ : ∃ S, S = P0.2 := ⟨_, rfl⟩
    rw [← hS'] at ok cd
    obtain ⟨n, hn⟩ := toN ok.2.1.1
    have n6 : n ≤ 6 := by have := ok.2.1.2; omega
    intro r8 e8
    have hr8 : r8 = some q := by rw [e8]; exact hS1.2.2.1
    subst hr8
    refine goO rfl ⟨by omega, by rw [(sh_pl hS.1.q).1]⟩ ?_
    refine c_allSeats (n := n) hS.1.q hS1.Q (by rw [cd.2.1]; exact hn) n6 (fun s hs h0 => ⟨fun z => absurd rfl z, fun _ => ?_⟩) (fun hall => ⟨fun _ => ?_, fun z => absurd z (by decide)⟩)
    · unfold P_X12_lay
      refine rread M1 _ rfl hS1.2.2.2.2.2.1 (fun M2 m1 m2 m3 => ⟨fun _ => ?_, fun z => absurd he z⟩)
      obtain ⟨-, rd⟩ := m3 he
      rw [← hS'] at rd
      have hs' : (s : Int) < S 0 1 := by omega
      have hz : S 5 s = 0 := by rw [← (cd.2.2.2 s hs').2.2.1]; exact h0
      refine r_lay14 (n := n) (by rw [m1]; exact hS1.2.2.2.2.2.1) (by rw [rd.2.1]; exact hn) n6 (fun _ _ _ => ⟨rfl, same M2 m1 m2⟩) (fun hal => absurd ?_ (hal s hs))
      rw [(rd.2.2.2 s hs').2.1]; exact hz
    · intro r12 e12
      have hr12 : r12 = some p := by rw [e12]; exact hS1.2.1
      subst hr12
      intro r13 e13
      have hr13 : r13 = some q := by rw [e13]; exact hS1.2.2.1
      subst hr13
      intro M14 e14 M16 e16 r18 e18
      have R16 : ∀ o j, ¬ (o = 0 ∧ (j = 1 ∨ j = 2)) → M16.2.2.1 o j = M1.2.2.1 o j := fun o j z => by rw [e16, setR_n _ _ _ _ (by omega), e14, setR_n _ _ _ _ (by omega)]
      have R1 : M16.2.2.1 0 1 = some q := by rw [e16, setR_n _ _ _ _ (by omega), e14, setR_s]
      have R2 : M16.2.2.1 0 2 = some p := by rw [e16, setR_s]
      have I16 : M16.1 = M1.1 := by rw [e16]; show M14.1 = _; rw [e14]
      have hr18 : r18 = some q := by rw [e18]; exact R1
      subst hr18
      refine goO rfl ⟨by omega, by rw [(sh_pl hS.1.q).1]⟩ ?_
      have St := hS1.swap R1 R2 R16
      unfold P_X12_lay
      refine rread M16 _ I16 St.2.2.2.2.2.1 (fun M2 m1 m2 m3 => ⟨fun _ => ?_, fun z => absurd he z⟩)
      obtain ⟨-, rd⟩ := m3 he
      rw [← hS'] at rd
      have all5 : ∀ s : Nat, (s : Int) < S 0 1 → S 5 s ≠ 0 := fun s hs => by rw [← (cd.2.2.2 s hs).2.2.1]; exact hall s (by omega)
      refine r_lay14 (n := n) (by rw [m1]; exact St.2.2.2.2.2.1) (by rw [rd.2.1]; exact hn) n6 (fun s hs z => absurd ?_ (all5 s (by omega))) (fun _ M3 q1 q2 => ⟨by rw [I16, cd.2.1]; exact hn, q, p, ?_⟩)
      · rw [← (rd.2.2.2 s (by omega)).2.1]; exact z
      · rw [q1, m1]
        have fr : ∀ o j, ¬ (223 ≤ o ∧ o ≤ 232) → o ≠ 237 → ¬ (o = 221 ∧ j = 21) → ¬ (q ≤ o ∧ o < q + 83) → o ≠ 3 → ¬ (o = 1 ∧ j = 3) → M3.1 o j = M.1 o j := fun o j z1 z2 z3 z4 z5 z6 => by rw [q2.1 o j z1, m2 o j (by unfold dLow; omega) z2 z3, k4 o j z4 z5 z6]
        have ie : ∀ o j, q ≤ o → o < q + 83 → M3.1 o j = M1.1 o j := fun o j z1 z2 => by rw [q2.1 o j (by omega), m2 o j (by unfold dLow; omega) (by omega) (by omega)]
        refine ⟨St, hT.c (fun o j z => ?_), hC.c (fun o j z => ?_), hH.c (fun o j z => ?_), hA.c (fun o j z => ?_), hMs.c (fun o j z => ?_), hR.c (fun o j z => ?_), LAY.new ok cd rd q2 ie, SEA.new ok all5 cd rd q2 ie (fun o z1 z2 => R16 o 0 (by omega))⟩
        · rcases z with ⟨rfl, rfl⟩ | rfl | ⟨rfl, rfl⟩ | rfl <;> exact fr _ _ (by omega) (by omega) (by omega) (by omega) (by omega) (by omega)
        · rcases z with ⟨rfl, rfl⟩ | z | ⟨rfl, rfl⟩ | rfl <;> exact fr _ _ (by omega) (by omega) (by omega) (by omega) (by omega) (by omega)
        · rcases z with z | rfl <;> exact fr _ _ (by omega) (by omega) (by omega) (by omega) (by omega) (by omega)
        · rcases z with z | rfl <;> exact fr _ _ (by omega) (by omega) (by omega) (by omega) (by omega) (by omega)
        · rcases z with ⟨rfl, rfl⟩ | ⟨rfl, z⟩ | ⟨rfl, rfl⟩ | ⟨rfl, z⟩ <;> exact fr _ _ (by omega) (by omega) (by omega) (by omega) (by omega) (by omega)
        · rcases z with rfl | rfl <;> exact fr _ _ (by omega) (by omega) (by omega) (by omega) (by omega) (by omega)
end CLY
