/-! fault -/
theorem dREL_q {p q o j : Nat} (hp : pq p q) (h : dREL p o j) : ¬ (q ≤ o ∧ o < q + 83) ∧ ¬ dLow o j := by
  have hpq : (p = 4 ∧ q = 87) ∨ (p = 87 ∧ q = 4) := hp
  unfold dLow
  rcases h with h | h | h | h | h | h | h
  · rcases h with ⟨rfl, rfl⟩ | rfl | ⟨rfl, rfl⟩ | rfl <;> omega
  · rcases h with ⟨rfl, rfl⟩ | h | ⟨rfl, rfl⟩ | rfl <;> omega
  · rcases h with h | rfl <;> omega
  · rcases h with h | rfl <;> omega
  · rcases h with ⟨rfl, rfl⟩ | ⟨rfl, h⟩ | ⟨rfl, rfl⟩ | ⟨rfl, h⟩ <;> omega
  · rcases h with rfl | rfl <;> omega
  · rcases h with h | ⟨rfl, h⟩ | ⟨rfl, h⟩ | ⟨rfl, h⟩ | ⟨rfl, h⟩ | ⟨rfl, h⟩ | ⟨rfl, h⟩ | ⟨rfl, h⟩ | ⟨rfl, h⟩ | rfl | rfl <;> omega
theorem Str.fr {R R' : RFn} {p q : Nat} (h : Str R p q) (e : rFr R R' q) : Str R' p q := by
  have hpq : (p = 4 ∧ q = 87) ∨ (p = 87 ∧ q = 4) := h.1
  have E : ∀ o j, (o < 4 ∨ 170 ≤ o) → R' o j = R o j := fun o j z => e o j (by omega)
  have EP : ∀ o j, ¬ (q ≤ o ∧ o < q + 83) → R' o j = R o j := fun o j z => e o j (by omega)
  have hPp : StrP R' p := by
    obtain ⟨h1, h2, h3, h4⟩ := h.P
    refine ⟨by rw [EP _ _ (by omega)]; exact h1, by rw [EP _ _ (by omega)]; exact h2, fun l hl => ?_, fun s hs => ?_⟩
    · obtain ⟨a, b, c, d⟩ := h3 l hl
      exact ⟨by rw [EP _ _ (by omega)]; exact a, by rw [EP _ _ (by omega)]; exact b, by rw [EP _ _ (by omega)]; exact c, by rw [EP _ _ (by omega)]; exact d⟩
    · obtain ⟨a, b, c⟩ := h4 s hs
      exact ⟨by rw [EP _ _ (by omega)]; exact a, by rw [EP _ _ (by omega)]; exact b, fun i hi => by rw [EP _ _ (by omega)]; exact c i hi⟩
  have hPq : StrP R' q := h.Q.fr e
  obtain ⟨h1, h2, h3, h4, h5, h6, h7, h8⟩ := id h
  refine ⟨h1, by rw [E _ _ (by decide)]; exact h2, by rw [E _ _ (by decide)]; exact h3, ?_, ?_, ?_, ?_, ?_⟩
  · unfold StrC at h4 ⊢
    simpa only [E 0 _ (by decide), E 1 _ (by decide), E 209 _ (by decide), E 215 _ (by decide), E 218 _ (by decide)] using h4
  · obtain ⟨a, b, c⟩ := h5
    refine ⟨by rw [E _ _ (by decide)]; exact a, by rw [E _ _ (by decide)]; exact b, fun i hi => ?_⟩
    obtain ⟨c1, c2, c3⟩ := c i hi
    exact ⟨by rw [E _ _ (by decide)]; exact c1, by rw [E _ _ (by omega)]; exact c2, by rw [E _ _ (by omega)]; exact c3⟩
  · unfold StrM at h6 ⊢
    simpa only [E 221 _ (by decide)] using h6
  · rcases hpq with ⟨rfl, rfl⟩ | ⟨rfl, rfl⟩
    · exact hPp
    · exact hPq
  · rcases hpq with ⟨rfl, rfl⟩ | ⟨rfl, rfl⟩
    · exact hPq
    · exact hPp
theorem RelF.fr {I I' : IFn} {R R' : RFn} {p q : Nat} (h : RelF I R p q) (e : rFr R R' q) (ei : ∀ o j, dREL p o j → I' o j = I o j) : RelF I' R' p q := by
  have hpq : (p = 4 ∧ q = 87) ∨ (p = 87 ∧ q = 4) := h.1.1
  obtain ⟨h1, h2, h3, h4, h5, h6, h7, h8, h9⟩ := h.c ei
  refine ⟨h.1.fr e, h2, h3, h4, h5, h6, h7, h8, ?_⟩
  obtain ⟨a, b, c, d⟩ := h9
  refine ⟨a, b, c, fun s hs => ?_⟩
  obtain ⟨d1, d2, d3, d4, d5⟩ := d s hs
  refine ⟨d1, d2, d3, d4, fun i hi => ?_⟩
  obtain ⟨f1, f2⟩ := d5 i hi
  exact ⟨⟨by rw [e _ _ (by omega)]; exact f1.1, f1.2⟩, f2⟩
section FLT
variable {M : Mm}
/-- both have read: the same answer, and what they hold now -/
theorem both_read {p q : Nat} {Q : Int → Mm → Prop} {len : Nat} (h : RelF M.1 M.2.2.1 p q) (hl : M.1 221 0 = len) (hq : ∀ M1 : Mm, M1.2.1 = M.2.1 → M1.2.2.2 = M.2.2.2 → rFr M.2.2.1 M1.2.2.1 q → (∀ o j, ¬ (q ≤ o ∧ o < q + 83) → o ≠ 3 → ¬ (o = 1 ∧ j = 3) → M1.1 o j = M.1 o j) → ((psF (fun k => M.1 222 k) len (len + 1) 0 S0).1 = -4 → dsOk (psF (fun k => M.1 222 k) len (len + 1) 0 S0).2 ∧ cD M1.1 M1.2.2.1 q (psF (fun k => M.1 222 k) len (len + 1) 0 S0).2) → Q (psF (fun k => M.1 222 k) len (len + 1) 0 S0).1 M1) : P_X9_readInto 1 (some q) M Q := by
  obtain ⟨hS, hT, -⟩ := id h
  have hq' := hS.1.q
  refine c_readInto (T := fun k => M.1 222 k) (len := len) hq' hS.Q hS.2.2.2.1.2.2.2.2.2.2.1 hS.2.2.2.1.2.2.2.2.2.2.2.1 (by rw [hT.1]; exact hl) (by have := hT.2.2.1; omega) (fun k hk => ?_) hq
  exact hT.2.2.2 k (by rw [hl]; omega)
theorem st_fault (h : Rel M) : P_X11_fault 0 M (fun r M1 => P_X12_fault 221 M1 (fun r2 M2 => r = r2 ∧ Rel M2)) := by
  obtain ⟨p, q, hF⟩ := id h
  obtain ⟨hS, hT, -⟩ := id hF
  have hpq : (p = 4 ∧ q = 87) ∨ (p = 87 ∧ q = 4) := hS.1
  obtain ⟨len, hl⟩ := toN (x := M.1 221 0) hT.2.1
  unfold P_X11_fault
  rintro _ rfl
  intro r2 e2
  have hr2 : r2 = some q := by rw [e2]; exact hS.2.2.1
  subst hr2
  refine goO hS.2.2.2.1.1 (by decide) (both_read hF hl (fun M1 k1 k2 k3 k4 k5 => ?_))
  unfold P_X12_fault
  have hS1 := hS.fr k3
  refine r_readAll (T := fun k => M.1 222 k) (len := len) hS1.2.2.2.2.2.1 (by rw [k4 _ _ (by omega) (by omega) (by omega)]; exact hl) (by have := hT.2.2.1; omega) (fun k hk => k4 _ _ (by omega) (by omega) (by omega)) (fun M2 m1 m2 m3 => ⟨rfl, ?_⟩)
  refine ⟨p, q, ?_⟩
  rw [m1]
  refine hF.fr k3 (fun o j z => ?_)
  have a := dREL_q hS.1 z
  have b := dREL_sc hS.1.p z
  rw [m2 o j a.2 (by omega) (by omega), k4 o j a.1 (by omega) (by omega)]
end FLT
