/-! the class reads the text into its draft -/
theorem StrP.fr {R R' : RFn} {q : Nat} (h : StrP R q) (e : rFr R R' q) : StrP R' q := by
  obtain ⟨h1, h2, h3, h4⟩ := h
  refine ⟨by rw [e _ _ (by omega)]; exact h1, by rw [e _ _ (by omega)]; exact h2, fun l hl => ?_, fun s hs => ?_⟩
  · obtain ⟨a, b, c, d⟩ := h3 l hl
    exact ⟨by rw [e _ _ (by omega)]; exact a, by rw [e _ _ (by omega)]; exact b, by rw [e _ _ (by omega)]; exact c, by rw [e _ _ (by omega)]; exact d⟩
  · obtain ⟨a, b, c⟩ := h4 s hs
    exact ⟨by rw [e _ _ (by omega)]; exact a, by rw [e _ _ (by omega)]; exact b, fun i hi => by rw [e _ _ (by omega)]; exact c i hi⟩
theorem rFr.trans {R R' R'' : RFn} {q : Nat} (h : rFr R R' q) (h2 : rFr R' R'' q) : rFr R R'' q := fun o j z => (h2 o j z).trans (h o j z)
theorem cD.c {I I' : IFn} {R : RFn} {q : Nat} {S : IFn} (h : cD I R q S) (hok : dsOk S) (e : ∀ o j, q ≤ o → o < q + 83 → I' o j = I o j) : cD I' R q S := by
  obtain ⟨h1, h2, h3, h4⟩ := h
  have l8 := hok.1.2
  have s6 := hok.2.1.2
  refine ⟨by rw [e _ _ (by omega) (by omega)]; exact h1, by rw [e _ _ (by omega) (by omega)]; exact h2, fun l hl => ?_, fun s hs => ?_⟩
  · obtain ⟨a, b, c⟩ := h3 l hl
    exact ⟨by rw [e _ _ (by omega) (by omega)]; exact a, fun k hk => by rw [e _ _ (by omega) (by omega), e _ _ (by omega) (by omega)]; exact b k hk, fun t ht => by rw [e _ _ (by omega) (by omega)]; exact c t ht⟩
  · obtain ⟨a, b, c, d⟩ := h4 s hs
    have n6 := (hok.2.2.2 s hs).2.1.2
    exact ⟨fun k hk => by rw [e _ _ (by omega) (by omega)]; exact a k hk, by rw [e _ _ (by omega) (by omega)]; exact b, by rw [e _ _ (by omega) (by omega)]; exact c, fun i hi => by rw [e _ _ (by omega) (by omega), e _ _ (by omega) (by omega), e _ _ (by omega) (by omega)]; exact d i hi⟩
section CRD
variable {T : Nat → Int} {len q : Nat} {M : Mm}
theorem c_readInto {Q : Int → Mm → Prop} (hp : pl q) (hP : StrP M.2.2.1 q) (r0 : M.2.2.1 1 0 = some 2) (r2 : M.2.2.1 1 2 = some 3) (hl : M.1 1 1 = len) (hl3 : len ≤ 300) (hb : ∀ k, k < len → 0 ≤ T k ∧ T k ≤ 255 ∧ M.1 2 k = sb (T k)) (hq : ∀ M' : Mm, M'.2.1 = M.2.1 → M'.2.2.2 = M.2.2.2 → rFr M.2.2.1 M'.2.2.1 q → (∀ o j, ¬ (q ≤ o ∧ o < q + 83) → o ≠ 3 → ¬ (o = 1 ∧ j = 3) → M'.1 o j = M.1 o j) → ((psF T len (len + 1) 0 S0).1 = -4 → dsOk (psF T len (len + 1) 0 S0).2 ∧ cD M'.1 M'.2.2.1 q (psF T len (len + 1) 0 S0).2) → Q (psF T len (len + 1) 0 S0).1 M') : P_X9_readInto 1 (some q) M Q := by
  have hpl : q ≤ 87 ∧ 4 ≤ q := by rcases hp with rfl | rfl <;> omega
  obtain ⟨P0, hP0⟩ : ∃ P0, P0 = psF T len (len + 1) 0 S0 := ⟨_, rfl⟩
  rw [← hP0] at hq
  unfold P_X9_readInto
  refine goO rfl ⟨by omega, by rw [(sh_pl hp).1]⟩ ?_
  unfold P_X5_clear
  intro Ma ea Mb eb
  have b2 : Mb.2 = M.2 := by rw [eb]; show Ma.2 = _; rw [ea]
  have bf : ∀ o j, ¬ (o = q) → Mb.1 o j = M.1 o j := fun o j z => by rw [eb, setI_o _ _ _ _ z, ea, setI_o _ _ _ _ z]
  have b1 : Mb.1 q 1 = 0 := by rw [eb, setI_n _ _ _ _ (by omega), ea, setI_s]
  have b3 : Mb.1 q 3 = 0 := by rw [eb, setI_s]
  unfold P_X9_readInto_8
  refine lp_i (fun y : Int × Int × Mm => ∃ (n a i : Nat) (S : IFn), y.1 = a ∧ y.2.1 = i ∧ 2 * i ≤ a ∧ a ≤ len ∧ len + 1 - a ≤ n ∧ psF T len n a S = P0 ∧ dsOk S ∧ cD y.2.2.1 y.2.2.2.2.1 q S ∧ y.2.2.2.1 = M.2.1 ∧ y.2.2.2.2.2 = M.2.2.2 ∧ rFr M.2.2.1 y.2.2.2.2.1 q ∧ ∀ o j, ¬ (q ≤ o ∧ o < q + 83) → o ≠ 3 → ¬ (o = 1 ∧ j = 3) → y.2.2.1 o j = M.1 o j) (fun y => (301 - y.1).toNat) ⟨len + 1, 0, 0, S0, rfl, rfl, by omega, by omega, by omega, hP0.symm, S0_ok, ⟨b1, b3, fun l h => by have : (l : Int) < 0 := h; omega, fun s h => by have : (s : Int) < 0 := h; omega⟩, by rw [b2], by rw [b2], fun o j _ => by rw [b2], fun o j z _ _ => bf o j (by omega)⟩ ?_
  rintro ⟨x2, x3, M1⟩ ⟨n, a, i, S, f1, f2, f3, f4, f5, f6, f7, f8, f9, f10, f11, f12⟩
  dsimp only at f1 f2 f8 f9 f10 f11 f12
  subst f1 f2
  show F_X9_readInto_8 1 (some q) Q _ (a : Int) (i : Int) M1
  have R : ∀ o j, o < 4 → M1.2.2.1 o j = M.2.2.1 o j := fun o j z => f11 o j (by omega)
  have l1 : M1.1 1 1 = len := by rw [f12 _ _ (by omega) (by omega) (by omega)]; exact hl
  have t1 : ∀ k, k < len → 0 ≤ T k ∧ T k ≤ 255 ∧ M1.1 2 k = sb (T k) := fun k hk => by rw [f12 _ _ (by omega) (by omega) (by omega)]; exact hb k hk
  obtain ⟨n', rfl⟩ : ∃ n', n = n' + 1 := ⟨n - 1, by omega⟩
  unfold F_X9_readInto_8
  rw [l1]
  refine ⟨fun z => by omega, fun _ => ⟨fun hle => ?_, fun hlt => ⟨inI_s (by omega) (by omega), ?_⟩⟩⟩
  · have e : psF T len (n' + 1) a S = (-4, S) := by unfold psF; rw [if_pos (by omega)]
    rw [e] at f6
    have := hq M1 f9 f10 f11 f12 (fun _ => by rw [← f6]; exact ⟨f7, f8⟩)
    rw [← f6] at this
    exact this
  · have e4 : psF T len (n' + 1) a S = match nuF T len (len + 1 - (a + 1)) (a + 1) 0 0 0 (fun _ => 0) with
        | none => ((a : Int), S)
        | some (e, c, g) => match itF (T a) c g S with
          | none => ((a : Int), S)
          | some S' => psF T len n' e S' := by
      conv => lhs; unfold psF
      exact (if_neg (by omega)).trans rfl
    rw [e4] at f6
    have bad : ∀ M9 : Mm, P0 = ((a : Int), S) → M9.2 = M1.2 → (∀ o j, o ≠ 3 → ¬ (o = 1 ∧ j = 3) → M9.1 o j = M1.1 o j) → Q a M9 := by
      intro M9 hp0 k1 k2
      have := hq M9 (by rw [k1]; exact f9) (by rw [k1]; exact f10) (by rw [k1]; exact f11) (fun o j z1 z2 z3 => (k2 o j z2 z3).trans (f12 o j z1 z2 z3)) (fun y => by rw [hp0] at y; have y : (a : Int) = -4 := y; omega)
      rw [hp0] at this
      exact this
    rw [show (a : Int) + 1 = ((a + 1 : Nat) : Int) by omega]
    refine c_numbers (T := T) (len := len) (by rw [R _ _ (by omega)]; exact r0) (by rw [R _ _ (by omega)]; exact r2) l1 hl3 t1 (by omega) (fun hno M9 k1 k2 => ?_) (fun e c g hyes M9 k1 k2 k3 k4 => ?_)
    · rw [hno] at f6
      exact ⟨fun _ => bad M9 f6.symm k1 k2, fun z => absurd rfl z⟩
    · rw [hyes] at f6
      dsimp only at f6
      have nok := nu_ok (T := T) (len := len) _ _ _ _ _ _ (by unfold fv; omega) (by omega) (fun j hj => by omega) e c g hyes
      refine ⟨fun z => by omega, fun _ => ?_⟩
      rintro _ rfl
      refine goA (k := 2) (by rw [k1, R _ _ (by omega)]; exact r0) (by decide) ⟨by omega, by rw [show (SH 2).2 = 300 by decide]; omega⟩ ?_
      intro r7 e7
      have hr7 : r7 = some 3 := by rw [e7, k1, R _ _ (by omega)]; exact r2
      subst hr7
      refine goO rfl ⟨by omega, by rw [(sh_pl hp).1]⟩ ?_
      have ta := t1 a (by omega)
      rw [show ((a : Int)).toNat = a by omega, k2 2 a (by omega) (by omega), ta.2.2, k3]
      refine c_takeItem (S := S) (g := g) hp (by rw [k1]; exact hP.fr f11) (by rw [k1]; exact f8.c f7 (fun o j z1 z2 => k2 o j (by omega) (by omega))) f7 nok.2.2.1 nok.2.2.2.1 k4 (fun j hj => (nok.2.2.2.2 j hj).1) ⟨ta.1, ta.2.1⟩ (fun hno => ⟨fun z => absurd rfl z, fun _ => ?_⟩) (fun S' hs M' q1 q2 q3 q4 q5 => ⟨fun _ => ⟨inI_s (by omega) (by omega), ?_⟩, fun z => absurd z (by decide)⟩)
      · rw [hno] at f6
        exact bad M9 f6.symm k1 k2
      · rw [hs] at f6
        intro v13 e13
        refine ⟨⟨n', e, i + 1, S', rfl, by dsimp only; omega, by omega, nok.2.1, by omega, f6, it_ok f7 nok.2.2.2.1 (fun j hj => (nok.2.2.2.2 j hj).1) hs, q5, ?_, ?_, ?_, fun o j z1 z2 z3 => ?_⟩, by dsimp only; omega⟩
        · show M'.2.1 = _; rw [q1, k1]; exact f9
        · show M'.2.2.2 = _; rw [q2, k1]; exact f10
        · show rFr _ M'.2.2.1 q; rw [k1] at q3; exact f11.trans q3
        · show M'.1 o j = _; rw [q4 o j z1, k2 o j z2 z3]; exact f12 o j z1 z2 z3
end CRD
