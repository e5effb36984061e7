/-! the whole text; the reference reads it -/
noncomputable def psF (T : Nat → Int) (len : Nat) : Nat → Nat → IFn → Int × IFn
  | 0, _, S => (-4, S)
  | n + 1, a, S => if len ≤ a then (-4, S) else match nuF T len (len + 1 - (a + 1)) (a + 1) 0 0 0 (fun _ => 0) with
    | none => ((a : Int), S)
    | some (e, c, g) => match itF (T a) c g S with
      | none => ((a : Int), S)
      | some S' => psF T len n e S'
def S0 : IFn := fun _ _ => 0
theorem S0_ok : dsOk S0 := ⟨⟨by decide, by decide⟩, ⟨by decide, by decide⟩, fun l hl => by have : (l : Int) < 0 := hl; omega, fun s hs => by have : (s : Int) < 0 := hs; omega⟩
section RRD
variable {T : Nat → Int} {len : Nat} {M : Mm}
theorem it_ok {S S' : IFn} {c : Nat} {g : Nat → Int} {x : Int} (h : dsOk S) (h8 : c ≤ 8) (hg : ∀ j, j < c → 0 ≤ g j) (e : itF x c g S = some S') : dsOk S' := by
  unfold itF at e
  split at e
  · by_cases hc : lC S c g
    · rw [oif_t hc] at e; cases e; exact lS_ok h hc h8
    · rw [oif_f hc] at e; cases e
  · split at e
    · by_cases hc : tC S c g
      · rw [oif_t hc] at e; cases e; exact tS_ok h hc (fun j hj => hg j (by rw [hc.1]; exact hj))
      · rw [oif_f hc] at e; cases e
    · split at e
      · by_cases hc : sC S c g
        · rw [oif_t hc] at e; cases e; exact sS_ok h hc
        · rw [oif_f hc] at e; cases e
      · split at e
        · by_cases hc : pC S c g
          · rw [oif_t hc] at e; cases e; exact pS_ok h hc (fun j hj => hg j (by rw [hc.1]; exact hj))
          · rw [oif_f hc] at e; cases e
        · cases e
theorem r_readAll {Q : Int → Mm → Prop} (hS : StrM M.2.2.1) (hl : M.1 221 0 = len) (hl3 : len ≤ 300) (hb : ∀ k, k < len → M.1 222 k = T k) (hq : ∀ M' : Mm, M'.2 = M.2 → (∀ o j, ¬ dLow o j → o ≠ 237 → ¬ (o = 221 ∧ j = 21) → M'.1 o j = M.1 o j) → ((psF T len (len + 1) 0 S0).1 = -4 → dsOk (psF T len (len + 1) 0 S0).2 ∧ rD M'.1 (psF T len (len + 1) 0 S0).2) → Q (psF T len (len + 1) 0 S0).1 M') : P_X12_readAll 221 M Q := by
  obtain ⟨P0, hP0⟩ : ∃ P0, P0 = psF T len (len + 1) 0 S0 := ⟨_, rfl⟩
  rw [← hP0] at hq
  unfold P_X12_readAll
  rintro _ rfl
  refine goA hS.2.1 (by decide) (by decide) ?_
  intro M26 e26
  rintro _ rfl
  refine goA (k := 227) (by rw [e26]; exact hS.2.2.2.2.2.1) (by decide) (by decide) ?_
  intro M31 e31
  intro M33 e33
  rw [show ((0 : Int)).toNat = 0 from rfl] at e26 e31
  have m2 : M33.2 = M.2 := by rw [e33]; show M31.2 = _; rw [e31]; show M26.2 = _; rw [e26]
  have mf : ∀ o j, ¬ (o = 223 ∧ j = 0) → ¬ (o = 227 ∧ j = 0) → ¬ (o = 221 ∧ j = 21) → M33.1 o j = M.1 o j := fun o j z1 z2 z3 => by rw [e33, setI_n _ _ _ _ z3, e31, setI_n _ _ _ _ z2, e26, setI_n _ _ _ _ z1]
  have a1 : M33.1 221 21 = 0 := by rw [e33, setI_s]
  have a2 : M33.1 227 0 = 0 := by rw [e33, setI_n _ _ _ _ (by omega), e31]; exact setI_s _ _ _ _
  have a3 : M33.1 223 0 = 0 := by rw [e33, setI_n _ _ _ _ (by omega), e31, setI_n _ _ _ _ (by omega), e26]; exact setI_s _ _ _ _
  unfold P_X12_readAll_19
  refine lp_i (fun M1 : Mm => ∃ (n a : Nat) (S : IFn), M1.1 221 21 = a ∧ a ≤ len ∧ len + 1 - a ≤ n ∧ psF T len n a S = P0 ∧ dsOk S ∧ rD M1.1 S ∧ M1.2 = M.2 ∧ ∀ o j, ¬ dLow o j → o ≠ 237 → ¬ (o = 221 ∧ j = 21) → M1.1 o j = M.1 o j) (fun M1 => (301 - M1.1 221 21).toNat) ⟨len + 1, 0, S0, a1, by omega, by omega, hP0.symm, S0_ok, ⟨a3, a2, fun l h => by have : (l : Int) < 0 := h; omega, fun s h => by have : (s : Int) < 0 := h; omega⟩, m2, fun o j z1 z2 z3 => mf o j (fun y => z1 (Or.inl y)) (fun y => z1 (Or.inr (Or.inr (Or.inr (Or.inr (Or.inl y)))))) z3⟩ ?_
  rintro M1 ⟨n, a, S, f1, f2, f3, f4, f5, f6, f7, f8⟩
  show F_X12_readAll_19 221 Q _ M1
  have hS1 : StrM M1.2.2.1 := by rw [f7]; exact hS
  have l1 : M1.1 221 0 = len := by rw [f8 _ _ (by unfold dLow; omega) (by omega) (by omega)]; exact hl
  have t1 : ∀ k, k < len → M1.1 222 k = T k := fun k hk => by rw [f8 _ _ (by unfold dLow; omega) (by omega) (by omega)]; exact hb k hk
  obtain ⟨n', rfl⟩ : ∃ n', n = n' + 1 := ⟨n - 1, by omega⟩
  unfold F_X12_readAll_19
  rw [l1, f1]
  refine ⟨fun hle => ?_, fun hlt => ?_⟩
  · have e : psF T len (n' + 1) a S = (-4, S) := by unfold psF; rw [if_pos (by omega)]
    rw [e] at f4
    have := hq M1 f7 f8 (fun _ => by rw [← f4]; exact ⟨f5, f6⟩)
    rw [← f4] at this
    exact this
  · have e4 : psF T len (n' + 1) a S = match nuF T len (len + 1 - (a + 1)) (a + 1) 0 0 0 (fun _ => 0) with
        | none => ((a : Int), S)
        | some (e, c, g) => match itF (T a) c g S with
          | none => ((a : Int), S)
          | some S' => psF T len n' e S' := by
      conv => lhs; unfold psF
      rw [if_neg (by omega)]
    rw [e4] at f4
    intro v1 ev1
    rintro _ rfl
    refine goA hS1.1 (by decide) ⟨by omega, by rw [show (SH 222).2 = 300 by decide]; omega⟩ ?_
    rw [show ((a : Int)).toNat = a by omega, t1 a (by omega)]
    intro v5 ev5
    refine ⟨inI_s (by omega) (by omega), ?_⟩
    intro M6 e6
    have g1 : M6.2 = M1.2 := by rw [e6]
    have g2 : ∀ o j, ¬ (o = 221 ∧ j = 21) → M6.1 o j = M1.1 o j := fun o j z => by rw [e6, setI_n _ _ _ _ z]
    have g3 : M6.1 221 21 = ((a + 1 : Nat) : Int) := by rw [e6, setI_s]; rfl
    have bad : ∀ M9 : Mm, P0 = ((a : Int), S) → M9.2 = M6.2 → (∀ o j, o ≠ 237 → ¬ (o = 221 ∧ j = 21) → M9.1 o j = M6.1 o j) → Q v1 M9 := by
      intro M9 hp k1 k2
      have := hq M9 (k1.trans (g1.trans f7)) (fun o j z1 z2 z3 => (k2 o j z2 z3).trans ((g2 o j z3).trans (f8 o j z1 z2 z3))) (fun y => by rw [hp] at y; have y : (a : Int) = -4 := y; omega)
      rw [hp] at this
      rw [ev1]; exact this
    have rd9 : ∀ M9 : Mm, (∀ o j, o ≠ 237 → ¬ (o = 221 ∧ j = 21) → M9.1 o j = M6.1 o j) → rD M9.1 S := by
      intro M9 k2
      have w : ∀ o j, o ≠ 237 → o ≠ 221 → M9.1 o j = M1.1 o j := fun o j z1 z2 => (k2 o j z1 (fun y => z2 y.1)).trans (g2 o j (fun y => z2 y.1))
      obtain ⟨d1, d2, d3, d4⟩ := f6
      refine ⟨by rw [w _ _ (by decide) (by decide)]; exact d1, by rw [w _ _ (by decide) (by decide)]; exact d2, fun l h => ?_, fun s h => ?_⟩
      · obtain ⟨b1, b2, b3⟩ := d3 l h
        exact ⟨by rw [w _ _ (by decide) (by decide)]; exact b1, fun j hj => by rw [w _ _ (by decide) (by decide)]; exact b2 j hj, fun t ht => by rw [w _ _ (by decide) (by decide)]; exact b3 t ht⟩
      · obtain ⟨b1, b2, b3⟩ := d4 s h
        exact ⟨fun k hk => by rw [w _ _ (by decide) (by decide)]; exact b1 k hk, by rw [w _ _ (by decide) (by decide)]; exact b2, fun j hj => by rw [w _ _ (by decide) (by decide)]; exact b3 j hj⟩
    refine r_numbers (T := T) (len := len) (fr := a + 1) (by rw [g1]; exact hS1.1) (by rw [g1]; exact hS1.2.2.2.2.2.2.2.2.2.2.2.2.2.2.2.1) (by rw [g2 _ _ (by omega)]; exact l1) hl3 (fun k hk => by rw [g2 _ _ (by omega)]; exact t1 k hk) g3 (by omega) (fun hno M9 k1 k2 => ?_) (fun e c g hyes M9 k1 k2 k3 k4 => ?_)
    · rw [hno] at f4
      have hp : P0 = ((a : Int), S) := f4.symm
      have b9 := bad M9 hp k1 k2
      have hS9 : StrM M9.2.2.1 := by rw [k1, g1]; exact hS1
      have z0 : ∀ K, P_X12_readAll_121 221 v1 0 M9 Q K := fun K => ⟨fun z => absurd rfl z, fun _ => b9⟩
      refine ⟨fun _ => ⟨fun _ => ⟨fun _ => ⟨fun _ => z0 _, fun _ => ?_⟩, fun _ => ?_⟩, fun _ => ?_⟩, fun _ => ?_⟩
      · exact (r_neg hS9 (rd9 M9 k2) f5 ⟨fun _ => z0 _, fun z => absurd rfl z⟩).2.2.2
      · exact (r_neg hS9 (rd9 M9 k2) f5 (z0 _)).2.2.1
      · exact (r_neg hS9 (rd9 M9 k2) f5 (z0 _)).2.1
      · exact (r_neg hS9 (rd9 M9 k2) f5 (z0 _)).1
    · rw [hyes] at f4
      dsimp only at f4
      have nok := nu_ok (T := T) (len := len) _ _ _ _ _ _ (by unfold fv; omega) (by omega) (fun j hj => by omega) e c g hyes
      have hS9 : StrM M9.2.2.1 := by rw [k1, g1]; exact hS1
      have r9 := rd9 M9 k2
      have hgp : ∀ j, j < c → 0 ≤ g j := fun j hj => (nok.2.2.2.2 j hj).1
      have z0 : itF (T a) c g S = none → ∀ K, P_X12_readAll_121 221 v1 0 M9 Q K := fun hno K => ⟨fun z => absurd rfl z, fun _ => bad M9 (by rw [hno] at f4; exact f4.symm) k1 k2⟩
      have z1 : ∀ S', itF (T a) c g S = some S' → ∀ M' : Mm, M'.2 = M9.2 → (∀ o j, ¬ dLow o j → M'.1 o j = M9.1 o j) → rD M'.1 S' → P_X12_readAll_121 221 v1 1 M' Q (fun M2 => (∃ (n a : Nat) (S : IFn), M2.1 221 21 = a ∧ a ≤ len ∧ len + 1 - a ≤ n ∧ psF T len n a S = P0 ∧ dsOk S ∧ rD M2.1 S ∧ M2.2 = M.2 ∧ ∀ o j, ¬ dLow o j → o ≠ 237 → ¬ (o = 221 ∧ j = 21) → M2.1 o j = M.1 o j) ∧ (301 - M2.1 221 21).toNat < (301 - (a : Int)).toNat) := by
        intro S' hs M' q1 q2 q3
        rw [hs] at f4
        have p21 : M'.1 221 21 = (e : Nat) := by rw [q2 _ _ (by unfold dLow; omega)]; exact k3
        refine ⟨fun _ => ⟨⟨n', e, S', p21, nok.2.1, by omega, f4, it_ok f5 nok.2.2.2.1 hgp hs, q3, q1.trans (k1.trans (g1.trans f7)), fun o j w1 w2 w3 => (q2 o j w1).trans ((k2 o j w2 w3).trans ((g2 o j w3).trans (f8 o j w1 w2 w3)))⟩, by rw [p21]; omega⟩, fun z => absurd z (by decide)⟩
      subst ev5
      refine ⟨fun n108 => ⟨fun n116 => ⟨fun n115 => ⟨fun n112 => z0 ?_ _, fun y => ?_⟩, fun y => ?_⟩, fun y => ?_⟩, fun y => ?_⟩
      · unfold itF; rw [if_neg n108, if_neg n116, if_neg n115, if_neg n112]
      · have hi : itF (T a) c g S = oif (pC S c g) (pS S g) := by unfold itF; rw [if_neg n108, if_neg n116, if_neg n115, if_pos y]
        refine r_patch hS9 r9 f5 nok.2.2.2.1 k4 hgp (fun hc => ?_) (fun hc M' q1 q2 q3 => ?_)
        · exact ⟨fun _ => z0 (by rw [hi]; exact oif_f hc) _, fun z => absurd rfl z⟩
        · exact ⟨fun z => absurd z (by decide), fun _ => z1 _ (by rw [hi]; exact oif_t hc) M' q1 q2 q3⟩
      · have hi : itF (T a) c g S = oif (sC S c g) (sS S g) := by unfold itF; rw [if_neg n108, if_neg n116, if_pos y]
        refine r_seat hS9 r9 f5 nok.2.2.2.1 k4 (fun hc => ?_) (fun hc M' q1 q2 q3 => ?_)
        · exact z0 (by rw [hi]; exact oif_f hc) _
        · exact z1 _ (by rw [hi]; exact oif_t hc) M' q1 q2 q3
      · have hi : itF (T a) c g S = oif (tC S c g) (tS S g) := by unfold itF; rw [if_neg n108, if_pos y]
        refine r_letting hS9 r9 f5 nok.2.2.2.1 k4 hgp (fun hc => ?_) (fun hc M' q1 q2 q3 => ?_)
        · exact z0 (by rw [hi]; exact oif_f hc) _
        · exact z1 _ (by rw [hi]; exact oif_t hc) M' q1 q2 q3
      · have hi : itF (T a) c g S = oif (lC S c g) (lS S c g) := by unfold itF; rw [if_pos y]
        refine r_layer hS9 r9 f5 nok.2.2.1 nok.2.2.2.1 k4 (fun hc => ?_) (fun hc M' q1 q2 q3 => ?_)
        · exact z0 (by rw [hi]; exact oif_f hc) _
        · exact z1 _ (by rw [hi]; exact oif_t hc) M' q1 q2 q3
end RRD
