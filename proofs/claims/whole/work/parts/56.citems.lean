/-! the class takes items in: the draft plan q against the table S -/
def cD (I : IFn) (R : RFn) (q : Nat) (S : IFn) : Prop := I q 1 = S 0 0 ∧ I q 3 = S 0 1 ∧ (∀ l : Nat, (l : Int) < S 0 0 → I (q + 3 + 4 * l) 2 = S 1 l ∧ (∀ k : Nat, (k : Int) < S 1 l → I (q + 4 + 4 * l) k = S 2 (8 * l + 2 * k) ∧ I (q + 5 + 4 * l) k = S 2 (8 * l + 2 * k + 1)) ∧ ∀ t : Nat, t < 4 → I (q + 6 + 4 * l) t = S 3 (4 * l + t)) ∧ ∀ s : Nat, (s : Int) < S 0 1 → (∀ k : Nat, k < 4 → I (q + 35 + 8 * s) k = S 4 (4 * s + k)) ∧ I (q + 35 + 8 * s) 4 = 0 ∧ I (q + 35 + 8 * s) 6 = S 5 s ∧ ∀ i : Nat, (i : Int) < S 5 s → R (q + 37 + 8 * s + i) 0 = some (q + 3 + 4 * (S 6 (18 * s + 3 * i)).toNat) ∧ I (q + 37 + 8 * s + i) 1 = S 6 (18 * s + 3 * i + 1) ∧ I (q + 37 + 8 * s + i) 2 = S 6 (18 * s + 3 * i + 2) ∧ I (q + 37 + 8 * s + i) 3 = 0
section CIT
variable {M : Mm} {S : IFn} {c q : Nat} {g : Nat → Int} {Q : Int → Mm → Prop}
/-- a layer begins -/
theorem c_begin {l : Nat} {Q : Mm → Prop} (hp : pl q) (hP : StrP M.2.2.1 q) (hl : l < 8) (hc : c ≤ 8) (hg : ∀ j, j < c → M.1 3 j = g j) (hq : ∀ M' : Mm, M'.2 = M.2 → (∀ o j, ¬ (q + 3 + 4 * l ≤ o ∧ o ≤ q + 6 + 4 * l) → M'.1 o j = M.1 o j) → M'.1 (q + 3 + 4 * l) 2 = ((c / 2 : Nat) : Int) → (∀ k, k < c / 2 → M'.1 (q + 4 + 4 * l) k = g (2 * k) ∧ M'.1 (q + 5 + 4 * l) k = g (2 * k + 1)) → (∀ t, t < 4 → M'.1 (q + 6 + 4 * l) t = 100) → Q M') : P_X3_begin (q + 3 + 4 * l) (some 3) ((c / 2 : Nat) : Int) M Q := by
  have hpl : q ≤ 87 ∧ 4 ≤ q := by rcases hp with rfl | rfl <;> omega
  obtain ⟨s1, s2, s3, s4⟩ := sh_L hp hl
  obtain ⟨-, r0, r1, r3⟩ := hP.2.2.1 l hl
  unfold P_X3_begin
  intro M26 e26
  unfold P_X3_begin_7
  refine lp_i (fun y : Int × Mm => ∃ k : Nat, y.1 = k ∧ k ≤ c / 2 ∧ y.2.2 = M.2 ∧ (∀ o j, ¬ (q + 3 + 4 * l ≤ o ∧ o ≤ q + 6 + 4 * l) → y.2.1 o j = M.1 o j) ∧ y.2.1 (q + 3 + 4 * l) 2 = k ∧ ∀ m, m < k → y.2.1 (q + 4 + 4 * l) m = g (2 * m) ∧ y.2.1 (q + 5 + 4 * l) m = g (2 * m + 1)) (fun y => (4 - y.1).toNat) ⟨0, rfl, by omega, by rw [e26], fun o j z => by rw [e26]; exact setI_o _ _ _ _ (by omega), by rw [e26]; exact setI_s _ _ _ _, fun m hm => by omega⟩ ?_
  rintro ⟨x3, M1⟩ ⟨k, f1, f2, f3, f4, f5, f6⟩
  dsimp only at f1 f3 f4 f5 f6
  subst f1
  show F_X3_begin_7 (q + 3 + 4 * l) (some 3) ((c / 2 : Nat) : Int) Q _ (k : Int) M1
  have fin : c / 2 ≤ k → P_X3_begin_69 (q + 3 + 4 * l) 0 M1 Q := by
    intro hk
    have : k = c / 2 := by omega
    unfold P_X3_begin_69
    refine lp_i (fun y : Int × Mm => ∃ t : Nat, y.1 = t ∧ t ≤ 4 ∧ y.2.2 = M.2 ∧ (∀ o j, o ≠ q + 6 + 4 * l → y.2.1 o j = M1.1 o j) ∧ ∀ m, m < t → y.2.1 (q + 6 + 4 * l) m = 100) (fun y => (4 - y.1).toNat) ⟨0, rfl, by omega, f3, fun _ _ _ => rfl, fun m hm => by omega⟩ ?_
    rintro ⟨y3, M2⟩ ⟨t, g1, g2, g3, g4, g5⟩
    dsimp only at g1 g3 g4 g5
    subst g1
    show F_X3_begin_69 (q + 3 + 4 * l) Q _ (t : Int) M2
    unfold F_X3_begin_69
    refine ⟨fun hle => ?_, fun hlt => ?_⟩
    · have ht : t = 4 := by omega
      subst ht
      refine hq M2 g3 (fun o j z => (g4 o j (by omega)).trans (f4 o j z)) (by rw [g4 _ _ (by omega), f5, this]) (fun m hm => ?_) g5
      rw [g4 _ _ (by omega), g4 _ _ (by omega)]; exact f6 m (by omega)
    · rintro _ rfl
      refine goA (k := q + 6 + 4 * l) (by rw [g3]; exact r3) ⟨by omega, by rw [s4]⟩ ⟨by omega, by rw [s4]; show (t : Int) < 4; omega⟩ ?_
      rw [show ((t : Int)).toNat = t by omega]
      intro M4 e4
      refine ⟨inI_s (by omega) (by omega), ?_⟩
      intro v ev
      refine ⟨⟨t + 1, by dsimp only; omega, by omega, by rw [e4]; exact g3, fun o j z => ?_, fun m hm => ?_⟩, by dsimp only; omega⟩
      · show M4.1 o j = _
        rw [e4, setI_o _ _ _ _ z]; exact g4 o j z
      · show M4.1 _ m = _
        rw [e4]
        by_cases e : m = t
        · subst e; rw [setI_s]
        · rw [setI_n _ _ _ _ (by omega)]; exact g5 m (by omega)
  unfold F_X3_begin_7
  refine ⟨fun hle => fin (by omega), fun hlt => ⟨fun h4 => by omega, fun _ => ⟨inI_s (by omega) (by omega), inI_s (by omega) (by omega), goO rfl (by decide) ⟨fun h8 => by rw [show (SH 3).2 = 8 by decide] at h8; omega, fun _ => ?_⟩⟩⟩⟩
  rintro _ rfl
  refine ⟨inI_s (by omega) (by omega), goA rfl (by decide) ⟨by omega, by rw [show (SH 3).2 = 8 by decide]; omega⟩ ?_⟩
  refine goA (k := q + 4 + 4 * l) (by rw [f3]; exact r0) ⟨by omega, by rw [s2]⟩ ⟨by omega, by rw [s2]; show (k : Int) < 4; omega⟩ ?_
  rw [show ((k : Int)).toNat = k by omega, show (2 * (k : Int)).toNat = 2 * k by omega, f4 3 (2 * k) (by omega), hg (2 * k) (by omega)]
  intro M14 e14
  rintro _ rfl
  refine ⟨inI_s (by omega) (by omega), inI_s (by omega) (by omega), goA rfl (by decide) ⟨by omega, by rw [show (SH 3).2 = 8 by decide]; omega⟩ ?_⟩
  refine goA (k := q + 5 + 4 * l) (by rw [e14]; show M1.2.2.1 _ 1 = _; rw [f3]; exact r1) ⟨by omega, by rw [s3]⟩ ⟨by omega, by rw [s3]; show (k : Int) < 4; omega⟩ ?_
  have n1 : M14.1 3 (2 * k + 1) = g (2 * k + 1) := by rw [e14, setI_o _ _ _ _ (by omega), f4 3 _ (by omega)]; exact hg _ (by omega)
  rw [show (2 * (k : Int) + 1).toNat = 2 * k + 1 by omega, n1]
  intro M21 e21
  have c2 : M21.1 (q + 3 + 4 * l) 2 = k := by rw [e21, setI_o _ _ _ _ (by omega), e14, setI_o _ _ _ _ (by omega)]; exact f5
  rw [c2]
  refine ⟨inI_s (by omega) (by omega), ?_⟩
  intro M23 e23
  refine ⟨inI_s (by omega) (by omega), ?_⟩
  intro v ev
  refine ⟨⟨k + 1, by dsimp only; omega, by omega, ?_, fun o j z => ?_, ?_, fun m hm => ?_⟩, by dsimp only; omega⟩
  · show M23.2 = _; rw [e23]; show M21.2 = _; rw [e21]; show M14.2 = _; rw [e14]; exact f3
  · show M23.1 o j = _
    rw [e23, setI_o _ _ _ _ (by omega), e21, setI_o _ _ _ _ (by omega), e14, setI_o _ _ _ _ (by omega)]; exact f4 o j z
  · show M23.1 _ 2 = _
    rw [e23, setI_s]; rfl
  · show M23.1 _ m = _ ∧ M23.1 _ m = _
    rw [e23, setI_o _ _ _ _ (by omega), setI_o _ _ _ _ (by omega), e21, setI_o _ _ _ _ (show q + 4 + 4 * l ≠ q + 5 + 4 * l by omega), e14]
    by_cases e : m = k
    · subst e; rw [setI_s, setI_s]; exact ⟨rfl, rfl⟩
    · rw [setI_n _ _ _ _ (by omega), setI_n _ _ _ _ (by omega), setI_o _ _ _ _ (by omega)]; exact f6 m (by omega)
end CIT
