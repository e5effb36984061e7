/-! THE GREATEST COMMON DIVISOR, the class's way and the reference's -/
theorem gcd_step {a b : Nat} : Nat.gcd b (a % b) = Nat.gcd a b := by
  rw [Nat.gcd_comm a b, Nat.gcd_rec b a, Nat.gcd_comm]
theorem tmod_nat (a b : Nat) : Int.tmod (a : Int) (b : Int) = ((a % b : Nat) : Int) := by
  rw [Int.tmod_eq_emod_of_nonneg (by omega)]
  omega
section GCD
variable {M : Mm} {x0 x1 : Int} {Q : Int → Prop}
theorem r_common28 {a b : Nat} (hq : Q (Nat.gcd a b : Nat)) : P_X12_common_28 (a : Int) (b : Int) M Q := by
  unfold P_X12_common_28
  refine lp_i (fun y : Int × Int => ∃ c d : Nat, y.1 = c ∧ y.2 = d ∧ Nat.gcd c d = Nat.gcd a b) (fun y => y.2.toNat) ⟨a, b, rfl, rfl, rfl⟩ ?_
  rintro ⟨y1, y2⟩ ⟨c, d, e1, e2, e3⟩
  dsimp only at e1 e2
  subst e1 e2
  show F_X12_common_28 M Q _ (c : Int) (d : Int)
  unfold F_X12_common_28
  refine ⟨fun h => ?_, fun h => ?_⟩
  · have : d = 0 := by omega
    subst this
    rw [Nat.gcd_zero_right] at e3
    rw [e3]
    exact hq
  · have hd : 0 < d := by omega
    refine ⟨by omega, ?_⟩
    rintro _ rfl
    rw [tmod_nat]
    refine ⟨⟨d, c % d, rfl, rfl, gcd_step.trans e3⟩, ?_⟩
    have := Nat.mod_lt c hd
    dsimp only
    omega
theorem r_common (h0 : inL (-x0)) (h1 : inL (-x1)) (hq : Q (Nat.gcd x0.natAbs x1.natAbs : Nat)) : P_X12_common x0 x1 M Q := by
  have key : ∀ s : Int, s = (x0.natAbs : Int) → P_X12_common_12 x1 s M Q := by
    rintro _ rfl
    unfold P_X12_common_12
    refine ⟨fun h => ?_, fun h => ⟨h1, ?_⟩⟩
    · have e : x1 = (x1.natAbs : Int) := by omega
      rw [show P_X12_common_28 (x0.natAbs : Int) x1 M Q = P_X12_common_28 (x0.natAbs : Int) (x1.natAbs : Int) M Q by rw [← e]]
      exact r_common28 hq
    · rintro _ rfl
      rw [show -x1 = (x1.natAbs : Int) by omega]
      exact r_common28 hq
  unfold P_X12_common
  exact ⟨fun h => key _ (by omega), fun h => ⟨h0, key _ (by omega)⟩⟩
theorem c_cd13 {a b : Nat} (ha : a < 2 ^ 31) (hb : b < 2 ^ 31) (hq : Q (max 1 ((Nat.gcd a b : Nat) : Int))) : P_X11_commonDivisor_13 (a : Int) (b : Int) 0 M Q := by
  unfold P_X11_commonDivisor_13
  refine lp_i (fun y : Int × Int × Int => ∃ c d n : Nat, y.1 = c ∧ y.2.1 = d ∧ y.2.2 = n ∧ Nat.gcd c d = Nat.gcd a b ∧ n ≤ 100 ∧ ((n = 0 ∧ c = a ∧ d = b) ∨ (d < c ∧ c * d * 2 ^ n ≤ 2 ^ 63))) (fun y => (100 - y.2.2).toNat) ⟨a, b, 0, rfl, rfl, rfl, rfl, by omega, Or.inl ⟨rfl, rfl, rfl⟩⟩ ?_
  rintro ⟨y1, y2, y3⟩ ⟨c, d, n, e1, e2, e3, e4, e5, e6⟩
  dsimp only at e1 e2 e3
  subst e1 e2 e3
  show F_X11_commonDivisor_13 M Q _ (c : Int) (d : Int) (n : Int)
  have done : d = 0 → Q (max 1 (c : Int)) := by
    rintro rfl
    rw [Nat.gcd_zero_right] at e4
    rw [e4]
    exact hq
  unfold F_X11_commonDivisor_13 P_X11_commonDivisor_40
  refine ⟨fun h => done ?_, fun h => ⟨fun h2 => done (by omega), fun h2 => ?_⟩⟩
  · have hn : n = 100 := by omega
    subst hn
    rcases e6 with e6 | ⟨e6, e7⟩
    · omega
    · rcases Nat.eq_zero_or_pos d with hd | hd
      · exact hd
      · exfalso
        have h1 : 1 ≤ c * d := Nat.mul_pos (by omega) hd
        have h2 : 1 * 2 ^ 100 ≤ c * d * 2 ^ 100 := Nat.mul_le_mul_right _ h1
        have h3 : (2 : Nat) ^ 63 < 1 * 2 ^ 100 := by decide
        omega
  · have hd : 0 < d := by omega
    refine ⟨by omega, ?_⟩
    rintro _ rfl
    refine ⟨inI_s (by omega) (by omega), ?_⟩
    rintro _ rfl
    rw [tmod_nat]
    have hm := Nat.mod_lt c hd
    refine ⟨⟨d, c % d, n + 1, rfl, rfl, by simp, gcd_step.trans e4, by omega, Or.inr ⟨hm, ?_⟩⟩, by dsimp only; omega⟩
    rcases e6 with ⟨rfl, rfl, rfl⟩ | ⟨e6, e7⟩
    · have h1 : d * (c % d) ≤ 2 ^ 31 * 2 ^ 31 := Nat.mul_le_mul (by omega) (by omega)
      have h2 : d * (c % d) * 2 ^ (0 + 1) ≤ 2 ^ 31 * 2 ^ 31 * 2 ^ (0 + 1) := Nat.mul_le_mul_right _ h1
      exact h2
    · have h1 : 2 * (c % d) ≤ c := by
        have h3 := Nat.div_add_mod c d
        have h4 : 1 ≤ c / d := Nat.div_pos (by omega) hd
        have h5 : d * 1 ≤ d * (c / d) := Nat.mul_le_mul_left _ h4
        omega
      have h2 : d * (c % d) * 2 ^ (n + 1) = d * (2 * (c % d)) * 2 ^ n := by
        rw [Nat.pow_succ]
        simp only [Nat.mul_assoc, Nat.mul_comm, Nat.mul_left_comm]
      rw [h2]
      refine Nat.le_trans (Nat.mul_le_mul_right _ (Nat.mul_le_mul_left _ h1)) ?_
      rw [Nat.mul_comm d c]
      exact e7
theorem c_cd (h0 : -1000000000 ≤ x0 ∧ x0 ≤ 1000000000) (h1 : -1000000000 ≤ x1 ∧ x1 ≤ 1000000000) (hq : Q (max 1 ((Nat.gcd x0.natAbs x1.natAbs : Nat) : Int))) : P_X11_commonDivisor x0 x1 M Q := by
  unfold P_X11_commonDivisor
  refine ⟨inI_s (by omega) (by omega), ?_⟩
  rintro _ rfl
  refine ⟨inI_s (by omega) (by omega), ?_⟩
  rintro _ rfl
  exact c_cd13 (by omega) (by omega) hq
end GCD
