/-! PUSHES: piece by piece -/
def pu (len hard : Nat → Int) (u : Int) : Nat → Nat → Int → Int
  | _, 0, left => 1000 * left
  | i, m + 1, left => min left (len i * u) * hard i + pu len hard u (i + 1) m (left - min left (len i * u))
def okL (len hard : Nat → Int) (n : Nat) : Prop := ∀ k, k < n → 1 ≤ len k ∧ len k ≤ 100 ∧ 1 ≤ hard k ∧ hard k ≤ 200
section PU
variable {len hard : Nat → Int} {n : Nat}
theorem pu_0 (u : Int) (h : okL len hard n) (hu : 0 ≤ u) : ∀ m i, i + m = n → pu len hard u i m 0 = 0 := by
  intro m
  induction m with
  | zero => intro i _; rfl
  | succ m ih =>
    intro i hi
    have hk := h i (by omega)
    have h0 : 0 ≤ len i * u := Int.mul_nonneg (by omega) hu
    have e : min 0 (len i * u) = 0 := by omega
    show min 0 (len i * u) * hard i + pu len hard u (i + 1) m (0 - min 0 (len i * u)) = 0
    rw [e, Int.zero_mul, Int.sub_zero, ih (i + 1) (by omega)]
    rfl
theorem pu_b (u : Int) (h : okL len hard n) (hu : 0 ≤ u) : ∀ m i left, i + m = n → 0 ≤ left → left ≤ pu len hard u i m left ∧ pu len hard u i m left ≤ 1000 * left := by
  intro m
  induction m with
  | zero =>
    intro i left _ hl
    show left ≤ 1000 * left ∧ 1000 * left ≤ 1000 * left
    omega
  | succ m ih =>
    intro i left hi hl
    have hk := h i (by omega)
    have h0 : 0 ≤ len i * u := Int.mul_nonneg (by omega) hu
    obtain ⟨p, hp⟩ : ∃ p, p = min left (len i * u) := ⟨_, rfl⟩
    show left ≤ min left (len i * u) * hard i + pu len hard u (i + 1) m (left - min left (len i * u)) ∧ min left (len i * u) * hard i + pu len hard u (i + 1) m (left - min left (len i * u)) ≤ 1000 * left
    rw [← hp]
    have hp0 : 0 ≤ p := by omega
    have hpl : p ≤ left := by omega
    have := ih (i + 1) (left - p) (by omega) (by omega)
    have h1 : p * 1 ≤ p * hard i := Int.mul_le_mul_of_nonneg_left hk.2.2.1 hp0
    have h2 : p * hard i ≤ p * 200 := Int.mul_le_mul_of_nonneg_left hk.2.2.2 hp0
    omega
theorem pu_lo (h : okL len hard n) : ∀ (m i : Nat) (left : Int), i + m = n → 0 ≤ left → 1000 * (left - 100 * m) ≤ pu len hard 1 i m left := by
  intro m
  induction m with
  | zero =>
    intro i left _ hl
    show 1000 * (left - 100 * ((0 : Nat) : Int)) ≤ 1000 * left
    omega
  | succ m ih =>
    intro i left hi hl
    have hk := h i (by omega)
    obtain ⟨p, hp⟩ : ∃ p, p = min left (len i * 1) := ⟨_, rfl⟩
    show 1000 * (left - 100 * ((m + 1 : Nat) : Int)) ≤ min left (len i * 1) * hard i + pu len hard 1 (i + 1) m (left - min left (len i * 1))
    rw [← hp]
    have := ih (i + 1) (left - p) (by omega) (by omega)
    have h1 : 0 ≤ p * hard i := Int.mul_nonneg (by omega) (by omega)
    omega
theorem pu_d (h : okL len hard n) : ∀ (m i : Nat) (a : Int), i + m = n → 0 ≤ a → 1 ≤ pu len hard 1 i m (a + 1) - pu len hard 1 i m a ∧ pu len hard 1 i m (a + 1) - pu len hard 1 i m a ≤ 1000 := by
  intro m
  induction m with
  | zero =>
    intro i a _ ha
    show 1 ≤ 1000 * (a + 1) - 1000 * a ∧ 1000 * (a + 1) - 1000 * a ≤ 1000
    omega
  | succ m ih =>
    intro i a hi ha
    have hk := h i (by omega)
    show 1 ≤ (min (a + 1) (len i * 1) * hard i + pu len hard 1 (i + 1) m (a + 1 - min (a + 1) (len i * 1))) - (min a (len i * 1) * hard i + pu len hard 1 (i + 1) m (a - min a (len i * 1))) ∧ (min (a + 1) (len i * 1) * hard i + pu len hard 1 (i + 1) m (a + 1 - min (a + 1) (len i * 1))) - (min a (len i * 1) * hard i + pu len hard 1 (i + 1) m (a - min a (len i * 1))) ≤ 1000
    by_cases hc : a + 1 ≤ len i
    · rw [show min (a + 1) (len i * 1) = a + 1 by omega, show min a (len i * 1) = a by omega, Int.sub_self, Int.sub_self, pu_0 1 h (by decide) m (i + 1) (by omega), Int.add_mul]
      omega
    · rw [show min (a + 1) (len i * 1) = len i by omega, show min a (len i * 1) = len i by omega]
      have := ih (i + 1) (a - len i) (by omega) (by omega)
      rw [show a + 1 - len i = a - len i + 1 by omega]
      omega
theorem pu_lin (h : okL len hard n) {u t : Int} (ht : 0 ≤ t) (htu : t ≤ u) : ∀ (m i : Nat) (a : Int), i + m = n → 1 ≤ a → pu len hard u i m (u * a - t) = u * pu len hard 1 i m a - t * (pu len hard 1 i m a - pu len hard 1 i m (a - 1)) := by
  intro m
  induction m with
  | zero =>
    intro i a _ ha
    show 1000 * (u * a - t) = u * (1000 * a) - t * (1000 * a - 1000 * (a - 1))
    grind
  | succ m ih =>
    intro i a hi ha
    have hk := h i (by omega)
    show min (u * a - t) (len i * u) * hard i + pu len hard u (i + 1) m (u * a - t - min (u * a - t) (len i * u)) = u * (min a (len i * 1) * hard i + pu len hard 1 (i + 1) m (a - min a (len i * 1))) - t * ((min a (len i * 1) * hard i + pu len hard 1 (i + 1) m (a - min a (len i * 1))) - (min (a - 1) (len i * 1) * hard i + pu len hard 1 (i + 1) m (a - 1 - min (a - 1) (len i * 1))))
    have hu : 0 ≤ u := by omega
    by_cases hc : a ≤ len i
    · have h1 : a * u ≤ len i * u := Int.mul_le_mul_of_nonneg_right hc hu
      rw [Int.mul_comm a u] at h1
      rw [show min (u * a - t) (len i * u) = u * a - t by omega, show min a (len i * 1) = a by omega, show min (a - 1) (len i * 1) = a - 1 by omega, Int.sub_self, Int.sub_self, Int.sub_self, pu_0 1 h (by decide) m (i + 1) (by omega), pu_0 u h hu m (i + 1) (by omega)]
      grind
    · have h1 : len i * u ≤ (a - 1) * u := Int.mul_le_mul_of_nonneg_right (by omega) hu
      have h2 : (a - 1) * u = u * a - u := by grind
      rw [show min (u * a - t) (len i * u) = len i * u by omega, show min a (len i * 1) = len i by omega, show min (a - 1) (len i * 1) = len i by omega]
      have e1 : u * a - t - len i * u = u * (a - len i) - t := by grind
      have e2 : a - 1 - len i = (a - len i) - 1 := by omega
      rw [e1, e2, ih (i + 1) (a - len i) (by omega) (by omega)]
      grind
end PU
