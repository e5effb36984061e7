/-! ROWS of stops: codes, digits, their order; the hurt of a row -/
/-- the code of the digits -/
def cdF (t : Nat) (d : Nat → Nat) : Nat → Nat
  | 0 => 0
  | k + 1 => cdF t d k * t + d k
/-- the digits of a code -/
def dgF (t : Nat) : Nat → Nat → Nat → Nat
  | 0, _, _ => 0
  | k + 1, n, j => if j = k then n % t else dgF t k (n / t) j
def orB (d : Nat → Nat) : Nat → Bool
  | 0 => true
  | n + 1 => orB d n && (n == 0 || decide (d (n - 1) ≤ d n))
theorem orB_i {d : Nat → Nat} : ∀ k, orB d k = true ↔ ∀ i, i + 1 < k → d i ≤ d (i + 1) := by
  intro k
  induction k with
  | zero => exact ⟨fun _ i hi => by omega, fun _ => rfl⟩
  | succ k ih =>
    show (orB d k && (k == 0 || decide (d (k - 1) ≤ d k))) = true ↔ _
    simp only [Bool.and_eq_true, Bool.or_eq_true, beq_iff_eq, decide_eq_true_iff]
    rw [ih]
    constructor
    · rintro ⟨h1, h2⟩ i hi
      by_cases e : i + 1 = k
      · rcases h2 with h2 | h2
        · omega
        · rw [show k - 1 = i by omega, ← e] at h2; exact h2
      · exact h1 i (by omega)
    · intro h
      refine ⟨fun i hi => h i (by omega), ?_⟩
      rcases Nat.eq_zero_or_pos k with z | z
      · exact Or.inl z
      · have := h (k - 1) (by omega)
        rw [show k - 1 + 1 = k by omega] at this
        exact Or.inr this
theorem orB_up {d : Nat → Nat} {k i j : Nat} (h : orB d k = true) (hij : i ≤ j) (hj : j < k) : d i ≤ d j := by
  rw [orB_i] at h
  induction j with
  | zero => have : i = 0 := by omega
            subst this; exact Nat.le_refl _
  | succ j ih =>
    by_cases e : i = j + 1
    · subst e; exact Nat.le_refl _
    · exact Nat.le_trans (ih (by omega) (by omega)) (h j hj)
theorem cd_c {t : Nat} {d e : Nat → Nat} : ∀ k, (∀ j, j < k → d j = e j) → cdF t d k = cdF t e k := by
  intro k
  induction k with
  | zero => intro _; rfl
  | succ k ih => intro h; show cdF t d k * t + d k = cdF t e k * t + e k; rw [ih (fun j hj => h j (by omega)), h k (by omega)]
theorem dg_lt {t : Nat} (ht : 0 < t) : ∀ k n j, dgF t k n j < t := by
  intro k
  induction k with
  | zero => intro n j; exact ht
  | succ k ih =>
    intro n j
    show (if j = k then n % t else dgF t k (n / t) j) < t
    split
    · exact Nat.mod_lt _ ht
    · exact ih _ _
theorem cd_dg {t : Nat} (ht : 0 < t) : ∀ k n, n < t ^ k → cdF t (dgF t k n) k = n := by
  intro k
  induction k with
  | zero => intro n hn; have : n = 0 := by simpa using hn
            subst this; rfl
  | succ k ih =>
    intro n hn
    show cdF t (dgF t (k + 1) n) k * t + dgF t (k + 1) n k = n
    have e1 : cdF t (dgF t (k + 1) n) k = cdF t (dgF t k (n / t)) k := cd_c k (fun j hj => by show (if j = k then n % t else dgF t k (n / t) j) = _; rw [if_neg (by omega)])
    have e2 : dgF t (k + 1) n k = n % t := by show (if k = k then n % t else dgF t k (n / t) k) = _; rw [if_pos rfl]
    have hd : n / t < t ^ k := by rw [Nat.div_lt_iff_lt_mul ht, ← Nat.pow_succ]; exact hn
    rw [e1, e2, ih _ hd, Nat.mul_comm]
    exact Nat.div_add_mod n t
theorem dg_cd {t : Nat} {d : Nat → Nat} : ∀ k, (∀ j, j < k → d j < t) → ∀ j, j < k → dgF t k (cdF t d k) j = d j := by
  intro k
  induction k with
  | zero => intro _ j hj; omega
  | succ k ih =>
    intro h j hj
    have hk := h k (by omega)
    show (if j = k then (cdF t d k * t + d k) % t else dgF t k ((cdF t d k * t + d k) / t) j) = d j
    have e1 : (cdF t d k * t + d k) % t = d k := by rw [Nat.mul_comm, Nat.mul_add_mod]; exact Nat.mod_eq_of_lt hk
    have e2 : (cdF t d k * t + d k) / t = cdF t d k := by rw [Nat.mul_comm, Nat.mul_add_div (by omega), Nat.div_eq_of_lt hk]; rfl
    rw [e1, e2]
    split
    · rename_i e; rw [e]
    · exact ih (fun j hj => h j (by omega)) j (by omega)
theorem cd_lt {t : Nat} {d : Nat → Nat} : ∀ k, (∀ j, j < k → d j < t) → cdF t d k < t ^ k := by
  intro k
  induction k with
  | zero => intro _; exact Nat.one_pos
  | succ k ih =>
    intro h
    have h1 := ih (fun j hj => h j (by omega))
    have h2 := h k (by omega)
    show cdF t d k * t + d k < t ^ k * t
    have : (cdF t d k + 1) * t ≤ t ^ k * t := Nat.mul_le_mul_right t h1
    rw [Nat.add_mul] at this
    omega
theorem cd_le {t : Nat} {d e : Nat → Nat} : ∀ k, (∀ j, j < k → d j ≤ e j) → cdF t d k ≤ cdF t e k := by
  intro k
  induction k with
  | zero => intro _; exact Nat.le_refl _
  | succ k ih =>
    intro h
    have h1 := Nat.mul_le_mul_right t (ih (fun j hj => h j (by omega)))
    have h2 := h k (by omega)
    show cdF t d k * t + d k ≤ cdF t e k * t + e k
    omega
/-- the first place that is greater decides -/
theorem cd_gt {t j : Nat} {d e : Nat → Nat} : ∀ k, (∀ i, i < k → d i < t) → j < k → (∀ i, i < j → d i = e i) → d j < e j → cdF t d k < cdF t e k := by
  intro k
  induction k with
  | zero => intro _ h; omega
  | succ k ih =>
    intro h1 h2 h3 h4
    show cdF t d k * t + d k < cdF t e k * t + e k
    by_cases ek : j = k
    · subst ek
      rw [cd_c j h3]; omega
    · have h5 := ih (fun i hi => h1 i (by omega)) (by omega) h3 h4
      have h6 := h1 k (by omega)
      have : (cdF t d k + 1) * t ≤ cdF t e k * t := Nat.mul_le_mul_right t h5
      rw [Nat.add_mul] at this
      omega
theorem cd_dec {t : Nat} {d e : Nat → Nat} : ∀ k, (∀ i, i < k → e i < t) → cdF t d k < cdF t e k → ∃ j, j < k ∧ (∀ i, i < j → d i = e i) ∧ d j < e j := by
  intro k h1 h2
  apply Classical.byContradiction
  intro hn
  -- either all are equal, or the first that differs is less
  have key : ∀ m, m ≤ k → (∀ i, i < m → d i = e i) ∨ cdF t e k < cdF t d k := by
    intro m
    induction m with
    | zero => intro _; exact Or.inl (fun i hi => by omega)
    | succ m ih =>
      intro hm
      rcases ih (by omega) with h3 | h3
      · rcases Nat.lt_trichotomy (d m) (e m) with h4 | h4 | h4
        · exact absurd ⟨m, by omega, h3, h4⟩ hn
        · refine Or.inl (fun i hi => ?_)
          by_cases ei : i = m
          · subst ei; exact h4
          · exact h3 i (by omega)
        · exact Or.inr (cd_gt k h1 (by omega) (fun i hi => (h3 i hi).symm) h4)
      · exact Or.inr h3
  rcases key k (Nat.le_refl _) with h3 | h3
  · rw [cd_c k h3] at h2; omega
  · omega
/-- the next row: places from i on become the place i and one more -/
def nxD (d : Nat → Nat) (i : Nat) : Nat → Nat := fun j => if j < i then d j else d i + 1
theorem nx_no {t k i : Nat} {d f : Nat → Nat} (hd : ∀ j, j < k → d j < t) (hf : ∀ j, j < k → f j < t) (hi : i < k) (hit : d i + 1 < t) (htop : ∀ j, i < j → j < k → d j + 1 = t) (ho : orB f k = true) (hlt : cdF t d k < cdF t f k) : cdF t (nxD d i) k ≤ cdF t f k := by
  obtain ⟨j, h1, h2, h3⟩ := cd_dec k hf hlt
  have hji : j ≤ i := by
    apply Classical.byContradiction
    intro hn
    have := htop j (by omega) h1
    have := hf j h1
    omega
  by_cases e : j = i
  · subst e
    refine cd_le k (fun m hm => ?_)
    show (if m < j then d m else d j + 1) ≤ f m
    split
    · rename_i z; rw [h2 m z]; exact Nat.le_refl _
    · exact Nat.le_trans h3 (orB_up ho (by omega) hm)
  · refine Nat.le_of_lt (cd_gt (j := j) k ?_ h1 (fun m hm => ?_) ?_)
    · intro m hm
      show (if m < i then d m else d i + 1) < t
      by_cases e2 : m < i
      · rw [if_pos e2]; exact hd m hm
      · rw [if_neg e2]; exact hit
    · show (if m < i then d m else d i + 1) = f m
      rw [if_pos (by omega)]; exact h2 m hm
    · show (if j < i then d j else d i + 1) < f j
      rw [if_pos (by omega)]; exact h3
theorem nx_gt {t k i : Nat} {d : Nat → Nat} (hd : ∀ j, j < k → d j < t) (hi : i < k) : cdF t d k < cdF t (nxD d i) k :=
  cd_gt (j := i) k hd hi (fun m hm => by show d m = (if m < i then d m else d i + 1); rw [if_pos hm]) (by show d i < (if i < i then d i else d i + 1); rw [if_neg (by omega)]; omega)
theorem nx_or {k i : Nat} {d : Nat → Nat} (ho : orB d k = true) (hi : i < k) : orB (nxD d i) k = true := by
  rw [orB_i]
  intro m hm
  show (if m < i then d m else d i + 1) ≤ (if m + 1 < i then d (m + 1) else d i + 1)
  by_cases e1 : m + 1 < i
  · rw [if_pos (by omega), if_pos e1]; exact (orB_i k).mp ho m hm
  · rw [if_neg e1]
    by_cases e2 : m < i
    · rw [if_pos e2]
      have := orB_up ho (show m ≤ i by omega) hi
      omega
    · rw [if_neg e2]; exact Nat.le_refl _
theorem nx_d {t k i : Nat} {d : Nat → Nat} (hd : ∀ j, j < k → d j < t) (hit : d i + 1 < t) : ∀ j, j < k → nxD d i j < t := by
  intro j hj
  show (if j < i then d j else d i + 1) < t
  split
  · exact hd j hj
  · exact hit
def sF (W : Nat → Int) (o : Nat → Bool) : Nat → Int × Nat
  | 0 => (-1, 0)
  | n + 1 => if o n = true ∧ ((sF W o n).1 < 0 ∨ W n < (sF W o n).1) then (W n, n) else sF W o n
def cO (o : Nat → Bool) : Nat → Nat
  | 0 => 0
  | n + 1 => if o n then cO o n + 1 else cO o n
theorem sF_skip {W : Nat → Int} {o : Nat → Bool} {a : Nat} : ∀ n, (∀ m, a ≤ m → m < a + n → o m = false) → sF W o (a + n) = sF W o a ∧ cO o (a + n) = cO o a := by
  intro n
  induction n with
  | zero => intro _; exact ⟨rfl, rfl⟩
  | succ n ih =>
    intro h
    have h1 := ih (fun m h2 h3 => h m h2 (by omega))
    have h2 := h (a + n) (by omega) (by omega)
    constructor
    · show (if o (a + n) = true ∧ ((sF W o (a + n)).1 < 0 ∨ W (a + n) < (sF W o (a + n)).1) then (W (a + n), a + n) else sF W o (a + n)) = _
      rw [if_neg (by rw [h2]; rintro ⟨z, _⟩; cases z)]; exact h1.1
    · show (if o (a + n) then cO o (a + n) + 1 else cO o (a + n)) = _
      rw [h2]; exact h1.2
theorem sF_b {W : Nat → Int} {o : Nat → Bool} (hW : ∀ n, 0 ≤ W n) : ∀ n, (sF W o n).1 = -1 ∨ 0 ≤ (sF W o n).1 := by
  intro n
  induction n with
  | zero => exact Or.inl rfl
  | succ n ih =>
    show (if o n = true ∧ ((sF W o n).1 < 0 ∨ W n < (sF W o n).1) then (W n, n) else sF W o n).1 = -1 ∨ 0 ≤ (if o n = true ∧ ((sF W o n).1 < 0 ∨ W n < (sF W o n).1) then (W n, n) else sF W o n).1
    split
    · exact Or.inr (hW n)
    · exact ih
theorem cO_le {o : Nat → Bool} : ∀ n, cO o n ≤ n := by
  intro n
  induction n with
  | zero => exact Nat.le_refl _
  | succ n ih =>
    show (if o n then cO o n + 1 else cO o n) ≤ n + 1
    split <;> omega
theorem cO_up {o : Nat → Bool} {a : Nat} : ∀ n, cO o a ≤ cO o (a + n) := by
  intro n
  induction n with
  | zero => exact Nat.le_refl _
  | succ n ih =>
    show _ ≤ (if o (a + n) then cO o (a + n) + 1 else cO o (a + n))
    split <;> omega
/-- now, behind the stops at an hour -/
def eaF (d : Nat → Nat) (hr : Nat) (ea now : Int) : Nat → Int
  | 0 => now
  | k + 1 => if 1 + d k = hr then max 0 (eaF d hr ea now k - ea) else eaF d hr ea now k
def wF (d : Nat → Nat) (k : Nat) (ea H : Int) : Nat → Int × Int
  | 0 => (0, 0)
  | n + 1 => (eaF d (n + 1) ea ((wF d k ea H n).1 + H) k, max (wF d k ea H n).2 ((wF d k ea H n).1 + H))
theorem ea_c {d e : Nat → Nat} {hr : Nat} {ea now : Int} : ∀ k, (∀ j, j < k → d j = e j) → eaF d hr ea now k = eaF e hr ea now k := by
  intro k
  induction k with
  | zero => intro _; rfl
  | succ k ih =>
    intro h
    show (if 1 + d k = hr then max 0 (eaF d hr ea now k - ea) else eaF d hr ea now k) = (if 1 + e k = hr then max 0 (eaF e hr ea now k - ea) else eaF e hr ea now k)
    rw [ih (fun j hj => h j (by omega)), h k (by omega)]
theorem w_c {d e : Nat → Nat} {k : Nat} {ea H : Int} (h : ∀ j, j < k → d j = e j) : ∀ n, wF d k ea H n = wF e k ea H n := by
  intro n
  induction n with
  | zero => rfl
  | succ n ih =>
    show (eaF d (n + 1) ea ((wF d k ea H n).1 + H) k, max (wF d k ea H n).2 ((wF d k ea H n).1 + H)) = (eaF e (n + 1) ea ((wF e k ea H n).1 + H) k, max (wF e k ea H n).2 ((wF e k ea H n).1 + H))
    rw [ih, ea_c k h]
theorem ea_m {d : Nat → Nat} {hr : Nat} {ea u v : Int} (h : u ≤ v) : ∀ k, eaF d hr ea u k ≤ eaF d hr ea v k := by
  intro k
  induction k with
  | zero => exact h
  | succ k ih =>
    show (if 1 + d k = hr then max 0 (eaF d hr ea u k - ea) else eaF d hr ea u k) ≤ (if 1 + d k = hr then max 0 (eaF d hr ea v k - ea) else eaF d hr ea v k)
    split <;> omega
theorem ea_b {d : Nat → Nat} {hr : Nat} {ea u : Int} (h0 : 0 ≤ ea) (h : 0 ≤ u) : ∀ k, 0 ≤ eaF d hr ea u k ∧ eaF d hr ea u k ≤ u := by
  intro k
  induction k with
  | zero => exact ⟨h, Int.le_refl _⟩
  | succ k ih =>
    show 0 ≤ (if 1 + d k = hr then max 0 (eaF d hr ea u k - ea) else eaF d hr ea u k) ∧ (if 1 + d k = hr then max 0 (eaF d hr ea u k - ea) else eaF d hr ea u k) ≤ u
    split <;> omega
theorem w_m {d : Nat → Nat} {k : Nat} {ea G H : Int} (h : G ≤ H) : ∀ n, (wF d k ea G n).1 ≤ (wF d k ea H n).1 ∧ (wF d k ea G n).2 ≤ (wF d k ea H n).2 := by
  intro n
  induction n with
  | zero => exact ⟨Int.le_refl _, Int.le_refl _⟩
  | succ n ih =>
    constructor
    · exact ea_m (by omega) k
    · show max (wF d k ea G n).2 ((wF d k ea G n).1 + G) ≤ max (wF d k ea H n).2 ((wF d k ea H n).1 + H)
      omega
theorem w_b {d : Nat → Nat} {k : Nat} {ea H : Int} (h0 : 0 ≤ ea) (h : 0 ≤ H ∧ H ≤ 200000) : ∀ n : Nat, (0 ≤ (wF d k ea H n).1 ∧ (wF d k ea H n).1 ≤ 200000 * n) ∧ 0 ≤ (wF d k ea H n).2 ∧ (wF d k ea H n).2 ≤ 200000 * n := by
  intro n
  induction n with
  | zero => exact ⟨⟨Int.le_refl _, Int.le_refl _⟩, Int.le_refl _, Int.le_refl _⟩
  | succ n ih =>
    constructor
    · have := ea_b (d := d) (hr := n + 1) (u := (wF d k ea H n).1 + H) h0 (by omega) k
      show 0 ≤ eaF d (n + 1) ea ((wF d k ea H n).1 + H) k ∧ eaF d (n + 1) ea ((wF d k ea H n).1 + H) k ≤ _
      omega
    · show 0 ≤ max (wF d k ea H n).2 ((wF d k ea H n).1 + H) ∧ max (wF d k ea H n).2 ((wF d k ea H n).1 + H) ≤ _
      omega
/-- ordered, of a code -/
def oC (t k n : Nat) : Bool := orB (dgF t k n) k
theorem cO12 : cO (oC 12 3) 1728 ≤ 999 := by decide +kernel
theorem cO11 : cO (oC 11 3) 1331 ≤ 999 := by decide +kernel
theorem cO10 : cO (oC 10 3) 1000 ≤ 999 := by decide +kernel
