/-! ODDS: ways with as many wins or more -/
theorem popF_h (n : Nat) : ∀ k, popF n (k + 1) = n % 2 + popF (n / 2) k := by
  intro k
  induction k with
  | zero =>
    show 0 + (if n.testBit 0 then 1 else 0) = n % 2 + 0
    rw [Nat.testBit_zero]
    by_cases h : n % 2 = 1
    · rw [decide_eq_true h]; rw [if_pos rfl]; omega
    · rw [decide_eq_false h]; rw [if_neg (by decide)]; omega
  | succ k ih =>
    show popF n (k + 1) + (if n.testBit (k + 1) then 1 else 0) = n % 2 + (popF (n / 2) k + (if (n / 2).testBit k then 1 else 0))
    rw [ih, Nat.testBit_succ]; omega
theorem pop_lo {m : Nat} (h : m < 2048) : popF m 11 = pop m := by
  show _ = popF m 11 + (if m.testBit 11 then 1 else 0)
  rw [Nat.testBit_lt_two_pow (show m < 2 ^ 11 from h)]; rfl
theorem pop_2 {m : Nat} (h : m < 2048) : pop (2 * m) = pop m ∧ pop (2 * m + 1) = pop m + 1 := by
  unfold pop
  rw [popF_h (2 * m) 11, popF_h (2 * m + 1) 11, show 2 * m / 2 = m by omega, show (2 * m + 1) / 2 = m by omega, pop_lo h]
  unfold pop
  omega
/-- codes below m with w bits or more -/
def orc (w : Nat) : Nat → Nat
  | 0 => 0
  | m + 1 => orc w m + (if pop m < w then 0 else 1)
theorem orc_2 {w : Nat} : ∀ m, m ≤ 2048 → orc w (2 * m) = orc w m + orc (w - 1) m := by
  intro m
  induction m with
  | zero => intro _; rfl
  | succ m ih =>
    intro h
    have h2 := pop_2 (m := m) (by omega)
    show orc w (2 * m) + (if pop (2 * m) < w then 0 else 1) + (if pop (2 * m + 1) < w then 0 else 1) = (orc w m + (if pop m < w then 0 else 1)) + (orc (w - 1) m + (if pop m < w - 1 then 0 else 1))
    rw [ih (by omega), h2.1, h2.2]
    by_cases e : pop m + 1 < w
    · rw [if_pos e, if_pos (show pop m < w - 1 by omega)]; omega
    · rw [if_neg e, if_neg (show ¬ pop m < w - 1 by omega)]; omega
def tri : Nat → Nat → Nat
  | 0, w => if w = 0 then 1 else 0
  | n + 1, w => tri n w + tri n (w - 1)
theorem orc_tri : ∀ n, n ≤ 12 → ∀ w, orc w (2 ^ n) = tri n w := by
  intro n
  induction n with
  | zero =>
    intro _ w
    show 0 + (if pop 0 < w then 0 else 1) = (if w = 0 then 1 else 0)
    rw [show pop 0 = 0 by decide]
    by_cases e : w = 0
    · rw [if_neg (by omega), if_pos e]
    · rw [if_pos (by omega), if_neg e]
  | succ n ih =>
    intro hn w
    have h2 : (2 : Nat) ^ n ≤ 2 ^ 11 := p2_le (by omega)
    rw [Nat.pow_succ, Nat.mul_comm, orc_2 _ (by omega), ih (by omega), ih (by omega)]
    rfl
def wy (n : Nat) : Nat → Nat
  | 0 => 1
  | i + 1 => wy n i * (n - i) / (i + 1)
def oc (n w : Nat) : Nat → Nat
  | 0 => 0
  | i + 1 => oc n w i + (if i < w then 0 else wy n i)
theorem wy_b : ∀ n, n < 13 → ∀ i, i < 14 → wy n i ≤ 1000 := by decide +kernel
theorem oc_tri : ∀ n, n < 13 → ∀ w, w < 13 → oc n w (n + 1) = tri n w := by decide +kernel
theorem oc_b {n w : Nat} (hn : n < 13) : ∀ i, i < 15 → oc n w i ≤ 1000 * i := by
  intro i
  induction i with
  | zero => intro _; exact Nat.le_refl _
  | succ i ih =>
    intro hi
    have := ih (by omega)
    have := wy_b n hn i (by omega)
    show oc n w i + (if i < w then 0 else wy n i) ≤ _
    split <;> omega
theorem orc_b {w : Nat} : ∀ m, orc w m ≤ m := by
  intro m
  induction m with
  | zero => exact Nat.le_refl _
  | succ m ih =>
    show orc w m + (if pop m < w then 0 else 1) ≤ m + 1
    split <;> omega
def ctF (f : Nat → Bool) : Nat → Nat
  | 0 => 0
  | n + 1 => ctF f n + (if f n then 1 else 0)
theorem ct_2 {f g : Nat → Bool} (h : ∀ i, ¬ (f i = true ∧ g i = true)) : ∀ n, ctF f n + ctF g n ≤ n := by
  intro n
  induction n with
  | zero => exact Nat.le_refl _
  | succ n ih =>
    show ctF f n + (if f n then 1 else 0) + (ctF g n + (if g n then 1 else 0)) ≤ n + 1
    have := h n
    by_cases e1 : f n = true
    · rw [if_pos e1, if_neg (fun z => this ⟨e1, z⟩)]; omega
    · rw [if_neg e1]; split <;> omega
theorem ct_le {f : Nat → Bool} : ∀ n, ctF f n ≤ n := by
  intro n
  induction n with
  | zero => exact Nat.le_refl _
  | succ n ih =>
    show ctF f n + (if f n then 1 else 0) ≤ n + 1
    split <;> omega
section ODD
variable {M : Mm}
theorem c_odds {w l : Nat} {Q : Int → Prop} (hw : M.1 220 1 = w) (hl : M.1 220 2 = l) (hn : w + l ≤ 12) (hq : Q ((tri (w + l) w : Nat) : Int)) : P_X10_odds 220 M Q := by
  unfold P_X10_odds
  rw [hw, hl]
  refine ⟨inI_s (by omega) (by omega), ?_⟩
  intro v4 e4
  have e4' : v4 = ((w + l : Nat) : Int) := by omega
  subst e4'
  clear e4
  obtain ⟨n, hn2⟩ : ∃ n, n = w + l := ⟨_, rfl⟩
  rw [← hn2] at hq ⊢
  unfold P_X10_odds_17
  refine lp_i (fun y : Int × Int × Int => ∃ i : Nat, y.2.2 = i ∧ i ≤ n + 1 ∧ y.1 = (wy n i : Nat) ∧ y.2.1 = (oc n w i : Nat)) (fun y => (14 - y.2.2).toNat) ⟨0, rfl, by omega, rfl, rfl⟩ ?_
  rintro ⟨x2, x3, x4⟩ ⟨i, f1, f2, f3, f4⟩
  dsimp only at f1 f3 f4
  subst f1
  show F_X10_odds_17 220 n M Q _ x2 x3 (i : Int)
  have hob := oc_b (n := n) (w := w) (by omega) i (by omega)
  have hwb := wy_b n (by omega) i (by omega)
  unfold F_X10_odds_17
  rw [hw]
  refine ⟨fun hlt => ?_, fun hge => ?_⟩
  · have : i = n + 1 := by omega
    subst this
    rw [f4, oc_tri n (by omega) w (by omega)]; exact hq
  · have go : ∀ s1 : Int, s1 = ((if i < w then 0 else wy n i : Nat) : Int) → P_X10_odds_38 220 n x2 i x3 s1 M Q (fun y => (∃ i : Nat, y.2.2 = i ∧ i ≤ n + 1 ∧ y.1 = (wy n i : Nat) ∧ y.2.1 = (oc n w i : Nat)) ∧ (14 - y.2.2).toNat < (14 - (i : Int)).toNat) := by
      intro s1 es
      have hs1 : 0 ≤ s1 ∧ s1 ≤ 1000 := by
        rw [es]; split <;> omega
      unfold P_X10_odds_38
      have e5 : (n : Int) - i = ((n - i : Nat) : Int) := by omega
      have hm : wy n i * (n - i) ≤ 1000 * 12 := Nat.mul_le_mul hwb (by omega)
      have e6 : x2 * ((n : Int) - i) = ((wy n i * (n - i) : Nat) : Int) := by rw [f3, e5, ← Int.natCast_mul]
      rw [e6]
      refine ⟨inI_s (by omega) (by omega), ?_⟩
      intro v1 e1
      refine ⟨inI_s (by omega) (by omega), inI_s (by omega) (by omega), inI_s (by omega) (by omega), by omega, ?_⟩
      intro v2 e2
      refine ⟨inI_s (by omega) (by omega), ?_⟩
      intro v3 e3
      refine ⟨⟨i + 1, by dsimp only; omega, by omega, ?_, ?_⟩, by dsimp only; omega⟩
      · dsimp only
        rw [e2, Int.tdiv_eq_ediv_of_nonneg (by omega)]
        rfl
      · dsimp only
        rw [e1, f4, es]
        rfl
    refine ⟨fun h => go 0 (by rw [if_pos (by omega)]; rfl), fun h => go x2 (by rw [if_neg (by omega)]; exact f3)⟩
theorem r_odds {w l : Nat} {Q : Int → Prop} (hn : w + l ≤ 12) (hq : Q ((tri (w + l) w : Nat) : Int)) : P_X12_against_184 w l 0 0 M Q := by
  have hp := p2_le (n := w + l) (k := 12) hn
  unfold P_X12_against_184
  refine lp_i (fun y : Int × Int => ∃ c : Nat, y.2 = c ∧ c ≤ 2 ^ (w + l) ∧ y.1 = (orc w c : Nat)) (fun y => (4096 - y.2).toNat) ⟨0, rfl, Nat.zero_le _, rfl⟩ ?_
  rintro ⟨x7, x8⟩ ⟨c, f1, f2, f3⟩
  dsimp only at f1 f3
  subst f1
  show F_X12_against_184 w l M Q _ x7 (c : Int)
  have hob := orc_b (w := w) c
  unfold F_X12_against_184
  rw [show (w : Int) + l = ((w + l : Nat) : Int) by omega, iShl_1 (w + l) (by omega)]
  refine ⟨inI_s (by omega) (by omega), fun hle => ?_, fun hlt => ?_⟩
  · have : c = 2 ^ (w + l) := by omega
    rw [f3, this, orc_tri _ hn]; exact hq
  · have hs : orc w (c + 1) = orc w c + (if pop c < w then 0 else 1) := rfl
    refine r_bits (n := c) (by omega) ⟨fun g => ⟨inI_s (by omega) (by omega), ?_⟩, fun g => ⟨inI_s (by omega) (by omega), ?_⟩⟩
    · intro v2 e2
      refine ⟨inI_s (by omega) (by omega), ?_⟩
      intro v3 e3
      refine ⟨⟨c + 1, by dsimp only; omega, by omega, ?_⟩, by dsimp only; omega⟩
      dsimp only
      rw [hs, if_pos (by omega)]; omega
    · intro v2 e2
      refine ⟨inI_s (by omega) (by omega), ?_⟩
      intro v3 e3
      refine ⟨⟨c + 1, by dsimp only; omega, by omega, ?_⟩, by dsimp only; omega⟩
      dsimp only
      rw [hs, if_neg (by omega)]; omega
end ODD
