/-! SMALL CALLS: bodies, seats, patches looked up; hang, slack, law, road, wipe, trial, worn -/
theorem dREL_sc {p o j : Nat} (hp : pl p) (h : dREL p o j) : (o ≠ 0 ∧ o ≠ 3 ∧ o ≠ 172 ∧ ¬ (209 ≤ o ∧ o ≤ 214) ∧ o ≠ 216 ∧ o ≠ 217 ∧ ¬ (237 ≤ o)) ∧ ¬ (o = 1 ∧ j = 3) ∧ ¬ (o = 220 ∧ j ≠ 0) ∧ ¬ (o = 221 ∧ 20 ≤ j) := by
  rcases h with h | h | h | h | h | h | h
  · rcases h with ⟨rfl, rfl⟩ | rfl | ⟨rfl, rfl⟩ | rfl <;> omega
  · rcases h with ⟨rfl, rfl⟩ | h | ⟨rfl, rfl⟩ | rfl <;> omega
  · rcases h with h | rfl <;> omega
  · rcases h with h | rfl <;> omega
  · rcases h with ⟨rfl, rfl⟩ | ⟨rfl, h⟩ | ⟨rfl, rfl⟩ | ⟨rfl, h⟩ <;> omega
  · rcases h with rfl | rfl <;> omega
  · rcases hp with rfl | rfl
    · rcases h with h | ⟨rfl, h⟩ | ⟨rfl, h⟩ | ⟨rfl, h⟩ | ⟨rfl, h⟩ | ⟨rfl, h⟩ | ⟨rfl, h⟩ | ⟨rfl, h⟩ | ⟨rfl, h⟩ | rfl | rfl <;> omega
    · rcases h with h | ⟨rfl, h⟩ | ⟨rfl, h⟩ | ⟨rfl, h⟩ | ⟨rfl, h⟩ | ⟨rfl, h⟩ | ⟨rfl, h⟩ | ⟨rfl, h⟩ | ⟨rfl, h⟩ | rfl | rfl <;> omega
theorem setI_s (M : Mm) (o k : Nat) (v : Int) : (setI M o k v).1 o k = v := by simp [setI, up2]
theorem setI_n (M : Mm) (o k : Nat) (v : Int) {a j : Nat} (h : ¬ (a = o ∧ j = k)) : (setI M o k v).1 a j = M.1 a j := by simp [setI, up2, h]
theorem setI_o (M : Mm) (o k : Nat) (v : Int) {a j : Nat} (h : a ≠ o) : (setI M o k v).1 a j = M.1 a j := by simp [setI, up2, h]
theorem inI_s {x : Int} (h1 : -1000000000 ≤ x) (h2 : x ≤ 1000000000) : inI x := ⟨by omega, by omega⟩
theorem inL_s {x : Int} (h1 : -1000000000000000 ≤ x) (h2 : x ≤ 1000000000000000) : inL x := ⟨by omega, by omega⟩
theorem toN {x : Int} (h : 0 ≤ x) : ∃ b : Nat, x = b := ⟨x.toNat, by omega⟩
section SMALL
variable {M : Mm} {p q : Nat} {x1 x2 x3 x4 : Int}
theorem c_bodyAt {Q : Option Nat → Prop} (hB : StrB M.2.2.1) (hn : 0 ≤ M.1 170 1 ∧ M.1 170 1 ≤ 12) (h1 : ∀ b : Nat, x1 = b → (b : Int) < M.1 170 1 → Q (some (173 + 3 * b))) (h2 : ¬ (0 ≤ x1 ∧ x1 < M.1 170 1) → Q none) : P_X1_bodyAt 170 x1 M Q := by
  unfold P_X1_bodyAt
  refine ⟨inI_s (by omega) (by omega), ?_⟩
  rw [p_isWithin]
  refine ⟨fun h => h2 (by rw [bi0] at h; omega), fun h => ?_⟩
  rw [bi0] at h
  obtain ⟨b, rfl⟩ := toN (x := x1) (by omega)
  rintro _ rfl
  refine goA hB.1 (by decide) ⟨by omega, by show (b : Int) < ((SH 171).2 : Nat); rw [show (SH 171).2 = 12 by decide]; omega⟩ ?_
  rintro _ rfl
  rw [show ((b : Int)).toNat = b by omega, (hB.2.2 b (by omega)).1]
  exact h1 b rfl (by omega)
theorem c_seatAt {Q : Option Nat → Prop} (hp : pl p) (hP : StrP M.2.2.1 p) (hn : 0 ≤ M.1 p 3 ∧ M.1 p 3 ≤ 6) (h1 : ∀ b : Nat, x1 = b → (b : Int) < M.1 p 3 → Q (some (p + 35 + 8 * b))) (h2 : ¬ (0 ≤ x1 ∧ x1 < M.1 p 3) → Q none) : P_X5_seatAt p x1 M Q := by
  unfold P_X5_seatAt
  refine ⟨inI_s (by omega) (by omega), ?_⟩
  rw [p_isWithin]
  refine ⟨fun h => h2 (by rw [bi0] at h; omega), fun h => ?_⟩
  rw [bi0] at h
  obtain ⟨b, rfl⟩ := toN (x := x1) (by omega)
  rintro _ rfl
  have e := (sh_pl hp).2.2
  refine goA hP.2.1 ⟨by rcases hp with rfl | rfl <;> decide, by rw [e]⟩ ⟨by omega, by rw [e]; show (b : Int) < 6; omega⟩ ?_
  rintro _ rfl
  rw [show ((b : Int)).toNat = b by omega, (hP.2.2.2 b (by omega)).1]
  exact h1 b rfl (by omega)
theorem c_patchAt {s : Nat} {Q : Option Nat → Prop} (hp : pl p) (hs : s < 6) (hP : StrP M.2.2.1 p) (hn : 0 ≤ M.1 (p + 35 + 8 * s) 6 ∧ M.1 (p + 35 + 8 * s) 6 ≤ 6) (h1 : ∀ b : Nat, x1 = b → (b : Int) < M.1 (p + 35 + 8 * s) 6 → Q (some (p + 37 + 8 * s + b))) (h2 : ¬ (0 ≤ x1 ∧ x1 < M.1 (p + 35 + 8 * s) 6) → Q none) : P_X8_patchAt (p + 35 + 8 * s) x1 M Q := by
  unfold P_X8_patchAt
  refine ⟨inI_s (by omega) (by omega), ?_⟩
  rw [p_isWithin]
  refine ⟨fun h => h2 (by rw [bi0] at h; omega), fun h => ?_⟩
  rw [bi0] at h
  obtain ⟨b, rfl⟩ := toN (x := x1) (by omega)
  rintro _ rfl
  have e := (sh_S hp hs).2
  refine goA (hP.2.2.2 s hs).2.1 ⟨by rcases hp with rfl | rfl <;> omega, by rw [e]⟩ ⟨by omega, by rw [e]; show (b : Int) < 6; omega⟩ ?_
  rintro _ rfl
  rw [show ((b : Int)).toNat = b by omega, (hP.2.2.2 s hs).2.2 b (by omega)]
  exact h1 b rfl (by omega)
theorem r_isBody {Q : Int → Prop} (hn : 0 ≤ M.1 221 12 ∧ M.1 221 12 ≤ 12) : P_X12_isBody 221 x1 M Q ↔ Q (bi (0 ≤ x1 ∧ x1 ≤ M.1 221 12 - 1)) := by
  unfold P_X12_isBody
  rw [p_in]
  exact ⟨fun h => h.2.2, fun h => ⟨inI_s (by omega) (by omega), bi01, h⟩⟩
theorem r_isSeat {Q : Int → Prop} (hS : StrM M.2.2.1) (hn : 0 ≤ M.1 227 1 ∧ M.1 227 1 ≤ 6) : P_X12_isSeat 221 x1 M Q ↔ Q (bi (0 ≤ x1 ∧ x1 ≤ M.1 227 1 - 1)) := by
  unfold P_X12_isSeat
  simp only [forall_eq, hS.2.2.2.2.2.1, sxA, p_in]
  exact ⟨fun h => h.2.2.2, fun h => ⟨⟨by decide, by decide, by decide, by decide⟩, inI_s (by show _ ≤ M.1 227 1 - 1; omega) (by show M.1 227 1 - 1 ≤ _; omega), bi01, h⟩⟩
theorem r_isPatch {Q : Int → Prop} (hS : StrM M.2.2.1) (hn : 0 ≤ M.1 227 1 ∧ M.1 227 1 ≤ 6) (hm : ∀ s : Nat, (s : Int) < M.1 227 1 → 0 ≤ M.1 229 (6 + s) ∧ M.1 229 (6 + s) ≤ 6) : P_X12_isPatch 221 x1 x2 M Q ↔ Q (bi ((0 ≤ x1 ∧ x1 ≤ M.1 227 1 - 1) ∧ 0 ≤ x2 ∧ x2 ≤ M.1 229 (6 + x1.toNat) - 1)) := by
  unfold P_X12_isPatch
  rw [r_isSeat hS hn]
  by_cases h : 0 ≤ x1 ∧ x1 ≤ M.1 227 1 - 1
  · obtain ⟨s, rfl⟩ := toN (x := x1) (by omega)
    have hb := hm s (by omega)
    have e : (6 + (s : Int)).toNat = 6 + s := by omega
    have e2 : ((s : Int)).toNat = s := by omega
    rw [bi_t h]
    simp only [forall_eq, hS.2.2.2.2.2.2.2.1, sxA, p_in, e, e2]
    by_cases h3 : 0 ≤ x2 ∧ x2 ≤ M.1 229 (6 + s) - 1
    · rw [bi_t h3, bi_t ⟨h, h3⟩]
      refine ⟨fun g => (g.2 (by decide)).2.2.2.2 (by decide), fun g => ⟨fun z => absurd z (by decide), fun _ => ⟨inI_s (by omega) (by omega), ⟨by decide, by decide, by omega, by rw [show (SH 229).2 = 12 by decide]; omega⟩, inI_s (by omega) (by omega), fun z => absurd z (by decide), fun _ => g⟩⟩⟩
    · rw [bi_f h3, bi_f (fun z => h3 z.2)]
      refine ⟨fun g => (g.2 (by decide)).2.2.2.1 rfl, fun g => ⟨fun z => absurd z (by decide), fun _ => ⟨inI_s (by omega) (by omega), ⟨by decide, by decide, by omega, by rw [show (SH 229).2 = 12 by decide]; omega⟩, inI_s (by omega) (by omega), fun _ => g, fun z => absurd rfl z⟩⟩⟩
  · rw [bi_f h, bi_f (fun z => h z.1)]
    exact ⟨fun g => g.1 rfl, fun g => ⟨fun _ => g, fun z => absurd rfl z⟩⟩
-- hang
theorem c_hang {Q : Int → Mm → Prop} (hC : StrC M.2.2.1) (hB : StrB M.2.2.1) (hn : 0 ≤ M.1 170 1 ∧ M.1 170 1 ≤ 12) (h1 : ∀ b i : Nat, x1 = b → x2 = i → (b : Int) < M.1 170 1 → i < 6 → 0 ≤ x3 ∧ x3 ≤ 100 → Q (M.1 (174 + 3 * b) i) (setI M (174 + 3 * b) i x3)) (h2 : ¬ ((0 ≤ x1 ∧ x1 < M.1 170 1) ∧ (0 ≤ x2 ∧ x2 ≤ 5) ∧ 0 ≤ x3 ∧ x3 ≤ 100) → Q (-1) M) : P_X11_hang 0 x1 x2 x3 M Q := by
  unfold P_X11_hang
  rintro _ rfl
  refine goO hC.2.1 (by decide) ?_
  refine c_bodyAt hB hn (fun b e hb => ?_) (fun h => ⟨fun _ => h2 (fun z => h z.1), fun z hz => (by cases hz)⟩)
  refine ⟨fun h => (by cases h), fun z hz => ?_⟩
  rw [p_isWithin]
  refine ⟨fun h => h2 (fun z => (bi0.mp h) z.2.1), fun h => ?_⟩
  rw [bi0] at h
  rw [p_isWithin]
  refine ⟨fun g => ?_, fun g => h2 (fun z => (bi0.mp g) z.2.2)⟩
  rw [bi0] at g
  have hs := sh_B b (by omega)
  refine goO rfl ⟨by omega, by rw [hs.1]⟩ ?_
  obtain ⟨i, rfl⟩ := toN (x := x2) (by omega)
  have e2 : ((i : Int)).toNat = i := by omega
  have hr := (hB.2.2 b (by omega)).2.1
  rintro _ rfl
  refine goA hr ⟨by omega, by rw [hs.2.1]⟩ ⟨by omega, by rw [hs.2.1]; show (i : Int) < 6; omega⟩ ?_
  rintro _ rfl _ rfl
  refine goA hr ⟨by omega, by rw [hs.2.1]⟩ ⟨by omega, by rw [hs.2.1]; show (i : Int) < 6; omega⟩ ?_
  rintro _ rfl
  rw [e2]
  exact h1 b i e rfl hb (by omega) (by omega)
theorem r_hang {Q : Int → Mm → Prop} (hS : StrM M.2.2.1) (hn : 0 ≤ M.1 221 12 ∧ M.1 221 12 ≤ 12) (h1 : ∀ b i : Nat, x1 = b → x2 = i → (b : Int) < M.1 221 12 → i < 6 → 0 ≤ x3 ∧ x3 ≤ 100 → Q (M.1 234 (6 * b + i)) (setI M 234 (6 * b + i) x3)) (h2 : ¬ ((0 ≤ x1 ∧ x1 < M.1 221 12) ∧ (0 ≤ x2 ∧ x2 ≤ 5) ∧ 0 ≤ x3 ∧ x3 ≤ 100) → Q (-1) M) : P_X12_hang 221 x1 x2 x3 M Q := by
  unfold P_X12_hang
  rw [r_isBody hn]
  refine ⟨fun h => h2 (fun z => (bi0.mp h) ⟨z.1.1, by omega⟩), fun h => ?_⟩
  rw [bi0] at h
  rw [p_in]
  refine ⟨fun g => h2 (fun z => (bi0.mp g) z.2.1), fun g => ?_⟩
  rw [bi0] at g
  rw [p_in]
  refine ⟨fun f => ?_, fun f => h2 (fun z => (bi0.mp f) z.2.2)⟩
  rw [bi0] at f
  obtain ⟨b, rfl⟩ := toN (x := x1) (by omega)
  obtain ⟨i, rfl⟩ := toN (x := x2) (by omega)
  have e : (6 * (b : Int) + (i : Int)).toNat = 6 * b + i := by omega
  have hr := hS.2.2.2.2.2.2.2.2.2.2.2.2.1
  rintro _ rfl
  refine ⟨inI_s (by omega) (by omega), inI_s (by omega) (by omega), ?_⟩
  refine goA hr (by decide) ⟨by omega, by rw [show (SH 234).2 = 72 by decide]; omega⟩ ?_
  rintro _ rfl _ rfl
  refine ⟨inI_s (by omega) (by omega), inI_s (by omega) (by omega), ?_⟩
  refine goA hr (by decide) ⟨by omega, by rw [show (SH 234).2 = 72 by decide]; omega⟩ ?_
  rintro _ rfl
  rw [e]
  exact h1 b i rfl rfl (by omega) (by omega) (by omega)
end SMALL
