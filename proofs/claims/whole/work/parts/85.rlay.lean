/-! lay: the reference copies its draft -/
theorem SEAr.c {w w' : Nat → Int} (h : SEAr w) (e : ∀ k, k < 4 → w' k = w k) : SEAr w' := by unfold SEAr at *; rw [e 0 (by decide), e 1 (by decide), e 2 (by decide), e 3 (by decide)]; exact h
section RLY
variable {M : Mm} {Q : Int → Mm → Prop} {a b : Int}
theorem r_lay_249 (hS : StrM M.2.2.1) (hq : ∀ M' : Mm, M'.2 = M.2 → (∀ o j, o ≠ 231 → M'.1 o j = M.1 o j) → (∀ j, j < 36 → M'.1 231 j = 0) → Q (M.1 227 1) M') : P_X12_lay_249 221 0 M Q := by
  unfold P_X12_lay_249
  refine lp_i (fun y : Int × Mm => ∃ k : Nat, y.1 = k ∧ k ≤ 36 ∧ y.2.2 = M.2 ∧ (∀ o j, o ≠ 231 → y.2.1 o j = M.1 o j) ∧ ∀ j, j < k → y.2.1 231 j = 0) (fun y => (36 - y.1).toNat) ⟨0, rfl, by omega, rfl, fun _ _ _ => rfl, fun j hj => by omega⟩ ?_
  rintro ⟨x1, M1⟩ ⟨k, f1, f2, f3, f4, f5⟩
  dsimp only at f1 f3 f4 f5
  subst f1
  show F_X12_lay_249 221 Q _ (k : Int) M1
  unfold F_X12_lay_249
  refine ⟨fun hle => ?_, fun hlt => ?_⟩
  · rintro _ rfl
    refine goA (k := 227) (by rw [f3]; exact hS.2.2.2.2.2.1) (by decide) (by decide) ?_
    rw [show ((1 : Int)).toNat = 1 from rfl, f4 227 1 (by decide)]
    exact hq M1 f3 f4 (fun j hj => f5 j (by omega))
  · rintro _ rfl
    refine goA (k := 231) (by rw [f3]; exact hS.2.2.2.2.2.2.2.2.2.1) (by decide) ⟨by omega, by rw [show (SH 231).2 = 36 by decide]; omega⟩ ?_
    rw [show ((k : Int)).toNat = k by omega]
    intro M16 e16
    refine ⟨inI_s (by omega) (by omega), ?_⟩
    intro v ev
    refine ⟨⟨k + 1, by dsimp only; omega, by omega, by rw [e16]; exact f3, fun o j z => ?_, fun j hj => ?_⟩, by dsimp only; omega⟩
    · show M16.1 o j = _
      rw [e16, setI_o _ _ _ _ z]; exact f4 o j z
    · show M16.1 231 j = _
      rw [e16]
      by_cases e : j = k
      · subst e; rw [setI_s]
      · rw [setI_n _ _ _ _ (by omega)]; exact f5 j (by omega)
theorem r_lay_220 (hS : StrM M.2.2.1) (hq : ∀ M' : Mm, M'.2 = M.2 → (∀ o j, ¬ (o = 230 ∧ 108 ≤ j) → M'.1 o j = M.1 o j) → (∀ j, j < 108 → M'.1 230 (108 + j) = M.1 230 j) → P_X12_lay_249 221 0 M' Q) : P_X12_lay_220 221 0 M Q := by
  unfold P_X12_lay_220
  refine lp_i (fun y : Int × Mm => ∃ k : Nat, y.1 = k ∧ k ≤ 108 ∧ y.2.2 = M.2 ∧ (∀ o j, ¬ (o = 230 ∧ 108 ≤ j) → y.2.1 o j = M.1 o j) ∧ ∀ j, j < k → y.2.1 230 (108 + j) = M.1 230 j) (fun y => (108 - y.1).toNat) ⟨0, rfl, by omega, rfl, fun _ _ _ => rfl, fun j hj => by omega⟩ ?_
  rintro ⟨x1, M1⟩ ⟨k, f1, f2, f3, f4, f5⟩
  dsimp only at f1 f3 f4 f5
  subst f1
  show F_X12_lay_220 221 Q _ (k : Int) M1
  unfold F_X12_lay_220
  refine ⟨fun hle => hq M1 f3 f4 (fun j hj => f5 j (by omega)), fun hlt => ?_⟩
  rintro _ rfl
  refine ⟨inI_s (by omega) (by omega), ?_⟩
  rintro _ rfl
  refine goA (k := 230) (by rw [f3]; exact hS.2.2.2.2.2.2.2.2.1) (by decide) ⟨by omega, by rw [show (SH 230).2 = 216 by decide]; omega⟩ ?_
  refine goA (k := 230) (by rw [f3]; exact hS.2.2.2.2.2.2.2.2.1) (by decide) ⟨by omega, by rw [show (SH 230).2 = 216 by decide]; omega⟩ ?_
  rw [show ((k : Int)).toNat = k by omega, show (108 + (k : Int)).toNat = 108 + k by omega, f4 230 k (by omega)]
  intro M16 e16
  refine ⟨inI_s (by omega) (by omega), ?_⟩
  intro v ev
  refine ⟨⟨k + 1, by dsimp only; omega, by omega, by rw [e16]; exact f3, fun o j z => ?_, fun j hj => ?_⟩, by dsimp only; omega⟩
  · show M16.1 o j = _
    rw [e16, setI_n _ _ _ _ (by omega)]; exact f4 o j z
  · show M16.1 230 (108 + j) = _
    rw [e16]
    by_cases e : j = k
    · subst e; rw [setI_s]
    · rw [setI_n _ _ _ _ (by omega)]; exact f5 j (by omega)
theorem r_lay_184 (hS : StrM M.2.2.1) (hq : ∀ M' : Mm, M'.2 = M.2 → (∀ o j, ¬ (o = 229 ∧ 6 ≤ j) → o ≠ 232 → M'.1 o j = M.1 o j) → (∀ j, j < 6 → M'.1 229 (6 + j) = M.1 229 j ∧ M'.1 232 j = 0) → P_X12_lay_220 221 0 M' Q) : P_X12_lay_184 221 0 M Q := by
  unfold P_X12_lay_184
  refine lp_i (fun y : Int × Mm => ∃ k : Nat, y.1 = k ∧ k ≤ 6 ∧ y.2.2 = M.2 ∧ (∀ o j, ¬ (o = 229 ∧ 6 ≤ j) → o ≠ 232 → y.2.1 o j = M.1 o j) ∧ ∀ j, j < k → y.2.1 229 (6 + j) = M.1 229 j ∧ y.2.1 232 j = 0) (fun y => (6 - y.1).toNat) ⟨0, rfl, by omega, rfl, fun _ _ _ _ => rfl, fun j hj => by omega⟩ ?_
  rintro ⟨x1, M1⟩ ⟨k, f1, f2, f3, f4, f5⟩
  dsimp only at f1 f3 f4 f5
  subst f1
  show F_X12_lay_184 221 Q _ (k : Int) M1
  unfold F_X12_lay_184
  refine ⟨fun hle => hq M1 f3 f4 (fun j hj => f5 j (by omega)), fun hlt => ?_⟩
  rintro _ rfl
  refine ⟨inI_s (by omega) (by omega), ?_⟩
  rintro _ rfl
  refine goA (k := 229) (by rw [f3]; exact hS.2.2.2.2.2.2.2.1) (by decide) ⟨by omega, by rw [show (SH 229).2 = 12 by decide]; omega⟩ ?_
  refine goA (k := 229) (by rw [f3]; exact hS.2.2.2.2.2.2.2.1) (by decide) ⟨by omega, by rw [show (SH 229).2 = 12 by decide]; omega⟩ ?_
  rw [show ((k : Int)).toNat = k by omega, show (6 + (k : Int)).toNat = 6 + k by omega, f4 229 k (by omega) (by decide)]
  intro M25 e25
  rintro _ rfl
  refine goA (k := 232) (by rw [e25]; show M1.2.2.1 _ _ = _; rw [f3]; exact hS.2.2.2.2.2.2.2.2.2.2.1) (by decide) ⟨by omega, by rw [show (SH 232).2 = 6 by decide]; omega⟩ ?_
  intro M16 e16
  refine ⟨inI_s (by omega) (by omega), ?_⟩
  intro v ev
  refine ⟨⟨k + 1, by dsimp only; omega, by omega, by rw [e16]; show M25.2 = _; rw [e25]; exact f3, fun o j z z2 => ?_, fun j hj => ?_⟩, by dsimp only; omega⟩
  · show M16.1 o j = _
    rw [e16, setI_o _ _ _ _ z2, e25, setI_n _ _ _ _ (by omega)]; exact f4 o j z z2
  · show M16.1 229 (6 + j) = _ ∧ M16.1 232 j = _
    rw [e16, setI_o _ _ _ _ (by decide), e25]
    by_cases e : j = k
    · subst e; rw [setI_s, setI_s]; exact ⟨rfl, rfl⟩
    · rw [setI_n _ _ _ _ (by omega), setI_n _ _ _ _ (by omega), setI_o _ _ _ _ (by decide)]; exact f5 j (by omega)
theorem r_lay_155 (hS : StrM M.2.2.1) (hq : ∀ M' : Mm, M'.2 = M.2 → (∀ o j, ¬ (o = 228 ∧ 24 ≤ j) → M'.1 o j = M.1 o j) → (∀ j, j < 24 → M'.1 228 (24 + j) = M.1 228 j) → P_X12_lay_184 221 0 M' Q) : P_X12_lay_155 221 0 M Q := by
  unfold P_X12_lay_155
  refine lp_i (fun y : Int × Mm => ∃ k : Nat, y.1 = k ∧ k ≤ 24 ∧ y.2.2 = M.2 ∧ (∀ o j, ¬ (o = 228 ∧ 24 ≤ j) → y.2.1 o j = M.1 o j) ∧ ∀ j, j < k → y.2.1 228 (24 + j) = M.1 228 j) (fun y => (24 - y.1).toNat) ⟨0, rfl, by omega, rfl, fun _ _ _ => rfl, fun j hj => by omega⟩ ?_
  rintro ⟨x1, M1⟩ ⟨k, f1, f2, f3, f4, f5⟩
  dsimp only at f1 f3 f4 f5
  subst f1
  show F_X12_lay_155 221 Q _ (k : Int) M1
  unfold F_X12_lay_155
  refine ⟨fun hle => hq M1 f3 f4 (fun j hj => f5 j (by omega)), fun hlt => ?_⟩
  rintro _ rfl
  refine ⟨inI_s (by omega) (by omega), ?_⟩
  rintro _ rfl
  refine goA (k := 228) (by rw [f3]; exact hS.2.2.2.2.2.2.1) (by decide) ⟨by omega, by rw [show (SH 228).2 = 48 by decide]; omega⟩ ?_
  refine goA (k := 228) (by rw [f3]; exact hS.2.2.2.2.2.2.1) (by decide) ⟨by omega, by rw [show (SH 228).2 = 48 by decide]; omega⟩ ?_
  rw [show ((k : Int)).toNat = k by omega, show (24 + (k : Int)).toNat = 24 + k by omega, f4 228 k (by omega)]
  intro M16 e16
  refine ⟨inI_s (by omega) (by omega), ?_⟩
  intro v ev
  refine ⟨⟨k + 1, by dsimp only; omega, by omega, by rw [e16]; exact f3, fun o j z => ?_, fun j hj => ?_⟩, by dsimp only; omega⟩
  · show M16.1 o j = _
    rw [e16, setI_n _ _ _ _ (by omega)]; exact f4 o j z
  · show M16.1 228 (24 + j) = _
    rw [e16]
    by_cases e : j = k
    · subst e; rw [setI_s]
    · rw [setI_n _ _ _ _ (by omega)]; exact f5 j (by omega)
theorem r_lay_126 (hS : StrM M.2.2.1) (hq : ∀ M' : Mm, M'.2 = M.2 → (∀ o j, ¬ (o = 226 ∧ 32 ≤ j) → M'.1 o j = M.1 o j) → (∀ j, j < 32 → M'.1 226 (32 + j) = M.1 226 j) → P_X12_lay_155 221 0 M' Q) : P_X12_lay_126 221 0 M Q := by
  unfold P_X12_lay_126
  refine lp_i (fun y : Int × Mm => ∃ k : Nat, y.1 = k ∧ k ≤ 32 ∧ y.2.2 = M.2 ∧ (∀ o j, ¬ (o = 226 ∧ 32 ≤ j) → y.2.1 o j = M.1 o j) ∧ ∀ j, j < k → y.2.1 226 (32 + j) = M.1 226 j) (fun y => (32 - y.1).toNat) ⟨0, rfl, by omega, rfl, fun _ _ _ => rfl, fun j hj => by omega⟩ ?_
  rintro ⟨x1, M1⟩ ⟨k, f1, f2, f3, f4, f5⟩
  dsimp only at f1 f3 f4 f5
  subst f1
  show F_X12_lay_126 221 Q _ (k : Int) M1
  unfold F_X12_lay_126
  refine ⟨fun hle => hq M1 f3 f4 (fun j hj => f5 j (by omega)), fun hlt => ?_⟩
  rintro _ rfl
  refine ⟨inI_s (by omega) (by omega), ?_⟩
  rintro _ rfl
  refine goA (k := 226) (by rw [f3]; exact hS.2.2.2.2.1) (by decide) ⟨by omega, by rw [show (SH 226).2 = 64 by decide]; omega⟩ ?_
  refine goA (k := 226) (by rw [f3]; exact hS.2.2.2.2.1) (by decide) ⟨by omega, by rw [show (SH 226).2 = 64 by decide]; omega⟩ ?_
  rw [show ((k : Int)).toNat = k by omega, show (32 + (k : Int)).toNat = 32 + k by omega, f4 226 k (by omega)]
  intro M16 e16
  refine ⟨inI_s (by omega) (by omega), ?_⟩
  intro v ev
  refine ⟨⟨k + 1, by dsimp only; omega, by omega, by rw [e16]; exact f3, fun o j z => ?_, fun j hj => ?_⟩, by dsimp only; omega⟩
  · show M16.1 o j = _
    rw [e16, setI_n _ _ _ _ (by omega)]; exact f4 o j z
  · show M16.1 226 (32 + j) = _
    rw [e16]
    by_cases e : j = k
    · subst e; rw [setI_s]
    · rw [setI_n _ _ _ _ (by omega)]; exact f5 j (by omega)
theorem r_lay_97 (hS : StrM M.2.2.1) (hq : ∀ M' : Mm, M'.2 = M.2 → (∀ o j, ¬ (o = 225 ∧ 64 ≤ j) → M'.1 o j = M.1 o j) → (∀ j, j < 64 → M'.1 225 (64 + j) = M.1 225 j) → P_X12_lay_126 221 0 M' Q) : P_X12_lay_97 221 0 M Q := by
  unfold P_X12_lay_97
  refine lp_i (fun y : Int × Mm => ∃ k : Nat, y.1 = k ∧ k ≤ 64 ∧ y.2.2 = M.2 ∧ (∀ o j, ¬ (o = 225 ∧ 64 ≤ j) → y.2.1 o j = M.1 o j) ∧ ∀ j, j < k → y.2.1 225 (64 + j) = M.1 225 j) (fun y => (64 - y.1).toNat) ⟨0, rfl, by omega, rfl, fun _ _ _ => rfl, fun j hj => by omega⟩ ?_
  rintro ⟨x1, M1⟩ ⟨k, f1, f2, f3, f4, f5⟩
  dsimp only at f1 f3 f4 f5
  subst f1
  show F_X12_lay_97 221 Q _ (k : Int) M1
  unfold F_X12_lay_97
  refine ⟨fun hle => hq M1 f3 f4 (fun j hj => f5 j (by omega)), fun hlt => ?_⟩
  rintro _ rfl
  refine ⟨inI_s (by omega) (by omega), ?_⟩
  rintro _ rfl
  refine goA (k := 225) (by rw [f3]; exact hS.2.2.2.1) (by decide) ⟨by omega, by rw [show (SH 225).2 = 128 by decide]; omega⟩ ?_
  refine goA (k := 225) (by rw [f3]; exact hS.2.2.2.1) (by decide) ⟨by omega, by rw [show (SH 225).2 = 128 by decide]; omega⟩ ?_
  rw [show ((k : Int)).toNat = k by omega, show (64 + (k : Int)).toNat = 64 + k by omega, f4 225 k (by omega)]
  intro M16 e16
  refine ⟨inI_s (by omega) (by omega), ?_⟩
  intro v ev
  refine ⟨⟨k + 1, by dsimp only; omega, by omega, by rw [e16]; exact f3, fun o j z => ?_, fun j hj => ?_⟩, by dsimp only; omega⟩
  · show M16.1 o j = _
    rw [e16, setI_n _ _ _ _ (by omega)]; exact f4 o j z
  · show M16.1 225 (64 + j) = _
    rw [e16]
    by_cases e : j = k
    · subst e; rw [setI_s]
    · rw [setI_n _ _ _ _ (by omega)]; exact f5 j (by omega)
theorem r_lay_68 (hS : StrM M.2.2.1) (hq : ∀ M' : Mm, M'.2 = M.2 → (∀ o j, ¬ (o = 224 ∧ 8 ≤ j) → M'.1 o j = M.1 o j) → (∀ j, j < 8 → M'.1 224 (8 + j) = M.1 224 j) → P_X12_lay_97 221 0 M' Q) : P_X12_lay_68 221 0 M Q := by
  unfold P_X12_lay_68
  refine lp_i (fun y : Int × Mm => ∃ k : Nat, y.1 = k ∧ k ≤ 8 ∧ y.2.2 = M.2 ∧ (∀ o j, ¬ (o = 224 ∧ 8 ≤ j) → y.2.1 o j = M.1 o j) ∧ ∀ j, j < k → y.2.1 224 (8 + j) = M.1 224 j) (fun y => (8 - y.1).toNat) ⟨0, rfl, by omega, rfl, fun _ _ _ => rfl, fun j hj => by omega⟩ ?_
  rintro ⟨x1, M1⟩ ⟨k, f1, f2, f3, f4, f5⟩
  dsimp only at f1 f3 f4 f5
  subst f1
  show F_X12_lay_68 221 Q _ (k : Int) M1
  unfold F_X12_lay_68
  refine ⟨fun hle => hq M1 f3 f4 (fun j hj => f5 j (by omega)), fun hlt => ?_⟩
  rintro _ rfl
  refine ⟨inI_s (by omega) (by omega), ?_⟩
  rintro _ rfl
  refine goA (k := 224) (by rw [f3]; exact hS.2.2.1) (by decide) ⟨by omega, by rw [show (SH 224).2 = 16 by decide]; omega⟩ ?_
  refine goA (k := 224) (by rw [f3]; exact hS.2.2.1) (by decide) ⟨by omega, by rw [show (SH 224).2 = 16 by decide]; omega⟩ ?_
  rw [show ((k : Int)).toNat = k by omega, show (8 + (k : Int)).toNat = 8 + k by omega, f4 224 k (by omega)]
  intro M16 e16
  refine ⟨inI_s (by omega) (by omega), ?_⟩
  intro v ev
  refine ⟨⟨k + 1, by dsimp only; omega, by omega, by rw [e16]; exact f3, fun o j z => ?_, fun j hj => ?_⟩, by dsimp only; omega⟩
  · show M16.1 o j = _
    rw [e16, setI_n _ _ _ _ (by omega)]; exact f4 o j z
  · show M16.1 224 (8 + j) = _
    rw [e16]
    by_cases e : j = k
    · subst e; rw [setI_s]
    · rw [setI_n _ _ _ _ (by omega)]; exact f5 j (by omega)
/-- what a copying leaves -/
def cpy (I I' : IFn) : Prop := (∀ o j, ¬ (223 ≤ o ∧ o ≤ 232) → I' o j = I o j) ∧ I' 223 1 = I 223 0 ∧ I' 227 1 = I 227 0 ∧ (∀ j, j < 8 → I' 224 (8 + j) = I 224 j) ∧ (∀ j, j < 64 → I' 225 (64 + j) = I 225 j) ∧ (∀ j, j < 32 → I' 226 (32 + j) = I 226 j) ∧ (∀ j, j < 24 → I' 228 (24 + j) = I 228 j) ∧ (∀ j, j < 6 → I' 229 (6 + j) = I 229 j ∧ I' 232 j = 0) ∧ (∀ j, j < 108 → I' 230 (108 + j) = I 230 j) ∧ ∀ j, j < 36 → I' 231 j = 0
theorem r_copy (hS : StrM M.2.2.1) (h1 : M.1 223 1 = a) (h2 : M.1 227 1 = b) (hq : ∀ M' : Mm, M'.2 = M.2 → (∀ o j, ¬ (223 ≤ o ∧ o ≤ 232) → M'.1 o j = M.1 o j) → M'.1 223 1 = a → M'.1 227 1 = b → (∀ j, j < 8 → M'.1 224 (8 + j) = M.1 224 j) → (∀ j, j < 64 → M'.1 225 (64 + j) = M.1 225 j) → (∀ j, j < 32 → M'.1 226 (32 + j) = M.1 226 j) → (∀ j, j < 24 → M'.1 228 (24 + j) = M.1 228 j) → (∀ j, j < 6 → M'.1 229 (6 + j) = M.1 229 j ∧ M'.1 232 j = 0) → (∀ j, j < 108 → M'.1 230 (108 + j) = M.1 230 j) → (∀ j, j < 36 → M'.1 231 j = 0) → Q b M') : P_X12_lay_68 221 0 M Q := by
  refine r_lay_68 hS (fun M1 a1 b1 c1 => ?_)
  refine r_lay_97 (by rw [a1]; exact hS) (fun M2 a2 b2 c2 => ?_)
  rw [a1] at a2
  refine r_lay_126 (by rw [a2]; exact hS) (fun M3 a3 b3 c3 => ?_)
  rw [a2] at a3
  refine r_lay_155 (by rw [a3]; exact hS) (fun M4 a4 b4 c4 => ?_)
  rw [a3] at a4
  refine r_lay_184 (by rw [a4]; exact hS) (fun M5 a5 b5 c5 => ?_)
  rw [a4] at a5
  refine r_lay_220 (by rw [a5]; exact hS) (fun M6 a6 b6 c6 => ?_)
  rw [a5] at a6
  refine r_lay_249 (by rw [a6]; exact hS) (fun M7 a7 b7 c7 => ?_)
  rw [a6] at a7
  have B1 : ∀ o j, o ≠ 224 → M1.1 o j = M.1 o j := fun o j z => b1 o j (fun y => z y.1)
  have B2 : ∀ o j, o ≠ 225 → M2.1 o j = M1.1 o j := fun o j z => b2 o j (fun y => z y.1)
  have B3 : ∀ o j, o ≠ 226 → M3.1 o j = M2.1 o j := fun o j z => b3 o j (fun y => z y.1)
  have B4 : ∀ o j, o ≠ 228 → M4.1 o j = M3.1 o j := fun o j z => b4 o j (fun y => z y.1)
  have B5 : ∀ o j, o ≠ 229 → o ≠ 232 → M5.1 o j = M4.1 o j := fun o j z z2 => b5 o j (fun y => z y.1) z2
  have B6 : ∀ o j, o ≠ 230 → M6.1 o j = M5.1 o j := fun o j z => b6 o j (fun y => z y.1)
  have hb : M6.1 227 1 = b := by rw [B6 _ _ (by decide), B5 _ _ (by decide) (by decide), B4 _ _ (by decide), B3 _ _ (by decide), B2 _ _ (by decide), B1 _ _ (by decide)]; exact h2
  rw [hb]
  refine hq M7 a7 (fun o j z => ?_) ?_ ?_ (fun j hj => ?_) (fun j hj => ?_) (fun j hj => ?_) (fun j hj => ?_) (fun j hj => ?_) (fun j hj => ?_) c7
  · rw [b7 _ _ (by omega), B6 _ _ (by omega), B5 _ _ (by omega) (by omega), B4 _ _ (by omega), B3 _ _ (by omega), B2 _ _ (by omega), B1 _ _ (by omega)]
  · rw [b7 _ _ (by decide), B6 _ _ (by decide), B5 _ _ (by decide) (by decide), B4 _ _ (by decide), B3 _ _ (by decide), B2 _ _ (by decide), B1 _ _ (by decide)]; exact h1
  · rw [b7 _ _ (by decide)]; exact hb
  · rw [b7 _ _ (by decide), B6 _ _ (by decide), B5 _ _ (by decide) (by decide), B4 _ _ (by decide), B3 _ _ (by decide), B2 _ _ (by decide)]; exact c1 j hj
  · rw [b7 _ _ (by decide), B6 _ _ (by decide), B5 _ _ (by decide) (by decide), B4 _ _ (by decide), B3 _ _ (by decide), c2 j hj]; exact B1 _ _ (by decide)
  · rw [b7 _ _ (by decide), B6 _ _ (by decide), B5 _ _ (by decide) (by decide), B4 _ _ (by decide), c3 j hj, B2 _ _ (by decide)]; exact B1 _ _ (by decide)
  · rw [b7 _ _ (by decide), B6 _ _ (by decide), B5 _ _ (by decide) (by decide), c4 j hj, B3 _ _ (by decide), B2 _ _ (by decide)]; exact B1 _ _ (by decide)
  · rw [b7 _ _ (by decide), B6 _ _ (by decide), b7 _ _ (by decide), B6 _ _ (by decide), (c5 j hj).1, B4 _ _ (by decide), B3 _ _ (by decide), B2 _ _ (by decide)]; exact ⟨B1 _ _ (by decide), (c5 j hj).2⟩
  · rw [b7 _ _ (by decide), c6 j hj, B5 _ _ (by decide) (by decide), B4 _ _ (by decide), B3 _ _ (by decide), B2 _ _ (by decide)]; exact B1 _ _ (by decide)
/-- the reference lays what it has read -/
theorem r_lay14 {n : Nat} (hS : StrM M.2.2.1) (hn : M.1 227 0 = n) (hn6 : n ≤ 6) (hbad : ∀ s, s < n → M.1 229 s = 0 → Q (-2) M) (hok : (∀ s, s < n → M.1 229 s ≠ 0) → ∀ M' : Mm, M'.2 = M.2 → cpy M.1 M'.1 → Q n M') : P_X12_lay_14 221 0 M Q := by
  unfold P_X12_lay_14
  refine lp_i (fun y : Int => ∃ k : Nat, y = k ∧ k ≤ n ∧ ∀ s, s < k → M.1 229 s ≠ 0) (fun y => (7 - y).toNat) ⟨0, rfl, by omega, fun s hs => by omega⟩ ?_
  rintro x1 ⟨k, f1, f2, f3⟩
  subst f1
  show F_X12_lay_14 221 M Q _ (k : Int)
  unfold F_X12_lay_14
  rintro _ rfl
  refine goA (k := 227) hS.2.2.2.2.2.1 (by decide) (by decide) ?_
  rw [show ((0 : Int)).toNat = 0 from rfl, show ((1 : Int)).toNat = 1 from rfl, show ((k : Int)).toNat = k by omega, hn]
  refine ⟨fun hle => ?_, fun hlt => ?_⟩
  · rintro _ rfl
    rintro _ rfl
    refine goA (k := 223) hS.2.1 (by decide) (by decide) ?_
    refine goA (k := 223) hS.2.1 (by decide) (by decide) ?_
    intro M78 e78
    have s78 : M78.2 = M.2 := by rw [e78]
    rintro _ rfl
    rintro _ rfl
    refine goA (k := 227) (by rw [s78]; exact hS.2.2.2.2.2.1) (by decide) (by decide) ?_
    refine goA (k := 227) (by rw [s78]; exact hS.2.2.2.2.2.1) (by decide) (by decide) ?_
    have v78 : M78.1 227 0 = n := by rw [e78, setI_o _ _ _ _ (by decide)]; exact hn
    rw [v78]
    intro M86 e86
    have s86 : M86.2 = M.2 := by rw [e86]; exact s78
    have i86 : ∀ o j, ¬ (o = 223 ∧ j = 1) → ¬ (o = 227 ∧ j = 1) → M86.1 o j = M.1 o j := fun o j z1 z2 => by rw [e86, setI_n _ _ _ _ z2, e78, setI_n _ _ _ _ z1]
    refine r_copy (a := M.1 223 0) (b := (n : Int)) (by rw [s86]; exact hS) (by rw [e86, setI_o _ _ _ _ (by decide), e78, setI_s]) (by rw [e86, setI_s]) (fun M' a0 a1 a2 a3 a4 a5 a6 a7 a8 a9 a10 => hok (fun s hs => f3 s (by omega)) M' (a0.trans s86) ⟨fun o j z => ?_, a2, a3.trans hn.symm, fun j hj => ?_, fun j hj => ?_, fun j hj => ?_, fun j hj => ?_, fun j hj => ?_, fun j hj => ?_, a10⟩)
    · rw [a1 o j z]; exact i86 o j (by omega) (by omega)
    · rw [a4 j hj]; exact i86 _ _ (by omega) (by omega)
    · rw [a5 j hj]; exact i86 _ _ (by omega) (by omega)
    · rw [a6 j hj]; exact i86 _ _ (by omega) (by omega)
    · rw [a7 j hj]; exact i86 _ _ (by omega) (by omega)
    · rw [(a8 j hj).1, i86 _ _ (by omega) (by omega)]; exact ⟨rfl, (a8 j hj).2⟩
    · rw [a9 j hj]; exact i86 _ _ (by omega) (by omega)
  · rintro _ rfl
    refine goA (k := 229) hS.2.2.2.2.2.2.2.1 (by decide) ⟨by omega, by rw [show (SH 229).2 = 12 by decide]; omega⟩ ?_
    refine ⟨fun hne => ⟨inI_s (by omega) (by omega), ?_⟩, fun h0 => hbad k (by omega) h0⟩
    intro v ev
    refine ⟨⟨k + 1, by omega, by omega, fun s hs => ?_⟩, by omega⟩
    by_cases e : s = k
    · subst e; exact hne
    · exact f3 s (by omega)
end RLY
