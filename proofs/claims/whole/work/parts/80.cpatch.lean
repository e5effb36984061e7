/-! the class takes a patch in -/
theorem setR_i (M : Mm) (o k : Nat) (v : Option Nat) : (setR M o k v).1 = M.1 := rfl
theorem setR_s (M : Mm) (o k : Nat) (v : Option Nat) : (setR M o k v).2.2.1 o k = v := by simp [setR, up2]
theorem setR_n (M : Mm) (o k : Nat) (v : Option Nat) {a j : Nat} (h : ¬ (a = o ∧ j = k)) : (setR M o k v).2.2.1 a j = M.2.2.1 a j := by simp [setR, up2, h]
/-- only the layers of patches of plan q may have changed -/
def rFr (R R' : RFn) (q : Nat) : Prop := ∀ o j, ¬ (q + 37 ≤ o ∧ o < q + 83 ∧ 2 ≤ (o - q - 35) % 8 ∧ j = 0) → R' o j = R o j
section CPT
variable {M : Mm} {S : IFn} {c q : Nat} {g : Nat → Int} {Q : Int → Mm → Prop}
theorem c_addPatch {s n l : Nat} (hp : pl q) (hP : StrP M.2.2.1 q) (hs : s < 6) (hn : n ≤ 6) (hv : M.1 (q + 35 + 8 * s) 6 = n) {x2 x3 : Int} (h0 : n = 6 → Q 0 M) (hq : n < 6 → ∀ M' : Mm, M'.2.1 = M.2.1 → M'.2.2.2 = M.2.2.2 → (∀ o j, ¬ (o = q + 35 + 8 * s ∧ j = 6) → ¬ (o = q + 37 + 8 * s + n) → M'.1 o j = M.1 o j) → (∀ o j, ¬ (o = q + 37 + 8 * s + n ∧ j = 0) → M'.2.2.1 o j = M.2.2.1 o j) → M'.2.2.1 (q + 37 + 8 * s + n) 0 = some l → M'.1 (q + 37 + 8 * s + n) 1 = x2 → M'.1 (q + 37 + 8 * s + n) 2 = x3 → M'.1 (q + 37 + 8 * s + n) 3 = 0 → M'.1 (q + 35 + 8 * s) 6 = (n : Int) + 1 → Q 1 M') : P_X8_addPatch (q + 35 + 8 * s) (some l) x2 x3 M Q := by
  have hpl : q ≤ 87 ∧ 4 ≤ q := by rcases hp with rfl | rfl <;> omega
  unfold P_X8_addPatch
  rw [hv]
  refine ⟨fun z => ?_, fun z => h0 (by omega)⟩
  have hn6 : n < 6 := by omega
  have e := (sh_S hp hs).2
  rintro _ rfl
  refine goA (hP.2.2.2 s hs).2.1 ⟨by omega, by rw [e]⟩ ⟨by omega, by rw [e]; show (n : Int) < 6; omega⟩ ?_
  rintro _ rfl
  refine goO (k := q + 37 + 8 * s + n) (by rw [show ((n : Int)).toNat = n by omega]; exact (hP.2.2.2 s hs).2.2 n hn6) ⟨by omega, by rw [sh_P hp hs hn6]⟩ ?_
  intro M7 e7 M9 e9 M11 e11 M13 e13
  have w : ∀ o j, ¬ (o = q + 37 + 8 * s + n) → M13.1 o j = M.1 o j := fun o j z => by rw [e13, setI_o _ _ _ _ z, e11, setI_o _ _ _ _ z, e9, setI_o _ _ _ _ z, e7, setR_i]
  have w6 : M13.1 (q + 35 + 8 * s) 6 = n := by rw [w _ _ (by omega)]; exact hv
  rw [w6]
  refine ⟨inI_s (by omega) (by omega), ?_⟩
  intro M15 e15
  have r : M15.2 = M7.2 := by rw [e15]; show M13.2 = _; rw [e13]; show M11.2 = _; rw [e11]; show M9.2 = _; rw [e9]
  refine hq hn6 M15 (by rw [r, e7]) (by rw [r, e7]) (fun o j z1 z2 => by rw [e15, setI_n _ _ _ _ z1]; exact w o j z2) (fun o j z => by rw [r, e7, setR_n _ _ _ _ z]) (by rw [r, e7, setR_s]) ?_ ?_ ?_ (by rw [e15, setI_s])
  · rw [e15, setI_n _ _ _ _ (by omega), e13, setI_n _ _ _ _ (by omega), e11, setI_n _ _ _ _ (by omega), e9, setI_s]
  · rw [e15, setI_n _ _ _ _ (by omega), e13, setI_n _ _ _ _ (by omega), e11, setI_s]
  · rw [e15, setI_n _ _ _ _ (by omega), e13, setI_s]
end CPT
