/-! THE START: what the constructors leave -/
theorem SL1 (n : Nat) : SL (n + 1) = SL n + (SH n).2 := rfl
theorem nM_io {M : Mm} {o j : Nat} (h : o ≠ M.2.2.2) : (newM M).1 o j = M.1 o j := up1_o _ _ _ h
theorem nM_ro {M : Mm} {o j : Nat} (h : o ≠ M.2.2.2) : (newM M).2.2.1 o j = M.2.2.1 o j := up1_o _ _ _ h
theorem nM_is {M : Mm} {o j : Nat} (h : o = M.2.2.2) : (newM M).1 o j = 0 := by subst h; exact up1_s _ _ _ _
theorem al {M : Mm} {n n0 c d : Nat} {ks : Nat × Nat} {G : Mm → Prop} (hn : M.2.2.2 = n) (h : SH n = ks ∧ n < 1000 ∧ n + 1 - n0 ≤ c ∧ SL (n + 1) - SL n0 ≤ d) (g : ∀ M1 : Mm, M1 = newM M → M1.2.2.2 = n + 1 → G M1) : SH M.2.2.2 = ks ∧ M.2.2.2 < 1000 ∧ M.2.2.2 + 1 - n0 ≤ c ∧ SL (M.2.2.2 + 1) - SL n0 ≤ d ∧ ∀ M1 : Mm, M1 = newM M → G M1 := by
  subst hn
  exact ⟨h.1, h.2.1, h.2.2.1, h.2.2.2, fun M1 e => g M1 e (by rw [e])⟩
theorem srS {ci o k n : Nat} {v : Option Nat} {M : Mm} {G : Mm → Prop} (hn : M.2.2.2 = n) (h : o < n ∧ (SH o).1 = ci) (g : ∀ M3 : Mm, M3 = setR M o k v → M3.2.2.2 = n → G M3) : isOn ci M.2.2.2 (some o) o ∧ ∀ M3 : Mm, M3 = setR M o k v → G M3 := by
  subst hn
  exact ⟨⟨rfl, h⟩, fun M3 e => g M3 e (by rw [e])⟩
theorem siS {ci o k n : Nat} {v : Int} {M : Mm} {G : Mm → Prop} (hn : M.2.2.2 = n) (h : o < n ∧ (SH o).1 = ci) (g : ∀ M3 : Mm, M3 = setI M o k v → M3.2.2.2 = n → G M3) : isOn ci M.2.2.2 (some o) o ∧ ∀ M3 : Mm, M3 = setI M o k v → G M3 := by
  subst hn
  exact ⟨⟨rfl, h⟩, fun M3 e => g M3 e (by rw [e])⟩
theorem nwS {ci a n0 c d s n m x y : Nat} {G : Nat → Prop} (hn : x = n) (hm : y = m) (h : n < m ∧ (SH n).1 = ci ∧ m + a - n0 ≤ c ∧ SL (m + a) - SL n0 ≤ d ∧ SL (m + a) = SL m + s) (g : G n) : ∃ o : Nat, isOn ci y (some x) o ∧ y + a - n0 ≤ c ∧ SL (y + a) - SL n0 ≤ d ∧ SL (y + a) = SL y + s ∧ G o := by
  subst hn hm
  exact ⟨x, ⟨rfl, h.1, h.2.1⟩, h.2.2.1, h.2.2.2.1, h.2.2.2.2, g⟩
theorem goOn {ci k n : Nat} {r : Option Nat} {P : Nat → Prop} (hr : r = some k) (hk : k < n ∧ (SH k).1 = ci) (h : P k) : ∃ o, isOn ci n r o ∧ P o := ⟨k, ⟨hr, hk⟩, h⟩
theorem goAn {ka k n : Nat} {r : Option Nat} {i : Int} {P : Nat → Prop} (hr : r = some k) (hk : k < n ∧ (SH k).1 = ka) (hi : 0 ≤ i ∧ i < ((SH k).2 : Int)) (h : P k) : ∃ o, isAn ka n r o i ∧ P o := ⟨k, ⟨hr, hk.1, hk.2, hi⟩, h⟩
/-- below a nothing changes -/
def frB (M M' : Mm) (a : Nat) : Prop := ∀ o j, o < a → M'.1 o j = M.1 o j ∧ M'.2.2.1 o j = M.2.2.1 o j
theorem frB.rf {M : Mm} {a : Nat} : frB M M a := fun _ _ _ => ⟨rfl, rfl⟩
theorem frB.tr {M M1 M2 : Mm} {a b : Nat} (h : frB M M1 a) (h2 : frB M1 M2 b) (hab : a ≤ b) : frB M M2 a := fun o j z => ⟨((h2 o j (by omega)).1).trans (h o j z).1, ((h2 o j (by omega)).2).trans (h o j z).2⟩
theorem frB.nw {M M1 M2 : Mm} {a : Nat} (h : frB M M1 a) (e : M2 = newM M1) (ha : a ≤ M1.2.2.2) : frB M M2 a := fun o j z => by
  subst e
  exact ⟨(nM_io (by omega)).trans (h o j z).1, (nM_ro (by omega)).trans (h o j z).2⟩
theorem frB.sR {M M1 M2 : Mm} {a o' k : Nat} {v : Option Nat} (h : frB M M1 a) (e : M2 = setR M1 o' k v) (ha : a ≤ o') : frB M M2 a := fun o j z => by
  subst e
  exact ⟨(h o j z).1, (setR_n _ _ _ _ (by omega)).trans (h o j z).2⟩
theorem frB.sI {M M1 M2 : Mm} {a o' k : Nat} {v : Int} (h : frB M M1 a) (e : M2 = setI M1 o' k v) (ha : a ≤ o') : frB M M2 a := fun o j z => by
  subst e
  exact ⟨(setI_n _ _ _ _ (by omega)).trans (h o j z).1, (h o j z).2⟩
/-- from a on all ints are 0 -/
def zB (M : Mm) (a : Nat) : Prop := ∀ o j, a ≤ o → o < M.2.2.2 → M.1 o j = 0
theorem zB.nw {M1 M2 : Mm} {a : Nat} (h : zB M1 a) (e : M2 = newM M1) : zB M2 a := fun o j h1 h2 => by
  subst e
  by_cases x : o = M1.2.2.2
  · exact nM_is x
  · have h2 : o < M1.2.2.2 + 1 := h2
    exact (nM_io x).trans (h o j h1 (by omega))
theorem zB.sR {M1 M2 : Mm} {a o' k : Nat} {v : Option Nat} (h : zB M1 a) (e : M2 = setR M1 o' k v) : zB M2 a := fun o j h1 h2 => by subst e; exact h o j h1 h2
theorem zB.sI {M1 M2 : Mm} {a o' k : Nat} {v : Int} (h : zB M1 a) (e : M2 = setI M1 o' k v) (ho : o' < a) : zB M2 a := fun o j h1 h2 => by subst e; exact (setI_n _ _ _ _ (by omega)).trans (h o j h1 h2)
theorem StrP.lt {R R' : RFn} {p : Nat} (h : StrP R p) (e : ∀ o j, p ≤ o → o < p + 83 → R' o j = R o j) : StrP R' p := by
  obtain ⟨h1, h2, h3, h4⟩ := h
  refine ⟨by rw [e _ _ (by omega) (by omega)]; exact h1, by rw [e _ _ (by omega) (by omega)]; exact h2, fun l hl => ?_, fun s hs => ?_⟩
  · obtain ⟨a, b, c, d⟩ := h3 l hl
    exact ⟨by rw [e _ _ (by omega) (by omega)]; exact a, by rw [e _ _ (by omega) (by omega)]; exact b, by rw [e _ _ (by omega) (by omega)]; exact c, by rw [e _ _ (by omega) (by omega)]; exact d⟩
  · obtain ⟨a, b, c⟩ := h4 s hs
    exact ⟨by rw [e _ _ (by omega) (by omega)]; exact a, by rw [e _ _ (by omega) (by omega)]; exact b, fun i hi => by rw [e _ _ (by omega) (by omega)]; exact c i hi⟩
section INI
variable {M : Mm} {Q : Mm → Prop}
theorem i_X3 {o0 n n0 : Nat} (h0 : n0 = n) (hn : M.2.2.2 = n) (ho : o0 < n) (hb : n < 900) (s0 : (SH o0).1 = 3) (s1 : SH n = (14, 4)) (s2 : SH (n + 1) = (14, 4)) (s3 : SH (n + 1 + 1) = (14, 4)) (hq : ∀ M' : Mm, M'.2.2.2 = n + 3 → frB M M' o0 → M'.2.2.1 o0 0 = some n → M'.2.2.1 o0 1 = some (n + 1) → M'.2.2.1 o0 3 = some (n + 2) → Q M') : P_X3_init o0 M n0 Q := by
  subst h0
  have l1 : SL (n0 + 1) = SL n0 + 4 := by rw [SL1, s1]
  have l2 : SL (n0 + 1 + 1) = SL (n0 + 1) + 4 := by rw [SL1, s2]
  have l3 : SL (n0 + 1 + 1 + 1) = SL (n0 + 1 + 1) + 4 := by rw [SL1, s3]
  unfold P_X3_init
  refine ⟨by omega, by rw [hn, Nat.add_zero]; omega, ?_⟩
  refine al hn ⟨s1, by omega, by omega, by omega⟩ (fun Ma ea na => ?_)
  refine srS na ⟨by omega, s0⟩ (fun Mb eb nb => ?_)
  refine al nb ⟨s2, by omega, by omega, by omega⟩ (fun Mc ec nc => ?_)
  refine srS nc ⟨by omega, s0⟩ (fun Md ed nd => ?_)
  refine al nd ⟨s3, by omega, by omega, by omega⟩ (fun Me ee ne => ?_)
  refine srS ne ⟨by omega, s0⟩ (fun Mf ef nf => ?_)
  have f : frB M Mf o0 := (((((frB.rf.nw ea (by omega)).sR eb (by omega)).nw ec (by omega)).sR ed (by omega)).nw ee (by omega)).sR ef (by omega)
  refine ⟨by omega, hq Mf (by omega) f ?_ ?_ ?_⟩
  · rw [ef, setR_n _ _ _ _ (by omega), ee, nM_ro (by omega), ed, setR_n _ _ _ _ (by omega), ec, nM_ro (by omega), eb, setR_s, hn]
  · rw [ef, setR_n _ _ _ _ (by omega), ee, nM_ro (by omega), ed, setR_s, nb]
  · rw [ef, setR_s, nd]
theorem i_X4 {o0 n n0 : Nat} {a1 : Option Nat} (h0 : n0 = n) (hn : M.2.2.2 = n) (ho : o0 < n) (s0 : (SH o0).1 = 4) (hq : ∀ M' : Mm, M'.2.2.2 = n → frB M M' o0 → Q M') : P_X4_init o0 a1 M n0 Q := by
  subst h0
  unfold P_X4_init
  refine ⟨by omega, by rw [hn, Nat.add_zero]; omega, ?_⟩
  refine srS hn ⟨by omega, s0⟩ (fun Ma ea na => ?_)
  refine siS na ⟨by omega, s0⟩ (fun Mb eb nb => ?_)
  exact ⟨by omega, hq Mb (by omega) ((frB.rf.sR ea (by omega)).sI eb (by omega))⟩
theorem i_X8 {o0 n n0 : Nat} {a1 : Option Nat} (h0 : n0 = n) (hn : M.2.2.2 = n) (ho : o0 < n) (hb : n < 900) (s0 : (SH o0).1 = 8) (s1 : SH n = (17, 6)) (s2 : ∀ i, i < 6 → SH (n + 1 + i) = (4, 4)) (hq : ∀ M' : Mm, M'.2.2.2 = n + 7 → frB M M' o0 → M'.2.2.1 o0 5 = some n → (∀ i, i < 6 → M'.2.2.1 n i = some (n + 1 + i)) → Q M') : P_X8_init o0 a1 M n0 Q := by
  subst h0
  have l1 : SL (n0 + 1) = SL n0 + 6 := by rw [SL1, s1]
  have l2 : ∀ k, k ≤ 6 → SL (n0 + 1 + k) = SL n0 + 6 + 4 * k := by
    intro k
    induction k with
    | zero => intro _; exact l1
    | succ m ih =>
      intro h
      have := ih (by omega)
      show SL (n0 + 1 + m) + (SH (n0 + 1 + m)).2 = _
      rw [s2 m (by omega)]
      show SL (n0 + 1 + m) + 4 = _
      omega
  unfold P_X8_init
  refine ⟨by omega, by rw [hn, Nat.add_zero]; omega, ?_⟩
  refine al hn ⟨s1, by omega, by omega, by omega⟩ (fun Ma ea na => ?_)
  refine srS na ⟨by omega, s0⟩ (fun Mb eb nb => ?_)
  have fb : frB M Mb o0 := (frB.rf.nw ea (by omega)).sR eb (by omega)
  have rb : Mb.2.2.1 o0 5 = some n0 := by rw [eb, setR_s, hn]
  unfold P_X8_init_15
  refine lp_i (fun y : Int × Mm => ∃ k : Nat, y.1 = k ∧ k ≤ 6 ∧ y.2.2.2.2 = n0 + 1 + k ∧ frB M y.2 o0 ∧ y.2.2.2.1 o0 5 = some n0 ∧ ∀ i, i < k → y.2.2.2.1 n0 i = some (n0 + 1 + i)) (fun y => (6 - y.1).toNat) ⟨0, rfl, by omega, nb, fb, rb, fun i hi => by omega⟩ ?_
  rintro ⟨x2, M1⟩ ⟨k, f1, f2, f3, f4, f5, f6⟩
  dsimp only at f1 f3 f4 f5 f6
  subst f1
  show F_X8_init_15 o0 a1 n0 Q _ (k : Int) M1
  unfold F_X8_init_15
  refine ⟨fun hle => ?_, fun hlt => ?_⟩
  · have hk : k = 6 := by omega
    subst hk
    exact ⟨by omega, hq M1 (by omega) f4 f5 f6⟩
  · have hk : k < 6 := by omega
    have sk := s2 k hk
    have lk := l2 k (by omega)
    have lk1 : SL (n0 + 1 + k + 1) = SL n0 + 6 + 4 * (k + 1) := l2 (k + 1) (by omega)
    refine ⟨⟨rfl, by omega, s0⟩, ?_⟩
    intro r2 e2
    have hr2 : r2 = some n0 := by rw [e2]; exact f5
    subst hr2
    refine al f3 ⟨sk, by omega, by omega, by omega⟩ (fun Mc ec nc => ?_)
    refine nwS f3 nc ⟨by omega, by rw [sk], by omega, by rw [Nat.add_zero]; omega, rfl⟩ ?_
    refine i_X4 (n := n0 + 1 + k + 1) nc nc (by omega) (by rw [sk]) (fun Md nd fd => ?_)
    intro _
    refine goAn rfl ⟨by omega, by rw [s1]⟩ ⟨by omega, by rw [s1]; show (k : Int) < 6; omega⟩ ?_
    refine goOn (k := n0 + 1 + k) (by rw [f3]) ⟨by omega, by rw [sk]⟩ ?_
    rw [show ((k : Int)).toNat = k by omega]
    intro Me ee
    refine ⟨inI_s (by omega) (by omega), ?_⟩
    intro v ev
    have fc : frB M1 Mc (n0 + 1 + k) := frB.rf.nw ec (by omega)
    have fd' : frB M1 Md (n0 + 1 + k) := fc.tr fd (by omega)
    refine ⟨⟨k + 1, by dsimp only; omega, by omega, ?_, ?_, ?_, fun i hi => ?_⟩, by dsimp only; omega⟩
    · show Me.2.2.2 = _
      rw [ee]; show Md.2.2.2 = _; omega
    · show frB M Me o0
      exact (f4.tr fd' (by omega)).sR ee (by omega)
    · show Me.2.2.1 o0 5 = _
      rw [ee, setR_n _ _ _ _ (by omega), (fd' o0 5 (by omega)).2]; exact f5
    · show Me.2.2.1 n0 i = _
      rw [ee]
      by_cases e : i = k
      · subst e; rw [setR_s]
      · rw [setR_n _ _ _ _ (by omega), (fd' n0 i (by omega)).2]; exact f6 i (by omega)
theorem i_X0 {o0 n n0 : Nat} (h0 : n0 = n) (hn : M.2.2.2 = n) (ho : o0 < n) (hb : n < 900) (s0 : (SH o0).1 = 0) (s1 : SH n = (14, 6)) (s2 : SH (n + 1) = (14, 6)) (hq : ∀ M' : Mm, M'.2.2.2 = n + 2 → frB M M' o0 → M'.2.2.1 o0 6 = some n → M'.2.2.1 o0 7 = some (n + 1) → (∀ j, j < 6 → M'.1 n j = 0 ∧ M'.1 (n + 1) j = -1) → Q M') : P_X0_init o0 M n0 Q := by
  subst h0
  have l1 : SL (n0 + 1) = SL n0 + 6 := by rw [SL1, s1]
  have l2 : SL (n0 + 1 + 1) = SL (n0 + 1) + 6 := by rw [SL1, s2]
  unfold P_X0_init
  refine ⟨by omega, by rw [hn, Nat.add_zero]; omega, ?_⟩
  refine al hn ⟨s1, by omega, by omega, by omega⟩ (fun Ma ea na => ?_)
  refine srS na ⟨by omega, s0⟩ (fun Mb eb nb => ?_)
  refine al nb ⟨s2, by omega, by omega, by omega⟩ (fun Mc ec nc => ?_)
  refine srS nc ⟨by omega, s0⟩ (fun Md ed nd => ?_)
  have fd : frB M Md o0 := (((frB.rf.nw ea (by omega)).sR eb (by omega)).nw ec (by omega)).sR ed (by omega)
  have r6 : Md.2.2.1 o0 6 = some n0 := by rw [ed, setR_n _ _ _ _ (by omega), ec, nM_ro (by omega), eb, setR_s, hn]
  have r7 : Md.2.2.1 o0 7 = some (n0 + 1) := by rw [ed, setR_s, nb]
  have z0 : ∀ j, Md.1 n0 j = 0 := fun j => by
    rw [ed]; show Mc.1 n0 j = 0
    rw [ec, nM_io (by omega), eb]; show Ma.1 n0 j = 0
    rw [ea]; exact nM_is (by omega)
  unfold P_X0_init_22
  refine lp_i (fun y : Int × Mm => ∃ k : Nat, y.1 = k ∧ k ≤ 6 ∧ y.2.2 = Md.2 ∧ (∀ o j, o ≠ n0 + 1 → y.2.1 o j = Md.1 o j) ∧ ∀ j, j < k → y.2.1 (n0 + 1) j = -1) (fun y => (6 - y.1).toNat) ⟨0, rfl, by omega, rfl, fun _ _ _ => rfl, fun j hj => by omega⟩ ?_
  rintro ⟨x1, M1⟩ ⟨k, f1, f2, f3, f4, f5⟩
  dsimp only at f1 f3 f4 f5
  subst f1
  show F_X0_init_22 o0 n0 Q _ (k : Int) M1
  have n1 : M1.2.2.2 = n0 + 1 + 1 := by rw [f3]; exact nd
  unfold F_X0_init_22
  refine ⟨fun hle => ⟨by omega, hq M1 (by omega) (fun o j z => ?_) (by rw [f3]; exact r6) (by rw [f3]; exact r7) (fun j hj => ⟨?_, f5 j (by omega)⟩)⟩, fun hlt => ?_⟩
  · have := fd o j z
    exact ⟨(f4 o j (by omega)).trans this.1, by rw [f3]; exact this.2⟩
  · rw [f4 n0 j (by omega)]; exact z0 j
  · refine ⟨⟨rfl, by omega, s0⟩, ?_⟩
    intro r2 e2
    have hr2 : r2 = some (n0 + 1) := by rw [e2, f3]; exact r7
    subst hr2
    refine goAn rfl ⟨by omega, by rw [s2]⟩ ⟨by omega, by rw [s2]; show (k : Int) < 6; omega⟩ ?_
    rw [show ((k : Int)).toNat = k by omega]
    intro Me ee
    refine ⟨inI_s (by omega) (by omega), ?_⟩
    intro v ev
    refine ⟨⟨k + 1, by dsimp only; omega, by omega, by rw [ee]; exact f3, fun o j z => ?_, fun j hj => ?_⟩, by dsimp only; omega⟩
    · show Me.1 o j = _
      rw [ee, setI_o _ _ _ _ z]; exact f4 o j z
    · show Me.1 (n0 + 1) j = _
      rw [ee]
      by_cases e : j = k
      · subst e; rw [setI_s]
      · rw [setI_n _ _ _ _ (by omega)]; exact f5 j (by omega)
end INI
