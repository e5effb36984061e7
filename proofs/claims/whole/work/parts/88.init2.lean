/-! the constructors of Plan, Crowd, Text, Rest, Hurt, Roads -/
theorem sl_L0 : ∀ k, k < 9 → SL (4 + 3 + 4 * k) = SL (4 + 1) + 14 + 16 * k ∧ SL (87 + 3 + 4 * k) = SL (87 + 1) + 14 + 16 * k := by decide +kernel
theorem sl_L {p k : Nat} (hp : pl p) (h : k < 9) : SL (p + 3 + 4 * k) = SL (p + 1) + 14 + 16 * k := by
  rcases hp with rfl | rfl
  · exact (sl_L0 k h).1
  · exact (sl_L0 k h).2
theorem sl_S0 : ∀ k, k < 7 → SL (4 + 35 + 8 * k) = SL (4 + 1) + 142 + 37 * k ∧ SL (87 + 35 + 8 * k) = SL (87 + 1) + 142 + 37 * k := by decide +kernel
theorem sl_S {p k : Nat} (hp : pl p) (h : k < 7) : SL (p + 35 + 8 * k) = SL (p + 1) + 142 + 37 * k := by
  rcases hp with rfl | rfl
  · exact (sl_S0 k h).1
  · exact (sl_S0 k h).2
theorem sl_B : ∀ k, k < 13 → SL (173 + 3 * k) = SL 171 + 18 + 20 * k := by decide +kernel
section INJ
variable {M : Mm} {Q : Mm → Prop}
/-- the seats of a plan -/
theorem i_X5_51 {p : Nat} {M0 : Mm} (hp : pl p) (hn : M.2.2.2 = p + 35) (hf : frB M0 M p) (hi : ∀ j, M.1 p j = M0.1 p j) (r0 : M.2.2.1 p 0 = some (p + 1)) (r2 : M.2.2.1 p 2 = some (p + 2)) (hL : ∀ l, l < 8 → M.2.2.1 (p + 1) l = some (p + 3 + 4 * l) ∧ M.2.2.1 (p + 3 + 4 * l) 0 = some (p + 4 + 4 * l) ∧ M.2.2.1 (p + 3 + 4 * l) 1 = some (p + 5 + 4 * l) ∧ M.2.2.1 (p + 3 + 4 * l) 3 = some (p + 6 + 4 * l)) (hq : ∀ M' : Mm, M'.2.2.2 = p + 83 → frB M0 M' p → (∀ j, M'.1 p j = M0.1 p j) → StrP M'.2.2.1 p → Q M') : P_X5_init_51 p 0 M (p + 1) Q := by
  have hpl : p ≤ 87 ∧ 4 ≤ p := by rcases hp with rfl | rfl <;> omega
  obtain ⟨s0, s1, s2⟩ := sh_pl hp
  unfold P_X5_init_51
  refine lp_i (fun y : Int × Mm => ∃ k : Nat, y.1 = k ∧ k ≤ 6 ∧ y.2.2.2.2 = p + 35 + 8 * k ∧ (∀ o j, o < p + 35 → o ≠ p + 2 → y.2.1 o j = M.1 o j ∧ y.2.2.2.1 o j = M.2.2.1 o j) ∧ ∀ s, s < k → y.2.2.2.1 (p + 2) s = some (p + 35 + 8 * s) ∧ y.2.2.2.1 (p + 35 + 8 * s) 5 = some (p + 36 + 8 * s) ∧ ∀ i, i < 6 → y.2.2.2.1 (p + 36 + 8 * s) i = some (p + 37 + 8 * s + i)) (fun y => (6 - y.1).toNat) ⟨0, rfl, by omega, hn, fun _ _ _ _ => ⟨rfl, rfl⟩, fun s hs => by omega⟩ ?_
  rintro ⟨x1, M1⟩ ⟨k, f1, f2, f3, f4, f5⟩
  dsimp only at f1 f3 f4 f5
  subst f1
  show F_X5_init_51 p (p + 1) Q _ (k : Int) M1
  unfold F_X5_init_51
  refine ⟨fun hle => ?_, fun hlt => ?_⟩
  · have hk : k = 6 := by omega
    subst hk
    refine ⟨by omega, hq M1 (by omega) (fun o j z => ?_) (fun j => ?_) ⟨?_, ?_, fun l hl => ?_, f5⟩⟩
    · have a := f4 o j (by omega) (by omega)
      have b := hf o j z
      exact ⟨a.1.trans b.1, a.2.trans b.2⟩
    · rw [(f4 p j (by omega) (by omega)).1]; exact hi j
    · rw [(f4 p 0 (by omega) (by omega)).2]; exact r0
    · rw [(f4 p 2 (by omega) (by omega)).2]; exact r2
    · rw [(f4 (p + 1) l (by omega) (by omega)).2, (f4 (p + 3 + 4 * l) 0 (by omega) (by omega)).2, (f4 (p + 3 + 4 * l) 1 (by omega) (by omega)).2, (f4 (p + 3 + 4 * l) 3 (by omega) (by omega)).2]; exact hL l hl
  · have hk : k < 6 := by omega
    obtain ⟨t0, t1⟩ := sh_S hp hk
    have lk := sl_S hp (show k < 7 by omega)
    have lk1 := sl_S hp (show k + 1 < 7 by omega)
    have la : SL (p + 35 + 8 * k + 1) = SL (p + 35 + 8 * k) + 7 := by rw [SL1, t0]
    rw [show p + 35 + 8 * (k + 1) = p + 35 + 8 * k + 1 + 7 by omega] at lk1
    refine ⟨⟨rfl, by omega, by rw [s0]⟩, ?_⟩
    intro r2' e2
    have hr2 : r2' = some (p + 2) := by rw [e2, (f4 p 2 (by omega) (by omega)).2]; exact r2
    subst hr2
    refine al f3 ⟨t0, by omega, by omega, by omega⟩ (fun Mc ec nc => ?_)
    have fc : frB M1 Mc (p + 35 + 8 * k) := frB.rf.nw ec (by omega)
    refine ⟨⟨rfl, by omega, by rw [s0]⟩, ?_⟩
    intro r5 e5
    have hr5 : r5 = some (p + 1) := by rw [e5, (fc p 0 (by omega)).2, (f4 p 0 (by omega) (by omega)).2]; exact r0
    subst hr5
    refine goAn rfl ⟨by omega, by rw [s1]⟩ ⟨by decide, by rw [s1]; decide⟩ ?_
    intro r8 _
    refine nwS f3 nc ⟨by omega, by rw [t0], by omega, by omega, by omega⟩ ?_
    refine i_X8 (n := p + 35 + 8 * k + 1) nc nc (by omega) (by omega) (by rw [t0]) (by rw [show p + 35 + 8 * k + 1 = p + 36 + 8 * k by omega]; exact t1) (fun i hi => by rw [show p + 35 + 8 * k + 1 + 1 + i = p + 37 + 8 * k + i by omega]; exact sh_P hp hk hi) (fun Md nd fd r5 ri => ?_)
    intro _
    refine goAn rfl ⟨by omega, by rw [s2]⟩ ⟨by omega, by rw [s2]; show (k : Int) < 6; omega⟩ ?_
    refine goOn (k := p + 35 + 8 * k) (by rw [f3]) ⟨by omega, by rw [t0]⟩ ?_
    rw [show ((k : Int)).toNat = k by omega]
    intro Me ee
    refine ⟨inI_s (by omega) (by omega), ?_⟩
    intro v ev
    have fd' : frB M1 Md (p + 35 + 8 * k) := fc.tr fd (by omega)
    have fe : ∀ o j, o < p + 35 + 8 * k → o ≠ p + 2 → Me.1 o j = M1.1 o j ∧ Me.2.2.1 o j = M1.2.2.1 o j := fun o j z1 z2 => by
      have := fd' o j z1
      rw [ee, setR_n _ _ _ _ (by omega)]
      exact this
    refine ⟨⟨k + 1, by dsimp only; omega, by omega, ?_, fun o j z1 z2 => ?_, fun s hs => ?_⟩, by dsimp only; omega⟩
    · show Me.2.2.2 = _
      rw [ee]; show Md.2.2.2 = _; omega
    · have a := fe o j (by omega) z2
      have b := f4 o j z1 z2
      exact ⟨a.1.trans b.1, a.2.trans b.2⟩
    · show Me.2.2.1 _ _ = _ ∧ Me.2.2.1 _ _ = _ ∧ ∀ i, i < 6 → Me.2.2.1 _ i = _
      by_cases e : s = k
      · subst e
        refine ⟨by rw [ee, setR_s], ?_, fun i hi => ?_⟩
        · rw [ee, setR_n _ _ _ _ (by omega), r5]; exact congrArg some (by omega)
        · rw [ee, setR_n _ _ _ _ (by omega), show p + 36 + 8 * s = p + 35 + 8 * s + 1 by omega, ri i hi]; exact congrArg some (by omega)
      · obtain ⟨a1, a2, a3⟩ := f5 s (by omega)
        refine ⟨?_, ?_, fun i hi => ?_⟩
        · rw [ee, setR_n _ _ _ _ (by omega), (fd' _ _ (by omega)).2]; exact a1
        · rw [(fe _ _ (by omega) (by omega)).2]; exact a2
        · rw [(fe _ _ (by omega) (by omega)).2]; exact a3 i hi
theorem i_X5 {p n0 : Nat} (hp : pl p) (h0 : n0 = p + 1) (hn : M.2.2.2 = p + 1) (hq : ∀ M' : Mm, M'.2.2.2 = p + 83 → frB M M' p → (∀ j, M'.1 p j = M.1 p j) → StrP M'.2.2.1 p → Q M') : P_X5_init p M n0 Q := by
  subst h0
  have hpl : p ≤ 87 ∧ 4 ≤ p := by rcases hp with rfl | rfl <;> omega
  obtain ⟨s0, s1, s2⟩ := sh_pl hp
  have l1 : SL (p + 1 + 1) = SL (p + 1) + 8 := by rw [SL1, s1]
  have l2 : SL (p + 1 + 1 + 1) = SL (p + 1 + 1) + 6 := by rw [SL1, show p + 1 + 1 = p + 2 from rfl, s2]
  unfold P_X5_init
  refine ⟨by omega, by rw [hn, Nat.add_zero]; omega, ?_⟩
  refine al hn ⟨s1, by omega, by omega, by omega⟩ (fun Ma ea na => ?_)
  refine srS na ⟨by omega, by rw [s0]⟩ (fun Mb eb nb => ?_)
  refine al nb ⟨s2, by omega, by omega, by omega⟩ (fun Mc ec nc => ?_)
  refine srS nc ⟨by omega, by rw [s0]⟩ (fun Md ed nd => ?_)
  have fd : frB M Md p := (((frB.rf.nw ea (by omega)).sR eb (by omega)).nw ec (by omega)).sR ed (by omega)
  have r0 : Md.2.2.1 p 0 = some (p + 1) := by rw [ed, setR_n _ _ _ _ (by omega), ec, nM_ro (by omega), eb, setR_s, hn]
  have r2 : Md.2.2.1 p 2 = some (p + 2) := by rw [ed, setR_s, nb]
  have ip : ∀ j, Md.1 p j = M.1 p j := fun j => by
    rw [ed]; show Mc.1 p j = _
    rw [ec, nM_io (by omega), eb]; show Ma.1 p j = _
    rw [ea, nM_io (by omega)]
  unfold P_X5_init_24
  refine lp_i (fun y : Int × Mm => ∃ k : Nat, y.1 = k ∧ k ≤ 8 ∧ y.2.2.2.2 = p + 3 + 4 * k ∧ (∀ o j, o < p + 3 → o ≠ p + 1 → y.2.1 o j = Md.1 o j ∧ y.2.2.2.1 o j = Md.2.2.1 o j) ∧ ∀ l, l < k → y.2.2.2.1 (p + 1) l = some (p + 3 + 4 * l) ∧ y.2.2.2.1 (p + 3 + 4 * l) 0 = some (p + 4 + 4 * l) ∧ y.2.2.2.1 (p + 3 + 4 * l) 1 = some (p + 5 + 4 * l) ∧ y.2.2.2.1 (p + 3 + 4 * l) 3 = some (p + 6 + 4 * l)) (fun y => (8 - y.1).toNat) ⟨0, rfl, by omega, nd, fun _ _ _ _ => ⟨rfl, rfl⟩, fun s hs => by omega⟩ ?_
  rintro ⟨x1, M1⟩ ⟨k, f1, f2, f3, f4, f5⟩
  dsimp only at f1 f3 f4 f5
  subst f1
  show F_X5_init_24 p (p + 1) Q _ (k : Int) M1
  unfold F_X5_init_24
  refine ⟨fun hle => ?_, fun hlt => ?_⟩
  · have hk : k = 8 := by omega
    subst hk
    refine i_X5_51 (M0 := M) hp (by omega) (fun o j z => ?_) (fun j => ?_) ?_ ?_ f5 hq
    · have a := f4 o j (by omega) (by omega)
      have b := fd o j z
      exact ⟨a.1.trans b.1, a.2.trans b.2⟩
    · rw [(f4 p j (by omega) (by omega)).1]; exact ip j
    · rw [(f4 p 0 (by omega) (by omega)).2]; exact r0
    · rw [(f4 p 2 (by omega) (by omega)).2]; exact r2
  · have hk : k < 8 := by omega
    obtain ⟨t0, t1, t2, t3⟩ := sh_L hp hk
    have lk := sl_L hp (show k < 9 by omega)
    have lk1 := sl_L hp (show k + 1 < 9 by omega)
    have la : SL (p + 3 + 4 * k + 1) = SL (p + 3 + 4 * k) + 4 := by rw [SL1, t0]
    rw [show p + 3 + 4 * (k + 1) = p + 3 + 4 * k + 1 + 3 by omega] at lk1
    refine ⟨⟨rfl, by omega, by rw [s0]⟩, ?_⟩
    intro r2' e2
    have hr2 : r2' = some (p + 1) := by rw [e2, (f4 p 0 (by omega) (by omega)).2]; exact r0
    subst hr2
    refine al f3 ⟨t0, by omega, by omega, by omega⟩ (fun Mc ec nc => ?_)
    have fc : frB M1 Mc (p + 3 + 4 * k) := frB.rf.nw ec (by omega)
    refine nwS f3 nc ⟨by omega, by rw [t0], by omega, by omega, by omega⟩ ?_
    refine i_X3 (n := p + 3 + 4 * k + 1) nc nc (by omega) (by omega) (by rw [t0]) (by rw [show p + 3 + 4 * k + 1 = p + 4 + 4 * k by omega]; exact t1) (by rw [show p + 3 + 4 * k + 1 + 1 = p + 5 + 4 * k by omega]; exact t2) (by rw [show p + 3 + 4 * k + 1 + 1 + 1 = p + 6 + 4 * k by omega]; exact t3) (fun Me ne fe a0 a1 a3 => ?_)
    intro _
    refine goAn rfl ⟨by omega, by rw [s1]⟩ ⟨by omega, by rw [s1]; show (k : Int) < 8; omega⟩ ?_
    refine goOn (k := p + 3 + 4 * k) (by rw [f3]) ⟨by omega, by rw [t0]⟩ ?_
    rw [show ((k : Int)).toNat = k by omega]
    intro Mf ef
    refine ⟨inI_s (by omega) (by omega), ?_⟩
    intro v ev
    have fe' : frB M1 Me (p + 3 + 4 * k) := fc.tr fe (by omega)
    have ff : ∀ o j, o < p + 3 + 4 * k → o ≠ p + 1 → Mf.1 o j = M1.1 o j ∧ Mf.2.2.1 o j = M1.2.2.1 o j := fun o j z1 z2 => by
      have := fe' o j z1
      rw [ef, setR_n _ _ _ _ (by omega)]
      exact this
    refine ⟨⟨k + 1, by dsimp only; omega, by omega, ?_, fun o j z1 z2 => ?_, fun l hl => ?_⟩, by dsimp only; omega⟩
    · show Mf.2.2.2 = _
      rw [ef]; show Me.2.2.2 = _; omega
    · have a := ff o j (by omega) z2
      have b := f4 o j z1 z2
      exact ⟨a.1.trans b.1, a.2.trans b.2⟩
    · show Mf.2.2.1 _ _ = _ ∧ Mf.2.2.1 _ _ = _ ∧ Mf.2.2.1 _ _ = _ ∧ Mf.2.2.1 _ _ = _
      by_cases e : l = k
      · subst e
        refine ⟨by rw [ef, setR_s], ?_, ?_, ?_⟩
        · rw [ef, setR_n _ _ _ _ (by omega), a0]; exact congrArg some (by omega)
        · rw [ef, setR_n _ _ _ _ (by omega), a1]; exact congrArg some (by omega)
        · rw [ef, setR_n _ _ _ _ (by omega), a3]; exact congrArg some (by omega)
      · obtain ⟨b1, b2, b3, b4⟩ := f5 l (by omega)
        refine ⟨?_, ?_, ?_, ?_⟩
        · rw [ef, setR_n _ _ _ _ (by omega), (fe' _ _ (by omega)).2]; exact b1
        · rw [(ff _ _ (by omega) (by omega)).2]; exact b2
        · rw [(ff _ _ (by omega) (by omega)).2]; exact b3
        · rw [(ff _ _ (by omega) (by omega)).2]; exact b4
theorem i_X1 {n0 : Nat} (h0 : n0 = 171) (hn : M.2.2.2 = 171) (hq : ∀ M' : Mm, M'.2.2.2 = 209 → frB M M' 170 → (M'.1 170 1 = M.1 170 1 ∧ M'.1 170 2 = 60) → StrB M'.2.2.1 → (∀ b i, b < 12 → i < 6 → M'.1 (174 + 3 * b) i = 0 ∧ M'.1 (175 + 3 * b) i = -1) → Q M') : P_X1_init 170 M n0 Q := by
  subst h0
  unfold P_X1_init
  refine ⟨by omega, by rw [hn, Nat.add_zero]; omega, ?_⟩
  refine al hn (by decide +kernel) (fun Ma ea na => ?_)
  refine srS na (by decide) (fun Mb eb nb => ?_)
  refine siS nb (by decide) (fun Mg eg ng => ?_)
  refine al ng (by decide +kernel) (fun Mc ec nc => ?_)
  refine srS nc (by decide) (fun Md ed nd => ?_)
  have fd : frB M Md 170 := ((((frB.rf.nw ea (by omega)).sR eb (by omega)).sI eg (by omega)).nw ec (by omega)).sR ed (by omega)
  have r0 : Md.2.2.1 170 0 = some 171 := by
    rw [ed, setR_n _ _ _ _ (by omega), ec, nM_ro (by omega), eg]; show Mb.2.2.1 170 0 = _
    rw [eb, setR_s, hn]
  have r3 : Md.2.2.1 170 3 = some 172 := by rw [ed, setR_s, ng]
  have i2 : Md.1 170 2 = 60 := by
    rw [ed]; show Mc.1 170 2 = _
    rw [ec, nM_io (by omega), eg, setI_s]
  have i1 : Md.1 170 1 = M.1 170 1 := by
    rw [ed]; show Mc.1 170 1 = _
    rw [ec, nM_io (by omega), eg, setI_n _ _ _ _ (by omega), eb]; show Ma.1 170 1 = _
    rw [ea, nM_io (by omega)]
  unfold P_X1_init_29
  refine lp_i (fun y : Int × Mm => ∃ k : Nat, y.1 = k ∧ k ≤ 12 ∧ y.2.2.2.2 = 173 + 3 * k ∧ (∀ o j, o < 171 → y.2.1 o j = Md.1 o j ∧ y.2.2.2.1 o j = Md.2.2.1 o j) ∧ ∀ b, b < k → (y.2.2.2.1 171 b = some (173 + 3 * b) ∧ y.2.2.2.1 (173 + 3 * b) 6 = some (174 + 3 * b) ∧ y.2.2.2.1 (173 + 3 * b) 7 = some (175 + 3 * b)) ∧ ∀ i, i < 6 → y.2.1 (174 + 3 * b) i = 0 ∧ y.2.1 (175 + 3 * b) i = -1) (fun y => (12 - y.1).toNat) ⟨0, rfl, by omega, nd, fun _ _ _ => ⟨rfl, rfl⟩, fun s hs => by omega⟩ ?_
  rintro ⟨x1, M1⟩ ⟨k, f1, f2, f3, f4, f5⟩
  dsimp only at f1 f3 f4 f5
  subst f1
  show F_X1_init_29 170 171 Q _ (k : Int) M1
  unfold F_X1_init_29
  refine ⟨fun hle => ?_, fun hlt => ?_⟩
  · have hk : k = 12 := by omega
    subst hk
    refine ⟨by omega, hq M1 (by omega) (fun o j z => ?_) ⟨by rw [(f4 170 1 (by omega)).1]; exact i1, by rw [(f4 170 2 (by omega)).1]; exact i2⟩ ⟨by rw [(f4 170 0 (by omega)).2]; exact r0, by rw [(f4 170 3 (by omega)).2]; exact r3, fun b hb => (f5 b hb).1⟩ (fun b i hb hi => (f5 b hb).2 i hi)⟩
    have a := f4 o j (by omega)
    have b := fd o j z
    exact ⟨a.1.trans b.1, a.2.trans b.2⟩
  · have hk : k < 12 := by omega
    obtain ⟨t0, t1, t2⟩ := sh_B k hk
    have lk := sl_B k (show k < 13 by omega)
    have lk1 := sl_B (k + 1) (show k + 1 < 13 by omega)
    have la : SL (173 + 3 * k + 1) = SL (173 + 3 * k) + 8 := by rw [SL1, t0]
    rw [show 173 + 3 * (k + 1) = 173 + 3 * k + 1 + 2 by omega] at lk1
    refine ⟨⟨rfl, by omega, by decide⟩, ?_⟩
    intro r2' e2
    have hr2 : r2' = some 171 := by rw [e2, (f4 170 0 (by omega)).2]; exact r0
    subst hr2
    refine al f3 ⟨t0, by omega, by omega, by omega⟩ (fun Mc ec nc => ?_)
    have fc : frB M1 Mc (173 + 3 * k) := frB.rf.nw ec (by omega)
    refine nwS f3 nc ⟨by omega, by rw [t0], by omega, by omega, by omega⟩ ?_
    refine i_X0 (n := 173 + 3 * k + 1) nc nc (by omega) (by omega) (by rw [t0]) (by rw [show 173 + 3 * k + 1 = 174 + 3 * k by omega]; exact t1) (by rw [show 173 + 3 * k + 1 + 1 = 175 + 3 * k by omega]; exact t2) (fun Me ne fe a0 a1 a3 => ?_)
    intro _
    refine goAn rfl ⟨by omega, by decide⟩ ⟨by omega, by show (k : Int) < 12; omega⟩ ?_
    refine goOn (k := 173 + 3 * k) (by rw [f3]) ⟨by omega, by rw [t0]⟩ ?_
    rw [show ((k : Int)).toNat = k by omega]
    intro Mf ef
    refine ⟨inI_s (by omega) (by omega), ?_⟩
    intro v ev
    have fe' : frB M1 Me (173 + 3 * k) := fc.tr fe (by omega)
    have ff : ∀ o j, o < 173 + 3 * k → o ≠ 171 → Mf.1 o j = M1.1 o j ∧ Mf.2.2.1 o j = M1.2.2.1 o j := fun o j z1 z2 => by
      have := fe' o j z1
      rw [ef, setR_n _ _ _ _ (by omega)]
      exact this
    refine ⟨⟨k + 1, by dsimp only; omega, by omega, ?_, fun o j z1 => ?_, fun b hb => ?_⟩, by dsimp only; omega⟩
    · show Mf.2.2.2 = _
      rw [ef]; show Me.2.2.2 = _; omega
    · have a := ff o j (by omega) (by omega)
      have b := f4 o j z1
      exact ⟨a.1.trans b.1, a.2.trans b.2⟩
    · show (Mf.2.2.1 _ _ = _ ∧ Mf.2.2.1 _ _ = _ ∧ Mf.2.2.1 _ _ = _) ∧ ∀ i, i < 6 → Mf.1 _ _ = _ ∧ Mf.1 _ _ = _
      by_cases e : b = k
      · subst e
        refine ⟨⟨by rw [ef, setR_s], ?_, ?_⟩, fun i hi => ?_⟩
        · rw [ef, setR_n _ _ _ _ (by omega), a0]; exact congrArg some (by omega)
        · rw [ef, setR_n _ _ _ _ (by omega), a1]; exact congrArg some (by omega)
        · rw [ef, show 174 + 3 * b = 173 + 3 * b + 1 by omega, show 175 + 3 * b = 173 + 3 * b + 1 + 1 by omega]
          exact a3 i hi
      · obtain ⟨⟨b1, b2, b3⟩, b4⟩ := f5 b (by omega)
        refine ⟨⟨?_, ?_, ?_⟩, fun i hi => ?_⟩
        · rw [ef, setR_n _ _ _ _ (by omega), (fe' _ _ (by omega)).2]; exact b1
        · rw [(ff _ _ (by omega) (by omega)).2]; exact b2
        · rw [(ff _ _ (by omega) (by omega)).2]; exact b3
        · rw [(ff _ _ (by omega) (by omega)).1, (ff _ _ (by omega) (by omega)).1]; exact b4 i hi
theorem i_X9 {n0 : Nat} (h0 : n0 = 2) (hn : M.2.2.2 = 2) (hq : ∀ M' : Mm, M'.2.2.2 = 4 → frB M M' 1 → (∀ j, M'.1 1 j = M.1 1 j) → M'.2.2.1 1 0 = some 2 → M'.2.2.1 1 2 = some 3 → Q M') : P_X9_init 1 M n0 Q := by
  subst h0
  unfold P_X9_init
  refine ⟨by omega, by rw [hn, Nat.add_zero]; omega, ?_⟩
  refine al hn (by decide +kernel) (fun Ma ea na => ?_)
  refine srS na (by decide) (fun Mb eb nb => ?_)
  refine al nb (by decide +kernel) (fun Mc ec nc => ?_)
  refine srS nc (by decide) (fun Md ed nd => ?_)
  have fd : frB M Md 1 := (((frB.rf.nw ea (by omega)).sR eb (by omega)).nw ec (by omega)).sR ed (by omega)
  refine ⟨by omega, hq Md (by omega) fd (fun j => ?_) ?_ ?_⟩
  · rw [ed]; show Mc.1 1 j = _
    rw [ec, nM_io (by omega), eb]; show Ma.1 1 j = _
    rw [ea, nM_io (by omega)]
  · rw [ed, setR_n _ _ _ _ (by omega), ec, nM_ro (by omega), eb, setR_s, hn]
  · rw [ed, setR_s, nb]
theorem i_X7 {n0 : Nat} (h0 : n0 = 219) (hn : M.2.2.2 = 219) (hq : ∀ M' : Mm, M'.2.2.2 = 220 → frB M M' 218 → M'.2.2.1 218 0 = some 219 → (∀ j, M'.1 219 j = 0) → Q M') : P_X7_init 218 M n0 Q := by
  subst h0
  unfold P_X7_init
  refine ⟨by omega, by rw [hn, Nat.add_zero]; omega, ?_⟩
  refine al hn (by decide +kernel) (fun Ma ea na => ?_)
  refine srS na (by decide) (fun Mb eb nb => ?_)
  have fb : frB M Mb 218 := (frB.rf.nw ea (by omega)).sR eb (by omega)
  refine ⟨by omega, hq Mb (by omega) fb (by rw [eb, setR_s, hn]) (fun j => ?_)⟩
  rw [eb]; show Ma.1 219 j = _
  rw [ea]; exact nM_is (by omega)
theorem i_X2 {n0 : Nat} (h0 : n0 = 216) (hn : M.2.2.2 = 216) (hq : ∀ M' : Mm, M'.2.2.2 = 218 → frB M M' 215 → M'.1 215 0 = 300 ∧ M'.1 215 1 = 50 → M'.2.2.1 215 2 = some 216 → M'.2.2.1 215 3 = some 217 → Q M') : P_X2_init 215 M n0 Q := by
  subst h0
  unfold P_X2_init
  refine ⟨by omega, by rw [hn, Nat.add_zero]; omega, ?_⟩
  refine siS hn (by decide) (fun Me ee ne => ?_)
  refine siS ne (by decide) (fun Mf ef nf => ?_)
  refine al nf (by decide +kernel) (fun Ma ea na => ?_)
  refine srS na (by decide) (fun Mb eb nb => ?_)
  refine al nb (by decide +kernel) (fun Mc ec nc => ?_)
  refine srS nc (by decide) (fun Md ed nd => ?_)
  have fd : frB M Md 215 := (((((frB.rf.sI ee (by omega)).sI ef (by omega)).nw ea (by omega)).sR eb (by omega)).nw ec (by omega)).sR ed (by omega)
  have ip : ∀ j, Md.1 215 j = Mf.1 215 j := fun j => by
    rw [ed]; show Mc.1 215 j = _
    rw [ec, nM_io (by omega), eb]; show Ma.1 215 j = _
    rw [ea, nM_io (by omega)]
  refine ⟨by omega, hq Md (by omega) fd ⟨?_, ?_⟩ ?_ ?_⟩
  · rw [ip, ef, setI_n _ _ _ _ (by omega), ee, setI_s]
  · rw [ip, ef, setI_s]
  · rw [ed, setR_n _ _ _ _ (by omega), ec, nM_ro (by omega), eb, setR_s, nf]
  · rw [ed, setR_s, nb]
theorem i_X6 {n0 : Nat} (h0 : n0 = 210) (hn : M.2.2.2 = 210) (hq : ∀ M' : Mm, M'.2.2.2 = 215 → frB M M' 209 → M'.2.2.1 209 3 = some 210 → M'.2.2.1 209 4 = some 211 → M'.2.2.1 209 5 = some 212 → M'.2.2.1 209 6 = some 213 → M'.2.2.1 209 7 = some 214 → Q M') : P_X6_init 209 M n0 Q := by
  subst h0
  unfold P_X6_init
  refine ⟨by omega, by rw [hn, Nat.add_zero]; omega, ?_⟩
  refine siS hn (by decide) (fun M0 e0 n0 => ?_)
  refine al n0 (by decide +kernel) (fun Ma ea na => ?_)
  refine srS na (by decide) (fun Mb eb nb => ?_)
  refine al nb (by decide +kernel) (fun Mc ec nc => ?_)
  refine srS nc (by decide) (fun Md ed nd => ?_)
  refine al nd (by decide +kernel) (fun Me ee ne => ?_)
  refine srS ne (by decide) (fun Mf ef nf => ?_)
  refine al nf (by decide +kernel) (fun Mg eg ng => ?_)
  refine srS ng (by decide) (fun Mh eh nh => ?_)
  refine al nh (by decide +kernel) (fun Mi ei ni => ?_)
  refine srS ni (by decide) (fun Mj ej nj => ?_)
  have f0 : frB M M0 209 := frB.rf.sI e0 (by omega)
  have fb : frB M Mb 209 := (f0.nw ea (by omega)).sR eb (by omega)
  have fd : frB M Md 209 := (fb.nw ec (by omega)).sR ed (by omega)
  have ff : frB M Mf 209 := (fd.nw ee (by omega)).sR ef (by omega)
  have fh : frB M Mh 209 := (ff.nw eg (by omega)).sR eh (by omega)
  have fj : frB M Mj 209 := (fh.nw ei (by omega)).sR ej (by omega)
  refine ⟨by omega, hq Mj (by omega) fj ?_ ?_ ?_ ?_ ?_⟩
  · rw [ej, setR_n _ _ _ _ (by omega), ei, nM_ro (by omega), eh, setR_n _ _ _ _ (by omega), eg, nM_ro (by omega), ef, setR_n _ _ _ _ (by omega), ee, nM_ro (by omega), ed, setR_n _ _ _ _ (by omega), ec, nM_ro (by omega), eb, setR_s, n0]
  · rw [ej, setR_n _ _ _ _ (by omega), ei, nM_ro (by omega), eh, setR_n _ _ _ _ (by omega), eg, nM_ro (by omega), ef, setR_n _ _ _ _ (by omega), ee, nM_ro (by omega), ed, setR_s, nb]
  · rw [ej, setR_n _ _ _ _ (by omega), ei, nM_ro (by omega), eh, setR_n _ _ _ _ (by omega), eg, nM_ro (by omega), ef, setR_s, nd]
  · rw [ej, setR_n _ _ _ _ (by omega), ei, nM_ro (by omega), eh, setR_s, nf]
  · rw [ej, setR_s, nh]
end INJ
