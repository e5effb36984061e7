/-! the constructors of the class and of the reference; what holds at the start -/
def frC (S S' : Mm) (a f : Nat) : Prop := ∀ o j, o < a → S'.1 o j = S.1 o j ∧ (¬ (o = 0 ∧ j = f) → S'.2.2.1 o j = S.2.2.1 o j)
theorem frC.mk {S A B S' : Mm} {a f : Nat} {v : Option Nat} (eA : A = newM S) (hS : S.2.2.2 = a) (fB : frB A B a) (eS : S' = setR B 0 f v) : frC S S' a f := fun o j z => by
  have h := fB o j z
  rw [eA, nM_io (by omega), nM_ro (by omega)] at h
  rw [eS]
  exact ⟨h.1, fun y => (setR_n _ _ _ _ y).trans h.2⟩
section INK
variable {M : Mm} {Q : Mm → Prop}
theorem i_X12 {n0 : Nat} (h0 : n0 = 222) (hn : M.2.2.2 = 222) (hq : ∀ M' : Mm, M'.2.2.2 = 243 → frB M M' 221 → (∀ j, j < 17 → M'.1 221 j = M.1 221 j) → (M'.1 221 17 = 60 ∧ M'.1 221 18 = 300 ∧ M'.1 221 19 = 50) → StrM M'.2.2.1 → (∀ o j, 222 ≤ o → o < 243 → o ≠ 235 → M'.1 o j = 0) → (∀ j, j < 72 → M'.1 235 j = -4) → Q M') : P_X12_init 221 M n0 Q := by
  subst h0
  unfold P_X12_init
  refine ⟨by omega, by rw [hn, Nat.add_zero]; omega, ?_⟩
  have f0 : frB M M 221 := frB.rf
  have z0 : zB M 222 := fun o j h1 h2 => by omega
  refine al (n := 222) hn (by decide +kernel) (fun A1 eA1 nA1 => ?_)
  refine srS (n := 223) nA1 (by decide) (fun B1 eB1 nB1 => ?_)
  have f1 : frB M B1 221 := (f0.nw eA1 (by omega)).sR eB1 (by omega)
  have z1 : zB B1 222 := (z0.nw eA1).sR eB1
  have k1 : ∀ j, j ≠ 1 → B1.2.2.1 221 j = M.2.2.1 221 j := fun j hj => by rw [eB1, setR_n _ _ _ _ (fun y => hj y.2), eA1]; exact nM_ro (by omega)
  have s1 : B1.2.2.1 221 1 = some 222 := by rw [eB1, setR_s, hn]
  have i1 : ∀ j, B1.1 221 j = M.1 221 j := fun j => by rw [eB1]; show A1.1 221 j = _; rw [eA1]; exact nM_io (by omega)
  refine al (n := 223) nB1 (by decide +kernel) (fun A2 eA2 nA2 => ?_)
  refine srS (n := 224) nA2 (by decide) (fun B2 eB2 nB2 => ?_)
  have f2 : frB M B2 221 := (f1.nw eA2 (by omega)).sR eB2 (by omega)
  have z2 : zB B2 222 := (z1.nw eA2).sR eB2
  have k2 : ∀ j, j ≠ 2 → B2.2.2.1 221 j = B1.2.2.1 221 j := fun j hj => by rw [eB2, setR_n _ _ _ _ (fun y => hj y.2), eA2]; exact nM_ro (by omega)
  have s2 : B2.2.2.1 221 2 = some 223 := by rw [eB2, setR_s, nB1]
  have i2 : ∀ j, B2.1 221 j = B1.1 221 j := fun j => by rw [eB2]; show A2.1 221 j = _; rw [eA2]; exact nM_io (by omega)
  refine al (n := 224) nB2 (by decide +kernel) (fun A3 eA3 nA3 => ?_)
  refine srS (n := 225) nA3 (by decide) (fun B3 eB3 nB3 => ?_)
  have f3 : frB M B3 221 := (f2.nw eA3 (by omega)).sR eB3 (by omega)
  have z3 : zB B3 222 := (z2.nw eA3).sR eB3
  have k3 : ∀ j, j ≠ 3 → B3.2.2.1 221 j = B2.2.2.1 221 j := fun j hj => by rw [eB3, setR_n _ _ _ _ (fun y => hj y.2), eA3]; exact nM_ro (by omega)
  have s3 : B3.2.2.1 221 3 = some 224 := by rw [eB3, setR_s, nB2]
  have i3 : ∀ j, B3.1 221 j = B2.1 221 j := fun j => by rw [eB3]; show A3.1 221 j = _; rw [eA3]; exact nM_io (by omega)
  refine al (n := 225) nB3 (by decide +kernel) (fun A4 eA4 nA4 => ?_)
  refine srS (n := 226) nA4 (by decide) (fun B4 eB4 nB4 => ?_)
  have f4 : frB M B4 221 := (f3.nw eA4 (by omega)).sR eB4 (by omega)
  have z4 : zB B4 222 := (z3.nw eA4).sR eB4
  have k4 : ∀ j, j ≠ 4 → B4.2.2.1 221 j = B3.2.2.1 221 j := fun j hj => by rw [eB4, setR_n _ _ _ _ (fun y => hj y.2), eA4]; exact nM_ro (by omega)
  have s4 : B4.2.2.1 221 4 = some 225 := by rw [eB4, setR_s, nB3]
  have i4 : ∀ j, B4.1 221 j = B3.1 221 j := fun j => by rw [eB4]; show A4.1 221 j = _; rw [eA4]; exact nM_io (by omega)
  refine al (n := 226) nB4 (by decide +kernel) (fun A5 eA5 nA5 => ?_)
  refine srS (n := 227) nA5 (by decide) (fun B5 eB5 nB5 => ?_)
  have f5 : frB M B5 221 := (f4.nw eA5 (by omega)).sR eB5 (by omega)
  have z5 : zB B5 222 := (z4.nw eA5).sR eB5
  have k5 : ∀ j, j ≠ 5 → B5.2.2.1 221 j = B4.2.2.1 221 j := fun j hj => by rw [eB5, setR_n _ _ _ _ (fun y => hj y.2), eA5]; exact nM_ro (by omega)
  have s5 : B5.2.2.1 221 5 = some 226 := by rw [eB5, setR_s, nB4]
  have i5 : ∀ j, B5.1 221 j = B4.1 221 j := fun j => by rw [eB5]; show A5.1 221 j = _; rw [eA5]; exact nM_io (by omega)
  refine al (n := 227) nB5 (by decide +kernel) (fun A6 eA6 nA6 => ?_)
  refine srS (n := 228) nA6 (by decide) (fun B6 eB6 nB6 => ?_)
  have f6 : frB M B6 221 := (f5.nw eA6 (by omega)).sR eB6 (by omega)
  have z6 : zB B6 222 := (z5.nw eA6).sR eB6
  have k6 : ∀ j, j ≠ 6 → B6.2.2.1 221 j = B5.2.2.1 221 j := fun j hj => by rw [eB6, setR_n _ _ _ _ (fun y => hj y.2), eA6]; exact nM_ro (by omega)
  have s6 : B6.2.2.1 221 6 = some 227 := by rw [eB6, setR_s, nB5]
  have i6 : ∀ j, B6.1 221 j = B5.1 221 j := fun j => by rw [eB6]; show A6.1 221 j = _; rw [eA6]; exact nM_io (by omega)
  refine al (n := 228) nB6 (by decide +kernel) (fun A7 eA7 nA7 => ?_)
  refine srS (n := 229) nA7 (by decide) (fun B7 eB7 nB7 => ?_)
  have f7 : frB M B7 221 := (f6.nw eA7 (by omega)).sR eB7 (by omega)
  have z7 : zB B7 222 := (z6.nw eA7).sR eB7
  have k7 : ∀ j, j ≠ 7 → B7.2.2.1 221 j = B6.2.2.1 221 j := fun j hj => by rw [eB7, setR_n _ _ _ _ (fun y => hj y.2), eA7]; exact nM_ro (by omega)
  have s7 : B7.2.2.1 221 7 = some 228 := by rw [eB7, setR_s, nB6]
  have i7 : ∀ j, B7.1 221 j = B6.1 221 j := fun j => by rw [eB7]; show A7.1 221 j = _; rw [eA7]; exact nM_io (by omega)
  refine al (n := 229) nB7 (by decide +kernel) (fun A8 eA8 nA8 => ?_)
  refine srS (n := 230) nA8 (by decide) (fun B8 eB8 nB8 => ?_)
  have f8 : frB M B8 221 := (f7.nw eA8 (by omega)).sR eB8 (by omega)
  have z8 : zB B8 222 := (z7.nw eA8).sR eB8
  have k8 : ∀ j, j ≠ 8 → B8.2.2.1 221 j = B7.2.2.1 221 j := fun j hj => by rw [eB8, setR_n _ _ _ _ (fun y => hj y.2), eA8]; exact nM_ro (by omega)
  have s8 : B8.2.2.1 221 8 = some 229 := by rw [eB8, setR_s, nB7]
  have i8 : ∀ j, B8.1 221 j = B7.1 221 j := fun j => by rw [eB8]; show A8.1 221 j = _; rw [eA8]; exact nM_io (by omega)
  refine al (n := 230) nB8 (by decide +kernel) (fun A9 eA9 nA9 => ?_)
  refine srS (n := 231) nA9 (by decide) (fun B9 eB9 nB9 => ?_)
  have f9 : frB M B9 221 := (f8.nw eA9 (by omega)).sR eB9 (by omega)
  have z9 : zB B9 222 := (z8.nw eA9).sR eB9
  have k9 : ∀ j, j ≠ 9 → B9.2.2.1 221 j = B8.2.2.1 221 j := fun j hj => by rw [eB9, setR_n _ _ _ _ (fun y => hj y.2), eA9]; exact nM_ro (by omega)
  have s9 : B9.2.2.1 221 9 = some 230 := by rw [eB9, setR_s, nB8]
  have i9 : ∀ j, B9.1 221 j = B8.1 221 j := fun j => by rw [eB9]; show A9.1 221 j = _; rw [eA9]; exact nM_io (by omega)
  refine al (n := 231) nB9 (by decide +kernel) (fun A10 eA10 nA10 => ?_)
  refine srS (n := 232) nA10 (by decide) (fun B10 eB10 nB10 => ?_)
  have f10 : frB M B10 221 := (f9.nw eA10 (by omega)).sR eB10 (by omega)
  have z10 : zB B10 222 := (z9.nw eA10).sR eB10
  have k10 : ∀ j, j ≠ 10 → B10.2.2.1 221 j = B9.2.2.1 221 j := fun j hj => by rw [eB10, setR_n _ _ _ _ (fun y => hj y.2), eA10]; exact nM_ro (by omega)
  have s10 : B10.2.2.1 221 10 = some 231 := by rw [eB10, setR_s, nB9]
  have i10 : ∀ j, B10.1 221 j = B9.1 221 j := fun j => by rw [eB10]; show A10.1 221 j = _; rw [eA10]; exact nM_io (by omega)
  refine al (n := 232) nB10 (by decide +kernel) (fun A11 eA11 nA11 => ?_)
  refine srS (n := 233) nA11 (by decide) (fun B11 eB11 nB11 => ?_)
  have f11 : frB M B11 221 := (f10.nw eA11 (by omega)).sR eB11 (by omega)
  have z11 : zB B11 222 := (z10.nw eA11).sR eB11
  have k11 : ∀ j, j ≠ 11 → B11.2.2.1 221 j = B10.2.2.1 221 j := fun j hj => by rw [eB11, setR_n _ _ _ _ (fun y => hj y.2), eA11]; exact nM_ro (by omega)
  have s11 : B11.2.2.1 221 11 = some 232 := by rw [eB11, setR_s, nB10]
  have i11 : ∀ j, B11.1 221 j = B10.1 221 j := fun j => by rw [eB11]; show A11.1 221 j = _; rw [eA11]; exact nM_io (by omega)
  refine al (n := 233) nB11 (by decide +kernel) (fun A12 eA12 nA12 => ?_)
  refine srS (n := 234) nA12 (by decide) (fun B12 eB12 nB12 => ?_)
  have f12 : frB M B12 221 := (f11.nw eA12 (by omega)).sR eB12 (by omega)
  have z12 : zB B12 222 := (z11.nw eA12).sR eB12
  have k12 : ∀ j, j ≠ 13 → B12.2.2.1 221 j = B11.2.2.1 221 j := fun j hj => by rw [eB12, setR_n _ _ _ _ (fun y => hj y.2), eA12]; exact nM_ro (by omega)
  have s12 : B12.2.2.1 221 13 = some 233 := by rw [eB12, setR_s, nB11]
  have i12 : ∀ j, B12.1 221 j = B11.1 221 j := fun j => by rw [eB12]; show A12.1 221 j = _; rw [eA12]; exact nM_io (by omega)
  refine al (n := 234) nB12 (by decide +kernel) (fun A13 eA13 nA13 => ?_)
  refine srS (n := 235) nA13 (by decide) (fun B13 eB13 nB13 => ?_)
  have f13 : frB M B13 221 := (f12.nw eA13 (by omega)).sR eB13 (by omega)
  have z13 : zB B13 222 := (z12.nw eA13).sR eB13
  have k13 : ∀ j, j ≠ 14 → B13.2.2.1 221 j = B12.2.2.1 221 j := fun j hj => by rw [eB13, setR_n _ _ _ _ (fun y => hj y.2), eA13]; exact nM_ro (by omega)
  have s13 : B13.2.2.1 221 14 = some 234 := by rw [eB13, setR_s, nB12]
  have i13 : ∀ j, B13.1 221 j = B12.1 221 j := fun j => by rw [eB13]; show A13.1 221 j = _; rw [eA13]; exact nM_io (by omega)
  refine al (n := 235) nB13 (by decide +kernel) (fun A14 eA14 nA14 => ?_)
  refine srS (n := 236) nA14 (by decide) (fun B14 eB14 nB14 => ?_)
  have f14 : frB M B14 221 := (f13.nw eA14 (by omega)).sR eB14 (by omega)
  have z14 : zB B14 222 := (z13.nw eA14).sR eB14
  have k14 : ∀ j, j ≠ 16 → B14.2.2.1 221 j = B13.2.2.1 221 j := fun j hj => by rw [eB14, setR_n _ _ _ _ (fun y => hj y.2), eA14]; exact nM_ro (by omega)
  have s14 : B14.2.2.1 221 16 = some 235 := by rw [eB14, setR_s, nB13]
  have i14 : ∀ j, B14.1 221 j = B13.1 221 j := fun j => by rw [eB14]; show A14.1 221 j = _; rw [eA14]; exact nM_io (by omega)
  refine siS (n := 236) nB14 (by decide) (fun B15 eB15 nB15 => ?_)
  have f15 : frB M B15 221 := f14.sI eB15 (by omega)
  have z15 : zB B15 222 := z14.sI eB15 (by omega)
  have k15 : ∀ j, B15.2.2.1 221 j = B14.2.2.1 221 j := fun j => by rw [eB15]
  have i15 : ∀ j, j ≠ 17 → B15.1 221 j = B14.1 221 j := fun j hj => by rw [eB15, setI_n _ _ _ _ (fun y => hj y.2)]
  have t15 : B15.1 221 17 = 60 := by rw [eB15, setI_s]
  refine siS (n := 236) nB15 (by decide) (fun B16 eB16 nB16 => ?_)
  have f16 : frB M B16 221 := f15.sI eB16 (by omega)
  have z16 : zB B16 222 := z15.sI eB16 (by omega)
  have k16 : ∀ j, B16.2.2.1 221 j = B15.2.2.1 221 j := fun j => by rw [eB16]
  have i16 : ∀ j, j ≠ 18 → B16.1 221 j = B15.1 221 j := fun j hj => by rw [eB16, setI_n _ _ _ _ (fun y => hj y.2)]
  have t16 : B16.1 221 18 = 300 := by rw [eB16, setI_s]
  refine siS (n := 236) nB16 (by decide) (fun B17 eB17 nB17 => ?_)
  have f17 : frB M B17 221 := f16.sI eB17 (by omega)
  have z17 : zB B17 222 := z16.sI eB17 (by omega)
  have k17 : ∀ j, B17.2.2.1 221 j = B16.2.2.1 221 j := fun j => by rw [eB17]
  have i17 : ∀ j, j ≠ 19 → B17.1 221 j = B16.1 221 j := fun j hj => by rw [eB17, setI_n _ _ _ _ (fun y => hj y.2)]
  have t17 : B17.1 221 19 = 50 := by rw [eB17, setI_s]
  refine al (n := 236) nB17 (by decide +kernel) (fun A18 eA18 nA18 => ?_)
  refine srS (n := 237) nA18 (by decide) (fun B18 eB18 nB18 => ?_)
  have f18 : frB M B18 221 := (f17.nw eA18 (by omega)).sR eB18 (by omega)
  have z18 : zB B18 222 := (z17.nw eA18).sR eB18
  have k18 : ∀ j, j ≠ 20 → B18.2.2.1 221 j = B17.2.2.1 221 j := fun j hj => by rw [eB18, setR_n _ _ _ _ (fun y => hj y.2), eA18]; exact nM_ro (by omega)
  have s18 : B18.2.2.1 221 20 = some 236 := by rw [eB18, setR_s, nB17]
  have i18 : ∀ j, B18.1 221 j = B17.1 221 j := fun j => by rw [eB18]; show A18.1 221 j = _; rw [eA18]; exact nM_io (by omega)
  refine al (n := 237) nB18 (by decide +kernel) (fun A19 eA19 nA19 => ?_)
  refine srS (n := 238) nA19 (by decide) (fun B19 eB19 nB19 => ?_)
  have f19 : frB M B19 221 := (f18.nw eA19 (by omega)).sR eB19 (by omega)
  have z19 : zB B19 222 := (z18.nw eA19).sR eB19
  have k19 : ∀ j, j ≠ 22 → B19.2.2.1 221 j = B18.2.2.1 221 j := fun j hj => by rw [eB19, setR_n _ _ _ _ (fun y => hj y.2), eA19]; exact nM_ro (by omega)
  have s19 : B19.2.2.1 221 22 = some 237 := by rw [eB19, setR_s, nB18]
  have i19 : ∀ j, B19.1 221 j = B18.1 221 j := fun j => by rw [eB19]; show A19.1 221 j = _; rw [eA19]; exact nM_io (by omega)
  refine al (n := 238) nB19 (by decide +kernel) (fun A20 eA20 nA20 => ?_)
  refine srS (n := 239) nA20 (by decide) (fun B20 eB20 nB20 => ?_)
  have f20 : frB M B20 221 := (f19.nw eA20 (by omega)).sR eB20 (by omega)
  have z20 : zB B20 222 := (z19.nw eA20).sR eB20
  have k20 : ∀ j, j ≠ 25 → B20.2.2.1 221 j = B19.2.2.1 221 j := fun j hj => by rw [eB20, setR_n _ _ _ _ (fun y => hj y.2), eA20]; exact nM_ro (by omega)
  have s20 : B20.2.2.1 221 25 = some 238 := by rw [eB20, setR_s, nB19]
  have i20 : ∀ j, B20.1 221 j = B19.1 221 j := fun j => by rw [eB20]; show A20.1 221 j = _; rw [eA20]; exact nM_io (by omega)
  refine al (n := 239) nB20 (by decide +kernel) (fun A21 eA21 nA21 => ?_)
  refine srS (n := 240) nA21 (by decide) (fun B21 eB21 nB21 => ?_)
  have f21 : frB M B21 221 := (f20.nw eA21 (by omega)).sR eB21 (by omega)
  have z21 : zB B21 222 := (z20.nw eA21).sR eB21
  have k21 : ∀ j, j ≠ 26 → B21.2.2.1 221 j = B20.2.2.1 221 j := fun j hj => by rw [eB21, setR_n _ _ _ _ (fun y => hj y.2), eA21]; exact nM_ro (by omega)
  have s21 : B21.2.2.1 221 26 = some 239 := by rw [eB21, setR_s, nB20]
  have i21 : ∀ j, B21.1 221 j = B20.1 221 j := fun j => by rw [eB21]; show A21.1 221 j = _; rw [eA21]; exact nM_io (by omega)
  refine al (n := 240) nB21 (by decide +kernel) (fun A22 eA22 nA22 => ?_)
  refine srS (n := 241) nA22 (by decide) (fun B22 eB22 nB22 => ?_)
  have f22 : frB M B22 221 := (f21.nw eA22 (by omega)).sR eB22 (by omega)
  have z22 : zB B22 222 := (z21.nw eA22).sR eB22
  have k22 : ∀ j, j ≠ 27 → B22.2.2.1 221 j = B21.2.2.1 221 j := fun j hj => by rw [eB22, setR_n _ _ _ _ (fun y => hj y.2), eA22]; exact nM_ro (by omega)
  have s22 : B22.2.2.1 221 27 = some 240 := by rw [eB22, setR_s, nB21]
  have i22 : ∀ j, B22.1 221 j = B21.1 221 j := fun j => by rw [eB22]; show A22.1 221 j = _; rw [eA22]; exact nM_io (by omega)
  refine al (n := 241) nB22 (by decide +kernel) (fun A23 eA23 nA23 => ?_)
  refine srS (n := 242) nA23 (by decide) (fun B23 eB23 nB23 => ?_)
  have f23 : frB M B23 221 := (f22.nw eA23 (by omega)).sR eB23 (by omega)
  have z23 : zB B23 222 := (z22.nw eA23).sR eB23
  have k23 : ∀ j, j ≠ 28 → B23.2.2.1 221 j = B22.2.2.1 221 j := fun j hj => by rw [eB23, setR_n _ _ _ _ (fun y => hj y.2), eA23]; exact nM_ro (by omega)
  have s23 : B23.2.2.1 221 28 = some 241 := by rw [eB23, setR_s, nB22]
  have i23 : ∀ j, B23.1 221 j = B22.1 221 j := fun j => by rw [eB23]; show A23.1 221 j = _; rw [eA23]; exact nM_io (by omega)
  refine al (n := 242) nB23 (by decide +kernel) (fun A24 eA24 nA24 => ?_)
  refine srS (n := 243) nA24 (by decide) (fun B24 eB24 nB24 => ?_)
  have f24 : frB M B24 221 := (f23.nw eA24 (by omega)).sR eB24 (by omega)
  have z24 : zB B24 222 := (z23.nw eA24).sR eB24
  have k24 : ∀ j, j ≠ 29 → B24.2.2.1 221 j = B23.2.2.1 221 j := fun j hj => by rw [eB24, setR_n _ _ _ _ (fun y => hj y.2), eA24]; exact nM_ro (by omega)
  have s24 : B24.2.2.1 221 29 = some 242 := by rw [eB24, setR_s, nB23]
  have i24 : ∀ j, B24.1 221 j = B23.1 221 j := fun j => by rw [eB24]; show A24.1 221 j = _; rw [eA24]; exact nM_io (by omega)
  have hS : StrM B24.2.2.1 := by
    refine ⟨by rw [k24 _ (by decide), k23 _ (by decide), k22 _ (by decide), k21 _ (by decide), k20 _ (by decide), k19 _ (by decide), k18 _ (by decide), k17, k16, k15, k14 _ (by decide), k13 _ (by decide), k12 _ (by decide), k11 _ (by decide), k10 _ (by decide), k9 _ (by decide), k8 _ (by decide), k7 _ (by decide), k6 _ (by decide), k5 _ (by decide), k4 _ (by decide), k3 _ (by decide), k2 _ (by decide), s1], by rw [k24 _ (by decide), k23 _ (by decide), k22 _ (by decide), k21 _ (by decide), k20 _ (by decide), k19 _ (by decide), k18 _ (by decide), k17, k16, k15, k14 _ (by decide), k13 _ (by decide), k12 _ (by decide), k11 _ (by decide), k10 _ (by decide), k9 _ (by decide), k8 _ (by decide), k7 _ (by decide), k6 _ (by decide), k5 _ (by decide), k4 _ (by decide), k3 _ (by decide), s2], by rw [k24 _ (by decide), k23 _ (by decide), k22 _ (by decide), k21 _ (by decide), k20 _ (by decide), k19 _ (by decide), k18 _ (by decide), k17, k16, k15, k14 _ (by decide), k13 _ (by decide), k12 _ (by decide), k11 _ (by decide), k10 _ (by decide), k9 _ (by decide), k8 _ (by decide), k7 _ (by decide), k6 _ (by decide), k5 _ (by decide), k4 _ (by decide), s3], by rw [k24 _ (by decide), k23 _ (by decide), k22 _ (by decide), k21 _ (by decide), k20 _ (by decide), k19 _ (by decide), k18 _ (by decide), k17, k16, k15, k14 _ (by decide), k13 _ (by decide), k12 _ (by decide), k11 _ (by decide), k10 _ (by decide), k9 _ (by decide), k8 _ (by decide), k7 _ (by decide), k6 _ (by decide), k5 _ (by decide), s4], by rw [k24 _ (by decide), k23 _ (by decide), k22 _ (by decide), k21 _ (by decide), k20 _ (by decide), k19 _ (by decide), k18 _ (by decide), k17, k16, k15, k14 _ (by decide), k13 _ (by decide), k12 _ (by decide), k11 _ (by decide), k10 _ (by decide), k9 _ (by decide), k8 _ (by decide), k7 _ (by decide), k6 _ (by decide), s5], by rw [k24 _ (by decide), k23 _ (by decide), k22 _ (by decide), k21 _ (by decide), k20 _ (by decide), k19 _ (by decide), k18 _ (by decide), k17, k16, k15, k14 _ (by decide), k13 _ (by decide), k12 _ (by decide), k11 _ (by decide), k10 _ (by decide), k9 _ (by decide), k8 _ (by decide), k7 _ (by decide), s6], by rw [k24 _ (by decide), k23 _ (by decide), k22 _ (by decide), k21 _ (by decide), k20 _ (by decide), k19 _ (by decide), k18 _ (by decide), k17, k16, k15, k14 _ (by decide), k13 _ (by decide), k12 _ (by decide), k11 _ (by decide), k10 _ (by decide), k9 _ (by decide), k8 _ (by decide), s7], by rw [k24 _ (by decide), k23 _ (by decide), k22 _ (by decide), k21 _ (by decide), k20 _ (by decide), k19 _ (by decide), k18 _ (by decide), k17, k16, k15, k14 _ (by decide), k13 _ (by decide), k12 _ (by decide), k11 _ (by decide), k10 _ (by decide), k9 _ (by decide), s8], by rw [k24 _ (by decide), k23 _ (by decide), k22 _ (by decide), k21 _ (by decide), k20 _ (by decide), k19 _ (by decide), k18 _ (by decide), k17, k16, k15, k14 _ (by decide), k13 _ (by decide), k12 _ (by decide), k11 _ (by decide), k10 _ (by decide), s9], by rw [k24 _ (by decide), k23 _ (by decide), k22 _ (by decide), k21 _ (by decide), k20 _ (by decide), k19 _ (by decide), k18 _ (by decide), k17, k16, k15, k14 _ (by decide), k13 _ (by decide), k12 _ (by decide), k11 _ (by decide), s10], by rw [k24 _ (by decide), k23 _ (by decide), k22 _ (by decide), k21 _ (by decide), k20 _ (by decide), k19 _ (by decide), k18 _ (by decide), k17, k16, k15, k14 _ (by decide), k13 _ (by decide), k12 _ (by decide), s11], by rw [k24 _ (by decide), k23 _ (by decide), k22 _ (by decide), k21 _ (by decide), k20 _ (by decide), k19 _ (by decide), k18 _ (by decide), k17, k16, k15, k14 _ (by decide), k13 _ (by decide), s12], by rw [k24 _ (by decide), k23 _ (by decide), k22 _ (by decide), k21 _ (by decide), k20 _ (by decide), k19 _ (by decide), k18 _ (by decide), k17, k16, k15, k14 _ (by decide), s13], by rw [k24 _ (by decide), k23 _ (by decide), k22 _ (by decide), k21 _ (by decide), k20 _ (by decide), k19 _ (by decide), k18 _ (by decide), k17, k16, k15, s14], by rw [k24 _ (by decide), k23 _ (by decide), k22 _ (by decide), k21 _ (by decide), k20 _ (by decide), k19 _ (by decide), s18], by rw [k24 _ (by decide), k23 _ (by decide), k22 _ (by decide), k21 _ (by decide), k20 _ (by decide), s19], by rw [k24 _ (by decide), k23 _ (by decide), k22 _ (by decide), k21 _ (by decide), s20], by rw [k24 _ (by decide), k23 _ (by decide), k22 _ (by decide), s21], by rw [k24 _ (by decide), k23 _ (by decide), s22], by rw [k24 _ (by decide), s23], by rw [s24]⟩
  have hI : B24.1 221 17 = 60 ∧ B24.1 221 18 = 300 ∧ B24.1 221 19 = 50 := ⟨by rw [i24, i23, i22, i21, i20, i19, i18, i17 _ (by decide), i16 _ (by decide), t15], by rw [i24, i23, i22, i21, i20, i19, i18, i17 _ (by decide), t16], by rw [i24, i23, i22, i21, i20, i19, i18, t17]⟩
  have hJ : ∀ j, j < 17 → B24.1 221 j = M.1 221 j := fun j hj => by rw [i24, i23, i22, i21, i20, i19, i18, i17 _ (by omega), i16 _ (by omega), i15 _ (by omega), i14, i13, i12, i11, i10, i9, i8, i7, i6, i5, i4, i3, i2, i1]
  unfold P_X12_init_192
  refine lp_i (fun y : Int × Mm => ∃ k : Nat, y.1 = k ∧ k ≤ 72 ∧ y.2.2 = B24.2 ∧ (∀ o j, o ≠ 235 → y.2.1 o j = B24.1 o j) ∧ ∀ j, j < k → y.2.1 235 j = -4) (fun y => (72 - y.1).toNat) ⟨0, rfl, by omega, rfl, fun _ _ _ => rfl, fun j hj => by omega⟩ ?_
  rintro ⟨x1, M1⟩ ⟨k, g1, g2, g3, g4, g5⟩
  dsimp only at g1 g3 g4 g5
  subst g1
  show F_X12_init_192 221 222 Q _ (k : Int) M1
  have n1 : M1.2.2.2 = 243 := by rw [g3]; exact nB24
  unfold F_X12_init_192
  refine ⟨fun hle => ⟨by omega, hq M1 n1 (fun o j z => ?_) (fun j hj => ?_) ?_ (by rw [g3]; exact hS) (fun o j y1 y2 y3 => ?_) (fun j hj => g5 j (by omega))⟩, fun hlt => ?_⟩
  · have := f24 o j z
    exact ⟨(g4 o j (by omega)).trans this.1, by rw [g3]; exact this.2⟩
  · rw [g4 221 j (by decide)]; exact hJ j hj
  · rw [g4 221 17 (by decide), g4 221 18 (by decide), g4 221 19 (by decide)]; exact hI
  · rw [g4 o j y3]; exact z24 o j y1 (by omega)
  · refine ⟨⟨rfl, by omega, by decide⟩, ?_⟩
    intro r2 e2
    have hr2 : r2 = some 235 := by rw [e2, g3]; exact hS.2.2.2.2.2.2.2.2.2.2.2.2.2.1
    subst hr2
    refine goAn rfl ⟨by omega, by decide⟩ ⟨by omega, by rw [show (SH 235).2 = 72 by decide]; omega⟩ ?_
    rw [show ((k : Int)).toNat = k by omega]
    intro Me ee
    refine ⟨inI_s (by omega) (by omega), ?_⟩
    intro v ev
    refine ⟨⟨k + 1, by dsimp only; omega, by omega, by rw [ee]; exact g3, fun o j z => ?_, fun j hj => ?_⟩, by dsimp only; omega⟩
    · show Me.1 o j = _
      rw [ee, setI_o _ _ _ _ z]; exact g4 o j z
    · show Me.1 235 j = _
      rw [ee]
      by_cases e : j = k
      · subst e; rw [setI_s]
      · rw [setI_n _ _ _ _ (by omega)]; exact g5 j (by omega)
/-- all that the class's constructor leaves -/
def INT0 (I : IFn) : Prop := I 1 1 = 0 ∧ I 4 1 = 0 ∧ I 4 3 = 0 ∧ (I 170 1 = 0 ∧ I 170 2 = 60) ∧ (∀ b i : Nat, b < 12 → i < 6 → I (174 + 3 * b) i = 0 ∧ I (175 + 3 * b) i = -1) ∧ (I 215 0 = 300 ∧ I 215 1 = 50) ∧ (∀ j, I 219 j = 0) ∧ I 220 0 = 0
theorem i_X11 {n0 : Nat} (h0 : n0 = 1) (hn : M.2.2.2 = 1) (hq : ∀ M' : Mm, M'.2.2.2 = 221 → M'.2.2.1 0 1 = some 4 → M'.2.2.1 0 2 = some 87 → StrC M'.2.2.1 → StrB M'.2.2.1 → StrP M'.2.2.1 4 → StrP M'.2.2.1 87 → INT0 M'.1 → Q M') : P_X11_init 0 M n0 Q := by
  subst h0
  unfold P_X11_init
  refine ⟨by omega, by rw [hn, Nat.add_zero]; omega, ?_⟩
  refine al (n := 1) hn (by decide +kernel) (fun A1 eA1 nA1 => ?_)
  refine nwS (n := 1) (m := 2) hn nA1 (by decide +kernel) ?_
  refine i_X9 nA1 nA1 (fun B1 nB1 f1 i1 r01 r21 => ?_)
  intro _
  refine srS (n := 4) nB1 (by decide) (fun S1 eS1 nS1 => ?_)
  have c1 : frC M S1 1 0 := frC.mk eA1 hn f1 eS1
  have d1 : S1.2.2.1 0 0 = some 1 := by rw [eS1, setR_s, hn]
  have u1 : ∀ o j, o ≠ 0 → S1.1 o j = B1.1 o j ∧ S1.2.2.1 o j = B1.2.2.1 o j := fun o j z => by rw [eS1]; exact ⟨rfl, setR_n _ _ _ _ (fun y => z y.1)⟩
  refine al (n := 4) nS1 (by decide +kernel) (fun A2 eA2 nA2 => ?_)
  refine nwS (n := 4) (m := 5) nS1 nA2 (by decide +kernel) ?_
  refine i_X5 (show pl 4 by unfold pl; decide) nA2 nA2 (fun B2 nB2 f2 i2 s2 => ?_)
  intro _
  refine srS (n := 87) nB2 (by decide) (fun S2 eS2 nS2 => ?_)
  have c2 : frC S1 S2 4 1 := frC.mk eA2 nS1 f2 eS2
  have d2 : S2.2.2.1 0 1 = some 4 := by rw [eS2, setR_s, nS1]
  have u2 : ∀ o j, o ≠ 0 → S2.1 o j = B2.1 o j ∧ S2.2.2.1 o j = B2.2.2.1 o j := fun o j z => by rw [eS2]; exact ⟨rfl, setR_n _ _ _ _ (fun y => z y.1)⟩
  refine al (n := 87) nS2 (by decide +kernel) (fun A3 eA3 nA3 => ?_)
  refine nwS (n := 87) (m := 88) nS2 nA3 (by decide +kernel) ?_
  refine i_X5 (show pl 87 by unfold pl; decide) nA3 nA3 (fun B3 nB3 f3 i3 s3 => ?_)
  intro _
  refine srS (n := 170) nB3 (by decide) (fun S3 eS3 nS3 => ?_)
  have c3 : frC S2 S3 87 2 := frC.mk eA3 nS2 f3 eS3
  have d3 : S3.2.2.1 0 2 = some 87 := by rw [eS3, setR_s, nS2]
  have u3 : ∀ o j, o ≠ 0 → S3.1 o j = B3.1 o j ∧ S3.2.2.1 o j = B3.2.2.1 o j := fun o j z => by rw [eS3]; exact ⟨rfl, setR_n _ _ _ _ (fun y => z y.1)⟩
  refine al (n := 170) nS3 (by decide +kernel) (fun A4 eA4 nA4 => ?_)
  refine nwS (n := 170) (m := 171) nS3 nA4 (by decide +kernel) ?_
  refine i_X1 nA4 nA4 (fun B4 nB4 f4 i4 s4 b4 => ?_)
  intro _
  refine srS (n := 209) nB4 (by decide) (fun S4 eS4 nS4 => ?_)
  have c4 : frC S3 S4 170 3 := frC.mk eA4 nS3 f4 eS4
  have d4 : S4.2.2.1 0 3 = some 170 := by rw [eS4, setR_s, nS3]
  have u4 : ∀ o j, o ≠ 0 → S4.1 o j = B4.1 o j ∧ S4.2.2.1 o j = B4.2.2.1 o j := fun o j z => by rw [eS4]; exact ⟨rfl, setR_n _ _ _ _ (fun y => z y.1)⟩
  refine al (n := 209) nS4 (by decide +kernel) (fun A5 eA5 nA5 => ?_)
  refine nwS (n := 209) (m := 210) nS4 nA5 (by decide +kernel) ?_
  refine i_X6 nA5 nA5 (fun B5 nB5 f5 r35 r45 r55 r65 r75 => ?_)
  intro _
  refine srS (n := 215) nB5 (by decide) (fun S5 eS5 nS5 => ?_)
  have c5 : frC S4 S5 209 4 := frC.mk eA5 nS4 f5 eS5
  have d5 : S5.2.2.1 0 4 = some 209 := by rw [eS5, setR_s, nS4]
  have u5 : ∀ o j, o ≠ 0 → S5.1 o j = B5.1 o j ∧ S5.2.2.1 o j = B5.2.2.1 o j := fun o j z => by rw [eS5]; exact ⟨rfl, setR_n _ _ _ _ (fun y => z y.1)⟩
  refine al (n := 215) nS5 (by decide +kernel) (fun A6 eA6 nA6 => ?_)
  refine nwS (n := 215) (m := 216) nS5 nA6 (by decide +kernel) ?_
  refine i_X2 nA6 nA6 (fun B6 nB6 f6 i6 r26 r36 => ?_)
  intro _
  refine srS (n := 218) nB6 (by decide) (fun S6 eS6 nS6 => ?_)
  have c6 : frC S5 S6 215 5 := frC.mk eA6 nS5 f6 eS6
  have d6 : S6.2.2.1 0 5 = some 215 := by rw [eS6, setR_s, nS5]
  have u6 : ∀ o j, o ≠ 0 → S6.1 o j = B6.1 o j ∧ S6.2.2.1 o j = B6.2.2.1 o j := fun o j z => by rw [eS6]; exact ⟨rfl, setR_n _ _ _ _ (fun y => z y.1)⟩
  refine al (n := 218) nS6 (by decide +kernel) (fun A7 eA7 nA7 => ?_)
  refine nwS (n := 218) (m := 219) nS6 nA7 (by decide +kernel) ?_
  refine i_X7 nA7 nA7 (fun B7 nB7 f7 r07 z7 => ?_)
  intro _
  refine srS (n := 220) nB7 (by decide) (fun S7 eS7 nS7 => ?_)
  have c7 : frC S6 S7 218 6 := frC.mk eA7 nS6 f7 eS7
  have d7 : S7.2.2.1 0 6 = some 218 := by rw [eS7, setR_s, nS6]
  have u7 : ∀ o j, o ≠ 0 → S7.1 o j = B7.1 o j ∧ S7.2.2.1 o j = B7.2.2.1 o j := fun o j z => by rw [eS7]; exact ⟨rfl, setR_n _ _ _ _ (fun y => z y.1)⟩
  refine al (n := 220) nS7 (by decide +kernel) (fun A8 eA8 nA8 => ?_)
  refine nwS (n := 220) (m := 221) nS7 nA8 (by decide +kernel) ?_
  unfold P_X10_init
  refine ⟨by omega, by rw [nA8, Nat.add_zero]; omega, by omega, ?_⟩
  intro _
  refine srS (n := 221) nA8 (by decide) (fun S8 eS8 nS8 => ?_)
  have c8 : frC S7 S8 220 7 := frC.mk eA8 nS7 frB.rf eS8
  have d8 : S8.2.2.1 0 7 = some 220 := by rw [eS8, setR_s, nS7]
  have U8 : ∀ o j, 0 < o → S8.1 o j = S8.1 o j ∧ S8.2.2.1 o j = S8.2.2.1 o j := fun o j _ => ⟨rfl, rfl⟩
  have U7 : ∀ o j, 0 < o → o < 220 → S8.1 o j = S7.1 o j ∧ S8.2.2.1 o j = S7.2.2.1 o j := fun o j z1 z2 => by
    have a := U8 o j z1
    have b := c8 o j z2
    exact ⟨a.1.trans b.1, a.2.trans (b.2 (by omega))⟩
  have U6 : ∀ o j, 0 < o → o < 218 → S8.1 o j = S6.1 o j ∧ S8.2.2.1 o j = S6.2.2.1 o j := fun o j z1 z2 => by
    have a := U7 o j z1 (by omega)
    have b := c7 o j z2
    exact ⟨a.1.trans b.1, a.2.trans (b.2 (by omega))⟩
  have U5 : ∀ o j, 0 < o → o < 215 → S8.1 o j = S5.1 o j ∧ S8.2.2.1 o j = S5.2.2.1 o j := fun o j z1 z2 => by
    have a := U6 o j z1 (by omega)
    have b := c6 o j z2
    exact ⟨a.1.trans b.1, a.2.trans (b.2 (by omega))⟩
  have U4 : ∀ o j, 0 < o → o < 209 → S8.1 o j = S4.1 o j ∧ S8.2.2.1 o j = S4.2.2.1 o j := fun o j z1 z2 => by
    have a := U5 o j z1 (by omega)
    have b := c5 o j z2
    exact ⟨a.1.trans b.1, a.2.trans (b.2 (by omega))⟩
  have U3 : ∀ o j, 0 < o → o < 170 → S8.1 o j = S3.1 o j ∧ S8.2.2.1 o j = S3.2.2.1 o j := fun o j z1 z2 => by
    have a := U4 o j z1 (by omega)
    have b := c4 o j z2
    exact ⟨a.1.trans b.1, a.2.trans (b.2 (by omega))⟩
  have U2 : ∀ o j, 0 < o → o < 87 → S8.1 o j = S2.1 o j ∧ S8.2.2.1 o j = S2.2.2.1 o j := fun o j z1 z2 => by
    have a := U3 o j z1 (by omega)
    have b := c3 o j z2
    exact ⟨a.1.trans b.1, a.2.trans (b.2 (by omega))⟩
  have U1 : ∀ o j, 0 < o → o < 4 → S8.1 o j = S1.1 o j ∧ S8.2.2.1 o j = S1.2.2.1 o j := fun o j z1 z2 => by
    have a := U2 o j z1 (by omega)
    have b := c2 o j z2
    exact ⟨a.1.trans b.1, a.2.trans (b.2 (by omega))⟩
  have V1 : ∀ o j, 0 < o → o < 4 → S8.1 o j = B1.1 o j ∧ S8.2.2.1 o j = B1.2.2.1 o j := fun o j z1 z2 => ⟨(U1 o j z1 z2).1.trans (u1 o j (by omega)).1, (U1 o j z1 z2).2.trans (u1 o j (by omega)).2⟩
  have V2 : ∀ o j, 0 < o → o < 87 → S8.1 o j = B2.1 o j ∧ S8.2.2.1 o j = B2.2.2.1 o j := fun o j z1 z2 => ⟨(U2 o j z1 z2).1.trans (u2 o j (by omega)).1, (U2 o j z1 z2).2.trans (u2 o j (by omega)).2⟩
  have V3 : ∀ o j, 0 < o → o < 170 → S8.1 o j = B3.1 o j ∧ S8.2.2.1 o j = B3.2.2.1 o j := fun o j z1 z2 => ⟨(U3 o j z1 z2).1.trans (u3 o j (by omega)).1, (U3 o j z1 z2).2.trans (u3 o j (by omega)).2⟩
  have V4 : ∀ o j, 0 < o → o < 209 → S8.1 o j = B4.1 o j ∧ S8.2.2.1 o j = B4.2.2.1 o j := fun o j z1 z2 => ⟨(U4 o j z1 z2).1.trans (u4 o j (by omega)).1, (U4 o j z1 z2).2.trans (u4 o j (by omega)).2⟩
  have V5 : ∀ o j, 0 < o → o < 215 → S8.1 o j = B5.1 o j ∧ S8.2.2.1 o j = B5.2.2.1 o j := fun o j z1 z2 => ⟨(U5 o j z1 z2).1.trans (u5 o j (by omega)).1, (U5 o j z1 z2).2.trans (u5 o j (by omega)).2⟩
  have V6 : ∀ o j, 0 < o → o < 218 → S8.1 o j = B6.1 o j ∧ S8.2.2.1 o j = B6.2.2.1 o j := fun o j z1 z2 => ⟨(U6 o j z1 z2).1.trans (u6 o j (by omega)).1, (U6 o j z1 z2).2.trans (u6 o j (by omega)).2⟩
  have V7 : ∀ o j, 0 < o → o < 220 → S8.1 o j = B7.1 o j ∧ S8.2.2.1 o j = B7.2.2.1 o j := fun o j z1 z2 => ⟨(U7 o j z1 z2).1.trans (u7 o j (by omega)).1, (U7 o j z1 z2).2.trans (u7 o j (by omega)).2⟩
  have w0 : S8.2.2.1 0 0 = some 1 := by rw [(c8 0 0 (by decide)).2 (by decide), (c7 0 0 (by decide)).2 (by decide), (c6 0 0 (by decide)).2 (by decide), (c5 0 0 (by decide)).2 (by decide), (c4 0 0 (by decide)).2 (by decide), (c3 0 0 (by decide)).2 (by decide), (c2 0 0 (by decide)).2 (by decide), d1]
  have w1 : S8.2.2.1 0 1 = some 4 := by rw [(c8 0 1 (by decide)).2 (by decide), (c7 0 1 (by decide)).2 (by decide), (c6 0 1 (by decide)).2 (by decide), (c5 0 1 (by decide)).2 (by decide), (c4 0 1 (by decide)).2 (by decide), (c3 0 1 (by decide)).2 (by decide), d2]
  have w2 : S8.2.2.1 0 2 = some 87 := by rw [(c8 0 2 (by decide)).2 (by decide), (c7 0 2 (by decide)).2 (by decide), (c6 0 2 (by decide)).2 (by decide), (c5 0 2 (by decide)).2 (by decide), (c4 0 2 (by decide)).2 (by decide), d3]
  have w3 : S8.2.2.1 0 3 = some 170 := by rw [(c8 0 3 (by decide)).2 (by decide), (c7 0 3 (by decide)).2 (by decide), (c6 0 3 (by decide)).2 (by decide), (c5 0 3 (by decide)).2 (by decide), d4]
  have w4 : S8.2.2.1 0 4 = some 209 := by rw [(c8 0 4 (by decide)).2 (by decide), (c7 0 4 (by decide)).2 (by decide), (c6 0 4 (by decide)).2 (by decide), d5]
  have w5 : S8.2.2.1 0 5 = some 215 := by rw [(c8 0 5 (by decide)).2 (by decide), (c7 0 5 (by decide)).2 (by decide), d6]
  have w6 : S8.2.2.1 0 6 = some 218 := by rw [(c8 0 6 (by decide)).2 (by decide), d7]
  have w7 : S8.2.2.1 0 7 = some 220 := by rw [d8]
  refine ⟨by omega, hq S8 (by omega) w1 w2 ?_ ?_ ?_ ?_ ?_⟩
  · refine ⟨w0, w3, w4, w5, w6, w7, ?_, ?_, ?_, ?_, ?_, ?_, ?_, ?_, ?_, ?_⟩
    · rw [(V1 1 0 (by decide) (by decide)).2]; exact r01
    · rw [(V1 1 2 (by decide) (by decide)).2]; exact r21
    · rw [(V5 209 3 (by decide) (by decide)).2]; exact r35
    · rw [(V5 209 4 (by decide) (by decide)).2]; exact r45
    · rw [(V5 209 5 (by decide) (by decide)).2]; exact r55
    · rw [(V5 209 6 (by decide) (by decide)).2]; exact r65
    · rw [(V5 209 7 (by decide) (by decide)).2]; exact r75
    · rw [(V6 215 2 (by decide) (by decide)).2]; exact r26
    · rw [(V6 215 3 (by decide) (by decide)).2]; exact r36
    · rw [(V7 218 0 (by decide) (by decide)).2]; exact r07
  · obtain ⟨a, b, c⟩ := s4
    refine ⟨by rw [(V4 170 0 (by decide) (by decide)).2]; exact a, by rw [(V4 170 3 (by decide) (by decide)).2]; exact b, fun i hi => ?_⟩
    obtain ⟨x1, x2, x3⟩ := c i hi
    exact ⟨by rw [(V4 171 i (by decide) (by decide)).2]; exact x1, by rw [(V4 (173 + 3 * i) 6 (by omega) (by omega)).2]; exact x2, by rw [(V4 (173 + 3 * i) 7 (by omega) (by omega)).2]; exact x3⟩
  · exact s2.lt (fun o j z1 z2 => (V2 o j (by omega) (by omega)).2)
  · exact s3.lt (fun o j z1 z2 => (V3 o j (by omega) (by omega)).2)
  · refine ⟨?_, ?_, ?_, ⟨?_, ?_⟩, fun b i hb hi => ?_, ⟨?_, ?_⟩, fun j => ?_, ?_⟩
    · rw [(V1 1 1 (by decide) (by decide)).1, i1 1, eA1]; exact nM_is (by omega)
    · rw [(V2 4 1 (by decide) (by decide)).1, i2 1, eA2]; exact nM_is (by omega)
    · rw [(V2 4 3 (by decide) (by decide)).1, i2 3, eA2]; exact nM_is (by omega)
    · rw [(V4 170 1 (by decide) (by decide)).1, i4.1, eA4]; exact nM_is (by omega)
    · rw [(V4 170 2 (by decide) (by decide)).1]; exact i4.2
    · rw [(V4 (174 + 3 * b) i (by omega) (by omega)).1, (V4 (175 + 3 * b) i (by omega) (by omega)).1]; exact b4 b i hb hi
    · rw [(V6 215 0 (by decide) (by decide)).1]; exact i6.1
    · rw [(V6 215 1 (by decide) (by decide)).1]; exact i6.2
    · rw [(V7 219 j (by decide) (by decide)).1]; exact z7 j
    · rw [eS8]; show A8.1 220 0 = 0
      rw [eA8]; exact nM_is (by omega)
end INK
/-- the start: class and reference say the same -/
theorem rel_start {M M' M'' : Mm} (hn : M.2.2.2 = 221) (r1 : M.2.2.1 0 1 = some 4) (r2 : M.2.2.1 0 2 = some 87) (hC : StrC M.2.2.1) (hB : StrB M.2.2.1) (h4 : StrP M.2.2.1 4) (h87 : StrP M.2.2.1 87) (hI : INT0 M.1) (e : M' = newM M) (f : frB M' M'' 221) (g0 : ∀ j, j < 17 → M''.1 221 j = M'.1 221 j) (g1 : M''.1 221 17 = 60 ∧ M''.1 221 18 = 300 ∧ M''.1 221 19 = 50) (g2 : StrM M''.2.2.1) (g3 : ∀ o j, 222 ≤ o → o < 243 → o ≠ 235 → M''.1 o j = 0) (g4 : ∀ j, j < 72 → M''.1 235 j = -4) : Rel M'' := by
  have V : ∀ o j, o < 221 → M''.1 o j = M.1 o j ∧ M''.2.2.1 o j = M.2.2.1 o j := fun o j z => by
    have h := f o j z
    rw [e, nM_io (by omega), nM_ro (by omega)] at h
    exact h
  have z221 : ∀ j, j < 17 → M''.1 221 j = 0 := fun j hj => by rw [g0 j hj, e]; exact nM_is (by omega)
  obtain ⟨i1, i2, i3, ⟨i4, i5⟩, i6, ⟨i7, i8⟩, i9, i10⟩ := hI
  refine ⟨4, 87, ⟨Or.inl ⟨rfl, rfl⟩, by rw [(V 0 1 (by decide)).2]; exact r1, by rw [(V 0 2 (by decide)).2]; exact r2, ?_, ?_, g2, h4.lt (fun o j z1 z2 => (V o j (by omega)).2), h87.lt (fun o j z1 z2 => (V o j (by omega)).2)⟩, ?_, ?_, ?_, ?_, ?_, ?_, ?_, ?_⟩
  · have E : ∀ o j, o < 221 → M''.2.2.1 o j = M.2.2.1 o j := fun o j z => (V o j z).2
    unfold StrC at hC ⊢
    simpa only [E 0 _ (by decide), E 1 _ (by decide), E 209 _ (by decide), E 215 _ (by decide), E 218 _ (by decide)] using hC
  · obtain ⟨a, b, c⟩ := hB
    refine ⟨by rw [(V 170 0 (by decide)).2]; exact a, by rw [(V 170 3 (by decide)).2]; exact b, fun i hi => ?_⟩
    obtain ⟨x1, x2, x3⟩ := c i hi
    exact ⟨by rw [(V 171 i (by decide)).2]; exact x1, by rw [(V (173 + 3 * i) 6 (by omega)).2]; exact x2, by rw [(V (173 + 3 * i) 7 (by omega)).2]; exact x3⟩
  · have a := z221 0 (by decide)
    exact ⟨by rw [(V 1 1 (by decide)).1, i1, a], by omega, by omega, fun k hk => by omega⟩
  · have a := z221 12 (by decide)
    exact ⟨by rw [(V 170 1 (by decide)).1, i4, a], by omega, by omega, fun k hk => by omega⟩
  · intro b i hb hi
    rw [(V (174 + 3 * b) i (by omega)).1, (i6 b i hb hi).1, g3 234 _ (by decide) (by decide) (by decide)]
    exact ⟨rfl, by decide, by decide⟩
  · intro b i hb hi
    right
    rw [(V (175 + 3 * b) i (by omega)).1]
    exact ⟨(i6 b i hb hi).2, g4 _ (by omega)⟩
  · have a := z221 15 (by decide)
    refine ⟨⟨by rw [(V 170 2 (by decide)).1, i5, g1.1], by omega, by omega⟩, ⟨by rw [(V 215 0 (by decide)).1, i7, g1.2.1], by omega, by omega⟩, ⟨by rw [(V 215 1 (by decide)).1, i8, g1.2.2], by omega, by omega⟩, by rw [(V 220 0 (by decide)).1, i10, a], by omega, by omega⟩
  · intro k hk
    rw [(V 219 k (by decide)).1, i9 k, g3 236 _ (by decide) (by decide) (by decide)]
    exact ⟨rfl, by decide, by decide⟩
  · have a := g3 223 1 (by decide) (by decide) (by decide)
    exact ⟨by rw [(V 4 1 (by decide)).1, i2, a], by omega, by omega, fun k hk => by omega⟩
  · have a := g3 227 1 (by decide) (by decide) (by decide)
    exact ⟨by rw [(V 4 3 (by decide)).1, i3, a], by omega, by omega, fun k hk => by omega⟩
