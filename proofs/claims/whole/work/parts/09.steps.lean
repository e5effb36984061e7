/-! DIVISIONS BY WHAT IS ABOVE 0, LONG COMPARES, CALLS, for the walks by program -/
theorem tdiv_in {x y : Int} (hx : inI x) (hy : 0 < y) : inI (x.tdiv y) := by
  obtain ⟨h1, h2⟩ := hx
  rcases Int.le_total 0 x with h | h
  · have a1 := Int.tdiv_nonneg h (Int.le_of_lt hy)
    have a2 := Int.tdiv_le_self y h
    exact ⟨by omega, by omega⟩
  · have e : x.tdiv y = -((-x).tdiv y) := by rw [Int.neg_tdiv, Int.neg_neg]
    have a1 := Int.tdiv_nonneg (a := -x) (by omega) (Int.le_of_lt hy)
    have a2 := Int.tdiv_le_self (a := -x) y (by omega)
    exact ⟨by omega, by omega⟩
theorem tdiv_inL {x y : Int} (hx : inL x) (hy : 0 < y) : inL (x.tdiv y) := by
  obtain ⟨h1, h2⟩ := hx
  rcases Int.le_total 0 x with h | h
  · have a1 := Int.tdiv_nonneg h (Int.le_of_lt hy)
    have a2 := Int.tdiv_le_self y h
    exact ⟨by omega, by omega⟩
  · have e : x.tdiv y = -((-x).tdiv y) := by rw [Int.neg_tdiv, Int.neg_neg]
    have a1 := Int.tdiv_nonneg (a := -x) (by omega) (Int.le_of_lt hy)
    have a2 := Int.tdiv_le_self (a := -x) y (by omega)
    exact ⟨by omega, by omega⟩
theorem tmod_in {x y : Int} (h : inI y) (hy : 0 < y) : inI (x.tmod y) := by
  have a := tmod_bounds (a := x) hy
  have := h.2
  exact ⟨by omega, by omega⟩
theorem tmod_inL {x y : Int} (h : inL y) (hy : 0 < y) : inL (x.tmod y) := by
  have a := tmod_bounds (a := x) hy
  have := h.2
  exact ⟨by omega, by omega⟩
abbrev iAnd (x y : Int) : Int := (Int32.ofInt x &&& Int32.ofInt y).toInt
abbrev iOr (x y : Int) : Int := (Int32.ofInt x ||| Int32.ofInt y).toInt
abbrev iShl (x y : Int) : Int := (Int32.ofInt x <<< (Int32.ofInt y &&& 31)).toInt
abbrev iShr (x y : Int) : Int := (Int32.ofInt x >>> (Int32.ofInt y &&& 31)).toInt
abbrev iUshr (x y : Int) : Int := (((Int32.ofInt x).toUInt32 >>> ((Int32.ofInt y).toUInt32 &&& Int32.toUInt32 31)).toInt32.toInt)
abbrev lAnd (x y : Int) : Int := (Int64.ofInt x &&& Int64.ofInt y).toInt
abbrev lOr (x y : Int) : Int := (Int64.ofInt x ||| Int64.ofInt y).toInt
abbrev lShl (x y : Int) : Int := (Int64.ofInt x <<< ((Int32.ofInt y).toInt64 &&& 63)).toInt
abbrev lShr (x y : Int) : Int := (Int64.ofInt x >>> ((Int32.ofInt y).toInt64 &&& 63)).toInt
abbrev l2iV (x : Int) : Int := (Int64.ofInt x).toInt32.toInt
abbrev i2bV (x : Int) : Int := (Int32.ofInt x).toInt8.toInt32.toInt
theorem isO.n {ci n : Nat} {r : Option Nat} {o : Nat} (h : isO ci r o) (hn : n = 243) : isOn ci n r o := by subst hn; exact h
theorem isA.n {ci n : Nat} {r : Option Nat} {o : Nat} {i : Int} (h : isA ci r o i) (hn : n = 243) : isAn ci n r o i := by subst hn; exact h
theorem lc1 {x y : Int} : lcm x y < 0 ↔ x < y := by unfold lcm; split <;> (try split) <;> omega
theorem lc2 {x y : Int} : lcm x y ≤ 0 ↔ x ≤ y := by unfold lcm; split <;> (try split) <;> omega
theorem lc3 {x y : Int} : 0 < lcm x y ↔ y < x := by unfold lcm; split <;> (try split) <;> omega
theorem lc4 {x y : Int} : 0 ≤ lcm x y ↔ y ≤ x := by unfold lcm; split <;> (try split) <;> omega
theorem lc5 {x y : Int} : lcm x y = 0 ↔ x = y := by unfold lcm; split <;> (try split) <;> omega
section STEPS
variable {p : Program} {l : Launch} {e : Env} {R : Room} {s : State} {m : MethodId} {args : Array Value} {below : List Frame} {meth : Method} {c : Code} {Q : State → Prop} {cc : ByteArray} {nL : Nat} {own : String} {D : va_G} {cy : Nat → ClassId} {G : Nat × Nat} {n0 pc : Nat} {L L' : List (Nat × PV)} {st : List PV} {M : Mm}
theorem x_idiv {x y : Int} (C : Cx p s m args meth c cc nL own D cy G n0) (hd : decode cc pc = .ok (.idiv, 1)) (hy : 0 < y) (k : WW p l e R s m args below meth c Q nL D cy G n0 (pc + 1) L (vI (x.tdiv y) :: st) M) : WW p l e R s m args below meth c Q nL D cy G n0 pc L (vI y :: vI x :: st) M := by
  intro h0 hL hst
  have hxk : inI x := ok_h (ok_t hst)
  exact w_idiv C hd (by omega) (tdiv_in hxk hy) (tdiv_in hxk hy) k h0 hL hst
theorem x_ldiv {x y : Int} (C : Cx p s m args meth c cc nL own D cy G n0) (hd : decode cc pc = .ok (.ldiv, 1)) (hy : 0 < y) (k : WW p l e R s m args below meth c Q nL D cy G n0 (pc + 1) L (vL (x.tdiv y) :: st) M) : WW p l e R s m args below meth c Q nL D cy G n0 pc L (vL y :: vL x :: st) M := by
  intro h0 hL hst
  have hxk : inL x := ok_h (ok_t hst)
  exact w_ldiv C hd (by omega) (tdiv_inL hxk hy) (tdiv_inL hxk hy) k h0 hL hst
theorem x_irem {x y : Int} (C : Cx p s m args meth c cc nL own D cy G n0) (hd : decode cc pc = .ok (.irem, 1)) (hy : 0 < y) (k : WW p l e R s m args below meth c Q nL D cy G n0 (pc + 1) L (vI (x.tmod y) :: st) M) : WW p l e R s m args below meth c Q nL D cy G n0 pc L (vI y :: vI x :: st) M := by
  intro h0 hL hst
  have hxk : inI x := ok_h (ok_t hst)
  have hyk : inI y := ok_h hst
  exact w_irem C hd (by omega) (tdiv_in hxk hy) (tmod_in hyk hy) k h0 hL hst
theorem x_lrem {x y : Int} (C : Cx p s m args meth c cc nL own D cy G n0) (hd : decode cc pc = .ok (.lrem, 1)) (hy : 0 < y) (k : WW p l e R s m args below meth c Q nL D cy G n0 (pc + 1) L (vL (x.tmod y) :: st) M) : WW p l e R s m args below meth c Q nL D cy G n0 pc L (vL y :: vL x :: st) M := by
  intro h0 hL hst
  have hxk : inL x := ok_h (ok_t hst)
  have hyk : inL y := ok_h hst
  exact w_lrem C hd (by omega) (tdiv_inL hxk hy) (tmod_inL hyk hy) k h0 hL hst
theorem x_lif_eq {x y off : Int} {tgt : Nat} (C : Cx p s m args meth c cc nL own D cy G n0) (hd1 : decode cc pc = .ok (.lcmp, 1)) (hd2 : decode cc (pc + 1) = .ok (.ifCond .eq off, 3)) (ht : ((pc + 1 : Nat) : Int) + off = (tgt : Int)) (kt : x = y → WW p l e R s m args below meth c Q nL D cy G n0 tgt L st M) (kf : ¬ x = y → WW p l e R s m args below meth c Q nL D cy G n0 (pc + 1 + 3) L st M) : WW p l e R s m args below meth c Q nL D cy G n0 pc L (vL y :: vL x :: st) M :=
  w_lcmp C hd1 (w_if_eq C hd2 ht (fun q => kt (lc5.mp q)) (fun q => kf (fun z => q (lc5.mpr z))))
theorem x_lif_ne {x y off : Int} {tgt : Nat} (C : Cx p s m args meth c cc nL own D cy G n0) (hd1 : decode cc pc = .ok (.lcmp, 1)) (hd2 : decode cc (pc + 1) = .ok (.ifCond .ne off, 3)) (ht : ((pc + 1 : Nat) : Int) + off = (tgt : Int)) (kt : ¬ x = y → WW p l e R s m args below meth c Q nL D cy G n0 tgt L st M) (kf : x = y → WW p l e R s m args below meth c Q nL D cy G n0 (pc + 1 + 3) L st M) : WW p l e R s m args below meth c Q nL D cy G n0 pc L (vL y :: vL x :: st) M :=
  w_lcmp C hd1 (w_if_ne C hd2 ht (fun q => kt (fun z => q (lc5.mpr z))) (fun q => kf (lc5.mp q)))
theorem x_lif_lt {x y off : Int} {tgt : Nat} (C : Cx p s m args meth c cc nL own D cy G n0) (hd1 : decode cc pc = .ok (.lcmp, 1)) (hd2 : decode cc (pc + 1) = .ok (.ifCond .lt off, 3)) (ht : ((pc + 1 : Nat) : Int) + off = (tgt : Int)) (kt : x < y → WW p l e R s m args below meth c Q nL D cy G n0 tgt L st M) (kf : ¬ x < y → WW p l e R s m args below meth c Q nL D cy G n0 (pc + 1 + 3) L st M) : WW p l e R s m args below meth c Q nL D cy G n0 pc L (vL y :: vL x :: st) M :=
  w_lcmp C hd1 (w_if_lt C hd2 ht (fun q => kt (lc1.mp q)) (fun q => kf (fun z => q (lc1.mpr z))))
theorem x_lif_ge {x y off : Int} {tgt : Nat} (C : Cx p s m args meth c cc nL own D cy G n0) (hd1 : decode cc pc = .ok (.lcmp, 1)) (hd2 : decode cc (pc + 1) = .ok (.ifCond .ge off, 3)) (ht : ((pc + 1 : Nat) : Int) + off = (tgt : Int)) (kt : y ≤ x → WW p l e R s m args below meth c Q nL D cy G n0 tgt L st M) (kf : ¬ y ≤ x → WW p l e R s m args below meth c Q nL D cy G n0 (pc + 1 + 3) L st M) : WW p l e R s m args below meth c Q nL D cy G n0 pc L (vL y :: vL x :: st) M :=
  w_lcmp C hd1 (w_if_ge C hd2 ht (fun q => kt (lc4.mp q)) (fun q => kf (fun z => q (lc4.mpr z))))
theorem x_lif_gt {x y off : Int} {tgt : Nat} (C : Cx p s m args meth c cc nL own D cy G n0) (hd1 : decode cc pc = .ok (.lcmp, 1)) (hd2 : decode cc (pc + 1) = .ok (.ifCond .gt off, 3)) (ht : ((pc + 1 : Nat) : Int) + off = (tgt : Int)) (kt : y < x → WW p l e R s m args below meth c Q nL D cy G n0 tgt L st M) (kf : ¬ y < x → WW p l e R s m args below meth c Q nL D cy G n0 (pc + 1 + 3) L st M) : WW p l e R s m args below meth c Q nL D cy G n0 pc L (vL y :: vL x :: st) M :=
  w_lcmp C hd1 (w_if_gt C hd2 ht (fun q => kt (lc3.mp q)) (fun q => kf (fun z => q (lc3.mpr z))))
theorem x_lif_le {x y off : Int} {tgt : Nat} (C : Cx p s m args meth c cc nL own D cy G n0) (hd1 : decode cc pc = .ok (.lcmp, 1)) (hd2 : decode cc (pc + 1) = .ok (.ifCond .le off, 3)) (ht : ((pc + 1 : Nat) : Int) + off = (tgt : Int)) (kt : x ≤ y → WW p l e R s m args below meth c Q nL D cy G n0 tgt L st M) (kf : ¬ x ≤ y → WW p l e R s m args below meth c Q nL D cy G n0 (pc + 1 + 3) L st M) : WW p l e R s m args below meth c Q nL D cy G n0 pc L (vL y :: vL x :: st) M :=
  w_lcmp C hd1 (w_if_le C hd2 ht (fun q => kt (lc2.mp q)) (fun q => kf (fun z => q (lc2.mpr z))))
theorem x_nmI {x : Int} (k : ∀ y, y = x → WW p l e R s m args below meth c Q nL D cy G n0 pc L (vI y :: st) M) : WW p l e R s m args below meth c Q nL D cy G n0 pc L (vI x :: st) M := k x rfl
theorem x_nmL {x : Int} (k : ∀ y, y = x → WW p l e R s m args below meth c Q nL D cy G n0 pc L (vL y :: st) M) : WW p l e R s m args below meth c Q nL D cy G n0 pc L (vL x :: st) M := k x rfl
theorem x_call {op : Instr} {mc ms : Nat} {SP : SPt} {as stk : List PV} (K : CallOK l D cy R own op mc ms SP) (C : Cx p s m args meth c cc nL own D cy G n0) (hd : decode cc pc = .ok (op, 3)) (hstk : stk = as.reverse ++ st) (hlen : argN st ≤ 8) (Qp : Option PV → Mm → Prop) (hSP : SP as M Qp) (h1 : M.2.2.2 + mc - n0 ≤ R.cells) (h2 : SL (M.2.2.2 + mc) - SL n0 ≤ R.slots) (h3 : SL (M.2.2.2 + mc) = SL M.2.2.2 + ms) (k : ∀ v M', Qp v M' → M'.2.2.2 = M.2.2.2 + mc → WW p l e R s m args below meth c Q nL D cy G n0 (pc + 3) L (v.toList ++ st) M') : WW p l e R s m args below meth c Q nL D cy G n0 pc L stk M := by
  subst hstk
  exact K p e s m args below meth c Q cc nL G n0 pc L st as M Qp C hd hSP hlen h1 h2 h3 k
theorem x_call0 {op : Instr} {SP : SPt} {as stk : List PV} (K : CallOK l D cy R own op 0 0 SP) (C : Cx p s m args meth c cc nL own D cy G n0) (hd : decode cc pc = .ok (op, 3)) (hstk : stk = as.reverse ++ st) (hn : M.2.2.2 = n0) (hlen : argN st ≤ 8) (Qp : Option PV → Mm → Prop) (hSP : SP as M Qp) (k : ∀ v M', Qp v M' → M'.2.2.2 = n0 → WW p l e R s m args below meth c Q nL D cy G n0 (pc + 3) L (v.toList ++ st) M') : WW p l e R s m args below meth c Q nL D cy G n0 pc L stk M := by
  refine x_call K C hd hstk hlen Qp hSP (by rw [hn]; omega) (by rw [hn]; show SL n0 - SL n0 ≤ _; omega) rfl (fun v M' hq hm => k v M' hq (by rw [hm, hn]; rfl))
end STEPS
/-! Math.max, min, abs, by the kit's own rows -/
theorem mw_max : Cond.static Lib.Math.max.name ∈ lwG ∧ Cond.initialized "java/lang/Math" ∈ lwG ∧ Cond.code Lib.Math.max.name Lib.Math.max.code 2 (some .int) ∈ lwG := ⟨lwG_2 (i := 219) rfl rfl, lwG_1 (i := 14) rfl rfl, lwG_2 (i := 220) rfl rfl⟩
theorem mw_min : Cond.static Lib.Math.min.name ∈ lwG ∧ Cond.initialized "java/lang/Math" ∈ lwG ∧ Cond.code Lib.Math.min.name Lib.Math.min.code 2 (some .int) ∈ lwG := ⟨lwG_2 (i := 222) rfl rfl, lwG_1 (i := 14) rfl rfl, lwG_2 (i := 223) rfl rfl⟩
theorem mw_abs : Cond.static Lib.Math.abs.name ∈ lwG ∧ Cond.initialized "java/lang/Math" ∈ lwG ∧ Cond.code Lib.Math.abs.name Lib.Math.abs.code 1 (some .int) ∈ lwG := ⟨lwG_2 (i := 229) rfl rfl, lwG_1 (i := 14) rfl rfl, lwG_2 (i := 230) rfl rfl⟩
theorem ac_I : Cond.arrayClass .int ∈ lwG := lwG_1 (i := 45) rfl rfl
theorem ac_B : Cond.arrayClass .byte ∈ lwG := lwG_1 (i := 44) rfl rfl
def mtOK (own : String) (idx : Nat) (y : MethodName) : Prop := Cond.methodLink own idx y ∈ lwG
section MATH
variable {p : Program} {l : Launch} {e : Env} {R : Room} {s : State} {m : MethodId} {args : Array Value} {below : List Frame} {meth : Method} {c : Code} {Q : State → Prop} {cc : ByteArray} {nL : Nat} {own : String} {D : va_G} {cy : Nat → ClassId} {G : Nat × Nat} {n0 pc : Nat} {L L' : List (Nat × PV)} {st : List PV} {M : Mm}
theorem max_in {x y : Int} (hx : inI x) (hy : inI y) : inI (max x y) := by unfold inI at *; omega
theorem min_in {x y : Int} (hx : inI x) (hy : inI y) : inI (min x y) := by unfold inI at *; omega
theorem x_max {idx : Nat} {x y : Int} (C : Cx p s m args meth c cc nL own D cy G n0) (hd : decode cc pc = .ok (.invokestatic idx, 3)) (hn : M.2.2.2 = n0) (hm : mtOK own idx Lib.Math.max.name) (hlen : argN st ≤ 8) (hR : 1 ≤ R.frames ∧ 21 ≤ R.locals) (k : WW p l e R s m args below meth c Q nL D cy G n0 (pc + 3) L (vI (max x y) :: st) M) : WW p l e R s m args below meth c Q nL D cy G n0 pc L (vI y :: vI x :: st) M := by
  intro h0 hL hst H locs ls hW hS hls
  obtain ⟨hx, hb, hml, hown, hts, hK, hlk, hsz⟩ := C
  have hyk : inI y := ok_h hst
  have hxk : inI x := ok_h (ok_t hst)
  have hc := catsum G st hlen
  have g := k h0 hL (ok_push (max_in hxk hyk) (ok_t (ok_t hst))) H locs ls hW hS hls
  refine va_mmax hx hb (by rw [hml]; exact hls.1.symm) hown (hts _ hm) (hts _ mw_max.1) (hts _ mw_max.2.1) (hts _ mw_max.2.2) hR.1 (by omega) (by omega) (by rw [hn]; omega) hd ?_
  have e : (if Int32.ofInt x < Int32.ofInt y then Int32.ofInt y else Int32.ofInt x) = Int32.ofInt (max x y) := by
    by_cases h : x < y
    · rw [if_pos ((i32lt hxk hyk).mpr h)]; congr 1; omega
    · rw [if_neg (fun q => h ((i32lt hxk hyk).mp q))]; congr 1; omega
  rw [e]
  exact g
theorem x_min {idx : Nat} {x y : Int} (C : Cx p s m args meth c cc nL own D cy G n0) (hd : decode cc pc = .ok (.invokestatic idx, 3)) (hn : M.2.2.2 = n0) (hm : mtOK own idx Lib.Math.min.name) (hlen : argN st ≤ 8) (hR : 1 ≤ R.frames ∧ 21 ≤ R.locals) (k : WW p l e R s m args below meth c Q nL D cy G n0 (pc + 3) L (vI (min x y) :: st) M) : WW p l e R s m args below meth c Q nL D cy G n0 pc L (vI y :: vI x :: st) M := by
  intro h0 hL hst H locs ls hW hS hls
  obtain ⟨hx, hb, hml, hown, hts, hK, hlk, hsz⟩ := C
  have hyk : inI y := ok_h hst
  have hxk : inI x := ok_h (ok_t hst)
  have hc := catsum G st hlen
  have g := k h0 hL (ok_push (min_in hxk hyk) (ok_t (ok_t hst))) H locs ls hW hS hls
  refine va_mmin hx hb (by rw [hml]; exact hls.1.symm) hown (hts _ hm) (hts _ mw_min.1) (hts _ mw_min.2.1) (hts _ mw_min.2.2) hR.1 (by omega) (by omega) (by rw [hn]; omega) hd ?_
  have e : (if Int32.ofInt y < Int32.ofInt x then Int32.ofInt y else Int32.ofInt x) = Int32.ofInt (min x y) := by
    by_cases h : y < x
    · rw [if_pos ((i32lt hyk hxk).mpr h)]; congr 1; omega
    · rw [if_neg (fun q => h ((i32lt hyk hxk).mp q))]; congr 1; omega
  rw [e]
  exact g
theorem x_abs {idx : Nat} {x : Int} (C : Cx p s m args meth c cc nL own D cy G n0) (hd : decode cc pc = .ok (.invokestatic idx, 3)) (hn : M.2.2.2 = n0) (hm : mtOK own idx Lib.Math.abs.name) (hlen : argN st ≤ 8) (hR : 1 ≤ R.frames ∧ 21 ≤ R.locals) (hx2 : inI (-x)) (k : WW p l e R s m args below meth c Q nL D cy G n0 (pc + 3) L (vI ((Int.natAbs x : Nat) : Int) :: st) M) : WW p l e R s m args below meth c Q nL D cy G n0 pc L (vI x :: st) M := by
  intro h0 hL hst H locs ls hW hS hls
  obtain ⟨hx, hb, hml, hown, hts, hK, hlk, hsz⟩ := C
  have hxk : inI x := ok_h hst
  have hc := catsum G st hlen
  have g := k h0 hL (ok_push (v := vI _) (by show inI _; unfold inI at *; omega) (ok_t hst)) H locs ls hW hS hls
  refine va_mabs hx hb (by rw [hml]; exact hls.1.symm) hown (hts _ hm) (hts _ mw_abs.1) (hts _ mw_abs.2.1) (hts _ mw_abs.2.2) hR.1 (by omega) (by omega) (by rw [hn]; omega) hd ?_
  have e : (if 0 ≤ Int32.ofInt x then Int32.ofInt x else 0 - Int32.ofInt x) = Int32.ofInt ((Int.natAbs x : Nat) : Int) := by
    by_cases h : 0 ≤ x
    · rw [if_pos (by rw [← i320]; exact (i32le in0 hxk).mpr h)]; congr 1; omega
    · rw [if_neg (fun q => h ((i32le in0 hxk).mp (by rw [i320]; exact q))), ← i320, i32sub]; congr 1; omega
  rw [e]
  exact g
end MATH
