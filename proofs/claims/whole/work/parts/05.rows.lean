/-! A ROW AN INSTRUCTION, over the pure layer -/
theorem ok_push {v : PV} {st : List PV} (h : okv v) (hs : ∀ w ∈ st, okv w) : ∀ w ∈ v :: st, okv w := fun w hw => (List.mem_cons.mp hw).elim (fun e => e ▸ h) (hs w)
theorem ok_t {v : PV} {st : List PV} (hs : ∀ w ∈ v :: st, okv w) : ∀ w ∈ st, okv w := fun w hw => hs w (List.mem_cons_of_mem _ hw)
theorem ok_h {v : PV} {st : List PV} (hs : ∀ w ∈ v :: st, okv w) : okv v := hs v List.mem_cons_self
theorem i2l_in {x : Int} (h : inI x) : inL x := ⟨by have := h.1; omega, by have := h.2; omega⟩
def lcm (x y : Int) : Int := if y < x then 1 else if x = y then 0 else -1
theorem lcm_in (x y : Int) : inI (lcm x y) := by unfold lcm inI; split <;> (try split) <;> omega
theorem lcm_ok {x y : Int} (hx : inL x) (hy : inL y) : lg_cmp (Int64.ofInt x) (Int64.ofInt y) = Int32.ofInt (lcm x y) := by
  unfold lg_cmp lcm
  by_cases h1 : y < x
  · rw [if_pos ((i64lt hy hx).mpr h1), if_pos h1]; rfl
  · rw [if_neg (fun h => h1 ((i64lt hy hx).mp h)), if_neg h1]
    by_cases h2 : x = y
    · rw [if_pos ((i64eq hx hy).mpr h2), if_pos h2]; rfl
    · rw [if_neg (fun h => h2 ((i64eq hx hy).mp h)), if_neg h2]; rfl
def stL (L : List (Nat × PV)) (i : Nat) (v : PV) : List (Nat × PV) := (i, v) :: L.filter (fun q => !(q.1 == i) && !(q.1 + 1 == i && isLg q.2))
def stL2 (L : List (Nat × PV)) (i : Nat) (v : PV) : List (Nat × PV) := (i, v) :: L.filter (fun q => !(q.1 == i) && (!(q.1 == i + 1) && !(q.1 + 1 == i && isLg q.2)))
theorem cat_pv (G : Nat × Nat) (v : PV) : ((pv G v).category == 2) = isLg v := by rcases v with x | x | (_ | x) <;> rfl
theorem stL_map (G : Nat × Nat) (L : List (Nat × PV)) (i : Nat) (v : PV) : (i, pv G v) :: (L.map (fun q => (q.1, pv G q.2))).filter (fun q => !(q.1 == i) && !(q.1 + 1 == i && q.2.category == 2)) = (stL L i v).map (fun q => (q.1, pv G q.2)) := by
  unfold stL
  rw [List.map_cons, List.filter_map]
  congr 2
  apply List.filter_congr
  intro q _
  simp only [Function.comp, cat_pv]
theorem stL2_map (G : Nat × Nat) (L : List (Nat × PV)) (i : Nat) (v : PV) : (i, pv G v) :: (L.map (fun q => (q.1, pv G q.2))).filter (fun q => !(q.1 == i) && (!(q.1 == i + 1) && !(q.1 + 1 == i && q.2.category == 2))) = (stL2 L i v).map (fun q => (q.1, pv G q.2)) := by
  unfold stL2
  rw [List.map_cons, List.filter_map]
  congr 2
  apply List.filter_congr
  intro q _
  simp only [Function.comp, cat_pv]
theorem stL_ok {L : List (Nat × PV)} {i : Nat} {v : PV} (h : ∀ q ∈ L, okv q.2) (hv : okv v) : ∀ q ∈ stL L i v, okv q.2 := by
  intro q hq
  rcases List.mem_cons.mp hq with rfl | hq
  · exact hv
  · exact h q (List.mem_filter.mp hq).1
theorem stL2_ok {L : List (Nat × PV)} {i : Nat} {v : PV} (h : ∀ q ∈ L, okv q.2) (hv : okv v) : ∀ q ∈ stL2 L i v, okv q.2 := by
  intro q hq
  rcases List.mem_cons.mp hq with rfl | hq
  · exact hv
  · exact h q (List.mem_filter.mp hq).1
theorem ld_at {ls : Array Slot} {nL : Nat} {G : Nat × Nat} {L : List (Nat × PV)} {i : Nat} {v : PV} (h : lv_has ls nL (L.map (fun q => (q.1, pv G q.2)))) (hm : (i, v) ∈ L) : ls[i]? = some (.val (pv G v)) := h.2.2 (i, pv G v) (List.mem_map.mpr ⟨(i, v), hm, rfl⟩)
section SIM
variable {p : Program} {l : Launch} {e : Env} {R : Room} {s : State} {m : MethodId} {args : Array Value} {below : List Frame} {meth : Method} {c : Code} {Q : State → Prop} {cc : ByteArray} {nL : Nat} {own : String} {D : va_G} {cy : Nat → ClassId} {G : Nat × Nat} {n0 pc : Nat} {L : List (Nat × PV)} {st : List PV} {M : Mm}
theorem w_iadd {x y : Int} (C : Cx p s m args meth c cc nL own D cy G n0) (hd : decode cc pc = .ok (.iadd, 1)) (h : inI (x + y)) (k : WW p l e R s m args below meth c Q nL D cy G n0  (pc + 1) L (vI (x + y) :: st) M) : WW p l e R s m args below meth c Q nL D cy G n0  pc L (vI y :: vI x :: st) M := by
  intro h0 hL hst H locs ls hW hS hls
  have g := k h0 hL (ok_push h (ok_t (ok_t hst))) H locs ls hW hS hls
  refine lv_iadd C.1 C.2.1 hd ?_
  rw [i32add]
  exact g
theorem w_isub {x y : Int} (C : Cx p s m args meth c cc nL own D cy G n0) (hd : decode cc pc = .ok (.isub, 1)) (h : inI (x - y)) (k : WW p l e R s m args below meth c Q nL D cy G n0  (pc + 1) L (vI (x - y) :: st) M) : WW p l e R s m args below meth c Q nL D cy G n0  pc L (vI y :: vI x :: st) M := by
  intro h0 hL hst H locs ls hW hS hls
  have g := k h0 hL (ok_push h (ok_t (ok_t hst))) H locs ls hW hS hls
  refine lv_isub C.1 C.2.1 hd ?_
  rw [i32sub]
  exact g
theorem w_imul {x y : Int} (C : Cx p s m args meth c cc nL own D cy G n0) (hd : decode cc pc = .ok (.imul, 1)) (h : inI (x * y)) (k : WW p l e R s m args below meth c Q nL D cy G n0  (pc + 1) L (vI (x * y) :: st) M) : WW p l e R s m args below meth c Q nL D cy G n0  pc L (vI y :: vI x :: st) M := by
  intro h0 hL hst H locs ls hW hS hls
  have g := k h0 hL (ok_push h (ok_t (ok_t hst))) H locs ls hW hS hls
  refine lv_imul C.1 C.2.1 hd ?_
  rw [i32mul]
  exact g
theorem w_ladd {x y : Int} (C : Cx p s m args meth c cc nL own D cy G n0) (hd : decode cc pc = .ok (.ladd, 1)) (h : inL (x + y)) (k : WW p l e R s m args below meth c Q nL D cy G n0  (pc + 1) L (vL (x + y) :: st) M) : WW p l e R s m args below meth c Q nL D cy G n0  pc L (vL y :: vL x :: st) M := by
  intro h0 hL hst H locs ls hW hS hls
  have g := k h0 hL (ok_push h (ok_t (ok_t hst))) H locs ls hW hS hls
  refine lv_ladd C.1 C.2.1 hd ?_
  rw [i64add]
  exact g
theorem w_lsub {x y : Int} (C : Cx p s m args meth c cc nL own D cy G n0) (hd : decode cc pc = .ok (.lsub, 1)) (h : inL (x - y)) (k : WW p l e R s m args below meth c Q nL D cy G n0  (pc + 1) L (vL (x - y) :: st) M) : WW p l e R s m args below meth c Q nL D cy G n0  pc L (vL y :: vL x :: st) M := by
  intro h0 hL hst H locs ls hW hS hls
  have g := k h0 hL (ok_push h (ok_t (ok_t hst))) H locs ls hW hS hls
  refine lv_lsub C.1 C.2.1 hd ?_
  rw [i64sub]
  exact g
theorem w_lmul {x y : Int} (C : Cx p s m args meth c cc nL own D cy G n0) (hd : decode cc pc = .ok (.lmul, 1)) (h : inL (x * y)) (k : WW p l e R s m args below meth c Q nL D cy G n0  (pc + 1) L (vL (x * y) :: st) M) : WW p l e R s m args below meth c Q nL D cy G n0  pc L (vL y :: vL x :: st) M := by
  intro h0 hL hst H locs ls hW hS hls
  have g := k h0 hL (ok_push h (ok_t (ok_t hst))) H locs ls hW hS hls
  refine lv_lmul C.1 C.2.1 hd ?_
  rw [i64mul]
  exact g
theorem w_idiv {x y : Int} (C : Cx p s m args meth c cc nL own D cy G n0) (hd : decode cc pc = .ok (.idiv, 1)) (hy : y ≠ 0) (h : inI (x.tdiv y)) (h2 : inI (x.tdiv y)) (k : WW p l e R s m args below meth c Q nL D cy G n0  (pc + 1) L (vI (x.tdiv y) :: st) M) : WW p l e R s m args below meth c Q nL D cy G n0  pc L (vI y :: vI x :: st) M := by
  intro h0 hL hst H locs ls hW hS hls
  have g := k h0 hL (ok_push h2 (ok_t (ok_t hst))) H locs ls hW hS hls
  have hyk : inI y := ok_h hst
  have hxk : inI x := ok_h (ok_t hst)
  refine lv_idiv C.1 C.2.1 hd (fun q => hy ((i32eq hyk in0).mp q)) ?_
  rw [i32div hxk hyk h]
  exact g
theorem w_irem {x y : Int} (C : Cx p s m args meth c cc nL own D cy G n0) (hd : decode cc pc = .ok (.irem, 1)) (hy : y ≠ 0) (h : inI (x.tdiv y)) (h2 : inI (x.tmod y)) (k : WW p l e R s m args below meth c Q nL D cy G n0  (pc + 1) L (vI (x.tmod y) :: st) M) : WW p l e R s m args below meth c Q nL D cy G n0  pc L (vI y :: vI x :: st) M := by
  intro h0 hL hst H locs ls hW hS hls
  have g := k h0 hL (ok_push h2 (ok_t (ok_t hst))) H locs ls hW hS hls
  have hyk : inI y := ok_h hst
  have hxk : inI x := ok_h (ok_t hst)
  refine lv_irem C.1 C.2.1 hd (fun q => hy ((i32eq hyk in0).mp q)) ?_
  rw [i32rem hxk hyk h]
  exact g
theorem w_ldiv {x y : Int} (C : Cx p s m args meth c cc nL own D cy G n0) (hd : decode cc pc = .ok (.ldiv, 1)) (hy : y ≠ 0) (h : inL (x.tdiv y)) (h2 : inL (x.tdiv y)) (k : WW p l e R s m args below meth c Q nL D cy G n0  (pc + 1) L (vL (x.tdiv y) :: st) M) : WW p l e R s m args below meth c Q nL D cy G n0  pc L (vL y :: vL x :: st) M := by
  intro h0 hL hst H locs ls hW hS hls
  have g := k h0 hL (ok_push h2 (ok_t (ok_t hst))) H locs ls hW hS hls
  have hyk : inL y := ok_h hst
  have hxk : inL x := ok_h (ok_t hst)
  refine lv_ldiv C.1 C.2.1 hd (fun q => hy ((i64eq hyk in0l).mp q)) ?_
  rw [i64div hxk hyk h]
  exact g
theorem w_lrem {x y : Int} (C : Cx p s m args meth c cc nL own D cy G n0) (hd : decode cc pc = .ok (.lrem, 1)) (hy : y ≠ 0) (h : inL (x.tdiv y)) (h2 : inL (x.tmod y)) (k : WW p l e R s m args below meth c Q nL D cy G n0  (pc + 1) L (vL (x.tmod y) :: st) M) : WW p l e R s m args below meth c Q nL D cy G n0  pc L (vL y :: vL x :: st) M := by
  intro h0 hL hst H locs ls hW hS hls
  have g := k h0 hL (ok_push h2 (ok_t (ok_t hst))) H locs ls hW hS hls
  have hyk : inL y := ok_h hst
  have hxk : inL x := ok_h (ok_t hst)
  refine lv_lrem C.1 C.2.1 hd (fun q => hy ((i64eq hyk in0l).mp q)) ?_
  rw [i64rem hxk hyk h]
  exact g
theorem w_iand {x y : Int} (C : Cx p s m args meth c cc nL own D cy G n0) (hd : decode cc pc = .ok (.iand, 1)) (k : WW p l e R s m args below meth c Q nL D cy G n0  (pc + 1) L (vI (Int32.ofInt x &&& Int32.ofInt y).toInt :: st) M) : WW p l e R s m args below meth c Q nL D cy G n0  pc L (vI y :: vI x :: st) M := by
  intro h0 hL hst H locs ls hW hS hls
  have g := k h0 hL (ok_push (i32in _) (ok_t (ok_t hst))) H locs ls hW hS hls
  refine lv_iand C.1 C.2.1 hd ?_
  have g : W _ _ _ _ _ _ _ _ _ _ _ _ _ _ _ (F0 m (pc + 1) ls (.int (Int32.ofInt (Int32.ofInt x &&& Int32.ofInt y).toInt) :: st.map (pv G))) := g
  rw [i32o] at g
  exact g
theorem w_ior {x y : Int} (C : Cx p s m args meth c cc nL own D cy G n0) (hd : decode cc pc = .ok (.ior, 1)) (k : WW p l e R s m args below meth c Q nL D cy G n0  (pc + 1) L (vI (Int32.ofInt x ||| Int32.ofInt y).toInt :: st) M) : WW p l e R s m args below meth c Q nL D cy G n0  pc L (vI y :: vI x :: st) M := by
  intro h0 hL hst H locs ls hW hS hls
  have g := k h0 hL (ok_push (i32in _) (ok_t (ok_t hst))) H locs ls hW hS hls
  refine lv_ior C.1 C.2.1 hd ?_
  have g : W _ _ _ _ _ _ _ _ _ _ _ _ _ _ _ (F0 m (pc + 1) ls (.int (Int32.ofInt (Int32.ofInt x ||| Int32.ofInt y).toInt) :: st.map (pv G))) := g
  rw [i32o] at g
  exact g
theorem w_ishl {x y : Int} (C : Cx p s m args meth c cc nL own D cy G n0) (hd : decode cc pc = .ok (.ishl, 1)) (k : WW p l e R s m args below meth c Q nL D cy G n0  (pc + 1) L (vI (Int32.ofInt x <<< (Int32.ofInt y &&& 31)).toInt :: st) M) : WW p l e R s m args below meth c Q nL D cy G n0  pc L (vI y :: vI x :: st) M := by
  intro h0 hL hst H locs ls hW hS hls
  have g := k h0 hL (ok_push (i32in _) (ok_t (ok_t hst))) H locs ls hW hS hls
  refine lv_ishl C.1 C.2.1 hd ?_
  have g : W _ _ _ _ _ _ _ _ _ _ _ _ _ _ _ (F0 m (pc + 1) ls (.int (Int32.ofInt (Int32.ofInt x <<< (Int32.ofInt y &&& 31)).toInt) :: st.map (pv G))) := g
  rw [i32o] at g
  exact g
theorem w_ishr {x y : Int} (C : Cx p s m args meth c cc nL own D cy G n0) (hd : decode cc pc = .ok (.ishr, 1)) (k : WW p l e R s m args below meth c Q nL D cy G n0  (pc + 1) L (vI (Int32.ofInt x >>> (Int32.ofInt y &&& 31)).toInt :: st) M) : WW p l e R s m args below meth c Q nL D cy G n0  pc L (vI y :: vI x :: st) M := by
  intro h0 hL hst H locs ls hW hS hls
  have g := k h0 hL (ok_push (i32in _) (ok_t (ok_t hst))) H locs ls hW hS hls
  refine lv_ishr C.1 C.2.1 hd ?_
  have g : W _ _ _ _ _ _ _ _ _ _ _ _ _ _ _ (F0 m (pc + 1) ls (.int (Int32.ofInt (Int32.ofInt x >>> (Int32.ofInt y &&& 31)).toInt) :: st.map (pv G))) := g
  rw [i32o] at g
  exact g
theorem w_land {x y : Int} (C : Cx p s m args meth c cc nL own D cy G n0) (hd : decode cc pc = .ok (.land, 1)) (k : WW p l e R s m args below meth c Q nL D cy G n0  (pc + 1) L (vL (Int64.ofInt x &&& Int64.ofInt y).toInt :: st) M) : WW p l e R s m args below meth c Q nL D cy G n0  pc L (vL y :: vL x :: st) M := by
  intro h0 hL hst H locs ls hW hS hls
  have g := k h0 hL (ok_push (i64in _) (ok_t (ok_t hst))) H locs ls hW hS hls
  refine lv_land C.1 C.2.1 hd ?_
  have g : W _ _ _ _ _ _ _ _ _ _ _ _ _ _ _ (F0 m (pc + 1) ls (.long (Int64.ofInt (Int64.ofInt x &&& Int64.ofInt y).toInt) :: st.map (pv G))) := g
  rw [i64o] at g
  exact g
theorem w_lor {x y : Int} (C : Cx p s m args meth c cc nL own D cy G n0) (hd : decode cc pc = .ok (.lor, 1)) (k : WW p l e R s m args below meth c Q nL D cy G n0  (pc + 1) L (vL (Int64.ofInt x ||| Int64.ofInt y).toInt :: st) M) : WW p l e R s m args below meth c Q nL D cy G n0  pc L (vL y :: vL x :: st) M := by
  intro h0 hL hst H locs ls hW hS hls
  have g := k h0 hL (ok_push (i64in _) (ok_t (ok_t hst))) H locs ls hW hS hls
  refine lv_lor C.1 C.2.1 hd ?_
  have g : W _ _ _ _ _ _ _ _ _ _ _ _ _ _ _ (F0 m (pc + 1) ls (.long (Int64.ofInt (Int64.ofInt x ||| Int64.ofInt y).toInt) :: st.map (pv G))) := g
  rw [i64o] at g
  exact g
theorem w_iushr {x y : Int} (C : Cx p s m args meth c cc nL own D cy G n0) (hd : decode cc pc = .ok (.iushr, 1)) (k : WW p l e R s m args below meth c Q nL D cy G n0  (pc + 1) L (vI (((Int32.ofInt x).toUInt32 >>> ((Int32.ofInt y).toUInt32 &&& Int32.toUInt32 31)).toInt32.toInt) :: st) M) : WW p l e R s m args below meth c Q nL D cy G n0  pc L (vI y :: vI x :: st) M := by
  intro h0 hL hst H locs ls hW hS hls
  have g := k h0 hL (ok_push (i32in _) (ok_t (ok_t hst))) H locs ls hW hS hls
  refine lv_iushr C.1 C.2.1 hd rfl ?_
  have g : W _ _ _ _ _ _ _ _ _ _ _ _ _ _ _ (F0 m (pc + 1) ls (.int (Int32.ofInt (((Int32.ofInt x).toUInt32 >>> ((Int32.ofInt y).toUInt32 &&& Int32.toUInt32 31)).toInt32.toInt)) :: st.map (pv G))) := g
  rw [i32o] at g
  exact g
theorem w_lshl {x y : Int} (C : Cx p s m args meth c cc nL own D cy G n0) (hd : decode cc pc = .ok (.lshl, 1)) (k : WW p l e R s m args below meth c Q nL D cy G n0  (pc + 1) L (vL (Int64.ofInt x <<< ((Int32.ofInt y).toInt64 &&& 63)).toInt :: st) M) : WW p l e R s m args below meth c Q nL D cy G n0  pc L (vI y :: vL x :: st) M := by
  intro h0 hL hst H locs ls hW hS hls
  have g := k h0 hL (ok_push (i64in _) (ok_t (ok_t hst))) H locs ls hW hS hls
  refine lv_lshl C.1 C.2.1 hd rfl ?_
  have g : W _ _ _ _ _ _ _ _ _ _ _ _ _ _ _ (F0 m (pc + 1) ls (.long (Int64.ofInt (Int64.ofInt x <<< ((Int32.ofInt y).toInt64 &&& 63)).toInt) :: st.map (pv G))) := g
  rw [i64o] at g
  exact g
theorem w_lshr {x y : Int} (C : Cx p s m args meth c cc nL own D cy G n0) (hd : decode cc pc = .ok (.lshr, 1)) (k : WW p l e R s m args below meth c Q nL D cy G n0  (pc + 1) L (vL (Int64.ofInt x >>> ((Int32.ofInt y).toInt64 &&& 63)).toInt :: st) M) : WW p l e R s m args below meth c Q nL D cy G n0  pc L (vI y :: vL x :: st) M := by
  intro h0 hL hst H locs ls hW hS hls
  have g := k h0 hL (ok_push (i64in _) (ok_t (ok_t hst))) H locs ls hW hS hls
  refine lv_lshr C.1 C.2.1 hd rfl ?_
  have g : W _ _ _ _ _ _ _ _ _ _ _ _ _ _ _ (F0 m (pc + 1) ls (.long (Int64.ofInt (Int64.ofInt x >>> ((Int32.ofInt y).toInt64 &&& 63)).toInt) :: st.map (pv G))) := g
  rw [i64o] at g
  exact g
theorem w_ineg {x : Int} (C : Cx p s m args meth c cc nL own D cy G n0) (hd : decode cc pc = .ok (.ineg, 1)) (h : inI (-x)) (k : WW p l e R s m args below meth c Q nL D cy G n0  (pc + 1) L (vI (-x) :: st) M) : WW p l e R s m args below meth c Q nL D cy G n0  pc L (vI x :: st) M := by
  intro h0 hL hst H locs ls hW hS hls
  have g := k h0 hL (ok_push h (ok_t hst)) H locs ls hW hS hls
  refine lv_ineg C.1 C.2.1 hd ?_
  rw [i32neg]
  exact g
theorem w_lneg {x : Int} (C : Cx p s m args meth c cc nL own D cy G n0) (hd : decode cc pc = .ok (.lneg, 1)) (h : inL (-x)) (k : WW p l e R s m args below meth c Q nL D cy G n0  (pc + 1) L (vL (-x) :: st) M) : WW p l e R s m args below meth c Q nL D cy G n0  pc L (vL x :: st) M := by
  intro h0 hL hst H locs ls hW hS hls
  have g := k h0 hL (ok_push h (ok_t hst)) H locs ls hW hS hls
  refine lv_lneg C.1 C.2.1 hd ?_
  rw [i64neg]
  exact g
theorem w_i2l {x : Int} (C : Cx p s m args meth c cc nL own D cy G n0) (hd : decode cc pc = .ok (.i2l, 1)) (k : WW p l e R s m args below meth c Q nL D cy G n0  (pc + 1) L (vL x :: st) M) : WW p l e R s m args below meth c Q nL D cy G n0  pc L (vI x :: st) M := by
  intro h0 hL hst H locs ls hW hS hls
  have hxk : inI x := ok_h hst
  have g := k h0 hL (ok_push (i2l_in hxk) (ok_t hst)) H locs ls hW hS hls
  exact lv_i2l C.1 C.2.1 hd (i2lt hxk) g
theorem w_l2i {x : Int} (C : Cx p s m args meth c cc nL own D cy G n0) (hd : decode cc pc = .ok (.l2i, 1)) (k : WW p l e R s m args below meth c Q nL D cy G n0  (pc + 1) L (vI (Int64.ofInt x).toInt32.toInt :: st) M) : WW p l e R s m args below meth c Q nL D cy G n0  pc L (vL x :: st) M := by
  intro h0 hL hst H locs ls hW hS hls
  have g := k h0 hL (ok_push (i32in _) (ok_t hst)) H locs ls hW hS hls
  exact lv_l2i C.1 C.2.1 hd (i32o _).symm g
theorem w_i2b {x : Int} (C : Cx p s m args meth c cc nL own D cy G n0) (hd : decode cc pc = .ok (.i2b, 1)) (k : WW p l e R s m args below meth c Q nL D cy G n0  (pc + 1) L (vI (Int32.ofInt x).toInt8.toInt32.toInt :: st) M) : WW p l e R s m args below meth c Q nL D cy G n0  pc L (vI x :: st) M := by
  intro h0 hL hst H locs ls hW hS hls
  have g := k h0 hL (ok_push (i32in _) (ok_t hst)) H locs ls hW hS hls
  exact lv_i2b C.1 C.2.1 hd (i32o _).symm g
theorem w_lcmp {x y : Int} (C : Cx p s m args meth c cc nL own D cy G n0) (hd : decode cc pc = .ok (.lcmp, 1)) (k : WW p l e R s m args below meth c Q nL D cy G n0  (pc + 1) L (vI (lcm x y) :: st) M) : WW p l e R s m args below meth c Q nL D cy G n0  pc L (vL y :: vL x :: st) M := by
  intro h0 hL hst H locs ls hW hS hls
  have g := k h0 hL (ok_push (lcm_in x y) (ok_t (ok_t hst))) H locs ls hW hS hls
  refine W.lcmp C.1 C.2.1 hd ?_
  rw [lcm_ok (ok_h (ok_t hst)) (ok_h hst)]
  exact g
theorem w_iconst {n : Int} (C : Cx p s m args meth c cc nL own D cy G n0) (hd : decode cc pc = .ok (.iconst n, 1)) (h : inI n) (k : WW p l e R s m args below meth c Q nL D cy G n0  (pc + 1) L (vI n :: st) M) : WW p l e R s m args below meth c Q nL D cy G n0  pc L (st) M := by
  intro h0 hL hst H locs ls hW hS hls
  exact lv_iconst C.1 C.2.1 hd rfl (k h0 hL (ok_push h hst) H locs ls hW hS hls)
theorem w_bipush {n : Int} (C : Cx p s m args meth c cc nL own D cy G n0) (hd : decode cc pc = .ok (.bipush n, 2)) (h : (Int8.ofInt n).toInt32.toInt = n) (k : WW p l e R s m args below meth c Q nL D cy G n0  (pc + 2) L (vI n :: st) M) : WW p l e R s m args below meth c Q nL D cy G n0  pc L (st) M := by
  intro h0 hL hst H locs ls hW hS hls
  have hh : inI n := by rw [← h]; exact i32in _
  exact lv_bipush C.1 C.2.1 hd (by conv => rhs; rw [← h]
                                   exact (i32o _).symm) (k h0 hL (ok_push hh hst) H locs ls hW hS hls)
theorem w_sipush {n : Int} (C : Cx p s m args meth c cc nL own D cy G n0) (hd : decode cc pc = .ok (.sipush n, 3)) (h : (Int16.ofInt n).toInt32.toInt = n) (k : WW p l e R s m args below meth c Q nL D cy G n0  (pc + 3) L (vI n :: st) M) : WW p l e R s m args below meth c Q nL D cy G n0  pc L (st) M := by
  intro h0 hL hst H locs ls hW hS hls
  have hh : inI n := by rw [← h]; exact i32in _
  exact lv_sipush C.1 C.2.1 hd (by conv => rhs; rw [← h]
                                   exact (i32o _).symm) (k h0 hL (ok_push hh hst) H locs ls hW hS hls)
theorem w_lconst {n : Fin 2} (C : Cx p s m args meth c cc nL own D cy G n0) (hd : decode cc pc = .ok (.lconst n, 1)) (k : WW p l e R s m args below meth c Q nL D cy G n0  (pc + 1) L (vL (n : Nat) :: st) M) : WW p l e R s m args below meth c Q nL D cy G n0  pc L (st) M := by
  intro h0 hL hst H locs ls hW hS hls
  have hh : inL ((n : Nat) : Int) := ⟨by omega, by have := n.isLt; omega⟩
  exact lv_lconst C.1 C.2.1 hd rfl (k h0 hL (ok_push hh hst) H locs ls hW hS hls)
theorem w_ldc {idx : Nat} {x : Int} (C : Cx p s m args meth c cc nL own D cy G n0) (hd : decode cc pc = .ok (.ldc idx, 2)) (hc : Cond.constant own idx (Int32.ofInt x) ∈ lwG) (h : inI x) (k : WW p l e R s m args below meth c Q nL D cy G n0  (pc + 2) L (vI x :: st) M) : WW p l e R s m args below meth c Q nL D cy G n0  pc L (st) M := by
  intro h0 hL hst H locs ls hW hS hls
  exact lv_ldc C.1 C.2.1 C.2.2.2.1 (C.2.2.2.2.1 _ hc) hd (k h0 hL (ok_push h hst) H locs ls hW hS hls)
theorem w_ldcw {idx : Nat} {x : Int} (C : Cx p s m args meth c cc nL own D cy G n0) (hd : decode cc pc = .ok (.ldc_w idx, 3)) (hc : Cond.constant own idx (Int32.ofInt x) ∈ lwG) (h : inI x) (k : WW p l e R s m args below meth c Q nL D cy G n0  (pc + 3) L (vI x :: st) M) : WW p l e R s m args below meth c Q nL D cy G n0  pc L (st) M := by
  intro h0 hL hst H locs ls hW hS hls
  exact lv_ldcw C.1 C.2.1 C.2.2.2.1 (C.2.2.2.2.1 _ hc) hd (k h0 hL (ok_push h hst) H locs ls hW hS hls)
theorem w_ldc2 {idx : Nat} {x : Int} (C : Cx p s m args meth c cc nL own D cy G n0) (hd : decode cc pc = .ok (.ldc2_w idx, 3)) (hc : Cond.constantLong own idx (Int64.ofInt x) ∈ lwG) (h : inL x) (k : WW p l e R s m args below meth c Q nL D cy G n0  (pc + 3) L (vL x :: st) M) : WW p l e R s m args below meth c Q nL D cy G n0  pc L (st) M := by
  intro h0 hL hst H locs ls hW hS hls
  exact lv_ldc2 C.1 C.2.1 C.2.2.2.1 (C.2.2.2.2.1 _ hc) hd (k h0 hL (ok_push h hst) H locs ls hW hS hls)
theorem w_null (C : Cx p s m args meth c cc nL own D cy G n0) (hd : decode cc pc = .ok (.aconst_null, 1)) (k : WW p l e R s m args below meth c Q nL D cy G n0  (pc + 1) L (vR none :: st) M) : WW p l e R s m args below meth c Q nL D cy G n0  pc L (st) M := by
  intro h0 hL hst H locs ls hW hS hls
  exact lv_null C.1 C.2.1 hd (k h0 hL (ok_push (v := vR none) trivial hst) H locs ls hW hS hls)
theorem w_iload {i : Nat} {x : Int} (C : Cx p s m args meth c cc nL own D cy G n0) (hd : decode cc pc = .ok (.iload i, 2)) (hm : (i, vI x) ∈ L) (k : WW p l e R s m args below meth c Q nL D cy G n0  (pc + 2) L (vI x :: st) M) : WW p l e R s m args below meth c Q nL D cy G n0  pc L (st) M := by
  intro h0 hL hst H locs ls hW hS hls
  exact lv_iload C.1 C.2.1 hd (ld_at hls hm) (k h0 hL (ok_push (hL _ hm) hst) H locs ls hW hS hls)
theorem w_iload_n {j : Fin 4} {i : Nat} {x : Int} (C : Cx p s m args meth c cc nL own D cy G n0) (hd : decode cc pc = .ok (.iload_n j, 1)) (hj : (j : Nat) = i) (hm : (i, vI x) ∈ L) (k : WW p l e R s m args below meth c Q nL D cy G n0  (pc + 1) L (vI x :: st) M) : WW p l e R s m args below meth c Q nL D cy G n0  pc L (st) M := by
  intro h0 hL hst H locs ls hW hS hls
  exact lv_iload_n C.1 C.2.1 hd hj (ld_at hls hm) (k h0 hL (ok_push (hL _ hm) hst) H locs ls hW hS hls)
theorem w_lload {i : Nat} {x : Int} (C : Cx p s m args meth c cc nL own D cy G n0) (hd : decode cc pc = .ok (.lload i, 2)) (hm : (i, vL x) ∈ L) (k : WW p l e R s m args below meth c Q nL D cy G n0  (pc + 2) L (vL x :: st) M) : WW p l e R s m args below meth c Q nL D cy G n0  pc L (st) M := by
  intro h0 hL hst H locs ls hW hS hls
  exact lv_lload C.1 C.2.1 hd (ld_at hls hm) (k h0 hL (ok_push (hL _ hm) hst) H locs ls hW hS hls)
theorem w_lload_n {j : Fin 4} {i : Nat} {x : Int} (C : Cx p s m args meth c cc nL own D cy G n0) (hd : decode cc pc = .ok (.lload_n j, 1)) (hj : (j : Nat) = i) (hm : (i, vL x) ∈ L) (k : WW p l e R s m args below meth c Q nL D cy G n0  (pc + 1) L (vL x :: st) M) : WW p l e R s m args below meth c Q nL D cy G n0  pc L (st) M := by
  intro h0 hL hst H locs ls hW hS hls
  exact lv_lload_n C.1 C.2.1 hd hj (ld_at hls hm) (k h0 hL (ok_push (hL _ hm) hst) H locs ls hW hS hls)
theorem w_aload {i : Nat} {r : Option Nat} (C : Cx p s m args meth c cc nL own D cy G n0) (hd : decode cc pc = .ok (.aload i, 2)) (hm : (i, vR r) ∈ L) (k : WW p l e R s m args below meth c Q nL D cy G n0  (pc + 2) L (vR r :: st) M) : WW p l e R s m args below meth c Q nL D cy G n0  pc L (st) M := by
  intro h0 hL hst H locs ls hW hS hls
  have g := k h0 hL (ok_push (v := vR r) trivial hst) H locs ls hW hS hls
  have q := ld_at hls hm
  cases r with
  | none => exact lv_aloadN C.1 C.2.1 hd q g
  | some x => exact lv_aload C.1 C.2.1 hd q g
theorem w_aload_n {j : Fin 4} {i : Nat} {r : Option Nat} (C : Cx p s m args meth c cc nL own D cy G n0) (hd : decode cc pc = .ok (.aload_n j, 1)) (hj : (j : Nat) = i) (hm : (i, vR r) ∈ L) (k : WW p l e R s m args below meth c Q nL D cy G n0  (pc + 1) L (vR r :: st) M) : WW p l e R s m args below meth c Q nL D cy G n0  pc L (st) M := by
  intro h0 hL hst H locs ls hW hS hls
  have g := k h0 hL (ok_push (v := vR r) trivial hst) H locs ls hW hS hls
  have q := ld_at hls hm
  cases r with
  | none => exact lv_aload_nN C.1 C.2.1 hd hj q g
  | some x => exact lv_aload_n C.1 C.2.1 hd hj q g
theorem w_istore {i : Nat} {x : Int} (C : Cx p s m args meth c cc nL own D cy G n0) (hd : decode cc pc = .ok (.istore i, 2)) (hn : i < nL) (k : WW p l e R s m args below meth c Q nL D cy G n0  (pc + 2) (stL L i (vI x)) st M) : WW p l e R s m args below meth c Q nL D cy G n0  pc L (vI x :: st) M := by
  intro h0 hL hst H locs ls hW hS hls
  exact lv_istore C.1 C.2.1 hd hls hn (stL_map G L i (vI x)) (fun ls2 h2 => k h0 (stL_ok hL (ok_h hst)) (ok_t hst) H locs ls2 hW hS h2)
theorem w_istore_n {j : Fin 4} {i : Nat} {x : Int} (C : Cx p s m args meth c cc nL own D cy G n0) (hd : decode cc pc = .ok (.istore_n j, 1)) (hj : (j : Nat) = i) (hn : i < nL) (k : WW p l e R s m args below meth c Q nL D cy G n0  (pc + 1) (stL L i (vI x)) st M) : WW p l e R s m args below meth c Q nL D cy G n0  pc L (vI x :: st) M := by
  intro h0 hL hst H locs ls hW hS hls
  exact lv_istore_n C.1 C.2.1 hd hj hls hn (stL_map G L i (vI x)) (fun ls2 h2 => k h0 (stL_ok hL (ok_h hst)) (ok_t hst) H locs ls2 hW hS h2)
theorem w_lstore {i : Nat} {x : Int} (C : Cx p s m args meth c cc nL own D cy G n0) (hd : decode cc pc = .ok (.lstore i, 2)) (hn : i + 1 < nL) (k : WW p l e R s m args below meth c Q nL D cy G n0  (pc + 2) (stL2 L i (vL x)) st M) : WW p l e R s m args below meth c Q nL D cy G n0  pc L (vL x :: st) M := by
  intro h0 hL hst H locs ls hW hS hls
  exact lv_lstore C.1 C.2.1 hd hls hn (stL2_map G L i (vL x)) (fun ls2 h2 => k h0 (stL2_ok hL (ok_h hst)) (ok_t hst) H locs ls2 hW hS h2)
theorem w_lstore_n {j : Fin 4} {i : Nat} {x : Int} (C : Cx p s m args meth c cc nL own D cy G n0) (hd : decode cc pc = .ok (.lstore_n j, 1)) (hj : (j : Nat) = i) (hn : i + 1 < nL) (k : WW p l e R s m args below meth c Q nL D cy G n0  (pc + 1) (stL2 L i (vL x)) st M) : WW p l e R s m args below meth c Q nL D cy G n0  pc L (vL x :: st) M := by
  intro h0 hL hst H locs ls hW hS hls
  exact lv_lstore_n C.1 C.2.1 hd hj hls hn (stL2_map G L i (vL x)) (fun ls2 h2 => k h0 (stL2_ok hL (ok_h hst)) (ok_t hst) H locs ls2 hW hS h2)
theorem w_astore {i : Nat} {r : Option Nat} (C : Cx p s m args meth c cc nL own D cy G n0) (hd : decode cc pc = .ok (.astore i, 2)) (hn : i < nL) (k : WW p l e R s m args below meth c Q nL D cy G n0  (pc + 2) (stL L i (vR r)) st M) : WW p l e R s m args below meth c Q nL D cy G n0  pc L (vR r :: st) M := by
  intro h0 hL hst H locs ls hW hS hls
  cases r with
  | none => exact lv_astoreN C.1 C.2.1 hd hls hn (stL_map G L i (vR none)) (fun ls2 h2 => k h0 (stL_ok hL (ok_h hst)) (ok_t hst) H locs ls2 hW hS h2)
  | some x => exact lv_astore C.1 C.2.1 hd hls hn (stL_map G L i (vR (some x))) (fun ls2 h2 => k h0 (stL_ok hL (ok_h hst)) (ok_t hst) H locs ls2 hW hS h2)
theorem w_astore_n {j : Fin 4} {i : Nat} {r : Option Nat} (C : Cx p s m args meth c cc nL own D cy G n0) (hd : decode cc pc = .ok (.astore_n j, 1)) (hj : (j : Nat) = i) (hn : i < nL) (k : WW p l e R s m args below meth c Q nL D cy G n0  (pc + 1) (stL L i (vR r)) st M) : WW p l e R s m args below meth c Q nL D cy G n0  pc L (vR r :: st) M := by
  intro h0 hL hst H locs ls hW hS hls
  cases r with
  | none => exact lv_astore_nN C.1 C.2.1 hd hj hls hn (stL_map G L i (vR none)) (fun ls2 h2 => k h0 (stL_ok hL (ok_h hst)) (ok_t hst) H locs ls2 hW hS h2)
  | some x => exact lv_astore_n C.1 C.2.1 hd hj hls hn (stL_map G L i (vR (some x))) (fun ls2 h2 => k h0 (stL_ok hL (ok_h hst)) (ok_t hst) H locs ls2 hW hS h2)
theorem w_iinc {i : Nat} {n x : Int} (C : Cx p s m args meth c cc nL own D cy G n0) (hd : decode cc pc = .ok (.iinc i n, 3)) (hm : (i, vI x) ∈ L) (hn : i < nL) (h : inI (x + n)) (k : WW p l e R s m args below meth c Q nL D cy G n0  (pc + 3) (stL L i (vI (x + n))) st M) : WW p l e R s m args below meth c Q nL D cy G n0  pc L st M := by
  intro h0 hL hst H locs ls hW hS hls
  obtain ⟨kk, hkk⟩ := List.getElem?_of_mem hm
  exact lv_iinc C.1 C.2.1 hd hls (k := kk) (x := Int32.ofInt x) (by rw [List.getElem?_map, hkk]; rfl) (i32add x n) hn (stL_map G L i (vI (x + n))) (fun ls2 h2 => k h0 (stL_ok hL h) hst H locs ls2 hW hS h2)
theorem w_dup {v : PV} (C : Cx p s m args meth c cc nL own D cy G n0) (hd : decode cc pc = .ok (.dup, 1)) (hv : isLg v = false) (k : WW p l e R s m args below meth c Q nL D cy G n0  (pc + 1) L (v :: v :: st) M) : WW p l e R s m args below meth c Q nL D cy G n0  pc L (v :: st) M := by
  intro h0 hL hst H locs ls hW hS hls
  exact lv_dup C.1 C.2.1 hd (by rcases v with x | x | (_ | x) <;> first | rfl | cases hv) (k h0 hL (ok_push (ok_h hst) hst) H locs ls hW hS hls)
theorem w_dup2 {v w : PV} (C : Cx p s m args meth c cc nL own D cy G n0) (hd : decode cc pc = .ok (.dup2, 1)) (hv : isLg v = false) (hw : isLg w = false) (k : WW p l e R s m args below meth c Q nL D cy G n0  (pc + 1) L (v :: w :: v :: w :: st) M) : WW p l e R s m args below meth c Q nL D cy G n0  pc L (v :: w :: st) M := by
  intro h0 hL hst H locs ls hW hS hls
  exact lv_dup2_11 C.1 C.2.1 hd (by rcases v with x | x | (_ | x) <;> first | rfl | cases hv) (by rcases w with x | x | (_ | x) <;> first | rfl | cases hw) (k h0 hL (ok_push (ok_h hst) (ok_push (ok_h (ok_t hst)) hst)) H locs ls hW hS hls)
theorem w_icmp_eq {x y : Int} {off : Int} {tgt : Nat} (C : Cx p s m args meth c cc nL own D cy G n0) (hd : decode cc pc = .ok (.if_icmp .eq off, 3)) (ht : (pc : Int) + off = (tgt : Int)) (kt : x = y → WW p l e R s m args below meth c Q nL D cy G n0  tgt L st M) (kf : ¬ x = y → WW p l e R s m args below meth c Q nL D cy G n0  (pc + 3) L st M) : WW p l e R s m args below meth c Q nL D cy G n0  pc L (vI y :: vI x :: st) M := by
  intro h0 hL hst H locs ls hW hS hls
  have hyk : inI y := ok_h hst
  have hxk : inI x := ok_h (ok_t hst)
  exact lv_icmp_eq C.1 C.2.1 hd ht (fun q => kt ((i32eq hxk hyk).mp q) h0 hL (ok_t (ok_t hst)) H locs ls hW hS hls) (fun q => kf (fun z => q ((i32eq hxk hyk).mpr z)) h0 hL (ok_t (ok_t hst)) H locs ls hW hS hls)
theorem w_if_eq {x : Int} {off : Int} {tgt : Nat} (C : Cx p s m args meth c cc nL own D cy G n0) (hd : decode cc pc = .ok (.ifCond .eq off, 3)) (ht : (pc : Int) + off = (tgt : Int)) (kt : x = 0 → WW p l e R s m args below meth c Q nL D cy G n0  tgt L st M) (kf : ¬ x = 0 → WW p l e R s m args below meth c Q nL D cy G n0  (pc + 3) L st M) : WW p l e R s m args below meth c Q nL D cy G n0  pc L (vI x :: st) M := by
  intro h0 hL hst H locs ls hW hS hls
  have hxk : inI x := ok_h hst
  exact lv_if_eq C.1 C.2.1 hd ht (fun q => kt ((i32eq hxk in0).mp q) h0 hL (ok_t hst) H locs ls hW hS hls) (fun q => kf (fun z => q ((i32eq hxk in0).mpr z)) h0 hL (ok_t hst) H locs ls hW hS hls)
theorem w_icmp_ne {x y : Int} {off : Int} {tgt : Nat} (C : Cx p s m args meth c cc nL own D cy G n0) (hd : decode cc pc = .ok (.if_icmp .ne off, 3)) (ht : (pc : Int) + off = (tgt : Int)) (kt : ¬ x = y → WW p l e R s m args below meth c Q nL D cy G n0  tgt L st M) (kf : x = y → WW p l e R s m args below meth c Q nL D cy G n0  (pc + 3) L st M) : WW p l e R s m args below meth c Q nL D cy G n0  pc L (vI y :: vI x :: st) M := by
  intro h0 hL hst H locs ls hW hS hls
  have hyk : inI y := ok_h hst
  have hxk : inI x := ok_h (ok_t hst)
  exact lv_icmp_ne C.1 C.2.1 hd ht (fun q => kt (fun z => q ((i32eq hxk hyk).mpr z)) h0 hL (ok_t (ok_t hst)) H locs ls hW hS hls) (fun q => kf ((i32eq hxk hyk).mp q) h0 hL (ok_t (ok_t hst)) H locs ls hW hS hls)
theorem w_if_ne {x : Int} {off : Int} {tgt : Nat} (C : Cx p s m args meth c cc nL own D cy G n0) (hd : decode cc pc = .ok (.ifCond .ne off, 3)) (ht : (pc : Int) + off = (tgt : Int)) (kt : ¬ x = 0 → WW p l e R s m args below meth c Q nL D cy G n0  tgt L st M) (kf : x = 0 → WW p l e R s m args below meth c Q nL D cy G n0  (pc + 3) L st M) : WW p l e R s m args below meth c Q nL D cy G n0  pc L (vI x :: st) M := by
  intro h0 hL hst H locs ls hW hS hls
  have hxk : inI x := ok_h hst
  exact lv_if_ne C.1 C.2.1 hd ht (fun q => kt (fun z => q ((i32eq hxk in0).mpr z)) h0 hL (ok_t hst) H locs ls hW hS hls) (fun q => kf ((i32eq hxk in0).mp q) h0 hL (ok_t hst) H locs ls hW hS hls)
theorem w_icmp_lt {x y : Int} {off : Int} {tgt : Nat} (C : Cx p s m args meth c cc nL own D cy G n0) (hd : decode cc pc = .ok (.if_icmp .lt off, 3)) (ht : (pc : Int) + off = (tgt : Int)) (kt : x < y → WW p l e R s m args below meth c Q nL D cy G n0  tgt L st M) (kf : ¬ x < y → WW p l e R s m args below meth c Q nL D cy G n0  (pc + 3) L st M) : WW p l e R s m args below meth c Q nL D cy G n0  pc L (vI y :: vI x :: st) M := by
  intro h0 hL hst H locs ls hW hS hls
  have hyk : inI y := ok_h hst
  have hxk : inI x := ok_h (ok_t hst)
  exact lv_icmp_lt C.1 C.2.1 hd ht (fun q => kt ((i32lt hxk hyk).mp q) h0 hL (ok_t (ok_t hst)) H locs ls hW hS hls) (fun q => kf (fun z => q ((i32lt hxk hyk).mpr z)) h0 hL (ok_t (ok_t hst)) H locs ls hW hS hls)
theorem w_if_lt {x : Int} {off : Int} {tgt : Nat} (C : Cx p s m args meth c cc nL own D cy G n0) (hd : decode cc pc = .ok (.ifCond .lt off, 3)) (ht : (pc : Int) + off = (tgt : Int)) (kt : x < 0 → WW p l e R s m args below meth c Q nL D cy G n0  tgt L st M) (kf : ¬ x < 0 → WW p l e R s m args below meth c Q nL D cy G n0  (pc + 3) L st M) : WW p l e R s m args below meth c Q nL D cy G n0  pc L (vI x :: st) M := by
  intro h0 hL hst H locs ls hW hS hls
  have hxk : inI x := ok_h hst
  exact lv_if_lt C.1 C.2.1 hd ht (fun q => kt ((i32lt hxk in0).mp q) h0 hL (ok_t hst) H locs ls hW hS hls) (fun q => kf (fun z => q ((i32lt hxk in0).mpr z)) h0 hL (ok_t hst) H locs ls hW hS hls)
theorem w_icmp_ge {x y : Int} {off : Int} {tgt : Nat} (C : Cx p s m args meth c cc nL own D cy G n0) (hd : decode cc pc = .ok (.if_icmp .ge off, 3)) (ht : (pc : Int) + off = (tgt : Int)) (kt : y ≤ x → WW p l e R s m args below meth c Q nL D cy G n0  tgt L st M) (kf : ¬ y ≤ x → WW p l e R s m args below meth c Q nL D cy G n0  (pc + 3) L st M) : WW p l e R s m args below meth c Q nL D cy G n0  pc L (vI y :: vI x :: st) M := by
  intro h0 hL hst H locs ls hW hS hls
  have hyk : inI y := ok_h hst
  have hxk : inI x := ok_h (ok_t hst)
  exact lv_icmp_ge C.1 C.2.1 hd ht (fun q => kt ((i32le hyk hxk).mp q) h0 hL (ok_t (ok_t hst)) H locs ls hW hS hls) (fun q => kf (fun z => q ((i32le hyk hxk).mpr z)) h0 hL (ok_t (ok_t hst)) H locs ls hW hS hls)
theorem w_if_ge {x : Int} {off : Int} {tgt : Nat} (C : Cx p s m args meth c cc nL own D cy G n0) (hd : decode cc pc = .ok (.ifCond .ge off, 3)) (ht : (pc : Int) + off = (tgt : Int)) (kt : 0 ≤ x → WW p l e R s m args below meth c Q nL D cy G n0  tgt L st M) (kf : ¬ 0 ≤ x → WW p l e R s m args below meth c Q nL D cy G n0  (pc + 3) L st M) : WW p l e R s m args below meth c Q nL D cy G n0  pc L (vI x :: st) M := by
  intro h0 hL hst H locs ls hW hS hls
  have hxk : inI x := ok_h hst
  exact lv_if_ge C.1 C.2.1 hd ht (fun q => kt ((i32le in0 hxk).mp q) h0 hL (ok_t hst) H locs ls hW hS hls) (fun q => kf (fun z => q ((i32le in0 hxk).mpr z)) h0 hL (ok_t hst) H locs ls hW hS hls)
theorem w_icmp_gt {x y : Int} {off : Int} {tgt : Nat} (C : Cx p s m args meth c cc nL own D cy G n0) (hd : decode cc pc = .ok (.if_icmp .gt off, 3)) (ht : (pc : Int) + off = (tgt : Int)) (kt : y < x → WW p l e R s m args below meth c Q nL D cy G n0  tgt L st M) (kf : ¬ y < x → WW p l e R s m args below meth c Q nL D cy G n0  (pc + 3) L st M) : WW p l e R s m args below meth c Q nL D cy G n0  pc L (vI y :: vI x :: st) M := by
  intro h0 hL hst H locs ls hW hS hls
  have hyk : inI y := ok_h hst
  have hxk : inI x := ok_h (ok_t hst)
  exact lv_icmp_gt C.1 C.2.1 hd ht (fun q => kt ((i32lt hyk hxk).mp q) h0 hL (ok_t (ok_t hst)) H locs ls hW hS hls) (fun q => kf (fun z => q ((i32lt hyk hxk).mpr z)) h0 hL (ok_t (ok_t hst)) H locs ls hW hS hls)
theorem w_if_gt {x : Int} {off : Int} {tgt : Nat} (C : Cx p s m args meth c cc nL own D cy G n0) (hd : decode cc pc = .ok (.ifCond .gt off, 3)) (ht : (pc : Int) + off = (tgt : Int)) (kt : 0 < x → WW p l e R s m args below meth c Q nL D cy G n0  tgt L st M) (kf : ¬ 0 < x → WW p l e R s m args below meth c Q nL D cy G n0  (pc + 3) L st M) : WW p l e R s m args below meth c Q nL D cy G n0  pc L (vI x :: st) M := by
  intro h0 hL hst H locs ls hW hS hls
  have hxk : inI x := ok_h hst
  exact lv_if_gt C.1 C.2.1 hd ht (fun q => kt ((i32lt in0 hxk).mp q) h0 hL (ok_t hst) H locs ls hW hS hls) (fun q => kf (fun z => q ((i32lt in0 hxk).mpr z)) h0 hL (ok_t hst) H locs ls hW hS hls)
theorem w_icmp_le {x y : Int} {off : Int} {tgt : Nat} (C : Cx p s m args meth c cc nL own D cy G n0) (hd : decode cc pc = .ok (.if_icmp .le off, 3)) (ht : (pc : Int) + off = (tgt : Int)) (kt : x ≤ y → WW p l e R s m args below meth c Q nL D cy G n0  tgt L st M) (kf : ¬ x ≤ y → WW p l e R s m args below meth c Q nL D cy G n0  (pc + 3) L st M) : WW p l e R s m args below meth c Q nL D cy G n0  pc L (vI y :: vI x :: st) M := by
  intro h0 hL hst H locs ls hW hS hls
  have hyk : inI y := ok_h hst
  have hxk : inI x := ok_h (ok_t hst)
  exact lv_icmp_le C.1 C.2.1 hd ht (fun q => kt ((i32le hxk hyk).mp q) h0 hL (ok_t (ok_t hst)) H locs ls hW hS hls) (fun q => kf (fun z => q ((i32le hxk hyk).mpr z)) h0 hL (ok_t (ok_t hst)) H locs ls hW hS hls)
theorem w_if_le {x : Int} {off : Int} {tgt : Nat} (C : Cx p s m args meth c cc nL own D cy G n0) (hd : decode cc pc = .ok (.ifCond .le off, 3)) (ht : (pc : Int) + off = (tgt : Int)) (kt : x ≤ 0 → WW p l e R s m args below meth c Q nL D cy G n0  tgt L st M) (kf : ¬ x ≤ 0 → WW p l e R s m args below meth c Q nL D cy G n0  (pc + 3) L st M) : WW p l e R s m args below meth c Q nL D cy G n0  pc L (vI x :: st) M := by
  intro h0 hL hst H locs ls hW hS hls
  have hxk : inI x := ok_h hst
  exact lv_if_le C.1 C.2.1 hd ht (fun q => kt ((i32le hxk in0).mp q) h0 hL (ok_t hst) H locs ls hW hS hls) (fun q => kf (fun z => q ((i32le hxk in0).mpr z)) h0 hL (ok_t hst) H locs ls hW hS hls)
theorem w_goto {off : Int} {tgt : Nat} (C : Cx p s m args meth c cc nL own D cy G n0) (hd : decode cc pc = .ok (.goto off, 3)) (ht : (pc : Int) + off = (tgt : Int)) (k : WW p l e R s m args below meth c Q nL D cy G n0  tgt L st M) : WW p l e R s m args below meth c Q nL D cy G n0  pc L st M := by
  intro h0 hL hst H locs ls hW hS hls
  exact lv_goto C.1 C.2.1 hd ht (k h0 hL hst H locs ls hW hS hls)
theorem w_ifnull {r : Option Nat} {off : Int} {tgt : Nat} (C : Cx p s m args meth c cc nL own D cy G n0) (hd : decode cc pc = .ok (.ifnull off, 3)) (ht : (pc : Int) + off = (tgt : Int)) (kt : r = none → WW p l e R s m args below meth c Q nL D cy G n0  tgt L st M) (kf : ∀ x, r = some x → WW p l e R s m args below meth c Q nL D cy G n0  (pc + 3) L st M) : WW p l e R s m args below meth c Q nL D cy G n0  pc L (vR r :: st) M := by
  intro h0 hL hst H locs ls hW hS hls
  cases r with
  | none => exact lv_ifnullN C.1 C.2.1 hd ht (kt rfl h0 hL (ok_t hst) H locs ls hW hS hls)
  | some x => exact lv_ifnull C.1 C.2.1 hd (kf x rfl h0 hL (ok_t hst) H locs ls hW hS hls)
theorem w_ifnonnull {r : Option Nat} {off : Int} {tgt : Nat} (C : Cx p s m args meth c cc nL own D cy G n0) (hd : decode cc pc = .ok (.ifnonnull off, 3)) (ht : (pc : Int) + off = (tgt : Int)) (kt : ∀ x, r = some x → WW p l e R s m args below meth c Q nL D cy G n0  tgt L st M) (kf : r = none → WW p l e R s m args below meth c Q nL D cy G n0  (pc + 3) L st M) : WW p l e R s m args below meth c Q nL D cy G n0  pc L (vR r :: st) M := by
  intro h0 hL hst H locs ls hW hS hls
  cases r with
  | none => exact lv_ifnonnullN C.1 C.2.1 hd (kf rfl h0 hL (ok_t hst) H locs ls hW hS hls)
  | some x => exact lv_ifnonnull C.1 C.2.1 hd ht (kt x rfl h0 hL (ok_t hst) H locs ls hW hS hls)
theorem w_table {dflt lo hi x : Int} {offs : Array Int} {len : Nat} (C : Cx p s m args meth c cc nL own D cy G n0) (hd : decode cc pc = .ok (.tableswitch dflt lo hi offs, len)) (td : Nat) (ht : (pc : Int) + dflt = (td : Int)) (hin : ∀ z : Int, lo ≤ z → z ≤ hi → ∃ off tgt, offs[(z - lo).toNat]? = some off ∧ (pc : Int) + off = ((tgt : Nat) : Int) ∧ (x = z → WW p l e R s m args below meth c Q nL D cy G n0  tgt L st M)) (kd : x < lo ∨ hi < x → WW p l e R s m args below meth c Q nL D cy G n0  td L st M) : WW p l e R s m args below meth c Q nL D cy G n0  pc L (vI x :: st) M := by
  intro h0 hL hst H locs ls hW hS hls
  have hxk : inI x := ok_h hst
  by_cases h1 : x < lo ∨ hi < x
  · exact lv_tableOut C.1 C.2.1 hd (by rw [i32t hxk]; exact h1) ht (kd h1 h0 hL (ok_t hst) H locs ls hW hS hls)
  · obtain ⟨off, tgt, e1, e2, k⟩ := hin x (by omega) (by omega)
    exact lv_tableIn C.1 C.2.1 hd (by rw [i32t hxk]; omega) (by rw [i32t hxk]; omega) (by rw [i32t hxk]; exact e1) e2 (k rfl h0 hL (ok_t hst) H locs ls hW hS hls)
theorem w_drop {L' : List (Nat × PV)} (h : ∀ q ∈ L', q ∈ L) (k : WW p l e R s m args below meth c Q nL D cy G n0  pc L' st M) : WW p l e R s m args below meth c Q nL D cy G n0  pc L st M := by
  intro h0 hL hst H locs ls hW hS hls
  exact k h0 (fun q hq => hL q (h q hq)) hst H locs ls hW hS ⟨hls.1, hls.2.1, fun q hq => by
    obtain ⟨z, hz, rfl⟩ := List.mem_map.mp hq
    exact hls.2.2 _ (List.mem_map.mpr ⟨z, h z hz, rfl⟩)⟩
end SIM
