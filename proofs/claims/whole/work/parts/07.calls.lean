/-! CONTRACTS AND CALLS -/
def argN : List PV → Nat
  | [] => 0
  | v :: vs => (if isLg v then 2 else 1) + argN vs
abbrev SPt : Type := List PV → Mm → (Option PV → Mm → Prop) → Prop
def PC (D : va_G) (cy : Nat → ClassId) (G : Nat × Nat) (as : List PV) (M : Mm) : Array Value → State → Prop := va_Pc (as.map (pv G)) (fun U => Wd D cy G M U.heap ∧ KW D cy U)
def QC (D : va_G) (cy : Nat → ClassId) (G : Nat × Nat) (Qp : Option PV → Mm → Prop) (nn : Nat) : Array Value → State → Outcome → State → Prop := fun _ st oc t => (∃ v M', oc = .returned (v.map (pv G)) ∧ (∀ w, v = some w → okv w) ∧ Qp v M' ∧ M'.2.2.2 = nn ∧ Wd D cy G M' t.heap) ∧ va_F (fun q => G.1 ≤ q) st t
/-- a method's contract: SP says, for arguments and a memory, which ends are promised -/
def Con (l : Launch) (D : va_G) (cy : Nat → ClassId) (y : MethodName) (code : ByteArray) (maxL : Nat) (ret : Option FieldType) (rm : Room) (mc ms : Nat) (SP : SPt) : Prop :=
  ∀ (G : Nat × Nat) (as : List PV) (M : Mm) (Qp : Option PV → Mm → Prop), (∀ a ∈ as, okv a) → okM M → SP as M Qp → SL (M.2.2.2 + mc) = SL M.2.2.2 + ms → Met l y (.code y code maxL ret :: lwG) rm (PC D cy G as M) (QC D cy G Qp (M.2.2.2 + mc)) mc ms (fun q => G.1 ≤ q)
def CallOK (l : Launch) (D : va_G) (cy : Nat → ClassId) (R : Room) (own : String) (op : Instr) (mc ms : Nat) (SP : SPt) : Prop :=
  ∀ (p : Program) (e : Env) (s : State) (m : MethodId) (args : Array Value) (below : List Frame) (meth : Method) (c : Code) (Q : State → Prop) (cc : ByteArray) (nL : Nat) (G : Nat × Nat) (n0 pc : Nat) (L : List (Nat × PV)) (st as : List PV) (M : Mm) (Qp : Option PV → Mm → Prop), Cx p s m args meth c cc nL own D cy G n0 → decode cc pc = .ok (op, 3) → SP as M Qp → argN st ≤ 8 → M.2.2.2 + mc - n0 ≤ R.cells → SL (M.2.2.2 + mc) - SL n0 ≤ R.slots → SL (M.2.2.2 + mc) = SL M.2.2.2 + ms → (∀ v M', Qp v M' → M'.2.2.2 = M.2.2.2 + mc → WW p l e R s m args below meth c Q nL D cy G n0 (pc + 3) L (v.toList ++ st) M') → WW p l e R s m args below meth c Q nL D cy G n0 pc L (as.reverse ++ st) M
def spS (k : Nat) (SP : SPt) : SPt := fun as M Q => as.length = k ∧ SP as M Q
def spV (ci k : Nat) (SP : SPt) : SPt := fun as M Q => (∃ o t, as = vR (some o) :: t ∧ t.length = k ∧ o < M.2.2.2 ∧ (SH o).1 = ci) ∧ SP as M Q
def spI (k : Nat) (SP : SPt) : SPt := fun as M Q => (∃ o t, as = vR (some o) :: t ∧ t.length = k) ∧ SP as M Q
def spObj : SPt := fun as M Q => (∃ o, as = [vR (some o)]) ∧ Q none M
theorem goodG {ws : List Cond} (h : ∀ w ∈ ws, w ∈ lwG) : GoodIn lwG ws := fun w hw => ⟨h w hw, good_of_word (lwG_good (h w hw))⟩
theorem goodC {w : Cond} (h : w ∈ lwG) : ∀ v ∈ w :: lwG, v ∈ lwG := fun v hv => (List.mem_cons.mp hv).elim (fun e => e ▸ h) id
theorem catsum (G : Nat × Nat) (st : List PV) (h : argN st ≤ 8) : ((st.map (pv G)).map fun v => v.category).sum ≤ 8 := by
  have key : ∀ st : List PV, ((st.map (pv G)).map fun v => v.category).sum = argN st := by
    intro st
    induction st with
    | nil => rfl
    | cons v t ih =>
      simp only [List.map_cons, List.sum_cons, ih]
      show _ = (if isLg v then 2 else 1) + argN t
      rcases v with x | x | (_ | x) <;> simp [pv, Value.category, isLg]
  rw [key]
  exact h
theorem blind {D : va_G} {cy : Nat → ClassId} {G : Nat × Nat} {as : List PV} {M : Mm} : FrameBlind (PC D cy G as M) := fun _ _ _ _ h => ⟨h.1, h.2.1, KW.calling h.2.2⟩
section CALLS
variable {p : Program} {l : Launch} {e : Env} {R : Room} {s : State} {m : MethodId} {args : Array Value} {below : List Frame} {meth : Method} {c : Code} {Q : State → Prop} {cc : ByteArray} {nL : Nat} {own : String} {D : va_G} {cy : Nat → ClassId} {G : Nat × Nat} {n0 pc : Nat} {L : List (Nat × PV)} {st : List PV} {M : Mm}
theorem w_run {mc ms : Nat} {a : Array Value} {as : List PV} {Qp : Option PV → Mm → Prop} {H : Heap} {locs : List Loc} {ls : Array Slot} (h0 : n0 ≤ M.2.2.2) (hL : ∀ q ∈ L, okv q.2) (hst : ∀ v ∈ st, okv v) (hS : va_S (fun q => G.1 ≤ q) s.heap H locs) (hls : lv_has ls nL (L.map (fun q => (q.1, pv G q.2)))) (hSL : SL (M.2.2.2 + mc) = SL M.2.2.2 + ms)
    (k : ∀ v M', Qp v M' → M'.2.2.2 = M.2.2.2 + mc → WW p l e R s m args below meth c Q nL D cy G n0 (pc + 3) L (v.toList ++ st) M')
    (hr : va_Run p l e R s m args below meth c H locs (M.2.2.2 - n0) (SL M.2.2.2 - SL n0) mc ms (F0 m pc ls ((as.reverse ++ st).map (pv G))) (st.map (pv G)) (QC D cy G Qp (M.2.2.2 + mc) a) (fun q => G.1 ≤ q)) : W p l e R s m args below meth c H locs (M.2.2.2 - n0) (SL M.2.2.2 - SL n0) Q (F0 m pc ls ((as.reverse ++ st).map (pv G))) := by
  have hm := SL_mono h0
  intro T hT X
  obtain ⟨v, st₀, t, T', L', z0, X', hL', e1, e2, ⟨⟨v', M', hv, hok, hq, hn, hWd⟩, hz, hk⟩, go⟩ := hr T hT X
  cases hv
  rw [z0] at hz hk
  rw [← e1] at hWd hz hk
  have e3 : M.2.2.2 - n0 + mc = M'.2.2.2 - n0 := by rw [hn]; omega
  have e4 : SL M.2.2.2 - SL n0 + ms = SL M'.2.2.2 - SL n0 := by rw [hn, hSL]; omega
  rw [e3, e4] at X'
  have hst' : ∀ w ∈ v'.toList ++ st, okv w := by
    intro w hw
    rcases List.mem_append.mp hw with h | h
    · exact hok w (by simpa using h)
    · exact hst w h
  obtain ⟨t2, a1, b1⟩ := k v' M' hq hn (by omega) hL hst' T'.heap (locs ++ L') ls hWd ⟨Nat.le_trans hS.1 hz, fun q h1 h2 => (hk q (Nat.lt_of_lt_of_le h1 hS.1) h2).trans (hS.2.1 q h1 h2), fun q hq => (List.mem_append.mp hq).elim (hS.2.2 q) (hL' q)⟩ hls T' rfl X'
  refine ⟨t2, go t2 ?_, b1⟩
  have e5 : (Option.map (pv G) v').toList ++ st.map (pv G) = (v'.toList ++ st).map (pv G) := by cases v' <;> rfl
  rw [e5]
  exact a1
end CALLS
section CALLW
variable {l : Launch} {R : Room} {own : String} {D : va_G} {cy : Nat → ClassId} {y : MethodName} {code : ByteArray} {maxL : Nat} {ret : Option FieldType} {rm : Room} {mc ms idx k : Nat} {SP : SPt}
theorem ok_rev {as st : List PV} (h : ∀ v ∈ as.reverse ++ st, okv v) : (∀ v ∈ as, okv v) ∧ ∀ v ∈ st, okv v := ⟨fun v hv => h v (List.mem_append_left _ (List.mem_reverse.mpr hv)), fun v hv => h v (List.mem_append_right _ hv)⟩
theorem call_V {ci : Nat} (hC : Con l D cy y code maxL ret rm mc ms SP) (hl : Cond.methodLink own idx y ∈ lwG) (hin : Cond.instanceMethod y ∈ lwG) (hse : Cond.selects (Rk ci) y y ∈ lwG) (hini : Cond.initialized (Rk ci) ∈ lwG) (hcode : Cond.code y code maxL ret ∈ lwG) (hci : ci < 13)
    (hy : y.cls = Rk ci ∧ y.cls ≠ "java/lang/invoke/MethodHandle" ∧ y.cls ≠ "java/lang/invoke/VarHandle" ∧ (parseMethodDescriptor y.desc).map (fun d => d.parameters.length) = some k) (hrm : rm.cells = mc ∧ rm.slots = ms) (hR : rm.frames + 1 ≤ R.frames ∧ 8 + (maxL + 11) + rm.locals ≤ R.locals) : CallOK l D cy R own (.invokevirtual idx) mc ms (spV ci k SP) := by
  intro p e s m args below meth c Q cc nL G n0 pc L st as M Qp C hd hSP hlen hr1 hr2 hSL kk h0 hL hst H locs ls hW hS hls
  obtain ⟨⟨o, t, rfl, hk, ho, hs⟩, hSP⟩ := hSP
  obtain ⟨hx, hb, hml, hown, hts, hK, hlk, hsz⟩ := C
  obtain ⟨oa, os⟩ := ok_rev hst
  have hm := SL_mono h0
  obtain ⟨c1, c2, c3, c4⟩ := clOK ci hci
  have hP := hW.one ho
  rw [cellO (k := ci) (n := (SH o).2) (by rw [← hs]) hci] at hP
  refine w_run (mc := mc) (ms := ms) (a := (Value.ref (ad G o) :: t.map (pv G)).toArray) (Qp := Qp) h0 hL os hS hls hSL kk ?_
  refine va_runV (cc := cc) (nL := nL) (Ts := lwG) (C := Rk ci) (b := ad G o) (As := t.map (pv G)) (n := k) ⟨hx, hb, hml, hown, hts⟩ (hC G _ M Qp oa hW.2.2 hSP hSL) (cwV k hts (goodG ?_) rfl hrm.1 hrm.2 hy hR) ⟨blind, va_recv hK.1 hP (ci := ci) (q0 := 0) c1 rfl, fun U hU hWm => ⟨rfl, by rw [hU]; exact hW, KW.warm hWm hK⟩⟩ rfl (by rw [List.length_map]; exact hk) hls.1 ?_ (lv_room (catsum G st hlen)) hd ⟨by omega, by omega⟩
  · intro w hw
    unfold wsV at hw
    rcases List.mem_append.mp hw with h | h
    · simp only [List.mem_cons, List.not_mem_nil, or_false] at h
      rcases h with rfl | rfl | rfl | rfl
      · exact hl
      · exact hin
      · exact hse
      · exact hini
    · exact goodC hcode w h
  · simp [List.map_append, List.map_reverse, pv]
theorem call_S (hC : Con l D cy y code maxL ret rm mc ms SP) (hl : Cond.methodLink own idx y ∈ lwG) (hst0 : Cond.static y ∈ lwG) (hini : Cond.initialized y.cls ∈ lwG) (hcode : Cond.code y code maxL ret ∈ lwG)
    (hy : y.cls ≠ "java/lang/invoke/MethodHandle" ∧ y.cls ≠ "java/lang/invoke/VarHandle" ∧ (parseMethodDescriptor y.desc).map (fun d => d.parameters.length) = some k) (hrm : rm.cells = mc ∧ rm.slots = ms) (hR : rm.frames + 1 ≤ R.frames ∧ 8 + (maxL + 11) + rm.locals ≤ R.locals) : CallOK l D cy R own (.invokestatic idx) mc ms (spS k SP) := by
  intro p e s m args below meth c Q cc nL G n0 pc L st as M Qp C hd hSP hlen hr1 hr2 hSL kk h0 hL hst H locs ls hW hS hls
  obtain ⟨hk, hSP⟩ := hSP
  obtain ⟨hx, hb, hml, hown, hts, hK, hlk, hsz⟩ := C
  obtain ⟨oa, os⟩ := ok_rev hst
  have hm := SL_mono h0
  refine w_run (mc := mc) (ms := ms) (a := (as.map (pv G)).toArray) (Qp := Qp) h0 hL os hS hls hSL kk ?_
  exact va_runS (cc := cc) (nL := nL) (Ts := lwG) (As := as.map (pv G)) (n := k) ⟨hx, hb, hml, hown, hts⟩ (hC G _ M Qp oa hW.2.2 hSP hSL) ⟨callB_of k hts (goodG (goodC hcode)) rfl hrm.1 hrm.2 (hts _ hini) (hts _ hl) hy hR, hts _ hst0⟩ ⟨blind, fun U hU hWm => ⟨rfl, by rw [hU]; exact hW, KW.warm hWm hK⟩⟩ rfl (by rw [List.length_map]; exact hk) hls.1 (by simp [List.map_append, List.map_reverse]) (lv_room (catsum G st hlen)) hd ⟨by omega, by omega⟩
theorem call_SN {host : String} (hC : Con l D cy y code maxL ret rm mc ms SP) (hl : Cond.methodLinkNest own idx y host ∈ lw_tbl) (hst0 : Cond.static y ∈ lwG) (hini : Cond.initialized y.cls ∈ lwG) (hcode : Cond.code y code maxL ret ∈ lwG)
    (hy : y.cls ≠ "java/lang/invoke/MethodHandle" ∧ y.cls ≠ "java/lang/invoke/VarHandle" ∧ (parseMethodDescriptor y.desc).map (fun d => d.parameters.length) = some k) (hrm : rm.cells = mc ∧ rm.slots = ms) (hR : rm.frames + 1 ≤ R.frames ∧ 8 + (maxL + 11) + rm.locals ≤ R.locals) : CallOK l D cy R own (.invokestatic idx) mc ms (spS k SP) := by
  intro p e s m args below meth c Q cc nL G n0 pc L st as M Qp C hd hSP hlen hr1 hr2 hSL kk h0 hL hst H locs ls hW hS hls
  obtain ⟨hk, hSP⟩ := hSP
  obtain ⟨hx, hb, hml, hown, hts, hK, hlk, hsz⟩ := C
  obtain ⟨oa, os⟩ := ok_rev hst
  have hm := SL_mono h0
  refine w_run (mc := mc) (ms := ms) (a := (as.map (pv G)).toArray) (Qp := Qp) h0 hL os hS hls hSL kk ?_
  exact va_runSN (cc := cc) (nL := nL) (Ts := lwG) (As := as.map (pv G)) (n := k) ⟨hx, hb, hml, hown, hts⟩ (hC G _ M Qp oa hW.2.2 hSP hSL) ⟨va_cnB k hts (goodG (goodC hcode)) rfl hrm.1 hrm.2 (hK.2.1 _ (List.mem_filter.mpr ⟨hl, rfl⟩)) (hts _ hini) hy hR, hts _ hst0, trivial⟩ ⟨blind, fun U hU hWm => ⟨rfl, by rw [hU]; exact hW, KW.warm hWm hK⟩⟩ rfl (by rw [List.length_map]; exact hk) hls.1 (by simp [List.map_append, List.map_reverse]) (lv_room (catsum G st hlen)) hd ⟨by omega, by omega⟩
theorem call_I (hC : Con l D cy y code maxL none rm mc ms SP) (hl : Cond.methodLink own idx y ∈ lwG) (hin : Cond.instanceMethod y ∈ lwG) (hini : Cond.initialized y.cls ∈ lwG) (hcode : Cond.code y code maxL none ∈ lwG) (hy1 : y.name = "<init>")
    (hy : y.cls ≠ "java/lang/invoke/MethodHandle" ∧ y.cls ≠ "java/lang/invoke/VarHandle" ∧ (parseMethodDescriptor y.desc).map (fun d => d.parameters.length) = some k) (hrm : rm.cells = mc ∧ rm.slots = ms) (hR : rm.frames + 1 ≤ R.frames ∧ 8 + (maxL + 11) + rm.locals ≤ R.locals) : CallOK l D cy R own (.invokespecial idx) mc ms (spI k SP) := by
  intro p e s m args below meth c Q cc nL G n0 pc L st as M Qp C hd hSP hlen hr1 hr2 hSL kk h0 hL hst H locs ls hW hS hls
  obtain ⟨⟨o, t, rfl, hk⟩, hSP⟩ := hSP
  obtain ⟨hx, hb, hml, hown, hts, hK, hlk, hsz⟩ := C
  obtain ⟨oa, os⟩ := ok_rev hst
  have hm := SL_mono h0
  refine w_run (mc := mc) (ms := ms) (a := (Value.ref (ad G o) :: t.map (pv G)).toArray) (Qp := Qp) h0 hL os hS hls hSL kk ?_
  exact va_runI (cc := cc) (nL := nL) (Ts := lwG) (b := ad G o) (As := t.map (pv G)) (n := k) ⟨hx, hb, hml, hown, hts⟩ (hC G _ M Qp oa hW.2.2 hSP hSL) (cwI k hts (goodG (goodC hcode)) rfl hrm.1 hrm.2 (hts _ hini) (hts _ hl) (hts _ hin) hy1 hy hR) ⟨blind, fun U hU hWm => ⟨rfl, by rw [hU]; exact hW, KW.warm hWm hK⟩⟩ rfl (by rw [List.length_map]; exact hk) hls.1 (by simp [List.map_append, List.map_reverse, pv]) (lv_room (catsum G st hlen)) hd ⟨by omega, by omega⟩
theorem call_IN {host : String} (hC : Con l D cy y code maxL none rm mc ms SP) (hl : Cond.methodLinkNest own idx y host ∈ lw_tbl) (hin : Cond.instanceMethod y ∈ lwG) (hini : Cond.initialized y.cls ∈ lwG) (hcode : Cond.code y code maxL none ∈ lwG) (hy1 : y.name = "<init>")
    (hy : y.cls ≠ "java/lang/invoke/MethodHandle" ∧ y.cls ≠ "java/lang/invoke/VarHandle" ∧ (parseMethodDescriptor y.desc).map (fun d => d.parameters.length) = some k) (hrm : rm.cells = mc ∧ rm.slots = ms) (hR : rm.frames + 1 ≤ R.frames ∧ 8 + (maxL + 11) + rm.locals ≤ R.locals) : CallOK l D cy R own (.invokespecial idx) mc ms (spI k SP) := by
  intro p e s m args below meth c Q cc nL G n0 pc L st as M Qp C hd hSP hlen hr1 hr2 hSL kk h0 hL hst H locs ls hW hS hls
  obtain ⟨⟨o, t, rfl, hk⟩, hSP⟩ := hSP
  obtain ⟨hx, hb, hml, hown, hts, hK, hlk, hsz⟩ := C
  obtain ⟨oa, os⟩ := ok_rev hst
  have hm := SL_mono h0
  refine w_run (mc := mc) (ms := ms) (a := (Value.ref (ad G o) :: t.map (pv G)).toArray) (Qp := Qp) h0 hL os hS hls hSL kk ?_
  exact va_runIN (cc := cc) (nL := nL) (Ts := lwG) (b := ad G o) (As := t.map (pv G)) (n := k) ⟨hx, hb, hml, hown, hts⟩ (hC G _ M Qp oa hW.2.2 hSP hSL) ⟨va_cnB k hts (goodG (goodC hcode)) rfl hrm.1 hrm.2 (hK.2.1 _ (List.mem_filter.mpr ⟨hl, rfl⟩)) (hts _ hini) hy hR, hy1, hts _ hin⟩ ⟨blind, fun U hU hWm => ⟨rfl, by rw [hU]; exact hW, KW.warm hWm hK⟩⟩ rfl (by rw [List.length_map]; exact hk) hls.1 (by simp [List.map_append, List.map_reverse, pv]) (lv_room (catsum G st hlen)) hd ⟨by omega, by omega⟩
theorem call_O (hl : Cond.methodLink own idx Lib.objectInit ∈ lwG) (hin : Cond.instanceMethod Lib.objectInit ∈ lwG) (hcode : Cond.code Lib.objectInit ⟨#[0xb1]⟩ 1 none ∈ lwG) (hR : 1 ≤ R.frames ∧ 20 ≤ R.locals) : CallOK l D cy R own (.invokespecial idx) 0 0 spObj := by
  intro p e s m args below meth c Q cc nL G n0 pc L st as M Qp C hd hSP hlen hr1 hr2 hSL kk h0 hL hst H locs ls hW hS hls
  obtain ⟨⟨o, rfl⟩, hq⟩ := hSP
  obtain ⟨hx, hb, hml, hown, hts, hK, hlk, hsz⟩ := C
  obtain ⟨oa, os⟩ := ok_rev hst
  have hroom := lv_room (m := m) (pc := pc) (ls := ls) (rest := (List.reverse [vR (some o)] ++ st).map (pv G)) (catsum G st hlen)
  exact W.objInit (rest := st.map (pv G)) hx hb hown (hts _ hl) (hts _ hin) (hts _ hcode) rfl (by rw [hml]; exact hls.1) rfl hd hR.1 (by omega) (kk none M hq rfl h0 hL os H locs ls hW hS hls)
end CALLW
