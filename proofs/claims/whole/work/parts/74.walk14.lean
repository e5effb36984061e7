/-! make: pure predicates, decode rows, walks, contracts; by program (wip/gen/walk.py) -/
theorem dX0_init_0 : decode cX0_init 0 = .ok (.aload_n 0, 1) := by decide +kernel
theorem dX0_init_1 : decode cX0_init 1 = .ok (.invokespecial 3, 3) := by decide +kernel
theorem dX0_init_4 : decode cX0_init 4 = .ok (.aload_n 0, 1) := by decide +kernel
theorem dX0_init_5 : decode cX0_init 5 = .ok (.bipush 6, 2) := by decide +kernel
theorem dX0_init_7 : decode cX0_init 7 = .ok (.newarray .int, 2) := by decide +kernel
theorem dX0_init_9 : decode cX0_init 9 = .ok (.putfield 9, 3) := by decide +kernel
theorem dX0_init_12 : decode cX0_init 12 = .ok (.aload_n 0, 1) := by decide +kernel
theorem dX0_init_13 : decode cX0_init 13 = .ok (.bipush 6, 2) := by decide +kernel
theorem dX0_init_15 : decode cX0_init 15 = .ok (.newarray .int, 2) := by decide +kernel
theorem dX0_init_17 : decode cX0_init 17 = .ok (.putfield 15, 3) := by decide +kernel
theorem dX0_init_20 : decode cX0_init 20 = .ok (.iconst 0, 1) := by decide +kernel
theorem dX0_init_21 : decode cX0_init 21 = .ok (.istore_n 1, 1) := by decide +kernel
theorem dX0_init_22 : decode cX0_init 22 = .ok (.iload_n 1, 1) := by decide +kernel
theorem dX0_init_23 : decode cX0_init 23 = .ok (.bipush 6, 2) := by decide +kernel
theorem dX0_init_25 : decode cX0_init 25 = .ok (.if_icmp .ge 16, 3) := by decide +kernel
theorem dX0_init_28 : decode cX0_init 28 = .ok (.aload_n 0, 1) := by decide +kernel
theorem dX0_init_29 : decode cX0_init 29 = .ok (.getfield 15, 3) := by decide +kernel
theorem dX0_init_32 : decode cX0_init 32 = .ok (.iload_n 1, 1) := by decide +kernel
theorem dX0_init_33 : decode cX0_init 33 = .ok (.iconst (-1), 1) := by decide +kernel
theorem dX0_init_34 : decode cX0_init 34 = .ok (.iastore, 1) := by decide +kernel
theorem dX0_init_35 : decode cX0_init 35 = .ok (.iinc 1 1, 3) := by decide +kernel
theorem dX0_init_38 : decode cX0_init 38 = .ok (.goto (-16), 3) := by decide +kernel
theorem dX0_init_41 : decode cX0_init 41 = .ok (.return_, 1) := by decide +kernel
theorem ck_X0_3 {l : Launch} {D : va_G} {cy : Nat → ClassId} {R : Room} (hR : 1 ≤ R.frames ∧ 20 ≤ R.locals) : CallOK l D cy R RX0 (.invokespecial 3) 0 0 spObj := call_O (lwG_1 (i := 165) rfl rfl) (lwG_1 (i := 22) rfl rfl) (lwG_1 (i := 23) rfl rfl) hR
theorem fw_X0_9 : fR RX0 9 0 6 := ⟨⟨lwG_1 (i := 178) rfl rfl, by decide, by decide⟩, fun _ _ => rfl, fun r => ⟨r, rfl⟩⟩
section W_X0_init
variable {p : Program} {l : Launch} {e : Env} {s : State} {m : MethodId} {args : Array Value} {below : List Frame} {meth : Method} {c : Code} {D : va_G} {cy : Nat → ClassId} {G : Nat × Nat} {n0 : Nat} {Qp : Option PV → Mm → Prop}
set_option maxRecDepth 100000 in
set_option maxHeartbeats 4000000 in
theorem f_X0_init_22 {o0 : Nat} {x1 : Int} {M : Mm} {Q : Mm → Prop} {K22 : Int × Mm → Prop} (C : Cx p s m args meth c cX0_init 2 RX0 D cy G n0) (hr : meth.sig.returnType = none) (hin : meth.name = "<init>") (hQ : ∀ M, Q M → Qp none M) (hK22 : ∀ (x1 : Int) (M : Mm), K22 (x1, M) → WW p l e ({ frames := 1, cells := 2, slots := 12, locals := 20 }) s m args below meth c (ZQ below args s D cy G n0 Qp (n0 + 2)) 2 D cy G n0 22 [(0, vR (some o0)), (1, vI x1)] [] M) (h : F_X0_init_22 o0 n0 Q  K22 x1 M) : WW p l e ({ frames := 1, cells := 2, slots := 12, locals := 20 }) s m args below meth c (ZQ below args s D cy G n0 Qp (n0 + 2)) 2 D cy G n0 22 [(0, vR (some o0)), (1, vI x1)] [] M := by
  unfold F_X0_init_22 at h
  refine w_iload_n C dX0_init_22 rfl (mem_k 1 rfl) ?_
  refine w_bipush C dX0_init_23 (by decide) ?_
  refine w_icmp_ge (tgt := 41) C dX0_init_25 (by decide) (fun q => ?_) (fun q => ?_)
  · replace h := h.1 q
    obtain ⟨hn, h⟩ := h
    exact x_vret C hr dX0_init_41 hn (hQ M h)
  · replace h := h.2 q
    refine w_aload_n C dX0_init_28 rfl (mem_k 0 rfl) ?_
    obtain ⟨g1, h⟩ := h
    refine x_getR C dX0_init_29 fw_X0_15 g1 (fun r2 er2 => ?_)
    replace h := h r2 er2
    refine w_iload_n C dX0_init_32 rfl (mem_k 1 rfl) ?_
    refine w_iconst C dX0_init_33 ⟨by decide, by decide⟩ ?_
    obtain ⟨o3, g4, h⟩ := h
    refine x_iast C dX0_init_34 g4 (fun M5 eM5 hn6 => ?_)
    replace h := h M5 eM5
    obtain ⟨v7, ev7⟩ : ∃ z : Int, z = x1 + 1 := ⟨_, rfl⟩
    refine x_iinc (L' := [(1, vI v7), (0, vR (some o0))]) C dX0_init_35 (mem_k 1 rfl) (by decide) h.1 ev7 rfl ?_
    replace h := h.2 v7 ev7
    refine w_goto (tgt := 22) C dX0_init_38 (by decide) ?_
    refine x_pc (pc2 := 22) rfl ?_
    refine x_pick (L' := [(0, vR (some o0)), (1, vI v7)]) [1, 0] rfl ?_
    exact hK22 v7 M5 h
set_option maxRecDepth 100000 in
set_option maxHeartbeats 4000000 in
theorem k_X0_init_22 {o0 : Nat} {x1 : Int} {M : Mm} {Q : Mm → Prop} (C : Cx p s m args meth c cX0_init 2 RX0 D cy G n0) (hr : meth.sig.returnType = none) (hin : meth.name = "<init>") (hQ : ∀ M, Q M → Qp none M) (h : P_X0_init_22 o0 x1 M n0 Q ) : WW p l e ({ frames := 1, cells := 2, slots := 12, locals := 20 }) s m args below meth c (ZQ below args s D cy G n0 Qp (n0 + 2)) 2 D cy G n0 22 [(0, vR (some o0)), (1, vI x1)] [] M := by
  refine lpW_sound (P := fun y : Int × Mm => WW p l e ({ frames := 1, cells := 2, slots := 12, locals := 20 }) s m args below meth c (ZQ below args s D cy G n0 Qp (n0 + 2)) 2 D cy G n0 22 [(0, vR (some o0)), (1, vI y.1)] [] y.2) ?_ h
  intro K y hK hF
  obtain ⟨x1, M⟩ := y
  exact f_X0_init_22 C hr hin hQ  (fun x1 M hk => hK (x1, M) hk) hF
set_option maxRecDepth 100000 in
set_option maxHeartbeats 4000000 in
theorem k_X0_init_0 {o0 : Nat} {M : Mm} {Q : Mm → Prop} (C : Cx p s m args meth c cX0_init 2 RX0 D cy G n0) (hr : meth.sig.returnType = none) (hin : meth.name = "<init>") (hQ : ∀ M, Q M → Qp none M) (h : P_X0_init o0 M n0 Q ) : WW p l e ({ frames := 1, cells := 2, slots := 12, locals := 20 }) s m args below meth c (ZQ below args s D cy G n0 Qp (n0 + 2)) 2 D cy G n0 0 [(0, vR (some o0))] [] M := by
  unfold P_X0_init at h
  refine w_aload_n C dX0_init_0 rfl (mem_k 0 rfl) ?_
  refine x_call (as := [vR (some o0)]) (ck_X0_3 ⟨by decide, by decide⟩) C dX0_init_1 rfl (Nat.le_of_ble_eq_true rfl) (fun v M' => v = none ∧ M = M') ⟨⟨_, rfl⟩, rfl, rfl⟩ (h.1) (h.2.1) rfl ?_
  rintro _ _ ⟨rfl, rfl⟩ -
  replace h := h.2.2
  refine w_aload_n C dX0_init_4 rfl (mem_k 0 rfl) ?_
  refine w_bipush C dX0_init_5 (by decide) ?_
  obtain ⟨q1, q2, q3, q4, h⟩ := h
  refine w_newi (n := 6) C dX0_init_7 ac_I q1 q2 (by decide) q3 q4 ?_
  obtain ⟨M8, eM8⟩ : ∃ z : Mm, z = newM M := ⟨_, rfl⟩
  rw [← eM8]
  replace h := h M8 eM8
  obtain ⟨g9, h⟩ := h
  refine x_putR C dX0_init_9 fw_X0_9 g9 (Or.inr ⟨hin, rfl⟩) (fun M10 eM10 hn11 => ?_)
  replace h := h M10 eM10
  refine w_aload_n C dX0_init_12 rfl (mem_k 0 rfl) ?_
  refine w_bipush C dX0_init_13 (by decide) ?_
  obtain ⟨q1, q2, q3, q4, h⟩ := h
  refine w_newi (n := 6) C dX0_init_15 ac_I q1 q2 (by decide) q3 q4 ?_
  obtain ⟨M12, eM12⟩ : ∃ z : Mm, z = newM M10 := ⟨_, rfl⟩
  rw [← eM12]
  replace h := h M12 eM12
  obtain ⟨g13, h⟩ := h
  refine x_putR C dX0_init_17 fw_X0_15 g13 (Or.inr ⟨hin, rfl⟩) (fun M14 eM14 hn15 => ?_)
  replace h := h M14 eM14
  refine w_iconst C dX0_init_20 ⟨by decide, by decide⟩ ?_
  refine x_istore_n (L' := [(1, vI 0), (0, vR (some o0))]) C dX0_init_21 rfl (by decide) rfl ?_
  refine x_pc (pc2 := 22) rfl ?_
  refine x_pick (L' := [(0, vR (some o0)), (1, vI 0)]) [1, 0] rfl ?_
  exact k_X0_init_22 C hr hin hQ  h
set_option maxRecDepth 100000 in
set_option maxHeartbeats 4000000 in
theorem con_X0_init (l : Launch) (D : va_G) (cy : Nat → ClassId) : Con l D cy yX0_init cX0_init 2 (none) ({ frames := 1, cells := 2, slots := 12, locals := 20 }) 2 12 SP_X0_init := by
  refine con_of (by decide) (fun as M Qp h => ?_) ?_
  · obtain ⟨o0, rfl, -⟩ := h
    exact Nat.le_of_ble_eq_true rfl
  · intro p e s m args below meth c G as M Qp h C hr hnm
    obtain ⟨o0, rfl, ho1, ho2, Q0, hQ, h⟩ := h
    refine x_pick (L' := [(0, vR (some o0))]) [0] rfl ?_
    exact k_X0_init_0 C hr hnm hQ h
set_option maxRecDepth 100000 in
set_option maxHeartbeats 4000000 in
theorem cl_X0_init {p : Program} {l : Launch} {e : Env} {R : Room} {s : State} {m : MethodId} {args : Array Value} {below : List Frame} {meth : Method} {c : Code} {Q : State → Prop} {cc : ByteArray} {nL : Nat} {own : String} {D : va_G} {cy : Nat → ClassId} {G : Nat × Nat} {n0 pc : Nat} {L : List (Nat × PV)} {st : List PV} {M : Mm} {op : Instr} (K : CallOK l D cy R own op 2 12 (spI 0 SP_X0_init)) (C : Cx p s m args meth c cc nL own D cy G n0) (hd : decode cc pc = .ok (op, 3)) (hlen : argN st ≤ 8) {r : Option Nat} {o0 : Nat} (ho : isOn 0 M.2.2.2 r o0)  (q1 : M.2.2.2 + 2 - n0 ≤ R.cells) (q2 : SL (M.2.2.2 + 2) - SL n0 ≤ R.slots) (q3 : SL (M.2.2.2 + 2) = SL M.2.2.2 + 12) {Q0 : Mm → Prop} (h : P_X0_init o0 M M.2.2.2 Q0) (k : ∀ M2, Q0 M2 → M2.2.2.2 = M.2.2.2 + 2 → WW p l e R s m args below meth c Q nL D cy G n0  (pc + 3) L (st) M2) : WW p l e R s m args below meth c Q nL D cy G n0  pc L (vR r :: st) M := by
  obtain ⟨rfl, ho1, ho2⟩ := ho
  refine x_call K C hd (as := [vR (some o0)]) rfl hlen (fun v M2 => v = none ∧ Q0 M2) ⟨⟨o0, [], rfl, rfl⟩, o0, rfl, ho1, ho2, Q0, fun M2 hx => ⟨rfl, hx⟩, h⟩ q1 q2 q3 ?_
  rintro _ _ ⟨rfl, hx⟩ hm
  exact k _ hx hm
end W_X0_init
theorem dX1_init_0 : decode cX1_init 0 = .ok (.aload_n 0, 1) := by decide +kernel
theorem dX1_init_1 : decode cX1_init 1 = .ok (.invokespecial 3, 3) := by decide +kernel
theorem dX1_init_4 : decode cX1_init 4 = .ok (.aload_n 0, 1) := by decide +kernel
theorem dX1_init_5 : decode cX1_init 5 = .ok (.bipush 12, 2) := by decide +kernel
theorem dX1_init_7 : decode cX1_init 7 = .ok (.anewarray 9, 3) := by decide +kernel
theorem dX1_init_10 : decode cX1_init 10 = .ok (.putfield 11, 3) := by decide +kernel
theorem dX1_init_13 : decode cX1_init 13 = .ok (.aload_n 0, 1) := by decide +kernel
theorem dX1_init_14 : decode cX1_init 14 = .ok (.bipush 60, 2) := by decide +kernel
theorem dX1_init_16 : decode cX1_init 16 = .ok (.putfield 17, 3) := by decide +kernel
theorem dX1_init_19 : decode cX1_init 19 = .ok (.aload_n 0, 1) := by decide +kernel
theorem dX1_init_20 : decode cX1_init 20 = .ok (.bipush 6, 2) := by decide +kernel
theorem dX1_init_22 : decode cX1_init 22 = .ok (.newarray .int, 2) := by decide +kernel
theorem dX1_init_24 : decode cX1_init 24 = .ok (.putfield 21, 3) := by decide +kernel
theorem dX1_init_27 : decode cX1_init 27 = .ok (.iconst 0, 1) := by decide +kernel
theorem dX1_init_28 : decode cX1_init 28 = .ok (.istore_n 1, 1) := by decide +kernel
theorem dX1_init_29 : decode cX1_init 29 = .ok (.iload_n 1, 1) := by decide +kernel
theorem dX1_init_30 : decode cX1_init 30 = .ok (.bipush 12, 2) := by decide +kernel
theorem dX1_init_32 : decode cX1_init 32 = .ok (.if_icmp .ge 22, 3) := by decide +kernel
theorem dX1_init_35 : decode cX1_init 35 = .ok (.aload_n 0, 1) := by decide +kernel
theorem dX1_init_36 : decode cX1_init 36 = .ok (.getfield 11, 3) := by decide +kernel
theorem dX1_init_39 : decode cX1_init 39 = .ok (.iload_n 1, 1) := by decide +kernel
theorem dX1_init_40 : decode cX1_init 40 = .ok (.new 9, 3) := by decide +kernel
theorem dX1_init_43 : decode cX1_init 43 = .ok (.dup, 1) := by decide +kernel
theorem dX1_init_44 : decode cX1_init 44 = .ok (.invokespecial 25, 3) := by decide +kernel
theorem dX1_init_47 : decode cX1_init 47 = .ok (.aastore, 1) := by decide +kernel
theorem dX1_init_48 : decode cX1_init 48 = .ok (.iinc 1 1, 3) := by decide +kernel
theorem dX1_init_51 : decode cX1_init 51 = .ok (.goto (-22), 3) := by decide +kernel
theorem dX1_init_54 : decode cX1_init 54 = .ok (.return_, 1) := by decide +kernel
theorem nw_X1_9 : Cond.classLink RX1 9 (Rk 0) ∈ lwG ∧ Cond.instantiable (Rk 0) (Nk 0) ∈ lwG ∧ Cond.initialized (Rk 0) ∈ lwG := ⟨lwG_1 (i := 159) rfl rfl, lwG_1 (i := 161) rfl rfl, lwG_1 (i := 8) rfl rfl⟩
theorem ck_X1_25 {l : Launch} {D : va_G} {cy : Nat → ClassId} {R : Room} (hR : 2 ≤ R.frames ∧ 41 ≤ R.locals) : CallOK l D cy R RX1 (.invokespecial 25) 2 12 (spI 0 SP_X0_init) := call_I (con_X0_init l D cy) (lwG_1 (i := 162) rfl rfl) (lwG_1 (i := 163) rfl rfl) (lwG_1 (i := 8) rfl rfl) (lwG_1 (i := 164) rfl rfl) rfl ⟨by decide, by decide, rfl⟩ ⟨rfl, rfl⟩ hR
theorem ck_X1_3 {l : Launch} {D : va_G} {cy : Nat → ClassId} {R : Room} (hR : 1 ≤ R.frames ∧ 20 ≤ R.locals) : CallOK l D cy R RX1 (.invokespecial 3) 0 0 spObj := call_O (lwG_1 (i := 158) rfl rfl) (lwG_1 (i := 22) rfl rfl) (lwG_1 (i := 23) rfl rfl) hR
theorem cl_X1_9 : Cond.classLink RX1 9 RX0 ∈ lwG := lwG_1 (i := 159) rfl rfl
section W_X1_init
variable {p : Program} {l : Launch} {e : Env} {s : State} {m : MethodId} {args : Array Value} {below : List Frame} {meth : Method} {c : Code} {D : va_G} {cy : Nat → ClassId} {G : Nat × Nat} {n0 : Nat} {Qp : Option PV → Mm → Prop}
set_option maxRecDepth 100000 in
set_option maxHeartbeats 4000000 in
theorem f_X1_init_29 {o0 : Nat} {x1 : Int} {M : Mm} {Q : Mm → Prop} {K29 : Int × Mm → Prop} (C : Cx p s m args meth c cX1_init 2 RX1 D cy G n0) (hr : meth.sig.returnType = none) (hin : meth.name = "<init>") (hQ : ∀ M, Q M → Qp none M) (hK29 : ∀ (x1 : Int) (M : Mm), K29 (x1, M) → WW p l e ({ frames := 2, cells := 38, slots := 258, locals := 41 }) s m args below meth c (ZQ below args s D cy G n0 Qp (n0 + 38)) 2 D cy G n0 29 [(0, vR (some o0)), (1, vI x1)] [] M) (h : F_X1_init_29 o0 n0 Q  K29 x1 M) : WW p l e ({ frames := 2, cells := 38, slots := 258, locals := 41 }) s m args below meth c (ZQ below args s D cy G n0 Qp (n0 + 38)) 2 D cy G n0 29 [(0, vR (some o0)), (1, vI x1)] [] M := by
  unfold F_X1_init_29 at h
  refine w_iload_n C dX1_init_29 rfl (mem_k 1 rfl) ?_
  refine w_bipush C dX1_init_30 (by decide) ?_
  refine w_icmp_ge (tgt := 54) C dX1_init_32 (by decide) (fun q => ?_) (fun q => ?_)
  · replace h := h.1 q
    obtain ⟨hn, h⟩ := h
    exact x_vret C hr dX1_init_54 hn (hQ M h)
  · replace h := h.2 q
    refine w_aload_n C dX1_init_35 rfl (mem_k 0 rfl) ?_
    obtain ⟨g1, h⟩ := h
    refine x_getR C dX1_init_36 fw_X1_11 g1 (fun r2 er2 => ?_)
    replace h := h r2 er2
    refine w_iload_n C dX1_init_39 rfl (mem_k 1 rfl) ?_
    obtain ⟨q1, q2, q3, q4, h⟩ := h
    refine w_new (ci := 0) C dX1_init_40 nw_X1_9.1 nw_X1_9.2.1 nw_X1_9.2.2 (by decide) q1 q2 q3 q4 ?_
    obtain ⟨M3, eM3⟩ : ∃ z : Mm, z = newM M := ⟨_, rfl⟩
    rw [← eM3]
    replace h := h M3 eM3
    refine w_dup C dX1_init_43 rfl ?_
    obtain ⟨o4, g5, h⟩ := h
    obtain ⟨q1, q2, q3, h⟩ := h
    refine cl_X0_init (ck_X1_25 ⟨by decide, by decide⟩) C dX1_init_44 (Nat.le_of_ble_eq_true rfl) g5 q1 q2 q3 h (fun M6 h hm => ?_)
    replace h := h hm
    obtain ⟨o7, g8, h⟩ := h
    obtain ⟨o9, g10, h⟩ := h
    refine x_aast C dX1_init_47 0 g8 g10 (by decide) (fun M11 eM11 hn12 => ?_)
    replace h := h M11 eM11
    obtain ⟨v13, ev13⟩ : ∃ z : Int, z = x1 + 1 := ⟨_, rfl⟩
    refine x_iinc (L' := [(1, vI v13), (0, vR (some o0))]) C dX1_init_48 (mem_k 1 rfl) (by decide) h.1 ev13 rfl ?_
    replace h := h.2 v13 ev13
    refine w_goto (tgt := 29) C dX1_init_51 (by decide) ?_
    refine x_pc (pc2 := 29) rfl ?_
    refine x_pick (L' := [(0, vR (some o0)), (1, vI v13)]) [1, 0] rfl ?_
    exact hK29 v13 M11 h
set_option maxRecDepth 100000 in
set_option maxHeartbeats 4000000 in
theorem k_X1_init_29 {o0 : Nat} {x1 : Int} {M : Mm} {Q : Mm → Prop} (C : Cx p s m args meth c cX1_init 2 RX1 D cy G n0) (hr : meth.sig.returnType = none) (hin : meth.name = "<init>") (hQ : ∀ M, Q M → Qp none M) (h : P_X1_init_29 o0 x1 M n0 Q ) : WW p l e ({ frames := 2, cells := 38, slots := 258, locals := 41 }) s m args below meth c (ZQ below args s D cy G n0 Qp (n0 + 38)) 2 D cy G n0 29 [(0, vR (some o0)), (1, vI x1)] [] M := by
  refine lpW_sound (P := fun y : Int × Mm => WW p l e ({ frames := 2, cells := 38, slots := 258, locals := 41 }) s m args below meth c (ZQ below args s D cy G n0 Qp (n0 + 38)) 2 D cy G n0 29 [(0, vR (some o0)), (1, vI y.1)] [] y.2) ?_ h
  intro K y hK hF
  obtain ⟨x1, M⟩ := y
  exact f_X1_init_29 C hr hin hQ  (fun x1 M hk => hK (x1, M) hk) hF
set_option maxRecDepth 100000 in
set_option maxHeartbeats 4000000 in
theorem k_X1_init_0 {o0 : Nat} {M : Mm} {Q : Mm → Prop} (C : Cx p s m args meth c cX1_init 2 RX1 D cy G n0) (hr : meth.sig.returnType = none) (hin : meth.name = "<init>") (hQ : ∀ M, Q M → Qp none M) (h : P_X1_init o0 M n0 Q ) : WW p l e ({ frames := 2, cells := 38, slots := 258, locals := 41 }) s m args below meth c (ZQ below args s D cy G n0 Qp (n0 + 38)) 2 D cy G n0 0 [(0, vR (some o0))] [] M := by
  unfold P_X1_init at h
  refine w_aload_n C dX1_init_0 rfl (mem_k 0 rfl) ?_
  refine x_call (as := [vR (some o0)]) (ck_X1_3 ⟨by decide, by decide⟩) C dX1_init_1 rfl (Nat.le_of_ble_eq_true rfl) (fun v M' => v = none ∧ M = M') ⟨⟨_, rfl⟩, rfl, rfl⟩ (h.1) (h.2.1) rfl ?_
  rintro _ _ ⟨rfl, rfl⟩ -
  replace h := h.2.2
  refine w_aload_n C dX1_init_4 rfl (mem_k 0 rfl) ?_
  refine w_bipush C dX1_init_5 (by decide) ?_
  obtain ⟨q1, q2, q3, q4, h⟩ := h
  refine w_newq15 (n := 12) C dX1_init_7 cl_X1_9 q1 q2 (by decide) q3 q4 ?_
  obtain ⟨M14, eM14⟩ : ∃ z : Mm, z = newM M := ⟨_, rfl⟩
  rw [← eM14]
  replace h := h M14 eM14
  obtain ⟨g15, h⟩ := h
  refine x_putR C dX1_init_10 fw_X1_11 g15 (Or.inr ⟨hin, rfl⟩) (fun M16 eM16 hn17 => ?_)
  replace h := h M16 eM16
  refine w_aload_n C dX1_init_13 rfl (mem_k 0 rfl) ?_
  refine w_bipush C dX1_init_14 (by decide) ?_
  obtain ⟨g18, h⟩ := h
  refine x_putI C dX1_init_16 fw_X1_17 g18 (Or.inl rfl) (fun M19 eM19 hn20 => ?_)
  replace h := h M19 eM19
  refine w_aload_n C dX1_init_19 rfl (mem_k 0 rfl) ?_
  refine w_bipush C dX1_init_20 (by decide) ?_
  obtain ⟨q1, q2, q3, q4, h⟩ := h
  refine w_newi (n := 6) C dX1_init_22 ac_I q1 q2 (by decide) q3 q4 ?_
  obtain ⟨M21, eM21⟩ : ∃ z : Mm, z = newM M19 := ⟨_, rfl⟩
  rw [← eM21]
  replace h := h M21 eM21
  obtain ⟨g22, h⟩ := h
  refine x_putR C dX1_init_24 fw_X1_21 g22 (Or.inr ⟨hin, rfl⟩) (fun M23 eM23 hn24 => ?_)
  replace h := h M23 eM23
  refine w_iconst C dX1_init_27 ⟨by decide, by decide⟩ ?_
  refine x_istore_n (L' := [(1, vI 0), (0, vR (some o0))]) C dX1_init_28 rfl (by decide) rfl ?_
  refine x_pc (pc2 := 29) rfl ?_
  refine x_pick (L' := [(0, vR (some o0)), (1, vI 0)]) [1, 0] rfl ?_
  exact k_X1_init_29 C hr hin hQ  h
set_option maxRecDepth 100000 in
set_option maxHeartbeats 4000000 in
theorem con_X1_init (l : Launch) (D : va_G) (cy : Nat → ClassId) : Con l D cy yX1_init cX1_init 2 (none) ({ frames := 2, cells := 38, slots := 258, locals := 41 }) 38 258 SP_X1_init := by
  refine con_of (by decide) (fun as M Qp h => ?_) ?_
  · obtain ⟨o0, rfl, -⟩ := h
    exact Nat.le_of_ble_eq_true rfl
  · intro p e s m args below meth c G as M Qp h C hr hnm
    obtain ⟨o0, rfl, ho1, ho2, Q0, hQ, h⟩ := h
    refine x_pick (L' := [(0, vR (some o0))]) [0] rfl ?_
    exact k_X1_init_0 C hr hnm hQ h
set_option maxRecDepth 100000 in
set_option maxHeartbeats 4000000 in
theorem cl_X1_init {p : Program} {l : Launch} {e : Env} {R : Room} {s : State} {m : MethodId} {args : Array Value} {below : List Frame} {meth : Method} {c : Code} {Q : State → Prop} {cc : ByteArray} {nL : Nat} {own : String} {D : va_G} {cy : Nat → ClassId} {G : Nat × Nat} {n0 pc : Nat} {L : List (Nat × PV)} {st : List PV} {M : Mm} {op : Instr} (K : CallOK l D cy R own op 38 258 (spI 0 SP_X1_init)) (C : Cx p s m args meth c cc nL own D cy G n0) (hd : decode cc pc = .ok (op, 3)) (hlen : argN st ≤ 8) {r : Option Nat} {o0 : Nat} (ho : isOn 1 M.2.2.2 r o0)  (q1 : M.2.2.2 + 38 - n0 ≤ R.cells) (q2 : SL (M.2.2.2 + 38) - SL n0 ≤ R.slots) (q3 : SL (M.2.2.2 + 38) = SL M.2.2.2 + 258) {Q0 : Mm → Prop} (h : P_X1_init o0 M M.2.2.2 Q0) (k : ∀ M2, Q0 M2 → M2.2.2.2 = M.2.2.2 + 38 → WW p l e R s m args below meth c Q nL D cy G n0  (pc + 3) L (st) M2) : WW p l e R s m args below meth c Q nL D cy G n0  pc L (vR r :: st) M := by
  obtain ⟨rfl, ho1, ho2⟩ := ho
  refine x_call K C hd (as := [vR (some o0)]) rfl hlen (fun v M2 => v = none ∧ Q0 M2) ⟨⟨o0, [], rfl, rfl⟩, o0, rfl, ho1, ho2, Q0, fun M2 hx => ⟨rfl, hx⟩, h⟩ q1 q2 q3 ?_
  rintro _ _ ⟨rfl, hx⟩ hm
  exact k _ hx hm
end W_X1_init
theorem dX2_init_0 : decode cX2_init 0 = .ok (.aload_n 0, 1) := by decide +kernel
theorem dX2_init_1 : decode cX2_init 1 = .ok (.invokespecial 3, 3) := by decide +kernel
theorem dX2_init_4 : decode cX2_init 4 = .ok (.aload_n 0, 1) := by decide +kernel
theorem dX2_init_5 : decode cX2_init 5 = .ok (.sipush 300, 3) := by decide +kernel
theorem dX2_init_8 : decode cX2_init 8 = .ok (.putfield 9, 3) := by decide +kernel
theorem dX2_init_11 : decode cX2_init 11 = .ok (.aload_n 0, 1) := by decide +kernel
theorem dX2_init_12 : decode cX2_init 12 = .ok (.bipush 50, 2) := by decide +kernel
theorem dX2_init_14 : decode cX2_init 14 = .ok (.putfield 15, 3) := by decide +kernel
theorem dX2_init_17 : decode cX2_init 17 = .ok (.aload_n 0, 1) := by decide +kernel
theorem dX2_init_18 : decode cX2_init 18 = .ok (.iconst 3, 1) := by decide +kernel
theorem dX2_init_19 : decode cX2_init 19 = .ok (.newarray .int, 2) := by decide +kernel
theorem dX2_init_21 : decode cX2_init 21 = .ok (.putfield 18, 3) := by decide +kernel
theorem dX2_init_24 : decode cX2_init 24 = .ok (.aload_n 0, 1) := by decide +kernel
theorem dX2_init_25 : decode cX2_init 25 = .ok (.iconst 3, 1) := by decide +kernel
theorem dX2_init_26 : decode cX2_init 26 = .ok (.newarray .int, 2) := by decide +kernel
theorem dX2_init_28 : decode cX2_init 28 = .ok (.putfield 22, 3) := by decide +kernel
theorem dX2_init_31 : decode cX2_init 31 = .ok (.return_, 1) := by decide +kernel
theorem ck_X2_3 {l : Launch} {D : va_G} {cy : Nat → ClassId} {R : Room} (hR : 1 ≤ R.frames ∧ 20 ≤ R.locals) : CallOK l D cy R RX2 (.invokespecial 3) 0 0 spObj := call_O (lwG_2 (i := 14) rfl rfl) (lwG_1 (i := 22) rfl rfl) (lwG_1 (i := 23) rfl rfl) hR
section W_X2_init
variable {p : Program} {l : Launch} {e : Env} {s : State} {m : MethodId} {args : Array Value} {below : List Frame} {meth : Method} {c : Code} {D : va_G} {cy : Nat → ClassId} {G : Nat × Nat} {n0 : Nat} {Qp : Option PV → Mm → Prop}
set_option maxRecDepth 100000 in
set_option maxHeartbeats 4000000 in
theorem k_X2_init_0 {o0 : Nat} {M : Mm} {Q : Mm → Prop} (C : Cx p s m args meth c cX2_init 1 RX2 D cy G n0) (hr : meth.sig.returnType = none) (hin : meth.name = "<init>") (hQ : ∀ M, Q M → Qp none M) (h : P_X2_init o0 M n0 Q ) : WW p l e ({ frames := 1, cells := 2, slots := 6, locals := 20 }) s m args below meth c (ZQ below args s D cy G n0 Qp (n0 + 2)) 1 D cy G n0 0 [(0, vR (some o0))] [] M := by
  unfold P_X2_init at h
  refine w_aload_n C dX2_init_0 rfl (mem_k 0 rfl) ?_
  refine x_call (as := [vR (some o0)]) (ck_X2_3 ⟨by decide, by decide⟩) C dX2_init_1 rfl (Nat.le_of_ble_eq_true rfl) (fun v M' => v = none ∧ M = M') ⟨⟨_, rfl⟩, rfl, rfl⟩ (h.1) (h.2.1) rfl ?_
  rintro _ _ ⟨rfl, rfl⟩ -
  replace h := h.2.2
  refine w_aload_n C dX2_init_4 rfl (mem_k 0 rfl) ?_
  refine w_sipush C dX2_init_5 (by decide) ?_
  obtain ⟨g1, h⟩ := h
  refine x_putI C dX2_init_8 fw_X2_9 g1 (Or.inl rfl) (fun M2 eM2 hn3 => ?_)
  replace h := h M2 eM2
  refine w_aload_n C dX2_init_11 rfl (mem_k 0 rfl) ?_
  refine w_bipush C dX2_init_12 (by decide) ?_
  obtain ⟨g4, h⟩ := h
  refine x_putI C dX2_init_14 fw_X2_15 g4 (Or.inl rfl) (fun M5 eM5 hn6 => ?_)
  replace h := h M5 eM5
  refine w_aload_n C dX2_init_17 rfl (mem_k 0 rfl) ?_
  refine w_iconst C dX2_init_18 ⟨by decide, by decide⟩ ?_
  obtain ⟨q1, q2, q3, q4, h⟩ := h
  refine w_newi (n := 3) C dX2_init_19 ac_I q1 q2 (by decide) q3 q4 ?_
  obtain ⟨M7, eM7⟩ : ∃ z : Mm, z = newM M5 := ⟨_, rfl⟩
  rw [← eM7]
  replace h := h M7 eM7
  obtain ⟨g8, h⟩ := h
  refine x_putR C dX2_init_21 fw_X2_18 g8 (Or.inr ⟨hin, rfl⟩) (fun M9 eM9 hn10 => ?_)
  replace h := h M9 eM9
  refine w_aload_n C dX2_init_24 rfl (mem_k 0 rfl) ?_
  refine w_iconst C dX2_init_25 ⟨by decide, by decide⟩ ?_
  obtain ⟨q1, q2, q3, q4, h⟩ := h
  refine w_newi (n := 3) C dX2_init_26 ac_I q1 q2 (by decide) q3 q4 ?_
  obtain ⟨M11, eM11⟩ : ∃ z : Mm, z = newM M9 := ⟨_, rfl⟩
  rw [← eM11]
  replace h := h M11 eM11
  obtain ⟨g12, h⟩ := h
  refine x_putR C dX2_init_28 fw_X2_22 g12 (Or.inr ⟨hin, rfl⟩) (fun M13 eM13 hn14 => ?_)
  replace h := h M13 eM13
  obtain ⟨hn, h⟩ := h
  exact x_vret C hr dX2_init_31 hn (hQ M13 h)
set_option maxRecDepth 100000 in
set_option maxHeartbeats 4000000 in
theorem con_X2_init (l : Launch) (D : va_G) (cy : Nat → ClassId) : Con l D cy yX2_init cX2_init 1 (none) ({ frames := 1, cells := 2, slots := 6, locals := 20 }) 2 6 SP_X2_init := by
  refine con_of (by decide) (fun as M Qp h => ?_) ?_
  · obtain ⟨o0, rfl, -⟩ := h
    exact Nat.le_of_ble_eq_true rfl
  · intro p e s m args below meth c G as M Qp h C hr hnm
    obtain ⟨o0, rfl, ho1, ho2, Q0, hQ, h⟩ := h
    refine x_pick (L' := [(0, vR (some o0))]) [0] rfl ?_
    exact k_X2_init_0 C hr hnm hQ h
set_option maxRecDepth 100000 in
set_option maxHeartbeats 4000000 in
theorem cl_X2_init {p : Program} {l : Launch} {e : Env} {R : Room} {s : State} {m : MethodId} {args : Array Value} {below : List Frame} {meth : Method} {c : Code} {Q : State → Prop} {cc : ByteArray} {nL : Nat} {own : String} {D : va_G} {cy : Nat → ClassId} {G : Nat × Nat} {n0 pc : Nat} {L : List (Nat × PV)} {st : List PV} {M : Mm} {op : Instr} (K : CallOK l D cy R own op 2 6 (spI 0 SP_X2_init)) (C : Cx p s m args meth c cc nL own D cy G n0) (hd : decode cc pc = .ok (op, 3)) (hlen : argN st ≤ 8) {r : Option Nat} {o0 : Nat} (ho : isOn 2 M.2.2.2 r o0)  (q1 : M.2.2.2 + 2 - n0 ≤ R.cells) (q2 : SL (M.2.2.2 + 2) - SL n0 ≤ R.slots) (q3 : SL (M.2.2.2 + 2) = SL M.2.2.2 + 6) {Q0 : Mm → Prop} (h : P_X2_init o0 M M.2.2.2 Q0) (k : ∀ M2, Q0 M2 → M2.2.2.2 = M.2.2.2 + 2 → WW p l e R s m args below meth c Q nL D cy G n0  (pc + 3) L (st) M2) : WW p l e R s m args below meth c Q nL D cy G n0  pc L (vR r :: st) M := by
  obtain ⟨rfl, ho1, ho2⟩ := ho
  refine x_call K C hd (as := [vR (some o0)]) rfl hlen (fun v M2 => v = none ∧ Q0 M2) ⟨⟨o0, [], rfl, rfl⟩, o0, rfl, ho1, ho2, Q0, fun M2 hx => ⟨rfl, hx⟩, h⟩ q1 q2 q3 ?_
  rintro _ _ ⟨rfl, hx⟩ hm
  exact k _ hx hm
end W_X2_init
theorem dX3_init_0 : decode cX3_init 0 = .ok (.aload_n 0, 1) := by decide +kernel
theorem dX3_init_1 : decode cX3_init 1 = .ok (.invokespecial 3, 3) := by decide +kernel
theorem dX3_init_4 : decode cX3_init 4 = .ok (.aload_n 0, 1) := by decide +kernel
theorem dX3_init_5 : decode cX3_init 5 = .ok (.iconst 4, 1) := by decide +kernel
theorem dX3_init_6 : decode cX3_init 6 = .ok (.newarray .int, 2) := by decide +kernel
theorem dX3_init_8 : decode cX3_init 8 = .ok (.putfield 9, 3) := by decide +kernel
theorem dX3_init_11 : decode cX3_init 11 = .ok (.aload_n 0, 1) := by decide +kernel
theorem dX3_init_12 : decode cX3_init 12 = .ok (.iconst 4, 1) := by decide +kernel
theorem dX3_init_13 : decode cX3_init 13 = .ok (.newarray .int, 2) := by decide +kernel
theorem dX3_init_15 : decode cX3_init 15 = .ok (.putfield 15, 3) := by decide +kernel
theorem dX3_init_18 : decode cX3_init 18 = .ok (.aload_n 0, 1) := by decide +kernel
theorem dX3_init_19 : decode cX3_init 19 = .ok (.iconst 4, 1) := by decide +kernel
theorem dX3_init_20 : decode cX3_init 20 = .ok (.newarray .int, 2) := by decide +kernel
theorem dX3_init_22 : decode cX3_init 22 = .ok (.putfield 18, 3) := by decide +kernel
theorem dX3_init_25 : decode cX3_init 25 = .ok (.return_, 1) := by decide +kernel
theorem ck_X3_3 {l : Launch} {D : va_G} {cy : Nat → ClassId} {R : Room} (hR : 1 ≤ R.frames ∧ 20 ≤ R.locals) : CallOK l D cy R RX3 (.invokespecial 3) 0 0 spObj := call_O (lwG_1 (i := 60) rfl rfl) (lwG_1 (i := 22) rfl rfl) (lwG_1 (i := 23) rfl rfl) hR
section W_X3_init
variable {p : Program} {l : Launch} {e : Env} {s : State} {m : MethodId} {args : Array Value} {below : List Frame} {meth : Method} {c : Code} {D : va_G} {cy : Nat → ClassId} {G : Nat × Nat} {n0 : Nat} {Qp : Option PV → Mm → Prop}
set_option maxRecDepth 100000 in
set_option maxHeartbeats 4000000 in
theorem k_X3_init_0 {o0 : Nat} {M : Mm} {Q : Mm → Prop} (C : Cx p s m args meth c cX3_init 1 RX3 D cy G n0) (hr : meth.sig.returnType = none) (hin : meth.name = "<init>") (hQ : ∀ M, Q M → Qp none M) (h : P_X3_init o0 M n0 Q ) : WW p l e ({ frames := 1, cells := 3, slots := 12, locals := 20 }) s m args below meth c (ZQ below args s D cy G n0 Qp (n0 + 3)) 1 D cy G n0 0 [(0, vR (some o0))] [] M := by
  unfold P_X3_init at h
  refine w_aload_n C dX3_init_0 rfl (mem_k 0 rfl) ?_
  refine x_call (as := [vR (some o0)]) (ck_X3_3 ⟨by decide, by decide⟩) C dX3_init_1 rfl (Nat.le_of_ble_eq_true rfl) (fun v M' => v = none ∧ M = M') ⟨⟨_, rfl⟩, rfl, rfl⟩ (h.1) (h.2.1) rfl ?_
  rintro _ _ ⟨rfl, rfl⟩ -
  replace h := h.2.2
  refine w_aload_n C dX3_init_4 rfl (mem_k 0 rfl) ?_
  refine w_iconst C dX3_init_5 ⟨by decide, by decide⟩ ?_
  obtain ⟨q1, q2, q3, q4, h⟩ := h
  refine w_newi (n := 4) C dX3_init_6 ac_I q1 q2 (by decide) q3 q4 ?_
  obtain ⟨M1, eM1⟩ : ∃ z : Mm, z = newM M := ⟨_, rfl⟩
  rw [← eM1]
  replace h := h M1 eM1
  obtain ⟨g2, h⟩ := h
  refine x_putR C dX3_init_8 fw_X3_9 g2 (Or.inr ⟨hin, rfl⟩) (fun M3 eM3 hn4 => ?_)
  replace h := h M3 eM3
  refine w_aload_n C dX3_init_11 rfl (mem_k 0 rfl) ?_
  refine w_iconst C dX3_init_12 ⟨by decide, by decide⟩ ?_
  obtain ⟨q1, q2, q3, q4, h⟩ := h
  refine w_newi (n := 4) C dX3_init_13 ac_I q1 q2 (by decide) q3 q4 ?_
  obtain ⟨M5, eM5⟩ : ∃ z : Mm, z = newM M3 := ⟨_, rfl⟩
  rw [← eM5]
  replace h := h M5 eM5
  obtain ⟨g6, h⟩ := h
  refine x_putR C dX3_init_15 fw_X3_15 g6 (Or.inr ⟨hin, rfl⟩) (fun M7 eM7 hn8 => ?_)
  replace h := h M7 eM7
  refine w_aload_n C dX3_init_18 rfl (mem_k 0 rfl) ?_
  refine w_iconst C dX3_init_19 ⟨by decide, by decide⟩ ?_
  obtain ⟨q1, q2, q3, q4, h⟩ := h
  refine w_newi (n := 4) C dX3_init_20 ac_I q1 q2 (by decide) q3 q4 ?_
  obtain ⟨M9, eM9⟩ : ∃ z : Mm, z = newM M7 := ⟨_, rfl⟩
  rw [← eM9]
  replace h := h M9 eM9
  obtain ⟨g10, h⟩ := h
  refine x_putR C dX3_init_22 fw_X3_18 g10 (Or.inr ⟨hin, rfl⟩) (fun M11 eM11 hn12 => ?_)
  replace h := h M11 eM11
  obtain ⟨hn, h⟩ := h
  exact x_vret C hr dX3_init_25 hn (hQ M11 h)
set_option maxRecDepth 100000 in
set_option maxHeartbeats 4000000 in
theorem con_X3_init (l : Launch) (D : va_G) (cy : Nat → ClassId) : Con l D cy yX3_init cX3_init 1 (none) ({ frames := 1, cells := 3, slots := 12, locals := 20 }) 3 12 SP_X3_init := by
  refine con_of (by decide) (fun as M Qp h => ?_) ?_
  · obtain ⟨o0, rfl, -⟩ := h
    exact Nat.le_of_ble_eq_true rfl
  · intro p e s m args below meth c G as M Qp h C hr hnm
    obtain ⟨o0, rfl, ho1, ho2, Q0, hQ, h⟩ := h
    refine x_pick (L' := [(0, vR (some o0))]) [0] rfl ?_
    exact k_X3_init_0 C hr hnm hQ h
set_option maxRecDepth 100000 in
set_option maxHeartbeats 4000000 in
theorem cl_X3_init {p : Program} {l : Launch} {e : Env} {R : Room} {s : State} {m : MethodId} {args : Array Value} {below : List Frame} {meth : Method} {c : Code} {Q : State → Prop} {cc : ByteArray} {nL : Nat} {own : String} {D : va_G} {cy : Nat → ClassId} {G : Nat × Nat} {n0 pc : Nat} {L : List (Nat × PV)} {st : List PV} {M : Mm} {op : Instr} (K : CallOK l D cy R own op 3 12 (spI 0 SP_X3_init)) (C : Cx p s m args meth c cc nL own D cy G n0) (hd : decode cc pc = .ok (op, 3)) (hlen : argN st ≤ 8) {r : Option Nat} {o0 : Nat} (ho : isOn 3 M.2.2.2 r o0)  (q1 : M.2.2.2 + 3 - n0 ≤ R.cells) (q2 : SL (M.2.2.2 + 3) - SL n0 ≤ R.slots) (q3 : SL (M.2.2.2 + 3) = SL M.2.2.2 + 12) {Q0 : Mm → Prop} (h : P_X3_init o0 M M.2.2.2 Q0) (k : ∀ M2, Q0 M2 → M2.2.2.2 = M.2.2.2 + 3 → WW p l e R s m args below meth c Q nL D cy G n0  (pc + 3) L (st) M2) : WW p l e R s m args below meth c Q nL D cy G n0  pc L (vR r :: st) M := by
  obtain ⟨rfl, ho1, ho2⟩ := ho
  refine x_call K C hd (as := [vR (some o0)]) rfl hlen (fun v M2 => v = none ∧ Q0 M2) ⟨⟨o0, [], rfl, rfl⟩, o0, rfl, ho1, ho2, Q0, fun M2 hx => ⟨rfl, hx⟩, h⟩ q1 q2 q3 ?_
  rintro _ _ ⟨rfl, hx⟩ hm
  exact k _ hx hm
end W_X3_init
theorem dX4_init_0 : decode cX4_init 0 = .ok (.aload_n 0, 1) := by decide +kernel
theorem dX4_init_1 : decode cX4_init 1 = .ok (.invokespecial 1, 3) := by decide +kernel
theorem dX4_init_4 : decode cX4_init 4 = .ok (.aload_n 0, 1) := by decide +kernel
theorem dX4_init_5 : decode cX4_init 5 = .ok (.aload_n 1, 1) := by decide +kernel
theorem dX4_init_6 : decode cX4_init 6 = .ok (.putfield 7, 3) := by decide +kernel
theorem dX4_init_9 : decode cX4_init 9 = .ok (.aload_n 0, 1) := by decide +kernel
theorem dX4_init_10 : decode cX4_init 10 = .ok (.iconst 1, 1) := by decide +kernel
theorem dX4_init_11 : decode cX4_init 11 = .ok (.putfield 13, 3) := by decide +kernel
theorem dX4_init_14 : decode cX4_init 14 = .ok (.return_, 1) := by decide +kernel
theorem ck_X4_1 {l : Launch} {D : va_G} {cy : Nat → ClassId} {R : Room} (hR : 1 ≤ R.frames ∧ 20 ≤ R.locals) : CallOK l D cy R RX4 (.invokespecial 1) 0 0 spObj := call_O (lwG_1 (i := 87) rfl rfl) (lwG_1 (i := 22) rfl rfl) (lwG_1 (i := 23) rfl rfl) hR
theorem fw_X4_7 : fR RX4 7 4 0 := ⟨⟨lwG_1 (i := 88) rfl rfl, by decide, by decide⟩, fun _ _ => rfl, fun r => ⟨r, rfl⟩⟩
theorem fw_X4_13 : fI RX4 13 4 2 := ⟨⟨lwG_1 (i := 93) rfl rfl, by decide, by decide⟩, rfl⟩
section W_X4_init
variable {p : Program} {l : Launch} {e : Env} {s : State} {m : MethodId} {args : Array Value} {below : List Frame} {meth : Method} {c : Code} {D : va_G} {cy : Nat → ClassId} {G : Nat × Nat} {n0 : Nat} {Qp : Option PV → Mm → Prop}
set_option maxRecDepth 100000 in
set_option maxHeartbeats 4000000 in
theorem k_X4_init_0 {o0 : Nat} {a1 : Option Nat} {M : Mm} {Q : Mm → Prop} (C : Cx p s m args meth c cX4_init 2 RX4 D cy G n0) (hr : meth.sig.returnType = none) (hin : meth.name = "<init>") (hQ : ∀ M, Q M → Qp none M) (h : P_X4_init o0 a1 M n0 Q ) : WW p l e ({ frames := 1, cells := 0, slots := 0, locals := 20 }) s m args below meth c (ZQ below args s D cy G n0 Qp (n0 + 0)) 2 D cy G n0 0 [(0, vR (some o0)), (1, vR a1)] [] M := by
  unfold P_X4_init at h
  refine w_aload_n C dX4_init_0 rfl (mem_k 0 rfl) ?_
  refine x_call (as := [vR (some o0)]) (ck_X4_1 ⟨by decide, by decide⟩) C dX4_init_1 rfl (Nat.le_of_ble_eq_true rfl) (fun v M' => v = none ∧ M = M') ⟨⟨_, rfl⟩, rfl, rfl⟩ (h.1) (h.2.1) rfl ?_
  rintro _ _ ⟨rfl, rfl⟩ -
  replace h := h.2.2
  refine w_aload_n C dX4_init_4 rfl (mem_k 0 rfl) ?_
  refine w_aload_n C dX4_init_5 rfl (mem_k 1 rfl) ?_
  obtain ⟨g1, h⟩ := h
  refine x_putR C dX4_init_6 fw_X4_7 g1 (Or.inl rfl) (fun M2 eM2 hn3 => ?_)
  replace h := h M2 eM2
  refine w_aload_n C dX4_init_9 rfl (mem_k 0 rfl) ?_
  refine w_iconst C dX4_init_10 ⟨by decide, by decide⟩ ?_
  obtain ⟨g4, h⟩ := h
  refine x_putI C dX4_init_11 fw_X4_13 g4 (Or.inl rfl) (fun M5 eM5 hn6 => ?_)
  replace h := h M5 eM5
  obtain ⟨hn, h⟩ := h
  exact x_vret C hr dX4_init_14 hn (hQ M5 h)
set_option maxRecDepth 100000 in
set_option maxHeartbeats 4000000 in
theorem con_X4_init (l : Launch) (D : va_G) (cy : Nat → ClassId) : Con l D cy yX4_init cX4_init 2 (none) ({ frames := 1, cells := 0, slots := 0, locals := 20 }) 0 0 SP_X4_init := by
  refine con_of (by decide) (fun as M Qp h => ?_) ?_
  · obtain ⟨o0, a1, rfl, -⟩ := h
    exact Nat.le_of_ble_eq_true rfl
  · intro p e s m args below meth c G as M Qp h C hr hnm
    obtain ⟨o0, a1, rfl, ho1, ho2, Q0, hQ, h⟩ := h
    refine x_pick (L' := [(0, vR (some o0)), (1, vR a1)]) [0, 1] rfl ?_
    exact k_X4_init_0 C hr hnm hQ h
set_option maxRecDepth 100000 in
set_option maxHeartbeats 4000000 in
theorem cl_X4_init {p : Program} {l : Launch} {e : Env} {R : Room} {s : State} {m : MethodId} {args : Array Value} {below : List Frame} {meth : Method} {c : Code} {Q : State → Prop} {cc : ByteArray} {nL : Nat} {own : String} {D : va_G} {cy : Nat → ClassId} {G : Nat × Nat} {n0 pc : Nat} {L : List (Nat × PV)} {st : List PV} {M : Mm} {op : Instr} (K : CallOK l D cy R own op 0 0 (spI 1 SP_X4_init)) (C : Cx p s m args meth c cc nL own D cy G n0) (hd : decode cc pc = .ok (op, 3)) (hlen : argN st ≤ 8) {r : Option Nat} {o0 : Nat} (ho : isOn 4 M.2.2.2 r o0) {a1 : Option Nat} (q1 : M.2.2.2 + 0 - n0 ≤ R.cells) (q2 : SL (M.2.2.2 + 0) - SL n0 ≤ R.slots) (q3 : SL (M.2.2.2 + 0) = SL M.2.2.2 + 0) {Q0 : Mm → Prop} (h : P_X4_init o0 a1 M M.2.2.2 Q0) (k : ∀ M2, Q0 M2 → M2.2.2.2 = M.2.2.2 + 0 → WW p l e R s m args below meth c Q nL D cy G n0  (pc + 3) L (st) M2) : WW p l e R s m args below meth c Q nL D cy G n0  pc L (vR a1 :: vR r :: st) M := by
  obtain ⟨rfl, ho1, ho2⟩ := ho
  refine x_call K C hd (as := [vR (some o0), vR a1]) rfl hlen (fun v M2 => v = none ∧ Q0 M2) ⟨⟨o0, [vR a1], rfl, rfl⟩, o0, a1, rfl, ho1, ho2, Q0, fun M2 hx => ⟨rfl, hx⟩, h⟩ q1 q2 q3 ?_
  rintro _ _ ⟨rfl, hx⟩ hm
  exact k _ hx hm
end W_X4_init
theorem dX8_init_0 : decode cX8_init 0 = .ok (.aload_n 0, 1) := by decide +kernel
theorem dX8_init_1 : decode cX8_init 1 = .ok (.invokespecial 3, 3) := by decide +kernel
theorem dX8_init_4 : decode cX8_init 4 = .ok (.aload_n 0, 1) := by decide +kernel
theorem dX8_init_5 : decode cX8_init 5 = .ok (.bipush 6, 2) := by decide +kernel
theorem dX8_init_7 : decode cX8_init 7 = .ok (.anewarray 9, 3) := by decide +kernel
theorem dX8_init_10 : decode cX8_init 10 = .ok (.putfield 11, 3) := by decide +kernel
theorem dX8_init_13 : decode cX8_init 13 = .ok (.iconst 0, 1) := by decide +kernel
theorem dX8_init_14 : decode cX8_init 14 = .ok (.istore_n 2, 1) := by decide +kernel
theorem dX8_init_15 : decode cX8_init 15 = .ok (.iload_n 2, 1) := by decide +kernel
theorem dX8_init_16 : decode cX8_init 16 = .ok (.bipush 6, 2) := by decide +kernel
theorem dX8_init_18 : decode cX8_init 18 = .ok (.if_icmp .ge 23, 3) := by decide +kernel
theorem dX8_init_21 : decode cX8_init 21 = .ok (.aload_n 0, 1) := by decide +kernel
theorem dX8_init_22 : decode cX8_init 22 = .ok (.getfield 11, 3) := by decide +kernel
theorem dX8_init_25 : decode cX8_init 25 = .ok (.iload_n 2, 1) := by decide +kernel
theorem dX8_init_26 : decode cX8_init 26 = .ok (.new 9, 3) := by decide +kernel
theorem dX8_init_29 : decode cX8_init 29 = .ok (.dup, 1) := by decide +kernel
theorem dX8_init_30 : decode cX8_init 30 = .ok (.aload_n 1, 1) := by decide +kernel
theorem dX8_init_31 : decode cX8_init 31 = .ok (.invokespecial 17, 3) := by decide +kernel
theorem dX8_init_34 : decode cX8_init 34 = .ok (.aastore, 1) := by decide +kernel
theorem dX8_init_35 : decode cX8_init 35 = .ok (.iinc 2 1, 3) := by decide +kernel
theorem dX8_init_38 : decode cX8_init 38 = .ok (.goto (-23), 3) := by decide +kernel
theorem dX8_init_41 : decode cX8_init 41 = .ok (.return_, 1) := by decide +kernel
theorem nw_X8_9 : Cond.classLink RX8 9 (Rk 4) ∈ lwG ∧ Cond.instantiable (Rk 4) (Nk 4) ∈ lwG ∧ Cond.initialized (Rk 4) ∈ lwG := ⟨lwG_1 (i := 81) rfl rfl, lwG_1 (i := 83) rfl rfl, lwG_1 (i := 6) rfl rfl⟩
theorem ck_X8_17 {l : Launch} {D : va_G} {cy : Nat → ClassId} {R : Room} (hR : 2 ≤ R.frames ∧ 41 ≤ R.locals) : CallOK l D cy R RX8 (.invokespecial 17) 0 0 (spI 1 SP_X4_init) := call_I (con_X4_init l D cy) (lwG_1 (i := 84) rfl rfl) (lwG_1 (i := 85) rfl rfl) (lwG_1 (i := 6) rfl rfl) (lwG_1 (i := 86) rfl rfl) rfl ⟨by decide, by decide, rfl⟩ ⟨rfl, rfl⟩ hR
theorem ck_X8_3 {l : Launch} {D : va_G} {cy : Nat → ClassId} {R : Room} (hR : 1 ≤ R.frames ∧ 20 ≤ R.locals) : CallOK l D cy R RX8 (.invokespecial 3) 0 0 spObj := call_O (lwG_1 (i := 80) rfl rfl) (lwG_1 (i := 22) rfl rfl) (lwG_1 (i := 23) rfl rfl) hR
theorem cl_X8_9 : Cond.classLink RX8 9 RX4 ∈ lwG := lwG_1 (i := 81) rfl rfl
section W_X8_init
variable {p : Program} {l : Launch} {e : Env} {s : State} {m : MethodId} {args : Array Value} {below : List Frame} {meth : Method} {c : Code} {D : va_G} {cy : Nat → ClassId} {G : Nat × Nat} {n0 : Nat} {Qp : Option PV → Mm → Prop}
set_option maxRecDepth 100000 in
set_option maxHeartbeats 4000000 in
theorem f_X8_init_15 {o0 : Nat} {a1 : Option Nat} {x2 : Int} {M : Mm} {Q : Mm → Prop} {K15 : Int × Mm → Prop} (C : Cx p s m args meth c cX8_init 3 RX8 D cy G n0) (hr : meth.sig.returnType = none) (hin : meth.name = "<init>") (hQ : ∀ M, Q M → Qp none M) (hK15 : ∀ (x2 : Int) (M : Mm), K15 (x2, M) → WW p l e ({ frames := 2, cells := 7, slots := 30, locals := 41 }) s m args below meth c (ZQ below args s D cy G n0 Qp (n0 + 7)) 3 D cy G n0 15 [(0, vR (some o0)), (1, vR a1), (2, vI x2)] [] M) (h : F_X8_init_15 o0 a1 n0 Q  K15 x2 M) : WW p l e ({ frames := 2, cells := 7, slots := 30, locals := 41 }) s m args below meth c (ZQ below args s D cy G n0 Qp (n0 + 7)) 3 D cy G n0 15 [(0, vR (some o0)), (1, vR a1), (2, vI x2)] [] M := by
  unfold F_X8_init_15 at h
  refine w_iload_n C dX8_init_15 rfl (mem_k 2 rfl) ?_
  refine w_bipush C dX8_init_16 (by decide) ?_
  refine w_icmp_ge (tgt := 41) C dX8_init_18 (by decide) (fun q => ?_) (fun q => ?_)
  · replace h := h.1 q
    obtain ⟨hn, h⟩ := h
    exact x_vret C hr dX8_init_41 hn (hQ M h)
  · replace h := h.2 q
    refine w_aload_n C dX8_init_21 rfl (mem_k 0 rfl) ?_
    obtain ⟨g1, h⟩ := h
    refine x_getR C dX8_init_22 fw_X8_11 g1 (fun r2 er2 => ?_)
    replace h := h r2 er2
    refine w_iload_n C dX8_init_25 rfl (mem_k 2 rfl) ?_
    obtain ⟨q1, q2, q3, q4, h⟩ := h
    refine w_new (ci := 4) C dX8_init_26 nw_X8_9.1 nw_X8_9.2.1 nw_X8_9.2.2 (by decide) q1 q2 q3 q4 ?_
    obtain ⟨M3, eM3⟩ : ∃ z : Mm, z = newM M := ⟨_, rfl⟩
    rw [← eM3]
    replace h := h M3 eM3
    refine w_dup C dX8_init_29 rfl ?_
    refine w_aload_n C dX8_init_30 rfl (mem_k 1 rfl) ?_
    obtain ⟨o4, g5, h⟩ := h
    obtain ⟨q1, q2, q3, h⟩ := h
    refine cl_X4_init (ck_X8_17 ⟨by decide, by decide⟩) C dX8_init_31 (Nat.le_of_ble_eq_true rfl) g5 q1 q2 q3 h (fun M6 h hm => ?_)
    replace h := h hm
    obtain ⟨o7, g8, h⟩ := h
    obtain ⟨o9, g10, h⟩ := h
    refine x_aast C dX8_init_34 4 g8 g10 (by decide) (fun M11 eM11 hn12 => ?_)
    replace h := h M11 eM11
    obtain ⟨v13, ev13⟩ : ∃ z : Int, z = x2 + 1 := ⟨_, rfl⟩
    refine x_iinc (L' := [(2, vI v13), (0, vR (some o0)), (1, vR a1)]) C dX8_init_35 (mem_k 2 rfl) (by decide) h.1 ev13 rfl ?_
    replace h := h.2 v13 ev13
    refine w_goto (tgt := 15) C dX8_init_38 (by decide) ?_
    refine x_pc (pc2 := 15) rfl ?_
    refine x_pick (L' := [(0, vR (some o0)), (1, vR a1), (2, vI v13)]) [1, 2, 0] rfl ?_
    exact hK15 v13 M11 h
set_option maxRecDepth 100000 in
set_option maxHeartbeats 4000000 in
theorem k_X8_init_15 {o0 : Nat} {a1 : Option Nat} {x2 : Int} {M : Mm} {Q : Mm → Prop} (C : Cx p s m args meth c cX8_init 3 RX8 D cy G n0) (hr : meth.sig.returnType = none) (hin : meth.name = "<init>") (hQ : ∀ M, Q M → Qp none M) (h : P_X8_init_15 o0 a1 x2 M n0 Q ) : WW p l e ({ frames := 2, cells := 7, slots := 30, locals := 41 }) s m args below meth c (ZQ below args s D cy G n0 Qp (n0 + 7)) 3 D cy G n0 15 [(0, vR (some o0)), (1, vR a1), (2, vI x2)] [] M := by
  refine lpW_sound (P := fun y : Int × Mm => WW p l e ({ frames := 2, cells := 7, slots := 30, locals := 41 }) s m args below meth c (ZQ below args s D cy G n0 Qp (n0 + 7)) 3 D cy G n0 15 [(0, vR (some o0)), (1, vR a1), (2, vI y.1)] [] y.2) ?_ h
  intro K y hK hF
  obtain ⟨x2, M⟩ := y
  exact f_X8_init_15 C hr hin hQ  (fun x2 M hk => hK (x2, M) hk) hF
set_option maxRecDepth 100000 in
set_option maxHeartbeats 4000000 in
theorem k_X8_init_0 {o0 : Nat} {a1 : Option Nat} {M : Mm} {Q : Mm → Prop} (C : Cx p s m args meth c cX8_init 3 RX8 D cy G n0) (hr : meth.sig.returnType = none) (hin : meth.name = "<init>") (hQ : ∀ M, Q M → Qp none M) (h : P_X8_init o0 a1 M n0 Q ) : WW p l e ({ frames := 2, cells := 7, slots := 30, locals := 41 }) s m args below meth c (ZQ below args s D cy G n0 Qp (n0 + 7)) 3 D cy G n0 0 [(0, vR (some o0)), (1, vR a1)] [] M := by
  unfold P_X8_init at h
  refine w_aload_n C dX8_init_0 rfl (mem_k 0 rfl) ?_
  refine x_call (as := [vR (some o0)]) (ck_X8_3 ⟨by decide, by decide⟩) C dX8_init_1 rfl (Nat.le_of_ble_eq_true rfl) (fun v M' => v = none ∧ M = M') ⟨⟨_, rfl⟩, rfl, rfl⟩ (h.1) (h.2.1) rfl ?_
  rintro _ _ ⟨rfl, rfl⟩ -
  replace h := h.2.2
  refine w_aload_n C dX8_init_4 rfl (mem_k 0 rfl) ?_
  refine w_bipush C dX8_init_5 (by decide) ?_
  obtain ⟨q1, q2, q3, q4, h⟩ := h
  refine w_newq17 (n := 6) C dX8_init_7 cl_X8_9 q1 q2 (by decide) q3 q4 ?_
  obtain ⟨M14, eM14⟩ : ∃ z : Mm, z = newM M := ⟨_, rfl⟩
  rw [← eM14]
  replace h := h M14 eM14
  obtain ⟨g15, h⟩ := h
  refine x_putR C dX8_init_10 fw_X8_11 g15 (Or.inr ⟨hin, rfl⟩) (fun M16 eM16 hn17 => ?_)
  replace h := h M16 eM16
  refine w_iconst C dX8_init_13 ⟨by decide, by decide⟩ ?_
  refine x_istore_n (L' := [(2, vI 0), (0, vR (some o0)), (1, vR a1)]) C dX8_init_14 rfl (by decide) rfl ?_
  refine x_pc (pc2 := 15) rfl ?_
  refine x_pick (L' := [(0, vR (some o0)), (1, vR a1), (2, vI 0)]) [1, 2, 0] rfl ?_
  exact k_X8_init_15 C hr hin hQ  h
set_option maxRecDepth 100000 in
set_option maxHeartbeats 4000000 in
theorem con_X8_init (l : Launch) (D : va_G) (cy : Nat → ClassId) : Con l D cy yX8_init cX8_init 3 (none) ({ frames := 2, cells := 7, slots := 30, locals := 41 }) 7 30 SP_X8_init := by
  refine con_of (by decide) (fun as M Qp h => ?_) ?_
  · obtain ⟨o0, a1, rfl, -⟩ := h
    exact Nat.le_of_ble_eq_true rfl
  · intro p e s m args below meth c G as M Qp h C hr hnm
    obtain ⟨o0, a1, rfl, ho1, ho2, Q0, hQ, h⟩ := h
    refine x_pick (L' := [(0, vR (some o0)), (1, vR a1)]) [0, 1] rfl ?_
    exact k_X8_init_0 C hr hnm hQ h
set_option maxRecDepth 100000 in
set_option maxHeartbeats 4000000 in
theorem cl_X8_init {p : Program} {l : Launch} {e : Env} {R : Room} {s : State} {m : MethodId} {args : Array Value} {below : List Frame} {meth : Method} {c : Code} {Q : State → Prop} {cc : ByteArray} {nL : Nat} {own : String} {D : va_G} {cy : Nat → ClassId} {G : Nat × Nat} {n0 pc : Nat} {L : List (Nat × PV)} {st : List PV} {M : Mm} {op : Instr} (K : CallOK l D cy R own op 7 30 (spI 1 SP_X8_init)) (C : Cx p s m args meth c cc nL own D cy G n0) (hd : decode cc pc = .ok (op, 3)) (hlen : argN st ≤ 8) {r : Option Nat} {o0 : Nat} (ho : isOn 8 M.2.2.2 r o0) {a1 : Option Nat} (q1 : M.2.2.2 + 7 - n0 ≤ R.cells) (q2 : SL (M.2.2.2 + 7) - SL n0 ≤ R.slots) (q3 : SL (M.2.2.2 + 7) = SL M.2.2.2 + 30) {Q0 : Mm → Prop} (h : P_X8_init o0 a1 M M.2.2.2 Q0) (k : ∀ M2, Q0 M2 → M2.2.2.2 = M.2.2.2 + 7 → WW p l e R s m args below meth c Q nL D cy G n0  (pc + 3) L (st) M2) : WW p l e R s m args below meth c Q nL D cy G n0  pc L (vR a1 :: vR r :: st) M := by
  obtain ⟨rfl, ho1, ho2⟩ := ho
  refine x_call K C hd (as := [vR (some o0), vR a1]) rfl hlen (fun v M2 => v = none ∧ Q0 M2) ⟨⟨o0, [vR a1], rfl, rfl⟩, o0, a1, rfl, ho1, ho2, Q0, fun M2 hx => ⟨rfl, hx⟩, h⟩ q1 q2 q3 ?_
  rintro _ _ ⟨rfl, hx⟩ hm
  exact k _ hx hm
end W_X8_init
theorem dX5_init_0 : decode cX5_init 0 = .ok (.aload_n 0, 1) := by decide +kernel
theorem dX5_init_1 : decode cX5_init 1 = .ok (.invokespecial 3, 3) := by decide +kernel
theorem dX5_init_4 : decode cX5_init 4 = .ok (.aload_n 0, 1) := by decide +kernel
theorem dX5_init_5 : decode cX5_init 5 = .ok (.bipush 8, 2) := by decide +kernel
theorem dX5_init_7 : decode cX5_init 7 = .ok (.anewarray 9, 3) := by decide +kernel
theorem dX5_init_10 : decode cX5_init 10 = .ok (.putfield 11, 3) := by decide +kernel
theorem dX5_init_13 : decode cX5_init 13 = .ok (.aload_n 0, 1) := by decide +kernel
theorem dX5_init_14 : decode cX5_init 14 = .ok (.bipush 6, 2) := by decide +kernel
theorem dX5_init_16 : decode cX5_init 16 = .ok (.anewarray 17, 3) := by decide +kernel
theorem dX5_init_19 : decode cX5_init 19 = .ok (.putfield 19, 3) := by decide +kernel
theorem dX5_init_22 : decode cX5_init 22 = .ok (.iconst 0, 1) := by decide +kernel
theorem dX5_init_23 : decode cX5_init 23 = .ok (.istore_n 1, 1) := by decide +kernel
theorem dX5_init_24 : decode cX5_init 24 = .ok (.iload_n 1, 1) := by decide +kernel
theorem dX5_init_25 : decode cX5_init 25 = .ok (.bipush 8, 2) := by decide +kernel
theorem dX5_init_27 : decode cX5_init 27 = .ok (.if_icmp .ge 22, 3) := by decide +kernel
theorem dX5_init_30 : decode cX5_init 30 = .ok (.aload_n 0, 1) := by decide +kernel
theorem dX5_init_31 : decode cX5_init 31 = .ok (.getfield 11, 3) := by decide +kernel
theorem dX5_init_34 : decode cX5_init 34 = .ok (.iload_n 1, 1) := by decide +kernel
theorem dX5_init_35 : decode cX5_init 35 = .ok (.new 9, 3) := by decide +kernel
theorem dX5_init_38 : decode cX5_init 38 = .ok (.dup, 1) := by decide +kernel
theorem dX5_init_39 : decode cX5_init 39 = .ok (.invokespecial 23, 3) := by decide +kernel
theorem dX5_init_42 : decode cX5_init 42 = .ok (.aastore, 1) := by decide +kernel
theorem dX5_init_43 : decode cX5_init 43 = .ok (.iinc 1 1, 3) := by decide +kernel
theorem dX5_init_46 : decode cX5_init 46 = .ok (.goto (-22), 3) := by decide +kernel
theorem dX5_init_49 : decode cX5_init 49 = .ok (.iconst 0, 1) := by decide +kernel
theorem dX5_init_50 : decode cX5_init 50 = .ok (.istore_n 1, 1) := by decide +kernel
theorem dX5_init_51 : decode cX5_init 51 = .ok (.iload_n 1, 1) := by decide +kernel
theorem dX5_init_52 : decode cX5_init 52 = .ok (.bipush 6, 2) := by decide +kernel
theorem dX5_init_54 : decode cX5_init 54 = .ok (.if_icmp .ge 28, 3) := by decide +kernel
theorem dX5_init_57 : decode cX5_init 57 = .ok (.aload_n 0, 1) := by decide +kernel
theorem dX5_init_58 : decode cX5_init 58 = .ok (.getfield 19, 3) := by decide +kernel
theorem dX5_init_61 : decode cX5_init 61 = .ok (.iload_n 1, 1) := by decide +kernel
theorem dX5_init_62 : decode cX5_init 62 = .ok (.new 17, 3) := by decide +kernel
theorem dX5_init_65 : decode cX5_init 65 = .ok (.dup, 1) := by decide +kernel
theorem dX5_init_66 : decode cX5_init 66 = .ok (.aload_n 0, 1) := by decide +kernel
theorem dX5_init_67 : decode cX5_init 67 = .ok (.getfield 11, 3) := by decide +kernel
theorem dX5_init_70 : decode cX5_init 70 = .ok (.iconst 0, 1) := by decide +kernel
theorem dX5_init_71 : decode cX5_init 71 = .ok (.aaload, 1) := by decide +kernel
theorem dX5_init_72 : decode cX5_init 72 = .ok (.invokespecial 24, 3) := by decide +kernel
theorem dX5_init_75 : decode cX5_init 75 = .ok (.aastore, 1) := by decide +kernel
theorem dX5_init_76 : decode cX5_init 76 = .ok (.iinc 1 1, 3) := by decide +kernel
theorem dX5_init_79 : decode cX5_init 79 = .ok (.goto (-28), 3) := by decide +kernel
theorem dX5_init_82 : decode cX5_init 82 = .ok (.return_, 1) := by decide +kernel
theorem nw_X5_17 : Cond.classLink RX5 17 (Rk 8) ∈ lwG ∧ Cond.instantiable (Rk 8) (Nk 8) ∈ lwG ∧ Cond.initialized (Rk 8) ∈ lwG := ⟨lwG_1 (i := 54) rfl rfl, lwG_1 (i := 76) rfl rfl, lwG_1 (i := 5) rfl rfl⟩
theorem ck_X5_24 {l : Launch} {D : va_G} {cy : Nat → ClassId} {R : Room} (hR : 3 ≤ R.frames ∧ 63 ≤ R.locals) : CallOK l D cy R RX5 (.invokespecial 24) 7 30 (spI 1 SP_X8_init) := call_I (con_X8_init l D cy) (lwG_1 (i := 77) rfl rfl) (lwG_1 (i := 78) rfl rfl) (lwG_1 (i := 5) rfl rfl) (lwG_1 (i := 79) rfl rfl) rfl ⟨by decide, by decide, rfl⟩ ⟨rfl, rfl⟩ hR
theorem nw_X5_9 : Cond.classLink RX5 9 (Rk 3) ∈ lwG ∧ Cond.instantiable (Rk 3) (Nk 3) ∈ lwG ∧ Cond.initialized (Rk 3) ∈ lwG := ⟨lwG_1 (i := 52) rfl rfl, lwG_1 (i := 56) rfl rfl, lwG_1 (i := 4) rfl rfl⟩
theorem ck_X5_23 {l : Launch} {D : va_G} {cy : Nat → ClassId} {R : Room} (hR : 2 ≤ R.frames ∧ 40 ≤ R.locals) : CallOK l D cy R RX5 (.invokespecial 23) 3 12 (spI 0 SP_X3_init) := call_IN (con_X3_init l D cy) (List.mem_append_right _ (List.mem_append_left _ (List.mem_of_getElem? (i := 57) rfl))) (lwG_1 (i := 58) rfl rfl) (lwG_1 (i := 4) rfl rfl) (lwG_1 (i := 59) rfl rfl) rfl ⟨by decide, by decide, rfl⟩ ⟨rfl, rfl⟩ hR
theorem ck_X5_3 {l : Launch} {D : va_G} {cy : Nat → ClassId} {R : Room} (hR : 1 ≤ R.frames ∧ 20 ≤ R.locals) : CallOK l D cy R RX5 (.invokespecial 3) 0 0 spObj := call_O (lwG_1 (i := 51) rfl rfl) (lwG_1 (i := 22) rfl rfl) (lwG_1 (i := 23) rfl rfl) hR
theorem cl_X5_9 : Cond.classLink RX5 9 RX3 ∈ lwG := lwG_1 (i := 52) rfl rfl
theorem cl_X5_17 : Cond.classLink RX5 17 RX8 ∈ lwG := lwG_1 (i := 54) rfl rfl
section W_X5_init
variable {p : Program} {l : Launch} {e : Env} {s : State} {m : MethodId} {args : Array Value} {below : List Frame} {meth : Method} {c : Code} {D : va_G} {cy : Nat → ClassId} {G : Nat × Nat} {n0 : Nat} {Qp : Option PV → Mm → Prop}
set_option maxRecDepth 100000 in
set_option maxHeartbeats 4000000 in
theorem f_X5_init_51 {o0 : Nat} {x1 : Int} {M : Mm} {Q : Mm → Prop} {K51 : Int × Mm → Prop} (C : Cx p s m args meth c cX5_init 2 RX5 D cy G n0) (hr : meth.sig.returnType = none) (hin : meth.name = "<init>") (hQ : ∀ M, Q M → Qp none M) (hK51 : ∀ (x1 : Int) (M : Mm), K51 (x1, M) → WW p l e ({ frames := 3, cells := 82, slots := 364, locals := 63 }) s m args below meth c (ZQ below args s D cy G n0 Qp (n0 + 82)) 2 D cy G n0 51 [(0, vR (some o0)), (1, vI x1)] [] M) (h : F_X5_init_51 o0 n0 Q  K51 x1 M) : WW p l e ({ frames := 3, cells := 82, slots := 364, locals := 63 }) s m args below meth c (ZQ below args s D cy G n0 Qp (n0 + 82)) 2 D cy G n0 51 [(0, vR (some o0)), (1, vI x1)] [] M := by
  unfold F_X5_init_51 at h
  refine w_iload_n C dX5_init_51 rfl (mem_k 1 rfl) ?_
  refine w_bipush C dX5_init_52 (by decide) ?_
  refine w_icmp_ge (tgt := 82) C dX5_init_54 (by decide) (fun q => ?_) (fun q => ?_)
  · replace h := h.1 q
    obtain ⟨hn, h⟩ := h
    exact x_vret C hr dX5_init_82 hn (hQ M h)
  · replace h := h.2 q
    refine w_aload_n C dX5_init_57 rfl (mem_k 0 rfl) ?_
    obtain ⟨g1, h⟩ := h
    refine x_getR C dX5_init_58 fw_X5_19 g1 (fun r2 er2 => ?_)
    replace h := h r2 er2
    refine w_iload_n C dX5_init_61 rfl (mem_k 1 rfl) ?_
    obtain ⟨q1, q2, q3, q4, h⟩ := h
    refine w_new (ci := 8) C dX5_init_62 nw_X5_17.1 nw_X5_17.2.1 nw_X5_17.2.2 (by decide) q1 q2 q3 q4 ?_
    obtain ⟨M3, eM3⟩ : ∃ z : Mm, z = newM M := ⟨_, rfl⟩
    rw [← eM3]
    replace h := h M3 eM3
    refine w_dup C dX5_init_65 rfl ?_
    refine w_aload_n C dX5_init_66 rfl (mem_k 0 rfl) ?_
    obtain ⟨g4, h⟩ := h
    refine x_getR C dX5_init_67 fw_X5_11 g4 (fun r5 er5 => ?_)
    replace h := h r5 er5
    refine w_iconst C dX5_init_70 ⟨by decide, by decide⟩ ?_
    obtain ⟨o6, g7, h⟩ := h
    refine x_aald C dX5_init_71 g7 (by decide) (fun r8 er8 => ?_)
    replace h := h r8 er8
    obtain ⟨o9, g10, h⟩ := h
    obtain ⟨q1, q2, q3, h⟩ := h
    refine cl_X8_init (ck_X5_24 ⟨by decide, by decide⟩) C dX5_init_72 (Nat.le_of_ble_eq_true rfl) g10 q1 q2 q3 h (fun M11 h hm => ?_)
    replace h := h hm
    obtain ⟨o12, g13, h⟩ := h
    obtain ⟨o14, g15, h⟩ := h
    refine x_aast C dX5_init_75 8 g13 g15 (by decide) (fun M16 eM16 hn17 => ?_)
    replace h := h M16 eM16
    obtain ⟨v18, ev18⟩ : ∃ z : Int, z = x1 + 1 := ⟨_, rfl⟩
    refine x_iinc (L' := [(1, vI v18), (0, vR (some o0))]) C dX5_init_76 (mem_k 1 rfl) (by decide) h.1 ev18 rfl ?_
    replace h := h.2 v18 ev18
    refine w_goto (tgt := 51) C dX5_init_79 (by decide) ?_
    refine x_pc (pc2 := 51) rfl ?_
    refine x_pick (L' := [(0, vR (some o0)), (1, vI v18)]) [1, 0] rfl ?_
    exact hK51 v18 M16 h
set_option maxRecDepth 100000 in
set_option maxHeartbeats 4000000 in
theorem k_X5_init_51 {o0 : Nat} {x1 : Int} {M : Mm} {Q : Mm → Prop} (C : Cx p s m args meth c cX5_init 2 RX5 D cy G n0) (hr : meth.sig.returnType = none) (hin : meth.name = "<init>") (hQ : ∀ M, Q M → Qp none M) (h : P_X5_init_51 o0 x1 M n0 Q ) : WW p l e ({ frames := 3, cells := 82, slots := 364, locals := 63 }) s m args below meth c (ZQ below args s D cy G n0 Qp (n0 + 82)) 2 D cy G n0 51 [(0, vR (some o0)), (1, vI x1)] [] M := by
  refine lpW_sound (P := fun y : Int × Mm => WW p l e ({ frames := 3, cells := 82, slots := 364, locals := 63 }) s m args below meth c (ZQ below args s D cy G n0 Qp (n0 + 82)) 2 D cy G n0 51 [(0, vR (some o0)), (1, vI y.1)] [] y.2) ?_ h
  intro K y hK hF
  obtain ⟨x1, M⟩ := y
  exact f_X5_init_51 C hr hin hQ  (fun x1 M hk => hK (x1, M) hk) hF
set_option maxRecDepth 100000 in
set_option maxHeartbeats 4000000 in
theorem f_X5_init_24 {o0 : Nat} {x1 : Int} {M : Mm} {Q : Mm → Prop} {K24 : Int × Mm → Prop} (C : Cx p s m args meth c cX5_init 2 RX5 D cy G n0) (hr : meth.sig.returnType = none) (hin : meth.name = "<init>") (hQ : ∀ M, Q M → Qp none M) (hK24 : ∀ (x1 : Int) (M : Mm), K24 (x1, M) → WW p l e ({ frames := 3, cells := 82, slots := 364, locals := 63 }) s m args below meth c (ZQ below args s D cy G n0 Qp (n0 + 82)) 2 D cy G n0 24 [(0, vR (some o0)), (1, vI x1)] [] M) (h : F_X5_init_24 o0 n0 Q  K24 x1 M) : WW p l e ({ frames := 3, cells := 82, slots := 364, locals := 63 }) s m args below meth c (ZQ below args s D cy G n0 Qp (n0 + 82)) 2 D cy G n0 24 [(0, vR (some o0)), (1, vI x1)] [] M := by
  unfold F_X5_init_24 at h
  refine w_iload_n C dX5_init_24 rfl (mem_k 1 rfl) ?_
  refine w_bipush C dX5_init_25 (by decide) ?_
  refine w_icmp_ge (tgt := 49) C dX5_init_27 (by decide) (fun q => ?_) (fun q => ?_)
  · replace h := h.1 q
    refine w_iconst C dX5_init_49 ⟨by decide, by decide⟩ ?_
    refine x_istore_n (L' := [(1, vI 0), (0, vR (some o0))]) C dX5_init_50 rfl (by decide) rfl ?_
    refine x_pc (pc2 := 51) rfl ?_
    refine x_pick (L' := [(0, vR (some o0)), (1, vI 0)]) [1, 0] rfl ?_
    exact k_X5_init_51 C hr hin hQ  h
  · replace h := h.2 q
    refine w_aload_n C dX5_init_30 rfl (mem_k 0 rfl) ?_
    obtain ⟨g19, h⟩ := h
    refine x_getR C dX5_init_31 fw_X5_11 g19 (fun r20 er20 => ?_)
    replace h := h r20 er20
    refine w_iload_n C dX5_init_34 rfl (mem_k 1 rfl) ?_
    obtain ⟨q1, q2, q3, q4, h⟩ := h
    refine w_new (ci := 3) C dX5_init_35 nw_X5_9.1 nw_X5_9.2.1 nw_X5_9.2.2 (by decide) q1 q2 q3 q4 ?_
    obtain ⟨M21, eM21⟩ : ∃ z : Mm, z = newM M := ⟨_, rfl⟩
    rw [← eM21]
    replace h := h M21 eM21
    refine w_dup C dX5_init_38 rfl ?_
    obtain ⟨o22, g23, h⟩ := h
    obtain ⟨q1, q2, q3, h⟩ := h
    refine cl_X3_init (ck_X5_23 ⟨by decide, by decide⟩) C dX5_init_39 (Nat.le_of_ble_eq_true rfl) g23 q1 q2 q3 h (fun M24 h hm => ?_)
    replace h := h hm
    obtain ⟨o25, g26, h⟩ := h
    obtain ⟨o27, g28, h⟩ := h
    refine x_aast C dX5_init_42 3 g26 g28 (by decide) (fun M29 eM29 hn30 => ?_)
    replace h := h M29 eM29
    obtain ⟨v31, ev31⟩ : ∃ z : Int, z = x1 + 1 := ⟨_, rfl⟩
    refine x_iinc (L' := [(1, vI v31), (0, vR (some o0))]) C dX5_init_43 (mem_k 1 rfl) (by decide) h.1 ev31 rfl ?_
    replace h := h.2 v31 ev31
    refine w_goto (tgt := 24) C dX5_init_46 (by decide) ?_
    refine x_pc (pc2 := 24) rfl ?_
    refine x_pick (L' := [(0, vR (some o0)), (1, vI v31)]) [1, 0] rfl ?_
    exact hK24 v31 M29 h
set_option maxRecDepth 100000 in
set_option maxHeartbeats 4000000 in
theorem k_X5_init_24 {o0 : Nat} {x1 : Int} {M : Mm} {Q : Mm → Prop} (C : Cx p s m args meth c cX5_init 2 RX5 D cy G n0) (hr : meth.sig.returnType = none) (hin : meth.name = "<init>") (hQ : ∀ M, Q M → Qp none M) (h : P_X5_init_24 o0 x1 M n0 Q ) : WW p l e ({ frames := 3, cells := 82, slots := 364, locals := 63 }) s m args below meth c (ZQ below args s D cy G n0 Qp (n0 + 82)) 2 D cy G n0 24 [(0, vR (some o0)), (1, vI x1)] [] M := by
  refine lpW_sound (P := fun y : Int × Mm => WW p l e ({ frames := 3, cells := 82, slots := 364, locals := 63 }) s m args below meth c (ZQ below args s D cy G n0 Qp (n0 + 82)) 2 D cy G n0 24 [(0, vR (some o0)), (1, vI y.1)] [] y.2) ?_ h
  intro K y hK hF
  obtain ⟨x1, M⟩ := y
  exact f_X5_init_24 C hr hin hQ  (fun x1 M hk => hK (x1, M) hk) hF
set_option maxRecDepth 100000 in
set_option maxHeartbeats 4000000 in
theorem k_X5_init_0 {o0 : Nat} {M : Mm} {Q : Mm → Prop} (C : Cx p s m args meth c cX5_init 2 RX5 D cy G n0) (hr : meth.sig.returnType = none) (hin : meth.name = "<init>") (hQ : ∀ M, Q M → Qp none M) (h : P_X5_init o0 M n0 Q ) : WW p l e ({ frames := 3, cells := 82, slots := 364, locals := 63 }) s m args below meth c (ZQ below args s D cy G n0 Qp (n0 + 82)) 2 D cy G n0 0 [(0, vR (some o0))] [] M := by
  unfold P_X5_init at h
  refine w_aload_n C dX5_init_0 rfl (mem_k 0 rfl) ?_
  refine x_call (as := [vR (some o0)]) (ck_X5_3 ⟨by decide, by decide⟩) C dX5_init_1 rfl (Nat.le_of_ble_eq_true rfl) (fun v M' => v = none ∧ M = M') ⟨⟨_, rfl⟩, rfl, rfl⟩ (h.1) (h.2.1) rfl ?_
  rintro _ _ ⟨rfl, rfl⟩ -
  replace h := h.2.2
  refine w_aload_n C dX5_init_4 rfl (mem_k 0 rfl) ?_
  refine w_bipush C dX5_init_5 (by decide) ?_
  obtain ⟨q1, q2, q3, q4, h⟩ := h
  refine w_newq16 (n := 8) C dX5_init_7 cl_X5_9 q1 q2 (by decide) q3 q4 ?_
  obtain ⟨M32, eM32⟩ : ∃ z : Mm, z = newM M := ⟨_, rfl⟩
  rw [← eM32]
  replace h := h M32 eM32
  obtain ⟨g33, h⟩ := h
  refine x_putR C dX5_init_10 fw_X5_11 g33 (Or.inr ⟨hin, rfl⟩) (fun M34 eM34 hn35 => ?_)
  replace h := h M34 eM34
  refine w_aload_n C dX5_init_13 rfl (mem_k 0 rfl) ?_
  refine w_bipush C dX5_init_14 (by decide) ?_
  obtain ⟨q1, q2, q3, q4, h⟩ := h
  refine w_newq18 (n := 6) C dX5_init_16 cl_X5_17 q1 q2 (by decide) q3 q4 ?_
  obtain ⟨M36, eM36⟩ : ∃ z : Mm, z = newM M34 := ⟨_, rfl⟩
  rw [← eM36]
  replace h := h M36 eM36
  obtain ⟨g37, h⟩ := h
  refine x_putR C dX5_init_19 fw_X5_19 g37 (Or.inr ⟨hin, rfl⟩) (fun M38 eM38 hn39 => ?_)
  replace h := h M38 eM38
  refine w_iconst C dX5_init_22 ⟨by decide, by decide⟩ ?_
  refine x_istore_n (L' := [(1, vI 0), (0, vR (some o0))]) C dX5_init_23 rfl (by decide) rfl ?_
  refine x_pc (pc2 := 24) rfl ?_
  refine x_pick (L' := [(0, vR (some o0)), (1, vI 0)]) [1, 0] rfl ?_
  exact k_X5_init_24 C hr hin hQ  h
set_option maxRecDepth 100000 in
set_option maxHeartbeats 4000000 in
theorem con_X5_init (l : Launch) (D : va_G) (cy : Nat → ClassId) : Con l D cy yX5_init cX5_init 2 (none) ({ frames := 3, cells := 82, slots := 364, locals := 63 }) 82 364 SP_X5_init := by
  refine con_of (by decide) (fun as M Qp h => ?_) ?_
  · obtain ⟨o0, rfl, -⟩ := h
    exact Nat.le_of_ble_eq_true rfl
  · intro p e s m args below meth c G as M Qp h C hr hnm
    obtain ⟨o0, rfl, ho1, ho2, Q0, hQ, h⟩ := h
    refine x_pick (L' := [(0, vR (some o0))]) [0] rfl ?_
    exact k_X5_init_0 C hr hnm hQ h
set_option maxRecDepth 100000 in
set_option maxHeartbeats 4000000 in
theorem cl_X5_init {p : Program} {l : Launch} {e : Env} {R : Room} {s : State} {m : MethodId} {args : Array Value} {below : List Frame} {meth : Method} {c : Code} {Q : State → Prop} {cc : ByteArray} {nL : Nat} {own : String} {D : va_G} {cy : Nat → ClassId} {G : Nat × Nat} {n0 pc : Nat} {L : List (Nat × PV)} {st : List PV} {M : Mm} {op : Instr} (K : CallOK l D cy R own op 82 364 (spI 0 SP_X5_init)) (C : Cx p s m args meth c cc nL own D cy G n0) (hd : decode cc pc = .ok (op, 3)) (hlen : argN st ≤ 8) {r : Option Nat} {o0 : Nat} (ho : isOn 5 M.2.2.2 r o0)  (q1 : M.2.2.2 + 82 - n0 ≤ R.cells) (q2 : SL (M.2.2.2 + 82) - SL n0 ≤ R.slots) (q3 : SL (M.2.2.2 + 82) = SL M.2.2.2 + 364) {Q0 : Mm → Prop} (h : P_X5_init o0 M M.2.2.2 Q0) (k : ∀ M2, Q0 M2 → M2.2.2.2 = M.2.2.2 + 82 → WW p l e R s m args below meth c Q nL D cy G n0  (pc + 3) L (st) M2) : WW p l e R s m args below meth c Q nL D cy G n0  pc L (vR r :: st) M := by
  obtain ⟨rfl, ho1, ho2⟩ := ho
  refine x_call K C hd (as := [vR (some o0)]) rfl hlen (fun v M2 => v = none ∧ Q0 M2) ⟨⟨o0, [], rfl, rfl⟩, o0, rfl, ho1, ho2, Q0, fun M2 hx => ⟨rfl, hx⟩, h⟩ q1 q2 q3 ?_
  rintro _ _ ⟨rfl, hx⟩ hm
  exact k _ hx hm
end W_X5_init
theorem dX6_init_0 : decode cX6_init 0 = .ok (.aload_n 0, 1) := by decide +kernel
theorem dX6_init_1 : decode cX6_init 1 = .ok (.invokespecial 3, 3) := by decide +kernel
theorem dX6_init_4 : decode cX6_init 4 = .ok (.aload_n 0, 1) := by decide +kernel
theorem dX6_init_5 : decode cX6_init 5 = .ok (.iconst 1, 1) := by decide +kernel
theorem dX6_init_6 : decode cX6_init 6 = .ok (.putfield 9, 3) := by decide +kernel
theorem dX6_init_9 : decode cX6_init 9 = .ok (.aload_n 0, 1) := by decide +kernel
theorem dX6_init_10 : decode cX6_init 10 = .ok (.bipush 6, 2) := by decide +kernel
theorem dX6_init_12 : decode cX6_init 12 = .ok (.newarray .int, 2) := by decide +kernel
theorem dX6_init_14 : decode cX6_init 14 = .ok (.putfield 15, 3) := by decide +kernel
theorem dX6_init_17 : decode cX6_init 17 = .ok (.aload_n 0, 1) := by decide +kernel
theorem dX6_init_18 : decode cX6_init 18 = .ok (.bipush 6, 2) := by decide +kernel
theorem dX6_init_20 : decode cX6_init 20 = .ok (.newarray .int, 2) := by decide +kernel
theorem dX6_init_22 : decode cX6_init 22 = .ok (.putfield 19, 3) := by decide +kernel
theorem dX6_init_25 : decode cX6_init 25 = .ok (.aload_n 0, 1) := by decide +kernel
theorem dX6_init_26 : decode cX6_init 26 = .ok (.bipush 6, 2) := by decide +kernel
theorem dX6_init_28 : decode cX6_init 28 = .ok (.newarray .int, 2) := by decide +kernel
theorem dX6_init_30 : decode cX6_init 30 = .ok (.putfield 22, 3) := by decide +kernel
theorem dX6_init_33 : decode cX6_init 33 = .ok (.aload_n 0, 1) := by decide +kernel
theorem dX6_init_34 : decode cX6_init 34 = .ok (.bipush 6, 2) := by decide +kernel
theorem dX6_init_36 : decode cX6_init 36 = .ok (.newarray .int, 2) := by decide +kernel
theorem dX6_init_38 : decode cX6_init 38 = .ok (.putfield 25, 3) := by decide +kernel
theorem dX6_init_41 : decode cX6_init 41 = .ok (.aload_n 0, 1) := by decide +kernel
theorem dX6_init_42 : decode cX6_init 42 = .ok (.bipush 24, 2) := by decide +kernel
theorem dX6_init_44 : decode cX6_init 44 = .ok (.newarray .int, 2) := by decide +kernel
theorem dX6_init_46 : decode cX6_init 46 = .ok (.putfield 28, 3) := by decide +kernel
theorem dX6_init_49 : decode cX6_init 49 = .ok (.return_, 1) := by decide +kernel
theorem ck_X6_3 {l : Launch} {D : va_G} {cy : Nat → ClassId} {R : Room} (hR : 1 ≤ R.frames ∧ 20 ≤ R.locals) : CallOK l D cy R RX6 (.invokespecial 3) 0 0 spObj := call_O (lwG_1 (i := 221) rfl rfl) (lwG_1 (i := 22) rfl rfl) (lwG_1 (i := 23) rfl rfl) hR
section W_X6_init
variable {p : Program} {l : Launch} {e : Env} {s : State} {m : MethodId} {args : Array Value} {below : List Frame} {meth : Method} {c : Code} {D : va_G} {cy : Nat → ClassId} {G : Nat × Nat} {n0 : Nat} {Qp : Option PV → Mm → Prop}
set_option maxRecDepth 100000 in
set_option maxHeartbeats 4000000 in
theorem k_X6_init_0 {o0 : Nat} {M : Mm} {Q : Mm → Prop} (C : Cx p s m args meth c cX6_init 1 RX6 D cy G n0) (hr : meth.sig.returnType = none) (hin : meth.name = "<init>") (hQ : ∀ M, Q M → Qp none M) (h : P_X6_init o0 M n0 Q ) : WW p l e ({ frames := 1, cells := 5, slots := 48, locals := 20 }) s m args below meth c (ZQ below args s D cy G n0 Qp (n0 + 5)) 1 D cy G n0 0 [(0, vR (some o0))] [] M := by
  unfold P_X6_init at h
  refine w_aload_n C dX6_init_0 rfl (mem_k 0 rfl) ?_
  refine x_call (as := [vR (some o0)]) (ck_X6_3 ⟨by decide, by decide⟩) C dX6_init_1 rfl (Nat.le_of_ble_eq_true rfl) (fun v M' => v = none ∧ M = M') ⟨⟨_, rfl⟩, rfl, rfl⟩ (h.1) (h.2.1) rfl ?_
  rintro _ _ ⟨rfl, rfl⟩ -
  replace h := h.2.2
  refine w_aload_n C dX6_init_4 rfl (mem_k 0 rfl) ?_
  refine w_iconst C dX6_init_5 ⟨by decide, by decide⟩ ?_
  obtain ⟨g1, h⟩ := h
  refine x_putI C dX6_init_6 fw_X6_9 g1 (Or.inl rfl) (fun M2 eM2 hn3 => ?_)
  replace h := h M2 eM2
  refine w_aload_n C dX6_init_9 rfl (mem_k 0 rfl) ?_
  refine w_bipush C dX6_init_10 (by decide) ?_
  obtain ⟨q1, q2, q3, q4, h⟩ := h
  refine w_newi (n := 6) C dX6_init_12 ac_I q1 q2 (by decide) q3 q4 ?_
  obtain ⟨M4, eM4⟩ : ∃ z : Mm, z = newM M2 := ⟨_, rfl⟩
  rw [← eM4]
  replace h := h M4 eM4
  obtain ⟨g5, h⟩ := h
  refine x_putR C dX6_init_14 fw_X6_15 g5 (Or.inr ⟨hin, rfl⟩) (fun M6 eM6 hn7 => ?_)
  replace h := h M6 eM6
  refine w_aload_n C dX6_init_17 rfl (mem_k 0 rfl) ?_
  refine w_bipush C dX6_init_18 (by decide) ?_
  obtain ⟨q1, q2, q3, q4, h⟩ := h
  refine w_newi (n := 6) C dX6_init_20 ac_I q1 q2 (by decide) q3 q4 ?_
  obtain ⟨M8, eM8⟩ : ∃ z : Mm, z = newM M6 := ⟨_, rfl⟩
  rw [← eM8]
  replace h := h M8 eM8
  obtain ⟨g9, h⟩ := h
  refine x_putR C dX6_init_22 fw_X6_19 g9 (Or.inr ⟨hin, rfl⟩) (fun M10 eM10 hn11 => ?_)
  replace h := h M10 eM10
  refine w_aload_n C dX6_init_25 rfl (mem_k 0 rfl) ?_
  refine w_bipush C dX6_init_26 (by decide) ?_
  obtain ⟨q1, q2, q3, q4, h⟩ := h
  refine w_newi (n := 6) C dX6_init_28 ac_I q1 q2 (by decide) q3 q4 ?_
  obtain ⟨M12, eM12⟩ : ∃ z : Mm, z = newM M10 := ⟨_, rfl⟩
  rw [← eM12]
  replace h := h M12 eM12
  obtain ⟨g13, h⟩ := h
  refine x_putR C dX6_init_30 fw_X6_22 g13 (Or.inr ⟨hin, rfl⟩) (fun M14 eM14 hn15 => ?_)
  replace h := h M14 eM14
  refine w_aload_n C dX6_init_33 rfl (mem_k 0 rfl) ?_
  refine w_bipush C dX6_init_34 (by decide) ?_
  obtain ⟨q1, q2, q3, q4, h⟩ := h
  refine w_newi (n := 6) C dX6_init_36 ac_I q1 q2 (by decide) q3 q4 ?_
  obtain ⟨M16, eM16⟩ : ∃ z : Mm, z = newM M14 := ⟨_, rfl⟩
  rw [← eM16]
  replace h := h M16 eM16
  obtain ⟨g17, h⟩ := h
  refine x_putR C dX6_init_38 fw_X6_25 g17 (Or.inr ⟨hin, rfl⟩) (fun M18 eM18 hn19 => ?_)
  replace h := h M18 eM18
  refine w_aload_n C dX6_init_41 rfl (mem_k 0 rfl) ?_
  refine w_bipush C dX6_init_42 (by decide) ?_
  obtain ⟨q1, q2, q3, q4, h⟩ := h
  refine w_newi (n := 24) C dX6_init_44 ac_I q1 q2 (by decide) q3 q4 ?_
  obtain ⟨M20, eM20⟩ : ∃ z : Mm, z = newM M18 := ⟨_, rfl⟩
  rw [← eM20]
  replace h := h M20 eM20
  obtain ⟨g21, h⟩ := h
  refine x_putR C dX6_init_46 fw_X6_28 g21 (Or.inr ⟨hin, rfl⟩) (fun M22 eM22 hn23 => ?_)
  replace h := h M22 eM22
  obtain ⟨hn, h⟩ := h
  exact x_vret C hr dX6_init_49 hn (hQ M22 h)
set_option maxRecDepth 100000 in
set_option maxHeartbeats 4000000 in
theorem con_X6_init (l : Launch) (D : va_G) (cy : Nat → ClassId) : Con l D cy yX6_init cX6_init 1 (none) ({ frames := 1, cells := 5, slots := 48, locals := 20 }) 5 48 SP_X6_init := by
  refine con_of (by decide) (fun as M Qp h => ?_) ?_
  · obtain ⟨o0, rfl, -⟩ := h
    exact Nat.le_of_ble_eq_true rfl
  · intro p e s m args below meth c G as M Qp h C hr hnm
    obtain ⟨o0, rfl, ho1, ho2, Q0, hQ, h⟩ := h
    refine x_pick (L' := [(0, vR (some o0))]) [0] rfl ?_
    exact k_X6_init_0 C hr hnm hQ h
set_option maxRecDepth 100000 in
set_option maxHeartbeats 4000000 in
theorem cl_X6_init {p : Program} {l : Launch} {e : Env} {R : Room} {s : State} {m : MethodId} {args : Array Value} {below : List Frame} {meth : Method} {c : Code} {Q : State → Prop} {cc : ByteArray} {nL : Nat} {own : String} {D : va_G} {cy : Nat → ClassId} {G : Nat × Nat} {n0 pc : Nat} {L : List (Nat × PV)} {st : List PV} {M : Mm} {op : Instr} (K : CallOK l D cy R own op 5 48 (spI 0 SP_X6_init)) (C : Cx p s m args meth c cc nL own D cy G n0) (hd : decode cc pc = .ok (op, 3)) (hlen : argN st ≤ 8) {r : Option Nat} {o0 : Nat} (ho : isOn 6 M.2.2.2 r o0)  (q1 : M.2.2.2 + 5 - n0 ≤ R.cells) (q2 : SL (M.2.2.2 + 5) - SL n0 ≤ R.slots) (q3 : SL (M.2.2.2 + 5) = SL M.2.2.2 + 48) {Q0 : Mm → Prop} (h : P_X6_init o0 M M.2.2.2 Q0) (k : ∀ M2, Q0 M2 → M2.2.2.2 = M.2.2.2 + 5 → WW p l e R s m args below meth c Q nL D cy G n0  (pc + 3) L (st) M2) : WW p l e R s m args below meth c Q nL D cy G n0  pc L (vR r :: st) M := by
  obtain ⟨rfl, ho1, ho2⟩ := ho
  refine x_call K C hd (as := [vR (some o0)]) rfl hlen (fun v M2 => v = none ∧ Q0 M2) ⟨⟨o0, [], rfl, rfl⟩, o0, rfl, ho1, ho2, Q0, fun M2 hx => ⟨rfl, hx⟩, h⟩ q1 q2 q3 ?_
  rintro _ _ ⟨rfl, hx⟩ hm
  exact k _ hx hm
end W_X6_init
theorem dX7_init_0 : decode cX7_init 0 = .ok (.aload_n 0, 1) := by decide +kernel
theorem dX7_init_1 : decode cX7_init 1 = .ok (.invokespecial 3, 3) := by decide +kernel
theorem dX7_init_4 : decode cX7_init 4 = .ok (.aload_n 0, 1) := by decide +kernel
theorem dX7_init_5 : decode cX7_init 5 = .ok (.bipush 16, 2) := by decide +kernel
theorem dX7_init_7 : decode cX7_init 7 = .ok (.newarray .int, 2) := by decide +kernel
theorem dX7_init_9 : decode cX7_init 9 = .ok (.putfield 9, 3) := by decide +kernel
theorem dX7_init_12 : decode cX7_init 12 = .ok (.return_, 1) := by decide +kernel
theorem ck_X7_3 {l : Launch} {D : va_G} {cy : Nat → ClassId} {R : Room} (hR : 1 ≤ R.frames ∧ 20 ≤ R.locals) : CallOK l D cy R RX7 (.invokespecial 3) 0 0 spObj := call_O (lwG_2 (i := 35) rfl rfl) (lwG_1 (i := 22) rfl rfl) (lwG_1 (i := 23) rfl rfl) hR
section W_X7_init
variable {p : Program} {l : Launch} {e : Env} {s : State} {m : MethodId} {args : Array Value} {below : List Frame} {meth : Method} {c : Code} {D : va_G} {cy : Nat → ClassId} {G : Nat × Nat} {n0 : Nat} {Qp : Option PV → Mm → Prop}
set_option maxRecDepth 100000 in
set_option maxHeartbeats 4000000 in
theorem k_X7_init_0 {o0 : Nat} {M : Mm} {Q : Mm → Prop} (C : Cx p s m args meth c cX7_init 1 RX7 D cy G n0) (hr : meth.sig.returnType = none) (hin : meth.name = "<init>") (hQ : ∀ M, Q M → Qp none M) (h : P_X7_init o0 M n0 Q ) : WW p l e ({ frames := 1, cells := 1, slots := 16, locals := 20 }) s m args below meth c (ZQ below args s D cy G n0 Qp (n0 + 1)) 1 D cy G n0 0 [(0, vR (some o0))] [] M := by
  unfold P_X7_init at h
  refine w_aload_n C dX7_init_0 rfl (mem_k 0 rfl) ?_
  refine x_call (as := [vR (some o0)]) (ck_X7_3 ⟨by decide, by decide⟩) C dX7_init_1 rfl (Nat.le_of_ble_eq_true rfl) (fun v M' => v = none ∧ M = M') ⟨⟨_, rfl⟩, rfl, rfl⟩ (h.1) (h.2.1) rfl ?_
  rintro _ _ ⟨rfl, rfl⟩ -
  replace h := h.2.2
  refine w_aload_n C dX7_init_4 rfl (mem_k 0 rfl) ?_
  refine w_bipush C dX7_init_5 (by decide) ?_
  obtain ⟨q1, q2, q3, q4, h⟩ := h
  refine w_newi (n := 16) C dX7_init_7 ac_I q1 q2 (by decide) q3 q4 ?_
  obtain ⟨M1, eM1⟩ : ∃ z : Mm, z = newM M := ⟨_, rfl⟩
  rw [← eM1]
  replace h := h M1 eM1
  obtain ⟨g2, h⟩ := h
  refine x_putR C dX7_init_9 fw_X7_9 g2 (Or.inr ⟨hin, rfl⟩) (fun M3 eM3 hn4 => ?_)
  replace h := h M3 eM3
  obtain ⟨hn, h⟩ := h
  exact x_vret C hr dX7_init_12 hn (hQ M3 h)
set_option maxRecDepth 100000 in
set_option maxHeartbeats 4000000 in
theorem con_X7_init (l : Launch) (D : va_G) (cy : Nat → ClassId) : Con l D cy yX7_init cX7_init 1 (none) ({ frames := 1, cells := 1, slots := 16, locals := 20 }) 1 16 SP_X7_init := by
  refine con_of (by decide) (fun as M Qp h => ?_) ?_
  · obtain ⟨o0, rfl, -⟩ := h
    exact Nat.le_of_ble_eq_true rfl
  · intro p e s m args below meth c G as M Qp h C hr hnm
    obtain ⟨o0, rfl, ho1, ho2, Q0, hQ, h⟩ := h
    refine x_pick (L' := [(0, vR (some o0))]) [0] rfl ?_
    exact k_X7_init_0 C hr hnm hQ h
set_option maxRecDepth 100000 in
set_option maxHeartbeats 4000000 in
theorem cl_X7_init {p : Program} {l : Launch} {e : Env} {R : Room} {s : State} {m : MethodId} {args : Array Value} {below : List Frame} {meth : Method} {c : Code} {Q : State → Prop} {cc : ByteArray} {nL : Nat} {own : String} {D : va_G} {cy : Nat → ClassId} {G : Nat × Nat} {n0 pc : Nat} {L : List (Nat × PV)} {st : List PV} {M : Mm} {op : Instr} (K : CallOK l D cy R own op 1 16 (spI 0 SP_X7_init)) (C : Cx p s m args meth c cc nL own D cy G n0) (hd : decode cc pc = .ok (op, 3)) (hlen : argN st ≤ 8) {r : Option Nat} {o0 : Nat} (ho : isOn 7 M.2.2.2 r o0)  (q1 : M.2.2.2 + 1 - n0 ≤ R.cells) (q2 : SL (M.2.2.2 + 1) - SL n0 ≤ R.slots) (q3 : SL (M.2.2.2 + 1) = SL M.2.2.2 + 16) {Q0 : Mm → Prop} (h : P_X7_init o0 M M.2.2.2 Q0) (k : ∀ M2, Q0 M2 → M2.2.2.2 = M.2.2.2 + 1 → WW p l e R s m args below meth c Q nL D cy G n0  (pc + 3) L (st) M2) : WW p l e R s m args below meth c Q nL D cy G n0  pc L (vR r :: st) M := by
  obtain ⟨rfl, ho1, ho2⟩ := ho
  refine x_call K C hd (as := [vR (some o0)]) rfl hlen (fun v M2 => v = none ∧ Q0 M2) ⟨⟨o0, [], rfl, rfl⟩, o0, rfl, ho1, ho2, Q0, fun M2 hx => ⟨rfl, hx⟩, h⟩ q1 q2 q3 ?_
  rintro _ _ ⟨rfl, hx⟩ hm
  exact k _ hx hm
end W_X7_init
theorem dX9_init_0 : decode cX9_init 0 = .ok (.aload_n 0, 1) := by decide +kernel
theorem dX9_init_1 : decode cX9_init 1 = .ok (.invokespecial 3, 3) := by decide +kernel
theorem dX9_init_4 : decode cX9_init 4 = .ok (.aload_n 0, 1) := by decide +kernel
theorem dX9_init_5 : decode cX9_init 5 = .ok (.sipush 300, 3) := by decide +kernel
theorem dX9_init_8 : decode cX9_init 8 = .ok (.newarray .byte, 2) := by decide +kernel
theorem dX9_init_10 : decode cX9_init 10 = .ok (.putfield 9, 3) := by decide +kernel
theorem dX9_init_13 : decode cX9_init 13 = .ok (.aload_n 0, 1) := by decide +kernel
theorem dX9_init_14 : decode cX9_init 14 = .ok (.bipush 8, 2) := by decide +kernel
theorem dX9_init_16 : decode cX9_init 16 = .ok (.newarray .int, 2) := by decide +kernel
theorem dX9_init_18 : decode cX9_init 18 = .ok (.putfield 15, 3) := by decide +kernel
theorem dX9_init_21 : decode cX9_init 21 = .ok (.return_, 1) := by decide +kernel
theorem ck_X9_3 {l : Launch} {D : va_G} {cy : Nat → ClassId} {R : Room} (hR : 1 ≤ R.frames ∧ 20 ≤ R.locals) : CallOK l D cy R RX9 (.invokespecial 3) 0 0 spObj := call_O (lwG_1 (i := 29) rfl rfl) (lwG_1 (i := 22) rfl rfl) (lwG_1 (i := 23) rfl rfl) hR
section W_X9_init
variable {p : Program} {l : Launch} {e : Env} {s : State} {m : MethodId} {args : Array Value} {below : List Frame} {meth : Method} {c : Code} {D : va_G} {cy : Nat → ClassId} {G : Nat × Nat} {n0 : Nat} {Qp : Option PV → Mm → Prop}
set_option maxRecDepth 100000 in
set_option maxHeartbeats 4000000 in
theorem k_X9_init_0 {o0 : Nat} {M : Mm} {Q : Mm → Prop} (C : Cx p s m args meth c cX9_init 1 RX9 D cy G n0) (hr : meth.sig.returnType = none) (hin : meth.name = "<init>") (hQ : ∀ M, Q M → Qp none M) (h : P_X9_init o0 M n0 Q ) : WW p l e ({ frames := 1, cells := 2, slots := 308, locals := 20 }) s m args below meth c (ZQ below args s D cy G n0 Qp (n0 + 2)) 1 D cy G n0 0 [(0, vR (some o0))] [] M := by
  unfold P_X9_init at h
  refine w_aload_n C dX9_init_0 rfl (mem_k 0 rfl) ?_
  refine x_call (as := [vR (some o0)]) (ck_X9_3 ⟨by decide, by decide⟩) C dX9_init_1 rfl (Nat.le_of_ble_eq_true rfl) (fun v M' => v = none ∧ M = M') ⟨⟨_, rfl⟩, rfl, rfl⟩ (h.1) (h.2.1) rfl ?_
  rintro _ _ ⟨rfl, rfl⟩ -
  replace h := h.2.2
  refine w_aload_n C dX9_init_4 rfl (mem_k 0 rfl) ?_
  refine w_sipush C dX9_init_5 (by decide) ?_
  obtain ⟨q1, q2, q3, q4, h⟩ := h
  refine w_newb (n := 300) C dX9_init_8 ac_B q1 q2 (by decide) q3 q4 ?_
  obtain ⟨M1, eM1⟩ : ∃ z : Mm, z = newM M := ⟨_, rfl⟩
  rw [← eM1]
  replace h := h M1 eM1
  obtain ⟨g2, h⟩ := h
  refine x_putR C dX9_init_10 fw_X9_9 g2 (Or.inr ⟨hin, rfl⟩) (fun M3 eM3 hn4 => ?_)
  replace h := h M3 eM3
  refine w_aload_n C dX9_init_13 rfl (mem_k 0 rfl) ?_
  refine w_bipush C dX9_init_14 (by decide) ?_
  obtain ⟨q1, q2, q3, q4, h⟩ := h
  refine w_newi (n := 8) C dX9_init_16 ac_I q1 q2 (by decide) q3 q4 ?_
  obtain ⟨M5, eM5⟩ : ∃ z : Mm, z = newM M3 := ⟨_, rfl⟩
  rw [← eM5]
  replace h := h M5 eM5
  obtain ⟨g6, h⟩ := h
  refine x_putR C dX9_init_18 fw_X9_15 g6 (Or.inr ⟨hin, rfl⟩) (fun M7 eM7 hn8 => ?_)
  replace h := h M7 eM7
  obtain ⟨hn, h⟩ := h
  exact x_vret C hr dX9_init_21 hn (hQ M7 h)
set_option maxRecDepth 100000 in
set_option maxHeartbeats 4000000 in
theorem con_X9_init (l : Launch) (D : va_G) (cy : Nat → ClassId) : Con l D cy yX9_init cX9_init 1 (none) ({ frames := 1, cells := 2, slots := 308, locals := 20 }) 2 308 SP_X9_init := by
  refine con_of (by decide) (fun as M Qp h => ?_) ?_
  · obtain ⟨o0, rfl, -⟩ := h
    exact Nat.le_of_ble_eq_true rfl
  · intro p e s m args below meth c G as M Qp h C hr hnm
    obtain ⟨o0, rfl, ho1, ho2, Q0, hQ, h⟩ := h
    refine x_pick (L' := [(0, vR (some o0))]) [0] rfl ?_
    exact k_X9_init_0 C hr hnm hQ h
set_option maxRecDepth 100000 in
set_option maxHeartbeats 4000000 in
theorem cl_X9_init {p : Program} {l : Launch} {e : Env} {R : Room} {s : State} {m : MethodId} {args : Array Value} {below : List Frame} {meth : Method} {c : Code} {Q : State → Prop} {cc : ByteArray} {nL : Nat} {own : String} {D : va_G} {cy : Nat → ClassId} {G : Nat × Nat} {n0 pc : Nat} {L : List (Nat × PV)} {st : List PV} {M : Mm} {op : Instr} (K : CallOK l D cy R own op 2 308 (spI 0 SP_X9_init)) (C : Cx p s m args meth c cc nL own D cy G n0) (hd : decode cc pc = .ok (op, 3)) (hlen : argN st ≤ 8) {r : Option Nat} {o0 : Nat} (ho : isOn 9 M.2.2.2 r o0)  (q1 : M.2.2.2 + 2 - n0 ≤ R.cells) (q2 : SL (M.2.2.2 + 2) - SL n0 ≤ R.slots) (q3 : SL (M.2.2.2 + 2) = SL M.2.2.2 + 308) {Q0 : Mm → Prop} (h : P_X9_init o0 M M.2.2.2 Q0) (k : ∀ M2, Q0 M2 → M2.2.2.2 = M.2.2.2 + 2 → WW p l e R s m args below meth c Q nL D cy G n0  (pc + 3) L (st) M2) : WW p l e R s m args below meth c Q nL D cy G n0  pc L (vR r :: st) M := by
  obtain ⟨rfl, ho1, ho2⟩ := ho
  refine x_call K C hd (as := [vR (some o0)]) rfl hlen (fun v M2 => v = none ∧ Q0 M2) ⟨⟨o0, [], rfl, rfl⟩, o0, rfl, ho1, ho2, Q0, fun M2 hx => ⟨rfl, hx⟩, h⟩ q1 q2 q3 ?_
  rintro _ _ ⟨rfl, hx⟩ hm
  exact k _ hx hm
end W_X9_init
theorem dX10_init_0 : decode cX10_init 0 = .ok (.aload_n 0, 1) := by decide +kernel
theorem dX10_init_1 : decode cX10_init 1 = .ok (.invokespecial 1, 3) := by decide +kernel
theorem dX10_init_4 : decode cX10_init 4 = .ok (.return_, 1) := by decide +kernel
theorem ck_X10_1 {l : Launch} {D : va_G} {cy : Nat → ClassId} {R : Room} (hR : 1 ≤ R.frames ∧ 20 ≤ R.locals) : CallOK l D cy R RX10 (.invokespecial 1) 0 0 spObj := call_O (lwG_2 (i := 45) rfl rfl) (lwG_1 (i := 22) rfl rfl) (lwG_1 (i := 23) rfl rfl) hR
section W_X10_init
variable {p : Program} {l : Launch} {e : Env} {s : State} {m : MethodId} {args : Array Value} {below : List Frame} {meth : Method} {c : Code} {D : va_G} {cy : Nat → ClassId} {G : Nat × Nat} {n0 : Nat} {Qp : Option PV → Mm → Prop}
set_option maxRecDepth 100000 in
set_option maxHeartbeats 4000000 in
theorem k_X10_init_0 {o0 : Nat} {M : Mm} {Q : Mm → Prop} (C : Cx p s m args meth c cX10_init 1 RX10 D cy G n0) (hr : meth.sig.returnType = none) (hin : meth.name = "<init>") (hQ : ∀ M, Q M → Qp none M) (h : P_X10_init o0 M n0 Q ) : WW p l e ({ frames := 1, cells := 0, slots := 0, locals := 20 }) s m args below meth c (ZQ below args s D cy G n0 Qp (n0 + 0)) 1 D cy G n0 0 [(0, vR (some o0))] [] M := by
  unfold P_X10_init at h
  refine w_aload_n C dX10_init_0 rfl (mem_k 0 rfl) ?_
  refine x_call (as := [vR (some o0)]) (ck_X10_1 ⟨by decide, by decide⟩) C dX10_init_1 rfl (Nat.le_of_ble_eq_true rfl) (fun v M' => v = none ∧ M = M') ⟨⟨_, rfl⟩, rfl, rfl⟩ (h.1) (h.2.1) rfl ?_
  rintro _ _ ⟨rfl, rfl⟩ -
  replace h := h.2.2
  obtain ⟨hn, h⟩ := h
  exact x_vret C hr dX10_init_4 hn (hQ M h)
set_option maxRecDepth 100000 in
set_option maxHeartbeats 4000000 in
theorem con_X10_init (l : Launch) (D : va_G) (cy : Nat → ClassId) : Con l D cy yX10_init cX10_init 1 (none) ({ frames := 1, cells := 0, slots := 0, locals := 20 }) 0 0 SP_X10_init := by
  refine con_of (by decide) (fun as M Qp h => ?_) ?_
  · obtain ⟨o0, rfl, -⟩ := h
    exact Nat.le_of_ble_eq_true rfl
  · intro p e s m args below meth c G as M Qp h C hr hnm
    obtain ⟨o0, rfl, ho1, ho2, Q0, hQ, h⟩ := h
    refine x_pick (L' := [(0, vR (some o0))]) [0] rfl ?_
    exact k_X10_init_0 C hr hnm hQ h
set_option maxRecDepth 100000 in
set_option maxHeartbeats 4000000 in
theorem cl_X10_init {p : Program} {l : Launch} {e : Env} {R : Room} {s : State} {m : MethodId} {args : Array Value} {below : List Frame} {meth : Method} {c : Code} {Q : State → Prop} {cc : ByteArray} {nL : Nat} {own : String} {D : va_G} {cy : Nat → ClassId} {G : Nat × Nat} {n0 pc : Nat} {L : List (Nat × PV)} {st : List PV} {M : Mm} {op : Instr} (K : CallOK l D cy R own op 0 0 (spI 0 SP_X10_init)) (C : Cx p s m args meth c cc nL own D cy G n0) (hd : decode cc pc = .ok (op, 3)) (hlen : argN st ≤ 8) {r : Option Nat} {o0 : Nat} (ho : isOn 10 M.2.2.2 r o0)  (q1 : M.2.2.2 + 0 - n0 ≤ R.cells) (q2 : SL (M.2.2.2 + 0) - SL n0 ≤ R.slots) (q3 : SL (M.2.2.2 + 0) = SL M.2.2.2 + 0) {Q0 : Mm → Prop} (h : P_X10_init o0 M M.2.2.2 Q0) (k : ∀ M2, Q0 M2 → M2.2.2.2 = M.2.2.2 + 0 → WW p l e R s m args below meth c Q nL D cy G n0  (pc + 3) L (st) M2) : WW p l e R s m args below meth c Q nL D cy G n0  pc L (vR r :: st) M := by
  obtain ⟨rfl, ho1, ho2⟩ := ho
  refine x_call K C hd (as := [vR (some o0)]) rfl hlen (fun v M2 => v = none ∧ Q0 M2) ⟨⟨o0, [], rfl, rfl⟩, o0, rfl, ho1, ho2, Q0, fun M2 hx => ⟨rfl, hx⟩, h⟩ q1 q2 q3 ?_
  rintro _ _ ⟨rfl, hx⟩ hm
  exact k _ hx hm
end W_X10_init
theorem dX11_init_0 : decode cX11_init 0 = .ok (.aload_n 0, 1) := by decide +kernel
theorem dX11_init_1 : decode cX11_init 1 = .ok (.invokespecial 1, 3) := by decide +kernel
theorem dX11_init_4 : decode cX11_init 4 = .ok (.aload_n 0, 1) := by decide +kernel
theorem dX11_init_5 : decode cX11_init 5 = .ok (.new 7, 3) := by decide +kernel
theorem dX11_init_8 : decode cX11_init 8 = .ok (.dup, 1) := by decide +kernel
theorem dX11_init_9 : decode cX11_init 9 = .ok (.invokespecial 9, 3) := by decide +kernel
theorem dX11_init_12 : decode cX11_init 12 = .ok (.putfield 10, 3) := by decide +kernel
theorem dX11_init_15 : decode cX11_init 15 = .ok (.aload_n 0, 1) := by decide +kernel
theorem dX11_init_16 : decode cX11_init 16 = .ok (.new 16, 3) := by decide +kernel
theorem dX11_init_19 : decode cX11_init 19 = .ok (.dup, 1) := by decide +kernel
theorem dX11_init_20 : decode cX11_init 20 = .ok (.invokespecial 18, 3) := by decide +kernel
theorem dX11_init_23 : decode cX11_init 23 = .ok (.putfield 19, 3) := by decide +kernel
theorem dX11_init_26 : decode cX11_init 26 = .ok (.aload_n 0, 1) := by decide +kernel
theorem dX11_init_27 : decode cX11_init 27 = .ok (.new 16, 3) := by decide +kernel
theorem dX11_init_30 : decode cX11_init 30 = .ok (.dup, 1) := by decide +kernel
theorem dX11_init_31 : decode cX11_init 31 = .ok (.invokespecial 18, 3) := by decide +kernel
theorem dX11_init_34 : decode cX11_init 34 = .ok (.putfield 23, 3) := by decide +kernel
theorem dX11_init_37 : decode cX11_init 37 = .ok (.aload_n 0, 1) := by decide +kernel
theorem dX11_init_38 : decode cX11_init 38 = .ok (.new 26, 3) := by decide +kernel
theorem dX11_init_41 : decode cX11_init 41 = .ok (.dup, 1) := by decide +kernel
theorem dX11_init_42 : decode cX11_init 42 = .ok (.invokespecial 28, 3) := by decide +kernel
theorem dX11_init_45 : decode cX11_init 45 = .ok (.putfield 29, 3) := by decide +kernel
theorem dX11_init_48 : decode cX11_init 48 = .ok (.aload_n 0, 1) := by decide +kernel
theorem dX11_init_49 : decode cX11_init 49 = .ok (.new 33, 3) := by decide +kernel
theorem dX11_init_52 : decode cX11_init 52 = .ok (.dup, 1) := by decide +kernel
theorem dX11_init_53 : decode cX11_init 53 = .ok (.invokespecial 35, 3) := by decide +kernel
theorem dX11_init_56 : decode cX11_init 56 = .ok (.putfield 36, 3) := by decide +kernel
theorem dX11_init_59 : decode cX11_init 59 = .ok (.aload_n 0, 1) := by decide +kernel
theorem dX11_init_60 : decode cX11_init 60 = .ok (.new 40, 3) := by decide +kernel
theorem dX11_init_63 : decode cX11_init 63 = .ok (.dup, 1) := by decide +kernel
theorem dX11_init_64 : decode cX11_init 64 = .ok (.invokespecial 42, 3) := by decide +kernel
theorem dX11_init_67 : decode cX11_init 67 = .ok (.putfield 43, 3) := by decide +kernel
theorem dX11_init_70 : decode cX11_init 70 = .ok (.aload_n 0, 1) := by decide +kernel
theorem dX11_init_71 : decode cX11_init 71 = .ok (.new 47, 3) := by decide +kernel
theorem dX11_init_74 : decode cX11_init 74 = .ok (.dup, 1) := by decide +kernel
theorem dX11_init_75 : decode cX11_init 75 = .ok (.invokespecial 49, 3) := by decide +kernel
theorem dX11_init_78 : decode cX11_init 78 = .ok (.putfield 50, 3) := by decide +kernel
theorem dX11_init_81 : decode cX11_init 81 = .ok (.aload_n 0, 1) := by decide +kernel
theorem dX11_init_82 : decode cX11_init 82 = .ok (.new 54, 3) := by decide +kernel
theorem dX11_init_85 : decode cX11_init 85 = .ok (.dup, 1) := by decide +kernel
theorem dX11_init_86 : decode cX11_init 86 = .ok (.invokespecial 56, 3) := by decide +kernel
theorem dX11_init_89 : decode cX11_init 89 = .ok (.putfield 57, 3) := by decide +kernel
theorem dX11_init_92 : decode cX11_init 92 = .ok (.return_, 1) := by decide +kernel
theorem ck_X11_1 {l : Launch} {D : va_G} {cy : Nat → ClassId} {R : Room} (hR : 1 ≤ R.frames ∧ 20 ≤ R.locals) : CallOK l D cy R RX11 (.invokespecial 1) 0 0 spObj := call_O (lwG_1 (i := 21) rfl rfl) (lwG_1 (i := 22) rfl rfl) (lwG_1 (i := 23) rfl rfl) hR
theorem nw_X11_7 : Cond.classLink RX11 7 (Rk 9) ∈ lwG ∧ Cond.instantiable (Rk 9) (Nk 9) ∈ lwG ∧ Cond.initialized (Rk 9) ∈ lwG := ⟨lwG_1 (i := 24) rfl rfl, lwG_1 (i := 25) rfl rfl, lwG_1 (i := 2) rfl rfl⟩
theorem ck_X11_9 {l : Launch} {D : va_G} {cy : Nat → ClassId} {R : Room} (hR : 2 ≤ R.frames ∧ 40 ≤ R.locals) : CallOK l D cy R RX11 (.invokespecial 9) 2 308 (spI 0 SP_X9_init) := call_IN (con_X9_init l D cy) (List.mem_append_right _ (List.mem_append_left _ (List.mem_of_getElem? (i := 26) rfl))) (lwG_1 (i := 27) rfl rfl) (lwG_1 (i := 2) rfl rfl) (lwG_1 (i := 28) rfl rfl) rfl ⟨by decide, by decide, rfl⟩ ⟨rfl, rfl⟩ hR
theorem nw_X11_16 : Cond.classLink RX11 16 (Rk 5) ∈ lwG ∧ Cond.instantiable (Rk 5) (Nk 5) ∈ lwG ∧ Cond.initialized (Rk 5) ∈ lwG := ⟨lwG_1 (i := 46) rfl rfl, lwG_1 (i := 47) rfl rfl, lwG_1 (i := 3) rfl rfl⟩
theorem ck_X11_18 {l : Launch} {D : va_G} {cy : Nat → ClassId} {R : Room} (hR : 4 ≤ R.frames ∧ 84 ≤ R.locals) : CallOK l D cy R RX11 (.invokespecial 18) 82 364 (spI 0 SP_X5_init) := call_I (con_X5_init l D cy) (lwG_1 (i := 48) rfl rfl) (lwG_1 (i := 49) rfl rfl) (lwG_1 (i := 3) rfl rfl) (lwG_1 (i := 50) rfl rfl) rfl ⟨by decide, by decide, rfl⟩ ⟨rfl, rfl⟩ hR
theorem nw_X11_26 : Cond.classLink RX11 26 (Rk 1) ∈ lwG ∧ Cond.instantiable (Rk 1) (Nk 1) ∈ lwG ∧ Cond.initialized (Rk 1) ∈ lwG := ⟨lwG_1 (i := 153) rfl rfl, lwG_1 (i := 154) rfl rfl, lwG_1 (i := 7) rfl rfl⟩
theorem ck_X11_28 {l : Launch} {D : va_G} {cy : Nat → ClassId} {R : Room} (hR : 3 ≤ R.frames ∧ 62 ≤ R.locals) : CallOK l D cy R RX11 (.invokespecial 28) 38 258 (spI 0 SP_X1_init) := call_I (con_X1_init l D cy) (lwG_1 (i := 155) rfl rfl) (lwG_1 (i := 156) rfl rfl) (lwG_1 (i := 7) rfl rfl) (lwG_1 (i := 157) rfl rfl) rfl ⟨by decide, by decide, rfl⟩ ⟨rfl, rfl⟩ hR
theorem nw_X11_33 : Cond.classLink RX11 33 (Rk 6) ∈ lwG ∧ Cond.instantiable (Rk 6) (Nk 6) ∈ lwG ∧ Cond.initialized (Rk 6) ∈ lwG := ⟨lwG_1 (i := 216) rfl rfl, lwG_1 (i := 217) rfl rfl, lwG_1 (i := 9) rfl rfl⟩
theorem ck_X11_35 {l : Launch} {D : va_G} {cy : Nat → ClassId} {R : Room} (hR : 2 ≤ R.frames ∧ 40 ≤ R.locals) : CallOK l D cy R RX11 (.invokespecial 35) 5 48 (spI 0 SP_X6_init) := call_IN (con_X6_init l D cy) (List.mem_append_right _ (List.mem_append_left _ (List.mem_of_getElem? (i := 218) rfl))) (lwG_1 (i := 219) rfl rfl) (lwG_1 (i := 9) rfl rfl) (lwG_1 (i := 220) rfl rfl) rfl ⟨by decide, by decide, rfl⟩ ⟨rfl, rfl⟩ hR
theorem nw_X11_40 : Cond.classLink RX11 40 (Rk 2) ∈ lwG ∧ Cond.instantiable (Rk 2) (Nk 2) ∈ lwG ∧ Cond.initialized (Rk 2) ∈ lwG := ⟨lwG_2 (i := 9) rfl rfl, lwG_2 (i := 10) rfl rfl, lwG_1 (i := 10) rfl rfl⟩
theorem ck_X11_42 {l : Launch} {D : va_G} {cy : Nat → ClassId} {R : Room} (hR : 2 ≤ R.frames ∧ 40 ≤ R.locals) : CallOK l D cy R RX11 (.invokespecial 42) 2 6 (spI 0 SP_X2_init) := call_IN (con_X2_init l D cy) (List.mem_append_right _ (List.mem_append_right _ (List.mem_append_left _ (List.mem_of_getElem? (i := 11) rfl)))) (lwG_2 (i := 12) rfl rfl) (lwG_1 (i := 10) rfl rfl) (lwG_2 (i := 13) rfl rfl) rfl ⟨by decide, by decide, rfl⟩ ⟨rfl, rfl⟩ hR
theorem nw_X11_47 : Cond.classLink RX11 47 (Rk 7) ∈ lwG ∧ Cond.instantiable (Rk 7) (Nk 7) ∈ lwG ∧ Cond.initialized (Rk 7) ∈ lwG := ⟨lwG_2 (i := 30) rfl rfl, lwG_2 (i := 31) rfl rfl, lwG_1 (i := 11) rfl rfl⟩
theorem ck_X11_49 {l : Launch} {D : va_G} {cy : Nat → ClassId} {R : Room} (hR : 2 ≤ R.frames ∧ 40 ≤ R.locals) : CallOK l D cy R RX11 (.invokespecial 49) 1 16 (spI 0 SP_X7_init) := call_IN (con_X7_init l D cy) (List.mem_append_right _ (List.mem_append_right _ (List.mem_append_left _ (List.mem_of_getElem? (i := 32) rfl)))) (lwG_2 (i := 33) rfl rfl) (lwG_1 (i := 11) rfl rfl) (lwG_2 (i := 34) rfl rfl) rfl ⟨by decide, by decide, rfl⟩ ⟨rfl, rfl⟩ hR
theorem nw_X11_54 : Cond.classLink RX11 54 (Rk 10) ∈ lwG ∧ Cond.instantiable (Rk 10) (Nk 10) ∈ lwG ∧ Cond.initialized (Rk 10) ∈ lwG := ⟨lwG_2 (i := 40) rfl rfl, lwG_2 (i := 41) rfl rfl, lwG_1 (i := 12) rfl rfl⟩
theorem ck_X11_56 {l : Launch} {D : va_G} {cy : Nat → ClassId} {R : Room} (hR : 2 ≤ R.frames ∧ 40 ≤ R.locals) : CallOK l D cy R RX11 (.invokespecial 56) 0 0 (spI 0 SP_X10_init) := call_IN (con_X10_init l D cy) (List.mem_append_right _ (List.mem_append_right _ (List.mem_append_left _ (List.mem_of_getElem? (i := 42) rfl)))) (lwG_2 (i := 43) rfl rfl) (lwG_1 (i := 12) rfl rfl) (lwG_2 (i := 44) rfl rfl) rfl ⟨by decide, by decide, rfl⟩ ⟨rfl, rfl⟩ hR
section W_X11_init
variable {p : Program} {l : Launch} {e : Env} {s : State} {m : MethodId} {args : Array Value} {below : List Frame} {meth : Method} {c : Code} {D : va_G} {cy : Nat → ClassId} {G : Nat × Nat} {n0 : Nat} {Qp : Option PV → Mm → Prop}
set_option maxRecDepth 100000 in
set_option maxHeartbeats 4000000 in
theorem k_X11_init_0 {o0 : Nat} {M : Mm} {Q : Mm → Prop} (C : Cx p s m args meth c cX11_init 1 RX11 D cy G n0) (hr : meth.sig.returnType = none) (hin : meth.name = "<init>") (hQ : ∀ M, Q M → Qp none M) (h : P_X11_init o0 M n0 Q ) : WW p l e ({ frames := 4, cells := 220, slots := 1397, locals := 84 }) s m args below meth c (ZQ below args s D cy G n0 Qp (n0 + 220)) 1 D cy G n0 0 [(0, vR (some o0))] [] M := by
  unfold P_X11_init at h
  refine w_aload_n C dX11_init_0 rfl (mem_k 0 rfl) ?_
  refine x_call (as := [vR (some o0)]) (ck_X11_1 ⟨by decide, by decide⟩) C dX11_init_1 rfl (Nat.le_of_ble_eq_true rfl) (fun v M' => v = none ∧ M = M') ⟨⟨_, rfl⟩, rfl, rfl⟩ (h.1) (h.2.1) rfl ?_
  rintro _ _ ⟨rfl, rfl⟩ -
  replace h := h.2.2
  refine w_aload_n C dX11_init_4 rfl (mem_k 0 rfl) ?_
  obtain ⟨q1, q2, q3, q4, h⟩ := h
  refine w_new (ci := 9) C dX11_init_5 nw_X11_7.1 nw_X11_7.2.1 nw_X11_7.2.2 (by decide) q1 q2 q3 q4 ?_
  obtain ⟨M1, eM1⟩ : ∃ z : Mm, z = newM M := ⟨_, rfl⟩
  rw [← eM1]
  replace h := h M1 eM1
  refine w_dup C dX11_init_8 rfl ?_
  obtain ⟨o2, g3, h⟩ := h
  obtain ⟨q1, q2, q3, h⟩ := h
  refine cl_X9_init (ck_X11_9 ⟨by decide, by decide⟩) C dX11_init_9 (Nat.le_of_ble_eq_true rfl) g3 q1 q2 q3 h (fun M4 h hm => ?_)
  replace h := h hm
  obtain ⟨g5, h⟩ := h
  refine x_putR C dX11_init_12 fw_X11_10 g5 (Or.inr ⟨hin, rfl⟩) (fun M6 eM6 hn7 => ?_)
  replace h := h M6 eM6
  refine w_aload_n C dX11_init_15 rfl (mem_k 0 rfl) ?_
  obtain ⟨q1, q2, q3, q4, h⟩ := h
  refine w_new (ci := 5) C dX11_init_16 nw_X11_16.1 nw_X11_16.2.1 nw_X11_16.2.2 (by decide) q1 q2 q3 q4 ?_
  obtain ⟨M8, eM8⟩ : ∃ z : Mm, z = newM M6 := ⟨_, rfl⟩
  rw [← eM8]
  replace h := h M8 eM8
  refine w_dup C dX11_init_19 rfl ?_
  obtain ⟨o9, g10, h⟩ := h
  obtain ⟨q1, q2, q3, h⟩ := h
  refine cl_X5_init (ck_X11_18 ⟨by decide, by decide⟩) C dX11_init_20 (Nat.le_of_ble_eq_true rfl) g10 q1 q2 q3 h (fun M11 h hm => ?_)
  replace h := h hm
  obtain ⟨g12, h⟩ := h
  refine x_putR C dX11_init_23 fw_X11_19 g12 (Or.inl rfl) (fun M13 eM13 hn14 => ?_)
  replace h := h M13 eM13
  refine w_aload_n C dX11_init_26 rfl (mem_k 0 rfl) ?_
  obtain ⟨q1, q2, q3, q4, h⟩ := h
  refine w_new (ci := 5) C dX11_init_27 nw_X11_16.1 nw_X11_16.2.1 nw_X11_16.2.2 (by decide) q1 q2 q3 q4 ?_
  obtain ⟨M15, eM15⟩ : ∃ z : Mm, z = newM M13 := ⟨_, rfl⟩
  rw [← eM15]
  replace h := h M15 eM15
  refine w_dup C dX11_init_30 rfl ?_
  obtain ⟨o16, g17, h⟩ := h
  obtain ⟨q1, q2, q3, h⟩ := h
  refine cl_X5_init (ck_X11_18 ⟨by decide, by decide⟩) C dX11_init_31 (Nat.le_of_ble_eq_true rfl) g17 q1 q2 q3 h (fun M18 h hm => ?_)
  replace h := h hm
  obtain ⟨g19, h⟩ := h
  refine x_putR C dX11_init_34 fw_X11_23 g19 (Or.inl rfl) (fun M20 eM20 hn21 => ?_)
  replace h := h M20 eM20
  refine w_aload_n C dX11_init_37 rfl (mem_k 0 rfl) ?_
  obtain ⟨q1, q2, q3, q4, h⟩ := h
  refine w_new (ci := 1) C dX11_init_38 nw_X11_26.1 nw_X11_26.2.1 nw_X11_26.2.2 (by decide) q1 q2 q3 q4 ?_
  obtain ⟨M22, eM22⟩ : ∃ z : Mm, z = newM M20 := ⟨_, rfl⟩
  rw [← eM22]
  replace h := h M22 eM22
  refine w_dup C dX11_init_41 rfl ?_
  obtain ⟨o23, g24, h⟩ := h
  obtain ⟨q1, q2, q3, h⟩ := h
  refine cl_X1_init (ck_X11_28 ⟨by decide, by decide⟩) C dX11_init_42 (Nat.le_of_ble_eq_true rfl) g24 q1 q2 q3 h (fun M25 h hm => ?_)
  replace h := h hm
  obtain ⟨g26, h⟩ := h
  refine x_putR C dX11_init_45 fw_X11_29 g26 (Or.inr ⟨hin, rfl⟩) (fun M27 eM27 hn28 => ?_)
  replace h := h M27 eM27
  refine w_aload_n C dX11_init_48 rfl (mem_k 0 rfl) ?_
  obtain ⟨q1, q2, q3, q4, h⟩ := h
  refine w_new (ci := 6) C dX11_init_49 nw_X11_33.1 nw_X11_33.2.1 nw_X11_33.2.2 (by decide) q1 q2 q3 q4 ?_
  obtain ⟨M29, eM29⟩ : ∃ z : Mm, z = newM M27 := ⟨_, rfl⟩
  rw [← eM29]
  replace h := h M29 eM29
  refine w_dup C dX11_init_52 rfl ?_
  obtain ⟨o30, g31, h⟩ := h
  obtain ⟨q1, q2, q3, h⟩ := h
  refine cl_X6_init (ck_X11_35 ⟨by decide, by decide⟩) C dX11_init_53 (Nat.le_of_ble_eq_true rfl) g31 q1 q2 q3 h (fun M32 h hm => ?_)
  replace h := h hm
  obtain ⟨g33, h⟩ := h
  refine x_putR C dX11_init_56 fw_X11_36 g33 (Or.inr ⟨hin, rfl⟩) (fun M34 eM34 hn35 => ?_)
  replace h := h M34 eM34
  refine w_aload_n C dX11_init_59 rfl (mem_k 0 rfl) ?_
  obtain ⟨q1, q2, q3, q4, h⟩ := h
  refine w_new (ci := 2) C dX11_init_60 nw_X11_40.1 nw_X11_40.2.1 nw_X11_40.2.2 (by decide) q1 q2 q3 q4 ?_
  obtain ⟨M36, eM36⟩ : ∃ z : Mm, z = newM M34 := ⟨_, rfl⟩
  rw [← eM36]
  replace h := h M36 eM36
  refine w_dup C dX11_init_63 rfl ?_
  obtain ⟨o37, g38, h⟩ := h
  obtain ⟨q1, q2, q3, h⟩ := h
  refine cl_X2_init (ck_X11_42 ⟨by decide, by decide⟩) C dX11_init_64 (Nat.le_of_ble_eq_true rfl) g38 q1 q2 q3 h (fun M39 h hm => ?_)
  replace h := h hm
  obtain ⟨g40, h⟩ := h
  refine x_putR C dX11_init_67 fw_X11_43 g40 (Or.inr ⟨hin, rfl⟩) (fun M41 eM41 hn42 => ?_)
  replace h := h M41 eM41
  refine w_aload_n C dX11_init_70 rfl (mem_k 0 rfl) ?_
  obtain ⟨q1, q2, q3, q4, h⟩ := h
  refine w_new (ci := 7) C dX11_init_71 nw_X11_47.1 nw_X11_47.2.1 nw_X11_47.2.2 (by decide) q1 q2 q3 q4 ?_
  obtain ⟨M43, eM43⟩ : ∃ z : Mm, z = newM M41 := ⟨_, rfl⟩
  rw [← eM43]
  replace h := h M43 eM43
  refine w_dup C dX11_init_74 rfl ?_
  obtain ⟨o44, g45, h⟩ := h
  obtain ⟨q1, q2, q3, h⟩ := h
  refine cl_X7_init (ck_X11_49 ⟨by decide, by decide⟩) C dX11_init_75 (Nat.le_of_ble_eq_true rfl) g45 q1 q2 q3 h (fun M46 h hm => ?_)
  replace h := h hm
  obtain ⟨g47, h⟩ := h
  refine x_putR C dX11_init_78 fw_X11_50 g47 (Or.inr ⟨hin, rfl⟩) (fun M48 eM48 hn49 => ?_)
  replace h := h M48 eM48
  refine w_aload_n C dX11_init_81 rfl (mem_k 0 rfl) ?_
  obtain ⟨q1, q2, q3, q4, h⟩ := h
  refine w_new (ci := 10) C dX11_init_82 nw_X11_54.1 nw_X11_54.2.1 nw_X11_54.2.2 (by decide) q1 q2 q3 q4 ?_
  obtain ⟨M50, eM50⟩ : ∃ z : Mm, z = newM M48 := ⟨_, rfl⟩
  rw [← eM50]
  replace h := h M50 eM50
  refine w_dup C dX11_init_85 rfl ?_
  obtain ⟨o51, g52, h⟩ := h
  obtain ⟨q1, q2, q3, h⟩ := h
  refine cl_X10_init (ck_X11_56 ⟨by decide, by decide⟩) C dX11_init_86 (Nat.le_of_ble_eq_true rfl) g52 q1 q2 q3 h (fun M53 h hm => ?_)
  replace h := h hm
  obtain ⟨g54, h⟩ := h
  refine x_putR C dX11_init_89 fw_X11_57 g54 (Or.inr ⟨hin, rfl⟩) (fun M55 eM55 hn56 => ?_)
  replace h := h M55 eM55
  obtain ⟨hn, h⟩ := h
  exact x_vret C hr dX11_init_92 hn (hQ M55 h)
set_option maxRecDepth 100000 in
set_option maxHeartbeats 4000000 in
theorem con_X11_init (l : Launch) (D : va_G) (cy : Nat → ClassId) : Con l D cy yX11_init cX11_init 1 (none) ({ frames := 4, cells := 220, slots := 1397, locals := 84 }) 220 1397 SP_X11_init := by
  refine con_of (by decide) (fun as M Qp h => ?_) ?_
  · obtain ⟨o0, rfl, -⟩ := h
    exact Nat.le_of_ble_eq_true rfl
  · intro p e s m args below meth c G as M Qp h C hr hnm
    obtain ⟨o0, rfl, ho1, ho2, Q0, hQ, h⟩ := h
    refine x_pick (L' := [(0, vR (some o0))]) [0] rfl ?_
    exact k_X11_init_0 C hr hnm hQ h
set_option maxRecDepth 100000 in
set_option maxHeartbeats 4000000 in
theorem cl_X11_init {p : Program} {l : Launch} {e : Env} {R : Room} {s : State} {m : MethodId} {args : Array Value} {below : List Frame} {meth : Method} {c : Code} {Q : State → Prop} {cc : ByteArray} {nL : Nat} {own : String} {D : va_G} {cy : Nat → ClassId} {G : Nat × Nat} {n0 pc : Nat} {L : List (Nat × PV)} {st : List PV} {M : Mm} {op : Instr} (K : CallOK l D cy R own op 220 1397 (spI 0 SP_X11_init)) (C : Cx p s m args meth c cc nL own D cy G n0) (hd : decode cc pc = .ok (op, 3)) (hlen : argN st ≤ 8) {r : Option Nat} {o0 : Nat} (ho : isOn 11 M.2.2.2 r o0)  (q1 : M.2.2.2 + 220 - n0 ≤ R.cells) (q2 : SL (M.2.2.2 + 220) - SL n0 ≤ R.slots) (q3 : SL (M.2.2.2 + 220) = SL M.2.2.2 + 1397) {Q0 : Mm → Prop} (h : P_X11_init o0 M M.2.2.2 Q0) (k : ∀ M2, Q0 M2 → M2.2.2.2 = M.2.2.2 + 220 → WW p l e R s m args below meth c Q nL D cy G n0  (pc + 3) L (st) M2) : WW p l e R s m args below meth c Q nL D cy G n0  pc L (vR r :: st) M := by
  obtain ⟨rfl, ho1, ho2⟩ := ho
  refine x_call K C hd (as := [vR (some o0)]) rfl hlen (fun v M2 => v = none ∧ Q0 M2) ⟨⟨o0, [], rfl, rfl⟩, o0, rfl, ho1, ho2, Q0, fun M2 hx => ⟨rfl, hx⟩, h⟩ q1 q2 q3 ?_
  rintro _ _ ⟨rfl, hx⟩ hm
  exact k _ hx hm
end W_X11_init
theorem dX12_init_0 : decode cX12_init 0 = .ok (.aload_n 0, 1) := by decide +kernel
theorem dX12_init_1 : decode cX12_init 1 = .ok (.invokespecial 1, 3) := by decide +kernel
theorem dX12_init_4 : decode cX12_init 4 = .ok (.aload_n 0, 1) := by decide +kernel
theorem dX12_init_5 : decode cX12_init 5 = .ok (.sipush 300, 3) := by decide +kernel
theorem dX12_init_8 : decode cX12_init 8 = .ok (.newarray .int, 2) := by decide +kernel
theorem dX12_init_10 : decode cX12_init 10 = .ok (.putfield 7, 3) := by decide +kernel
theorem dX12_init_13 : decode cX12_init 13 = .ok (.aload_n 0, 1) := by decide +kernel
theorem dX12_init_14 : decode cX12_init 14 = .ok (.iconst 2, 1) := by decide +kernel
theorem dX12_init_15 : decode cX12_init 15 = .ok (.newarray .int, 2) := by decide +kernel
theorem dX12_init_17 : decode cX12_init 17 = .ok (.putfield 13, 3) := by decide +kernel
theorem dX12_init_20 : decode cX12_init 20 = .ok (.aload_n 0, 1) := by decide +kernel
theorem dX12_init_21 : decode cX12_init 21 = .ok (.bipush 16, 2) := by decide +kernel
theorem dX12_init_23 : decode cX12_init 23 = .ok (.newarray .int, 2) := by decide +kernel
theorem dX12_init_25 : decode cX12_init 25 = .ok (.putfield 16, 3) := by decide +kernel
theorem dX12_init_28 : decode cX12_init 28 = .ok (.aload_n 0, 1) := by decide +kernel
theorem dX12_init_29 : decode cX12_init 29 = .ok (.sipush 128, 3) := by decide +kernel
theorem dX12_init_32 : decode cX12_init 32 = .ok (.newarray .int, 2) := by decide +kernel
theorem dX12_init_34 : decode cX12_init 34 = .ok (.putfield 19, 3) := by decide +kernel
theorem dX12_init_37 : decode cX12_init 37 = .ok (.aload_n 0, 1) := by decide +kernel
theorem dX12_init_38 : decode cX12_init 38 = .ok (.bipush 64, 2) := by decide +kernel
theorem dX12_init_40 : decode cX12_init 40 = .ok (.newarray .int, 2) := by decide +kernel
theorem dX12_init_42 : decode cX12_init 42 = .ok (.putfield 22, 3) := by decide +kernel
theorem dX12_init_45 : decode cX12_init 45 = .ok (.aload_n 0, 1) := by decide +kernel
theorem dX12_init_46 : decode cX12_init 46 = .ok (.iconst 2, 1) := by decide +kernel
theorem dX12_init_47 : decode cX12_init 47 = .ok (.newarray .int, 2) := by decide +kernel
theorem dX12_init_49 : decode cX12_init 49 = .ok (.putfield 25, 3) := by decide +kernel
theorem dX12_init_52 : decode cX12_init 52 = .ok (.aload_n 0, 1) := by decide +kernel
theorem dX12_init_53 : decode cX12_init 53 = .ok (.bipush 48, 2) := by decide +kernel
theorem dX12_init_55 : decode cX12_init 55 = .ok (.newarray .int, 2) := by decide +kernel
theorem dX12_init_57 : decode cX12_init 57 = .ok (.putfield 28, 3) := by decide +kernel
theorem dX12_init_60 : decode cX12_init 60 = .ok (.aload_n 0, 1) := by decide +kernel
theorem dX12_init_61 : decode cX12_init 61 = .ok (.bipush 12, 2) := by decide +kernel
theorem dX12_init_63 : decode cX12_init 63 = .ok (.newarray .int, 2) := by decide +kernel
theorem dX12_init_65 : decode cX12_init 65 = .ok (.putfield 31, 3) := by decide +kernel
theorem dX12_init_68 : decode cX12_init 68 = .ok (.aload_n 0, 1) := by decide +kernel
theorem dX12_init_69 : decode cX12_init 69 = .ok (.sipush 216, 3) := by decide +kernel
theorem dX12_init_72 : decode cX12_init 72 = .ok (.newarray .int, 2) := by decide +kernel
theorem dX12_init_74 : decode cX12_init 74 = .ok (.putfield 34, 3) := by decide +kernel
theorem dX12_init_77 : decode cX12_init 77 = .ok (.aload_n 0, 1) := by decide +kernel
theorem dX12_init_78 : decode cX12_init 78 = .ok (.bipush 36, 2) := by decide +kernel
theorem dX12_init_80 : decode cX12_init 80 = .ok (.newarray .int, 2) := by decide +kernel
theorem dX12_init_82 : decode cX12_init 82 = .ok (.putfield 37, 3) := by decide +kernel
theorem dX12_init_85 : decode cX12_init 85 = .ok (.aload_n 0, 1) := by decide +kernel
theorem dX12_init_86 : decode cX12_init 86 = .ok (.bipush 6, 2) := by decide +kernel
theorem dX12_init_88 : decode cX12_init 88 = .ok (.newarray .int, 2) := by decide +kernel
theorem dX12_init_90 : decode cX12_init 90 = .ok (.putfield 40, 3) := by decide +kernel
theorem dX12_init_93 : decode cX12_init 93 = .ok (.aload_n 0, 1) := by decide +kernel
theorem dX12_init_94 : decode cX12_init 94 = .ok (.bipush 72, 2) := by decide +kernel
theorem dX12_init_96 : decode cX12_init 96 = .ok (.newarray .int, 2) := by decide +kernel
theorem dX12_init_98 : decode cX12_init 98 = .ok (.putfield 43, 3) := by decide +kernel
theorem dX12_init_101 : decode cX12_init 101 = .ok (.aload_n 0, 1) := by decide +kernel
theorem dX12_init_102 : decode cX12_init 102 = .ok (.bipush 72, 2) := by decide +kernel
theorem dX12_init_104 : decode cX12_init 104 = .ok (.newarray .int, 2) := by decide +kernel
theorem dX12_init_106 : decode cX12_init 106 = .ok (.putfield 46, 3) := by decide +kernel
theorem dX12_init_109 : decode cX12_init 109 = .ok (.aload_n 0, 1) := by decide +kernel
theorem dX12_init_110 : decode cX12_init 110 = .ok (.bipush 72, 2) := by decide +kernel
theorem dX12_init_112 : decode cX12_init 112 = .ok (.newarray .int, 2) := by decide +kernel
theorem dX12_init_114 : decode cX12_init 114 = .ok (.putfield 49, 3) := by decide +kernel
theorem dX12_init_117 : decode cX12_init 117 = .ok (.aload_n 0, 1) := by decide +kernel
theorem dX12_init_118 : decode cX12_init 118 = .ok (.bipush 60, 2) := by decide +kernel
theorem dX12_init_120 : decode cX12_init 120 = .ok (.putfield 52, 3) := by decide +kernel
theorem dX12_init_123 : decode cX12_init 123 = .ok (.aload_n 0, 1) := by decide +kernel
theorem dX12_init_124 : decode cX12_init 124 = .ok (.sipush 300, 3) := by decide +kernel
theorem dX12_init_127 : decode cX12_init 127 = .ok (.putfield 56, 3) := by decide +kernel
theorem dX12_init_130 : decode cX12_init 130 = .ok (.aload_n 0, 1) := by decide +kernel
theorem dX12_init_131 : decode cX12_init 131 = .ok (.bipush 50, 2) := by decide +kernel
theorem dX12_init_133 : decode cX12_init 133 = .ok (.putfield 59, 3) := by decide +kernel
theorem dX12_init_136 : decode cX12_init 136 = .ok (.aload_n 0, 1) := by decide +kernel
theorem dX12_init_137 : decode cX12_init 137 = .ok (.bipush 16, 2) := by decide +kernel
theorem dX12_init_139 : decode cX12_init 139 = .ok (.newarray .int, 2) := by decide +kernel
theorem dX12_init_141 : decode cX12_init 141 = .ok (.putfield 62, 3) := by decide +kernel
theorem dX12_init_144 : decode cX12_init 144 = .ok (.aload_n 0, 1) := by decide +kernel
theorem dX12_init_145 : decode cX12_init 145 = .ok (.bipush 8, 2) := by decide +kernel
theorem dX12_init_147 : decode cX12_init 147 = .ok (.newarray .int, 2) := by decide +kernel
theorem dX12_init_149 : decode cX12_init 149 = .ok (.putfield 65, 3) := by decide +kernel
theorem dX12_init_152 : decode cX12_init 152 = .ok (.aload_n 0, 1) := by decide +kernel
theorem dX12_init_153 : decode cX12_init 153 = .ok (.bipush 6, 2) := by decide +kernel
theorem dX12_init_155 : decode cX12_init 155 = .ok (.newarray .int, 2) := by decide +kernel
theorem dX12_init_157 : decode cX12_init 157 = .ok (.putfield 68, 3) := by decide +kernel
theorem dX12_init_160 : decode cX12_init 160 = .ok (.aload_n 0, 1) := by decide +kernel
theorem dX12_init_161 : decode cX12_init 161 = .ok (.bipush 12, 2) := by decide +kernel
theorem dX12_init_163 : decode cX12_init 163 = .ok (.newarray .int, 2) := by decide +kernel
theorem dX12_init_165 : decode cX12_init 165 = .ok (.putfield 71, 3) := by decide +kernel
theorem dX12_init_168 : decode cX12_init 168 = .ok (.aload_n 0, 1) := by decide +kernel
theorem dX12_init_169 : decode cX12_init 169 = .ok (.iconst 3, 1) := by decide +kernel
theorem dX12_init_170 : decode cX12_init 170 = .ok (.newarray .int, 2) := by decide +kernel
theorem dX12_init_172 : decode cX12_init 172 = .ok (.putfield 74, 3) := by decide +kernel
theorem dX12_init_175 : decode cX12_init 175 = .ok (.aload_n 0, 1) := by decide +kernel
theorem dX12_init_176 : decode cX12_init 176 = .ok (.iconst 3, 1) := by decide +kernel
theorem dX12_init_177 : decode cX12_init 177 = .ok (.newarray .int, 2) := by decide +kernel
theorem dX12_init_179 : decode cX12_init 179 = .ok (.putfield 77, 3) := by decide +kernel
theorem dX12_init_182 : decode cX12_init 182 = .ok (.aload_n 0, 1) := by decide +kernel
theorem dX12_init_183 : decode cX12_init 183 = .ok (.bipush 6, 2) := by decide +kernel
theorem dX12_init_185 : decode cX12_init 185 = .ok (.newarray .int, 2) := by decide +kernel
theorem dX12_init_187 : decode cX12_init 187 = .ok (.putfield 80, 3) := by decide +kernel
theorem dX12_init_190 : decode cX12_init 190 = .ok (.iconst 0, 1) := by decide +kernel
theorem dX12_init_191 : decode cX12_init 191 = .ok (.istore_n 1, 1) := by decide +kernel
theorem dX12_init_192 : decode cX12_init 192 = .ok (.iload_n 1, 1) := by decide +kernel
theorem dX12_init_193 : decode cX12_init 193 = .ok (.bipush 72, 2) := by decide +kernel
theorem dX12_init_195 : decode cX12_init 195 = .ok (.if_icmp .ge 17, 3) := by decide +kernel
theorem dX12_init_198 : decode cX12_init 198 = .ok (.aload_n 0, 1) := by decide +kernel
theorem dX12_init_199 : decode cX12_init 199 = .ok (.getfield 49, 3) := by decide +kernel
theorem dX12_init_202 : decode cX12_init 202 = .ok (.iload_n 1, 1) := by decide +kernel
theorem dX12_init_203 : decode cX12_init 203 = .ok (.bipush (-4), 2) := by decide +kernel
theorem dX12_init_205 : decode cX12_init 205 = .ok (.iastore, 1) := by decide +kernel
theorem dX12_init_206 : decode cX12_init 206 = .ok (.iinc 1 1, 3) := by decide +kernel
theorem dX12_init_209 : decode cX12_init 209 = .ok (.goto (-17), 3) := by decide +kernel
theorem dX12_init_212 : decode cX12_init 212 = .ok (.return_, 1) := by decide +kernel
theorem ck_X12_1 {l : Launch} {D : va_G} {cy : Nat → ClassId} {R : Room} (hR : 1 ≤ R.frames ∧ 20 ≤ R.locals) : CallOK l D cy R RX12 (.invokespecial 1) 0 0 spObj := call_O (lwG_4 (i := 63) rfl rfl) (lwG_1 (i := 22) rfl rfl) (lwG_1 (i := 23) rfl rfl) hR
section W_X12_init
variable {p : Program} {l : Launch} {e : Env} {s : State} {m : MethodId} {args : Array Value} {below : List Frame} {meth : Method} {c : Code} {D : va_G} {cy : Nat → ClassId} {G : Nat × Nat} {n0 : Nat} {Qp : Option PV → Mm → Prop}
set_option maxRecDepth 100000 in
set_option maxHeartbeats 4000000 in
theorem f_X12_init_192 {o0 : Nat} {x1 : Int} {M : Mm} {Q : Mm → Prop} {K192 : Int × Mm → Prop} (C : Cx p s m args meth c cX12_init 2 RX12 D cy G n0) (hr : meth.sig.returnType = none) (hin : meth.name = "<init>") (hQ : ∀ M, Q M → Qp none M) (hK192 : ∀ (x1 : Int) (M : Mm), K192 (x1, M) → WW p l e ({ frames := 1, cells := 21, slots := 1100, locals := 20 }) s m args below meth c (ZQ below args s D cy G n0 Qp (n0 + 21)) 2 D cy G n0 192 [(0, vR (some o0)), (1, vI x1)] [] M) (h : F_X12_init_192 o0 n0 Q  K192 x1 M) : WW p l e ({ frames := 1, cells := 21, slots := 1100, locals := 20 }) s m args below meth c (ZQ below args s D cy G n0 Qp (n0 + 21)) 2 D cy G n0 192 [(0, vR (some o0)), (1, vI x1)] [] M := by
  unfold F_X12_init_192 at h
  refine w_iload_n C dX12_init_192 rfl (mem_k 1 rfl) ?_
  refine w_bipush C dX12_init_193 (by decide) ?_
  refine w_icmp_ge (tgt := 212) C dX12_init_195 (by decide) (fun q => ?_) (fun q => ?_)
  · replace h := h.1 q
    obtain ⟨hn, h⟩ := h
    exact x_vret C hr dX12_init_212 hn (hQ M h)
  · replace h := h.2 q
    refine w_aload_n C dX12_init_198 rfl (mem_k 0 rfl) ?_
    obtain ⟨g1, h⟩ := h
    refine x_getR C dX12_init_199 fw_X12_49 g1 (fun r2 er2 => ?_)
    replace h := h r2 er2
    refine w_iload_n C dX12_init_202 rfl (mem_k 1 rfl) ?_
    refine w_bipush C dX12_init_203 (by decide) ?_
    obtain ⟨o3, g4, h⟩ := h
    refine x_iast C dX12_init_205 g4 (fun M5 eM5 hn6 => ?_)
    replace h := h M5 eM5
    obtain ⟨v7, ev7⟩ : ∃ z : Int, z = x1 + 1 := ⟨_, rfl⟩
    refine x_iinc (L' := [(1, vI v7), (0, vR (some o0))]) C dX12_init_206 (mem_k 1 rfl) (by decide) h.1 ev7 rfl ?_
    replace h := h.2 v7 ev7
    refine w_goto (tgt := 192) C dX12_init_209 (by decide) ?_
    refine x_pc (pc2 := 192) rfl ?_
    refine x_pick (L' := [(0, vR (some o0)), (1, vI v7)]) [1, 0] rfl ?_
    exact hK192 v7 M5 h
set_option maxRecDepth 100000 in
set_option maxHeartbeats 4000000 in
theorem k_X12_init_192 {o0 : Nat} {x1 : Int} {M : Mm} {Q : Mm → Prop} (C : Cx p s m args meth c cX12_init 2 RX12 D cy G n0) (hr : meth.sig.returnType = none) (hin : meth.name = "<init>") (hQ : ∀ M, Q M → Qp none M) (h : P_X12_init_192 o0 x1 M n0 Q ) : WW p l e ({ frames := 1, cells := 21, slots := 1100, locals := 20 }) s m args below meth c (ZQ below args s D cy G n0 Qp (n0 + 21)) 2 D cy G n0 192 [(0, vR (some o0)), (1, vI x1)] [] M := by
  refine lpW_sound (P := fun y : Int × Mm => WW p l e ({ frames := 1, cells := 21, slots := 1100, locals := 20 }) s m args below meth c (ZQ below args s D cy G n0 Qp (n0 + 21)) 2 D cy G n0 192 [(0, vR (some o0)), (1, vI y.1)] [] y.2) ?_ h
  intro K y hK hF
  obtain ⟨x1, M⟩ := y
  exact f_X12_init_192 C hr hin hQ  (fun x1 M hk => hK (x1, M) hk) hF
set_option maxRecDepth 100000 in
set_option maxHeartbeats 4000000 in
theorem k_X12_init_0 {o0 : Nat} {M : Mm} {Q : Mm → Prop} (C : Cx p s m args meth c cX12_init 2 RX12 D cy G n0) (hr : meth.sig.returnType = none) (hin : meth.name = "<init>") (hQ : ∀ M, Q M → Qp none M) (h : P_X12_init o0 M n0 Q ) : WW p l e ({ frames := 1, cells := 21, slots := 1100, locals := 20 }) s m args below meth c (ZQ below args s D cy G n0 Qp (n0 + 21)) 2 D cy G n0 0 [(0, vR (some o0))] [] M := by
  unfold P_X12_init at h
  refine w_aload_n C dX12_init_0 rfl (mem_k 0 rfl) ?_
  refine x_call (as := [vR (some o0)]) (ck_X12_1 ⟨by decide, by decide⟩) C dX12_init_1 rfl (Nat.le_of_ble_eq_true rfl) (fun v M' => v = none ∧ M = M') ⟨⟨_, rfl⟩, rfl, rfl⟩ (h.1) (h.2.1) rfl ?_
  rintro _ _ ⟨rfl, rfl⟩ -
  replace h := h.2.2
  refine w_aload_n C dX12_init_4 rfl (mem_k 0 rfl) ?_
  refine w_sipush C dX12_init_5 (by decide) ?_
  obtain ⟨q1, q2, q3, q4, h⟩ := h
  refine w_newi (n := 300) C dX12_init_8 ac_I q1 q2 (by decide) q3 q4 ?_
  obtain ⟨M8, eM8⟩ : ∃ z : Mm, z = newM M := ⟨_, rfl⟩
  rw [← eM8]
  replace h := h M8 eM8
  obtain ⟨g9, h⟩ := h
  refine x_putR C dX12_init_10 fw_X12_7 g9 (Or.inr ⟨hin, rfl⟩) (fun M10 eM10 hn11 => ?_)
  replace h := h M10 eM10
  refine w_aload_n C dX12_init_13 rfl (mem_k 0 rfl) ?_
  refine w_iconst C dX12_init_14 ⟨by decide, by decide⟩ ?_
  obtain ⟨q1, q2, q3, q4, h⟩ := h
  refine w_newi (n := 2) C dX12_init_15 ac_I q1 q2 (by decide) q3 q4 ?_
  obtain ⟨M12, eM12⟩ : ∃ z : Mm, z = newM M10 := ⟨_, rfl⟩
  rw [← eM12]
  replace h := h M12 eM12
  obtain ⟨g13, h⟩ := h
  refine x_putR C dX12_init_17 fw_X12_13 g13 (Or.inr ⟨hin, rfl⟩) (fun M14 eM14 hn15 => ?_)
  replace h := h M14 eM14
  refine w_aload_n C dX12_init_20 rfl (mem_k 0 rfl) ?_
  refine w_bipush C dX12_init_21 (by decide) ?_
  obtain ⟨q1, q2, q3, q4, h⟩ := h
  refine w_newi (n := 16) C dX12_init_23 ac_I q1 q2 (by decide) q3 q4 ?_
  obtain ⟨M16, eM16⟩ : ∃ z : Mm, z = newM M14 := ⟨_, rfl⟩
  rw [← eM16]
  replace h := h M16 eM16
  obtain ⟨g17, h⟩ := h
  refine x_putR C dX12_init_25 fw_X12_16 g17 (Or.inr ⟨hin, rfl⟩) (fun M18 eM18 hn19 => ?_)
  replace h := h M18 eM18
  refine w_aload_n C dX12_init_28 rfl (mem_k 0 rfl) ?_
  refine w_sipush C dX12_init_29 (by decide) ?_
  obtain ⟨q1, q2, q3, q4, h⟩ := h
  refine w_newi (n := 128) C dX12_init_32 ac_I q1 q2 (by decide) q3 q4 ?_
  obtain ⟨M20, eM20⟩ : ∃ z : Mm, z = newM M18 := ⟨_, rfl⟩
  rw [← eM20]
  replace h := h M20 eM20
  obtain ⟨g21, h⟩ := h
  refine x_putR C dX12_init_34 fw_X12_19 g21 (Or.inr ⟨hin, rfl⟩) (fun M22 eM22 hn23 => ?_)
  replace h := h M22 eM22
  refine w_aload_n C dX12_init_37 rfl (mem_k 0 rfl) ?_
  refine w_bipush C dX12_init_38 (by decide) ?_
  obtain ⟨q1, q2, q3, q4, h⟩ := h
  refine w_newi (n := 64) C dX12_init_40 ac_I q1 q2 (by decide) q3 q4 ?_
  obtain ⟨M24, eM24⟩ : ∃ z : Mm, z = newM M22 := ⟨_, rfl⟩
  rw [← eM24]
  replace h := h M24 eM24
  obtain ⟨g25, h⟩ := h
  refine x_putR C dX12_init_42 fw_X12_22 g25 (Or.inr ⟨hin, rfl⟩) (fun M26 eM26 hn27 => ?_)
  replace h := h M26 eM26
  refine w_aload_n C dX12_init_45 rfl (mem_k 0 rfl) ?_
  refine w_iconst C dX12_init_46 ⟨by decide, by decide⟩ ?_
  obtain ⟨q1, q2, q3, q4, h⟩ := h
  refine w_newi (n := 2) C dX12_init_47 ac_I q1 q2 (by decide) q3 q4 ?_
  obtain ⟨M28, eM28⟩ : ∃ z : Mm, z = newM M26 := ⟨_, rfl⟩
  rw [← eM28]
  replace h := h M28 eM28
  obtain ⟨g29, h⟩ := h
  refine x_putR C dX12_init_49 fw_X12_25 g29 (Or.inr ⟨hin, rfl⟩) (fun M30 eM30 hn31 => ?_)
  replace h := h M30 eM30
  refine w_aload_n C dX12_init_52 rfl (mem_k 0 rfl) ?_
  refine w_bipush C dX12_init_53 (by decide) ?_
  obtain ⟨q1, q2, q3, q4, h⟩ := h
  refine w_newi (n := 48) C dX12_init_55 ac_I q1 q2 (by decide) q3 q4 ?_
  obtain ⟨M32, eM32⟩ : ∃ z : Mm, z = newM M30 := ⟨_, rfl⟩
  rw [← eM32]
  replace h := h M32 eM32
  obtain ⟨g33, h⟩ := h
  refine x_putR C dX12_init_57 fw_X12_28 g33 (Or.inr ⟨hin, rfl⟩) (fun M34 eM34 hn35 => ?_)
  replace h := h M34 eM34
  refine w_aload_n C dX12_init_60 rfl (mem_k 0 rfl) ?_
  refine w_bipush C dX12_init_61 (by decide) ?_
  obtain ⟨q1, q2, q3, q4, h⟩ := h
  refine w_newi (n := 12) C dX12_init_63 ac_I q1 q2 (by decide) q3 q4 ?_
  obtain ⟨M36, eM36⟩ : ∃ z : Mm, z = newM M34 := ⟨_, rfl⟩
  rw [← eM36]
  replace h := h M36 eM36
  obtain ⟨g37, h⟩ := h
  refine x_putR C dX12_init_65 fw_X12_31 g37 (Or.inr ⟨hin, rfl⟩) (fun M38 eM38 hn39 => ?_)
  replace h := h M38 eM38
  refine w_aload_n C dX12_init_68 rfl (mem_k 0 rfl) ?_
  refine w_sipush C dX12_init_69 (by decide) ?_
  obtain ⟨q1, q2, q3, q4, h⟩ := h
  refine w_newi (n := 216) C dX12_init_72 ac_I q1 q2 (by decide) q3 q4 ?_
  obtain ⟨M40, eM40⟩ : ∃ z : Mm, z = newM M38 := ⟨_, rfl⟩
  rw [← eM40]
  replace h := h M40 eM40
  obtain ⟨g41, h⟩ := h
  refine x_putR C dX12_init_74 fw_X12_34 g41 (Or.inr ⟨hin, rfl⟩) (fun M42 eM42 hn43 => ?_)
  replace h := h M42 eM42
  refine w_aload_n C dX12_init_77 rfl (mem_k 0 rfl) ?_
  refine w_bipush C dX12_init_78 (by decide) ?_
  obtain ⟨q1, q2, q3, q4, h⟩ := h
  refine w_newi (n := 36) C dX12_init_80 ac_I q1 q2 (by decide) q3 q4 ?_
  obtain ⟨M44, eM44⟩ : ∃ z : Mm, z = newM M42 := ⟨_, rfl⟩
  rw [← eM44]
  replace h := h M44 eM44
  obtain ⟨g45, h⟩ := h
  refine x_putR C dX12_init_82 fw_X12_37 g45 (Or.inr ⟨hin, rfl⟩) (fun M46 eM46 hn47 => ?_)
  replace h := h M46 eM46
  refine w_aload_n C dX12_init_85 rfl (mem_k 0 rfl) ?_
  refine w_bipush C dX12_init_86 (by decide) ?_
  obtain ⟨q1, q2, q3, q4, h⟩ := h
  refine w_newi (n := 6) C dX12_init_88 ac_I q1 q2 (by decide) q3 q4 ?_
  obtain ⟨M48, eM48⟩ : ∃ z : Mm, z = newM M46 := ⟨_, rfl⟩
  rw [← eM48]
  replace h := h M48 eM48
  obtain ⟨g49, h⟩ := h
  refine x_putR C dX12_init_90 fw_X12_40 g49 (Or.inr ⟨hin, rfl⟩) (fun M50 eM50 hn51 => ?_)
  replace h := h M50 eM50
  refine w_aload_n C dX12_init_93 rfl (mem_k 0 rfl) ?_
  refine w_bipush C dX12_init_94 (by decide) ?_
  obtain ⟨q1, q2, q3, q4, h⟩ := h
  refine w_newi (n := 72) C dX12_init_96 ac_I q1 q2 (by decide) q3 q4 ?_
  obtain ⟨M52, eM52⟩ : ∃ z : Mm, z = newM M50 := ⟨_, rfl⟩
  rw [← eM52]
  replace h := h M52 eM52
  obtain ⟨g53, h⟩ := h
  refine x_putR C dX12_init_98 fw_X12_43 g53 (Or.inr ⟨hin, rfl⟩) (fun M54 eM54 hn55 => ?_)
  replace h := h M54 eM54
  refine w_aload_n C dX12_init_101 rfl (mem_k 0 rfl) ?_
  refine w_bipush C dX12_init_102 (by decide) ?_
  obtain ⟨q1, q2, q3, q4, h⟩ := h
  refine w_newi (n := 72) C dX12_init_104 ac_I q1 q2 (by decide) q3 q4 ?_
  obtain ⟨M56, eM56⟩ : ∃ z : Mm, z = newM M54 := ⟨_, rfl⟩
  rw [← eM56]
  replace h := h M56 eM56
  obtain ⟨g57, h⟩ := h
  refine x_putR C dX12_init_106 fw_X12_46 g57 (Or.inr ⟨hin, rfl⟩) (fun M58 eM58 hn59 => ?_)
  replace h := h M58 eM58
  refine w_aload_n C dX12_init_109 rfl (mem_k 0 rfl) ?_
  refine w_bipush C dX12_init_110 (by decide) ?_
  obtain ⟨q1, q2, q3, q4, h⟩ := h
  refine w_newi (n := 72) C dX12_init_112 ac_I q1 q2 (by decide) q3 q4 ?_
  obtain ⟨M60, eM60⟩ : ∃ z : Mm, z = newM M58 := ⟨_, rfl⟩
  rw [← eM60]
  replace h := h M60 eM60
  obtain ⟨g61, h⟩ := h
  refine x_putR C dX12_init_114 fw_X12_49 g61 (Or.inr ⟨hin, rfl⟩) (fun M62 eM62 hn63 => ?_)
  replace h := h M62 eM62
  refine w_aload_n C dX12_init_117 rfl (mem_k 0 rfl) ?_
  refine w_bipush C dX12_init_118 (by decide) ?_
  obtain ⟨g64, h⟩ := h
  refine x_putI C dX12_init_120 fw_X12_52 g64 (Or.inl rfl) (fun M65 eM65 hn66 => ?_)
  replace h := h M65 eM65
  refine w_aload_n C dX12_init_123 rfl (mem_k 0 rfl) ?_
  refine w_sipush C dX12_init_124 (by decide) ?_
  obtain ⟨g67, h⟩ := h
  refine x_putI C dX12_init_127 fw_X12_56 g67 (Or.inl rfl) (fun M68 eM68 hn69 => ?_)
  replace h := h M68 eM68
  refine w_aload_n C dX12_init_130 rfl (mem_k 0 rfl) ?_
  refine w_bipush C dX12_init_131 (by decide) ?_
  obtain ⟨g70, h⟩ := h
  refine x_putI C dX12_init_133 fw_X12_59 g70 (Or.inl rfl) (fun M71 eM71 hn72 => ?_)
  replace h := h M71 eM71
  refine w_aload_n C dX12_init_136 rfl (mem_k 0 rfl) ?_
  refine w_bipush C dX12_init_137 (by decide) ?_
  obtain ⟨q1, q2, q3, q4, h⟩ := h
  refine w_newi (n := 16) C dX12_init_139 ac_I q1 q2 (by decide) q3 q4 ?_
  obtain ⟨M73, eM73⟩ : ∃ z : Mm, z = newM M71 := ⟨_, rfl⟩
  rw [← eM73]
  replace h := h M73 eM73
  obtain ⟨g74, h⟩ := h
  refine x_putR C dX12_init_141 fw_X12_62 g74 (Or.inr ⟨hin, rfl⟩) (fun M75 eM75 hn76 => ?_)
  replace h := h M75 eM75
  refine w_aload_n C dX12_init_144 rfl (mem_k 0 rfl) ?_
  refine w_bipush C dX12_init_145 (by decide) ?_
  obtain ⟨q1, q2, q3, q4, h⟩ := h
  refine w_newi (n := 8) C dX12_init_147 ac_I q1 q2 (by decide) q3 q4 ?_
  obtain ⟨M77, eM77⟩ : ∃ z : Mm, z = newM M75 := ⟨_, rfl⟩
  rw [← eM77]
  replace h := h M77 eM77
  obtain ⟨g78, h⟩ := h
  refine x_putR C dX12_init_149 fw_X12_65 g78 (Or.inr ⟨hin, rfl⟩) (fun M79 eM79 hn80 => ?_)
  replace h := h M79 eM79
  refine w_aload_n C dX12_init_152 rfl (mem_k 0 rfl) ?_
  refine w_bipush C dX12_init_153 (by decide) ?_
  obtain ⟨q1, q2, q3, q4, h⟩ := h
  refine w_newi (n := 6) C dX12_init_155 ac_I q1 q2 (by decide) q3 q4 ?_
  obtain ⟨M81, eM81⟩ : ∃ z : Mm, z = newM M79 := ⟨_, rfl⟩
  rw [← eM81]
  replace h := h M81 eM81
  obtain ⟨g82, h⟩ := h
  refine x_putR C dX12_init_157 fw_X12_68 g82 (Or.inr ⟨hin, rfl⟩) (fun M83 eM83 hn84 => ?_)
  replace h := h M83 eM83
  refine w_aload_n C dX12_init_160 rfl (mem_k 0 rfl) ?_
  refine w_bipush C dX12_init_161 (by decide) ?_
  obtain ⟨q1, q2, q3, q4, h⟩ := h
  refine w_newi (n := 12) C dX12_init_163 ac_I q1 q2 (by decide) q3 q4 ?_
  obtain ⟨M85, eM85⟩ : ∃ z : Mm, z = newM M83 := ⟨_, rfl⟩
  rw [← eM85]
  replace h := h M85 eM85
  obtain ⟨g86, h⟩ := h
  refine x_putR C dX12_init_165 fw_X12_71 g86 (Or.inr ⟨hin, rfl⟩) (fun M87 eM87 hn88 => ?_)
  replace h := h M87 eM87
  refine w_aload_n C dX12_init_168 rfl (mem_k 0 rfl) ?_
  refine w_iconst C dX12_init_169 ⟨by decide, by decide⟩ ?_
  obtain ⟨q1, q2, q3, q4, h⟩ := h
  refine w_newi (n := 3) C dX12_init_170 ac_I q1 q2 (by decide) q3 q4 ?_
  obtain ⟨M89, eM89⟩ : ∃ z : Mm, z = newM M87 := ⟨_, rfl⟩
  rw [← eM89]
  replace h := h M89 eM89
  obtain ⟨g90, h⟩ := h
  refine x_putR C dX12_init_172 fw_X12_74 g90 (Or.inr ⟨hin, rfl⟩) (fun M91 eM91 hn92 => ?_)
  replace h := h M91 eM91
  refine w_aload_n C dX12_init_175 rfl (mem_k 0 rfl) ?_
  refine w_iconst C dX12_init_176 ⟨by decide, by decide⟩ ?_
  obtain ⟨q1, q2, q3, q4, h⟩ := h
  refine w_newi (n := 3) C dX12_init_177 ac_I q1 q2 (by decide) q3 q4 ?_
  obtain ⟨M93, eM93⟩ : ∃ z : Mm, z = newM M91 := ⟨_, rfl⟩
  rw [← eM93]
  replace h := h M93 eM93
  obtain ⟨g94, h⟩ := h
  refine x_putR C dX12_init_179 fw_X12_77 g94 (Or.inr ⟨hin, rfl⟩) (fun M95 eM95 hn96 => ?_)
  replace h := h M95 eM95
  refine w_aload_n C dX12_init_182 rfl (mem_k 0 rfl) ?_
  refine w_bipush C dX12_init_183 (by decide) ?_
  obtain ⟨q1, q2, q3, q4, h⟩ := h
  refine w_newi (n := 6) C dX12_init_185 ac_I q1 q2 (by decide) q3 q4 ?_
  obtain ⟨M97, eM97⟩ : ∃ z : Mm, z = newM M95 := ⟨_, rfl⟩
  rw [← eM97]
  replace h := h M97 eM97
  obtain ⟨g98, h⟩ := h
  refine x_putR C dX12_init_187 fw_X12_80 g98 (Or.inr ⟨hin, rfl⟩) (fun M99 eM99 hn100 => ?_)
  replace h := h M99 eM99
  refine w_iconst C dX12_init_190 ⟨by decide, by decide⟩ ?_
  refine x_istore_n (L' := [(1, vI 0), (0, vR (some o0))]) C dX12_init_191 rfl (by decide) rfl ?_
  refine x_pc (pc2 := 192) rfl ?_
  refine x_pick (L' := [(0, vR (some o0)), (1, vI 0)]) [1, 0] rfl ?_
  exact k_X12_init_192 C hr hin hQ  h
set_option maxRecDepth 100000 in
set_option maxHeartbeats 4000000 in
theorem con_X12_init (l : Launch) (D : va_G) (cy : Nat → ClassId) : Con l D cy yX12_init cX12_init 2 (none) ({ frames := 1, cells := 21, slots := 1100, locals := 20 }) 21 1100 SP_X12_init := by
  refine con_of (by decide) (fun as M Qp h => ?_) ?_
  · obtain ⟨o0, rfl, -⟩ := h
    exact Nat.le_of_ble_eq_true rfl
  · intro p e s m args below meth c G as M Qp h C hr hnm
    obtain ⟨o0, rfl, ho1, ho2, Q0, hQ, h⟩ := h
    refine x_pick (L' := [(0, vR (some o0))]) [0] rfl ?_
    exact k_X12_init_0 C hr hnm hQ h
set_option maxRecDepth 100000 in
set_option maxHeartbeats 4000000 in
theorem cl_X12_init {p : Program} {l : Launch} {e : Env} {R : Room} {s : State} {m : MethodId} {args : Array Value} {below : List Frame} {meth : Method} {c : Code} {Q : State → Prop} {cc : ByteArray} {nL : Nat} {own : String} {D : va_G} {cy : Nat → ClassId} {G : Nat × Nat} {n0 pc : Nat} {L : List (Nat × PV)} {st : List PV} {M : Mm} {op : Instr} (K : CallOK l D cy R own op 21 1100 (spI 0 SP_X12_init)) (C : Cx p s m args meth c cc nL own D cy G n0) (hd : decode cc pc = .ok (op, 3)) (hlen : argN st ≤ 8) {r : Option Nat} {o0 : Nat} (ho : isOn 12 M.2.2.2 r o0)  (q1 : M.2.2.2 + 21 - n0 ≤ R.cells) (q2 : SL (M.2.2.2 + 21) - SL n0 ≤ R.slots) (q3 : SL (M.2.2.2 + 21) = SL M.2.2.2 + 1100) {Q0 : Mm → Prop} (h : P_X12_init o0 M M.2.2.2 Q0) (k : ∀ M2, Q0 M2 → M2.2.2.2 = M.2.2.2 + 21 → WW p l e R s m args below meth c Q nL D cy G n0  (pc + 3) L (st) M2) : WW p l e R s m args below meth c Q nL D cy G n0  pc L (vR r :: st) M := by
  obtain ⟨rfl, ho1, ho2⟩ := ho
  refine x_call K C hd (as := [vR (some o0)]) rfl hlen (fun v M2 => v = none ∧ Q0 M2) ⟨⟨o0, [], rfl, rfl⟩, o0, rfl, ho1, ho2, Q0, fun M2 hx => ⟨rfl, hx⟩, h⟩ q1 q2 q3 ?_
  rintro _ _ ⟨rfl, hx⟩ hm
  exact k _ hx hm
end W_X12_init
