/-! seats: pure predicates, decode rows, walks, contracts; by program (wip/gen/walk.py) -/
theorem dX0_say_0 : decode cX0_say 0 = .ok (.iload_n 1, 1) := by decide +kernel
theorem dX0_say_1 : decode cX0_say 1 = .ok (.iconst 0, 1) := by decide +kernel
theorem dX0_say_2 : decode cX0_say 2 = .ok (.iconst 5, 1) := by decide +kernel
theorem dX0_say_3 : decode cX0_say 3 = .ok (.invokestatic 18, 3) := by decide +kernel
theorem dX0_say_6 : decode cX0_say 6 = .ok (.ifCond .eq 10, 3) := by decide +kernel
theorem dX0_say_9 : decode cX0_say 9 = .ok (.aload_n 0, 1) := by decide +kernel
theorem dX0_say_10 : decode cX0_say 10 = .ok (.getfield 15, 3) := by decide +kernel
theorem dX0_say_13 : decode cX0_say 13 = .ok (.iload_n 1, 1) := by decide +kernel
theorem dX0_say_14 : decode cX0_say 14 = .ok (.iload_n 2, 1) := by decide +kernel
theorem dX0_say_15 : decode cX0_say 15 = .ok (.iastore, 1) := by decide +kernel
theorem dX0_say_16 : decode cX0_say 16 = .ok (.return_, 1) := by decide +kernel
theorem ck_X0_18 {l : Launch} {D : va_G} {cy : Nat → ClassId} {R : Room} (hR : 1 ≤ R.frames ∧ 22 ≤ R.locals) : CallOK l D cy R RX0 (.invokestatic 18) 0 0 (spS 3 SP_X11_isWithin) := call_SN (con_X11_isWithin l D cy) (List.mem_append_right _ (List.mem_append_right _ (List.mem_append_right _ (List.mem_append_right _ (List.mem_append_left _ (List.mem_of_getElem? (i := 8) rfl)))))) (lwG_2 (i := 92) rfl rfl) (lwG_1 (i := 1) rfl rfl) (lwG_2 (i := 93) rfl rfl) ⟨by decide, by decide, rfl⟩ ⟨rfl, rfl⟩ hR
theorem fw_X0_15 : fR RX0 15 0 7 := ⟨⟨lwG_1 (i := 181) rfl rfl, by decide, by decide⟩, fun _ _ => rfl, fun r => ⟨r, rfl⟩⟩
section W_X0_say
variable {p : Program} {l : Launch} {e : Env} {s : State} {m : MethodId} {args : Array Value} {below : List Frame} {meth : Method} {c : Code} {D : va_G} {cy : Nat → ClassId} {G : Nat × Nat} {n0 : Nat} {Qp : Option PV → Mm → Prop}
set_option maxRecDepth 100000 in
set_option maxHeartbeats 4000000 in
theorem k_X0_say_0 {o0 : Nat} {x1 : Int} {x2 : Int} {M : Mm} {Q : Mm → Prop} (C : Cx p s m args meth c cX0_say 3 RX0 D cy G n0) (hr : meth.sig.returnType = none) (h3 : n0 = 243) (hn : M.2.2.2 = n0) (ho0 : o0 < 243 ∧ (SH o0).1 = 0) (hQ : ∀ M, Q M → Qp none M) (h : P_X0_say o0 x1 x2 M Q ) : WW p l e ({ frames := 1, cells := 0, slots := 0, locals := 22 }) s m args below meth c (ZQ below args s D cy G n0 Qp n0) 3 D cy G n0 0 [(0, vR (some o0)), (1, vI x1), (2, vI x2)] [] M := by
  unfold P_X0_say at h
  refine w_iload_n C dX0_say_0 rfl (mem_k 1 rfl) ?_
  refine w_iconst C dX0_say_1 ⟨by decide, by decide⟩ ?_
  refine w_iconst C dX0_say_2 ⟨by decide, by decide⟩ ?_
  refine cl_X11_isWithin (ck_X0_18 ⟨by decide, by decide⟩) C dX0_say_3 hn h3 (Nat.le_of_ble_eq_true rfl) h (fun v1 h => ?_)
  refine w_if_eq (tgt := 16) C dX0_say_6 (by decide) (fun q => ?_) (fun q => ?_)
  · replace h := h.1 q
    exact x_vret C hr dX0_say_16 hn (hQ M h)
  · replace h := h.2 q
    refine w_aload_n C dX0_say_9 rfl (mem_k 0 rfl) ?_
    refine x_getR C dX0_say_10 fw_X0_15 (isO.n (ci := 0) ⟨rfl, ho0⟩ (hn.trans h3)) (fun r2 er2 => ?_)
    replace h := h r2 er2
    refine w_iload_n C dX0_say_13 rfl (mem_k 1 rfl) ?_
    refine w_iload_n C dX0_say_14 rfl (mem_k 2 rfl) ?_
    obtain ⟨o3, g4, h⟩ := h
    refine x_iast C dX0_say_15 (isA.n g4 (hn.trans h3)) (fun M5 eM5 hn6 => ?_)
    replace h := h M5 eM5
    replace hn6 := hn6.trans hn
    exact x_vret C hr dX0_say_16 hn6 (hQ M5 h)
set_option maxRecDepth 100000 in
set_option maxHeartbeats 4000000 in
theorem con_X0_say (l : Launch) (D : va_G) (cy : Nat → ClassId) : Con l D cy yX0_say cX0_say 3 (none) ({ frames := 1, cells := 0, slots := 0, locals := 22 }) 0 0 SP_X0_say := by
  refine con_of (by decide) (fun as M Qp h => ?_) ?_
  · obtain ⟨-, o0, x1, x2, rfl, -⟩ := h
    exact Nat.le_of_ble_eq_true rfl
  · intro p e s m args below meth c G as M Qp h C hr hnm
    obtain ⟨hn, o0, x1, x2, rfl, ho1, ho2, Q0, hQ, h⟩ := h
    refine x_pick (L' := [(0, vR (some o0)), (1, vI x1), (2, vI x2)]) [0, 1, 2] rfl ?_
    exact k_X0_say_0 C hr hn rfl ⟨ho1, ho2⟩ hQ h
set_option maxRecDepth 100000 in
set_option maxHeartbeats 4000000 in
theorem cl_X0_say {p : Program} {l : Launch} {e : Env} {R : Room} {s : State} {m : MethodId} {args : Array Value} {below : List Frame} {meth : Method} {c : Code} {Q : State → Prop} {cc : ByteArray} {nL : Nat} {own : String} {D : va_G} {cy : Nat → ClassId} {G : Nat × Nat} {n0 pc : Nat} {L : List (Nat × PV)} {st : List PV} {M : Mm} {op : Instr} (K : CallOK l D cy R own op 0 0 (spV 0 2 SP_X0_say)) (C : Cx p s m args meth c cc nL own D cy G n0) (hd : decode cc pc = .ok (op, 3)) (hn : M.2.2.2 = n0) (h3 : n0 = 243) (hlen : argN st ≤ 8) {r : Option Nat} {o0 : Nat} (ho : isOn 0 M.2.2.2 r o0) {x1 : Int} {x2 : Int} {Q0 : Mm → Prop} (h : P_X0_say o0 x1 x2 M Q0) (k : ∀ M2, Q0 M2 → M2.2.2.2 = n0 → WW p l e R s m args below meth c Q nL D cy G n0  (pc + 3) L (st) M2) : WW p l e R s m args below meth c Q nL D cy G n0  pc L (vI x2 :: vI x1 :: vR r :: st) M := by
  obtain ⟨rfl, ho1, ho2⟩ := ho
  refine x_call0 K C hd (as := [vR (some o0), vI x1, vI x2]) rfl hn hlen (fun v M2 => v = none ∧ Q0 M2) ⟨⟨o0, [vI x1, vI x2], rfl, rfl, ho1, ho2⟩, hn.trans h3, o0, x1, x2, rfl, (hn.trans h3) ▸ ho1, ho2, Q0, fun M2 hx => ⟨rfl, hx⟩, h⟩ ?_
  rintro _ _ ⟨rfl, hx⟩ hm
  exact k _ hx hm
end W_X0_say
theorem dX0_hasTried_0 : decode cX0_hasTried 0 = .ok (.iload_n 1, 1) := by decide +kernel
theorem dX0_hasTried_1 : decode cX0_hasTried 1 = .ok (.iconst 0, 1) := by decide +kernel
theorem dX0_hasTried_2 : decode cX0_hasTried 2 = .ok (.iconst 5, 1) := by decide +kernel
theorem dX0_hasTried_3 : decode cX0_hasTried 3 = .ok (.invokestatic 18, 3) := by decide +kernel
theorem dX0_hasTried_6 : decode cX0_hasTried 6 = .ok (.ifCond .eq 17, 3) := by decide +kernel
theorem dX0_hasTried_9 : decode cX0_hasTried 9 = .ok (.aload_n 0, 1) := by decide +kernel
theorem dX0_hasTried_10 : decode cX0_hasTried 10 = .ok (.getfield 15, 3) := by decide +kernel
theorem dX0_hasTried_13 : decode cX0_hasTried 13 = .ok (.iload_n 1, 1) := by decide +kernel
theorem dX0_hasTried_14 : decode cX0_hasTried 14 = .ok (.iaload, 1) := by decide +kernel
theorem dX0_hasTried_15 : decode cX0_hasTried 15 = .ok (.iconst (-1), 1) := by decide +kernel
theorem dX0_hasTried_16 : decode cX0_hasTried 16 = .ok (.if_icmp .eq 7, 3) := by decide +kernel
theorem dX0_hasTried_19 : decode cX0_hasTried 19 = .ok (.iconst 1, 1) := by decide +kernel
theorem dX0_hasTried_20 : decode cX0_hasTried 20 = .ok (.goto 4, 3) := by decide +kernel
theorem dX0_hasTried_23 : decode cX0_hasTried 23 = .ok (.iconst 0, 1) := by decide +kernel
theorem dX0_hasTried_24 : decode cX0_hasTried 24 = .ok (.ireturn, 1) := by decide +kernel
section W_X0_hasTried
variable {p : Program} {l : Launch} {e : Env} {s : State} {m : MethodId} {args : Array Value} {below : List Frame} {meth : Method} {c : Code} {D : va_G} {cy : Nat → ClassId} {G : Nat × Nat} {n0 : Nat} {Qp : Option PV → Mm → Prop}
set_option maxRecDepth 100000 in
set_option maxHeartbeats 4000000 in
theorem k_X0_hasTried_0 {o0 : Nat} {x1 : Int} {M : Mm} {Q : Int → Prop} (C : Cx p s m args meth c cX0_hasTried 2 RX0 D cy G n0) (hr : meth.sig.returnType = some .boolean) (h3 : n0 = 243) (hn : M.2.2.2 = n0) (ho0 : o0 < 243 ∧ (SH o0).1 = 0) (hQ : ∀ x, Q x → Qp (some (vI x)) M) (h : P_X0_hasTried o0 x1 M Q ) : WW p l e ({ frames := 1, cells := 0, slots := 0, locals := 22 }) s m args below meth c (ZQ below args s D cy G n0 Qp n0) 2 D cy G n0 0 [(0, vR (some o0)), (1, vI x1)] [] M := by
  unfold P_X0_hasTried at h
  refine w_iload_n C dX0_hasTried_0 rfl (mem_k 1 rfl) ?_
  refine w_iconst C dX0_hasTried_1 ⟨by decide, by decide⟩ ?_
  refine w_iconst C dX0_hasTried_2 ⟨by decide, by decide⟩ ?_
  refine cl_X11_isWithin (ck_X0_18 ⟨by decide, by decide⟩) C dX0_hasTried_3 hn h3 (Nat.le_of_ble_eq_true rfl) h (fun v1 h => ?_)
  refine w_if_eq (tgt := 23) C dX0_hasTried_6 (by decide) (fun q => ?_) (fun q => ?_)
  · replace h := h.1 q
    refine w_iconst C dX0_hasTried_23 ⟨by decide, by decide⟩ ?_
    exact x_zret C hr dX0_hasTried_24 hn (by decide) (hQ _ h)
  · replace h := h.2 q
    refine w_aload_n C dX0_hasTried_9 rfl (mem_k 0 rfl) ?_
    refine x_getR C dX0_hasTried_10 fw_X0_15 (isO.n (ci := 0) ⟨rfl, ho0⟩ (hn.trans h3)) (fun r2 er2 => ?_)
    replace h := h r2 er2
    refine w_iload_n C dX0_hasTried_13 rfl (mem_k 1 rfl) ?_
    obtain ⟨o3, g4, h⟩ := h
    refine x_iald C dX0_hasTried_14 (isA.n g4 (hn.trans h3)) ?_
    refine w_iconst C dX0_hasTried_15 ⟨by decide, by decide⟩ ?_
    refine w_icmp_eq (tgt := 23) C dX0_hasTried_16 (by decide) (fun q => ?_) (fun q => ?_)
    · replace h := h.1 q
      refine w_iconst C dX0_hasTried_23 ⟨by decide, by decide⟩ ?_
      exact x_zret C hr dX0_hasTried_24 hn (by decide) (hQ _ h)
    · replace h := h.2 q
      refine w_iconst C dX0_hasTried_19 ⟨by decide, by decide⟩ ?_
      refine w_goto (tgt := 24) C dX0_hasTried_20 (by decide) ?_
      exact x_zret C hr dX0_hasTried_24 hn (by decide) (hQ _ h)
set_option maxRecDepth 100000 in
set_option maxHeartbeats 4000000 in
theorem con_X0_hasTried (l : Launch) (D : va_G) (cy : Nat → ClassId) : Con l D cy yX0_hasTried cX0_hasTried 2 (some .boolean) ({ frames := 1, cells := 0, slots := 0, locals := 22 }) 0 0 SP_X0_hasTried := by
  refine con_of (by decide) (fun as M Qp h => ?_) ?_
  · obtain ⟨-, o0, x1, rfl, -⟩ := h
    exact Nat.le_of_ble_eq_true rfl
  · intro p e s m args below meth c G as M Qp h C hr hnm
    obtain ⟨hn, o0, x1, rfl, ho1, ho2, Q0, hQ, h⟩ := h
    refine x_pick (L' := [(0, vR (some o0)), (1, vI x1)]) [0, 1] rfl ?_
    exact k_X0_hasTried_0 C hr hn rfl ⟨ho1, ho2⟩ hQ h
set_option maxRecDepth 100000 in
set_option maxHeartbeats 4000000 in
theorem cl_X0_hasTried {p : Program} {l : Launch} {e : Env} {R : Room} {s : State} {m : MethodId} {args : Array Value} {below : List Frame} {meth : Method} {c : Code} {Q : State → Prop} {cc : ByteArray} {nL : Nat} {own : String} {D : va_G} {cy : Nat → ClassId} {G : Nat × Nat} {n0 pc : Nat} {L : List (Nat × PV)} {st : List PV} {M : Mm} {op : Instr} (K : CallOK l D cy R own op 0 0 (spV 0 1 SP_X0_hasTried)) (C : Cx p s m args meth c cc nL own D cy G n0) (hd : decode cc pc = .ok (op, 3)) (hn : M.2.2.2 = n0) (h3 : n0 = 243) (hlen : argN st ≤ 8) {r : Option Nat} {o0 : Nat} (ho : isOn 0 M.2.2.2 r o0) {x1 : Int} {Q0 : Int → Prop} (h : P_X0_hasTried o0 x1 M Q0) (k : ∀ x, Q0 x → WW p l e R s m args below meth c Q nL D cy G n0  (pc + 3) L (vI x :: st) M) : WW p l e R s m args below meth c Q nL D cy G n0  pc L (vI x1 :: vR r :: st) M := by
  obtain ⟨rfl, ho1, ho2⟩ := ho
  refine x_call0 K C hd (as := [vR (some o0), vI x1]) rfl hn hlen (fun v M2 => ∃ x, v = some (vI x) ∧ M2 = M ∧ Q0 x) ⟨⟨o0, [vI x1], rfl, rfl, ho1, ho2⟩, hn.trans h3, o0, x1, rfl, (hn.trans h3) ▸ ho1, ho2, Q0, fun x hx => ⟨x, rfl, rfl, hx⟩, h⟩ ?_
  rintro _ _ ⟨x, rfl, rfl, hx⟩ hm
  exact k x hx
end W_X0_hasTried
theorem dX0_saidOf_0 : decode cX0_saidOf 0 = .ok (.aload_n 0, 1) := by decide +kernel
theorem dX0_saidOf_1 : decode cX0_saidOf 1 = .ok (.iload_n 1, 1) := by decide +kernel
theorem dX0_saidOf_2 : decode cX0_saidOf 2 = .ok (.invokevirtual 22, 3) := by decide +kernel
theorem dX0_saidOf_5 : decode cX0_saidOf 5 = .ok (.ifCond .eq 12, 3) := by decide +kernel
theorem dX0_saidOf_8 : decode cX0_saidOf 8 = .ok (.aload_n 0, 1) := by decide +kernel
theorem dX0_saidOf_9 : decode cX0_saidOf 9 = .ok (.getfield 15, 3) := by decide +kernel
theorem dX0_saidOf_12 : decode cX0_saidOf 12 = .ok (.iload_n 1, 1) := by decide +kernel
theorem dX0_saidOf_13 : decode cX0_saidOf 13 = .ok (.iaload, 1) := by decide +kernel
theorem dX0_saidOf_14 : decode cX0_saidOf 14 = .ok (.goto 4, 3) := by decide +kernel
theorem dX0_saidOf_17 : decode cX0_saidOf 17 = .ok (.iconst 0, 1) := by decide +kernel
theorem dX0_saidOf_18 : decode cX0_saidOf 18 = .ok (.ireturn, 1) := by decide +kernel
theorem ck_X0_22 {l : Launch} {D : va_G} {cy : Nat → ClassId} {R : Room} (hR : 2 ≤ R.frames ∧ 43 ≤ R.locals) : CallOK l D cy R RX0 (.invokevirtual 22) 0 0 (spV 0 1 SP_X0_hasTried) := call_V (ci := 0) (con_X0_hasTried l D cy) (lwG_4 (i := 25) rfl rfl) (lwG_4 (i := 18) rfl rfl) (lwG_4 (i := 19) rfl rfl) (lwG_1 (i := 8) rfl rfl) (lwG_4 (i := 20) rfl rfl) (by decide) ⟨rfl, by decide, by decide, rfl⟩ ⟨rfl, rfl⟩ hR
section W_X0_saidOf
variable {p : Program} {l : Launch} {e : Env} {s : State} {m : MethodId} {args : Array Value} {below : List Frame} {meth : Method} {c : Code} {D : va_G} {cy : Nat → ClassId} {G : Nat × Nat} {n0 : Nat} {Qp : Option PV → Mm → Prop}
set_option maxRecDepth 100000 in
set_option maxHeartbeats 4000000 in
theorem k_X0_saidOf_0 {o0 : Nat} {x1 : Int} {M : Mm} {Q : Int → Prop} (C : Cx p s m args meth c cX0_saidOf 2 RX0 D cy G n0) (hr : meth.sig.returnType = some .int) (h3 : n0 = 243) (hn : M.2.2.2 = n0) (ho0 : o0 < 243 ∧ (SH o0).1 = 0) (hQ : ∀ x, Q x → Qp (some (vI x)) M) (h : P_X0_saidOf o0 x1 M Q ) : WW p l e ({ frames := 2, cells := 0, slots := 0, locals := 43 }) s m args below meth c (ZQ below args s D cy G n0 Qp n0) 2 D cy G n0 0 [(0, vR (some o0)), (1, vI x1)] [] M := by
  unfold P_X0_saidOf at h
  refine w_aload_n C dX0_saidOf_0 rfl (mem_k 0 rfl) ?_
  refine w_iload_n C dX0_saidOf_1 rfl (mem_k 1 rfl) ?_
  refine cl_X0_hasTried (ck_X0_22 ⟨by decide, by decide⟩) C dX0_saidOf_2 hn h3 (Nat.le_of_ble_eq_true rfl) (isO.n (ci := 0) ⟨rfl, ho0⟩ (hn.trans h3)) h (fun v1 h => ?_)
  refine w_if_eq (tgt := 17) C dX0_saidOf_5 (by decide) (fun q => ?_) (fun q => ?_)
  · replace h := h.1 q
    refine w_iconst C dX0_saidOf_17 ⟨by decide, by decide⟩ ?_
    exact x_iret C hr dX0_saidOf_18 hn (hQ _ h)
  · replace h := h.2 q
    refine w_aload_n C dX0_saidOf_8 rfl (mem_k 0 rfl) ?_
    refine x_getR C dX0_saidOf_9 fw_X0_15 (isO.n (ci := 0) ⟨rfl, ho0⟩ (hn.trans h3)) (fun r2 er2 => ?_)
    replace h := h r2 er2
    refine w_iload_n C dX0_saidOf_12 rfl (mem_k 1 rfl) ?_
    obtain ⟨o3, g4, h⟩ := h
    refine x_iald C dX0_saidOf_13 (isA.n g4 (hn.trans h3)) ?_
    refine w_goto (tgt := 18) C dX0_saidOf_14 (by decide) ?_
    exact x_iret C hr dX0_saidOf_18 hn (hQ _ h)
set_option maxRecDepth 100000 in
set_option maxHeartbeats 4000000 in
theorem con_X0_saidOf (l : Launch) (D : va_G) (cy : Nat → ClassId) : Con l D cy yX0_saidOf cX0_saidOf 2 (some .int) ({ frames := 2, cells := 0, slots := 0, locals := 43 }) 0 0 SP_X0_saidOf := by
  refine con_of (by decide) (fun as M Qp h => ?_) ?_
  · obtain ⟨-, o0, x1, rfl, -⟩ := h
    exact Nat.le_of_ble_eq_true rfl
  · intro p e s m args below meth c G as M Qp h C hr hnm
    obtain ⟨hn, o0, x1, rfl, ho1, ho2, Q0, hQ, h⟩ := h
    refine x_pick (L' := [(0, vR (some o0)), (1, vI x1)]) [0, 1] rfl ?_
    exact k_X0_saidOf_0 C hr hn rfl ⟨ho1, ho2⟩ hQ h
set_option maxRecDepth 100000 in
set_option maxHeartbeats 4000000 in
theorem cl_X0_saidOf {p : Program} {l : Launch} {e : Env} {R : Room} {s : State} {m : MethodId} {args : Array Value} {below : List Frame} {meth : Method} {c : Code} {Q : State → Prop} {cc : ByteArray} {nL : Nat} {own : String} {D : va_G} {cy : Nat → ClassId} {G : Nat × Nat} {n0 pc : Nat} {L : List (Nat × PV)} {st : List PV} {M : Mm} {op : Instr} (K : CallOK l D cy R own op 0 0 (spV 0 1 SP_X0_saidOf)) (C : Cx p s m args meth c cc nL own D cy G n0) (hd : decode cc pc = .ok (op, 3)) (hn : M.2.2.2 = n0) (h3 : n0 = 243) (hlen : argN st ≤ 8) {r : Option Nat} {o0 : Nat} (ho : isOn 0 M.2.2.2 r o0) {x1 : Int} {Q0 : Int → Prop} (h : P_X0_saidOf o0 x1 M Q0) (k : ∀ x, Q0 x → WW p l e R s m args below meth c Q nL D cy G n0  (pc + 3) L (vI x :: st) M) : WW p l e R s m args below meth c Q nL D cy G n0  pc L (vI x1 :: vR r :: st) M := by
  obtain ⟨rfl, ho1, ho2⟩ := ho
  refine x_call0 K C hd (as := [vR (some o0), vI x1]) rfl hn hlen (fun v M2 => ∃ x, v = some (vI x) ∧ M2 = M ∧ Q0 x) ⟨⟨o0, [vI x1], rfl, rfl, ho1, ho2⟩, hn.trans h3, o0, x1, rfl, (hn.trans h3) ▸ ho1, ho2, Q0, fun x hx => ⟨x, rfl, rfl, hx⟩, h⟩ ?_
  rintro _ _ ⟨x, rfl, rfl, hx⟩ hm
  exact k x hx
end W_X0_saidOf
theorem dX0_triedSeats_0 : decode cX0_triedSeats 0 = .ok (.iconst 0, 1) := by decide +kernel
theorem dX0_triedSeats_1 : decode cX0_triedSeats 1 = .ok (.istore_n 1, 1) := by decide +kernel
theorem dX0_triedSeats_2 : decode cX0_triedSeats 2 = .ok (.iconst 0, 1) := by decide +kernel
theorem dX0_triedSeats_3 : decode cX0_triedSeats 3 = .ok (.istore_n 2, 1) := by decide +kernel
theorem dX0_triedSeats_4 : decode cX0_triedSeats 4 = .ok (.iload_n 2, 1) := by decide +kernel
theorem dX0_triedSeats_5 : decode cX0_triedSeats 5 = .ok (.bipush 6, 2) := by decide +kernel
theorem dX0_triedSeats_7 : decode cX0_triedSeats 7 = .ok (.if_icmp .ge 25, 3) := by decide +kernel
theorem dX0_triedSeats_10 : decode cX0_triedSeats 10 = .ok (.iload_n 1, 1) := by decide +kernel
theorem dX0_triedSeats_11 : decode cX0_triedSeats 11 = .ok (.aload_n 0, 1) := by decide +kernel
theorem dX0_triedSeats_12 : decode cX0_triedSeats 12 = .ok (.iload_n 2, 1) := by decide +kernel
theorem dX0_triedSeats_13 : decode cX0_triedSeats 13 = .ok (.invokevirtual 22, 3) := by decide +kernel
theorem dX0_triedSeats_16 : decode cX0_triedSeats 16 = .ok (.ifCond .eq 7, 3) := by decide +kernel
theorem dX0_triedSeats_19 : decode cX0_triedSeats 19 = .ok (.iconst 1, 1) := by decide +kernel
theorem dX0_triedSeats_20 : decode cX0_triedSeats 20 = .ok (.goto 4, 3) := by decide +kernel
theorem dX0_triedSeats_23 : decode cX0_triedSeats 23 = .ok (.iconst 0, 1) := by decide +kernel
theorem dX0_triedSeats_24 : decode cX0_triedSeats 24 = .ok (.iadd, 1) := by decide +kernel
theorem dX0_triedSeats_25 : decode cX0_triedSeats 25 = .ok (.istore_n 1, 1) := by decide +kernel
theorem dX0_triedSeats_26 : decode cX0_triedSeats 26 = .ok (.iinc 2 1, 3) := by decide +kernel
theorem dX0_triedSeats_29 : decode cX0_triedSeats 29 = .ok (.goto (-25), 3) := by decide +kernel
theorem dX0_triedSeats_32 : decode cX0_triedSeats 32 = .ok (.iload_n 1, 1) := by decide +kernel
theorem dX0_triedSeats_33 : decode cX0_triedSeats 33 = .ok (.ireturn, 1) := by decide +kernel
section W_X0_triedSeats
variable {p : Program} {l : Launch} {e : Env} {s : State} {m : MethodId} {args : Array Value} {below : List Frame} {meth : Method} {c : Code} {D : va_G} {cy : Nat → ClassId} {G : Nat × Nat} {n0 : Nat} {Qp : Option PV → Mm → Prop}
set_option maxRecDepth 100000 in
set_option maxHeartbeats 4000000 in
theorem f_X0_triedSeats_4 {o0 : Nat} {x1 : Int} {x2 : Int} {M : Mm} {Q : Int → Prop} {K4 : Int × Int → Prop} (C : Cx p s m args meth c cX0_triedSeats 3 RX0 D cy G n0) (hr : meth.sig.returnType = some .int) (h3 : n0 = 243) (hn : M.2.2.2 = n0) (ho0 : o0 < 243 ∧ (SH o0).1 = 0) (hQ : ∀ x, Q x → Qp (some (vI x)) M) (hK4 : ∀ (x1 : Int) (x2 : Int), K4 (x1, x2) → WW p l e ({ frames := 2, cells := 0, slots := 0, locals := 43 }) s m args below meth c (ZQ below args s D cy G n0 Qp n0) 3 D cy G n0 4 [(0, vR (some o0)), (1, vI x1), (2, vI x2)] [] M) (h : F_X0_triedSeats_4 o0 M Q  K4 x1 x2) : WW p l e ({ frames := 2, cells := 0, slots := 0, locals := 43 }) s m args below meth c (ZQ below args s D cy G n0 Qp n0) 3 D cy G n0 4 [(0, vR (some o0)), (1, vI x1), (2, vI x2)] [] M := by
  unfold F_X0_triedSeats_4 at h
  refine w_iload_n C dX0_triedSeats_4 rfl (mem_k 2 rfl) ?_
  refine w_bipush C dX0_triedSeats_5 (by decide) ?_
  refine w_icmp_ge (tgt := 32) C dX0_triedSeats_7 (by decide) (fun q => ?_) (fun q => ?_)
  · replace h := h.1 q
    refine w_iload_n C dX0_triedSeats_32 rfl (mem_k 1 rfl) ?_
    exact x_iret C hr dX0_triedSeats_33 hn (hQ _ h)
  · replace h := h.2 q
    refine w_iload_n C dX0_triedSeats_10 rfl (mem_k 1 rfl) ?_
    refine w_aload_n C dX0_triedSeats_11 rfl (mem_k 0 rfl) ?_
    refine w_iload_n C dX0_triedSeats_12 rfl (mem_k 2 rfl) ?_
    refine cl_X0_hasTried (ck_X0_22 ⟨by decide, by decide⟩) C dX0_triedSeats_13 hn h3 (Nat.le_of_ble_eq_true rfl) (isO.n (ci := 0) ⟨rfl, ho0⟩ (hn.trans h3)) h (fun v1 h => ?_)
    refine w_if_eq (tgt := 23) C dX0_triedSeats_16 (by decide) (fun q => ?_) (fun q => ?_)
    · replace h := h.1 q
      refine w_iconst C dX0_triedSeats_23 ⟨by decide, by decide⟩ ?_
      refine w_iadd C dX0_triedSeats_24 h.1 ?_
      replace h := h.2
      refine x_nmI (fun v2 ev2 => ?_)
      replace h := h v2 ev2
      refine x_istore_n (L' := [(1, vI v2), (0, vR (some o0)), (2, vI x2)]) C dX0_triedSeats_25 rfl (by decide) rfl ?_
      obtain ⟨v3, ev3⟩ : ∃ z : Int, z = x2 + 1 := ⟨_, rfl⟩
      refine x_iinc (L' := [(2, vI v3), (1, vI v2), (0, vR (some o0))]) C dX0_triedSeats_26 (mem_k 2 rfl) (by decide) h.1 ev3 rfl ?_
      replace h := h.2 v3 ev3
      refine w_goto (tgt := 4) C dX0_triedSeats_29 (by decide) ?_
      refine x_pc (pc2 := 4) rfl ?_
      refine x_pick (L' := [(0, vR (some o0)), (1, vI v2), (2, vI v3)]) [2, 1, 0] rfl ?_
      exact hK4 v2 v3 h
    · replace h := h.2 q
      refine w_iconst C dX0_triedSeats_19 ⟨by decide, by decide⟩ ?_
      refine w_goto (tgt := 24) C dX0_triedSeats_20 (by decide) ?_
      refine w_iadd C dX0_triedSeats_24 h.1 ?_
      replace h := h.2
      refine x_nmI (fun v4 ev4 => ?_)
      replace h := h v4 ev4
      refine x_istore_n (L' := [(1, vI v4), (0, vR (some o0)), (2, vI x2)]) C dX0_triedSeats_25 rfl (by decide) rfl ?_
      obtain ⟨v5, ev5⟩ : ∃ z : Int, z = x2 + 1 := ⟨_, rfl⟩
      refine x_iinc (L' := [(2, vI v5), (1, vI v4), (0, vR (some o0))]) C dX0_triedSeats_26 (mem_k 2 rfl) (by decide) h.1 ev5 rfl ?_
      replace h := h.2 v5 ev5
      refine w_goto (tgt := 4) C dX0_triedSeats_29 (by decide) ?_
      refine x_pc (pc2 := 4) rfl ?_
      refine x_pick (L' := [(0, vR (some o0)), (1, vI v4), (2, vI v5)]) [2, 1, 0] rfl ?_
      exact hK4 v4 v5 h
set_option maxRecDepth 100000 in
set_option maxHeartbeats 4000000 in
theorem k_X0_triedSeats_4 {o0 : Nat} {x1 : Int} {x2 : Int} {M : Mm} {Q : Int → Prop} (C : Cx p s m args meth c cX0_triedSeats 3 RX0 D cy G n0) (hr : meth.sig.returnType = some .int) (h3 : n0 = 243) (hn : M.2.2.2 = n0) (ho0 : o0 < 243 ∧ (SH o0).1 = 0) (hQ : ∀ x, Q x → Qp (some (vI x)) M) (h : P_X0_triedSeats_4 o0 x1 x2 M Q ) : WW p l e ({ frames := 2, cells := 0, slots := 0, locals := 43 }) s m args below meth c (ZQ below args s D cy G n0 Qp n0) 3 D cy G n0 4 [(0, vR (some o0)), (1, vI x1), (2, vI x2)] [] M := by
  refine lpW_sound (P := fun y : Int × Int => WW p l e ({ frames := 2, cells := 0, slots := 0, locals := 43 }) s m args below meth c (ZQ below args s D cy G n0 Qp n0) 3 D cy G n0 4 [(0, vR (some o0)), (1, vI y.1), (2, vI y.2)] [] M) ?_ h
  intro K y hK hF
  obtain ⟨x1, x2⟩ := y
  exact f_X0_triedSeats_4 C hr h3 hn ho0 hQ  (fun x1 x2 hk => hK (x1, x2) hk) hF
set_option maxRecDepth 100000 in
set_option maxHeartbeats 4000000 in
theorem k_X0_triedSeats_0 {o0 : Nat} {M : Mm} {Q : Int → Prop} (C : Cx p s m args meth c cX0_triedSeats 3 RX0 D cy G n0) (hr : meth.sig.returnType = some .int) (h3 : n0 = 243) (hn : M.2.2.2 = n0) (ho0 : o0 < 243 ∧ (SH o0).1 = 0) (hQ : ∀ x, Q x → Qp (some (vI x)) M) (h : P_X0_triedSeats o0 M Q ) : WW p l e ({ frames := 2, cells := 0, slots := 0, locals := 43 }) s m args below meth c (ZQ below args s D cy G n0 Qp n0) 3 D cy G n0 0 [(0, vR (some o0))] [] M := by
  unfold P_X0_triedSeats at h
  refine w_iconst C dX0_triedSeats_0 ⟨by decide, by decide⟩ ?_
  refine x_istore_n (L' := [(1, vI 0), (0, vR (some o0))]) C dX0_triedSeats_1 rfl (by decide) rfl ?_
  refine w_iconst C dX0_triedSeats_2 ⟨by decide, by decide⟩ ?_
  refine x_istore_n (L' := [(2, vI 0), (1, vI 0), (0, vR (some o0))]) C dX0_triedSeats_3 rfl (by decide) rfl ?_
  refine x_pc (pc2 := 4) rfl ?_
  refine x_pick (L' := [(0, vR (some o0)), (1, vI 0), (2, vI 0)]) [2, 1, 0] rfl ?_
  exact k_X0_triedSeats_4 C hr h3 hn ho0 hQ  h
set_option maxRecDepth 100000 in
set_option maxHeartbeats 4000000 in
theorem con_X0_triedSeats (l : Launch) (D : va_G) (cy : Nat → ClassId) : Con l D cy yX0_triedSeats cX0_triedSeats 3 (some .int) ({ frames := 2, cells := 0, slots := 0, locals := 43 }) 0 0 SP_X0_triedSeats := by
  refine con_of (by decide) (fun as M Qp h => ?_) ?_
  · obtain ⟨-, o0, rfl, -⟩ := h
    exact Nat.le_of_ble_eq_true rfl
  · intro p e s m args below meth c G as M Qp h C hr hnm
    obtain ⟨hn, o0, rfl, ho1, ho2, Q0, hQ, h⟩ := h
    refine x_pick (L' := [(0, vR (some o0))]) [0] rfl ?_
    exact k_X0_triedSeats_0 C hr hn rfl ⟨ho1, ho2⟩ hQ h
set_option maxRecDepth 100000 in
set_option maxHeartbeats 4000000 in
theorem cl_X0_triedSeats {p : Program} {l : Launch} {e : Env} {R : Room} {s : State} {m : MethodId} {args : Array Value} {below : List Frame} {meth : Method} {c : Code} {Q : State → Prop} {cc : ByteArray} {nL : Nat} {own : String} {D : va_G} {cy : Nat → ClassId} {G : Nat × Nat} {n0 pc : Nat} {L : List (Nat × PV)} {st : List PV} {M : Mm} {op : Instr} (K : CallOK l D cy R own op 0 0 (spV 0 0 SP_X0_triedSeats)) (C : Cx p s m args meth c cc nL own D cy G n0) (hd : decode cc pc = .ok (op, 3)) (hn : M.2.2.2 = n0) (h3 : n0 = 243) (hlen : argN st ≤ 8) {r : Option Nat} {o0 : Nat} (ho : isOn 0 M.2.2.2 r o0)  {Q0 : Int → Prop} (h : P_X0_triedSeats o0 M Q0) (k : ∀ x, Q0 x → WW p l e R s m args below meth c Q nL D cy G n0  (pc + 3) L (vI x :: st) M) : WW p l e R s m args below meth c Q nL D cy G n0  pc L (vR r :: st) M := by
  obtain ⟨rfl, ho1, ho2⟩ := ho
  refine x_call0 K C hd (as := [vR (some o0)]) rfl hn hlen (fun v M2 => ∃ x, v = some (vI x) ∧ M2 = M ∧ Q0 x) ⟨⟨o0, [], rfl, rfl, ho1, ho2⟩, hn.trans h3, o0, rfl, (hn.trans h3) ▸ ho1, ho2, Q0, fun x hx => ⟨x, rfl, rfl, hx⟩, h⟩ ?_
  rintro _ _ ⟨x, rfl, rfl, hx⟩ hm
  exact k x hx
end W_X0_triedSeats
theorem dX0_saidTogether_0 : decode cX0_saidTogether 0 = .ok (.iconst 0, 1) := by decide +kernel
theorem dX0_saidTogether_1 : decode cX0_saidTogether 1 = .ok (.istore_n 1, 1) := by decide +kernel
theorem dX0_saidTogether_2 : decode cX0_saidTogether 2 = .ok (.iconst 0, 1) := by decide +kernel
theorem dX0_saidTogether_3 : decode cX0_saidTogether 3 = .ok (.istore_n 2, 1) := by decide +kernel
theorem dX0_saidTogether_4 : decode cX0_saidTogether 4 = .ok (.iload_n 2, 1) := by decide +kernel
theorem dX0_saidTogether_5 : decode cX0_saidTogether 5 = .ok (.bipush 6, 2) := by decide +kernel
theorem dX0_saidTogether_7 : decode cX0_saidTogether 7 = .ok (.if_icmp .ge 17, 3) := by decide +kernel
theorem dX0_saidTogether_10 : decode cX0_saidTogether 10 = .ok (.iload_n 1, 1) := by decide +kernel
theorem dX0_saidTogether_11 : decode cX0_saidTogether 11 = .ok (.aload_n 0, 1) := by decide +kernel
theorem dX0_saidTogether_12 : decode cX0_saidTogether 12 = .ok (.iload_n 2, 1) := by decide +kernel
theorem dX0_saidTogether_13 : decode cX0_saidTogether 13 = .ok (.invokevirtual 26, 3) := by decide +kernel
theorem dX0_saidTogether_16 : decode cX0_saidTogether 16 = .ok (.iadd, 1) := by decide +kernel
theorem dX0_saidTogether_17 : decode cX0_saidTogether 17 = .ok (.istore_n 1, 1) := by decide +kernel
theorem dX0_saidTogether_18 : decode cX0_saidTogether 18 = .ok (.iinc 2 1, 3) := by decide +kernel
theorem dX0_saidTogether_21 : decode cX0_saidTogether 21 = .ok (.goto (-17), 3) := by decide +kernel
theorem dX0_saidTogether_24 : decode cX0_saidTogether 24 = .ok (.iload_n 1, 1) := by decide +kernel
theorem dX0_saidTogether_25 : decode cX0_saidTogether 25 = .ok (.ireturn, 1) := by decide +kernel
theorem ck_X0_26 {l : Launch} {D : va_G} {cy : Nat → ClassId} {R : Room} (hR : 3 ≤ R.frames ∧ 64 ≤ R.locals) : CallOK l D cy R RX0 (.invokevirtual 26) 0 0 (spV 0 1 SP_X0_saidOf) := call_V (ci := 0) (con_X0_saidOf l D cy) (lwG_4 (i := 49) rfl rfl) (lwG_4 (i := 22) rfl rfl) (lwG_4 (i := 23) rfl rfl) (lwG_1 (i := 8) rfl rfl) (lwG_4 (i := 24) rfl rfl) (by decide) ⟨rfl, by decide, by decide, rfl⟩ ⟨rfl, rfl⟩ hR
section W_X0_saidTogether
variable {p : Program} {l : Launch} {e : Env} {s : State} {m : MethodId} {args : Array Value} {below : List Frame} {meth : Method} {c : Code} {D : va_G} {cy : Nat → ClassId} {G : Nat × Nat} {n0 : Nat} {Qp : Option PV → Mm → Prop}
set_option maxRecDepth 100000 in
set_option maxHeartbeats 4000000 in
theorem f_X0_saidTogether_4 {o0 : Nat} {x1 : Int} {x2 : Int} {M : Mm} {Q : Int → Prop} {K4 : Int × Int → Prop} (C : Cx p s m args meth c cX0_saidTogether 3 RX0 D cy G n0) (hr : meth.sig.returnType = some .int) (h3 : n0 = 243) (hn : M.2.2.2 = n0) (ho0 : o0 < 243 ∧ (SH o0).1 = 0) (hQ : ∀ x, Q x → Qp (some (vI x)) M) (hK4 : ∀ (x1 : Int) (x2 : Int), K4 (x1, x2) → WW p l e ({ frames := 3, cells := 0, slots := 0, locals := 64 }) s m args below meth c (ZQ below args s D cy G n0 Qp n0) 3 D cy G n0 4 [(0, vR (some o0)), (1, vI x1), (2, vI x2)] [] M) (h : F_X0_saidTogether_4 o0 M Q  K4 x1 x2) : WW p l e ({ frames := 3, cells := 0, slots := 0, locals := 64 }) s m args below meth c (ZQ below args s D cy G n0 Qp n0) 3 D cy G n0 4 [(0, vR (some o0)), (1, vI x1), (2, vI x2)] [] M := by
  unfold F_X0_saidTogether_4 at h
  refine w_iload_n C dX0_saidTogether_4 rfl (mem_k 2 rfl) ?_
  refine w_bipush C dX0_saidTogether_5 (by decide) ?_
  refine w_icmp_ge (tgt := 24) C dX0_saidTogether_7 (by decide) (fun q => ?_) (fun q => ?_)
  · replace h := h.1 q
    refine w_iload_n C dX0_saidTogether_24 rfl (mem_k 1 rfl) ?_
    exact x_iret C hr dX0_saidTogether_25 hn (hQ _ h)
  · replace h := h.2 q
    refine w_iload_n C dX0_saidTogether_10 rfl (mem_k 1 rfl) ?_
    refine w_aload_n C dX0_saidTogether_11 rfl (mem_k 0 rfl) ?_
    refine w_iload_n C dX0_saidTogether_12 rfl (mem_k 2 rfl) ?_
    refine cl_X0_saidOf (ck_X0_26 ⟨by decide, by decide⟩) C dX0_saidTogether_13 hn h3 (Nat.le_of_ble_eq_true rfl) (isO.n (ci := 0) ⟨rfl, ho0⟩ (hn.trans h3)) h (fun v1 h => ?_)
    refine w_iadd C dX0_saidTogether_16 h.1 ?_
    replace h := h.2
    refine x_nmI (fun v2 ev2 => ?_)
    replace h := h v2 ev2
    refine x_istore_n (L' := [(1, vI v2), (0, vR (some o0)), (2, vI x2)]) C dX0_saidTogether_17 rfl (by decide) rfl ?_
    obtain ⟨v3, ev3⟩ : ∃ z : Int, z = x2 + 1 := ⟨_, rfl⟩
    refine x_iinc (L' := [(2, vI v3), (1, vI v2), (0, vR (some o0))]) C dX0_saidTogether_18 (mem_k 2 rfl) (by decide) h.1 ev3 rfl ?_
    replace h := h.2 v3 ev3
    refine w_goto (tgt := 4) C dX0_saidTogether_21 (by decide) ?_
    refine x_pc (pc2 := 4) rfl ?_
    refine x_pick (L' := [(0, vR (some o0)), (1, vI v2), (2, vI v3)]) [2, 1, 0] rfl ?_
    exact hK4 v2 v3 h
set_option maxRecDepth 100000 in
set_option maxHeartbeats 4000000 in
theorem k_X0_saidTogether_4 {o0 : Nat} {x1 : Int} {x2 : Int} {M : Mm} {Q : Int → Prop} (C : Cx p s m args meth c cX0_saidTogether 3 RX0 D cy G n0) (hr : meth.sig.returnType = some .int) (h3 : n0 = 243) (hn : M.2.2.2 = n0) (ho0 : o0 < 243 ∧ (SH o0).1 = 0) (hQ : ∀ x, Q x → Qp (some (vI x)) M) (h : P_X0_saidTogether_4 o0 x1 x2 M Q ) : WW p l e ({ frames := 3, cells := 0, slots := 0, locals := 64 }) s m args below meth c (ZQ below args s D cy G n0 Qp n0) 3 D cy G n0 4 [(0, vR (some o0)), (1, vI x1), (2, vI x2)] [] M := by
  refine lpW_sound (P := fun y : Int × Int => WW p l e ({ frames := 3, cells := 0, slots := 0, locals := 64 }) s m args below meth c (ZQ below args s D cy G n0 Qp n0) 3 D cy G n0 4 [(0, vR (some o0)), (1, vI y.1), (2, vI y.2)] [] M) ?_ h
  intro K y hK hF
  obtain ⟨x1, x2⟩ := y
  exact f_X0_saidTogether_4 C hr h3 hn ho0 hQ  (fun x1 x2 hk => hK (x1, x2) hk) hF
set_option maxRecDepth 100000 in
set_option maxHeartbeats 4000000 in
theorem k_X0_saidTogether_0 {o0 : Nat} {M : Mm} {Q : Int → Prop} (C : Cx p s m args meth c cX0_saidTogether 3 RX0 D cy G n0) (hr : meth.sig.returnType = some .int) (h3 : n0 = 243) (hn : M.2.2.2 = n0) (ho0 : o0 < 243 ∧ (SH o0).1 = 0) (hQ : ∀ x, Q x → Qp (some (vI x)) M) (h : P_X0_saidTogether o0 M Q ) : WW p l e ({ frames := 3, cells := 0, slots := 0, locals := 64 }) s m args below meth c (ZQ below args s D cy G n0 Qp n0) 3 D cy G n0 0 [(0, vR (some o0))] [] M := by
  unfold P_X0_saidTogether at h
  refine w_iconst C dX0_saidTogether_0 ⟨by decide, by decide⟩ ?_
  refine x_istore_n (L' := [(1, vI 0), (0, vR (some o0))]) C dX0_saidTogether_1 rfl (by decide) rfl ?_
  refine w_iconst C dX0_saidTogether_2 ⟨by decide, by decide⟩ ?_
  refine x_istore_n (L' := [(2, vI 0), (1, vI 0), (0, vR (some o0))]) C dX0_saidTogether_3 rfl (by decide) rfl ?_
  refine x_pc (pc2 := 4) rfl ?_
  refine x_pick (L' := [(0, vR (some o0)), (1, vI 0), (2, vI 0)]) [2, 1, 0] rfl ?_
  exact k_X0_saidTogether_4 C hr h3 hn ho0 hQ  h
set_option maxRecDepth 100000 in
set_option maxHeartbeats 4000000 in
theorem con_X0_saidTogether (l : Launch) (D : va_G) (cy : Nat → ClassId) : Con l D cy yX0_saidTogether cX0_saidTogether 3 (some .int) ({ frames := 3, cells := 0, slots := 0, locals := 64 }) 0 0 SP_X0_saidTogether := by
  refine con_of (by decide) (fun as M Qp h => ?_) ?_
  · obtain ⟨-, o0, rfl, -⟩ := h
    exact Nat.le_of_ble_eq_true rfl
  · intro p e s m args below meth c G as M Qp h C hr hnm
    obtain ⟨hn, o0, rfl, ho1, ho2, Q0, hQ, h⟩ := h
    refine x_pick (L' := [(0, vR (some o0))]) [0] rfl ?_
    exact k_X0_saidTogether_0 C hr hn rfl ⟨ho1, ho2⟩ hQ h
set_option maxRecDepth 100000 in
set_option maxHeartbeats 4000000 in
theorem cl_X0_saidTogether {p : Program} {l : Launch} {e : Env} {R : Room} {s : State} {m : MethodId} {args : Array Value} {below : List Frame} {meth : Method} {c : Code} {Q : State → Prop} {cc : ByteArray} {nL : Nat} {own : String} {D : va_G} {cy : Nat → ClassId} {G : Nat × Nat} {n0 pc : Nat} {L : List (Nat × PV)} {st : List PV} {M : Mm} {op : Instr} (K : CallOK l D cy R own op 0 0 (spV 0 0 SP_X0_saidTogether)) (C : Cx p s m args meth c cc nL own D cy G n0) (hd : decode cc pc = .ok (op, 3)) (hn : M.2.2.2 = n0) (h3 : n0 = 243) (hlen : argN st ≤ 8) {r : Option Nat} {o0 : Nat} (ho : isOn 0 M.2.2.2 r o0)  {Q0 : Int → Prop} (h : P_X0_saidTogether o0 M Q0) (k : ∀ x, Q0 x → WW p l e R s m args below meth c Q nL D cy G n0  (pc + 3) L (vI x :: st) M) : WW p l e R s m args below meth c Q nL D cy G n0  pc L (vR r :: st) M := by
  obtain ⟨rfl, ho1, ho2⟩ := ho
  refine x_call0 K C hd (as := [vR (some o0)]) rfl hn hlen (fun v M2 => ∃ x, v = some (vI x) ∧ M2 = M ∧ Q0 x) ⟨⟨o0, [], rfl, rfl, ho1, ho2⟩, hn.trans h3, o0, rfl, (hn.trans h3) ▸ ho1, ho2, Q0, fun x hx => ⟨x, rfl, rfl, hx⟩, h⟩ ?_
  rintro _ _ ⟨x, rfl, rfl, hx⟩ hm
  exact k x hx
end W_X0_saidTogether
theorem dX1_bodyAt_0 : decode cX1_bodyAt 0 = .ok (.iload_n 1, 1) := by decide +kernel
theorem dX1_bodyAt_1 : decode cX1_bodyAt 1 = .ok (.iconst 0, 1) := by decide +kernel
theorem dX1_bodyAt_2 : decode cX1_bodyAt 2 = .ok (.aload_n 0, 1) := by decide +kernel
theorem dX1_bodyAt_3 : decode cX1_bodyAt 3 = .ok (.getfield 26, 3) := by decide +kernel
theorem dX1_bodyAt_6 : decode cX1_bodyAt 6 = .ok (.iconst 1, 1) := by decide +kernel
theorem dX1_bodyAt_7 : decode cX1_bodyAt 7 = .ok (.isub, 1) := by decide +kernel
theorem dX1_bodyAt_8 : decode cX1_bodyAt 8 = .ok (.invokestatic 29, 3) := by decide +kernel
theorem dX1_bodyAt_11 : decode cX1_bodyAt 11 = .ok (.ifCond .eq 12, 3) := by decide +kernel
theorem dX1_bodyAt_14 : decode cX1_bodyAt 14 = .ok (.aload_n 0, 1) := by decide +kernel
theorem dX1_bodyAt_15 : decode cX1_bodyAt 15 = .ok (.getfield 11, 3) := by decide +kernel
theorem dX1_bodyAt_18 : decode cX1_bodyAt 18 = .ok (.iload_n 1, 1) := by decide +kernel
theorem dX1_bodyAt_19 : decode cX1_bodyAt 19 = .ok (.aaload, 1) := by decide +kernel
theorem dX1_bodyAt_20 : decode cX1_bodyAt 20 = .ok (.goto 4, 3) := by decide +kernel
theorem dX1_bodyAt_23 : decode cX1_bodyAt 23 = .ok (.aconst_null, 1) := by decide +kernel
theorem dX1_bodyAt_24 : decode cX1_bodyAt 24 = .ok (.areturn, 1) := by decide +kernel
theorem fw_X1_26 : fI RX1 26 1 1 := ⟨⟨lwG_1 (i := 201) rfl rfl, by decide, by decide⟩, rfl⟩
theorem ck_X1_29 {l : Launch} {D : va_G} {cy : Nat → ClassId} {R : Room} (hR : 1 ≤ R.frames ∧ 22 ≤ R.locals) : CallOK l D cy R RX1 (.invokestatic 29) 0 0 (spS 3 SP_X11_isWithin) := call_SN (con_X11_isWithin l D cy) (List.mem_append_right _ (List.mem_append_right _ (List.mem_append_left _ (List.mem_of_getElem? (i := 183) rfl)))) (lwG_2 (i := 92) rfl rfl) (lwG_1 (i := 1) rfl rfl) (lwG_2 (i := 93) rfl rfl) ⟨by decide, by decide, rfl⟩ ⟨rfl, rfl⟩ hR
theorem fw_X1_11 : fR RX1 11 1 0 := ⟨⟨lwG_1 (i := 199) rfl rfl, by decide, by decide⟩, fun _ _ => rfl, fun r => ⟨r, rfl⟩⟩
section W_X1_bodyAt
variable {p : Program} {l : Launch} {e : Env} {s : State} {m : MethodId} {args : Array Value} {below : List Frame} {meth : Method} {c : Code} {D : va_G} {cy : Nat → ClassId} {G : Nat × Nat} {n0 : Nat} {Qp : Option PV → Mm → Prop}
set_option maxRecDepth 100000 in
set_option maxHeartbeats 4000000 in
theorem k_X1_bodyAt_0 {o0 : Nat} {x1 : Int} {M : Mm} {Q : Option Nat → Prop} (C : Cx p s m args meth c cX1_bodyAt 2 RX1 D cy G n0) (hr : meth.sig.returnType = some (.object "LongSeats$Body")) (h3 : n0 = 243) (hn : M.2.2.2 = n0) (ho0 : o0 < 243 ∧ (SH o0).1 = 1) (hQ : ∀ x, Q x → Qp (some (vR x)) M) (h : P_X1_bodyAt o0 x1 M Q ) : WW p l e ({ frames := 1, cells := 0, slots := 0, locals := 22 }) s m args below meth c (ZQ below args s D cy G n0 Qp n0) 2 D cy G n0 0 [(0, vR (some o0)), (1, vI x1)] [] M := by
  unfold P_X1_bodyAt at h
  refine w_iload_n C dX1_bodyAt_0 rfl (mem_k 1 rfl) ?_
  refine w_iconst C dX1_bodyAt_1 ⟨by decide, by decide⟩ ?_
  refine w_aload_n C dX1_bodyAt_2 rfl (mem_k 0 rfl) ?_
  refine x_getI C dX1_bodyAt_3 fw_X1_26 (isO.n (ci := 1) ⟨rfl, ho0⟩ (hn.trans h3)) ?_
  refine w_iconst C dX1_bodyAt_6 ⟨by decide, by decide⟩ ?_
  refine w_isub C dX1_bodyAt_7 h.1 ?_
  replace h := h.2
  refine cl_X11_isWithin (ck_X1_29 ⟨by decide, by decide⟩) C dX1_bodyAt_8 hn h3 (Nat.le_of_ble_eq_true rfl) h (fun v1 h => ?_)
  refine w_if_eq (tgt := 23) C dX1_bodyAt_11 (by decide) (fun q => ?_) (fun q => ?_)
  · replace h := h.1 q
    refine w_null C dX1_bodyAt_23 ?_
    exact x_aret C hr (Or.inl ⟨_, rfl⟩) dX1_bodyAt_24 hn (hQ _ h)
  · replace h := h.2 q
    refine w_aload_n C dX1_bodyAt_14 rfl (mem_k 0 rfl) ?_
    refine x_getR C dX1_bodyAt_15 fw_X1_11 (isO.n (ci := 1) ⟨rfl, ho0⟩ (hn.trans h3)) (fun r2 er2 => ?_)
    replace h := h r2 er2
    refine w_iload_n C dX1_bodyAt_18 rfl (mem_k 1 rfl) ?_
    obtain ⟨o3, g4, h⟩ := h
    refine x_aald C dX1_bodyAt_19 (isA.n g4 (hn.trans h3)) (by decide) (fun r5 er5 => ?_)
    replace h := h r5 er5
    refine w_goto (tgt := 24) C dX1_bodyAt_20 (by decide) ?_
    exact x_aret C hr (Or.inl ⟨_, rfl⟩) dX1_bodyAt_24 hn (hQ _ h)
set_option maxRecDepth 100000 in
set_option maxHeartbeats 4000000 in
theorem con_X1_bodyAt (l : Launch) (D : va_G) (cy : Nat → ClassId) : Con l D cy yX1_bodyAt cX1_bodyAt 2 (some (.object "LongSeats$Body")) ({ frames := 1, cells := 0, slots := 0, locals := 22 }) 0 0 SP_X1_bodyAt := by
  refine con_of (by decide) (fun as M Qp h => ?_) ?_
  · obtain ⟨-, o0, x1, rfl, -⟩ := h
    exact Nat.le_of_ble_eq_true rfl
  · intro p e s m args below meth c G as M Qp h C hr hnm
    obtain ⟨hn, o0, x1, rfl, ho1, ho2, Q0, hQ, h⟩ := h
    refine x_pick (L' := [(0, vR (some o0)), (1, vI x1)]) [0, 1] rfl ?_
    exact k_X1_bodyAt_0 C hr hn rfl ⟨ho1, ho2⟩ hQ h
set_option maxRecDepth 100000 in
set_option maxHeartbeats 4000000 in
theorem cl_X1_bodyAt {p : Program} {l : Launch} {e : Env} {R : Room} {s : State} {m : MethodId} {args : Array Value} {below : List Frame} {meth : Method} {c : Code} {Q : State → Prop} {cc : ByteArray} {nL : Nat} {own : String} {D : va_G} {cy : Nat → ClassId} {G : Nat × Nat} {n0 pc : Nat} {L : List (Nat × PV)} {st : List PV} {M : Mm} {op : Instr} (K : CallOK l D cy R own op 0 0 (spV 1 1 SP_X1_bodyAt)) (C : Cx p s m args meth c cc nL own D cy G n0) (hd : decode cc pc = .ok (op, 3)) (hn : M.2.2.2 = n0) (h3 : n0 = 243) (hlen : argN st ≤ 8) {r : Option Nat} {o0 : Nat} (ho : isOn 1 M.2.2.2 r o0) {x1 : Int} {Q0 : Option Nat → Prop} (h : P_X1_bodyAt o0 x1 M Q0) (k : ∀ x, Q0 x → WW p l e R s m args below meth c Q nL D cy G n0  (pc + 3) L (vR x :: st) M) : WW p l e R s m args below meth c Q nL D cy G n0  pc L (vI x1 :: vR r :: st) M := by
  obtain ⟨rfl, ho1, ho2⟩ := ho
  refine x_call0 K C hd (as := [vR (some o0), vI x1]) rfl hn hlen (fun v M2 => ∃ x, v = some (vR x) ∧ M2 = M ∧ Q0 x) ⟨⟨o0, [vI x1], rfl, rfl, ho1, ho2⟩, hn.trans h3, o0, x1, rfl, (hn.trans h3) ▸ ho1, ho2, Q0, fun x hx => ⟨x, rfl, rfl, hx⟩, h⟩ ?_
  rintro _ _ ⟨x, rfl, rfl, hx⟩ hm
  exact k x hx
end W_X1_bodyAt
theorem dX1_nextBody_0 : decode cX1_nextBody 0 = .ok (.aload_n 0, 1) := by decide +kernel
theorem dX1_nextBody_1 : decode cX1_nextBody 1 = .ok (.getfield 26, 3) := by decide +kernel
theorem dX1_nextBody_4 : decode cX1_nextBody 4 = .ok (.bipush 12, 2) := by decide +kernel
theorem dX1_nextBody_6 : decode cX1_nextBody 6 = .ok (.if_icmp .ne 5, 3) := by decide +kernel
theorem dX1_nextBody_9 : decode cX1_nextBody 9 = .ok (.aconst_null, 1) := by decide +kernel
theorem dX1_nextBody_10 : decode cX1_nextBody 10 = .ok (.areturn, 1) := by decide +kernel
theorem dX1_nextBody_11 : decode cX1_nextBody 11 = .ok (.aload_n 0, 1) := by decide +kernel
theorem dX1_nextBody_12 : decode cX1_nextBody 12 = .ok (.dup, 1) := by decide +kernel
theorem dX1_nextBody_13 : decode cX1_nextBody 13 = .ok (.getfield 26, 3) := by decide +kernel
theorem dX1_nextBody_16 : decode cX1_nextBody 16 = .ok (.iconst 1, 1) := by decide +kernel
theorem dX1_nextBody_17 : decode cX1_nextBody 17 = .ok (.iadd, 1) := by decide +kernel
theorem dX1_nextBody_18 : decode cX1_nextBody 18 = .ok (.putfield 26, 3) := by decide +kernel
theorem dX1_nextBody_21 : decode cX1_nextBody 21 = .ok (.aload_n 0, 1) := by decide +kernel
theorem dX1_nextBody_22 : decode cX1_nextBody 22 = .ok (.getfield 11, 3) := by decide +kernel
theorem dX1_nextBody_25 : decode cX1_nextBody 25 = .ok (.aload_n 0, 1) := by decide +kernel
theorem dX1_nextBody_26 : decode cX1_nextBody 26 = .ok (.getfield 26, 3) := by decide +kernel
theorem dX1_nextBody_29 : decode cX1_nextBody 29 = .ok (.iconst 1, 1) := by decide +kernel
theorem dX1_nextBody_30 : decode cX1_nextBody 30 = .ok (.isub, 1) := by decide +kernel
theorem dX1_nextBody_31 : decode cX1_nextBody 31 = .ok (.aaload, 1) := by decide +kernel
theorem dX1_nextBody_32 : decode cX1_nextBody 32 = .ok (.areturn, 1) := by decide +kernel
section W_X1_nextBody
variable {p : Program} {l : Launch} {e : Env} {s : State} {m : MethodId} {args : Array Value} {below : List Frame} {meth : Method} {c : Code} {D : va_G} {cy : Nat → ClassId} {G : Nat × Nat} {n0 : Nat} {Qp : Option PV → Mm → Prop}
set_option maxRecDepth 100000 in
set_option maxHeartbeats 4000000 in
theorem k_X1_nextBody_0 {o0 : Nat} {M : Mm} {Q : Option Nat → Mm → Prop} (C : Cx p s m args meth c cX1_nextBody 1 RX1 D cy G n0) (hr : meth.sig.returnType = some (.object "LongSeats$Body")) (h3 : n0 = 243) (hn : M.2.2.2 = n0) (ho0 : o0 < 243 ∧ (SH o0).1 = 1) (hQ : ∀ x M, Q x M → Qp (some (vR x)) M) (h : P_X1_nextBody o0 M Q ) : WW p l e ({ frames := 0, cells := 0, slots := 0, locals := 0 }) s m args below meth c (ZQ below args s D cy G n0 Qp n0) 1 D cy G n0 0 [(0, vR (some o0))] [] M := by
  unfold P_X1_nextBody at h
  refine w_aload_n C dX1_nextBody_0 rfl (mem_k 0 rfl) ?_
  refine x_getI C dX1_nextBody_1 fw_X1_26 (isO.n (ci := 1) ⟨rfl, ho0⟩ (hn.trans h3)) ?_
  refine w_bipush C dX1_nextBody_4 (by decide) ?_
  refine w_icmp_ne (tgt := 11) C dX1_nextBody_6 (by decide) (fun q => ?_) (fun q => ?_)
  · replace h := h.1 q
    refine w_aload_n C dX1_nextBody_11 rfl (mem_k 0 rfl) ?_
    refine w_dup C dX1_nextBody_12 rfl ?_
    refine x_getI C dX1_nextBody_13 fw_X1_26 (isO.n (ci := 1) ⟨rfl, ho0⟩ (hn.trans h3)) ?_
    refine w_iconst C dX1_nextBody_16 ⟨by decide, by decide⟩ ?_
    refine w_iadd C dX1_nextBody_17 h.1 ?_
    replace h := h.2
    refine x_putI C dX1_nextBody_18 fw_X1_26 (isO.n (ci := 1) ⟨rfl, ho0⟩ (hn.trans h3)) (Or.inl rfl) (fun M1 eM1 hn2 => ?_)
    replace h := h M1 eM1
    replace hn2 := hn2.trans hn
    refine w_aload_n C dX1_nextBody_21 rfl (mem_k 0 rfl) ?_
    refine x_getR C dX1_nextBody_22 fw_X1_11 (isO.n (ci := 1) ⟨rfl, ho0⟩ (hn2.trans h3)) (fun r3 er3 => ?_)
    replace h := h r3 er3
    refine w_aload_n C dX1_nextBody_25 rfl (mem_k 0 rfl) ?_
    refine x_getI C dX1_nextBody_26 fw_X1_26 (isO.n (ci := 1) ⟨rfl, ho0⟩ (hn2.trans h3)) ?_
    refine w_iconst C dX1_nextBody_29 ⟨by decide, by decide⟩ ?_
    refine w_isub C dX1_nextBody_30 h.1 ?_
    replace h := h.2
    obtain ⟨o4, g5, h⟩ := h
    refine x_aald C dX1_nextBody_31 (isA.n g5 (hn2.trans h3)) (by decide) (fun r6 er6 => ?_)
    replace h := h r6 er6
    exact x_aret C hr (Or.inl ⟨_, rfl⟩) dX1_nextBody_32 hn2 (hQ _ M1 h)
  · replace h := h.2 q
    refine w_null C dX1_nextBody_9 ?_
    exact x_aret C hr (Or.inl ⟨_, rfl⟩) dX1_nextBody_10 hn (hQ _ M h)
set_option maxRecDepth 100000 in
set_option maxHeartbeats 4000000 in
theorem con_X1_nextBody (l : Launch) (D : va_G) (cy : Nat → ClassId) : Con l D cy yX1_nextBody cX1_nextBody 1 (some (.object "LongSeats$Body")) ({ frames := 0, cells := 0, slots := 0, locals := 0 }) 0 0 SP_X1_nextBody := by
  refine con_of (by decide) (fun as M Qp h => ?_) ?_
  · obtain ⟨-, o0, rfl, -⟩ := h
    exact Nat.le_of_ble_eq_true rfl
  · intro p e s m args below meth c G as M Qp h C hr hnm
    obtain ⟨hn, o0, rfl, ho1, ho2, Q0, hQ, h⟩ := h
    refine x_pick (L' := [(0, vR (some o0))]) [0] rfl ?_
    exact k_X1_nextBody_0 C hr hn rfl ⟨ho1, ho2⟩ hQ h
set_option maxRecDepth 100000 in
set_option maxHeartbeats 4000000 in
theorem cl_X1_nextBody {p : Program} {l : Launch} {e : Env} {R : Room} {s : State} {m : MethodId} {args : Array Value} {below : List Frame} {meth : Method} {c : Code} {Q : State → Prop} {cc : ByteArray} {nL : Nat} {own : String} {D : va_G} {cy : Nat → ClassId} {G : Nat × Nat} {n0 pc : Nat} {L : List (Nat × PV)} {st : List PV} {M : Mm} {op : Instr} (K : CallOK l D cy R own op 0 0 (spV 1 0 SP_X1_nextBody)) (C : Cx p s m args meth c cc nL own D cy G n0) (hd : decode cc pc = .ok (op, 3)) (hn : M.2.2.2 = n0) (h3 : n0 = 243) (hlen : argN st ≤ 8) {r : Option Nat} {o0 : Nat} (ho : isOn 1 M.2.2.2 r o0)  {Q0 : Option Nat → Mm → Prop} (h : P_X1_nextBody o0 M Q0) (k : ∀ x M2, Q0 x M2 → M2.2.2.2 = n0 → WW p l e R s m args below meth c Q nL D cy G n0  (pc + 3) L (vR x :: st) M2) : WW p l e R s m args below meth c Q nL D cy G n0  pc L (vR r :: st) M := by
  obtain ⟨rfl, ho1, ho2⟩ := ho
  refine x_call0 K C hd (as := [vR (some o0)]) rfl hn hlen (fun v M2 => ∃ x, v = some (vR x) ∧ Q0 x M2) ⟨⟨o0, [], rfl, rfl, ho1, ho2⟩, hn.trans h3, o0, rfl, (hn.trans h3) ▸ ho1, ho2, Q0, fun x M2 hx => ⟨x, rfl, hx⟩, h⟩ ?_
  rintro _ _ ⟨x, rfl, hx⟩ hm
  exact k x _ hx hm
end W_X1_nextBody
theorem dX1_peopleOf_0 : decode cX1_peopleOf 0 = .ok (.iconst 0, 1) := by decide +kernel
theorem dX1_peopleOf_1 : decode cX1_peopleOf 1 = .ok (.istore_n 2, 1) := by decide +kernel
theorem dX1_peopleOf_2 : decode cX1_peopleOf 2 = .ok (.iconst 0, 1) := by decide +kernel
theorem dX1_peopleOf_3 : decode cX1_peopleOf 3 = .ok (.istore_n 3, 1) := by decide +kernel
theorem dX1_peopleOf_4 : decode cX1_peopleOf 4 = .ok (.iload_n 3, 1) := by decide +kernel
theorem dX1_peopleOf_5 : decode cX1_peopleOf 5 = .ok (.aload_n 0, 1) := by decide +kernel
theorem dX1_peopleOf_6 : decode cX1_peopleOf 6 = .ok (.getfield 26, 3) := by decide +kernel
theorem dX1_peopleOf_9 : decode cX1_peopleOf 9 = .ok (.if_icmp .ge 30, 3) := by decide +kernel
theorem dX1_peopleOf_12 : decode cX1_peopleOf 12 = .ok (.iload_n 1, 1) := by decide +kernel
theorem dX1_peopleOf_13 : decode cX1_peopleOf 13 = .ok (.iload_n 3, 1) := by decide +kernel
theorem dX1_peopleOf_14 : decode cX1_peopleOf 14 = .ok (.ishr, 1) := by decide +kernel
theorem dX1_peopleOf_15 : decode cX1_peopleOf 15 = .ok (.iconst 1, 1) := by decide +kernel
theorem dX1_peopleOf_16 : decode cX1_peopleOf 16 = .ok (.iand, 1) := by decide +kernel
theorem dX1_peopleOf_17 : decode cX1_peopleOf 17 = .ok (.iconst 1, 1) := by decide +kernel
theorem dX1_peopleOf_18 : decode cX1_peopleOf 18 = .ok (.if_icmp .ne 15, 3) := by decide +kernel
theorem dX1_peopleOf_21 : decode cX1_peopleOf 21 = .ok (.iload_n 2, 1) := by decide +kernel
theorem dX1_peopleOf_22 : decode cX1_peopleOf 22 = .ok (.aload_n 0, 1) := by decide +kernel
theorem dX1_peopleOf_23 : decode cX1_peopleOf 23 = .ok (.getfield 11, 3) := by decide +kernel
theorem dX1_peopleOf_26 : decode cX1_peopleOf 26 = .ok (.iload_n 3, 1) := by decide +kernel
theorem dX1_peopleOf_27 : decode cX1_peopleOf 27 = .ok (.aaload, 1) := by decide +kernel
theorem dX1_peopleOf_28 : decode cX1_peopleOf 28 = .ok (.getfield 37, 3) := by decide +kernel
theorem dX1_peopleOf_31 : decode cX1_peopleOf 31 = .ok (.iadd, 1) := by decide +kernel
theorem dX1_peopleOf_32 : decode cX1_peopleOf 32 = .ok (.istore_n 2, 1) := by decide +kernel
theorem dX1_peopleOf_33 : decode cX1_peopleOf 33 = .ok (.iinc 3 1, 3) := by decide +kernel
theorem dX1_peopleOf_36 : decode cX1_peopleOf 36 = .ok (.goto (-32), 3) := by decide +kernel
theorem dX1_peopleOf_39 : decode cX1_peopleOf 39 = .ok (.iload_n 2, 1) := by decide +kernel
theorem dX1_peopleOf_40 : decode cX1_peopleOf 40 = .ok (.ireturn, 1) := by decide +kernel
theorem fw_X1_37 : fI RX1 37 0 5 := ⟨⟨lwG_1 (i := 176) rfl rfl, by decide, by decide⟩, rfl⟩
section W_X1_peopleOf
variable {p : Program} {l : Launch} {e : Env} {s : State} {m : MethodId} {args : Array Value} {below : List Frame} {meth : Method} {c : Code} {D : va_G} {cy : Nat → ClassId} {G : Nat × Nat} {n0 : Nat} {Qp : Option PV → Mm → Prop}
set_option maxRecDepth 100000 in
set_option maxHeartbeats 4000000 in
theorem f_X1_peopleOf_4 {o0 : Nat} {x1 : Int} {x2 : Int} {x3 : Int} {M : Mm} {Q : Int → Prop} {K4 : Int × Int → Prop} (C : Cx p s m args meth c cX1_peopleOf 4 RX1 D cy G n0) (hr : meth.sig.returnType = some .int) (h3 : n0 = 243) (hn : M.2.2.2 = n0) (ho0 : o0 < 243 ∧ (SH o0).1 = 1) (hQ : ∀ x, Q x → Qp (some (vI x)) M) (hK4 : ∀ (x2 : Int) (x3 : Int), K4 (x2, x3) → WW p l e ({ frames := 0, cells := 0, slots := 0, locals := 0 }) s m args below meth c (ZQ below args s D cy G n0 Qp n0) 4 D cy G n0 4 [(0, vR (some o0)), (1, vI x1), (2, vI x2), (3, vI x3)] [] M) (h : F_X1_peopleOf_4 o0 x1 M Q  K4 x2 x3) : WW p l e ({ frames := 0, cells := 0, slots := 0, locals := 0 }) s m args below meth c (ZQ below args s D cy G n0 Qp n0) 4 D cy G n0 4 [(0, vR (some o0)), (1, vI x1), (2, vI x2), (3, vI x3)] [] M := by
  unfold F_X1_peopleOf_4 at h
  refine w_iload_n C dX1_peopleOf_4 rfl (mem_k 3 rfl) ?_
  refine w_aload_n C dX1_peopleOf_5 rfl (mem_k 0 rfl) ?_
  refine x_getI C dX1_peopleOf_6 fw_X1_26 (isO.n (ci := 1) ⟨rfl, ho0⟩ (hn.trans h3)) ?_
  refine w_icmp_ge (tgt := 39) C dX1_peopleOf_9 (by decide) (fun q => ?_) (fun q => ?_)
  · replace h := h.1 q
    refine w_iload_n C dX1_peopleOf_39 rfl (mem_k 2 rfl) ?_
    exact x_iret C hr dX1_peopleOf_40 hn (hQ _ h)
  · replace h := h.2 q
    refine w_iload_n C dX1_peopleOf_12 rfl (mem_k 1 rfl) ?_
    refine w_iload_n C dX1_peopleOf_13 rfl (mem_k 3 rfl) ?_
    refine w_ishr C dX1_peopleOf_14 ?_
    refine w_iconst C dX1_peopleOf_15 ⟨by decide, by decide⟩ ?_
    refine w_iand C dX1_peopleOf_16 ?_
    refine w_iconst C dX1_peopleOf_17 ⟨by decide, by decide⟩ ?_
    refine w_icmp_ne (tgt := 33) C dX1_peopleOf_18 (by decide) (fun q => ?_) (fun q => ?_)
    · replace h := h.1 q
      obtain ⟨v1, ev1⟩ : ∃ z : Int, z = x3 + 1 := ⟨_, rfl⟩
      refine x_iinc (L' := [(3, vI v1), (0, vR (some o0)), (1, vI x1), (2, vI x2)]) C dX1_peopleOf_33 (mem_k 3 rfl) (by decide) h.1 ev1 rfl ?_
      replace h := h.2 v1 ev1
      refine w_goto (tgt := 4) C dX1_peopleOf_36 (by decide) ?_
      refine x_pc (pc2 := 4) rfl ?_
      refine x_pick (L' := [(0, vR (some o0)), (1, vI x1), (2, vI x2), (3, vI v1)]) [1, 2, 3, 0] rfl ?_
      exact hK4 x2 v1 h
    · replace h := h.2 q
      refine w_iload_n C dX1_peopleOf_21 rfl (mem_k 2 rfl) ?_
      refine w_aload_n C dX1_peopleOf_22 rfl (mem_k 0 rfl) ?_
      refine x_getR C dX1_peopleOf_23 fw_X1_11 (isO.n (ci := 1) ⟨rfl, ho0⟩ (hn.trans h3)) (fun r2 er2 => ?_)
      replace h := h r2 er2
      refine w_iload_n C dX1_peopleOf_26 rfl (mem_k 3 rfl) ?_
      obtain ⟨o3, g4, h⟩ := h
      refine x_aald C dX1_peopleOf_27 (isA.n g4 (hn.trans h3)) (by decide) (fun r5 er5 => ?_)
      replace h := h r5 er5
      obtain ⟨o6, g7, h⟩ := h
      refine x_getI C dX1_peopleOf_28 fw_X1_37 (isO.n g7 (hn.trans h3)) ?_
      refine w_iadd C dX1_peopleOf_31 h.1 ?_
      replace h := h.2
      refine x_nmI (fun v8 ev8 => ?_)
      replace h := h v8 ev8
      refine x_istore_n (L' := [(2, vI v8), (0, vR (some o0)), (1, vI x1), (3, vI x3)]) C dX1_peopleOf_32 rfl (by decide) rfl ?_
      obtain ⟨v9, ev9⟩ : ∃ z : Int, z = x3 + 1 := ⟨_, rfl⟩
      refine x_iinc (L' := [(3, vI v9), (2, vI v8), (0, vR (some o0)), (1, vI x1)]) C dX1_peopleOf_33 (mem_k 3 rfl) (by decide) h.1 ev9 rfl ?_
      replace h := h.2 v9 ev9
      refine w_goto (tgt := 4) C dX1_peopleOf_36 (by decide) ?_
      refine x_pc (pc2 := 4) rfl ?_
      refine x_pick (L' := [(0, vR (some o0)), (1, vI x1), (2, vI v8), (3, vI v9)]) [2, 3, 1, 0] rfl ?_
      exact hK4 v8 v9 h
set_option maxRecDepth 100000 in
set_option maxHeartbeats 4000000 in
theorem k_X1_peopleOf_4 {o0 : Nat} {x1 : Int} {x2 : Int} {x3 : Int} {M : Mm} {Q : Int → Prop} (C : Cx p s m args meth c cX1_peopleOf 4 RX1 D cy G n0) (hr : meth.sig.returnType = some .int) (h3 : n0 = 243) (hn : M.2.2.2 = n0) (ho0 : o0 < 243 ∧ (SH o0).1 = 1) (hQ : ∀ x, Q x → Qp (some (vI x)) M) (h : P_X1_peopleOf_4 o0 x1 x2 x3 M Q ) : WW p l e ({ frames := 0, cells := 0, slots := 0, locals := 0 }) s m args below meth c (ZQ below args s D cy G n0 Qp n0) 4 D cy G n0 4 [(0, vR (some o0)), (1, vI x1), (2, vI x2), (3, vI x3)] [] M := by
  refine lpW_sound (P := fun y : Int × Int => WW p l e ({ frames := 0, cells := 0, slots := 0, locals := 0 }) s m args below meth c (ZQ below args s D cy G n0 Qp n0) 4 D cy G n0 4 [(0, vR (some o0)), (1, vI x1), (2, vI y.1), (3, vI y.2)] [] M) ?_ h
  intro K y hK hF
  obtain ⟨x2, x3⟩ := y
  exact f_X1_peopleOf_4 C hr h3 hn ho0 hQ  (fun x2 x3 hk => hK (x2, x3) hk) hF
set_option maxRecDepth 100000 in
set_option maxHeartbeats 4000000 in
theorem k_X1_peopleOf_0 {o0 : Nat} {x1 : Int} {M : Mm} {Q : Int → Prop} (C : Cx p s m args meth c cX1_peopleOf 4 RX1 D cy G n0) (hr : meth.sig.returnType = some .int) (h3 : n0 = 243) (hn : M.2.2.2 = n0) (ho0 : o0 < 243 ∧ (SH o0).1 = 1) (hQ : ∀ x, Q x → Qp (some (vI x)) M) (h : P_X1_peopleOf o0 x1 M Q ) : WW p l e ({ frames := 0, cells := 0, slots := 0, locals := 0 }) s m args below meth c (ZQ below args s D cy G n0 Qp n0) 4 D cy G n0 0 [(0, vR (some o0)), (1, vI x1)] [] M := by
  unfold P_X1_peopleOf at h
  refine w_iconst C dX1_peopleOf_0 ⟨by decide, by decide⟩ ?_
  refine x_istore_n (L' := [(2, vI 0), (0, vR (some o0)), (1, vI x1)]) C dX1_peopleOf_1 rfl (by decide) rfl ?_
  refine w_iconst C dX1_peopleOf_2 ⟨by decide, by decide⟩ ?_
  refine x_istore_n (L' := [(3, vI 0), (2, vI 0), (0, vR (some o0)), (1, vI x1)]) C dX1_peopleOf_3 rfl (by decide) rfl ?_
  refine x_pc (pc2 := 4) rfl ?_
  refine x_pick (L' := [(0, vR (some o0)), (1, vI x1), (2, vI 0), (3, vI 0)]) [2, 3, 1, 0] rfl ?_
  exact k_X1_peopleOf_4 C hr h3 hn ho0 hQ  h
set_option maxRecDepth 100000 in
set_option maxHeartbeats 4000000 in
theorem con_X1_peopleOf (l : Launch) (D : va_G) (cy : Nat → ClassId) : Con l D cy yX1_peopleOf cX1_peopleOf 4 (some .int) ({ frames := 0, cells := 0, slots := 0, locals := 0 }) 0 0 SP_X1_peopleOf := by
  refine con_of (by decide) (fun as M Qp h => ?_) ?_
  · obtain ⟨-, o0, x1, rfl, -⟩ := h
    exact Nat.le_of_ble_eq_true rfl
  · intro p e s m args below meth c G as M Qp h C hr hnm
    obtain ⟨hn, o0, x1, rfl, ho1, ho2, Q0, hQ, h⟩ := h
    refine x_pick (L' := [(0, vR (some o0)), (1, vI x1)]) [0, 1] rfl ?_
    exact k_X1_peopleOf_0 C hr hn rfl ⟨ho1, ho2⟩ hQ h
set_option maxRecDepth 100000 in
set_option maxHeartbeats 4000000 in
theorem cl_X1_peopleOf {p : Program} {l : Launch} {e : Env} {R : Room} {s : State} {m : MethodId} {args : Array Value} {below : List Frame} {meth : Method} {c : Code} {Q : State → Prop} {cc : ByteArray} {nL : Nat} {own : String} {D : va_G} {cy : Nat → ClassId} {G : Nat × Nat} {n0 pc : Nat} {L : List (Nat × PV)} {st : List PV} {M : Mm} {op : Instr} (K : CallOK l D cy R own op 0 0 (spV 1 1 SP_X1_peopleOf)) (C : Cx p s m args meth c cc nL own D cy G n0) (hd : decode cc pc = .ok (op, 3)) (hn : M.2.2.2 = n0) (h3 : n0 = 243) (hlen : argN st ≤ 8) {r : Option Nat} {o0 : Nat} (ho : isOn 1 M.2.2.2 r o0) {x1 : Int} {Q0 : Int → Prop} (h : P_X1_peopleOf o0 x1 M Q0) (k : ∀ x, Q0 x → WW p l e R s m args below meth c Q nL D cy G n0  (pc + 3) L (vI x :: st) M) : WW p l e R s m args below meth c Q nL D cy G n0  pc L (vI x1 :: vR r :: st) M := by
  obtain ⟨rfl, ho1, ho2⟩ := ho
  refine x_call0 K C hd (as := [vR (some o0), vI x1]) rfl hn hlen (fun v M2 => ∃ x, v = some (vI x) ∧ M2 = M ∧ Q0 x) ⟨⟨o0, [vI x1], rfl, rfl, ho1, ho2⟩, hn.trans h3, o0, x1, rfl, (hn.trans h3) ▸ ho1, ho2, Q0, fun x hx => ⟨x, rfl, rfl, hx⟩, h⟩ ?_
  rintro _ _ ⟨x, rfl, rfl, hx⟩ hm
  exact k x hx
end W_X1_peopleOf
theorem dX1_people_0 : decode cX1_people 0 = .ok (.aload_n 0, 1) := by decide +kernel
theorem dX1_people_1 : decode cX1_people 1 = .ok (.iconst 1, 1) := by decide +kernel
theorem dX1_people_2 : decode cX1_people 2 = .ok (.aload_n 0, 1) := by decide +kernel
theorem dX1_people_3 : decode cX1_people 3 = .ok (.getfield 26, 3) := by decide +kernel
theorem dX1_people_6 : decode cX1_people 6 = .ok (.ishl, 1) := by decide +kernel
theorem dX1_people_7 : decode cX1_people 7 = .ok (.iconst 1, 1) := by decide +kernel
theorem dX1_people_8 : decode cX1_people 8 = .ok (.isub, 1) := by decide +kernel
theorem dX1_people_9 : decode cX1_people 9 = .ok (.invokevirtual 33, 3) := by decide +kernel
theorem dX1_people_12 : decode cX1_people 12 = .ok (.ireturn, 1) := by decide +kernel
theorem ck_X1_33 {l : Launch} {D : va_G} {cy : Nat → ClassId} {R : Room} (hR : 1 ≤ R.frames ∧ 23 ≤ R.locals) : CallOK l D cy R RX1 (.invokevirtual 33) 0 0 (spV 1 1 SP_X1_peopleOf) := call_V (ci := 1) (con_X1_peopleOf l D cy) (lwG_3 (i := 73) rfl rfl) (lwG_3 (i := 75) rfl rfl) (lwG_p (i := 11) rfl rfl) (lwG_1 (i := 7) rfl rfl) (lwG_3 (i := 76) rfl rfl) (by decide) ⟨rfl, by decide, by decide, rfl⟩ ⟨rfl, rfl⟩ hR
section W_X1_people
variable {p : Program} {l : Launch} {e : Env} {s : State} {m : MethodId} {args : Array Value} {below : List Frame} {meth : Method} {c : Code} {D : va_G} {cy : Nat → ClassId} {G : Nat × Nat} {n0 : Nat} {Qp : Option PV → Mm → Prop}
set_option maxRecDepth 100000 in
set_option maxHeartbeats 4000000 in
theorem k_X1_people_0 {o0 : Nat} {M : Mm} {Q : Int → Prop} (C : Cx p s m args meth c cX1_people 1 RX1 D cy G n0) (hr : meth.sig.returnType = some .int) (h3 : n0 = 243) (hn : M.2.2.2 = n0) (ho0 : o0 < 243 ∧ (SH o0).1 = 1) (hQ : ∀ x, Q x → Qp (some (vI x)) M) (h : P_X1_people o0 M Q ) : WW p l e ({ frames := 1, cells := 0, slots := 0, locals := 23 }) s m args below meth c (ZQ below args s D cy G n0 Qp n0) 1 D cy G n0 0 [(0, vR (some o0))] [] M := by
  unfold P_X1_people at h
  refine w_aload_n C dX1_people_0 rfl (mem_k 0 rfl) ?_
  refine w_iconst C dX1_people_1 ⟨by decide, by decide⟩ ?_
  refine w_aload_n C dX1_people_2 rfl (mem_k 0 rfl) ?_
  refine x_getI C dX1_people_3 fw_X1_26 (isO.n (ci := 1) ⟨rfl, ho0⟩ (hn.trans h3)) ?_
  refine w_ishl C dX1_people_6 ?_
  refine w_iconst C dX1_people_7 ⟨by decide, by decide⟩ ?_
  refine w_isub C dX1_people_8 h.1 ?_
  replace h := h.2
  refine cl_X1_peopleOf (ck_X1_33 ⟨by decide, by decide⟩) C dX1_people_9 hn h3 (Nat.le_of_ble_eq_true rfl) (isO.n (ci := 1) ⟨rfl, ho0⟩ (hn.trans h3)) h (fun v1 h => ?_)
  exact x_iret C hr dX1_people_12 hn (hQ _ h)
set_option maxRecDepth 100000 in
set_option maxHeartbeats 4000000 in
theorem con_X1_people (l : Launch) (D : va_G) (cy : Nat → ClassId) : Con l D cy yX1_people cX1_people 1 (some .int) ({ frames := 1, cells := 0, slots := 0, locals := 23 }) 0 0 SP_X1_people := by
  refine con_of (by decide) (fun as M Qp h => ?_) ?_
  · obtain ⟨-, o0, rfl, -⟩ := h
    exact Nat.le_of_ble_eq_true rfl
  · intro p e s m args below meth c G as M Qp h C hr hnm
    obtain ⟨hn, o0, rfl, ho1, ho2, Q0, hQ, h⟩ := h
    refine x_pick (L' := [(0, vR (some o0))]) [0] rfl ?_
    exact k_X1_people_0 C hr hn rfl ⟨ho1, ho2⟩ hQ h
set_option maxRecDepth 100000 in
set_option maxHeartbeats 4000000 in
theorem cl_X1_people {p : Program} {l : Launch} {e : Env} {R : Room} {s : State} {m : MethodId} {args : Array Value} {below : List Frame} {meth : Method} {c : Code} {Q : State → Prop} {cc : ByteArray} {nL : Nat} {own : String} {D : va_G} {cy : Nat → ClassId} {G : Nat × Nat} {n0 pc : Nat} {L : List (Nat × PV)} {st : List PV} {M : Mm} {op : Instr} (K : CallOK l D cy R own op 0 0 (spV 1 0 SP_X1_people)) (C : Cx p s m args meth c cc nL own D cy G n0) (hd : decode cc pc = .ok (op, 3)) (hn : M.2.2.2 = n0) (h3 : n0 = 243) (hlen : argN st ≤ 8) {r : Option Nat} {o0 : Nat} (ho : isOn 1 M.2.2.2 r o0)  {Q0 : Int → Prop} (h : P_X1_people o0 M Q0) (k : ∀ x, Q0 x → WW p l e R s m args below meth c Q nL D cy G n0  (pc + 3) L (vI x :: st) M) : WW p l e R s m args below meth c Q nL D cy G n0  pc L (vR r :: st) M := by
  obtain ⟨rfl, ho1, ho2⟩ := ho
  refine x_call0 K C hd (as := [vR (some o0)]) rfl hn hlen (fun v M2 => ∃ x, v = some (vI x) ∧ M2 = M ∧ Q0 x) ⟨⟨o0, [], rfl, rfl, ho1, ho2⟩, hn.trans h3, o0, rfl, (hn.trans h3) ▸ ho1, ho2, Q0, fun x hx => ⟨x, rfl, rfl, hx⟩, h⟩ ?_
  rintro _ _ ⟨x, rfl, rfl, hx⟩ hm
  exact k x hx
end W_X1_people
theorem dX8_heightInMm_0 : decode cX8_heightInMm 0 = .ok (.aload_n 0, 1) := by decide +kernel
theorem dX8_heightInMm_1 : decode cX8_heightInMm 1 = .ok (.getfield 20, 3) := by decide +kernel
theorem dX8_heightInMm_4 : decode cX8_heightInMm 4 = .ok (.bipush 20, 2) := by decide +kernel
theorem dX8_heightInMm_6 : decode cX8_heightInMm 6 = .ok (.iload_n 1, 1) := by decide +kernel
theorem dX8_heightInMm_7 : decode cX8_heightInMm 7 = .ok (.imul, 1) := by decide +kernel
theorem dX8_heightInMm_8 : decode cX8_heightInMm 8 = .ok (.iadd, 1) := by decide +kernel
theorem dX8_heightInMm_9 : decode cX8_heightInMm 9 = .ok (.ireturn, 1) := by decide +kernel
theorem fw_X8_20 : fI RX8 20 8 0 := ⟨⟨lwG_1 (i := 108) rfl rfl, by decide, by decide⟩, rfl⟩
section W_X8_heightInMm
variable {p : Program} {l : Launch} {e : Env} {s : State} {m : MethodId} {args : Array Value} {below : List Frame} {meth : Method} {c : Code} {D : va_G} {cy : Nat → ClassId} {G : Nat × Nat} {n0 : Nat} {Qp : Option PV → Mm → Prop}
set_option maxRecDepth 100000 in
set_option maxHeartbeats 4000000 in
theorem k_X8_heightInMm_0 {o0 : Nat} {x1 : Int} {M : Mm} {Q : Int → Prop} (C : Cx p s m args meth c cX8_heightInMm 2 RX8 D cy G n0) (hr : meth.sig.returnType = some .int) (h3 : n0 = 243) (hn : M.2.2.2 = n0) (ho0 : o0 < 243 ∧ (SH o0).1 = 8) (hQ : ∀ x, Q x → Qp (some (vI x)) M) (h : P_X8_heightInMm o0 x1 M Q ) : WW p l e ({ frames := 0, cells := 0, slots := 0, locals := 0 }) s m args below meth c (ZQ below args s D cy G n0 Qp n0) 2 D cy G n0 0 [(0, vR (some o0)), (1, vI x1)] [] M := by
  unfold P_X8_heightInMm at h
  refine w_aload_n C dX8_heightInMm_0 rfl (mem_k 0 rfl) ?_
  refine x_getI C dX8_heightInMm_1 fw_X8_20 (isO.n (ci := 8) ⟨rfl, ho0⟩ (hn.trans h3)) ?_
  refine w_bipush C dX8_heightInMm_4 (by decide) ?_
  refine w_iload_n C dX8_heightInMm_6 rfl (mem_k 1 rfl) ?_
  refine w_imul C dX8_heightInMm_7 h.1 ?_
  replace h := h.2
  refine w_iadd C dX8_heightInMm_8 h.1 ?_
  replace h := h.2
  exact x_iret C hr dX8_heightInMm_9 hn (hQ _ h)
set_option maxRecDepth 100000 in
set_option maxHeartbeats 4000000 in
theorem con_X8_heightInMm (l : Launch) (D : va_G) (cy : Nat → ClassId) : Con l D cy yX8_heightInMm cX8_heightInMm 2 (some .int) ({ frames := 0, cells := 0, slots := 0, locals := 0 }) 0 0 SP_X8_heightInMm := by
  refine con_of (by decide) (fun as M Qp h => ?_) ?_
  · obtain ⟨-, o0, x1, rfl, -⟩ := h
    exact Nat.le_of_ble_eq_true rfl
  · intro p e s m args below meth c G as M Qp h C hr hnm
    obtain ⟨hn, o0, x1, rfl, ho1, ho2, Q0, hQ, h⟩ := h
    refine x_pick (L' := [(0, vR (some o0)), (1, vI x1)]) [0, 1] rfl ?_
    exact k_X8_heightInMm_0 C hr hn rfl ⟨ho1, ho2⟩ hQ h
set_option maxRecDepth 100000 in
set_option maxHeartbeats 4000000 in
theorem cl_X8_heightInMm {p : Program} {l : Launch} {e : Env} {R : Room} {s : State} {m : MethodId} {args : Array Value} {below : List Frame} {meth : Method} {c : Code} {Q : State → Prop} {cc : ByteArray} {nL : Nat} {own : String} {D : va_G} {cy : Nat → ClassId} {G : Nat × Nat} {n0 pc : Nat} {L : List (Nat × PV)} {st : List PV} {M : Mm} {op : Instr} (K : CallOK l D cy R own op 0 0 (spV 8 1 SP_X8_heightInMm)) (C : Cx p s m args meth c cc nL own D cy G n0) (hd : decode cc pc = .ok (op, 3)) (hn : M.2.2.2 = n0) (h3 : n0 = 243) (hlen : argN st ≤ 8) {r : Option Nat} {o0 : Nat} (ho : isOn 8 M.2.2.2 r o0) {x1 : Int} {Q0 : Int → Prop} (h : P_X8_heightInMm o0 x1 M Q0) (k : ∀ x, Q0 x → WW p l e R s m args below meth c Q nL D cy G n0  (pc + 3) L (vI x :: st) M) : WW p l e R s m args below meth c Q nL D cy G n0  pc L (vI x1 :: vR r :: st) M := by
  obtain ⟨rfl, ho1, ho2⟩ := ho
  refine x_call0 K C hd (as := [vR (some o0), vI x1]) rfl hn hlen (fun v M2 => ∃ x, v = some (vI x) ∧ M2 = M ∧ Q0 x) ⟨⟨o0, [vI x1], rfl, rfl, ho1, ho2⟩, hn.trans h3, o0, x1, rfl, (hn.trans h3) ▸ ho1, ho2, Q0, fun x hx => ⟨x, rfl, rfl, hx⟩, h⟩ ?_
  rintro _ _ ⟨x, rfl, rfl, hx⟩ hm
  exact k x hx
end W_X8_heightInMm
theorem dX8_wayInMm_0 : decode cX8_wayInMm 0 = .ok (.aload_n 0, 1) := by decide +kernel
theorem dX8_wayInMm_1 : decode cX8_wayInMm 1 = .ok (.getfield 24, 3) := by decide +kernel
theorem dX8_wayInMm_4 : decode cX8_wayInMm 4 = .ok (.bipush 30, 2) := by decide +kernel
theorem dX8_wayInMm_6 : decode cX8_wayInMm 6 = .ok (.iload_n 1, 1) := by decide +kernel
theorem dX8_wayInMm_7 : decode cX8_wayInMm 7 = .ok (.imul, 1) := by decide +kernel
theorem dX8_wayInMm_8 : decode cX8_wayInMm 8 = .ok (.iadd, 1) := by decide +kernel
theorem dX8_wayInMm_9 : decode cX8_wayInMm 9 = .ok (.ireturn, 1) := by decide +kernel
theorem fw_X8_24 : fI RX8 24 8 1 := ⟨⟨lwG_1 (i := 109) rfl rfl, by decide, by decide⟩, rfl⟩
section W_X8_wayInMm
variable {p : Program} {l : Launch} {e : Env} {s : State} {m : MethodId} {args : Array Value} {below : List Frame} {meth : Method} {c : Code} {D : va_G} {cy : Nat → ClassId} {G : Nat × Nat} {n0 : Nat} {Qp : Option PV → Mm → Prop}
set_option maxRecDepth 100000 in
set_option maxHeartbeats 4000000 in
theorem k_X8_wayInMm_0 {o0 : Nat} {x1 : Int} {M : Mm} {Q : Int → Prop} (C : Cx p s m args meth c cX8_wayInMm 2 RX8 D cy G n0) (hr : meth.sig.returnType = some .int) (h3 : n0 = 243) (hn : M.2.2.2 = n0) (ho0 : o0 < 243 ∧ (SH o0).1 = 8) (hQ : ∀ x, Q x → Qp (some (vI x)) M) (h : P_X8_wayInMm o0 x1 M Q ) : WW p l e ({ frames := 0, cells := 0, slots := 0, locals := 0 }) s m args below meth c (ZQ below args s D cy G n0 Qp n0) 2 D cy G n0 0 [(0, vR (some o0)), (1, vI x1)] [] M := by
  unfold P_X8_wayInMm at h
  refine w_aload_n C dX8_wayInMm_0 rfl (mem_k 0 rfl) ?_
  refine x_getI C dX8_wayInMm_1 fw_X8_24 (isO.n (ci := 8) ⟨rfl, ho0⟩ (hn.trans h3)) ?_
  refine w_bipush C dX8_wayInMm_4 (by decide) ?_
  refine w_iload_n C dX8_wayInMm_6 rfl (mem_k 1 rfl) ?_
  refine w_imul C dX8_wayInMm_7 h.1 ?_
  replace h := h.2
  refine w_iadd C dX8_wayInMm_8 h.1 ?_
  replace h := h.2
  exact x_iret C hr dX8_wayInMm_9 hn (hQ _ h)
set_option maxRecDepth 100000 in
set_option maxHeartbeats 4000000 in
theorem con_X8_wayInMm (l : Launch) (D : va_G) (cy : Nat → ClassId) : Con l D cy yX8_wayInMm cX8_wayInMm 2 (some .int) ({ frames := 0, cells := 0, slots := 0, locals := 0 }) 0 0 SP_X8_wayInMm := by
  refine con_of (by decide) (fun as M Qp h => ?_) ?_
  · obtain ⟨-, o0, x1, rfl, -⟩ := h
    exact Nat.le_of_ble_eq_true rfl
  · intro p e s m args below meth c G as M Qp h C hr hnm
    obtain ⟨hn, o0, x1, rfl, ho1, ho2, Q0, hQ, h⟩ := h
    refine x_pick (L' := [(0, vR (some o0)), (1, vI x1)]) [0, 1] rfl ?_
    exact k_X8_wayInMm_0 C hr hn rfl ⟨ho1, ho2⟩ hQ h
set_option maxRecDepth 100000 in
set_option maxHeartbeats 4000000 in
theorem cl_X8_wayInMm {p : Program} {l : Launch} {e : Env} {R : Room} {s : State} {m : MethodId} {args : Array Value} {below : List Frame} {meth : Method} {c : Code} {Q : State → Prop} {cc : ByteArray} {nL : Nat} {own : String} {D : va_G} {cy : Nat → ClassId} {G : Nat × Nat} {n0 pc : Nat} {L : List (Nat × PV)} {st : List PV} {M : Mm} {op : Instr} (K : CallOK l D cy R own op 0 0 (spV 8 1 SP_X8_wayInMm)) (C : Cx p s m args meth c cc nL own D cy G n0) (hd : decode cc pc = .ok (op, 3)) (hn : M.2.2.2 = n0) (h3 : n0 = 243) (hlen : argN st ≤ 8) {r : Option Nat} {o0 : Nat} (ho : isOn 8 M.2.2.2 r o0) {x1 : Int} {Q0 : Int → Prop} (h : P_X8_wayInMm o0 x1 M Q0) (k : ∀ x, Q0 x → WW p l e R s m args below meth c Q nL D cy G n0  (pc + 3) L (vI x :: st) M) : WW p l e R s m args below meth c Q nL D cy G n0  pc L (vI x1 :: vR r :: st) M := by
  obtain ⟨rfl, ho1, ho2⟩ := ho
  refine x_call0 K C hd (as := [vR (some o0), vI x1]) rfl hn hlen (fun v M2 => ∃ x, v = some (vI x) ∧ M2 = M ∧ Q0 x) ⟨⟨o0, [vI x1], rfl, rfl, ho1, ho2⟩, hn.trans h3, o0, x1, rfl, (hn.trans h3) ▸ ho1, ho2, Q0, fun x hx => ⟨x, rfl, rfl, hx⟩, h⟩ ?_
  rintro _ _ ⟨x, rfl, rfl, hx⟩ hm
  exact k x hx
end W_X8_wayInMm
theorem dX1_fitsAt_0 : decode cX1_fitsAt 0 = .ok (.aload_n 2, 1) := by decide +kernel
theorem dX1_fitsAt_1 : decode cX1_fitsAt 1 = .ok (.iload_n 3, 1) := by decide +kernel
theorem dX1_fitsAt_2 : decode cX1_fitsAt 2 = .ok (.invokevirtual 40, 3) := by decide +kernel
theorem dX1_fitsAt_5 : decode cX1_fitsAt 5 = .ok (.istore 5, 2) := by decide +kernel
theorem dX1_fitsAt_7 : decode cX1_fitsAt 7 = .ok (.aload_n 1, 1) := by decide +kernel
theorem dX1_fitsAt_8 : decode cX1_fitsAt 8 = .ok (.getfield 45, 3) := by decide +kernel
theorem dX1_fitsAt_11 : decode cX1_fitsAt 11 = .ok (.aload_n 2, 1) := by decide +kernel
theorem dX1_fitsAt_12 : decode cX1_fitsAt 12 = .ok (.getfield 48, 3) := by decide +kernel
theorem dX1_fitsAt_15 : decode cX1_fitsAt 15 = .ok (.if_icmp .gt 57, 3) := by decide +kernel
theorem dX1_fitsAt_18 : decode cX1_fitsAt 18 = .ok (.aload_n 1, 1) := by decide +kernel
theorem dX1_fitsAt_19 : decode cX1_fitsAt 19 = .ok (.getfield 51, 3) := by decide +kernel
theorem dX1_fitsAt_22 : decode cX1_fitsAt 22 = .ok (.iload 5, 2) := by decide +kernel
theorem dX1_fitsAt_24 : decode cX1_fitsAt 24 = .ok (.if_icmp .lt 48, 3) := by decide +kernel
theorem dX1_fitsAt_27 : decode cX1_fitsAt 27 = .ok (.aload_n 1, 1) := by decide +kernel
theorem dX1_fitsAt_28 : decode cX1_fitsAt 28 = .ok (.getfield 51, 3) := by decide +kernel
theorem dX1_fitsAt_31 : decode cX1_fitsAt 31 = .ok (.iload 5, 2) := by decide +kernel
theorem dX1_fitsAt_33 : decode cX1_fitsAt 33 = .ok (.aload_n 0, 1) := by decide +kernel
theorem dX1_fitsAt_34 : decode cX1_fitsAt 34 = .ok (.getfield 17, 3) := by decide +kernel
theorem dX1_fitsAt_37 : decode cX1_fitsAt 37 = .ok (.iadd, 1) := by decide +kernel
theorem dX1_fitsAt_38 : decode cX1_fitsAt 38 = .ok (.if_icmp .gt 34, 3) := by decide +kernel
theorem dX1_fitsAt_41 : decode cX1_fitsAt 41 = .ok (.aload_n 1, 1) := by decide +kernel
theorem dX1_fitsAt_42 : decode cX1_fitsAt 42 = .ok (.getfield 54, 3) := by decide +kernel
theorem dX1_fitsAt_45 : decode cX1_fitsAt 45 = .ok (.aload_n 2, 1) := by decide +kernel
theorem dX1_fitsAt_46 : decode cX1_fitsAt 46 = .ok (.iload 4, 2) := by decide +kernel
theorem dX1_fitsAt_48 : decode cX1_fitsAt 48 = .ok (.invokevirtual 57, 3) := by decide +kernel
theorem dX1_fitsAt_51 : decode cX1_fitsAt 51 = .ok (.if_icmp .lt 21, 3) := by decide +kernel
theorem dX1_fitsAt_54 : decode cX1_fitsAt 54 = .ok (.aload_n 1, 1) := by decide +kernel
theorem dX1_fitsAt_55 : decode cX1_fitsAt 55 = .ok (.getfield 60, 3) := by decide +kernel
theorem dX1_fitsAt_58 : decode cX1_fitsAt 58 = .ok (.iload 5, 2) := by decide +kernel
theorem dX1_fitsAt_60 : decode cX1_fitsAt 60 = .ok (.iadd, 1) := by decide +kernel
theorem dX1_fitsAt_61 : decode cX1_fitsAt 61 = .ok (.aload_n 2, 1) := by decide +kernel
theorem dX1_fitsAt_62 : decode cX1_fitsAt 62 = .ok (.getfield 63, 3) := by decide +kernel
theorem dX1_fitsAt_65 : decode cX1_fitsAt 65 = .ok (.if_icmp .lt 7, 3) := by decide +kernel
theorem dX1_fitsAt_68 : decode cX1_fitsAt 68 = .ok (.iconst 1, 1) := by decide +kernel
theorem dX1_fitsAt_69 : decode cX1_fitsAt 69 = .ok (.goto 4, 3) := by decide +kernel
theorem dX1_fitsAt_72 : decode cX1_fitsAt 72 = .ok (.iconst 0, 1) := by decide +kernel
theorem dX1_fitsAt_73 : decode cX1_fitsAt 73 = .ok (.ireturn, 1) := by decide +kernel
theorem ck_X1_40 {l : Launch} {D : va_G} {cy : Nat → ClassId} {R : Room} (hR : 1 ≤ R.frames ∧ 21 ≤ R.locals) : CallOK l D cy R RX1 (.invokevirtual 40) 0 0 (spV 8 1 SP_X8_heightInMm) := call_V (ci := 8) (con_X8_heightInMm l D cy) (lwG_3 (i := 56) rfl rfl) (lwG_3 (i := 57) rfl rfl) (lwG_3 (i := 58) rfl rfl) (lwG_1 (i := 5) rfl rfl) (lwG_3 (i := 59) rfl rfl) (by decide) ⟨rfl, by decide, by decide, rfl⟩ ⟨rfl, rfl⟩ hR
theorem fw_X1_45 : fI RX1 45 0 4 := ⟨⟨lwG_1 (i := 174) rfl rfl, by decide, by decide⟩, rfl⟩
theorem fw_X1_48 : fI RX1 48 8 3 := ⟨⟨lwG_1 (i := 113) rfl rfl, by decide, by decide⟩, rfl⟩
theorem fw_X1_51 : fI RX1 51 0 1 := ⟨⟨lwG_1 (i := 168) rfl rfl, by decide, by decide⟩, rfl⟩
theorem fw_X1_17 : fI RX1 17 1 2 := ⟨⟨lwG_1 (i := 204) rfl rfl, by decide, by decide⟩, rfl⟩
theorem fw_X1_54 : fI RX1 54 0 2 := ⟨⟨lwG_1 (i := 170) rfl rfl, by decide, by decide⟩, rfl⟩
theorem ck_X1_57 {l : Launch} {D : va_G} {cy : Nat → ClassId} {R : Room} (hR : 1 ≤ R.frames ∧ 21 ≤ R.locals) : CallOK l D cy R RX1 (.invokevirtual 57) 0 0 (spV 8 1 SP_X8_wayInMm) := call_V (ci := 8) (con_X8_wayInMm l D cy) (lwG_3 (i := 60) rfl rfl) (lwG_3 (i := 61) rfl rfl) (lwG_3 (i := 62) rfl rfl) (lwG_1 (i := 5) rfl rfl) (lwG_3 (i := 63) rfl rfl) (by decide) ⟨rfl, by decide, by decide, rfl⟩ ⟨rfl, rfl⟩ hR
theorem fw_X1_60 : fI RX1 60 0 3 := ⟨⟨lwG_1 (i := 172) rfl rfl, by decide, by decide⟩, rfl⟩
theorem fw_X1_63 : fI RX1 63 8 2 := ⟨⟨lwG_1 (i := 111) rfl rfl, by decide, by decide⟩, rfl⟩
section W_X1_fitsAt
variable {p : Program} {l : Launch} {e : Env} {s : State} {m : MethodId} {args : Array Value} {below : List Frame} {meth : Method} {c : Code} {D : va_G} {cy : Nat → ClassId} {G : Nat × Nat} {n0 : Nat} {Qp : Option PV → Mm → Prop}
set_option maxRecDepth 100000 in
set_option maxHeartbeats 4000000 in
theorem k_X1_fitsAt_0 {o0 : Nat} {a1 : Option Nat} {a2 : Option Nat} {x3 : Int} {x4 : Int} {M : Mm} {Q : Int → Prop} (C : Cx p s m args meth c cX1_fitsAt 6 RX1 D cy G n0) (hr : meth.sig.returnType = some .boolean) (h3 : n0 = 243) (hn : M.2.2.2 = n0) (ho0 : o0 < 243 ∧ (SH o0).1 = 1) (hQ : ∀ x, Q x → Qp (some (vI x)) M) (h : P_X1_fitsAt o0 a1 a2 x3 x4 M Q ) : WW p l e ({ frames := 1, cells := 0, slots := 0, locals := 21 }) s m args below meth c (ZQ below args s D cy G n0 Qp n0) 6 D cy G n0 0 [(0, vR (some o0)), (1, vR a1), (2, vR a2), (3, vI x3), (4, vI x4)] [] M := by
  unfold P_X1_fitsAt at h
  refine w_aload_n C dX1_fitsAt_0 rfl (mem_k 2 rfl) ?_
  refine w_iload_n C dX1_fitsAt_1 rfl (mem_k 3 rfl) ?_
  obtain ⟨o1, g2, h⟩ := h
  refine cl_X8_heightInMm (ck_X1_40 ⟨by decide, by decide⟩) C dX1_fitsAt_2 hn h3 (Nat.le_of_ble_eq_true rfl) (isO.n g2 (hn.trans h3)) h (fun v3 h => ?_)
  refine x_istore (L' := [(5, vI v3), (0, vR (some o0)), (1, vR a1), (2, vR a2), (3, vI x3), (4, vI x4)]) C dX1_fitsAt_5 (by decide) rfl ?_
  refine w_aload_n C dX1_fitsAt_7 rfl (mem_k 2 rfl) ?_
  obtain ⟨o4, g5, h⟩ := h
  refine x_getI C dX1_fitsAt_8 fw_X1_45 (isO.n g5 (hn.trans h3)) ?_
  refine w_aload_n C dX1_fitsAt_11 rfl (mem_k 3 rfl) ?_
  refine x_getI C dX1_fitsAt_12 fw_X1_48 (isO.n g2 (hn.trans h3)) ?_
  refine w_icmp_gt (tgt := 72) C dX1_fitsAt_15 (by decide) (fun q => ?_) (fun q => ?_)
  · replace h := h.1 q
    refine w_iconst C dX1_fitsAt_72 ⟨by decide, by decide⟩ ?_
    exact x_zret C hr dX1_fitsAt_73 hn (by decide) (hQ _ h)
  · replace h := h.2 q
    refine w_aload_n C dX1_fitsAt_18 rfl (mem_k 2 rfl) ?_
    refine x_getI C dX1_fitsAt_19 fw_X1_51 (isO.n g5 (hn.trans h3)) ?_
    refine w_iload C dX1_fitsAt_22 (mem_k 0 rfl) ?_
    refine w_icmp_lt (tgt := 72) C dX1_fitsAt_24 (by decide) (fun q => ?_) (fun q => ?_)
    · replace h := h.1 q
      refine w_iconst C dX1_fitsAt_72 ⟨by decide, by decide⟩ ?_
      exact x_zret C hr dX1_fitsAt_73 hn (by decide) (hQ _ h)
    · replace h := h.2 q
      refine w_aload_n C dX1_fitsAt_27 rfl (mem_k 2 rfl) ?_
      refine x_getI C dX1_fitsAt_28 fw_X1_51 (isO.n g5 (hn.trans h3)) ?_
      refine w_iload C dX1_fitsAt_31 (mem_k 0 rfl) ?_
      refine w_aload_n C dX1_fitsAt_33 rfl (mem_k 1 rfl) ?_
      refine x_getI C dX1_fitsAt_34 fw_X1_17 (isO.n (ci := 1) ⟨rfl, ho0⟩ (hn.trans h3)) ?_
      refine w_iadd C dX1_fitsAt_37 h.1 ?_
      replace h := h.2
      refine w_icmp_gt (tgt := 72) C dX1_fitsAt_38 (by decide) (fun q => ?_) (fun q => ?_)
      · replace h := h.1 q
        refine w_iconst C dX1_fitsAt_72 ⟨by decide, by decide⟩ ?_
        exact x_zret C hr dX1_fitsAt_73 hn (by decide) (hQ _ h)
      · replace h := h.2 q
        refine w_aload_n C dX1_fitsAt_41 rfl (mem_k 2 rfl) ?_
        refine x_getI C dX1_fitsAt_42 fw_X1_54 (isO.n g5 (hn.trans h3)) ?_
        refine w_aload_n C dX1_fitsAt_45 rfl (mem_k 3 rfl) ?_
        refine w_iload C dX1_fitsAt_46 (mem_k 5 rfl) ?_
        refine cl_X8_wayInMm (ck_X1_57 ⟨by decide, by decide⟩) C dX1_fitsAt_48 hn h3 (Nat.le_of_ble_eq_true rfl) (isO.n g2 (hn.trans h3)) h (fun v6 h => ?_)
        refine w_icmp_lt (tgt := 72) C dX1_fitsAt_51 (by decide) (fun q => ?_) (fun q => ?_)
        · replace h := h.1 q
          refine w_iconst C dX1_fitsAt_72 ⟨by decide, by decide⟩ ?_
          exact x_zret C hr dX1_fitsAt_73 hn (by decide) (hQ _ h)
        · replace h := h.2 q
          refine w_aload_n C dX1_fitsAt_54 rfl (mem_k 2 rfl) ?_
          refine x_getI C dX1_fitsAt_55 fw_X1_60 (isO.n g5 (hn.trans h3)) ?_
          refine w_iload C dX1_fitsAt_58 (mem_k 0 rfl) ?_
          refine w_iadd C dX1_fitsAt_60 h.1 ?_
          replace h := h.2
          refine w_aload_n C dX1_fitsAt_61 rfl (mem_k 3 rfl) ?_
          refine x_getI C dX1_fitsAt_62 fw_X1_63 (isO.n g2 (hn.trans h3)) ?_
          refine w_icmp_lt (tgt := 72) C dX1_fitsAt_65 (by decide) (fun q => ?_) (fun q => ?_)
          · replace h := h.1 q
            refine w_iconst C dX1_fitsAt_72 ⟨by decide, by decide⟩ ?_
            exact x_zret C hr dX1_fitsAt_73 hn (by decide) (hQ _ h)
          · replace h := h.2 q
            refine w_iconst C dX1_fitsAt_68 ⟨by decide, by decide⟩ ?_
            refine w_goto (tgt := 73) C dX1_fitsAt_69 (by decide) ?_
            exact x_zret C hr dX1_fitsAt_73 hn (by decide) (hQ _ h)
set_option maxRecDepth 100000 in
set_option maxHeartbeats 4000000 in
theorem con_X1_fitsAt (l : Launch) (D : va_G) (cy : Nat → ClassId) : Con l D cy yX1_fitsAt cX1_fitsAt 6 (some .boolean) ({ frames := 1, cells := 0, slots := 0, locals := 21 }) 0 0 SP_X1_fitsAt := by
  refine con_of (by decide) (fun as M Qp h => ?_) ?_
  · obtain ⟨-, o0, a1, a2, x3, x4, rfl, -⟩ := h
    exact Nat.le_of_ble_eq_true rfl
  · intro p e s m args below meth c G as M Qp h C hr hnm
    obtain ⟨hn, o0, a1, a2, x3, x4, rfl, ho1, ho2, Q0, hQ, h⟩ := h
    refine x_pick (L' := [(0, vR (some o0)), (1, vR a1), (2, vR a2), (3, vI x3), (4, vI x4)]) [0, 1, 2, 3, 4] rfl ?_
    exact k_X1_fitsAt_0 C hr hn rfl ⟨ho1, ho2⟩ hQ h
set_option maxRecDepth 100000 in
set_option maxHeartbeats 4000000 in
theorem cl_X1_fitsAt {p : Program} {l : Launch} {e : Env} {R : Room} {s : State} {m : MethodId} {args : Array Value} {below : List Frame} {meth : Method} {c : Code} {Q : State → Prop} {cc : ByteArray} {nL : Nat} {own : String} {D : va_G} {cy : Nat → ClassId} {G : Nat × Nat} {n0 pc : Nat} {L : List (Nat × PV)} {st : List PV} {M : Mm} {op : Instr} (K : CallOK l D cy R own op 0 0 (spV 1 4 SP_X1_fitsAt)) (C : Cx p s m args meth c cc nL own D cy G n0) (hd : decode cc pc = .ok (op, 3)) (hn : M.2.2.2 = n0) (h3 : n0 = 243) (hlen : argN st ≤ 8) {r : Option Nat} {o0 : Nat} (ho : isOn 1 M.2.2.2 r o0) {a1 : Option Nat} {a2 : Option Nat} {x3 : Int} {x4 : Int} {Q0 : Int → Prop} (h : P_X1_fitsAt o0 a1 a2 x3 x4 M Q0) (k : ∀ x, Q0 x → WW p l e R s m args below meth c Q nL D cy G n0  (pc + 3) L (vI x :: st) M) : WW p l e R s m args below meth c Q nL D cy G n0  pc L (vI x4 :: vI x3 :: vR a2 :: vR a1 :: vR r :: st) M := by
  obtain ⟨rfl, ho1, ho2⟩ := ho
  refine x_call0 K C hd (as := [vR (some o0), vR a1, vR a2, vI x3, vI x4]) rfl hn hlen (fun v M2 => ∃ x, v = some (vI x) ∧ M2 = M ∧ Q0 x) ⟨⟨o0, [vR a1, vR a2, vI x3, vI x4], rfl, rfl, ho1, ho2⟩, hn.trans h3, o0, a1, a2, x3, x4, rfl, (hn.trans h3) ▸ ho1, ho2, Q0, fun x hx => ⟨x, rfl, rfl, hx⟩, h⟩ ?_
  rintro _ _ ⟨x, rfl, rfl, hx⟩ hm
  exact k x hx
end W_X1_fitsAt
theorem dX1_fitsSomehow_0 : decode cX1_fitsSomehow 0 = .ok (.iconst 0, 1) := by decide +kernel
theorem dX1_fitsSomehow_1 : decode cX1_fitsSomehow 1 = .ok (.istore_n 3, 1) := by decide +kernel
theorem dX1_fitsSomehow_2 : decode cX1_fitsSomehow 2 = .ok (.iload_n 3, 1) := by decide +kernel
theorem dX1_fitsSomehow_3 : decode cX1_fitsSomehow 3 = .ok (.bipush 10, 2) := by decide +kernel
theorem dX1_fitsSomehow_5 : decode cX1_fitsSomehow 5 = .ok (.if_icmp .ge 22, 3) := by decide +kernel
theorem dX1_fitsSomehow_8 : decode cX1_fitsSomehow 8 = .ok (.aload_n 0, 1) := by decide +kernel
theorem dX1_fitsSomehow_9 : decode cX1_fitsSomehow 9 = .ok (.aload_n 1, 1) := by decide +kernel
theorem dX1_fitsSomehow_10 : decode cX1_fitsSomehow 10 = .ok (.aload_n 2, 1) := by decide +kernel
theorem dX1_fitsSomehow_11 : decode cX1_fitsSomehow 11 = .ok (.iload_n 3, 1) := by decide +kernel
theorem dX1_fitsSomehow_12 : decode cX1_fitsSomehow 12 = .ok (.iconst 0, 1) := by decide +kernel
theorem dX1_fitsSomehow_13 : decode cX1_fitsSomehow 13 = .ok (.invokevirtual 66, 3) := by decide +kernel
theorem dX1_fitsSomehow_16 : decode cX1_fitsSomehow 16 = .ok (.ifCond .eq 5, 3) := by decide +kernel
theorem dX1_fitsSomehow_19 : decode cX1_fitsSomehow 19 = .ok (.iconst 1, 1) := by decide +kernel
theorem dX1_fitsSomehow_20 : decode cX1_fitsSomehow 20 = .ok (.ireturn, 1) := by decide +kernel
theorem dX1_fitsSomehow_21 : decode cX1_fitsSomehow 21 = .ok (.iinc 3 1, 3) := by decide +kernel
theorem dX1_fitsSomehow_24 : decode cX1_fitsSomehow 24 = .ok (.goto (-22), 3) := by decide +kernel
theorem dX1_fitsSomehow_27 : decode cX1_fitsSomehow 27 = .ok (.iconst 0, 1) := by decide +kernel
theorem dX1_fitsSomehow_28 : decode cX1_fitsSomehow 28 = .ok (.ireturn, 1) := by decide +kernel
theorem ck_X1_66 {l : Launch} {D : va_G} {cy : Nat → ClassId} {R : Room} (hR : 2 ≤ R.frames ∧ 46 ≤ R.locals) : CallOK l D cy R RX1 (.invokevirtual 66) 0 0 (spV 1 4 SP_X1_fitsAt) := call_V (ci := 1) (con_X1_fitsAt l D cy) (lwG_3 (i := 52) rfl rfl) (lwG_3 (i := 53) rfl rfl) (lwG_3 (i := 54) rfl rfl) (lwG_1 (i := 7) rfl rfl) (lwG_3 (i := 55) rfl rfl) (by decide) ⟨rfl, by decide, by decide, rfl⟩ ⟨rfl, rfl⟩ hR
section W_X1_fitsSomehow
variable {p : Program} {l : Launch} {e : Env} {s : State} {m : MethodId} {args : Array Value} {below : List Frame} {meth : Method} {c : Code} {D : va_G} {cy : Nat → ClassId} {G : Nat × Nat} {n0 : Nat} {Qp : Option PV → Mm → Prop}
set_option maxRecDepth 100000 in
set_option maxHeartbeats 4000000 in
theorem f_X1_fitsSomehow_2 {o0 : Nat} {a1 : Option Nat} {a2 : Option Nat} {x3 : Int} {M : Mm} {Q : Int → Prop} {K2 : Int → Prop} (C : Cx p s m args meth c cX1_fitsSomehow 4 RX1 D cy G n0) (hr : meth.sig.returnType = some .boolean) (h3 : n0 = 243) (hn : M.2.2.2 = n0) (ho0 : o0 < 243 ∧ (SH o0).1 = 1) (hQ : ∀ x, Q x → Qp (some (vI x)) M) (hK2 : ∀ (x3 : Int), K2 (x3) → WW p l e ({ frames := 2, cells := 0, slots := 0, locals := 46 }) s m args below meth c (ZQ below args s D cy G n0 Qp n0) 4 D cy G n0 2 [(0, vR (some o0)), (1, vR a1), (2, vR a2), (3, vI x3)] [] M) (h : F_X1_fitsSomehow_2 o0 a1 a2 M Q  K2 x3) : WW p l e ({ frames := 2, cells := 0, slots := 0, locals := 46 }) s m args below meth c (ZQ below args s D cy G n0 Qp n0) 4 D cy G n0 2 [(0, vR (some o0)), (1, vR a1), (2, vR a2), (3, vI x3)] [] M := by
  unfold F_X1_fitsSomehow_2 at h
  refine w_iload_n C dX1_fitsSomehow_2 rfl (mem_k 3 rfl) ?_
  refine w_bipush C dX1_fitsSomehow_3 (by decide) ?_
  refine w_icmp_ge (tgt := 27) C dX1_fitsSomehow_5 (by decide) (fun q => ?_) (fun q => ?_)
  · replace h := h.1 q
    refine w_iconst C dX1_fitsSomehow_27 ⟨by decide, by decide⟩ ?_
    exact x_zret C hr dX1_fitsSomehow_28 hn (by decide) (hQ _ h)
  · replace h := h.2 q
    refine w_aload_n C dX1_fitsSomehow_8 rfl (mem_k 0 rfl) ?_
    refine w_aload_n C dX1_fitsSomehow_9 rfl (mem_k 1 rfl) ?_
    refine w_aload_n C dX1_fitsSomehow_10 rfl (mem_k 2 rfl) ?_
    refine w_iload_n C dX1_fitsSomehow_11 rfl (mem_k 3 rfl) ?_
    refine w_iconst C dX1_fitsSomehow_12 ⟨by decide, by decide⟩ ?_
    refine cl_X1_fitsAt (ck_X1_66 ⟨by decide, by decide⟩) C dX1_fitsSomehow_13 hn h3 (Nat.le_of_ble_eq_true rfl) (isO.n (ci := 1) ⟨rfl, ho0⟩ (hn.trans h3)) h (fun v1 h => ?_)
    refine w_if_eq (tgt := 21) C dX1_fitsSomehow_16 (by decide) (fun q => ?_) (fun q => ?_)
    · replace h := h.1 q
      obtain ⟨v2, ev2⟩ : ∃ z : Int, z = x3 + 1 := ⟨_, rfl⟩
      refine x_iinc (L' := [(3, vI v2), (0, vR (some o0)), (1, vR a1), (2, vR a2)]) C dX1_fitsSomehow_21 (mem_k 3 rfl) (by decide) h.1 ev2 rfl ?_
      replace h := h.2 v2 ev2
      refine w_goto (tgt := 2) C dX1_fitsSomehow_24 (by decide) ?_
      refine x_pc (pc2 := 2) rfl ?_
      refine x_pick (L' := [(0, vR (some o0)), (1, vR a1), (2, vR a2), (3, vI v2)]) [1, 2, 3, 0] rfl ?_
      exact hK2 v2 h
    · replace h := h.2 q
      refine w_iconst C dX1_fitsSomehow_19 ⟨by decide, by decide⟩ ?_
      exact x_zret C hr dX1_fitsSomehow_20 hn (by decide) (hQ _ h)
set_option maxRecDepth 100000 in
set_option maxHeartbeats 4000000 in
theorem k_X1_fitsSomehow_2 {o0 : Nat} {a1 : Option Nat} {a2 : Option Nat} {x3 : Int} {M : Mm} {Q : Int → Prop} (C : Cx p s m args meth c cX1_fitsSomehow 4 RX1 D cy G n0) (hr : meth.sig.returnType = some .boolean) (h3 : n0 = 243) (hn : M.2.2.2 = n0) (ho0 : o0 < 243 ∧ (SH o0).1 = 1) (hQ : ∀ x, Q x → Qp (some (vI x)) M) (h : P_X1_fitsSomehow_2 o0 a1 a2 x3 M Q ) : WW p l e ({ frames := 2, cells := 0, slots := 0, locals := 46 }) s m args below meth c (ZQ below args s D cy G n0 Qp n0) 4 D cy G n0 2 [(0, vR (some o0)), (1, vR a1), (2, vR a2), (3, vI x3)] [] M := by
  refine lpW_sound (P := fun y : Int => WW p l e ({ frames := 2, cells := 0, slots := 0, locals := 46 }) s m args below meth c (ZQ below args s D cy G n0 Qp n0) 4 D cy G n0 2 [(0, vR (some o0)), (1, vR a1), (2, vR a2), (3, vI y)] [] M) ?_ h
  intro K y hK hF
  exact f_X1_fitsSomehow_2 C hr h3 hn ho0 hQ  (fun x3 hk => hK x3 hk) hF
set_option maxRecDepth 100000 in
set_option maxHeartbeats 4000000 in
theorem k_X1_fitsSomehow_0 {o0 : Nat} {a1 : Option Nat} {a2 : Option Nat} {M : Mm} {Q : Int → Prop} (C : Cx p s m args meth c cX1_fitsSomehow 4 RX1 D cy G n0) (hr : meth.sig.returnType = some .boolean) (h3 : n0 = 243) (hn : M.2.2.2 = n0) (ho0 : o0 < 243 ∧ (SH o0).1 = 1) (hQ : ∀ x, Q x → Qp (some (vI x)) M) (h : P_X1_fitsSomehow o0 a1 a2 M Q ) : WW p l e ({ frames := 2, cells := 0, slots := 0, locals := 46 }) s m args below meth c (ZQ below args s D cy G n0 Qp n0) 4 D cy G n0 0 [(0, vR (some o0)), (1, vR a1), (2, vR a2)] [] M := by
  unfold P_X1_fitsSomehow at h
  refine w_iconst C dX1_fitsSomehow_0 ⟨by decide, by decide⟩ ?_
  refine x_istore_n (L' := [(3, vI 0), (0, vR (some o0)), (1, vR a1), (2, vR a2)]) C dX1_fitsSomehow_1 rfl (by decide) rfl ?_
  refine x_pc (pc2 := 2) rfl ?_
  refine x_pick (L' := [(0, vR (some o0)), (1, vR a1), (2, vR a2), (3, vI 0)]) [1, 2, 3, 0] rfl ?_
  exact k_X1_fitsSomehow_2 C hr h3 hn ho0 hQ  h
set_option maxRecDepth 100000 in
set_option maxHeartbeats 4000000 in
theorem con_X1_fitsSomehow (l : Launch) (D : va_G) (cy : Nat → ClassId) : Con l D cy yX1_fitsSomehow cX1_fitsSomehow 4 (some .boolean) ({ frames := 2, cells := 0, slots := 0, locals := 46 }) 0 0 SP_X1_fitsSomehow := by
  refine con_of (by decide) (fun as M Qp h => ?_) ?_
  · obtain ⟨-, o0, a1, a2, rfl, -⟩ := h
    exact Nat.le_of_ble_eq_true rfl
  · intro p e s m args below meth c G as M Qp h C hr hnm
    obtain ⟨hn, o0, a1, a2, rfl, ho1, ho2, Q0, hQ, h⟩ := h
    refine x_pick (L' := [(0, vR (some o0)), (1, vR a1), (2, vR a2)]) [0, 1, 2] rfl ?_
    exact k_X1_fitsSomehow_0 C hr hn rfl ⟨ho1, ho2⟩ hQ h
set_option maxRecDepth 100000 in
set_option maxHeartbeats 4000000 in
theorem cl_X1_fitsSomehow {p : Program} {l : Launch} {e : Env} {R : Room} {s : State} {m : MethodId} {args : Array Value} {below : List Frame} {meth : Method} {c : Code} {Q : State → Prop} {cc : ByteArray} {nL : Nat} {own : String} {D : va_G} {cy : Nat → ClassId} {G : Nat × Nat} {n0 pc : Nat} {L : List (Nat × PV)} {st : List PV} {M : Mm} {op : Instr} (K : CallOK l D cy R own op 0 0 (spV 1 2 SP_X1_fitsSomehow)) (C : Cx p s m args meth c cc nL own D cy G n0) (hd : decode cc pc = .ok (op, 3)) (hn : M.2.2.2 = n0) (h3 : n0 = 243) (hlen : argN st ≤ 8) {r : Option Nat} {o0 : Nat} (ho : isOn 1 M.2.2.2 r o0) {a1 : Option Nat} {a2 : Option Nat} {Q0 : Int → Prop} (h : P_X1_fitsSomehow o0 a1 a2 M Q0) (k : ∀ x, Q0 x → WW p l e R s m args below meth c Q nL D cy G n0  (pc + 3) L (vI x :: st) M) : WW p l e R s m args below meth c Q nL D cy G n0  pc L (vR a2 :: vR a1 :: vR r :: st) M := by
  obtain ⟨rfl, ho1, ho2⟩ := ho
  refine x_call0 K C hd (as := [vR (some o0), vR a1, vR a2]) rfl hn hlen (fun v M2 => ∃ x, v = some (vI x) ∧ M2 = M ∧ Q0 x) ⟨⟨o0, [vR a1, vR a2], rfl, rfl, ho1, ho2⟩, hn.trans h3, o0, a1, a2, rfl, (hn.trans h3) ▸ ho1, ho2, Q0, fun x hx => ⟨x, rfl, rfl, hx⟩, h⟩ ?_
  rintro _ _ ⟨x, rfl, rfl, hx⟩ hm
  exact k x hx
end W_X1_fitsSomehow
theorem dX1_peopleAt_0 : decode cX1_peopleAt 0 = .ok (.iconst 0, 1) := by decide +kernel
theorem dX1_peopleAt_1 : decode cX1_peopleAt 1 = .ok (.istore 4, 2) := by decide +kernel
theorem dX1_peopleAt_3 : decode cX1_peopleAt 3 = .ok (.iconst 0, 1) := by decide +kernel
theorem dX1_peopleAt_4 : decode cX1_peopleAt 4 = .ok (.istore 5, 2) := by decide +kernel
theorem dX1_peopleAt_6 : decode cX1_peopleAt 6 = .ok (.iload 5, 2) := by decide +kernel
theorem dX1_peopleAt_8 : decode cX1_peopleAt 8 = .ok (.aload_n 0, 1) := by decide +kernel
theorem dX1_peopleAt_9 : decode cX1_peopleAt 9 = .ok (.getfield 26, 3) := by decide +kernel
theorem dX1_peopleAt_12 : decode cX1_peopleAt 12 = .ok (.if_icmp .ge 41, 3) := by decide +kernel
theorem dX1_peopleAt_15 : decode cX1_peopleAt 15 = .ok (.aload_n 0, 1) := by decide +kernel
theorem dX1_peopleAt_16 : decode cX1_peopleAt 16 = .ok (.aload_n 0, 1) := by decide +kernel
theorem dX1_peopleAt_17 : decode cX1_peopleAt 17 = .ok (.getfield 11, 3) := by decide +kernel
theorem dX1_peopleAt_20 : decode cX1_peopleAt 20 = .ok (.iload 5, 2) := by decide +kernel
theorem dX1_peopleAt_22 : decode cX1_peopleAt 22 = .ok (.aaload, 1) := by decide +kernel
theorem dX1_peopleAt_23 : decode cX1_peopleAt 23 = .ok (.aload_n 1, 1) := by decide +kernel
theorem dX1_peopleAt_24 : decode cX1_peopleAt 24 = .ok (.iload_n 2, 1) := by decide +kernel
theorem dX1_peopleAt_25 : decode cX1_peopleAt 25 = .ok (.iload_n 3, 1) := by decide +kernel
theorem dX1_peopleAt_26 : decode cX1_peopleAt 26 = .ok (.invokevirtual 66, 3) := by decide +kernel
theorem dX1_peopleAt_29 : decode cX1_peopleAt 29 = .ok (.ifCond .eq 18, 3) := by decide +kernel
theorem dX1_peopleAt_32 : decode cX1_peopleAt 32 = .ok (.iload 4, 2) := by decide +kernel
theorem dX1_peopleAt_34 : decode cX1_peopleAt 34 = .ok (.aload_n 0, 1) := by decide +kernel
theorem dX1_peopleAt_35 : decode cX1_peopleAt 35 = .ok (.getfield 11, 3) := by decide +kernel
theorem dX1_peopleAt_38 : decode cX1_peopleAt 38 = .ok (.iload 5, 2) := by decide +kernel
theorem dX1_peopleAt_40 : decode cX1_peopleAt 40 = .ok (.aaload, 1) := by decide +kernel
theorem dX1_peopleAt_41 : decode cX1_peopleAt 41 = .ok (.getfield 37, 3) := by decide +kernel
theorem dX1_peopleAt_44 : decode cX1_peopleAt 44 = .ok (.iadd, 1) := by decide +kernel
theorem dX1_peopleAt_45 : decode cX1_peopleAt 45 = .ok (.istore 4, 2) := by decide +kernel
theorem dX1_peopleAt_47 : decode cX1_peopleAt 47 = .ok (.iinc 5 1, 3) := by decide +kernel
theorem dX1_peopleAt_50 : decode cX1_peopleAt 50 = .ok (.goto (-44), 3) := by decide +kernel
theorem dX1_peopleAt_53 : decode cX1_peopleAt 53 = .ok (.iload 4, 2) := by decide +kernel
theorem dX1_peopleAt_55 : decode cX1_peopleAt 55 = .ok (.ireturn, 1) := by decide +kernel
section W_X1_peopleAt
variable {p : Program} {l : Launch} {e : Env} {s : State} {m : MethodId} {args : Array Value} {below : List Frame} {meth : Method} {c : Code} {D : va_G} {cy : Nat → ClassId} {G : Nat × Nat} {n0 : Nat} {Qp : Option PV → Mm → Prop}
set_option maxRecDepth 100000 in
set_option maxHeartbeats 4000000 in
theorem f_X1_peopleAt_6 {o0 : Nat} {a1 : Option Nat} {x2 : Int} {x3 : Int} {x4 : Int} {x5 : Int} {M : Mm} {Q : Int → Prop} {K6 : Int × Int → Prop} (C : Cx p s m args meth c cX1_peopleAt 6 RX1 D cy G n0) (hr : meth.sig.returnType = some .int) (h3 : n0 = 243) (hn : M.2.2.2 = n0) (ho0 : o0 < 243 ∧ (SH o0).1 = 1) (hQ : ∀ x, Q x → Qp (some (vI x)) M) (hK6 : ∀ (x4 : Int) (x5 : Int), K6 (x4, x5) → WW p l e ({ frames := 2, cells := 0, slots := 0, locals := 46 }) s m args below meth c (ZQ below args s D cy G n0 Qp n0) 6 D cy G n0 6 [(0, vR (some o0)), (1, vR a1), (2, vI x2), (3, vI x3), (4, vI x4), (5, vI x5)] [] M) (h : F_X1_peopleAt_6 o0 a1 x2 x3 M Q  K6 x4 x5) : WW p l e ({ frames := 2, cells := 0, slots := 0, locals := 46 }) s m args below meth c (ZQ below args s D cy G n0 Qp n0) 6 D cy G n0 6 [(0, vR (some o0)), (1, vR a1), (2, vI x2), (3, vI x3), (4, vI x4), (5, vI x5)] [] M := by
  unfold F_X1_peopleAt_6 at h
  refine w_iload C dX1_peopleAt_6 (mem_k 5 rfl) ?_
  refine w_aload_n C dX1_peopleAt_8 rfl (mem_k 0 rfl) ?_
  refine x_getI C dX1_peopleAt_9 fw_X1_26 (isO.n (ci := 1) ⟨rfl, ho0⟩ (hn.trans h3)) ?_
  refine w_icmp_ge (tgt := 53) C dX1_peopleAt_12 (by decide) (fun q => ?_) (fun q => ?_)
  · replace h := h.1 q
    refine w_iload C dX1_peopleAt_53 (mem_k 4 rfl) ?_
    exact x_iret C hr dX1_peopleAt_55 hn (hQ _ h)
  · replace h := h.2 q
    refine w_aload_n C dX1_peopleAt_15 rfl (mem_k 0 rfl) ?_
    refine w_aload_n C dX1_peopleAt_16 rfl (mem_k 0 rfl) ?_
    refine x_getR C dX1_peopleAt_17 fw_X1_11 (isO.n (ci := 1) ⟨rfl, ho0⟩ (hn.trans h3)) (fun r1 er1 => ?_)
    replace h := h r1 er1
    refine w_iload C dX1_peopleAt_20 (mem_k 5 rfl) ?_
    obtain ⟨o2, g3, h⟩ := h
    refine x_aald C dX1_peopleAt_22 (isA.n g3 (hn.trans h3)) (by decide) (fun r4 er4 => ?_)
    replace h := h r4 er4
    refine w_aload_n C dX1_peopleAt_23 rfl (mem_k 1 rfl) ?_
    refine w_iload_n C dX1_peopleAt_24 rfl (mem_k 2 rfl) ?_
    refine w_iload_n C dX1_peopleAt_25 rfl (mem_k 3 rfl) ?_
    refine cl_X1_fitsAt (ck_X1_66 ⟨by decide, by decide⟩) C dX1_peopleAt_26 hn h3 (Nat.le_of_ble_eq_true rfl) (isO.n (ci := 1) ⟨rfl, ho0⟩ (hn.trans h3)) h (fun v5 h => ?_)
    refine w_if_eq (tgt := 47) C dX1_peopleAt_29 (by decide) (fun q => ?_) (fun q => ?_)
    · replace h := h.1 q
      obtain ⟨v6, ev6⟩ : ∃ z : Int, z = x5 + 1 := ⟨_, rfl⟩
      refine x_iinc (L' := [(5, vI v6), (0, vR (some o0)), (1, vR a1), (2, vI x2), (3, vI x3), (4, vI x4)]) C dX1_peopleAt_47 (mem_k 5 rfl) (by decide) h.1 ev6 rfl ?_
      replace h := h.2 v6 ev6
      refine w_goto (tgt := 6) C dX1_peopleAt_50 (by decide) ?_
      refine x_pc (pc2 := 6) rfl ?_
      refine x_pick (L' := [(0, vR (some o0)), (1, vR a1), (2, vI x2), (3, vI x3), (4, vI x4), (5, vI v6)]) [1, 2, 3, 4, 5, 0] rfl ?_
      exact hK6 x4 v6 h
    · replace h := h.2 q
      refine w_iload C dX1_peopleAt_32 (mem_k 4 rfl) ?_
      refine w_aload_n C dX1_peopleAt_34 rfl (mem_k 0 rfl) ?_
      refine x_getR C dX1_peopleAt_35 fw_X1_11 (isO.n (ci := 1) ⟨rfl, ho0⟩ (hn.trans h3)) (fun r7 er7 => ?_)
      replace h := h r7 er7
      refine w_iload C dX1_peopleAt_38 (mem_k 5 rfl) ?_
      obtain ⟨o8, g9, h⟩ := h
      refine x_aald C dX1_peopleAt_40 (isA.n g9 (hn.trans h3)) (by decide) (fun r10 er10 => ?_)
      replace h := h r10 er10
      obtain ⟨o11, g12, h⟩ := h
      refine x_getI C dX1_peopleAt_41 fw_X1_37 (isO.n g12 (hn.trans h3)) ?_
      refine w_iadd C dX1_peopleAt_44 h.1 ?_
      replace h := h.2
      refine x_nmI (fun v13 ev13 => ?_)
      replace h := h v13 ev13
      refine x_istore (L' := [(4, vI v13), (0, vR (some o0)), (1, vR a1), (2, vI x2), (3, vI x3), (5, vI x5)]) C dX1_peopleAt_45 (by decide) rfl ?_
      obtain ⟨v14, ev14⟩ : ∃ z : Int, z = x5 + 1 := ⟨_, rfl⟩
      refine x_iinc (L' := [(5, vI v14), (4, vI v13), (0, vR (some o0)), (1, vR a1), (2, vI x2), (3, vI x3)]) C dX1_peopleAt_47 (mem_k 5 rfl) (by decide) h.1 ev14 rfl ?_
      replace h := h.2 v14 ev14
      refine w_goto (tgt := 6) C dX1_peopleAt_50 (by decide) ?_
      refine x_pc (pc2 := 6) rfl ?_
      refine x_pick (L' := [(0, vR (some o0)), (1, vR a1), (2, vI x2), (3, vI x3), (4, vI v13), (5, vI v14)]) [2, 3, 4, 5, 1, 0] rfl ?_
      exact hK6 v13 v14 h
set_option maxRecDepth 100000 in
set_option maxHeartbeats 4000000 in
theorem k_X1_peopleAt_6 {o0 : Nat} {a1 : Option Nat} {x2 : Int} {x3 : Int} {x4 : Int} {x5 : Int} {M : Mm} {Q : Int → Prop} (C : Cx p s m args meth c cX1_peopleAt 6 RX1 D cy G n0) (hr : meth.sig.returnType = some .int) (h3 : n0 = 243) (hn : M.2.2.2 = n0) (ho0 : o0 < 243 ∧ (SH o0).1 = 1) (hQ : ∀ x, Q x → Qp (some (vI x)) M) (h : P_X1_peopleAt_6 o0 a1 x2 x3 x4 x5 M Q ) : WW p l e ({ frames := 2, cells := 0, slots := 0, locals := 46 }) s m args below meth c (ZQ below args s D cy G n0 Qp n0) 6 D cy G n0 6 [(0, vR (some o0)), (1, vR a1), (2, vI x2), (3, vI x3), (4, vI x4), (5, vI x5)] [] M := by
  refine lpW_sound (P := fun y : Int × Int => WW p l e ({ frames := 2, cells := 0, slots := 0, locals := 46 }) s m args below meth c (ZQ below args s D cy G n0 Qp n0) 6 D cy G n0 6 [(0, vR (some o0)), (1, vR a1), (2, vI x2), (3, vI x3), (4, vI y.1), (5, vI y.2)] [] M) ?_ h
  intro K y hK hF
  obtain ⟨x4, x5⟩ := y
  exact f_X1_peopleAt_6 C hr h3 hn ho0 hQ  (fun x4 x5 hk => hK (x4, x5) hk) hF
set_option maxRecDepth 100000 in
set_option maxHeartbeats 4000000 in
theorem k_X1_peopleAt_0 {o0 : Nat} {a1 : Option Nat} {x2 : Int} {x3 : Int} {M : Mm} {Q : Int → Prop} (C : Cx p s m args meth c cX1_peopleAt 6 RX1 D cy G n0) (hr : meth.sig.returnType = some .int) (h3 : n0 = 243) (hn : M.2.2.2 = n0) (ho0 : o0 < 243 ∧ (SH o0).1 = 1) (hQ : ∀ x, Q x → Qp (some (vI x)) M) (h : P_X1_peopleAt o0 a1 x2 x3 M Q ) : WW p l e ({ frames := 2, cells := 0, slots := 0, locals := 46 }) s m args below meth c (ZQ below args s D cy G n0 Qp n0) 6 D cy G n0 0 [(0, vR (some o0)), (1, vR a1), (2, vI x2), (3, vI x3)] [] M := by
  unfold P_X1_peopleAt at h
  refine w_iconst C dX1_peopleAt_0 ⟨by decide, by decide⟩ ?_
  refine x_istore (L' := [(4, vI 0), (0, vR (some o0)), (1, vR a1), (2, vI x2), (3, vI x3)]) C dX1_peopleAt_1 (by decide) rfl ?_
  refine w_iconst C dX1_peopleAt_3 ⟨by decide, by decide⟩ ?_
  refine x_istore (L' := [(5, vI 0), (4, vI 0), (0, vR (some o0)), (1, vR a1), (2, vI x2), (3, vI x3)]) C dX1_peopleAt_4 (by decide) rfl ?_
  refine x_pc (pc2 := 6) rfl ?_
  refine x_pick (L' := [(0, vR (some o0)), (1, vR a1), (2, vI x2), (3, vI x3), (4, vI 0), (5, vI 0)]) [2, 3, 4, 5, 1, 0] rfl ?_
  exact k_X1_peopleAt_6 C hr h3 hn ho0 hQ  h
set_option maxRecDepth 100000 in
set_option maxHeartbeats 4000000 in
theorem con_X1_peopleAt (l : Launch) (D : va_G) (cy : Nat → ClassId) : Con l D cy yX1_peopleAt cX1_peopleAt 6 (some .int) ({ frames := 2, cells := 0, slots := 0, locals := 46 }) 0 0 SP_X1_peopleAt := by
  refine con_of (by decide) (fun as M Qp h => ?_) ?_
  · obtain ⟨-, o0, a1, x2, x3, rfl, -⟩ := h
    exact Nat.le_of_ble_eq_true rfl
  · intro p e s m args below meth c G as M Qp h C hr hnm
    obtain ⟨hn, o0, a1, x2, x3, rfl, ho1, ho2, Q0, hQ, h⟩ := h
    refine x_pick (L' := [(0, vR (some o0)), (1, vR a1), (2, vI x2), (3, vI x3)]) [0, 1, 2, 3] rfl ?_
    exact k_X1_peopleAt_0 C hr hn rfl ⟨ho1, ho2⟩ hQ h
set_option maxRecDepth 100000 in
set_option maxHeartbeats 4000000 in
theorem cl_X1_peopleAt {p : Program} {l : Launch} {e : Env} {R : Room} {s : State} {m : MethodId} {args : Array Value} {below : List Frame} {meth : Method} {c : Code} {Q : State → Prop} {cc : ByteArray} {nL : Nat} {own : String} {D : va_G} {cy : Nat → ClassId} {G : Nat × Nat} {n0 pc : Nat} {L : List (Nat × PV)} {st : List PV} {M : Mm} {op : Instr} (K : CallOK l D cy R own op 0 0 (spV 1 3 SP_X1_peopleAt)) (C : Cx p s m args meth c cc nL own D cy G n0) (hd : decode cc pc = .ok (op, 3)) (hn : M.2.2.2 = n0) (h3 : n0 = 243) (hlen : argN st ≤ 8) {r : Option Nat} {o0 : Nat} (ho : isOn 1 M.2.2.2 r o0) {a1 : Option Nat} {x2 : Int} {x3 : Int} {Q0 : Int → Prop} (h : P_X1_peopleAt o0 a1 x2 x3 M Q0) (k : ∀ x, Q0 x → WW p l e R s m args below meth c Q nL D cy G n0  (pc + 3) L (vI x :: st) M) : WW p l e R s m args below meth c Q nL D cy G n0  pc L (vI x3 :: vI x2 :: vR a1 :: vR r :: st) M := by
  obtain ⟨rfl, ho1, ho2⟩ := ho
  refine x_call0 K C hd (as := [vR (some o0), vR a1, vI x2, vI x3]) rfl hn hlen (fun v M2 => ∃ x, v = some (vI x) ∧ M2 = M ∧ Q0 x) ⟨⟨o0, [vR a1, vI x2, vI x3], rfl, rfl, ho1, ho2⟩, hn.trans h3, o0, a1, x2, x3, rfl, (hn.trans h3) ▸ ho1, ho2, Q0, fun x hx => ⟨x, rfl, rfl, hx⟩, h⟩ ?_
  rintro _ _ ⟨x, rfl, rfl, hx⟩ hm
  exact k x hx
end W_X1_peopleAt
theorem dX1_bestSetting_0 : decode cX1_bestSetting 0 = .ok (.iconst 0, 1) := by decide +kernel
theorem dX1_bestSetting_1 : decode cX1_bestSetting 1 = .ok (.istore_n 2, 1) := by decide +kernel
theorem dX1_bestSetting_2 : decode cX1_bestSetting 2 = .ok (.iconst 0, 1) := by decide +kernel
theorem dX1_bestSetting_3 : decode cX1_bestSetting 3 = .ok (.istore_n 3, 1) := by decide +kernel
theorem dX1_bestSetting_4 : decode cX1_bestSetting 4 = .ok (.iconst 0, 1) := by decide +kernel
theorem dX1_bestSetting_5 : decode cX1_bestSetting 5 = .ok (.istore 4, 2) := by decide +kernel
theorem dX1_bestSetting_7 : decode cX1_bestSetting 7 = .ok (.iload 4, 2) := by decide +kernel
theorem dX1_bestSetting_9 : decode cX1_bestSetting 9 = .ok (.bipush 100, 2) := by decide +kernel
theorem dX1_bestSetting_11 : decode cX1_bestSetting 11 = .ok (.if_icmp .ge 38, 3) := by decide +kernel
theorem dX1_bestSetting_14 : decode cX1_bestSetting 14 = .ok (.aload_n 0, 1) := by decide +kernel
theorem dX1_bestSetting_15 : decode cX1_bestSetting 15 = .ok (.aload_n 1, 1) := by decide +kernel
theorem dX1_bestSetting_16 : decode cX1_bestSetting 16 = .ok (.iload 4, 2) := by decide +kernel
theorem dX1_bestSetting_18 : decode cX1_bestSetting 18 = .ok (.bipush 10, 2) := by decide +kernel
theorem dX1_bestSetting_20 : decode cX1_bestSetting 20 = .ok (.idiv, 1) := by decide +kernel
theorem dX1_bestSetting_21 : decode cX1_bestSetting 21 = .ok (.iload 4, 2) := by decide +kernel
theorem dX1_bestSetting_23 : decode cX1_bestSetting 23 = .ok (.bipush 10, 2) := by decide +kernel
theorem dX1_bestSetting_25 : decode cX1_bestSetting 25 = .ok (.irem, 1) := by decide +kernel
theorem dX1_bestSetting_26 : decode cX1_bestSetting 26 = .ok (.invokevirtual 70, 3) := by decide +kernel
theorem dX1_bestSetting_29 : decode cX1_bestSetting 29 = .ok (.istore 5, 2) := by decide +kernel
theorem dX1_bestSetting_31 : decode cX1_bestSetting 31 = .ok (.iload 5, 2) := by decide +kernel
theorem dX1_bestSetting_33 : decode cX1_bestSetting 33 = .ok (.iload_n 3, 1) := by decide +kernel
theorem dX1_bestSetting_34 : decode cX1_bestSetting 34 = .ok (.if_icmp .le 9, 3) := by decide +kernel
theorem dX1_bestSetting_37 : decode cX1_bestSetting 37 = .ok (.iload 5, 2) := by decide +kernel
theorem dX1_bestSetting_39 : decode cX1_bestSetting 39 = .ok (.istore_n 3, 1) := by decide +kernel
theorem dX1_bestSetting_40 : decode cX1_bestSetting 40 = .ok (.iload 4, 2) := by decide +kernel
theorem dX1_bestSetting_42 : decode cX1_bestSetting 42 = .ok (.istore_n 2, 1) := by decide +kernel
theorem dX1_bestSetting_43 : decode cX1_bestSetting 43 = .ok (.iinc 4 1, 3) := by decide +kernel
theorem dX1_bestSetting_46 : decode cX1_bestSetting 46 = .ok (.goto (-39), 3) := by decide +kernel
theorem dX1_bestSetting_49 : decode cX1_bestSetting 49 = .ok (.iload_n 2, 1) := by decide +kernel
theorem dX1_bestSetting_50 : decode cX1_bestSetting 50 = .ok (.ireturn, 1) := by decide +kernel
theorem ck_X1_70 {l : Launch} {D : va_G} {cy : Nat → ClassId} {R : Room} (hR : 3 ≤ R.frames ∧ 71 ≤ R.locals) : CallOK l D cy R RX1 (.invokevirtual 70) 0 0 (spV 1 3 SP_X1_peopleAt) := call_V (ci := 1) (con_X1_peopleAt l D cy) (lwG_3 (i := 94) rfl rfl) (lwG_3 (i := 95) rfl rfl) (lwG_3 (i := 96) rfl rfl) (lwG_1 (i := 7) rfl rfl) (lwG_3 (i := 97) rfl rfl) (by decide) ⟨rfl, by decide, by decide, rfl⟩ ⟨rfl, rfl⟩ hR
section W_X1_bestSetting
variable {p : Program} {l : Launch} {e : Env} {s : State} {m : MethodId} {args : Array Value} {below : List Frame} {meth : Method} {c : Code} {D : va_G} {cy : Nat → ClassId} {G : Nat × Nat} {n0 : Nat} {Qp : Option PV → Mm → Prop}
set_option maxRecDepth 100000 in
set_option maxHeartbeats 4000000 in
theorem f_X1_bestSetting_7 {o0 : Nat} {a1 : Option Nat} {x2 : Int} {x3 : Int} {x4 : Int} {M : Mm} {Q : Int → Prop} {K7 : Int × Int × Int → Prop} (C : Cx p s m args meth c cX1_bestSetting 6 RX1 D cy G n0) (hr : meth.sig.returnType = some .int) (h3 : n0 = 243) (hn : M.2.2.2 = n0) (ho0 : o0 < 243 ∧ (SH o0).1 = 1) (hQ : ∀ x, Q x → Qp (some (vI x)) M) (hK7 : ∀ (x2 : Int) (x3 : Int) (x4 : Int), K7 (x2, x3, x4) → WW p l e ({ frames := 3, cells := 0, slots := 0, locals := 71 }) s m args below meth c (ZQ below args s D cy G n0 Qp n0) 6 D cy G n0 7 [(0, vR (some o0)), (1, vR a1), (2, vI x2), (3, vI x3), (4, vI x4)] [] M) (h : F_X1_bestSetting_7 o0 a1 M Q  K7 x2 x3 x4) : WW p l e ({ frames := 3, cells := 0, slots := 0, locals := 71 }) s m args below meth c (ZQ below args s D cy G n0 Qp n0) 6 D cy G n0 7 [(0, vR (some o0)), (1, vR a1), (2, vI x2), (3, vI x3), (4, vI x4)] [] M := by
  unfold F_X1_bestSetting_7 at h
  refine w_iload C dX1_bestSetting_7 (mem_k 4 rfl) ?_
  refine w_bipush C dX1_bestSetting_9 (by decide) ?_
  refine w_icmp_ge (tgt := 49) C dX1_bestSetting_11 (by decide) (fun q => ?_) (fun q => ?_)
  · replace h := h.1 q
    refine w_iload_n C dX1_bestSetting_49 rfl (mem_k 2 rfl) ?_
    exact x_iret C hr dX1_bestSetting_50 hn (hQ _ h)
  · replace h := h.2 q
    refine w_aload_n C dX1_bestSetting_14 rfl (mem_k 0 rfl) ?_
    refine w_aload_n C dX1_bestSetting_15 rfl (mem_k 1 rfl) ?_
    refine w_iload C dX1_bestSetting_16 (mem_k 4 rfl) ?_
    refine w_bipush C dX1_bestSetting_18 (by decide) ?_
    refine x_idiv C dX1_bestSetting_20 (by decide) ?_
    refine w_iload C dX1_bestSetting_21 (mem_k 4 rfl) ?_
    refine w_bipush C dX1_bestSetting_23 (by decide) ?_
    refine x_irem C dX1_bestSetting_25 (by decide) ?_
    refine cl_X1_peopleAt (ck_X1_70 ⟨by decide, by decide⟩) C dX1_bestSetting_26 hn h3 (Nat.le_of_ble_eq_true rfl) (isO.n (ci := 1) ⟨rfl, ho0⟩ (hn.trans h3)) h (fun v1 h => ?_)
    refine x_istore (L' := [(5, vI v1), (0, vR (some o0)), (1, vR a1), (2, vI x2), (3, vI x3), (4, vI x4)]) C dX1_bestSetting_29 (by decide) rfl ?_
    refine w_iload C dX1_bestSetting_31 (mem_k 0 rfl) ?_
    refine w_iload_n C dX1_bestSetting_33 rfl (mem_k 4 rfl) ?_
    refine w_icmp_le (tgt := 43) C dX1_bestSetting_34 (by decide) (fun q => ?_) (fun q => ?_)
    · replace h := h.1 q
      obtain ⟨v2, ev2⟩ : ∃ z : Int, z = x4 + 1 := ⟨_, rfl⟩
      refine x_iinc (L' := [(4, vI v2), (5, vI v1), (0, vR (some o0)), (1, vR a1), (2, vI x2), (3, vI x3)]) C dX1_bestSetting_43 (mem_k 5 rfl) (by decide) h.1 ev2 rfl ?_
      replace h := h.2 v2 ev2
      refine w_goto (tgt := 7) C dX1_bestSetting_46 (by decide) ?_
      refine x_pc (pc2 := 7) rfl ?_
      refine x_pick (L' := [(0, vR (some o0)), (1, vR a1), (2, vI x2), (3, vI x3), (4, vI v2)]) [2, 3, 4, 5, 0] rfl ?_
      exact hK7 x2 x3 v2 h
    · replace h := h.2 q
      refine w_iload C dX1_bestSetting_37 (mem_k 0 rfl) ?_
      refine x_istore_n (L' := [(3, vI v1), (5, vI v1), (0, vR (some o0)), (1, vR a1), (2, vI x2), (4, vI x4)]) C dX1_bestSetting_39 rfl (by decide) rfl ?_
      refine w_iload C dX1_bestSetting_40 (mem_k 5 rfl) ?_
      refine x_istore_n (L' := [(2, vI x4), (3, vI v1), (5, vI v1), (0, vR (some o0)), (1, vR a1), (4, vI x4)]) C dX1_bestSetting_42 rfl (by decide) rfl ?_
      obtain ⟨v3, ev3⟩ : ∃ z : Int, z = x4 + 1 := ⟨_, rfl⟩
      refine x_iinc (L' := [(4, vI v3), (2, vI x4), (3, vI v1), (5, vI v1), (0, vR (some o0)), (1, vR a1)]) C dX1_bestSetting_43 (mem_k 5 rfl) (by decide) h.1 ev3 rfl ?_
      replace h := h.2 v3 ev3
      refine w_goto (tgt := 7) C dX1_bestSetting_46 (by decide) ?_
      refine x_pc (pc2 := 7) rfl ?_
      refine x_pick (L' := [(0, vR (some o0)), (1, vR a1), (2, vI x4), (3, vI v1), (4, vI v3)]) [4, 5, 1, 2, 0] rfl ?_
      exact hK7 x4 v1 v3 h
set_option maxRecDepth 100000 in
set_option maxHeartbeats 4000000 in
theorem k_X1_bestSetting_7 {o0 : Nat} {a1 : Option Nat} {x2 : Int} {x3 : Int} {x4 : Int} {M : Mm} {Q : Int → Prop} (C : Cx p s m args meth c cX1_bestSetting 6 RX1 D cy G n0) (hr : meth.sig.returnType = some .int) (h3 : n0 = 243) (hn : M.2.2.2 = n0) (ho0 : o0 < 243 ∧ (SH o0).1 = 1) (hQ : ∀ x, Q x → Qp (some (vI x)) M) (h : P_X1_bestSetting_7 o0 a1 x2 x3 x4 M Q ) : WW p l e ({ frames := 3, cells := 0, slots := 0, locals := 71 }) s m args below meth c (ZQ below args s D cy G n0 Qp n0) 6 D cy G n0 7 [(0, vR (some o0)), (1, vR a1), (2, vI x2), (3, vI x3), (4, vI x4)] [] M := by
  refine lpW_sound (P := fun y : Int × Int × Int => WW p l e ({ frames := 3, cells := 0, slots := 0, locals := 71 }) s m args below meth c (ZQ below args s D cy G n0 Qp n0) 6 D cy G n0 7 [(0, vR (some o0)), (1, vR a1), (2, vI y.1), (3, vI y.2.1), (4, vI y.2.2)] [] M) ?_ h
  intro K y hK hF
  obtain ⟨x2, x3, x4⟩ := y
  exact f_X1_bestSetting_7 C hr h3 hn ho0 hQ  (fun x2 x3 x4 hk => hK (x2, x3, x4) hk) hF
set_option maxRecDepth 100000 in
set_option maxHeartbeats 4000000 in
theorem k_X1_bestSetting_0 {o0 : Nat} {a1 : Option Nat} {M : Mm} {Q : Int → Prop} (C : Cx p s m args meth c cX1_bestSetting 6 RX1 D cy G n0) (hr : meth.sig.returnType = some .int) (h3 : n0 = 243) (hn : M.2.2.2 = n0) (ho0 : o0 < 243 ∧ (SH o0).1 = 1) (hQ : ∀ x, Q x → Qp (some (vI x)) M) (h : P_X1_bestSetting o0 a1 M Q ) : WW p l e ({ frames := 3, cells := 0, slots := 0, locals := 71 }) s m args below meth c (ZQ below args s D cy G n0 Qp n0) 6 D cy G n0 0 [(0, vR (some o0)), (1, vR a1)] [] M := by
  unfold P_X1_bestSetting at h
  refine w_iconst C dX1_bestSetting_0 ⟨by decide, by decide⟩ ?_
  refine x_istore_n (L' := [(2, vI 0), (0, vR (some o0)), (1, vR a1)]) C dX1_bestSetting_1 rfl (by decide) rfl ?_
  refine w_iconst C dX1_bestSetting_2 ⟨by decide, by decide⟩ ?_
  refine x_istore_n (L' := [(3, vI 0), (2, vI 0), (0, vR (some o0)), (1, vR a1)]) C dX1_bestSetting_3 rfl (by decide) rfl ?_
  refine w_iconst C dX1_bestSetting_4 ⟨by decide, by decide⟩ ?_
  refine x_istore (L' := [(4, vI 0), (3, vI 0), (2, vI 0), (0, vR (some o0)), (1, vR a1)]) C dX1_bestSetting_5 (by decide) rfl ?_
  refine x_pc (pc2 := 7) rfl ?_
  refine x_pick (L' := [(0, vR (some o0)), (1, vR a1), (2, vI 0), (3, vI 0), (4, vI 0)]) [3, 4, 2, 1, 0] rfl ?_
  exact k_X1_bestSetting_7 C hr h3 hn ho0 hQ  h
set_option maxRecDepth 100000 in
set_option maxHeartbeats 4000000 in
theorem con_X1_bestSetting (l : Launch) (D : va_G) (cy : Nat → ClassId) : Con l D cy yX1_bestSetting cX1_bestSetting 6 (some .int) ({ frames := 3, cells := 0, slots := 0, locals := 71 }) 0 0 SP_X1_bestSetting := by
  refine con_of (by decide) (fun as M Qp h => ?_) ?_
  · obtain ⟨-, o0, a1, rfl, -⟩ := h
    exact Nat.le_of_ble_eq_true rfl
  · intro p e s m args below meth c G as M Qp h C hr hnm
    obtain ⟨hn, o0, a1, rfl, ho1, ho2, Q0, hQ, h⟩ := h
    refine x_pick (L' := [(0, vR (some o0)), (1, vR a1)]) [0, 1] rfl ?_
    exact k_X1_bestSetting_0 C hr hn rfl ⟨ho1, ho2⟩ hQ h
set_option maxRecDepth 100000 in
set_option maxHeartbeats 4000000 in
theorem cl_X1_bestSetting {p : Program} {l : Launch} {e : Env} {R : Room} {s : State} {m : MethodId} {args : Array Value} {below : List Frame} {meth : Method} {c : Code} {Q : State → Prop} {cc : ByteArray} {nL : Nat} {own : String} {D : va_G} {cy : Nat → ClassId} {G : Nat × Nat} {n0 pc : Nat} {L : List (Nat × PV)} {st : List PV} {M : Mm} {op : Instr} (K : CallOK l D cy R own op 0 0 (spV 1 1 SP_X1_bestSetting)) (C : Cx p s m args meth c cc nL own D cy G n0) (hd : decode cc pc = .ok (op, 3)) (hn : M.2.2.2 = n0) (h3 : n0 = 243) (hlen : argN st ≤ 8) {r : Option Nat} {o0 : Nat} (ho : isOn 1 M.2.2.2 r o0) {a1 : Option Nat} {Q0 : Int → Prop} (h : P_X1_bestSetting o0 a1 M Q0) (k : ∀ x, Q0 x → WW p l e R s m args below meth c Q nL D cy G n0  (pc + 3) L (vI x :: st) M) : WW p l e R s m args below meth c Q nL D cy G n0  pc L (vR a1 :: vR r :: st) M := by
  obtain ⟨rfl, ho1, ho2⟩ := ho
  refine x_call0 K C hd (as := [vR (some o0), vR a1]) rfl hn hlen (fun v M2 => ∃ x, v = some (vI x) ∧ M2 = M ∧ Q0 x) ⟨⟨o0, [vR a1], rfl, rfl, ho1, ho2⟩, hn.trans h3, o0, a1, rfl, (hn.trans h3) ▸ ho1, ho2, Q0, fun x hx => ⟨x, rfl, rfl, hx⟩, h⟩ ?_
  rintro _ _ ⟨x, rfl, rfl, hx⟩ hm
  exact k x hx
end W_X1_bestSetting
theorem dX1_noteWhoFits_0 : decode cX1_noteWhoFits 0 = .ok (.iconst 0, 1) := by decide +kernel
theorem dX1_noteWhoFits_1 : decode cX1_noteWhoFits 1 = .ok (.istore_n 2, 1) := by decide +kernel
theorem dX1_noteWhoFits_2 : decode cX1_noteWhoFits 2 = .ok (.iload_n 2, 1) := by decide +kernel
theorem dX1_noteWhoFits_3 : decode cX1_noteWhoFits 3 = .ok (.aload_n 1, 1) := by decide +kernel
theorem dX1_noteWhoFits_4 : decode cX1_noteWhoFits 4 = .ok (.getfield 74, 3) := by decide +kernel
theorem dX1_noteWhoFits_7 : decode cX1_noteWhoFits 7 = .ok (.if_icmp .ge 63, 3) := by decide +kernel
theorem dX1_noteWhoFits_10 : decode cX1_noteWhoFits 10 = .ok (.iconst 0, 1) := by decide +kernel
theorem dX1_noteWhoFits_11 : decode cX1_noteWhoFits 11 = .ok (.istore_n 3, 1) := by decide +kernel
theorem dX1_noteWhoFits_12 : decode cX1_noteWhoFits 12 = .ok (.iconst 0, 1) := by decide +kernel
theorem dX1_noteWhoFits_13 : decode cX1_noteWhoFits 13 = .ok (.istore 4, 2) := by decide +kernel
theorem dX1_noteWhoFits_15 : decode cX1_noteWhoFits 15 = .ok (.iload 4, 2) := by decide +kernel
theorem dX1_noteWhoFits_17 : decode cX1_noteWhoFits 17 = .ok (.aload_n 0, 1) := by decide +kernel
theorem dX1_noteWhoFits_18 : decode cX1_noteWhoFits 18 = .ok (.getfield 26, 3) := by decide +kernel
theorem dX1_noteWhoFits_21 : decode cX1_noteWhoFits 21 = .ok (.if_icmp .ge 36, 3) := by decide +kernel
theorem dX1_noteWhoFits_24 : decode cX1_noteWhoFits 24 = .ok (.aload_n 0, 1) := by decide +kernel
theorem dX1_noteWhoFits_25 : decode cX1_noteWhoFits 25 = .ok (.aload_n 0, 1) := by decide +kernel
theorem dX1_noteWhoFits_26 : decode cX1_noteWhoFits 26 = .ok (.getfield 11, 3) := by decide +kernel
theorem dX1_noteWhoFits_29 : decode cX1_noteWhoFits 29 = .ok (.iload 4, 2) := by decide +kernel
theorem dX1_noteWhoFits_31 : decode cX1_noteWhoFits 31 = .ok (.aaload, 1) := by decide +kernel
theorem dX1_noteWhoFits_32 : decode cX1_noteWhoFits 32 = .ok (.aload_n 1, 1) := by decide +kernel
theorem dX1_noteWhoFits_33 : decode cX1_noteWhoFits 33 = .ok (.getfield 79, 3) := by decide +kernel
theorem dX1_noteWhoFits_36 : decode cX1_noteWhoFits 36 = .ok (.iload_n 2, 1) := by decide +kernel
theorem dX1_noteWhoFits_37 : decode cX1_noteWhoFits 37 = .ok (.aaload, 1) := by decide +kernel
theorem dX1_noteWhoFits_38 : decode cX1_noteWhoFits 38 = .ok (.invokevirtual 83, 3) := by decide +kernel
theorem dX1_noteWhoFits_41 : decode cX1_noteWhoFits 41 = .ok (.ifCond .eq 10, 3) := by decide +kernel
theorem dX1_noteWhoFits_44 : decode cX1_noteWhoFits 44 = .ok (.iload_n 3, 1) := by decide +kernel
theorem dX1_noteWhoFits_45 : decode cX1_noteWhoFits 45 = .ok (.iconst 1, 1) := by decide +kernel
theorem dX1_noteWhoFits_46 : decode cX1_noteWhoFits 46 = .ok (.iload 4, 2) := by decide +kernel
theorem dX1_noteWhoFits_48 : decode cX1_noteWhoFits 48 = .ok (.ishl, 1) := by decide +kernel
theorem dX1_noteWhoFits_49 : decode cX1_noteWhoFits 49 = .ok (.ior, 1) := by decide +kernel
theorem dX1_noteWhoFits_50 : decode cX1_noteWhoFits 50 = .ok (.istore_n 3, 1) := by decide +kernel
theorem dX1_noteWhoFits_51 : decode cX1_noteWhoFits 51 = .ok (.iinc 4 1, 3) := by decide +kernel
theorem dX1_noteWhoFits_54 : decode cX1_noteWhoFits 54 = .ok (.goto (-39), 3) := by decide +kernel
theorem dX1_noteWhoFits_57 : decode cX1_noteWhoFits 57 = .ok (.aload_n 0, 1) := by decide +kernel
theorem dX1_noteWhoFits_58 : decode cX1_noteWhoFits 58 = .ok (.getfield 21, 3) := by decide +kernel
theorem dX1_noteWhoFits_61 : decode cX1_noteWhoFits 61 = .ok (.iload_n 2, 1) := by decide +kernel
theorem dX1_noteWhoFits_62 : decode cX1_noteWhoFits 62 = .ok (.iload_n 3, 1) := by decide +kernel
theorem dX1_noteWhoFits_63 : decode cX1_noteWhoFits 63 = .ok (.iastore, 1) := by decide +kernel
theorem dX1_noteWhoFits_64 : decode cX1_noteWhoFits 64 = .ok (.iinc 2 1, 3) := by decide +kernel
theorem dX1_noteWhoFits_67 : decode cX1_noteWhoFits 67 = .ok (.goto (-65), 3) := by decide +kernel
theorem dX1_noteWhoFits_70 : decode cX1_noteWhoFits 70 = .ok (.return_, 1) := by decide +kernel
theorem fw_X1_21 : fR RX1 21 1 3 := ⟨⟨lwG_1 (i := 206) rfl rfl, by decide, by decide⟩, fun _ _ => rfl, fun r => ⟨r, rfl⟩⟩
theorem fw_X1_79 : fR RX1 79 5 2 := ⟨⟨lwG_1 (i := 140) rfl rfl, by decide, by decide⟩, fun _ _ => rfl, fun r => ⟨r, rfl⟩⟩
theorem ck_X1_83 {l : Launch} {D : va_G} {cy : Nat → ClassId} {R : Room} (hR : 3 ≤ R.frames ∧ 69 ≤ R.locals) : CallOK l D cy R RX1 (.invokevirtual 83) 0 0 (spV 1 2 SP_X1_fitsSomehow) := call_V (ci := 1) (con_X1_fitsSomehow l D cy) (lwG_3 (i := 81) rfl rfl) (lwG_3 (i := 49) rfl rfl) (lwG_3 (i := 50) rfl rfl) (lwG_1 (i := 7) rfl rfl) (lwG_3 (i := 51) rfl rfl) (by decide) ⟨rfl, by decide, by decide, rfl⟩ ⟨rfl, rfl⟩ hR
theorem fw_X1_74 : fI RX1 74 5 3 := ⟨⟨lwG_1 (i := 143) rfl rfl, by decide, by decide⟩, rfl⟩
section W_X1_noteWhoFits
variable {p : Program} {l : Launch} {e : Env} {s : State} {m : MethodId} {args : Array Value} {below : List Frame} {meth : Method} {c : Code} {D : va_G} {cy : Nat → ClassId} {G : Nat × Nat} {n0 : Nat} {Qp : Option PV → Mm → Prop}
set_option maxRecDepth 100000 in
set_option maxHeartbeats 4000000 in
theorem f_X1_noteWhoFits_15 {o0 : Nat} {a1 : Option Nat} {x2 : Int} {x3 : Int} {x4 : Int} {M : Mm} {Q : Mm → Prop} {K2 : Int × Mm → Prop} {K15 : Int × Int → Prop} (C : Cx p s m args meth c cX1_noteWhoFits 5 RX1 D cy G n0) (hr : meth.sig.returnType = none) (h3 : n0 = 243) (hn : M.2.2.2 = n0) (ho0 : o0 < 243 ∧ (SH o0).1 = 1) (hQ : ∀ M, Q M → Qp none M) (hK2 : ∀ (x2 : Int) (M : Mm), K2 (x2, M) → M.2.2.2 = n0 → WW p l e ({ frames := 3, cells := 0, slots := 0, locals := 69 }) s m args below meth c (ZQ below args s D cy G n0 Qp n0) 5 D cy G n0 2 [(0, vR (some o0)), (1, vR a1), (2, vI x2)] [] M) (hK15 : ∀ (x3 : Int) (x4 : Int), K15 (x3, x4) → WW p l e ({ frames := 3, cells := 0, slots := 0, locals := 69 }) s m args below meth c (ZQ below args s D cy G n0 Qp n0) 5 D cy G n0 15 [(0, vR (some o0)), (1, vR a1), (2, vI x2), (3, vI x3), (4, vI x4)] [] M) (h : F_X1_noteWhoFits_15 o0 a1 x2 M Q K2 K15 x3 x4) : WW p l e ({ frames := 3, cells := 0, slots := 0, locals := 69 }) s m args below meth c (ZQ below args s D cy G n0 Qp n0) 5 D cy G n0 15 [(0, vR (some o0)), (1, vR a1), (2, vI x2), (3, vI x3), (4, vI x4)] [] M := by
  unfold F_X1_noteWhoFits_15 at h
  refine w_iload C dX1_noteWhoFits_15 (mem_k 4 rfl) ?_
  refine w_aload_n C dX1_noteWhoFits_17 rfl (mem_k 0 rfl) ?_
  refine x_getI C dX1_noteWhoFits_18 fw_X1_26 (isO.n (ci := 1) ⟨rfl, ho0⟩ (hn.trans h3)) ?_
  refine w_icmp_ge (tgt := 57) C dX1_noteWhoFits_21 (by decide) (fun q => ?_) (fun q => ?_)
  · replace h := h.1 q
    refine w_aload_n C dX1_noteWhoFits_57 rfl (mem_k 0 rfl) ?_
    refine x_getR C dX1_noteWhoFits_58 fw_X1_21 (isO.n (ci := 1) ⟨rfl, ho0⟩ (hn.trans h3)) (fun r1 er1 => ?_)
    replace h := h r1 er1
    refine w_iload_n C dX1_noteWhoFits_61 rfl (mem_k 2 rfl) ?_
    refine w_iload_n C dX1_noteWhoFits_62 rfl (mem_k 3 rfl) ?_
    obtain ⟨o2, g3, h⟩ := h
    refine x_iast C dX1_noteWhoFits_63 (isA.n g3 (hn.trans h3)) (fun M4 eM4 hn5 => ?_)
    replace h := h M4 eM4
    replace hn5 := hn5.trans hn
    obtain ⟨v6, ev6⟩ : ∃ z : Int, z = x2 + 1 := ⟨_, rfl⟩
    refine x_iinc (L' := [(2, vI v6), (0, vR (some o0)), (1, vR a1), (3, vI x3), (4, vI x4)]) C dX1_noteWhoFits_64 (mem_k 2 rfl) (by decide) h.1 ev6 rfl ?_
    replace h := h.2 v6 ev6
    refine w_goto (tgt := 2) C dX1_noteWhoFits_67 (by decide) ?_
    refine x_pc (pc2 := 2) rfl ?_
    refine x_pick (L' := [(0, vR (some o0)), (1, vR a1), (2, vI v6)]) [1, 2, 0] rfl ?_
    exact hK2 v6 M4 h hn5
  · replace h := h.2 q
    refine w_aload_n C dX1_noteWhoFits_24 rfl (mem_k 0 rfl) ?_
    refine w_aload_n C dX1_noteWhoFits_25 rfl (mem_k 0 rfl) ?_
    refine x_getR C dX1_noteWhoFits_26 fw_X1_11 (isO.n (ci := 1) ⟨rfl, ho0⟩ (hn.trans h3)) (fun r7 er7 => ?_)
    replace h := h r7 er7
    refine w_iload C dX1_noteWhoFits_29 (mem_k 4 rfl) ?_
    obtain ⟨o8, g9, h⟩ := h
    refine x_aald C dX1_noteWhoFits_31 (isA.n g9 (hn.trans h3)) (by decide) (fun r10 er10 => ?_)
    replace h := h r10 er10
    refine w_aload_n C dX1_noteWhoFits_32 rfl (mem_k 1 rfl) ?_
    obtain ⟨o11, g12, h⟩ := h
    refine x_getR C dX1_noteWhoFits_33 fw_X1_79 (isO.n g12 (hn.trans h3)) (fun r13 er13 => ?_)
    replace h := h r13 er13
    refine w_iload_n C dX1_noteWhoFits_36 rfl (mem_k 2 rfl) ?_
    obtain ⟨o14, g15, h⟩ := h
    refine x_aald C dX1_noteWhoFits_37 (isA.n g15 (hn.trans h3)) (by decide) (fun r16 er16 => ?_)
    replace h := h r16 er16
    refine cl_X1_fitsSomehow (ck_X1_83 ⟨by decide, by decide⟩) C dX1_noteWhoFits_38 hn h3 (Nat.le_of_ble_eq_true rfl) (isO.n (ci := 1) ⟨rfl, ho0⟩ (hn.trans h3)) h (fun v17 h => ?_)
    refine w_if_eq (tgt := 51) C dX1_noteWhoFits_41 (by decide) (fun q => ?_) (fun q => ?_)
    · replace h := h.1 q
      obtain ⟨v18, ev18⟩ : ∃ z : Int, z = x4 + 1 := ⟨_, rfl⟩
      refine x_iinc (L' := [(4, vI v18), (0, vR (some o0)), (1, vR a1), (2, vI x2), (3, vI x3)]) C dX1_noteWhoFits_51 (mem_k 4 rfl) (by decide) h.1 ev18 rfl ?_
      replace h := h.2 v18 ev18
      refine w_goto (tgt := 15) C dX1_noteWhoFits_54 (by decide) ?_
      refine x_pc (pc2 := 15) rfl ?_
      refine x_pick (L' := [(0, vR (some o0)), (1, vR a1), (2, vI x2), (3, vI x3), (4, vI v18)]) [1, 2, 3, 4, 0] rfl ?_
      exact hK15 x3 v18 h
    · replace h := h.2 q
      refine w_iload_n C dX1_noteWhoFits_44 rfl (mem_k 3 rfl) ?_
      refine w_iconst C dX1_noteWhoFits_45 ⟨by decide, by decide⟩ ?_
      refine w_iload C dX1_noteWhoFits_46 (mem_k 4 rfl) ?_
      refine w_ishl C dX1_noteWhoFits_48 ?_
      refine w_ior C dX1_noteWhoFits_49 ?_
      refine x_nmI (fun v19 ev19 => ?_)
      replace h := h v19 ev19
      refine x_istore_n (L' := [(3, vI v19), (0, vR (some o0)), (1, vR a1), (2, vI x2), (4, vI x4)]) C dX1_noteWhoFits_50 rfl (by decide) rfl ?_
      obtain ⟨v20, ev20⟩ : ∃ z : Int, z = x4 + 1 := ⟨_, rfl⟩
      refine x_iinc (L' := [(4, vI v20), (3, vI v19), (0, vR (some o0)), (1, vR a1), (2, vI x2)]) C dX1_noteWhoFits_51 (mem_k 4 rfl) (by decide) h.1 ev20 rfl ?_
      replace h := h.2 v20 ev20
      refine w_goto (tgt := 15) C dX1_noteWhoFits_54 (by decide) ?_
      refine x_pc (pc2 := 15) rfl ?_
      refine x_pick (L' := [(0, vR (some o0)), (1, vR a1), (2, vI x2), (3, vI v19), (4, vI v20)]) [2, 3, 4, 1, 0] rfl ?_
      exact hK15 v19 v20 h
set_option maxRecDepth 100000 in
set_option maxHeartbeats 4000000 in
theorem k_X1_noteWhoFits_15 {o0 : Nat} {a1 : Option Nat} {x2 : Int} {x3 : Int} {x4 : Int} {M : Mm} {Q : Mm → Prop} {K2 : Int × Mm → Prop} (C : Cx p s m args meth c cX1_noteWhoFits 5 RX1 D cy G n0) (hr : meth.sig.returnType = none) (h3 : n0 = 243) (hn : M.2.2.2 = n0) (ho0 : o0 < 243 ∧ (SH o0).1 = 1) (hQ : ∀ M, Q M → Qp none M) (hK2 : ∀ (x2 : Int) (M : Mm), K2 (x2, M) → M.2.2.2 = n0 → WW p l e ({ frames := 3, cells := 0, slots := 0, locals := 69 }) s m args below meth c (ZQ below args s D cy G n0 Qp n0) 5 D cy G n0 2 [(0, vR (some o0)), (1, vR a1), (2, vI x2)] [] M) (h : P_X1_noteWhoFits_15 o0 a1 x2 x3 x4 M Q K2) : WW p l e ({ frames := 3, cells := 0, slots := 0, locals := 69 }) s m args below meth c (ZQ below args s D cy G n0 Qp n0) 5 D cy G n0 15 [(0, vR (some o0)), (1, vR a1), (2, vI x2), (3, vI x3), (4, vI x4)] [] M := by
  refine lpW_sound (P := fun y : Int × Int => WW p l e ({ frames := 3, cells := 0, slots := 0, locals := 69 }) s m args below meth c (ZQ below args s D cy G n0 Qp n0) 5 D cy G n0 15 [(0, vR (some o0)), (1, vR a1), (2, vI x2), (3, vI y.1), (4, vI y.2)] [] M) ?_ h
  intro K y hK hF
  obtain ⟨x3, x4⟩ := y
  exact f_X1_noteWhoFits_15 C hr h3 hn ho0 hQ hK2 (fun x3 x4 hk => hK (x3, x4) hk) hF
set_option maxRecDepth 100000 in
set_option maxHeartbeats 4000000 in
theorem f_X1_noteWhoFits_2 {o0 : Nat} {a1 : Option Nat} {x2 : Int} {M : Mm} {Q : Mm → Prop} {K2 : Int × Mm → Prop} (C : Cx p s m args meth c cX1_noteWhoFits 5 RX1 D cy G n0) (hr : meth.sig.returnType = none) (h3 : n0 = 243) (hn : M.2.2.2 = n0) (ho0 : o0 < 243 ∧ (SH o0).1 = 1) (hQ : ∀ M, Q M → Qp none M) (hK2 : ∀ (x2 : Int) (M : Mm), K2 (x2, M) → M.2.2.2 = n0 → WW p l e ({ frames := 3, cells := 0, slots := 0, locals := 69 }) s m args below meth c (ZQ below args s D cy G n0 Qp n0) 5 D cy G n0 2 [(0, vR (some o0)), (1, vR a1), (2, vI x2)] [] M) (h : F_X1_noteWhoFits_2 o0 a1 Q  K2 x2 M) : WW p l e ({ frames := 3, cells := 0, slots := 0, locals := 69 }) s m args below meth c (ZQ below args s D cy G n0 Qp n0) 5 D cy G n0 2 [(0, vR (some o0)), (1, vR a1), (2, vI x2)] [] M := by
  unfold F_X1_noteWhoFits_2 at h
  refine w_iload_n C dX1_noteWhoFits_2 rfl (mem_k 2 rfl) ?_
  refine w_aload_n C dX1_noteWhoFits_3 rfl (mem_k 1 rfl) ?_
  obtain ⟨o21, g22, h⟩ := h
  refine x_getI C dX1_noteWhoFits_4 fw_X1_74 (isO.n g22 (hn.trans h3)) ?_
  refine w_icmp_ge (tgt := 70) C dX1_noteWhoFits_7 (by decide) (fun q => ?_) (fun q => ?_)
  · replace h := h.1 q
    exact x_vret C hr dX1_noteWhoFits_70 hn (hQ M h)
  · replace h := h.2 q
    refine w_iconst C dX1_noteWhoFits_10 ⟨by decide, by decide⟩ ?_
    refine x_istore_n (L' := [(3, vI 0), (0, vR (some o0)), (1, vR a1), (2, vI x2)]) C dX1_noteWhoFits_11 rfl (by decide) rfl ?_
    refine w_iconst C dX1_noteWhoFits_12 ⟨by decide, by decide⟩ ?_
    refine x_istore (L' := [(4, vI 0), (3, vI 0), (0, vR (some o0)), (1, vR a1), (2, vI x2)]) C dX1_noteWhoFits_13 (by decide) rfl ?_
    refine x_pc (pc2 := 15) rfl ?_
    refine x_pick (L' := [(0, vR (some o0)), (1, vR a1), (2, vI x2), (3, vI 0), (4, vI 0)]) [2, 3, 4, 1, 0] rfl ?_
    exact k_X1_noteWhoFits_15 C hr h3 hn ho0 hQ hK2 h
set_option maxRecDepth 100000 in
set_option maxHeartbeats 4000000 in
theorem k_X1_noteWhoFits_2 {o0 : Nat} {a1 : Option Nat} {x2 : Int} {M : Mm} {Q : Mm → Prop} (C : Cx p s m args meth c cX1_noteWhoFits 5 RX1 D cy G n0) (hr : meth.sig.returnType = none) (h3 : n0 = 243) (hn : M.2.2.2 = n0) (ho0 : o0 < 243 ∧ (SH o0).1 = 1) (hQ : ∀ M, Q M → Qp none M) (h : P_X1_noteWhoFits_2 o0 a1 x2 M Q ) : WW p l e ({ frames := 3, cells := 0, slots := 0, locals := 69 }) s m args below meth c (ZQ below args s D cy G n0 Qp n0) 5 D cy G n0 2 [(0, vR (some o0)), (1, vR a1), (2, vI x2)] [] M := by
  refine lpW_sound (P := fun y : Int × Mm => y.2.2.2.2 = n0 → WW p l e ({ frames := 3, cells := 0, slots := 0, locals := 69 }) s m args below meth c (ZQ below args s D cy G n0 Qp n0) 5 D cy G n0 2 [(0, vR (some o0)), (1, vR a1), (2, vI y.1)] [] y.2) ?_ h hn
  intro K y hK hF
  obtain ⟨x2, M⟩ := y
  intro hn
  exact f_X1_noteWhoFits_2 C hr h3 hn ho0 hQ  (fun x2 M hk => hK (x2, M) hk) hF
set_option maxRecDepth 100000 in
set_option maxHeartbeats 4000000 in
theorem k_X1_noteWhoFits_0 {o0 : Nat} {a1 : Option Nat} {M : Mm} {Q : Mm → Prop} (C : Cx p s m args meth c cX1_noteWhoFits 5 RX1 D cy G n0) (hr : meth.sig.returnType = none) (h3 : n0 = 243) (hn : M.2.2.2 = n0) (ho0 : o0 < 243 ∧ (SH o0).1 = 1) (hQ : ∀ M, Q M → Qp none M) (h : P_X1_noteWhoFits o0 a1 M Q ) : WW p l e ({ frames := 3, cells := 0, slots := 0, locals := 69 }) s m args below meth c (ZQ below args s D cy G n0 Qp n0) 5 D cy G n0 0 [(0, vR (some o0)), (1, vR a1)] [] M := by
  unfold P_X1_noteWhoFits at h
  refine w_iconst C dX1_noteWhoFits_0 ⟨by decide, by decide⟩ ?_
  refine x_istore_n (L' := [(2, vI 0), (0, vR (some o0)), (1, vR a1)]) C dX1_noteWhoFits_1 rfl (by decide) rfl ?_
  refine x_pc (pc2 := 2) rfl ?_
  refine x_pick (L' := [(0, vR (some o0)), (1, vR a1), (2, vI 0)]) [1, 2, 0] rfl ?_
  exact k_X1_noteWhoFits_2 C hr h3 hn ho0 hQ  h
set_option maxRecDepth 100000 in
set_option maxHeartbeats 4000000 in
theorem con_X1_noteWhoFits (l : Launch) (D : va_G) (cy : Nat → ClassId) : Con l D cy yX1_noteWhoFits cX1_noteWhoFits 5 (none) ({ frames := 3, cells := 0, slots := 0, locals := 69 }) 0 0 SP_X1_noteWhoFits := by
  refine con_of (by decide) (fun as M Qp h => ?_) ?_
  · obtain ⟨-, o0, a1, rfl, -⟩ := h
    exact Nat.le_of_ble_eq_true rfl
  · intro p e s m args below meth c G as M Qp h C hr hnm
    obtain ⟨hn, o0, a1, rfl, ho1, ho2, Q0, hQ, h⟩ := h
    refine x_pick (L' := [(0, vR (some o0)), (1, vR a1)]) [0, 1] rfl ?_
    exact k_X1_noteWhoFits_0 C hr hn rfl ⟨ho1, ho2⟩ hQ h
set_option maxRecDepth 100000 in
set_option maxHeartbeats 4000000 in
theorem cl_X1_noteWhoFits {p : Program} {l : Launch} {e : Env} {R : Room} {s : State} {m : MethodId} {args : Array Value} {below : List Frame} {meth : Method} {c : Code} {Q : State → Prop} {cc : ByteArray} {nL : Nat} {own : String} {D : va_G} {cy : Nat → ClassId} {G : Nat × Nat} {n0 pc : Nat} {L : List (Nat × PV)} {st : List PV} {M : Mm} {op : Instr} (K : CallOK l D cy R own op 0 0 (spV 1 1 SP_X1_noteWhoFits)) (C : Cx p s m args meth c cc nL own D cy G n0) (hd : decode cc pc = .ok (op, 3)) (hn : M.2.2.2 = n0) (h3 : n0 = 243) (hlen : argN st ≤ 8) {r : Option Nat} {o0 : Nat} (ho : isOn 1 M.2.2.2 r o0) {a1 : Option Nat} {Q0 : Mm → Prop} (h : P_X1_noteWhoFits o0 a1 M Q0) (k : ∀ M2, Q0 M2 → M2.2.2.2 = n0 → WW p l e R s m args below meth c Q nL D cy G n0  (pc + 3) L (st) M2) : WW p l e R s m args below meth c Q nL D cy G n0  pc L (vR a1 :: vR r :: st) M := by
  obtain ⟨rfl, ho1, ho2⟩ := ho
  refine x_call0 K C hd (as := [vR (some o0), vR a1]) rfl hn hlen (fun v M2 => v = none ∧ Q0 M2) ⟨⟨o0, [vR a1], rfl, rfl, ho1, ho2⟩, hn.trans h3, o0, a1, rfl, (hn.trans h3) ▸ ho1, ho2, Q0, fun M2 hx => ⟨rfl, hx⟩, h⟩ ?_
  rintro _ _ ⟨rfl, hx⟩ hm
  exact k _ hx hm
end W_X1_noteWhoFits
theorem dX1_peopleOfSet_0 : decode cX1_peopleOfSet 0 = .ok (.iconst 0, 1) := by decide +kernel
theorem dX1_peopleOfSet_1 : decode cX1_peopleOfSet 1 = .ok (.istore_n 2, 1) := by decide +kernel
theorem dX1_peopleOfSet_2 : decode cX1_peopleOfSet 2 = .ok (.iconst 0, 1) := by decide +kernel
theorem dX1_peopleOfSet_3 : decode cX1_peopleOfSet 3 = .ok (.istore_n 3, 1) := by decide +kernel
theorem dX1_peopleOfSet_4 : decode cX1_peopleOfSet 4 = .ok (.iload_n 3, 1) := by decide +kernel
theorem dX1_peopleOfSet_5 : decode cX1_peopleOfSet 5 = .ok (.bipush 6, 2) := by decide +kernel
theorem dX1_peopleOfSet_7 : decode cX1_peopleOfSet 7 = .ok (.if_icmp .ge 27, 3) := by decide +kernel
theorem dX1_peopleOfSet_10 : decode cX1_peopleOfSet 10 = .ok (.iload_n 1, 1) := by decide +kernel
theorem dX1_peopleOfSet_11 : decode cX1_peopleOfSet 11 = .ok (.iload_n 3, 1) := by decide +kernel
theorem dX1_peopleOfSet_12 : decode cX1_peopleOfSet 12 = .ok (.ishr, 1) := by decide +kernel
theorem dX1_peopleOfSet_13 : decode cX1_peopleOfSet 13 = .ok (.iconst 1, 1) := by decide +kernel
theorem dX1_peopleOfSet_14 : decode cX1_peopleOfSet 14 = .ok (.iand, 1) := by decide +kernel
theorem dX1_peopleOfSet_15 : decode cX1_peopleOfSet 15 = .ok (.iconst 1, 1) := by decide +kernel
theorem dX1_peopleOfSet_16 : decode cX1_peopleOfSet 16 = .ok (.if_icmp .ne 12, 3) := by decide +kernel
theorem dX1_peopleOfSet_19 : decode cX1_peopleOfSet 19 = .ok (.iload_n 2, 1) := by decide +kernel
theorem dX1_peopleOfSet_20 : decode cX1_peopleOfSet 20 = .ok (.aload_n 0, 1) := by decide +kernel
theorem dX1_peopleOfSet_21 : decode cX1_peopleOfSet 21 = .ok (.getfield 21, 3) := by decide +kernel
theorem dX1_peopleOfSet_24 : decode cX1_peopleOfSet 24 = .ok (.iload_n 3, 1) := by decide +kernel
theorem dX1_peopleOfSet_25 : decode cX1_peopleOfSet 25 = .ok (.iaload, 1) := by decide +kernel
theorem dX1_peopleOfSet_26 : decode cX1_peopleOfSet 26 = .ok (.ior, 1) := by decide +kernel
theorem dX1_peopleOfSet_27 : decode cX1_peopleOfSet 27 = .ok (.istore_n 2, 1) := by decide +kernel
theorem dX1_peopleOfSet_28 : decode cX1_peopleOfSet 28 = .ok (.iinc 3 1, 3) := by decide +kernel
theorem dX1_peopleOfSet_31 : decode cX1_peopleOfSet 31 = .ok (.goto (-27), 3) := by decide +kernel
theorem dX1_peopleOfSet_34 : decode cX1_peopleOfSet 34 = .ok (.aload_n 0, 1) := by decide +kernel
theorem dX1_peopleOfSet_35 : decode cX1_peopleOfSet 35 = .ok (.iload_n 2, 1) := by decide +kernel
theorem dX1_peopleOfSet_36 : decode cX1_peopleOfSet 36 = .ok (.invokevirtual 33, 3) := by decide +kernel
theorem dX1_peopleOfSet_39 : decode cX1_peopleOfSet 39 = .ok (.ireturn, 1) := by decide +kernel
section W_X1_peopleOfSet
variable {p : Program} {l : Launch} {e : Env} {s : State} {m : MethodId} {args : Array Value} {below : List Frame} {meth : Method} {c : Code} {D : va_G} {cy : Nat → ClassId} {G : Nat × Nat} {n0 : Nat} {Qp : Option PV → Mm → Prop}
set_option maxRecDepth 100000 in
set_option maxHeartbeats 4000000 in
theorem f_X1_peopleOfSet_4 {o0 : Nat} {x1 : Int} {x2 : Int} {x3 : Int} {M : Mm} {Q : Int → Prop} {K4 : Int × Int → Prop} (C : Cx p s m args meth c cX1_peopleOfSet 4 RX1 D cy G n0) (hr : meth.sig.returnType = some .int) (h3 : n0 = 243) (hn : M.2.2.2 = n0) (ho0 : o0 < 243 ∧ (SH o0).1 = 1) (hQ : ∀ x, Q x → Qp (some (vI x)) M) (hK4 : ∀ (x2 : Int) (x3 : Int), K4 (x2, x3) → WW p l e ({ frames := 1, cells := 0, slots := 0, locals := 23 }) s m args below meth c (ZQ below args s D cy G n0 Qp n0) 4 D cy G n0 4 [(0, vR (some o0)), (1, vI x1), (2, vI x2), (3, vI x3)] [] M) (h : F_X1_peopleOfSet_4 o0 x1 M Q  K4 x2 x3) : WW p l e ({ frames := 1, cells := 0, slots := 0, locals := 23 }) s m args below meth c (ZQ below args s D cy G n0 Qp n0) 4 D cy G n0 4 [(0, vR (some o0)), (1, vI x1), (2, vI x2), (3, vI x3)] [] M := by
  unfold F_X1_peopleOfSet_4 at h
  refine w_iload_n C dX1_peopleOfSet_4 rfl (mem_k 3 rfl) ?_
  refine w_bipush C dX1_peopleOfSet_5 (by decide) ?_
  refine w_icmp_ge (tgt := 34) C dX1_peopleOfSet_7 (by decide) (fun q => ?_) (fun q => ?_)
  · replace h := h.1 q
    refine w_aload_n C dX1_peopleOfSet_34 rfl (mem_k 0 rfl) ?_
    refine w_iload_n C dX1_peopleOfSet_35 rfl (mem_k 2 rfl) ?_
    refine cl_X1_peopleOf (ck_X1_33 ⟨by decide, by decide⟩) C dX1_peopleOfSet_36 hn h3 (Nat.le_of_ble_eq_true rfl) (isO.n (ci := 1) ⟨rfl, ho0⟩ (hn.trans h3)) h (fun v1 h => ?_)
    exact x_iret C hr dX1_peopleOfSet_39 hn (hQ _ h)
  · replace h := h.2 q
    refine w_iload_n C dX1_peopleOfSet_10 rfl (mem_k 1 rfl) ?_
    refine w_iload_n C dX1_peopleOfSet_11 rfl (mem_k 3 rfl) ?_
    refine w_ishr C dX1_peopleOfSet_12 ?_
    refine w_iconst C dX1_peopleOfSet_13 ⟨by decide, by decide⟩ ?_
    refine w_iand C dX1_peopleOfSet_14 ?_
    refine w_iconst C dX1_peopleOfSet_15 ⟨by decide, by decide⟩ ?_
    refine w_icmp_ne (tgt := 28) C dX1_peopleOfSet_16 (by decide) (fun q => ?_) (fun q => ?_)
    · replace h := h.1 q
      obtain ⟨v2, ev2⟩ : ∃ z : Int, z = x3 + 1 := ⟨_, rfl⟩
      refine x_iinc (L' := [(3, vI v2), (0, vR (some o0)), (1, vI x1), (2, vI x2)]) C dX1_peopleOfSet_28 (mem_k 3 rfl) (by decide) h.1 ev2 rfl ?_
      replace h := h.2 v2 ev2
      refine w_goto (tgt := 4) C dX1_peopleOfSet_31 (by decide) ?_
      refine x_pc (pc2 := 4) rfl ?_
      refine x_pick (L' := [(0, vR (some o0)), (1, vI x1), (2, vI x2), (3, vI v2)]) [1, 2, 3, 0] rfl ?_
      exact hK4 x2 v2 h
    · replace h := h.2 q
      refine w_iload_n C dX1_peopleOfSet_19 rfl (mem_k 2 rfl) ?_
      refine w_aload_n C dX1_peopleOfSet_20 rfl (mem_k 0 rfl) ?_
      refine x_getR C dX1_peopleOfSet_21 fw_X1_21 (isO.n (ci := 1) ⟨rfl, ho0⟩ (hn.trans h3)) (fun r3 er3 => ?_)
      replace h := h r3 er3
      refine w_iload_n C dX1_peopleOfSet_24 rfl (mem_k 3 rfl) ?_
      obtain ⟨o4, g5, h⟩ := h
      refine x_iald C dX1_peopleOfSet_25 (isA.n g5 (hn.trans h3)) ?_
      refine w_ior C dX1_peopleOfSet_26 ?_
      refine x_nmI (fun v6 ev6 => ?_)
      replace h := h v6 ev6
      refine x_istore_n (L' := [(2, vI v6), (0, vR (some o0)), (1, vI x1), (3, vI x3)]) C dX1_peopleOfSet_27 rfl (by decide) rfl ?_
      obtain ⟨v7, ev7⟩ : ∃ z : Int, z = x3 + 1 := ⟨_, rfl⟩
      refine x_iinc (L' := [(3, vI v7), (2, vI v6), (0, vR (some o0)), (1, vI x1)]) C dX1_peopleOfSet_28 (mem_k 3 rfl) (by decide) h.1 ev7 rfl ?_
      replace h := h.2 v7 ev7
      refine w_goto (tgt := 4) C dX1_peopleOfSet_31 (by decide) ?_
      refine x_pc (pc2 := 4) rfl ?_
      refine x_pick (L' := [(0, vR (some o0)), (1, vI x1), (2, vI v6), (3, vI v7)]) [2, 3, 1, 0] rfl ?_
      exact hK4 v6 v7 h
set_option maxRecDepth 100000 in
set_option maxHeartbeats 4000000 in
theorem k_X1_peopleOfSet_4 {o0 : Nat} {x1 : Int} {x2 : Int} {x3 : Int} {M : Mm} {Q : Int → Prop} (C : Cx p s m args meth c cX1_peopleOfSet 4 RX1 D cy G n0) (hr : meth.sig.returnType = some .int) (h3 : n0 = 243) (hn : M.2.2.2 = n0) (ho0 : o0 < 243 ∧ (SH o0).1 = 1) (hQ : ∀ x, Q x → Qp (some (vI x)) M) (h : P_X1_peopleOfSet_4 o0 x1 x2 x3 M Q ) : WW p l e ({ frames := 1, cells := 0, slots := 0, locals := 23 }) s m args below meth c (ZQ below args s D cy G n0 Qp n0) 4 D cy G n0 4 [(0, vR (some o0)), (1, vI x1), (2, vI x2), (3, vI x3)] [] M := by
  refine lpW_sound (P := fun y : Int × Int => WW p l e ({ frames := 1, cells := 0, slots := 0, locals := 23 }) s m args below meth c (ZQ below args s D cy G n0 Qp n0) 4 D cy G n0 4 [(0, vR (some o0)), (1, vI x1), (2, vI y.1), (3, vI y.2)] [] M) ?_ h
  intro K y hK hF
  obtain ⟨x2, x3⟩ := y
  exact f_X1_peopleOfSet_4 C hr h3 hn ho0 hQ  (fun x2 x3 hk => hK (x2, x3) hk) hF
set_option maxRecDepth 100000 in
set_option maxHeartbeats 4000000 in
theorem k_X1_peopleOfSet_0 {o0 : Nat} {x1 : Int} {M : Mm} {Q : Int → Prop} (C : Cx p s m args meth c cX1_peopleOfSet 4 RX1 D cy G n0) (hr : meth.sig.returnType = some .int) (h3 : n0 = 243) (hn : M.2.2.2 = n0) (ho0 : o0 < 243 ∧ (SH o0).1 = 1) (hQ : ∀ x, Q x → Qp (some (vI x)) M) (h : P_X1_peopleOfSet o0 x1 M Q ) : WW p l e ({ frames := 1, cells := 0, slots := 0, locals := 23 }) s m args below meth c (ZQ below args s D cy G n0 Qp n0) 4 D cy G n0 0 [(0, vR (some o0)), (1, vI x1)] [] M := by
  unfold P_X1_peopleOfSet at h
  refine w_iconst C dX1_peopleOfSet_0 ⟨by decide, by decide⟩ ?_
  refine x_istore_n (L' := [(2, vI 0), (0, vR (some o0)), (1, vI x1)]) C dX1_peopleOfSet_1 rfl (by decide) rfl ?_
  refine w_iconst C dX1_peopleOfSet_2 ⟨by decide, by decide⟩ ?_
  refine x_istore_n (L' := [(3, vI 0), (2, vI 0), (0, vR (some o0)), (1, vI x1)]) C dX1_peopleOfSet_3 rfl (by decide) rfl ?_
  refine x_pc (pc2 := 4) rfl ?_
  refine x_pick (L' := [(0, vR (some o0)), (1, vI x1), (2, vI 0), (3, vI 0)]) [2, 3, 1, 0] rfl ?_
  exact k_X1_peopleOfSet_4 C hr h3 hn ho0 hQ  h
set_option maxRecDepth 100000 in
set_option maxHeartbeats 4000000 in
theorem con_X1_peopleOfSet (l : Launch) (D : va_G) (cy : Nat → ClassId) : Con l D cy yX1_peopleOfSet cX1_peopleOfSet 4 (some .int) ({ frames := 1, cells := 0, slots := 0, locals := 23 }) 0 0 SP_X1_peopleOfSet := by
  refine con_of (by decide) (fun as M Qp h => ?_) ?_
  · obtain ⟨-, o0, x1, rfl, -⟩ := h
    exact Nat.le_of_ble_eq_true rfl
  · intro p e s m args below meth c G as M Qp h C hr hnm
    obtain ⟨hn, o0, x1, rfl, ho1, ho2, Q0, hQ, h⟩ := h
    refine x_pick (L' := [(0, vR (some o0)), (1, vI x1)]) [0, 1] rfl ?_
    exact k_X1_peopleOfSet_0 C hr hn rfl ⟨ho1, ho2⟩ hQ h
set_option maxRecDepth 100000 in
set_option maxHeartbeats 4000000 in
theorem cl_X1_peopleOfSet {p : Program} {l : Launch} {e : Env} {R : Room} {s : State} {m : MethodId} {args : Array Value} {below : List Frame} {meth : Method} {c : Code} {Q : State → Prop} {cc : ByteArray} {nL : Nat} {own : String} {D : va_G} {cy : Nat → ClassId} {G : Nat × Nat} {n0 pc : Nat} {L : List (Nat × PV)} {st : List PV} {M : Mm} {op : Instr} (K : CallOK l D cy R own op 0 0 (spV 1 1 SP_X1_peopleOfSet)) (C : Cx p s m args meth c cc nL own D cy G n0) (hd : decode cc pc = .ok (op, 3)) (hn : M.2.2.2 = n0) (h3 : n0 = 243) (hlen : argN st ≤ 8) {r : Option Nat} {o0 : Nat} (ho : isOn 1 M.2.2.2 r o0) {x1 : Int} {Q0 : Int → Prop} (h : P_X1_peopleOfSet o0 x1 M Q0) (k : ∀ x, Q0 x → WW p l e R s m args below meth c Q nL D cy G n0  (pc + 3) L (vI x :: st) M) : WW p l e R s m args below meth c Q nL D cy G n0  pc L (vI x1 :: vR r :: st) M := by
  obtain ⟨rfl, ho1, ho2⟩ := ho
  refine x_call0 K C hd (as := [vR (some o0), vI x1]) rfl hn hlen (fun v M2 => ∃ x, v = some (vI x) ∧ M2 = M ∧ Q0 x) ⟨⟨o0, [vI x1], rfl, rfl, ho1, ho2⟩, hn.trans h3, o0, x1, rfl, (hn.trans h3) ▸ ho1, ho2, Q0, fun x hx => ⟨x, rfl, rfl, hx⟩, h⟩ ?_
  rintro _ _ ⟨x, rfl, rfl, hx⟩ hm
  exact k x hx
end W_X1_peopleOfSet
theorem dX1_fewestSeats_0 : decode cX1_fewestSeats 0 = .ok (.bipush (-4), 2) := by decide +kernel
theorem dX1_fewestSeats_2 : decode cX1_fewestSeats 2 = .ok (.istore_n 3, 1) := by decide +kernel
theorem dX1_fewestSeats_3 : decode cX1_fewestSeats 3 = .ok (.aload_n 0, 1) := by decide +kernel
theorem dX1_fewestSeats_4 : decode cX1_fewestSeats 4 = .ok (.invokevirtual 87, 3) := by decide +kernel
theorem dX1_fewestSeats_7 : decode cX1_fewestSeats 7 = .ok (.istore 4, 2) := by decide +kernel
theorem dX1_fewestSeats_9 : decode cX1_fewestSeats 9 = .ok (.iconst 0, 1) := by decide +kernel
theorem dX1_fewestSeats_10 : decode cX1_fewestSeats 10 = .ok (.istore 5, 2) := by decide +kernel
theorem dX1_fewestSeats_12 : decode cX1_fewestSeats 12 = .ok (.iload 5, 2) := by decide +kernel
theorem dX1_fewestSeats_14 : decode cX1_fewestSeats 14 = .ok (.iconst 1, 1) := by decide +kernel
theorem dX1_fewestSeats_15 : decode cX1_fewestSeats 15 = .ok (.iload_n 1, 1) := by decide +kernel
theorem dX1_fewestSeats_16 : decode cX1_fewestSeats 16 = .ok (.ishl, 1) := by decide +kernel
theorem dX1_fewestSeats_17 : decode cX1_fewestSeats 17 = .ok (.if_icmp .ge 59, 3) := by decide +kernel
theorem dX1_fewestSeats_20 : decode cX1_fewestSeats 20 = .ok (.iload_n 3, 1) := by decide +kernel
theorem dX1_fewestSeats_21 : decode cX1_fewestSeats 21 = .ok (.bipush (-4), 2) := by decide +kernel
theorem dX1_fewestSeats_23 : decode cX1_fewestSeats 23 = .ok (.if_icmp .eq 15, 3) := by decide +kernel
theorem dX1_fewestSeats_26 : decode cX1_fewestSeats 26 = .ok (.iload 5, 2) := by decide +kernel
theorem dX1_fewestSeats_28 : decode cX1_fewestSeats 28 = .ok (.invokestatic 91, 3) := by decide +kernel
theorem dX1_fewestSeats_31 : decode cX1_fewestSeats 31 = .ok (.iload_n 3, 1) := by decide +kernel
theorem dX1_fewestSeats_32 : decode cX1_fewestSeats 32 = .ok (.invokestatic 91, 3) := by decide +kernel
theorem dX1_fewestSeats_35 : decode cX1_fewestSeats 35 = .ok (.if_icmp .ge 7, 3) := by decide +kernel
theorem dX1_fewestSeats_38 : decode cX1_fewestSeats 38 = .ok (.iconst 1, 1) := by decide +kernel
theorem dX1_fewestSeats_39 : decode cX1_fewestSeats 39 = .ok (.goto 4, 3) := by decide +kernel
theorem dX1_fewestSeats_42 : decode cX1_fewestSeats 42 = .ok (.iconst 0, 1) := by decide +kernel
theorem dX1_fewestSeats_43 : decode cX1_fewestSeats 43 = .ok (.istore 6, 2) := by decide +kernel
theorem dX1_fewestSeats_45 : decode cX1_fewestSeats 45 = .ok (.iload 6, 2) := by decide +kernel
theorem dX1_fewestSeats_47 : decode cX1_fewestSeats 47 = .ok (.ifCond .eq 23, 3) := by decide +kernel
theorem dX1_fewestSeats_50 : decode cX1_fewestSeats 50 = .ok (.aload_n 0, 1) := by decide +kernel
theorem dX1_fewestSeats_51 : decode cX1_fewestSeats 51 = .ok (.iload 5, 2) := by decide +kernel
theorem dX1_fewestSeats_53 : decode cX1_fewestSeats 53 = .ok (.invokevirtual 96, 3) := by decide +kernel
theorem dX1_fewestSeats_56 : decode cX1_fewestSeats 56 = .ok (.sipush 1000, 3) := by decide +kernel
theorem dX1_fewestSeats_59 : decode cX1_fewestSeats 59 = .ok (.imul, 1) := by decide +kernel
theorem dX1_fewestSeats_60 : decode cX1_fewestSeats 60 = .ok (.iload_n 2, 1) := by decide +kernel
theorem dX1_fewestSeats_61 : decode cX1_fewestSeats 61 = .ok (.iload 4, 2) := by decide +kernel
theorem dX1_fewestSeats_63 : decode cX1_fewestSeats 63 = .ok (.imul, 1) := by decide +kernel
theorem dX1_fewestSeats_64 : decode cX1_fewestSeats 64 = .ok (.if_icmp .lt 6, 3) := by decide +kernel
theorem dX1_fewestSeats_67 : decode cX1_fewestSeats 67 = .ok (.iload 5, 2) := by decide +kernel
theorem dX1_fewestSeats_69 : decode cX1_fewestSeats 69 = .ok (.istore_n 3, 1) := by decide +kernel
theorem dX1_fewestSeats_70 : decode cX1_fewestSeats 70 = .ok (.iinc 5 1, 3) := by decide +kernel
theorem dX1_fewestSeats_73 : decode cX1_fewestSeats 73 = .ok (.goto (-61), 3) := by decide +kernel
theorem dX1_fewestSeats_76 : decode cX1_fewestSeats 76 = .ok (.iload_n 3, 1) := by decide +kernel
theorem dX1_fewestSeats_77 : decode cX1_fewestSeats 77 = .ok (.ireturn, 1) := by decide +kernel
theorem ck_X1_96 {l : Launch} {D : va_G} {cy : Nat → ClassId} {R : Room} (hR : 2 ≤ R.frames ∧ 46 ≤ R.locals) : CallOK l D cy R RX1 (.invokevirtual 96) 0 0 (spV 1 1 SP_X1_peopleOfSet) := call_V (ci := 1) (con_X1_peopleOfSet l D cy) (lwG_3 (i := 114) rfl rfl) (lwG_3 (i := 83) rfl rfl) (lwG_3 (i := 84) rfl rfl) (lwG_1 (i := 7) rfl rfl) (lwG_3 (i := 85) rfl rfl) (by decide) ⟨rfl, by decide, by decide, rfl⟩ ⟨rfl, rfl⟩ hR
theorem ck_X1_91 {l : Launch} {D : va_G} {cy : Nat → ClassId} {R : Room} (hR : 1 ≤ R.frames ∧ 20 ≤ R.locals) : CallOK l D cy R RX1 (.invokestatic 91) 0 0 (spS 1 SP_J6_bitCount_0f7a4) := call_S (con_J6_bitCount_0f7a4 l D cy) (lwG_3 (i := 108) rfl rfl) (lwG_3 (i := 109) rfl rfl) (lwG_1 (i := 15) rfl rfl) (lwG_3 (i := 110) rfl rfl) ⟨by decide, by decide, rfl⟩ ⟨rfl, rfl⟩ hR
theorem ck_X1_87 {l : Launch} {D : va_G} {cy : Nat → ClassId} {R : Room} (hR : 2 ≤ R.frames ∧ 43 ≤ R.locals) : CallOK l D cy R RX1 (.invokevirtual 87) 0 0 (spV 1 0 SP_X1_people) := call_V (ci := 1) (con_X1_people l D cy) (lwG_3 (i := 107) rfl rfl) (lwG_3 (i := 70) rfl rfl) (lwG_3 (i := 71) rfl rfl) (lwG_1 (i := 7) rfl rfl) (lwG_3 (i := 72) rfl rfl) (by decide) ⟨rfl, by decide, by decide, rfl⟩ ⟨rfl, rfl⟩ hR
section W_X1_fewestSeats
variable {p : Program} {l : Launch} {e : Env} {s : State} {m : MethodId} {args : Array Value} {below : List Frame} {meth : Method} {c : Code} {D : va_G} {cy : Nat → ClassId} {G : Nat × Nat} {n0 : Nat} {Qp : Option PV → Mm → Prop}
set_option maxRecDepth 100000 in
set_option maxHeartbeats 4000000 in
theorem k_X1_fewestSeats_43 {o0 : Nat} {x1 : Int} {x2 : Int} {x3 : Int} {x4 : Int} {x5 : Int} {s0 : Int} {M : Mm} {Q : Int → Prop} {K12 : Int × Int → Prop} (C : Cx p s m args meth c cX1_fewestSeats 7 RX1 D cy G n0) (hr : meth.sig.returnType = some .int) (h3 : n0 = 243) (hn : M.2.2.2 = n0) (ho0 : o0 < 243 ∧ (SH o0).1 = 1) (hQ : ∀ x, Q x → Qp (some (vI x)) M) (hK12 : ∀ (x3 : Int) (x5 : Int), K12 (x3, x5) → WW p l e ({ frames := 2, cells := 0, slots := 0, locals := 46 }) s m args below meth c (ZQ below args s D cy G n0 Qp n0) 7 D cy G n0 12 [(0, vR (some o0)), (1, vI x1), (2, vI x2), (3, vI x3), (4, vI x4), (5, vI x5)] [] M) (h : P_X1_fewestSeats_43 o0 x1 x2 x3 x4 x5 s0 M Q K12) : WW p l e ({ frames := 2, cells := 0, slots := 0, locals := 46 }) s m args below meth c (ZQ below args s D cy G n0 Qp n0) 7 D cy G n0 43 [(0, vR (some o0)), (1, vI x1), (2, vI x2), (3, vI x3), (4, vI x4), (5, vI x5)] [vI s0] M := by
  unfold P_X1_fewestSeats_43 at h
  refine x_istore (L' := [(6, vI s0), (0, vR (some o0)), (1, vI x1), (2, vI x2), (3, vI x3), (4, vI x4), (5, vI x5)]) C dX1_fewestSeats_43 (by decide) rfl ?_
  refine w_iload C dX1_fewestSeats_45 (mem_k 0 rfl) ?_
  refine w_if_eq (tgt := 70) C dX1_fewestSeats_47 (by decide) (fun q => ?_) (fun q => ?_)
  · replace h := h.1 q
    obtain ⟨v1, ev1⟩ : ∃ z : Int, z = x5 + 1 := ⟨_, rfl⟩
    refine x_iinc (L' := [(5, vI v1), (6, vI s0), (0, vR (some o0)), (1, vI x1), (2, vI x2), (3, vI x3), (4, vI x4)]) C dX1_fewestSeats_70 (mem_k 6 rfl) (by decide) h.1 ev1 rfl ?_
    replace h := h.2 v1 ev1
    refine w_goto (tgt := 12) C dX1_fewestSeats_73 (by decide) ?_
    refine x_pc (pc2 := 12) rfl ?_
    refine x_pick (L' := [(0, vR (some o0)), (1, vI x1), (2, vI x2), (3, vI x3), (4, vI x4), (5, vI v1)]) [2, 3, 4, 5, 6, 0] rfl ?_
    exact hK12 x3 v1 h
  · replace h := h.2 q
    refine w_aload_n C dX1_fewestSeats_50 rfl (mem_k 1 rfl) ?_
    refine w_iload C dX1_fewestSeats_51 (mem_k 6 rfl) ?_
    refine cl_X1_peopleOfSet (ck_X1_96 ⟨by decide, by decide⟩) C dX1_fewestSeats_53 hn h3 (Nat.le_of_ble_eq_true rfl) (isO.n (ci := 1) ⟨rfl, ho0⟩ (hn.trans h3)) h (fun v2 h => ?_)
    refine w_sipush C dX1_fewestSeats_56 (by decide) ?_
    refine w_imul C dX1_fewestSeats_59 h.1 ?_
    replace h := h.2
    refine w_iload_n C dX1_fewestSeats_60 rfl (mem_k 3 rfl) ?_
    refine w_iload C dX1_fewestSeats_61 (mem_k 5 rfl) ?_
    refine w_imul C dX1_fewestSeats_63 h.1 ?_
    replace h := h.2
    refine w_icmp_lt (tgt := 70) C dX1_fewestSeats_64 (by decide) (fun q => ?_) (fun q => ?_)
    · replace h := h.1 q
      obtain ⟨v3, ev3⟩ : ∃ z : Int, z = x5 + 1 := ⟨_, rfl⟩
      refine x_iinc (L' := [(5, vI v3), (6, vI s0), (0, vR (some o0)), (1, vI x1), (2, vI x2), (3, vI x3), (4, vI x4)]) C dX1_fewestSeats_70 (mem_k 6 rfl) (by decide) h.1 ev3 rfl ?_
      replace h := h.2 v3 ev3
      refine w_goto (tgt := 12) C dX1_fewestSeats_73 (by decide) ?_
      refine x_pc (pc2 := 12) rfl ?_
      refine x_pick (L' := [(0, vR (some o0)), (1, vI x1), (2, vI x2), (3, vI x3), (4, vI x4), (5, vI v3)]) [2, 3, 4, 5, 6, 0] rfl ?_
      exact hK12 x3 v3 h
    · replace h := h.2 q
      refine w_iload C dX1_fewestSeats_67 (mem_k 6 rfl) ?_
      refine x_istore_n (L' := [(3, vI x5), (6, vI s0), (0, vR (some o0)), (1, vI x1), (2, vI x2), (4, vI x4), (5, vI x5)]) C dX1_fewestSeats_69 rfl (by decide) rfl ?_
      obtain ⟨v4, ev4⟩ : ∃ z : Int, z = x5 + 1 := ⟨_, rfl⟩
      refine x_iinc (L' := [(5, vI v4), (3, vI x5), (6, vI s0), (0, vR (some o0)), (1, vI x1), (2, vI x2), (4, vI x4)]) C dX1_fewestSeats_70 (mem_k 6 rfl) (by decide) h.1 ev4 rfl ?_
      replace h := h.2 v4 ev4
      refine w_goto (tgt := 12) C dX1_fewestSeats_73 (by decide) ?_
      refine x_pc (pc2 := 12) rfl ?_
      refine x_pick (L' := [(0, vR (some o0)), (1, vI x1), (2, vI x2), (3, vI x5), (4, vI x4), (5, vI v4)]) [3, 4, 5, 1, 6, 0] rfl ?_
      exact hK12 x5 v4 h
set_option maxRecDepth 100000 in
set_option maxHeartbeats 4000000 in
theorem f_X1_fewestSeats_12 {o0 : Nat} {x1 : Int} {x2 : Int} {x3 : Int} {x4 : Int} {x5 : Int} {M : Mm} {Q : Int → Prop} {K12 : Int × Int → Prop} (C : Cx p s m args meth c cX1_fewestSeats 7 RX1 D cy G n0) (hr : meth.sig.returnType = some .int) (h3 : n0 = 243) (hn : M.2.2.2 = n0) (ho0 : o0 < 243 ∧ (SH o0).1 = 1) (hQ : ∀ x, Q x → Qp (some (vI x)) M) (hK12 : ∀ (x3 : Int) (x5 : Int), K12 (x3, x5) → WW p l e ({ frames := 2, cells := 0, slots := 0, locals := 46 }) s m args below meth c (ZQ below args s D cy G n0 Qp n0) 7 D cy G n0 12 [(0, vR (some o0)), (1, vI x1), (2, vI x2), (3, vI x3), (4, vI x4), (5, vI x5)] [] M) (h : F_X1_fewestSeats_12 o0 x1 x2 x4 M Q  K12 x3 x5) : WW p l e ({ frames := 2, cells := 0, slots := 0, locals := 46 }) s m args below meth c (ZQ below args s D cy G n0 Qp n0) 7 D cy G n0 12 [(0, vR (some o0)), (1, vI x1), (2, vI x2), (3, vI x3), (4, vI x4), (5, vI x5)] [] M := by
  unfold F_X1_fewestSeats_12 at h
  refine w_iload C dX1_fewestSeats_12 (mem_k 5 rfl) ?_
  refine w_iconst C dX1_fewestSeats_14 ⟨by decide, by decide⟩ ?_
  refine w_iload_n C dX1_fewestSeats_15 rfl (mem_k 1 rfl) ?_
  refine w_ishl C dX1_fewestSeats_16 ?_
  refine w_icmp_ge (tgt := 76) C dX1_fewestSeats_17 (by decide) (fun q => ?_) (fun q => ?_)
  · replace h := h.1 q
    refine w_iload_n C dX1_fewestSeats_76 rfl (mem_k 3 rfl) ?_
    exact x_iret C hr dX1_fewestSeats_77 hn (hQ _ h)
  · replace h := h.2 q
    refine w_iload_n C dX1_fewestSeats_20 rfl (mem_k 3 rfl) ?_
    refine w_bipush C dX1_fewestSeats_21 (by decide) ?_
    refine w_icmp_eq (tgt := 38) C dX1_fewestSeats_23 (by decide) (fun q => ?_) (fun q => ?_)
    · replace h := h.1 q
      refine w_iconst C dX1_fewestSeats_38 ⟨by decide, by decide⟩ ?_
      refine w_goto (tgt := 43) C dX1_fewestSeats_39 (by decide) ?_
      refine x_pc (pc2 := 43) rfl ?_
      refine x_pick (L' := [(0, vR (some o0)), (1, vI x1), (2, vI x2), (3, vI x3), (4, vI x4), (5, vI x5)]) [0, 1, 2, 3, 4, 5] rfl ?_
      exact k_X1_fewestSeats_43 C hr h3 hn ho0 hQ hK12 h
    · replace h := h.2 q
      refine w_iload C dX1_fewestSeats_26 (mem_k 5 rfl) ?_
      refine cl_J6_bitCount_0f7a4 (ck_X1_91 ⟨by decide, by decide⟩) C dX1_fewestSeats_28 hn h3 (Nat.le_of_ble_eq_true rfl) h (fun v5 h => ?_)
      refine w_iload_n C dX1_fewestSeats_31 rfl (mem_k 3 rfl) ?_
      refine cl_J6_bitCount_0f7a4 (ck_X1_91 ⟨by decide, by decide⟩) C dX1_fewestSeats_32 hn h3 (Nat.le_of_ble_eq_true rfl) h (fun v6 h => ?_)
      refine w_icmp_ge (tgt := 42) C dX1_fewestSeats_35 (by decide) (fun q => ?_) (fun q => ?_)
      · replace h := h.1 q
        refine w_iconst C dX1_fewestSeats_42 ⟨by decide, by decide⟩ ?_
        refine x_pc (pc2 := 43) rfl ?_
        refine x_pick (L' := [(0, vR (some o0)), (1, vI x1), (2, vI x2), (3, vI x3), (4, vI x4), (5, vI x5)]) [0, 1, 2, 3, 4, 5] rfl ?_
        exact k_X1_fewestSeats_43 C hr h3 hn ho0 hQ hK12 h
      · replace h := h.2 q
        refine w_iconst C dX1_fewestSeats_38 ⟨by decide, by decide⟩ ?_
        refine w_goto (tgt := 43) C dX1_fewestSeats_39 (by decide) ?_
        refine x_pc (pc2 := 43) rfl ?_
        refine x_pick (L' := [(0, vR (some o0)), (1, vI x1), (2, vI x2), (3, vI x3), (4, vI x4), (5, vI x5)]) [0, 1, 2, 3, 4, 5] rfl ?_
        exact k_X1_fewestSeats_43 C hr h3 hn ho0 hQ hK12 h
set_option maxRecDepth 100000 in
set_option maxHeartbeats 4000000 in
theorem k_X1_fewestSeats_12 {o0 : Nat} {x1 : Int} {x2 : Int} {x3 : Int} {x4 : Int} {x5 : Int} {M : Mm} {Q : Int → Prop} (C : Cx p s m args meth c cX1_fewestSeats 7 RX1 D cy G n0) (hr : meth.sig.returnType = some .int) (h3 : n0 = 243) (hn : M.2.2.2 = n0) (ho0 : o0 < 243 ∧ (SH o0).1 = 1) (hQ : ∀ x, Q x → Qp (some (vI x)) M) (h : P_X1_fewestSeats_12 o0 x1 x2 x3 x4 x5 M Q ) : WW p l e ({ frames := 2, cells := 0, slots := 0, locals := 46 }) s m args below meth c (ZQ below args s D cy G n0 Qp n0) 7 D cy G n0 12 [(0, vR (some o0)), (1, vI x1), (2, vI x2), (3, vI x3), (4, vI x4), (5, vI x5)] [] M := by
  refine lpW_sound (P := fun y : Int × Int => WW p l e ({ frames := 2, cells := 0, slots := 0, locals := 46 }) s m args below meth c (ZQ below args s D cy G n0 Qp n0) 7 D cy G n0 12 [(0, vR (some o0)), (1, vI x1), (2, vI x2), (3, vI y.1), (4, vI x4), (5, vI y.2)] [] M) ?_ h
  intro K y hK hF
  obtain ⟨x3, x5⟩ := y
  exact f_X1_fewestSeats_12 C hr h3 hn ho0 hQ  (fun x3 x5 hk => hK (x3, x5) hk) hF
set_option maxRecDepth 100000 in
set_option maxHeartbeats 4000000 in
theorem k_X1_fewestSeats_0 {o0 : Nat} {x1 : Int} {x2 : Int} {M : Mm} {Q : Int → Prop} (C : Cx p s m args meth c cX1_fewestSeats 7 RX1 D cy G n0) (hr : meth.sig.returnType = some .int) (h3 : n0 = 243) (hn : M.2.2.2 = n0) (ho0 : o0 < 243 ∧ (SH o0).1 = 1) (hQ : ∀ x, Q x → Qp (some (vI x)) M) (h : P_X1_fewestSeats o0 x1 x2 M Q ) : WW p l e ({ frames := 2, cells := 0, slots := 0, locals := 46 }) s m args below meth c (ZQ below args s D cy G n0 Qp n0) 7 D cy G n0 0 [(0, vR (some o0)), (1, vI x1), (2, vI x2)] [] M := by
  unfold P_X1_fewestSeats at h
  refine w_bipush C dX1_fewestSeats_0 (by decide) ?_
  refine x_istore_n (L' := [(3, vI (-4)), (0, vR (some o0)), (1, vI x1), (2, vI x2)]) C dX1_fewestSeats_2 rfl (by decide) rfl ?_
  refine w_aload_n C dX1_fewestSeats_3 rfl (mem_k 1 rfl) ?_
  refine cl_X1_people (ck_X1_87 ⟨by decide, by decide⟩) C dX1_fewestSeats_4 hn h3 (Nat.le_of_ble_eq_true rfl) (isO.n (ci := 1) ⟨rfl, ho0⟩ (hn.trans h3)) h (fun v7 h => ?_)
  refine x_istore (L' := [(4, vI v7), (3, vI (-4)), (0, vR (some o0)), (1, vI x1), (2, vI x2)]) C dX1_fewestSeats_7 (by decide) rfl ?_
  refine w_iconst C dX1_fewestSeats_9 ⟨by decide, by decide⟩ ?_
  refine x_istore (L' := [(5, vI 0), (4, vI v7), (3, vI (-4)), (0, vR (some o0)), (1, vI x1), (2, vI x2)]) C dX1_fewestSeats_10 (by decide) rfl ?_
  refine x_pc (pc2 := 12) rfl ?_
  refine x_pick (L' := [(0, vR (some o0)), (1, vI x1), (2, vI x2), (3, vI (-4)), (4, vI v7), (5, vI 0)]) [3, 4, 5, 2, 1, 0] rfl ?_
  exact k_X1_fewestSeats_12 C hr h3 hn ho0 hQ  h
set_option maxRecDepth 100000 in
set_option maxHeartbeats 4000000 in
theorem con_X1_fewestSeats (l : Launch) (D : va_G) (cy : Nat → ClassId) : Con l D cy yX1_fewestSeats cX1_fewestSeats 7 (some .int) ({ frames := 2, cells := 0, slots := 0, locals := 46 }) 0 0 SP_X1_fewestSeats := by
  refine con_of (by decide) (fun as M Qp h => ?_) ?_
  · obtain ⟨-, o0, x1, x2, rfl, -⟩ := h
    exact Nat.le_of_ble_eq_true rfl
  · intro p e s m args below meth c G as M Qp h C hr hnm
    obtain ⟨hn, o0, x1, x2, rfl, ho1, ho2, Q0, hQ, h⟩ := h
    refine x_pick (L' := [(0, vR (some o0)), (1, vI x1), (2, vI x2)]) [0, 1, 2] rfl ?_
    exact k_X1_fewestSeats_0 C hr hn rfl ⟨ho1, ho2⟩ hQ h
set_option maxRecDepth 100000 in
set_option maxHeartbeats 4000000 in
theorem cl_X1_fewestSeats {p : Program} {l : Launch} {e : Env} {R : Room} {s : State} {m : MethodId} {args : Array Value} {below : List Frame} {meth : Method} {c : Code} {Q : State → Prop} {cc : ByteArray} {nL : Nat} {own : String} {D : va_G} {cy : Nat → ClassId} {G : Nat × Nat} {n0 pc : Nat} {L : List (Nat × PV)} {st : List PV} {M : Mm} {op : Instr} (K : CallOK l D cy R own op 0 0 (spV 1 2 SP_X1_fewestSeats)) (C : Cx p s m args meth c cc nL own D cy G n0) (hd : decode cc pc = .ok (op, 3)) (hn : M.2.2.2 = n0) (h3 : n0 = 243) (hlen : argN st ≤ 8) {r : Option Nat} {o0 : Nat} (ho : isOn 1 M.2.2.2 r o0) {x1 : Int} {x2 : Int} {Q0 : Int → Prop} (h : P_X1_fewestSeats o0 x1 x2 M Q0) (k : ∀ x, Q0 x → WW p l e R s m args below meth c Q nL D cy G n0  (pc + 3) L (vI x :: st) M) : WW p l e R s m args below meth c Q nL D cy G n0  pc L (vI x2 :: vI x1 :: vR r :: st) M := by
  obtain ⟨rfl, ho1, ho2⟩ := ho
  refine x_call0 K C hd (as := [vR (some o0), vI x1, vI x2]) rfl hn hlen (fun v M2 => ∃ x, v = some (vI x) ∧ M2 = M ∧ Q0 x) ⟨⟨o0, [vI x1, vI x2], rfl, rfl, ho1, ho2⟩, hn.trans h3, o0, x1, x2, rfl, (hn.trans h3) ▸ ho1, ho2, Q0, fun x hx => ⟨x, rfl, rfl, hx⟩, h⟩ ?_
  rintro _ _ ⟨x, rfl, rfl, hx⟩ hm
  exact k x hx
end W_X1_fewestSeats
theorem dX6_firstPatch_0 : decode cX6_firstPatch 0 = .ok (.iconst 0, 1) := by decide +kernel
theorem dX6_firstPatch_1 : decode cX6_firstPatch 1 = .ok (.istore_n 1, 1) := by decide +kernel
theorem dX6_firstPatch_2 : decode cX6_firstPatch 2 = .ok (.iconst 1, 1) := by decide +kernel
theorem dX6_firstPatch_3 : decode cX6_firstPatch 3 = .ok (.istore_n 2, 1) := by decide +kernel
theorem dX6_firstPatch_4 : decode cX6_firstPatch 4 = .ok (.iload_n 2, 1) := by decide +kernel
theorem dX6_firstPatch_5 : decode cX6_firstPatch 5 = .ok (.aload_n 0, 1) := by decide +kernel
theorem dX6_firstPatch_6 : decode cX6_firstPatch 6 = .ok (.getfield 49, 3) := by decide +kernel
theorem dX6_firstPatch_9 : decode cX6_firstPatch 9 = .ok (.if_icmp .ge 26, 3) := by decide +kernel
theorem dX6_firstPatch_12 : decode cX6_firstPatch 12 = .ok (.aload_n 0, 1) := by decide +kernel
theorem dX6_firstPatch_13 : decode cX6_firstPatch 13 = .ok (.getfield 19, 3) := by decide +kernel
theorem dX6_firstPatch_16 : decode cX6_firstPatch 16 = .ok (.iload_n 2, 1) := by decide +kernel
theorem dX6_firstPatch_17 : decode cX6_firstPatch 17 = .ok (.iaload, 1) := by decide +kernel
theorem dX6_firstPatch_18 : decode cX6_firstPatch 18 = .ok (.aload_n 0, 1) := by decide +kernel
theorem dX6_firstPatch_19 : decode cX6_firstPatch 19 = .ok (.getfield 19, 3) := by decide +kernel
theorem dX6_firstPatch_22 : decode cX6_firstPatch 22 = .ok (.iload_n 1, 1) := by decide +kernel
theorem dX6_firstPatch_23 : decode cX6_firstPatch 23 = .ok (.iaload, 1) := by decide +kernel
theorem dX6_firstPatch_24 : decode cX6_firstPatch 24 = .ok (.if_icmp .le 5, 3) := by decide +kernel
theorem dX6_firstPatch_27 : decode cX6_firstPatch 27 = .ok (.iload_n 2, 1) := by decide +kernel
theorem dX6_firstPatch_28 : decode cX6_firstPatch 28 = .ok (.istore_n 1, 1) := by decide +kernel
theorem dX6_firstPatch_29 : decode cX6_firstPatch 29 = .ok (.iinc 2 1, 3) := by decide +kernel
theorem dX6_firstPatch_32 : decode cX6_firstPatch 32 = .ok (.goto (-28), 3) := by decide +kernel
theorem dX6_firstPatch_35 : decode cX6_firstPatch 35 = .ok (.iload_n 1, 1) := by decide +kernel
theorem dX6_firstPatch_36 : decode cX6_firstPatch 36 = .ok (.ireturn, 1) := by decide +kernel
theorem fw_X6_49 : fI RX6 49 6 2 := ⟨⟨lwG_1 (i := 226) rfl rfl, by decide, by decide⟩, rfl⟩
theorem fw_X6_19 : fR RX6 19 6 4 := ⟨⟨lwG_1 (i := 228) rfl rfl, by decide, by decide⟩, fun _ _ => rfl, fun r => ⟨r, rfl⟩⟩
section W_X6_firstPatch
variable {p : Program} {l : Launch} {e : Env} {s : State} {m : MethodId} {args : Array Value} {below : List Frame} {meth : Method} {c : Code} {D : va_G} {cy : Nat → ClassId} {G : Nat × Nat} {n0 : Nat} {Qp : Option PV → Mm → Prop}
set_option maxRecDepth 100000 in
set_option maxHeartbeats 4000000 in
theorem f_X6_firstPatch_4 {o0 : Nat} {x1 : Int} {x2 : Int} {M : Mm} {Q : Int → Prop} {K4 : Int × Int → Prop} (C : Cx p s m args meth c cX6_firstPatch 3 RX6 D cy G n0) (hr : meth.sig.returnType = some .int) (h3 : n0 = 243) (hn : M.2.2.2 = n0) (ho0 : o0 < 243 ∧ (SH o0).1 = 6) (hQ : ∀ x, Q x → Qp (some (vI x)) M) (hK4 : ∀ (x1 : Int) (x2 : Int), K4 (x1, x2) → WW p l e ({ frames := 0, cells := 0, slots := 0, locals := 0 }) s m args below meth c (ZQ below args s D cy G n0 Qp n0) 3 D cy G n0 4 [(0, vR (some o0)), (1, vI x1), (2, vI x2)] [] M) (h : F_X6_firstPatch_4 o0 M Q  K4 x1 x2) : WW p l e ({ frames := 0, cells := 0, slots := 0, locals := 0 }) s m args below meth c (ZQ below args s D cy G n0 Qp n0) 3 D cy G n0 4 [(0, vR (some o0)), (1, vI x1), (2, vI x2)] [] M := by
  unfold F_X6_firstPatch_4 at h
  refine w_iload_n C dX6_firstPatch_4 rfl (mem_k 2 rfl) ?_
  refine w_aload_n C dX6_firstPatch_5 rfl (mem_k 0 rfl) ?_
  refine x_getI C dX6_firstPatch_6 fw_X6_49 (isO.n (ci := 6) ⟨rfl, ho0⟩ (hn.trans h3)) ?_
  refine w_icmp_ge (tgt := 35) C dX6_firstPatch_9 (by decide) (fun q => ?_) (fun q => ?_)
  · replace h := h.1 q
    refine w_iload_n C dX6_firstPatch_35 rfl (mem_k 1 rfl) ?_
    exact x_iret C hr dX6_firstPatch_36 hn (hQ _ h)
  · replace h := h.2 q
    refine w_aload_n C dX6_firstPatch_12 rfl (mem_k 0 rfl) ?_
    refine x_getR C dX6_firstPatch_13 fw_X6_19 (isO.n (ci := 6) ⟨rfl, ho0⟩ (hn.trans h3)) (fun r1 er1 => ?_)
    replace h := h r1 er1
    refine w_iload_n C dX6_firstPatch_16 rfl (mem_k 2 rfl) ?_
    obtain ⟨o2, g3, h⟩ := h
    refine x_iald C dX6_firstPatch_17 (isA.n g3 (hn.trans h3)) ?_
    refine w_aload_n C dX6_firstPatch_18 rfl (mem_k 0 rfl) ?_
    refine x_getR C dX6_firstPatch_19 fw_X6_19 (isO.n (ci := 6) ⟨rfl, ho0⟩ (hn.trans h3)) (fun r4 er4 => ?_)
    replace h := h r4 er4
    refine w_iload_n C dX6_firstPatch_22 rfl (mem_k 1 rfl) ?_
    obtain ⟨o5, g6, h⟩ := h
    refine x_iald C dX6_firstPatch_23 (isA.n g6 (hn.trans h3)) ?_
    refine w_icmp_le (tgt := 29) C dX6_firstPatch_24 (by decide) (fun q => ?_) (fun q => ?_)
    · replace h := h.1 q
      obtain ⟨v7, ev7⟩ : ∃ z : Int, z = x2 + 1 := ⟨_, rfl⟩
      refine x_iinc (L' := [(2, vI v7), (0, vR (some o0)), (1, vI x1)]) C dX6_firstPatch_29 (mem_k 2 rfl) (by decide) h.1 ev7 rfl ?_
      replace h := h.2 v7 ev7
      refine w_goto (tgt := 4) C dX6_firstPatch_32 (by decide) ?_
      refine x_pc (pc2 := 4) rfl ?_
      refine x_pick (L' := [(0, vR (some o0)), (1, vI x1), (2, vI v7)]) [1, 2, 0] rfl ?_
      exact hK4 x1 v7 h
    · replace h := h.2 q
      refine w_iload_n C dX6_firstPatch_27 rfl (mem_k 2 rfl) ?_
      refine x_istore_n (L' := [(1, vI x2), (0, vR (some o0)), (2, vI x2)]) C dX6_firstPatch_28 rfl (by decide) rfl ?_
      obtain ⟨v8, ev8⟩ : ∃ z : Int, z = x2 + 1 := ⟨_, rfl⟩
      refine x_iinc (L' := [(2, vI v8), (1, vI x2), (0, vR (some o0))]) C dX6_firstPatch_29 (mem_k 2 rfl) (by decide) h.1 ev8 rfl ?_
      replace h := h.2 v8 ev8
      refine w_goto (tgt := 4) C dX6_firstPatch_32 (by decide) ?_
      refine x_pc (pc2 := 4) rfl ?_
      refine x_pick (L' := [(0, vR (some o0)), (1, vI x2), (2, vI v8)]) [2, 1, 0] rfl ?_
      exact hK4 x2 v8 h
set_option maxRecDepth 100000 in
set_option maxHeartbeats 4000000 in
theorem k_X6_firstPatch_4 {o0 : Nat} {x1 : Int} {x2 : Int} {M : Mm} {Q : Int → Prop} (C : Cx p s m args meth c cX6_firstPatch 3 RX6 D cy G n0) (hr : meth.sig.returnType = some .int) (h3 : n0 = 243) (hn : M.2.2.2 = n0) (ho0 : o0 < 243 ∧ (SH o0).1 = 6) (hQ : ∀ x, Q x → Qp (some (vI x)) M) (h : P_X6_firstPatch_4 o0 x1 x2 M Q ) : WW p l e ({ frames := 0, cells := 0, slots := 0, locals := 0 }) s m args below meth c (ZQ below args s D cy G n0 Qp n0) 3 D cy G n0 4 [(0, vR (some o0)), (1, vI x1), (2, vI x2)] [] M := by
  refine lpW_sound (P := fun y : Int × Int => WW p l e ({ frames := 0, cells := 0, slots := 0, locals := 0 }) s m args below meth c (ZQ below args s D cy G n0 Qp n0) 3 D cy G n0 4 [(0, vR (some o0)), (1, vI y.1), (2, vI y.2)] [] M) ?_ h
  intro K y hK hF
  obtain ⟨x1, x2⟩ := y
  exact f_X6_firstPatch_4 C hr h3 hn ho0 hQ  (fun x1 x2 hk => hK (x1, x2) hk) hF
set_option maxRecDepth 100000 in
set_option maxHeartbeats 4000000 in
theorem k_X6_firstPatch_0 {o0 : Nat} {M : Mm} {Q : Int → Prop} (C : Cx p s m args meth c cX6_firstPatch 3 RX6 D cy G n0) (hr : meth.sig.returnType = some .int) (h3 : n0 = 243) (hn : M.2.2.2 = n0) (ho0 : o0 < 243 ∧ (SH o0).1 = 6) (hQ : ∀ x, Q x → Qp (some (vI x)) M) (h : P_X6_firstPatch o0 M Q ) : WW p l e ({ frames := 0, cells := 0, slots := 0, locals := 0 }) s m args below meth c (ZQ below args s D cy G n0 Qp n0) 3 D cy G n0 0 [(0, vR (some o0))] [] M := by
  unfold P_X6_firstPatch at h
  refine w_iconst C dX6_firstPatch_0 ⟨by decide, by decide⟩ ?_
  refine x_istore_n (L' := [(1, vI 0), (0, vR (some o0))]) C dX6_firstPatch_1 rfl (by decide) rfl ?_
  refine w_iconst C dX6_firstPatch_2 ⟨by decide, by decide⟩ ?_
  refine x_istore_n (L' := [(2, vI 1), (1, vI 0), (0, vR (some o0))]) C dX6_firstPatch_3 rfl (by decide) rfl ?_
  refine x_pc (pc2 := 4) rfl ?_
  refine x_pick (L' := [(0, vR (some o0)), (1, vI 0), (2, vI 1)]) [2, 1, 0] rfl ?_
  exact k_X6_firstPatch_4 C hr h3 hn ho0 hQ  h
set_option maxRecDepth 100000 in
set_option maxHeartbeats 4000000 in
theorem con_X6_firstPatch (l : Launch) (D : va_G) (cy : Nat → ClassId) : Con l D cy yX6_firstPatch cX6_firstPatch 3 (some .int) ({ frames := 0, cells := 0, slots := 0, locals := 0 }) 0 0 SP_X6_firstPatch := by
  refine con_of (by decide) (fun as M Qp h => ?_) ?_
  · obtain ⟨-, o0, rfl, -⟩ := h
    exact Nat.le_of_ble_eq_true rfl
  · intro p e s m args below meth c G as M Qp h C hr hnm
    obtain ⟨hn, o0, rfl, ho1, ho2, Q0, hQ, h⟩ := h
    refine x_pick (L' := [(0, vR (some o0))]) [0] rfl ?_
    exact k_X6_firstPatch_0 C hr hn rfl ⟨ho1, ho2⟩ hQ h
set_option maxRecDepth 100000 in
set_option maxHeartbeats 4000000 in
theorem cl_X6_firstPatch {p : Program} {l : Launch} {e : Env} {R : Room} {s : State} {m : MethodId} {args : Array Value} {below : List Frame} {meth : Method} {c : Code} {Q : State → Prop} {cc : ByteArray} {nL : Nat} {own : String} {D : va_G} {cy : Nat → ClassId} {G : Nat × Nat} {n0 pc : Nat} {L : List (Nat × PV)} {st : List PV} {M : Mm} {op : Instr} (K : CallOK l D cy R own op 0 0 (spV 6 0 SP_X6_firstPatch)) (C : Cx p s m args meth c cc nL own D cy G n0) (hd : decode cc pc = .ok (op, 3)) (hn : M.2.2.2 = n0) (h3 : n0 = 243) (hlen : argN st ≤ 8) {r : Option Nat} {o0 : Nat} (ho : isOn 6 M.2.2.2 r o0)  {Q0 : Int → Prop} (h : P_X6_firstPatch o0 M Q0) (k : ∀ x, Q0 x → WW p l e R s m args below meth c Q nL D cy G n0  (pc + 3) L (vI x :: st) M) : WW p l e R s m args below meth c Q nL D cy G n0  pc L (vR r :: st) M := by
  obtain ⟨rfl, ho1, ho2⟩ := ho
  refine x_call0 K C hd (as := [vR (some o0)]) rfl hn hlen (fun v M2 => ∃ x, v = some (vI x) ∧ M2 = M ∧ Q0 x) ⟨⟨o0, [], rfl, rfl, ho1, ho2⟩, hn.trans h3, o0, rfl, (hn.trans h3) ▸ ho1, ho2, Q0, fun x hx => ⟨x, rfl, rfl, hx⟩, h⟩ ?_
  rintro _ _ ⟨x, rfl, rfl, hx⟩ hm
  exact k x hx
end W_X6_firstPatch
theorem dX6_isHere_0 : decode cX6_isHere 0 = .ok (.iload_n 1, 1) := by decide +kernel
theorem dX6_isHere_1 : decode cX6_isHere 1 = .ok (.iconst 0, 1) := by decide +kernel
theorem dX6_isHere_2 : decode cX6_isHere 2 = .ok (.aload_n 0, 1) := by decide +kernel
theorem dX6_isHere_3 : decode cX6_isHere 3 = .ok (.getfield 49, 3) := by decide +kernel
theorem dX6_isHere_6 : decode cX6_isHere 6 = .ok (.iconst 1, 1) := by decide +kernel
theorem dX6_isHere_7 : decode cX6_isHere 7 = .ok (.isub, 1) := by decide +kernel
theorem dX6_isHere_8 : decode cX6_isHere 8 = .ok (.invokestatic 94, 3) := by decide +kernel
theorem dX6_isHere_11 : decode cX6_isHere 11 = .ok (.ireturn, 1) := by decide +kernel
theorem ck_X6_94 {l : Launch} {D : va_G} {cy : Nat → ClassId} {R : Room} (hR : 1 ≤ R.frames ∧ 22 ≤ R.locals) : CallOK l D cy R RX6 (.invokestatic 94) 0 0 (spS 3 SP_X11_isWithin) := call_SN (con_X11_isWithin l D cy) (List.mem_append_right _ (List.mem_append_right _ (List.mem_append_left _ (List.mem_of_getElem? (i := 213) rfl)))) (lwG_2 (i := 92) rfl rfl) (lwG_1 (i := 1) rfl rfl) (lwG_2 (i := 93) rfl rfl) ⟨by decide, by decide, rfl⟩ ⟨rfl, rfl⟩ hR
section W_X6_isHere
variable {p : Program} {l : Launch} {e : Env} {s : State} {m : MethodId} {args : Array Value} {below : List Frame} {meth : Method} {c : Code} {D : va_G} {cy : Nat → ClassId} {G : Nat × Nat} {n0 : Nat} {Qp : Option PV → Mm → Prop}
set_option maxRecDepth 100000 in
set_option maxHeartbeats 4000000 in
theorem k_X6_isHere_0 {o0 : Nat} {x1 : Int} {M : Mm} {Q : Int → Prop} (C : Cx p s m args meth c cX6_isHere 2 RX6 D cy G n0) (hr : meth.sig.returnType = some .boolean) (h3 : n0 = 243) (hn : M.2.2.2 = n0) (ho0 : o0 < 243 ∧ (SH o0).1 = 6) (hQ : ∀ x, Q x → Qp (some (vI x)) M) (h : P_X6_isHere o0 x1 M Q ) : WW p l e ({ frames := 1, cells := 0, slots := 0, locals := 22 }) s m args below meth c (ZQ below args s D cy G n0 Qp n0) 2 D cy G n0 0 [(0, vR (some o0)), (1, vI x1)] [] M := by
  unfold P_X6_isHere at h
  refine w_iload_n C dX6_isHere_0 rfl (mem_k 1 rfl) ?_
  refine w_iconst C dX6_isHere_1 ⟨by decide, by decide⟩ ?_
  refine w_aload_n C dX6_isHere_2 rfl (mem_k 0 rfl) ?_
  refine x_getI C dX6_isHere_3 fw_X6_49 (isO.n (ci := 6) ⟨rfl, ho0⟩ (hn.trans h3)) ?_
  refine w_iconst C dX6_isHere_6 ⟨by decide, by decide⟩ ?_
  refine w_isub C dX6_isHere_7 h.1 ?_
  replace h := h.2
  refine cl_X11_isWithin (ck_X6_94 ⟨by decide, by decide⟩) C dX6_isHere_8 hn h3 (Nat.le_of_ble_eq_true rfl) h (fun v1 h => ?_)
  exact x_zret C hr dX6_isHere_11 hn h.1 (hQ _ h.2)
set_option maxRecDepth 100000 in
set_option maxHeartbeats 4000000 in
theorem con_X6_isHere (l : Launch) (D : va_G) (cy : Nat → ClassId) : Con l D cy yX6_isHere cX6_isHere 2 (some .boolean) ({ frames := 1, cells := 0, slots := 0, locals := 22 }) 0 0 SP_X6_isHere := by
  refine con_of (by decide) (fun as M Qp h => ?_) ?_
  · obtain ⟨-, o0, x1, rfl, -⟩ := h
    exact Nat.le_of_ble_eq_true rfl
  · intro p e s m args below meth c G as M Qp h C hr hnm
    obtain ⟨hn, o0, x1, rfl, ho1, ho2, Q0, hQ, h⟩ := h
    refine x_pick (L' := [(0, vR (some o0)), (1, vI x1)]) [0, 1] rfl ?_
    exact k_X6_isHere_0 C hr hn rfl ⟨ho1, ho2⟩ hQ h
set_option maxRecDepth 100000 in
set_option maxHeartbeats 4000000 in
theorem cl_X6_isHere {p : Program} {l : Launch} {e : Env} {R : Room} {s : State} {m : MethodId} {args : Array Value} {below : List Frame} {meth : Method} {c : Code} {Q : State → Prop} {cc : ByteArray} {nL : Nat} {own : String} {D : va_G} {cy : Nat → ClassId} {G : Nat × Nat} {n0 pc : Nat} {L : List (Nat × PV)} {st : List PV} {M : Mm} {op : Instr} (K : CallOK l D cy R own op 0 0 (spV 6 1 SP_X6_isHere)) (C : Cx p s m args meth c cc nL own D cy G n0) (hd : decode cc pc = .ok (op, 3)) (hn : M.2.2.2 = n0) (h3 : n0 = 243) (hlen : argN st ≤ 8) {r : Option Nat} {o0 : Nat} (ho : isOn 6 M.2.2.2 r o0) {x1 : Int} {Q0 : Int → Prop} (h : P_X6_isHere o0 x1 M Q0) (k : ∀ x, Q0 x → WW p l e R s m args below meth c Q nL D cy G n0  (pc + 3) L (vI x :: st) M) : WW p l e R s m args below meth c Q nL D cy G n0  pc L (vI x1 :: vR r :: st) M := by
  obtain ⟨rfl, ho1, ho2⟩ := ho
  refine x_call0 K C hd (as := [vR (some o0), vI x1]) rfl hn hlen (fun v M2 => ∃ x, v = some (vI x) ∧ M2 = M ∧ Q0 x) ⟨⟨o0, [vI x1], rfl, rfl, ho1, ho2⟩, hn.trans h3, o0, x1, rfl, (hn.trans h3) ▸ ho1, ho2, Q0, fun x hx => ⟨x, rfl, rfl, hx⟩, h⟩ ?_
  rintro _ _ ⟨x, rfl, rfl, hx⟩ hm
  exact k x hx
end W_X6_isHere
theorem dX6_pressAt_0 : decode cX6_pressAt 0 = .ok (.aload_n 0, 1) := by decide +kernel
theorem dX6_pressAt_1 : decode cX6_pressAt 1 = .ok (.iload_n 1, 1) := by decide +kernel
theorem dX6_pressAt_2 : decode cX6_pressAt 2 = .ok (.invokevirtual 104, 3) := by decide +kernel
theorem dX6_pressAt_5 : decode cX6_pressAt 5 = .ok (.ifCond .eq 12, 3) := by decide +kernel
theorem dX6_pressAt_8 : decode cX6_pressAt 8 = .ok (.aload_n 0, 1) := by decide +kernel
theorem dX6_pressAt_9 : decode cX6_pressAt 9 = .ok (.getfield 19, 3) := by decide +kernel
theorem dX6_pressAt_12 : decode cX6_pressAt 12 = .ok (.iload_n 1, 1) := by decide +kernel
theorem dX6_pressAt_13 : decode cX6_pressAt 13 = .ok (.iaload, 1) := by decide +kernel
theorem dX6_pressAt_14 : decode cX6_pressAt 14 = .ok (.goto 4, 3) := by decide +kernel
theorem dX6_pressAt_17 : decode cX6_pressAt 17 = .ok (.iconst 0, 1) := by decide +kernel
theorem dX6_pressAt_18 : decode cX6_pressAt 18 = .ok (.ireturn, 1) := by decide +kernel
theorem ck_X6_104 {l : Launch} {D : va_G} {cy : Nat → ClassId} {R : Room} (hR : 2 ≤ R.frames ∧ 43 ≤ R.locals) : CallOK l D cy R RX6 (.invokevirtual 104) 0 0 (spV 6 1 SP_X6_isHere) := call_V (ci := 6) (con_X6_isHere l D cy) (lwG_3 (i := 15) rfl rfl) (lwG_3 (i := 17) rfl rfl) (lwG_p (i := 10) rfl rfl) (lwG_1 (i := 9) rfl rfl) (lwG_3 (i := 18) rfl rfl) (by decide) ⟨rfl, by decide, by decide, rfl⟩ ⟨rfl, rfl⟩ hR
section W_X6_pressAt
variable {p : Program} {l : Launch} {e : Env} {s : State} {m : MethodId} {args : Array Value} {below : List Frame} {meth : Method} {c : Code} {D : va_G} {cy : Nat → ClassId} {G : Nat × Nat} {n0 : Nat} {Qp : Option PV → Mm → Prop}
set_option maxRecDepth 100000 in
set_option maxHeartbeats 4000000 in
theorem k_X6_pressAt_0 {o0 : Nat} {x1 : Int} {M : Mm} {Q : Int → Prop} (C : Cx p s m args meth c cX6_pressAt 2 RX6 D cy G n0) (hr : meth.sig.returnType = some .int) (h3 : n0 = 243) (hn : M.2.2.2 = n0) (ho0 : o0 < 243 ∧ (SH o0).1 = 6) (hQ : ∀ x, Q x → Qp (some (vI x)) M) (h : P_X6_pressAt o0 x1 M Q ) : WW p l e ({ frames := 2, cells := 0, slots := 0, locals := 43 }) s m args below meth c (ZQ below args s D cy G n0 Qp n0) 2 D cy G n0 0 [(0, vR (some o0)), (1, vI x1)] [] M := by
  unfold P_X6_pressAt at h
  refine w_aload_n C dX6_pressAt_0 rfl (mem_k 0 rfl) ?_
  refine w_iload_n C dX6_pressAt_1 rfl (mem_k 1 rfl) ?_
  refine cl_X6_isHere (ck_X6_104 ⟨by decide, by decide⟩) C dX6_pressAt_2 hn h3 (Nat.le_of_ble_eq_true rfl) (isO.n (ci := 6) ⟨rfl, ho0⟩ (hn.trans h3)) h (fun v1 h => ?_)
  refine w_if_eq (tgt := 17) C dX6_pressAt_5 (by decide) (fun q => ?_) (fun q => ?_)
  · replace h := h.1 q
    refine w_iconst C dX6_pressAt_17 ⟨by decide, by decide⟩ ?_
    exact x_iret C hr dX6_pressAt_18 hn (hQ _ h)
  · replace h := h.2 q
    refine w_aload_n C dX6_pressAt_8 rfl (mem_k 0 rfl) ?_
    refine x_getR C dX6_pressAt_9 fw_X6_19 (isO.n (ci := 6) ⟨rfl, ho0⟩ (hn.trans h3)) (fun r2 er2 => ?_)
    replace h := h r2 er2
    refine w_iload_n C dX6_pressAt_12 rfl (mem_k 1 rfl) ?_
    obtain ⟨o3, g4, h⟩ := h
    refine x_iald C dX6_pressAt_13 (isA.n g4 (hn.trans h3)) ?_
    refine w_goto (tgt := 18) C dX6_pressAt_14 (by decide) ?_
    exact x_iret C hr dX6_pressAt_18 hn (hQ _ h)
set_option maxRecDepth 100000 in
set_option maxHeartbeats 4000000 in
theorem con_X6_pressAt (l : Launch) (D : va_G) (cy : Nat → ClassId) : Con l D cy yX6_pressAt cX6_pressAt 2 (some .int) ({ frames := 2, cells := 0, slots := 0, locals := 43 }) 0 0 SP_X6_pressAt := by
  refine con_of (by decide) (fun as M Qp h => ?_) ?_
  · obtain ⟨-, o0, x1, rfl, -⟩ := h
    exact Nat.le_of_ble_eq_true rfl
  · intro p e s m args below meth c G as M Qp h C hr hnm
    obtain ⟨hn, o0, x1, rfl, ho1, ho2, Q0, hQ, h⟩ := h
    refine x_pick (L' := [(0, vR (some o0)), (1, vI x1)]) [0, 1] rfl ?_
    exact k_X6_pressAt_0 C hr hn rfl ⟨ho1, ho2⟩ hQ h
set_option maxRecDepth 100000 in
set_option maxHeartbeats 4000000 in
theorem cl_X6_pressAt {p : Program} {l : Launch} {e : Env} {R : Room} {s : State} {m : MethodId} {args : Array Value} {below : List Frame} {meth : Method} {c : Code} {Q : State → Prop} {cc : ByteArray} {nL : Nat} {own : String} {D : va_G} {cy : Nat → ClassId} {G : Nat × Nat} {n0 pc : Nat} {L : List (Nat × PV)} {st : List PV} {M : Mm} {op : Instr} (K : CallOK l D cy R own op 0 0 (spV 6 1 SP_X6_pressAt)) (C : Cx p s m args meth c cc nL own D cy G n0) (hd : decode cc pc = .ok (op, 3)) (hn : M.2.2.2 = n0) (h3 : n0 = 243) (hlen : argN st ≤ 8) {r : Option Nat} {o0 : Nat} (ho : isOn 6 M.2.2.2 r o0) {x1 : Int} {Q0 : Int → Prop} (h : P_X6_pressAt o0 x1 M Q0) (k : ∀ x, Q0 x → WW p l e R s m args below meth c Q nL D cy G n0  (pc + 3) L (vI x :: st) M) : WW p l e R s m args below meth c Q nL D cy G n0  pc L (vI x1 :: vR r :: st) M := by
  obtain ⟨rfl, ho1, ho2⟩ := ho
  refine x_call0 K C hd (as := [vR (some o0), vI x1]) rfl hn hlen (fun v M2 => ∃ x, v = some (vI x) ∧ M2 = M ∧ Q0 x) ⟨⟨o0, [vI x1], rfl, rfl, ho1, ho2⟩, hn.trans h3, o0, x1, rfl, (hn.trans h3) ▸ ho1, ho2, Q0, fun x hx => ⟨x, rfl, rfl, hx⟩, h⟩ ?_
  rintro _ _ ⟨x, rfl, rfl, hx⟩ hm
  exact k x hx
end W_X6_pressAt
theorem dX2_hurtOfHour_0 : decode cX2_hurtOfHour 0 = .ok (.iconst 0, 1) := by decide +kernel
theorem dX2_hurtOfHour_1 : decode cX2_hurtOfHour 1 = .ok (.aload_n 1, 1) := by decide +kernel
theorem dX2_hurtOfHour_2 : decode cX2_hurtOfHour 2 = .ok (.aload_n 1, 1) := by decide +kernel
theorem dX2_hurtOfHour_3 : decode cX2_hurtOfHour 3 = .ok (.invokevirtual 25, 3) := by decide +kernel
theorem dX2_hurtOfHour_6 : decode cX2_hurtOfHour 6 = .ok (.invokevirtual 31, 3) := by decide +kernel
theorem dX2_hurtOfHour_9 : decode cX2_hurtOfHour 9 = .ok (.aload_n 0, 1) := by decide +kernel
theorem dX2_hurtOfHour_10 : decode cX2_hurtOfHour 10 = .ok (.getfield 9, 3) := by decide +kernel
theorem dX2_hurtOfHour_13 : decode cX2_hurtOfHour 13 = .ok (.isub, 1) := by decide +kernel
theorem dX2_hurtOfHour_14 : decode cX2_hurtOfHour 14 = .ok (.invokestatic 35, 3) := by decide +kernel
theorem dX2_hurtOfHour_17 : decode cX2_hurtOfHour 17 = .ok (.ireturn, 1) := by decide +kernel
theorem ck_X2_25 {l : Launch} {D : va_G} {cy : Nat → ClassId} {R : Room} (hR : 1 ≤ R.frames ∧ 22 ≤ R.locals) : CallOK l D cy R RX2 (.invokevirtual 25) 0 0 (spV 6 0 SP_X6_firstPatch) := call_V (ci := 6) (con_X6_firstPatch l D cy) (lwG_3 (i := 132) rfl rfl) (lwG_3 (i := 33) rfl rfl) (lwG_3 (i := 34) rfl rfl) (lwG_1 (i := 9) rfl rfl) (lwG_3 (i := 35) rfl rfl) (by decide) ⟨rfl, by decide, by decide, rfl⟩ ⟨rfl, rfl⟩ hR
theorem ck_X2_31 {l : Launch} {D : va_G} {cy : Nat → ClassId} {R : Room} (hR : 3 ≤ R.frames ∧ 64 ≤ R.locals) : CallOK l D cy R RX2 (.invokevirtual 31) 0 0 (spV 6 1 SP_X6_pressAt) := call_V (ci := 6) (con_X6_pressAt l D cy) (lwG_3 (i := 133) rfl rfl) (lwG_3 (i := 37) rfl rfl) (lwG_3 (i := 38) rfl rfl) (lwG_1 (i := 9) rfl rfl) (lwG_3 (i := 39) rfl rfl) (by decide) ⟨rfl, by decide, by decide, rfl⟩ ⟨rfl, rfl⟩ hR
theorem fw_X2_9 : fI RX2 9 2 0 := ⟨⟨lwG_2 (i := 15) rfl rfl, by decide, by decide⟩, rfl⟩
theorem mt_X2_35 : mtOK RX2 35 Lib.Math.max.name := lwG_3 (i := 134) rfl rfl
section W_X2_hurtOfHour
variable {p : Program} {l : Launch} {e : Env} {s : State} {m : MethodId} {args : Array Value} {below : List Frame} {meth : Method} {c : Code} {D : va_G} {cy : Nat → ClassId} {G : Nat × Nat} {n0 : Nat} {Qp : Option PV → Mm → Prop}
set_option maxRecDepth 100000 in
set_option maxHeartbeats 4000000 in
theorem k_X2_hurtOfHour_0 {o0 : Nat} {a1 : Option Nat} {M : Mm} {Q : Int → Prop} (C : Cx p s m args meth c cX2_hurtOfHour 2 RX2 D cy G n0) (hr : meth.sig.returnType = some .int) (h3 : n0 = 243) (hn : M.2.2.2 = n0) (ho0 : o0 < 243 ∧ (SH o0).1 = 2) (hQ : ∀ x, Q x → Qp (some (vI x)) M) (h : P_X2_hurtOfHour o0 a1 M Q ) : WW p l e ({ frames := 3, cells := 0, slots := 0, locals := 64 }) s m args below meth c (ZQ below args s D cy G n0 Qp n0) 2 D cy G n0 0 [(0, vR (some o0)), (1, vR a1)] [] M := by
  unfold P_X2_hurtOfHour at h
  refine w_iconst C dX2_hurtOfHour_0 ⟨by decide, by decide⟩ ?_
  refine w_aload_n C dX2_hurtOfHour_1 rfl (mem_k 1 rfl) ?_
  refine w_aload_n C dX2_hurtOfHour_2 rfl (mem_k 1 rfl) ?_
  obtain ⟨o1, g2, h⟩ := h
  refine cl_X6_firstPatch (ck_X2_25 ⟨by decide, by decide⟩) C dX2_hurtOfHour_3 hn h3 (Nat.le_of_ble_eq_true rfl) (isO.n g2 (hn.trans h3)) h (fun v3 h => ?_)
  refine cl_X6_pressAt (ck_X2_31 ⟨by decide, by decide⟩) C dX2_hurtOfHour_6 hn h3 (Nat.le_of_ble_eq_true rfl) (isO.n g2 (hn.trans h3)) h (fun v4 h => ?_)
  refine w_aload_n C dX2_hurtOfHour_9 rfl (mem_k 0 rfl) ?_
  refine x_getI C dX2_hurtOfHour_10 fw_X2_9 (isO.n (ci := 2) ⟨rfl, ho0⟩ (hn.trans h3)) ?_
  refine w_isub C dX2_hurtOfHour_13 h.1 ?_
  replace h := h.2
  refine x_max C dX2_hurtOfHour_14 hn mt_X2_35 (Nat.le_of_ble_eq_true rfl) ⟨by decide, by decide⟩ ?_
  exact x_iret C hr dX2_hurtOfHour_17 hn (hQ _ h)
set_option maxRecDepth 100000 in
set_option maxHeartbeats 4000000 in
theorem con_X2_hurtOfHour (l : Launch) (D : va_G) (cy : Nat → ClassId) : Con l D cy yX2_hurtOfHour cX2_hurtOfHour 2 (some .int) ({ frames := 3, cells := 0, slots := 0, locals := 64 }) 0 0 SP_X2_hurtOfHour := by
  refine con_of (by decide) (fun as M Qp h => ?_) ?_
  · obtain ⟨-, o0, a1, rfl, -⟩ := h
    exact Nat.le_of_ble_eq_true rfl
  · intro p e s m args below meth c G as M Qp h C hr hnm
    obtain ⟨hn, o0, a1, rfl, ho1, ho2, Q0, hQ, h⟩ := h
    refine x_pick (L' := [(0, vR (some o0)), (1, vR a1)]) [0, 1] rfl ?_
    exact k_X2_hurtOfHour_0 C hr hn rfl ⟨ho1, ho2⟩ hQ h
set_option maxRecDepth 100000 in
set_option maxHeartbeats 4000000 in
theorem cl_X2_hurtOfHour {p : Program} {l : Launch} {e : Env} {R : Room} {s : State} {m : MethodId} {args : Array Value} {below : List Frame} {meth : Method} {c : Code} {Q : State → Prop} {cc : ByteArray} {nL : Nat} {own : String} {D : va_G} {cy : Nat → ClassId} {G : Nat × Nat} {n0 pc : Nat} {L : List (Nat × PV)} {st : List PV} {M : Mm} {op : Instr} (K : CallOK l D cy R own op 0 0 (spV 2 1 SP_X2_hurtOfHour)) (C : Cx p s m args meth c cc nL own D cy G n0) (hd : decode cc pc = .ok (op, 3)) (hn : M.2.2.2 = n0) (h3 : n0 = 243) (hlen : argN st ≤ 8) {r : Option Nat} {o0 : Nat} (ho : isOn 2 M.2.2.2 r o0) {a1 : Option Nat} {Q0 : Int → Prop} (h : P_X2_hurtOfHour o0 a1 M Q0) (k : ∀ x, Q0 x → WW p l e R s m args below meth c Q nL D cy G n0  (pc + 3) L (vI x :: st) M) : WW p l e R s m args below meth c Q nL D cy G n0  pc L (vR a1 :: vR r :: st) M := by
  obtain ⟨rfl, ho1, ho2⟩ := ho
  refine x_call0 K C hd (as := [vR (some o0), vR a1]) rfl hn hlen (fun v M2 => ∃ x, v = some (vI x) ∧ M2 = M ∧ Q0 x) ⟨⟨o0, [vR a1], rfl, rfl, ho1, ho2⟩, hn.trans h3, o0, a1, rfl, (hn.trans h3) ▸ ho1, ho2, Q0, fun x hx => ⟨x, rfl, rfl, hx⟩, h⟩ ?_
  rintro _ _ ⟨x, rfl, rfl, hx⟩ hm
  exact k x hx
end W_X2_hurtOfHour
theorem dX2_hoursUntil_0 : decode cX2_hoursUntil 0 = .ok (.aload_n 0, 1) := by decide +kernel
theorem dX2_hoursUntil_1 : decode cX2_hoursUntil 1 = .ok (.aload_n 1, 1) := by decide +kernel
theorem dX2_hoursUntil_2 : decode cX2_hoursUntil 2 = .ok (.invokevirtual 41, 3) := by decide +kernel
theorem dX2_hoursUntil_5 : decode cX2_hoursUntil 5 = .ok (.istore_n 3, 1) := by decide +kernel
theorem dX2_hoursUntil_6 : decode cX2_hoursUntil 6 = .ok (.iconst 1, 1) := by decide +kernel
theorem dX2_hoursUntil_7 : decode cX2_hoursUntil 7 = .ok (.istore 4, 2) := by decide +kernel
theorem dX2_hoursUntil_9 : decode cX2_hoursUntil 9 = .ok (.iload 4, 2) := by decide +kernel
theorem dX2_hoursUntil_11 : decode cX2_hoursUntil 11 = .ok (.bipush 24, 2) := by decide +kernel
theorem dX2_hoursUntil_13 : decode cX2_hoursUntil 13 = .ok (.if_icmp .gt 20, 3) := by decide +kernel
theorem dX2_hoursUntil_16 : decode cX2_hoursUntil 16 = .ok (.iload 4, 2) := by decide +kernel
theorem dX2_hoursUntil_18 : decode cX2_hoursUntil 18 = .ok (.iload_n 3, 1) := by decide +kernel
theorem dX2_hoursUntil_19 : decode cX2_hoursUntil 19 = .ok (.imul, 1) := by decide +kernel
theorem dX2_hoursUntil_20 : decode cX2_hoursUntil 20 = .ok (.iload_n 2, 1) := by decide +kernel
theorem dX2_hoursUntil_21 : decode cX2_hoursUntil 21 = .ok (.if_icmp .lt 6, 3) := by decide +kernel
theorem dX2_hoursUntil_24 : decode cX2_hoursUntil 24 = .ok (.iload 4, 2) := by decide +kernel
theorem dX2_hoursUntil_26 : decode cX2_hoursUntil 26 = .ok (.ireturn, 1) := by decide +kernel
theorem dX2_hoursUntil_27 : decode cX2_hoursUntil 27 = .ok (.iinc 4 1, 3) := by decide +kernel
theorem dX2_hoursUntil_30 : decode cX2_hoursUntil 30 = .ok (.goto (-21), 3) := by decide +kernel
theorem dX2_hoursUntil_33 : decode cX2_hoursUntil 33 = .ok (.bipush (-4), 2) := by decide +kernel
theorem dX2_hoursUntil_35 : decode cX2_hoursUntil 35 = .ok (.ireturn, 1) := by decide +kernel
theorem ck_X2_41 {l : Launch} {D : va_G} {cy : Nat → ClassId} {R : Room} (hR : 4 ≤ R.frames ∧ 85 ≤ R.locals) : CallOK l D cy R RX2 (.invokevirtual 41) 0 0 (spV 2 1 SP_X2_hurtOfHour) := call_V (ci := 2) (con_X2_hurtOfHour l D cy) (lwG_3 (i := 128) rfl rfl) (lwG_3 (i := 130) rfl rfl) (lwG_p (i := 12) rfl rfl) (lwG_1 (i := 10) rfl rfl) (lwG_3 (i := 131) rfl rfl) (by decide) ⟨rfl, by decide, by decide, rfl⟩ ⟨rfl, rfl⟩ hR
section W_X2_hoursUntil
variable {p : Program} {l : Launch} {e : Env} {s : State} {m : MethodId} {args : Array Value} {below : List Frame} {meth : Method} {c : Code} {D : va_G} {cy : Nat → ClassId} {G : Nat × Nat} {n0 : Nat} {Qp : Option PV → Mm → Prop}
set_option maxRecDepth 100000 in
set_option maxHeartbeats 4000000 in
theorem f_X2_hoursUntil_9 {x2 : Int} {x3 : Int} {x4 : Int} {M : Mm} {Q : Int → Prop} {o0 : Nat} {K9 : Int → Prop} (C : Cx p s m args meth c cX2_hoursUntil 5 RX2 D cy G n0) (hr : meth.sig.returnType = some .int) (h3 : n0 = 243) (hn : M.2.2.2 = n0) (ho0 : o0 < 243 ∧ (SH o0).1 = 2) (hQ : ∀ x, Q x → Qp (some (vI x)) M) (hK9 : ∀ (x4 : Int), K9 (x4) → WW p l e ({ frames := 4, cells := 0, slots := 0, locals := 85 }) s m args below meth c (ZQ below args s D cy G n0 Qp n0) 5 D cy G n0 9 [(2, vI x2), (3, vI x3), (4, vI x4)] [] M) (h : F_X2_hoursUntil_9 x2 x3 M Q  K9 x4) : WW p l e ({ frames := 4, cells := 0, slots := 0, locals := 85 }) s m args below meth c (ZQ below args s D cy G n0 Qp n0) 5 D cy G n0 9 [(2, vI x2), (3, vI x3), (4, vI x4)] [] M := by
  unfold F_X2_hoursUntil_9 at h
  refine w_iload C dX2_hoursUntil_9 (mem_k 2 rfl) ?_
  refine w_bipush C dX2_hoursUntil_11 (by decide) ?_
  refine w_icmp_gt (tgt := 33) C dX2_hoursUntil_13 (by decide) (fun q => ?_) (fun q => ?_)
  · replace h := h.1 q
    refine w_bipush C dX2_hoursUntil_33 (by decide) ?_
    exact x_iret C hr dX2_hoursUntil_35 hn (hQ _ h)
  · replace h := h.2 q
    refine w_iload C dX2_hoursUntil_16 (mem_k 2 rfl) ?_
    refine w_iload_n C dX2_hoursUntil_18 rfl (mem_k 1 rfl) ?_
    refine w_imul C dX2_hoursUntil_19 h.1 ?_
    replace h := h.2
    refine w_iload_n C dX2_hoursUntil_20 rfl (mem_k 0 rfl) ?_
    refine w_icmp_lt (tgt := 27) C dX2_hoursUntil_21 (by decide) (fun q => ?_) (fun q => ?_)
    · replace h := h.1 q
      obtain ⟨v1, ev1⟩ : ∃ z : Int, z = x4 + 1 := ⟨_, rfl⟩
      refine x_iinc (L' := [(4, vI v1), (2, vI x2), (3, vI x3)]) C dX2_hoursUntil_27 (mem_k 2 rfl) (by decide) h.1 ev1 rfl ?_
      replace h := h.2 v1 ev1
      refine w_goto (tgt := 9) C dX2_hoursUntil_30 (by decide) ?_
      refine x_pc (pc2 := 9) rfl ?_
      refine x_pick (L' := [(2, vI x2), (3, vI x3), (4, vI v1)]) [1, 2, 0] rfl ?_
      exact hK9 v1 h
    · replace h := h.2 q
      refine w_iload C dX2_hoursUntil_24 (mem_k 2 rfl) ?_
      exact x_iret C hr dX2_hoursUntil_26 hn (hQ _ h)
set_option maxRecDepth 100000 in
set_option maxHeartbeats 4000000 in
theorem k_X2_hoursUntil_9 {x2 : Int} {x3 : Int} {x4 : Int} {M : Mm} {Q : Int → Prop} {o0 : Nat} (C : Cx p s m args meth c cX2_hoursUntil 5 RX2 D cy G n0) (hr : meth.sig.returnType = some .int) (h3 : n0 = 243) (hn : M.2.2.2 = n0) (ho0 : o0 < 243 ∧ (SH o0).1 = 2) (hQ : ∀ x, Q x → Qp (some (vI x)) M) (h : P_X2_hoursUntil_9 x2 x3 x4 M Q ) : WW p l e ({ frames := 4, cells := 0, slots := 0, locals := 85 }) s m args below meth c (ZQ below args s D cy G n0 Qp n0) 5 D cy G n0 9 [(2, vI x2), (3, vI x3), (4, vI x4)] [] M := by
  refine lpW_sound (P := fun y : Int => WW p l e ({ frames := 4, cells := 0, slots := 0, locals := 85 }) s m args below meth c (ZQ below args s D cy G n0 Qp n0) 5 D cy G n0 9 [(2, vI x2), (3, vI x3), (4, vI y)] [] M) ?_ h
  intro K y hK hF
  exact f_X2_hoursUntil_9 C hr h3 hn ho0 hQ  (fun x4 hk => hK x4 hk) hF
set_option maxRecDepth 100000 in
set_option maxHeartbeats 4000000 in
theorem k_X2_hoursUntil_0 {o0 : Nat} {a1 : Option Nat} {x2 : Int} {M : Mm} {Q : Int → Prop} (C : Cx p s m args meth c cX2_hoursUntil 5 RX2 D cy G n0) (hr : meth.sig.returnType = some .int) (h3 : n0 = 243) (hn : M.2.2.2 = n0) (ho0 : o0 < 243 ∧ (SH o0).1 = 2) (hQ : ∀ x, Q x → Qp (some (vI x)) M) (h : P_X2_hoursUntil o0 a1 x2 M Q ) : WW p l e ({ frames := 4, cells := 0, slots := 0, locals := 85 }) s m args below meth c (ZQ below args s D cy G n0 Qp n0) 5 D cy G n0 0 [(0, vR (some o0)), (1, vR a1), (2, vI x2)] [] M := by
  unfold P_X2_hoursUntil at h
  refine w_aload_n C dX2_hoursUntil_0 rfl (mem_k 0 rfl) ?_
  refine w_aload_n C dX2_hoursUntil_1 rfl (mem_k 1 rfl) ?_
  refine cl_X2_hurtOfHour (ck_X2_41 ⟨by decide, by decide⟩) C dX2_hoursUntil_2 hn h3 (Nat.le_of_ble_eq_true rfl) (isO.n (ci := 2) ⟨rfl, ho0⟩ (hn.trans h3)) h (fun v2 h => ?_)
  refine x_istore_n (L' := [(3, vI v2), (0, vR (some o0)), (1, vR a1), (2, vI x2)]) C dX2_hoursUntil_5 rfl (by decide) rfl ?_
  refine w_iconst C dX2_hoursUntil_6 ⟨by decide, by decide⟩ ?_
  refine x_istore (L' := [(4, vI 1), (3, vI v2), (0, vR (some o0)), (1, vR a1), (2, vI x2)]) C dX2_hoursUntil_7 (by decide) rfl ?_
  refine x_pc (pc2 := 9) rfl ?_
  refine x_pick (L' := [(2, vI x2), (3, vI v2), (4, vI 1)]) [4, 1, 0] rfl ?_
  exact k_X2_hoursUntil_9 C hr h3 hn ho0 hQ  h
set_option maxRecDepth 100000 in
set_option maxHeartbeats 4000000 in
theorem con_X2_hoursUntil (l : Launch) (D : va_G) (cy : Nat → ClassId) : Con l D cy yX2_hoursUntil cX2_hoursUntil 5 (some .int) ({ frames := 4, cells := 0, slots := 0, locals := 85 }) 0 0 SP_X2_hoursUntil := by
  refine con_of (by decide) (fun as M Qp h => ?_) ?_
  · obtain ⟨-, o0, a1, x2, rfl, -⟩ := h
    exact Nat.le_of_ble_eq_true rfl
  · intro p e s m args below meth c G as M Qp h C hr hnm
    obtain ⟨hn, o0, a1, x2, rfl, ho1, ho2, Q0, hQ, h⟩ := h
    refine x_pick (L' := [(0, vR (some o0)), (1, vR a1), (2, vI x2)]) [0, 1, 2] rfl ?_
    exact k_X2_hoursUntil_0 C hr hn rfl ⟨ho1, ho2⟩ hQ h
set_option maxRecDepth 100000 in
set_option maxHeartbeats 4000000 in
theorem cl_X2_hoursUntil {p : Program} {l : Launch} {e : Env} {R : Room} {s : State} {m : MethodId} {args : Array Value} {below : List Frame} {meth : Method} {c : Code} {Q : State → Prop} {cc : ByteArray} {nL : Nat} {own : String} {D : va_G} {cy : Nat → ClassId} {G : Nat × Nat} {n0 pc : Nat} {L : List (Nat × PV)} {st : List PV} {M : Mm} {op : Instr} (K : CallOK l D cy R own op 0 0 (spV 2 2 SP_X2_hoursUntil)) (C : Cx p s m args meth c cc nL own D cy G n0) (hd : decode cc pc = .ok (op, 3)) (hn : M.2.2.2 = n0) (h3 : n0 = 243) (hlen : argN st ≤ 8) {r : Option Nat} {o0 : Nat} (ho : isOn 2 M.2.2.2 r o0) {a1 : Option Nat} {x2 : Int} {Q0 : Int → Prop} (h : P_X2_hoursUntil o0 a1 x2 M Q0) (k : ∀ x, Q0 x → WW p l e R s m args below meth c Q nL D cy G n0  (pc + 3) L (vI x :: st) M) : WW p l e R s m args below meth c Q nL D cy G n0  pc L (vI x2 :: vR a1 :: vR r :: st) M := by
  obtain ⟨rfl, ho1, ho2⟩ := ho
  refine x_call0 K C hd (as := [vR (some o0), vR a1, vI x2]) rfl hn hlen (fun v M2 => ∃ x, v = some (vI x) ∧ M2 = M ∧ Q0 x) ⟨⟨o0, [vR a1, vI x2], rfl, rfl, ho1, ho2⟩, hn.trans h3, o0, a1, x2, rfl, (hn.trans h3) ▸ ho1, ho2, Q0, fun x hx => ⟨x, rfl, rfl, hx⟩, h⟩ ?_
  rintro _ _ ⟨x, rfl, rfl, hx⟩ hm
  exact k x hx
end W_X2_hoursUntil
theorem dX2_greatestHurt_0 : decode cX2_greatestHurt 0 = .ok (.iconst 0, 1) := by decide +kernel
theorem dX2_greatestHurt_1 : decode cX2_greatestHurt 1 = .ok (.istore 4, 2) := by decide +kernel
theorem dX2_greatestHurt_3 : decode cX2_greatestHurt 3 = .ok (.iconst 0, 1) := by decide +kernel
theorem dX2_greatestHurt_4 : decode cX2_greatestHurt 4 = .ok (.istore 5, 2) := by decide +kernel
theorem dX2_greatestHurt_6 : decode cX2_greatestHurt 6 = .ok (.iconst 1, 1) := by decide +kernel
theorem dX2_greatestHurt_7 : decode cX2_greatestHurt 7 = .ok (.istore 6, 2) := by decide +kernel
theorem dX2_greatestHurt_9 : decode cX2_greatestHurt 9 = .ok (.iload 6, 2) := by decide +kernel
theorem dX2_greatestHurt_11 : decode cX2_greatestHurt 11 = .ok (.iload_n 2, 1) := by decide +kernel
theorem dX2_greatestHurt_12 : decode cX2_greatestHurt 12 = .ok (.if_icmp .gt 70, 3) := by decide +kernel
theorem dX2_greatestHurt_15 : decode cX2_greatestHurt 15 = .ok (.iload 4, 2) := by decide +kernel
theorem dX2_greatestHurt_17 : decode cX2_greatestHurt 17 = .ok (.iload_n 1, 1) := by decide +kernel
theorem dX2_greatestHurt_18 : decode cX2_greatestHurt 18 = .ok (.iadd, 1) := by decide +kernel
theorem dX2_greatestHurt_19 : decode cX2_greatestHurt 19 = .ok (.istore 4, 2) := by decide +kernel
theorem dX2_greatestHurt_21 : decode cX2_greatestHurt 21 = .ok (.iload 5, 2) := by decide +kernel
theorem dX2_greatestHurt_23 : decode cX2_greatestHurt 23 = .ok (.iload 4, 2) := by decide +kernel
theorem dX2_greatestHurt_25 : decode cX2_greatestHurt 25 = .ok (.invokestatic 35, 3) := by decide +kernel
theorem dX2_greatestHurt_28 : decode cX2_greatestHurt 28 = .ok (.istore 5, 2) := by decide +kernel
theorem dX2_greatestHurt_30 : decode cX2_greatestHurt 30 = .ok (.iconst 0, 1) := by decide +kernel
theorem dX2_greatestHurt_31 : decode cX2_greatestHurt 31 = .ok (.istore 7, 2) := by decide +kernel
theorem dX2_greatestHurt_33 : decode cX2_greatestHurt 33 = .ok (.iload 7, 2) := by decide +kernel
theorem dX2_greatestHurt_35 : decode cX2_greatestHurt 35 = .ok (.iload_n 3, 1) := by decide +kernel
theorem dX2_greatestHurt_36 : decode cX2_greatestHurt 36 = .ok (.if_icmp .ge 40, 3) := by decide +kernel
theorem dX2_greatestHurt_39 : decode cX2_greatestHurt 39 = .ok (.iload 7, 2) := by decide +kernel
theorem dX2_greatestHurt_41 : decode cX2_greatestHurt 41 = .ok (.iconst 3, 1) := by decide +kernel
theorem dX2_greatestHurt_42 : decode cX2_greatestHurt 42 = .ok (.if_icmp .ge 34, 3) := by decide +kernel
theorem dX2_greatestHurt_45 : decode cX2_greatestHurt 45 = .ok (.aload_n 0, 1) := by decide +kernel
theorem dX2_greatestHurt_46 : decode cX2_greatestHurt 46 = .ok (.getfield 18, 3) := by decide +kernel
theorem dX2_greatestHurt_49 : decode cX2_greatestHurt 49 = .ok (.iload 7, 2) := by decide +kernel
theorem dX2_greatestHurt_51 : decode cX2_greatestHurt 51 = .ok (.iaload, 1) := by decide +kernel
theorem dX2_greatestHurt_52 : decode cX2_greatestHurt 52 = .ok (.iload 6, 2) := by decide +kernel
theorem dX2_greatestHurt_54 : decode cX2_greatestHurt 54 = .ok (.if_icmp .ne 16, 3) := by decide +kernel
theorem dX2_greatestHurt_57 : decode cX2_greatestHurt 57 = .ok (.iconst 0, 1) := by decide +kernel
theorem dX2_greatestHurt_58 : decode cX2_greatestHurt 58 = .ok (.iload 4, 2) := by decide +kernel
theorem dX2_greatestHurt_60 : decode cX2_greatestHurt 60 = .ok (.aload_n 0, 1) := by decide +kernel
theorem dX2_greatestHurt_61 : decode cX2_greatestHurt 61 = .ok (.getfield 15, 3) := by decide +kernel
theorem dX2_greatestHurt_64 : decode cX2_greatestHurt 64 = .ok (.isub, 1) := by decide +kernel
theorem dX2_greatestHurt_65 : decode cX2_greatestHurt 65 = .ok (.invokestatic 35, 3) := by decide +kernel
theorem dX2_greatestHurt_68 : decode cX2_greatestHurt 68 = .ok (.istore 4, 2) := by decide +kernel
theorem dX2_greatestHurt_70 : decode cX2_greatestHurt 70 = .ok (.iinc 7 1, 3) := by decide +kernel
theorem dX2_greatestHurt_73 : decode cX2_greatestHurt 73 = .ok (.goto (-40), 3) := by decide +kernel
theorem dX2_greatestHurt_76 : decode cX2_greatestHurt 76 = .ok (.iinc 6 1, 3) := by decide +kernel
theorem dX2_greatestHurt_79 : decode cX2_greatestHurt 79 = .ok (.goto (-70), 3) := by decide +kernel
theorem dX2_greatestHurt_82 : decode cX2_greatestHurt 82 = .ok (.iload 5, 2) := by decide +kernel
theorem dX2_greatestHurt_84 : decode cX2_greatestHurt 84 = .ok (.ireturn, 1) := by decide +kernel
theorem fw_X2_18 : fR RX2 18 2 2 := ⟨⟨lwG_2 (i := 19) rfl rfl, by decide, by decide⟩, fun _ _ => rfl, fun r => ⟨r, rfl⟩⟩
theorem fw_X2_15 : fI RX2 15 2 1 := ⟨⟨lwG_2 (i := 17) rfl rfl, by decide, by decide⟩, rfl⟩
section W_X2_greatestHurt
variable {p : Program} {l : Launch} {e : Env} {s : State} {m : MethodId} {args : Array Value} {below : List Frame} {meth : Method} {c : Code} {D : va_G} {cy : Nat → ClassId} {G : Nat × Nat} {n0 : Nat} {Qp : Option PV → Mm → Prop}
set_option maxRecDepth 100000 in
set_option maxHeartbeats 4000000 in
theorem f_X2_greatestHurt_33 {o0 : Nat} {x1 : Int} {x2 : Int} {x3 : Int} {x4 : Int} {x5 : Int} {x6 : Int} {x7 : Int} {M : Mm} {Q : Int → Prop} {K9 : Int × Int × Int → Prop} {K33 : Int × Int → Prop} (C : Cx p s m args meth c cX2_greatestHurt 8 RX2 D cy G n0) (hr : meth.sig.returnType = some .int) (h3 : n0 = 243) (hn : M.2.2.2 = n0) (ho0 : o0 < 243 ∧ (SH o0).1 = 2) (hQ : ∀ x, Q x → Qp (some (vI x)) M) (hK9 : ∀ (x4 : Int) (x5 : Int) (x6 : Int), K9 (x4, x5, x6) → WW p l e ({ frames := 1, cells := 0, slots := 0, locals := 21 }) s m args below meth c (ZQ below args s D cy G n0 Qp n0) 8 D cy G n0 9 [(0, vR (some o0)), (1, vI x1), (2, vI x2), (3, vI x3), (4, vI x4), (5, vI x5), (6, vI x6)] [] M) (hK33 : ∀ (x4 : Int) (x7 : Int), K33 (x4, x7) → WW p l e ({ frames := 1, cells := 0, slots := 0, locals := 21 }) s m args below meth c (ZQ below args s D cy G n0 Qp n0) 8 D cy G n0 33 [(0, vR (some o0)), (1, vI x1), (2, vI x2), (3, vI x3), (4, vI x4), (5, vI x5), (6, vI x6), (7, vI x7)] [] M) (h : F_X2_greatestHurt_33 o0 x1 x2 x3 x5 x6 M Q K9 K33 x4 x7) : WW p l e ({ frames := 1, cells := 0, slots := 0, locals := 21 }) s m args below meth c (ZQ below args s D cy G n0 Qp n0) 8 D cy G n0 33 [(0, vR (some o0)), (1, vI x1), (2, vI x2), (3, vI x3), (4, vI x4), (5, vI x5), (6, vI x6), (7, vI x7)] [] M := by
  unfold F_X2_greatestHurt_33 at h
  refine w_iload C dX2_greatestHurt_33 (mem_k 7 rfl) ?_
  refine w_iload_n C dX2_greatestHurt_35 rfl (mem_k 3 rfl) ?_
  refine w_icmp_ge (tgt := 76) C dX2_greatestHurt_36 (by decide) (fun q => ?_) (fun q => ?_)
  · replace h := h.1 q
    obtain ⟨v1, ev1⟩ : ∃ z : Int, z = x6 + 1 := ⟨_, rfl⟩
    refine x_iinc (L' := [(6, vI v1), (0, vR (some o0)), (1, vI x1), (2, vI x2), (3, vI x3), (4, vI x4), (5, vI x5), (7, vI x7)]) C dX2_greatestHurt_76 (mem_k 6 rfl) (by decide) h.1 ev1 rfl ?_
    replace h := h.2 v1 ev1
    refine w_goto (tgt := 9) C dX2_greatestHurt_79 (by decide) ?_
    refine x_pc (pc2 := 9) rfl ?_
    refine x_pick (L' := [(0, vR (some o0)), (1, vI x1), (2, vI x2), (3, vI x3), (4, vI x4), (5, vI x5), (6, vI v1)]) [1, 2, 3, 4, 5, 6, 0] rfl ?_
    exact hK9 x4 x5 v1 h
  · replace h := h.2 q
    refine w_iload C dX2_greatestHurt_39 (mem_k 7 rfl) ?_
    refine w_iconst C dX2_greatestHurt_41 ⟨by decide, by decide⟩ ?_
    refine w_icmp_ge (tgt := 76) C dX2_greatestHurt_42 (by decide) (fun q => ?_) (fun q => ?_)
    · replace h := h.1 q
      obtain ⟨v2, ev2⟩ : ∃ z : Int, z = x6 + 1 := ⟨_, rfl⟩
      refine x_iinc (L' := [(6, vI v2), (0, vR (some o0)), (1, vI x1), (2, vI x2), (3, vI x3), (4, vI x4), (5, vI x5), (7, vI x7)]) C dX2_greatestHurt_76 (mem_k 6 rfl) (by decide) h.1 ev2 rfl ?_
      replace h := h.2 v2 ev2
      refine w_goto (tgt := 9) C dX2_greatestHurt_79 (by decide) ?_
      refine x_pc (pc2 := 9) rfl ?_
      refine x_pick (L' := [(0, vR (some o0)), (1, vI x1), (2, vI x2), (3, vI x3), (4, vI x4), (5, vI x5), (6, vI v2)]) [1, 2, 3, 4, 5, 6, 0] rfl ?_
      exact hK9 x4 x5 v2 h
    · replace h := h.2 q
      refine w_aload_n C dX2_greatestHurt_45 rfl (mem_k 0 rfl) ?_
      refine x_getR C dX2_greatestHurt_46 fw_X2_18 (isO.n (ci := 2) ⟨rfl, ho0⟩ (hn.trans h3)) (fun r3 er3 => ?_)
      replace h := h r3 er3
      refine w_iload C dX2_greatestHurt_49 (mem_k 7 rfl) ?_
      obtain ⟨o4, g5, h⟩ := h
      refine x_iald C dX2_greatestHurt_51 (isA.n g5 (hn.trans h3)) ?_
      refine w_iload C dX2_greatestHurt_52 (mem_k 6 rfl) ?_
      refine w_icmp_ne (tgt := 70) C dX2_greatestHurt_54 (by decide) (fun q => ?_) (fun q => ?_)
      · replace h := h.1 q
        obtain ⟨v6, ev6⟩ : ∃ z : Int, z = x7 + 1 := ⟨_, rfl⟩
        refine x_iinc (L' := [(7, vI v6), (0, vR (some o0)), (1, vI x1), (2, vI x2), (3, vI x3), (4, vI x4), (5, vI x5), (6, vI x6)]) C dX2_greatestHurt_70 (mem_k 7 rfl) (by decide) h.1 ev6 rfl ?_
        replace h := h.2 v6 ev6
        refine w_goto (tgt := 33) C dX2_greatestHurt_73 (by decide) ?_
        refine x_pc (pc2 := 33) rfl ?_
        refine x_pick (L' := [(0, vR (some o0)), (1, vI x1), (2, vI x2), (3, vI x3), (4, vI x4), (5, vI x5), (6, vI x6), (7, vI v6)]) [1, 2, 3, 4, 5, 6, 7, 0] rfl ?_
        exact hK33 x4 v6 h
      · replace h := h.2 q
        refine w_iconst C dX2_greatestHurt_57 ⟨by decide, by decide⟩ ?_
        refine w_iload C dX2_greatestHurt_58 (mem_k 4 rfl) ?_
        refine w_aload_n C dX2_greatestHurt_60 rfl (mem_k 0 rfl) ?_
        refine x_getI C dX2_greatestHurt_61 fw_X2_15 (isO.n (ci := 2) ⟨rfl, ho0⟩ (hn.trans h3)) ?_
        refine w_isub C dX2_greatestHurt_64 h.1 ?_
        replace h := h.2
        refine x_max C dX2_greatestHurt_65 hn mt_X2_35 (Nat.le_of_ble_eq_true rfl) ⟨by decide, by decide⟩ ?_
        refine x_nmI (fun v7 ev7 => ?_)
        replace h := h v7 ev7
        refine x_istore (L' := [(4, vI v7), (0, vR (some o0)), (1, vI x1), (2, vI x2), (3, vI x3), (5, vI x5), (6, vI x6), (7, vI x7)]) C dX2_greatestHurt_68 (by decide) rfl ?_
        obtain ⟨v8, ev8⟩ : ∃ z : Int, z = x7 + 1 := ⟨_, rfl⟩
        refine x_iinc (L' := [(7, vI v8), (4, vI v7), (0, vR (some o0)), (1, vI x1), (2, vI x2), (3, vI x3), (5, vI x5), (6, vI x6)]) C dX2_greatestHurt_70 (mem_k 7 rfl) (by decide) h.1 ev8 rfl ?_
        replace h := h.2 v8 ev8
        refine w_goto (tgt := 33) C dX2_greatestHurt_73 (by decide) ?_
        refine x_pc (pc2 := 33) rfl ?_
        refine x_pick (L' := [(0, vR (some o0)), (1, vI x1), (2, vI x2), (3, vI x3), (4, vI v7), (5, vI x5), (6, vI x6), (7, vI v8)]) [2, 3, 4, 5, 1, 6, 7, 0] rfl ?_
        exact hK33 v7 v8 h
set_option maxRecDepth 100000 in
set_option maxHeartbeats 4000000 in
theorem k_X2_greatestHurt_33 {o0 : Nat} {x1 : Int} {x2 : Int} {x3 : Int} {x4 : Int} {x5 : Int} {x6 : Int} {x7 : Int} {M : Mm} {Q : Int → Prop} {K9 : Int × Int × Int → Prop} (C : Cx p s m args meth c cX2_greatestHurt 8 RX2 D cy G n0) (hr : meth.sig.returnType = some .int) (h3 : n0 = 243) (hn : M.2.2.2 = n0) (ho0 : o0 < 243 ∧ (SH o0).1 = 2) (hQ : ∀ x, Q x → Qp (some (vI x)) M) (hK9 : ∀ (x4 : Int) (x5 : Int) (x6 : Int), K9 (x4, x5, x6) → WW p l e ({ frames := 1, cells := 0, slots := 0, locals := 21 }) s m args below meth c (ZQ below args s D cy G n0 Qp n0) 8 D cy G n0 9 [(0, vR (some o0)), (1, vI x1), (2, vI x2), (3, vI x3), (4, vI x4), (5, vI x5), (6, vI x6)] [] M) (h : P_X2_greatestHurt_33 o0 x1 x2 x3 x4 x5 x6 x7 M Q K9) : WW p l e ({ frames := 1, cells := 0, slots := 0, locals := 21 }) s m args below meth c (ZQ below args s D cy G n0 Qp n0) 8 D cy G n0 33 [(0, vR (some o0)), (1, vI x1), (2, vI x2), (3, vI x3), (4, vI x4), (5, vI x5), (6, vI x6), (7, vI x7)] [] M := by
  refine lpW_sound (P := fun y : Int × Int => WW p l e ({ frames := 1, cells := 0, slots := 0, locals := 21 }) s m args below meth c (ZQ below args s D cy G n0 Qp n0) 8 D cy G n0 33 [(0, vR (some o0)), (1, vI x1), (2, vI x2), (3, vI x3), (4, vI y.1), (5, vI x5), (6, vI x6), (7, vI y.2)] [] M) ?_ h
  intro K y hK hF
  obtain ⟨x4, x7⟩ := y
  exact f_X2_greatestHurt_33 C hr h3 hn ho0 hQ hK9 (fun x4 x7 hk => hK (x4, x7) hk) hF
set_option maxRecDepth 100000 in
set_option maxHeartbeats 4000000 in
theorem f_X2_greatestHurt_9 {o0 : Nat} {x1 : Int} {x2 : Int} {x3 : Int} {x4 : Int} {x5 : Int} {x6 : Int} {M : Mm} {Q : Int → Prop} {K9 : Int × Int × Int → Prop} (C : Cx p s m args meth c cX2_greatestHurt 8 RX2 D cy G n0) (hr : meth.sig.returnType = some .int) (h3 : n0 = 243) (hn : M.2.2.2 = n0) (ho0 : o0 < 243 ∧ (SH o0).1 = 2) (hQ : ∀ x, Q x → Qp (some (vI x)) M) (hK9 : ∀ (x4 : Int) (x5 : Int) (x6 : Int), K9 (x4, x5, x6) → WW p l e ({ frames := 1, cells := 0, slots := 0, locals := 21 }) s m args below meth c (ZQ below args s D cy G n0 Qp n0) 8 D cy G n0 9 [(0, vR (some o0)), (1, vI x1), (2, vI x2), (3, vI x3), (4, vI x4), (5, vI x5), (6, vI x6)] [] M) (h : F_X2_greatestHurt_9 o0 x1 x2 x3 M Q  K9 x4 x5 x6) : WW p l e ({ frames := 1, cells := 0, slots := 0, locals := 21 }) s m args below meth c (ZQ below args s D cy G n0 Qp n0) 8 D cy G n0 9 [(0, vR (some o0)), (1, vI x1), (2, vI x2), (3, vI x3), (4, vI x4), (5, vI x5), (6, vI x6)] [] M := by
  unfold F_X2_greatestHurt_9 at h
  refine w_iload C dX2_greatestHurt_9 (mem_k 6 rfl) ?_
  refine w_iload_n C dX2_greatestHurt_11 rfl (mem_k 2 rfl) ?_
  refine w_icmp_gt (tgt := 82) C dX2_greatestHurt_12 (by decide) (fun q => ?_) (fun q => ?_)
  · replace h := h.1 q
    refine w_iload C dX2_greatestHurt_82 (mem_k 5 rfl) ?_
    exact x_iret C hr dX2_greatestHurt_84 hn (hQ _ h)
  · replace h := h.2 q
    refine w_iload C dX2_greatestHurt_15 (mem_k 4 rfl) ?_
    refine w_iload_n C dX2_greatestHurt_17 rfl (mem_k 1 rfl) ?_
    refine w_iadd C dX2_greatestHurt_18 h.1 ?_
    replace h := h.2
    refine x_nmI (fun v9 ev9 => ?_)
    replace h := h v9 ev9
    refine x_istore (L' := [(4, vI v9), (0, vR (some o0)), (1, vI x1), (2, vI x2), (3, vI x3), (5, vI x5), (6, vI x6)]) C dX2_greatestHurt_19 (by decide) rfl ?_
    refine w_iload C dX2_greatestHurt_21 (mem_k 5 rfl) ?_
    refine w_iload C dX2_greatestHurt_23 (mem_k 0 rfl) ?_
    refine x_max C dX2_greatestHurt_25 hn mt_X2_35 (Nat.le_of_ble_eq_true rfl) ⟨by decide, by decide⟩ ?_
    refine x_nmI (fun v10 ev10 => ?_)
    replace h := h v10 ev10
    refine x_istore (L' := [(5, vI v10), (4, vI v9), (0, vR (some o0)), (1, vI x1), (2, vI x2), (3, vI x3), (6, vI x6)]) C dX2_greatestHurt_28 (by decide) rfl ?_
    refine w_iconst C dX2_greatestHurt_30 ⟨by decide, by decide⟩ ?_
    refine x_istore (L' := [(7, vI 0), (5, vI v10), (4, vI v9), (0, vR (some o0)), (1, vI x1), (2, vI x2), (3, vI x3), (6, vI x6)]) C dX2_greatestHurt_31 (by decide) rfl ?_
    refine x_pc (pc2 := 33) rfl ?_
    refine x_pick (L' := [(0, vR (some o0)), (1, vI x1), (2, vI x2), (3, vI x3), (4, vI v9), (5, vI v10), (6, vI x6), (7, vI 0)]) [3, 4, 5, 6, 2, 1, 7, 0] rfl ?_
    exact k_X2_greatestHurt_33 C hr h3 hn ho0 hQ hK9 h
set_option maxRecDepth 100000 in
set_option maxHeartbeats 4000000 in
theorem k_X2_greatestHurt_9 {o0 : Nat} {x1 : Int} {x2 : Int} {x3 : Int} {x4 : Int} {x5 : Int} {x6 : Int} {M : Mm} {Q : Int → Prop} (C : Cx p s m args meth c cX2_greatestHurt 8 RX2 D cy G n0) (hr : meth.sig.returnType = some .int) (h3 : n0 = 243) (hn : M.2.2.2 = n0) (ho0 : o0 < 243 ∧ (SH o0).1 = 2) (hQ : ∀ x, Q x → Qp (some (vI x)) M) (h : P_X2_greatestHurt_9 o0 x1 x2 x3 x4 x5 x6 M Q ) : WW p l e ({ frames := 1, cells := 0, slots := 0, locals := 21 }) s m args below meth c (ZQ below args s D cy G n0 Qp n0) 8 D cy G n0 9 [(0, vR (some o0)), (1, vI x1), (2, vI x2), (3, vI x3), (4, vI x4), (5, vI x5), (6, vI x6)] [] M := by
  refine lpW_sound (P := fun y : Int × Int × Int => WW p l e ({ frames := 1, cells := 0, slots := 0, locals := 21 }) s m args below meth c (ZQ below args s D cy G n0 Qp n0) 8 D cy G n0 9 [(0, vR (some o0)), (1, vI x1), (2, vI x2), (3, vI x3), (4, vI y.1), (5, vI y.2.1), (6, vI y.2.2)] [] M) ?_ h
  intro K y hK hF
  obtain ⟨x4, x5, x6⟩ := y
  exact f_X2_greatestHurt_9 C hr h3 hn ho0 hQ  (fun x4 x5 x6 hk => hK (x4, x5, x6) hk) hF
set_option maxRecDepth 100000 in
set_option maxHeartbeats 4000000 in
theorem k_X2_greatestHurt_0 {o0 : Nat} {x1 : Int} {x2 : Int} {x3 : Int} {M : Mm} {Q : Int → Prop} (C : Cx p s m args meth c cX2_greatestHurt 8 RX2 D cy G n0) (hr : meth.sig.returnType = some .int) (h3 : n0 = 243) (hn : M.2.2.2 = n0) (ho0 : o0 < 243 ∧ (SH o0).1 = 2) (hQ : ∀ x, Q x → Qp (some (vI x)) M) (h : P_X2_greatestHurt o0 x1 x2 x3 M Q ) : WW p l e ({ frames := 1, cells := 0, slots := 0, locals := 21 }) s m args below meth c (ZQ below args s D cy G n0 Qp n0) 8 D cy G n0 0 [(0, vR (some o0)), (1, vI x1), (2, vI x2), (3, vI x3)] [] M := by
  unfold P_X2_greatestHurt at h
  refine w_iconst C dX2_greatestHurt_0 ⟨by decide, by decide⟩ ?_
  refine x_istore (L' := [(4, vI 0), (0, vR (some o0)), (1, vI x1), (2, vI x2), (3, vI x3)]) C dX2_greatestHurt_1 (by decide) rfl ?_
  refine w_iconst C dX2_greatestHurt_3 ⟨by decide, by decide⟩ ?_
  refine x_istore (L' := [(5, vI 0), (4, vI 0), (0, vR (some o0)), (1, vI x1), (2, vI x2), (3, vI x3)]) C dX2_greatestHurt_4 (by decide) rfl ?_
  refine w_iconst C dX2_greatestHurt_6 ⟨by decide, by decide⟩ ?_
  refine x_istore (L' := [(6, vI 1), (5, vI 0), (4, vI 0), (0, vR (some o0)), (1, vI x1), (2, vI x2), (3, vI x3)]) C dX2_greatestHurt_7 (by decide) rfl ?_
  refine x_pc (pc2 := 9) rfl ?_
  refine x_pick (L' := [(0, vR (some o0)), (1, vI x1), (2, vI x2), (3, vI x3), (4, vI 0), (5, vI 0), (6, vI 1)]) [3, 4, 5, 6, 2, 1, 0] rfl ?_
  exact k_X2_greatestHurt_9 C hr h3 hn ho0 hQ  h
set_option maxRecDepth 100000 in
set_option maxHeartbeats 4000000 in
theorem con_X2_greatestHurt (l : Launch) (D : va_G) (cy : Nat → ClassId) : Con l D cy yX2_greatestHurt cX2_greatestHurt 8 (some .int) ({ frames := 1, cells := 0, slots := 0, locals := 21 }) 0 0 SP_X2_greatestHurt := by
  refine con_of (by decide) (fun as M Qp h => ?_) ?_
  · obtain ⟨-, o0, x1, x2, x3, rfl, -⟩ := h
    exact Nat.le_of_ble_eq_true rfl
  · intro p e s m args below meth c G as M Qp h C hr hnm
    obtain ⟨hn, o0, x1, x2, x3, rfl, ho1, ho2, Q0, hQ, h⟩ := h
    refine x_pick (L' := [(0, vR (some o0)), (1, vI x1), (2, vI x2), (3, vI x3)]) [0, 1, 2, 3] rfl ?_
    exact k_X2_greatestHurt_0 C hr hn rfl ⟨ho1, ho2⟩ hQ h
set_option maxRecDepth 100000 in
set_option maxHeartbeats 4000000 in
theorem cl_X2_greatestHurt {p : Program} {l : Launch} {e : Env} {R : Room} {s : State} {m : MethodId} {args : Array Value} {below : List Frame} {meth : Method} {c : Code} {Q : State → Prop} {cc : ByteArray} {nL : Nat} {own : String} {D : va_G} {cy : Nat → ClassId} {G : Nat × Nat} {n0 pc : Nat} {L : List (Nat × PV)} {st : List PV} {M : Mm} {op : Instr} (K : CallOK l D cy R own op 0 0 (spV 2 3 SP_X2_greatestHurt)) (C : Cx p s m args meth c cc nL own D cy G n0) (hd : decode cc pc = .ok (op, 3)) (hn : M.2.2.2 = n0) (h3 : n0 = 243) (hlen : argN st ≤ 8) {r : Option Nat} {o0 : Nat} (ho : isOn 2 M.2.2.2 r o0) {x1 : Int} {x2 : Int} {x3 : Int} {Q0 : Int → Prop} (h : P_X2_greatestHurt o0 x1 x2 x3 M Q0) (k : ∀ x, Q0 x → WW p l e R s m args below meth c Q nL D cy G n0  (pc + 3) L (vI x :: st) M) : WW p l e R s m args below meth c Q nL D cy G n0  pc L (vI x3 :: vI x2 :: vI x1 :: vR r :: st) M := by
  obtain ⟨rfl, ho1, ho2⟩ := ho
  refine x_call0 K C hd (as := [vR (some o0), vI x1, vI x2, vI x3]) rfl hn hlen (fun v M2 => ∃ x, v = some (vI x) ∧ M2 = M ∧ Q0 x) ⟨⟨o0, [vI x1, vI x2, vI x3], rfl, rfl, ho1, ho2⟩, hn.trans h3, o0, x1, x2, x3, rfl, (hn.trans h3) ▸ ho1, ho2, Q0, fun x hx => ⟨x, rfl, rfl, hx⟩, h⟩ ?_
  rintro _ _ ⟨x, rfl, rfl, hx⟩ hm
  exact k x hx
end W_X2_greatestHurt
