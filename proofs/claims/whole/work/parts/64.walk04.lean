/-! seats: pure predicates, decode rows, walks, contracts; by program (wip/gen/walk.py) -/
theorem dX7_toneOf_0 : decode cX7_toneOf 0 = .ok (.iload_n 1, 1) := by decide +kernel
theorem dX7_toneOf_1 : decode cX7_toneOf 1 = .ok (.invokestatic 15, 3) := by decide +kernel
theorem dX7_toneOf_4 : decode cX7_toneOf 4 = .ok (.ifCond .eq 23, 3) := by decide +kernel
theorem dX7_toneOf_7 : decode cX7_toneOf 7 = .ok (.iload_n 2, 1) := by decide +kernel
theorem dX7_toneOf_8 : decode cX7_toneOf 8 = .ok (.invokestatic 19, 3) := by decide +kernel
theorem dX7_toneOf_11 : decode cX7_toneOf 11 = .ok (.ifCond .eq 16, 3) := by decide +kernel
theorem dX7_toneOf_14 : decode cX7_toneOf 14 = .ok (.aload_n 0, 1) := by decide +kernel
theorem dX7_toneOf_15 : decode cX7_toneOf 15 = .ok (.getfield 9, 3) := by decide +kernel
theorem dX7_toneOf_18 : decode cX7_toneOf 18 = .ok (.iload_n 1, 1) := by decide +kernel
theorem dX7_toneOf_19 : decode cX7_toneOf 19 = .ok (.iconst 4, 1) := by decide +kernel
theorem dX7_toneOf_20 : decode cX7_toneOf 20 = .ok (.imul, 1) := by decide +kernel
theorem dX7_toneOf_21 : decode cX7_toneOf 21 = .ok (.iload_n 2, 1) := by decide +kernel
theorem dX7_toneOf_22 : decode cX7_toneOf 22 = .ok (.iadd, 1) := by decide +kernel
theorem dX7_toneOf_23 : decode cX7_toneOf 23 = .ok (.iaload, 1) := by decide +kernel
theorem dX7_toneOf_24 : decode cX7_toneOf 24 = .ok (.goto 4, 3) := by decide +kernel
theorem dX7_toneOf_27 : decode cX7_toneOf 27 = .ok (.iconst 0, 1) := by decide +kernel
theorem dX7_toneOf_28 : decode cX7_toneOf 28 = .ok (.ireturn, 1) := by decide +kernel
theorem ck_X7_15 {l : Launch} {D : va_G} {cy : Nat → ClassId} {R : Room} (hR : 2 ≤ R.frames ∧ 42 ≤ R.locals) : CallOK l D cy R RX7 (.invokestatic 15) 0 0 (spS 1 SP_X11_isRoad) := call_SN (con_X11_isRoad l D cy) (List.mem_append_right _ (List.mem_append_right _ (List.mem_append_right _ (List.mem_append_left _ (List.mem_of_getElem? (i := 171) rfl))))) (lwG_3 (i := 162) rfl rfl) (lwG_1 (i := 1) rfl rfl) (lwG_3 (i := 163) rfl rfl) ⟨by decide, by decide, rfl⟩ ⟨rfl, rfl⟩ hR
theorem ck_X7_19 {l : Launch} {D : va_G} {cy : Nat → ClassId} {R : Room} (hR : 2 ≤ R.frames ∧ 42 ≤ R.locals) : CallOK l D cy R RX7 (.invokestatic 19) 0 0 (spS 1 SP_X11_isTone) := call_SN (con_X11_isTone l D cy) (List.mem_append_right _ (List.mem_append_right _ (List.mem_append_right _ (List.mem_append_left _ (List.mem_of_getElem? (i := 172) rfl))))) (lwG_3 (i := 165) rfl rfl) (lwG_1 (i := 1) rfl rfl) (lwG_3 (i := 166) rfl rfl) ⟨by decide, by decide, rfl⟩ ⟨rfl, rfl⟩ hR
theorem fw_X7_9 : fR RX7 9 7 0 := ⟨⟨lwG_2 (i := 36) rfl rfl, by decide, by decide⟩, fun _ _ => rfl, fun r => ⟨r, rfl⟩⟩
section W_X7_toneOf
variable {p : Program} {l : Launch} {e : Env} {s : State} {m : MethodId} {args : Array Value} {below : List Frame} {meth : Method} {c : Code} {D : va_G} {cy : Nat → ClassId} {G : Nat × Nat} {n0 : Nat} {Qp : Option PV → Mm → Prop}
set_option maxRecDepth 100000 in
set_option maxHeartbeats 4000000 in
theorem k_X7_toneOf_0 {o0 : Nat} {x1 : Int} {x2 : Int} {M : Mm} {Q : Int → Prop} (C : Cx p s m args meth c cX7_toneOf 3 RX7 D cy G n0) (hr : meth.sig.returnType = some .int) (h3 : n0 = 243) (hn : M.2.2.2 = n0) (ho0 : o0 < 243 ∧ (SH o0).1 = 7) (hQ : ∀ x, Q x → Qp (some (vI x)) M) (h : P_X7_toneOf o0 x1 x2 M Q ) : WW p l e ({ frames := 2, cells := 0, slots := 0, locals := 42 }) s m args below meth c (ZQ below args s D cy G n0 Qp n0) 3 D cy G n0 0 [(0, vR (some o0)), (1, vI x1), (2, vI x2)] [] M := by
  unfold P_X7_toneOf at h
  refine w_iload_n C dX7_toneOf_0 rfl (mem_k 1 rfl) ?_
  refine cl_X11_isRoad (ck_X7_15 ⟨by decide, by decide⟩) C dX7_toneOf_1 hn h3 (Nat.le_of_ble_eq_true rfl) h (fun v1 h => ?_)
  refine w_if_eq (tgt := 27) C dX7_toneOf_4 (by decide) (fun q => ?_) (fun q => ?_)
  · replace h := h.1 q
    refine w_iconst C dX7_toneOf_27 ⟨by decide, by decide⟩ ?_
    exact x_iret C hr dX7_toneOf_28 hn (hQ _ h)
  · replace h := h.2 q
    refine w_iload_n C dX7_toneOf_7 rfl (mem_k 2 rfl) ?_
    refine cl_X11_isTone (ck_X7_19 ⟨by decide, by decide⟩) C dX7_toneOf_8 hn h3 (Nat.le_of_ble_eq_true rfl) h (fun v2 h => ?_)
    refine w_if_eq (tgt := 27) C dX7_toneOf_11 (by decide) (fun q => ?_) (fun q => ?_)
    · replace h := h.1 q
      refine w_iconst C dX7_toneOf_27 ⟨by decide, by decide⟩ ?_
      exact x_iret C hr dX7_toneOf_28 hn (hQ _ h)
    · replace h := h.2 q
      refine w_aload_n C dX7_toneOf_14 rfl (mem_k 0 rfl) ?_
      refine x_getR C dX7_toneOf_15 fw_X7_9 (isO.n (ci := 7) ⟨rfl, ho0⟩ (hn.trans h3)) (fun r3 er3 => ?_)
      replace h := h r3 er3
      refine w_iload_n C dX7_toneOf_18 rfl (mem_k 1 rfl) ?_
      refine w_iconst C dX7_toneOf_19 ⟨by decide, by decide⟩ ?_
      refine w_imul C dX7_toneOf_20 h.1 ?_
      replace h := h.2
      refine w_iload_n C dX7_toneOf_21 rfl (mem_k 2 rfl) ?_
      refine w_iadd C dX7_toneOf_22 h.1 ?_
      replace h := h.2
      obtain ⟨o4, g5, h⟩ := h
      refine x_iald C dX7_toneOf_23 (isA.n g5 (hn.trans h3)) ?_
      refine w_goto (tgt := 28) C dX7_toneOf_24 (by decide) ?_
      exact x_iret C hr dX7_toneOf_28 hn (hQ _ h)
set_option maxRecDepth 100000 in
set_option maxHeartbeats 4000000 in
theorem con_X7_toneOf (l : Launch) (D : va_G) (cy : Nat → ClassId) : Con l D cy yX7_toneOf cX7_toneOf 3 (some .int) ({ frames := 2, cells := 0, slots := 0, locals := 42 }) 0 0 SP_X7_toneOf := by
  refine con_of (by decide) (fun as M Qp h => ?_) ?_
  · obtain ⟨-, o0, x1, x2, rfl, -⟩ := h
    exact Nat.le_of_ble_eq_true rfl
  · intro p e s m args below meth c G as M Qp h C hr hnm
    obtain ⟨hn, o0, x1, x2, rfl, ho1, ho2, Q0, hQ, h⟩ := h
    refine x_pick (L' := [(0, vR (some o0)), (1, vI x1), (2, vI x2)]) [0, 1, 2] rfl ?_
    exact k_X7_toneOf_0 C hr hn rfl ⟨ho1, ho2⟩ hQ h
set_option maxRecDepth 100000 in
set_option maxHeartbeats 4000000 in
theorem cl_X7_toneOf {p : Program} {l : Launch} {e : Env} {R : Room} {s : State} {m : MethodId} {args : Array Value} {below : List Frame} {meth : Method} {c : Code} {Q : State → Prop} {cc : ByteArray} {nL : Nat} {own : String} {D : va_G} {cy : Nat → ClassId} {G : Nat × Nat} {n0 pc : Nat} {L : List (Nat × PV)} {st : List PV} {M : Mm} {op : Instr} (K : CallOK l D cy R own op 0 0 (spV 7 2 SP_X7_toneOf)) (C : Cx p s m args meth c cc nL own D cy G n0) (hd : decode cc pc = .ok (op, 3)) (hn : M.2.2.2 = n0) (h3 : n0 = 243) (hlen : argN st ≤ 8) {r : Option Nat} {o0 : Nat} (ho : isOn 7 M.2.2.2 r o0) {x1 : Int} {x2 : Int} {Q0 : Int → Prop} (h : P_X7_toneOf o0 x1 x2 M Q0) (k : ∀ x, Q0 x → WW p l e R s m args below meth c Q nL D cy G n0  (pc + 3) L (vI x :: st) M) : WW p l e R s m args below meth c Q nL D cy G n0  pc L (vI x2 :: vI x1 :: vR r :: st) M := by
  obtain ⟨rfl, ho1, ho2⟩ := ho
  refine x_call0 K C hd (as := [vR (some o0), vI x1, vI x2]) rfl hn hlen (fun v M2 => ∃ x, v = some (vI x) ∧ M2 = M ∧ Q0 x) ⟨⟨o0, [vI x1, vI x2], rfl, rfl, ho1, ho2⟩, hn.trans h3, o0, x1, x2, rfl, (hn.trans h3) ▸ ho1, ho2, Q0, fun x hx => ⟨x, rfl, rfl, hx⟩, h⟩ ?_
  rintro _ _ ⟨x, rfl, rfl, hx⟩ hm
  exact k x hx
end W_X7_toneOf
theorem dX7_setTone_0 : decode cX7_setTone 0 = .ok (.iload_n 1, 1) := by decide +kernel
theorem dX7_setTone_1 : decode cX7_setTone 1 = .ok (.invokestatic 15, 3) := by decide +kernel
theorem dX7_setTone_4 : decode cX7_setTone 4 = .ok (.ifCond .eq 21, 3) := by decide +kernel
theorem dX7_setTone_7 : decode cX7_setTone 7 = .ok (.iload_n 2, 1) := by decide +kernel
theorem dX7_setTone_8 : decode cX7_setTone 8 = .ok (.invokestatic 19, 3) := by decide +kernel
theorem dX7_setTone_11 : decode cX7_setTone 11 = .ok (.ifCond .eq 14, 3) := by decide +kernel
theorem dX7_setTone_14 : decode cX7_setTone 14 = .ok (.aload_n 0, 1) := by decide +kernel
theorem dX7_setTone_15 : decode cX7_setTone 15 = .ok (.getfield 9, 3) := by decide +kernel
theorem dX7_setTone_18 : decode cX7_setTone 18 = .ok (.iload_n 1, 1) := by decide +kernel
theorem dX7_setTone_19 : decode cX7_setTone 19 = .ok (.iconst 4, 1) := by decide +kernel
theorem dX7_setTone_20 : decode cX7_setTone 20 = .ok (.imul, 1) := by decide +kernel
theorem dX7_setTone_21 : decode cX7_setTone 21 = .ok (.iload_n 2, 1) := by decide +kernel
theorem dX7_setTone_22 : decode cX7_setTone 22 = .ok (.iadd, 1) := by decide +kernel
theorem dX7_setTone_23 : decode cX7_setTone 23 = .ok (.iload_n 3, 1) := by decide +kernel
theorem dX7_setTone_24 : decode cX7_setTone 24 = .ok (.iastore, 1) := by decide +kernel
theorem dX7_setTone_25 : decode cX7_setTone 25 = .ok (.return_, 1) := by decide +kernel
section W_X7_setTone
variable {p : Program} {l : Launch} {e : Env} {s : State} {m : MethodId} {args : Array Value} {below : List Frame} {meth : Method} {c : Code} {D : va_G} {cy : Nat → ClassId} {G : Nat × Nat} {n0 : Nat} {Qp : Option PV → Mm → Prop}
set_option maxRecDepth 100000 in
set_option maxHeartbeats 4000000 in
theorem k_X7_setTone_0 {o0 : Nat} {x1 : Int} {x2 : Int} {x3 : Int} {M : Mm} {Q : Mm → Prop} (C : Cx p s m args meth c cX7_setTone 4 RX7 D cy G n0) (hr : meth.sig.returnType = none) (h3 : n0 = 243) (hn : M.2.2.2 = n0) (ho0 : o0 < 243 ∧ (SH o0).1 = 7) (hQ : ∀ M, Q M → Qp none M) (h : P_X7_setTone o0 x1 x2 x3 M Q ) : WW p l e ({ frames := 2, cells := 0, slots := 0, locals := 42 }) s m args below meth c (ZQ below args s D cy G n0 Qp n0) 4 D cy G n0 0 [(0, vR (some o0)), (1, vI x1), (2, vI x2), (3, vI x3)] [] M := by
  unfold P_X7_setTone at h
  refine w_iload_n C dX7_setTone_0 rfl (mem_k 1 rfl) ?_
  refine cl_X11_isRoad (ck_X7_15 ⟨by decide, by decide⟩) C dX7_setTone_1 hn h3 (Nat.le_of_ble_eq_true rfl) h (fun v1 h => ?_)
  refine w_if_eq (tgt := 25) C dX7_setTone_4 (by decide) (fun q => ?_) (fun q => ?_)
  · replace h := h.1 q
    exact x_vret C hr dX7_setTone_25 hn (hQ M h)
  · replace h := h.2 q
    refine w_iload_n C dX7_setTone_7 rfl (mem_k 2 rfl) ?_
    refine cl_X11_isTone (ck_X7_19 ⟨by decide, by decide⟩) C dX7_setTone_8 hn h3 (Nat.le_of_ble_eq_true rfl) h (fun v2 h => ?_)
    refine w_if_eq (tgt := 25) C dX7_setTone_11 (by decide) (fun q => ?_) (fun q => ?_)
    · replace h := h.1 q
      exact x_vret C hr dX7_setTone_25 hn (hQ M h)
    · replace h := h.2 q
      refine w_aload_n C dX7_setTone_14 rfl (mem_k 0 rfl) ?_
      refine x_getR C dX7_setTone_15 fw_X7_9 (isO.n (ci := 7) ⟨rfl, ho0⟩ (hn.trans h3)) (fun r3 er3 => ?_)
      replace h := h r3 er3
      refine w_iload_n C dX7_setTone_18 rfl (mem_k 1 rfl) ?_
      refine w_iconst C dX7_setTone_19 ⟨by decide, by decide⟩ ?_
      refine w_imul C dX7_setTone_20 h.1 ?_
      replace h := h.2
      refine w_iload_n C dX7_setTone_21 rfl (mem_k 2 rfl) ?_
      refine w_iadd C dX7_setTone_22 h.1 ?_
      replace h := h.2
      refine w_iload_n C dX7_setTone_23 rfl (mem_k 3 rfl) ?_
      obtain ⟨o4, g5, h⟩ := h
      refine x_iast C dX7_setTone_24 (isA.n g5 (hn.trans h3)) (fun M6 eM6 hn7 => ?_)
      replace h := h M6 eM6
      replace hn7 := hn7.trans hn
      exact x_vret C hr dX7_setTone_25 hn7 (hQ M6 h)
set_option maxRecDepth 100000 in
set_option maxHeartbeats 4000000 in
theorem con_X7_setTone (l : Launch) (D : va_G) (cy : Nat → ClassId) : Con l D cy yX7_setTone cX7_setTone 4 (none) ({ frames := 2, cells := 0, slots := 0, locals := 42 }) 0 0 SP_X7_setTone := by
  refine con_of (by decide) (fun as M Qp h => ?_) ?_
  · obtain ⟨-, o0, x1, x2, x3, rfl, -⟩ := h
    exact Nat.le_of_ble_eq_true rfl
  · intro p e s m args below meth c G as M Qp h C hr hnm
    obtain ⟨hn, o0, x1, x2, x3, rfl, ho1, ho2, Q0, hQ, h⟩ := h
    refine x_pick (L' := [(0, vR (some o0)), (1, vI x1), (2, vI x2), (3, vI x3)]) [0, 1, 2, 3] rfl ?_
    exact k_X7_setTone_0 C hr hn rfl ⟨ho1, ho2⟩ hQ h
set_option maxRecDepth 100000 in
set_option maxHeartbeats 4000000 in
theorem cl_X7_setTone {p : Program} {l : Launch} {e : Env} {R : Room} {s : State} {m : MethodId} {args : Array Value} {below : List Frame} {meth : Method} {c : Code} {Q : State → Prop} {cc : ByteArray} {nL : Nat} {own : String} {D : va_G} {cy : Nat → ClassId} {G : Nat × Nat} {n0 pc : Nat} {L : List (Nat × PV)} {st : List PV} {M : Mm} {op : Instr} (K : CallOK l D cy R own op 0 0 (spV 7 3 SP_X7_setTone)) (C : Cx p s m args meth c cc nL own D cy G n0) (hd : decode cc pc = .ok (op, 3)) (hn : M.2.2.2 = n0) (h3 : n0 = 243) (hlen : argN st ≤ 8) {r : Option Nat} {o0 : Nat} (ho : isOn 7 M.2.2.2 r o0) {x1 : Int} {x2 : Int} {x3 : Int} {Q0 : Mm → Prop} (h : P_X7_setTone o0 x1 x2 x3 M Q0) (k : ∀ M2, Q0 M2 → M2.2.2.2 = n0 → WW p l e R s m args below meth c Q nL D cy G n0  (pc + 3) L (st) M2) : WW p l e R s m args below meth c Q nL D cy G n0  pc L (vI x3 :: vI x2 :: vI x1 :: vR r :: st) M := by
  obtain ⟨rfl, ho1, ho2⟩ := ho
  refine x_call0 K C hd (as := [vR (some o0), vI x1, vI x2, vI x3]) rfl hn hlen (fun v M2 => v = none ∧ Q0 M2) ⟨⟨o0, [vI x1, vI x2, vI x3], rfl, rfl, ho1, ho2⟩, hn.trans h3, o0, x1, x2, x3, rfl, (hn.trans h3) ▸ ho1, ho2, Q0, fun M2 hx => ⟨rfl, hx⟩, h⟩ ?_
  rintro _ _ ⟨rfl, hx⟩ hm
  exact k _ hx hm
end W_X7_setTone
theorem dX7_comesThrough_0 : decode cX7_comesThrough 0 = .ok (.iconst 0, 1) := by decide +kernel
theorem dX7_comesThrough_1 : decode cX7_comesThrough 1 = .ok (.istore 4, 2) := by decide +kernel
theorem dX7_comesThrough_3 : decode cX7_comesThrough 3 = .ok (.iconst 0, 1) := by decide +kernel
theorem dX7_comesThrough_4 : decode cX7_comesThrough 4 = .ok (.istore 5, 2) := by decide +kernel
theorem dX7_comesThrough_6 : decode cX7_comesThrough 6 = .ok (.iconst 0, 1) := by decide +kernel
theorem dX7_comesThrough_7 : decode cX7_comesThrough 7 = .ok (.istore 6, 2) := by decide +kernel
theorem dX7_comesThrough_9 : decode cX7_comesThrough 9 = .ok (.iload 6, 2) := by decide +kernel
theorem dX7_comesThrough_11 : decode cX7_comesThrough 11 = .ok (.aload_n 1, 1) := by decide +kernel
theorem dX7_comesThrough_12 : decode cX7_comesThrough 12 = .ok (.invokevirtual 22, 3) := by decide +kernel
theorem dX7_comesThrough_15 : decode cX7_comesThrough 15 = .ok (.if_icmp .ge 39, 3) := by decide +kernel
theorem dX7_comesThrough_18 : decode cX7_comesThrough 18 = .ok (.aload_n 1, 1) := by decide +kernel
theorem dX7_comesThrough_19 : decode cX7_comesThrough 19 = .ok (.iload 6, 2) := by decide +kernel
theorem dX7_comesThrough_21 : decode cX7_comesThrough 21 = .ok (.invokevirtual 28, 3) := by decide +kernel
theorem dX7_comesThrough_24 : decode cX7_comesThrough 24 = .ok (.istore 7, 2) := by decide +kernel
theorem dX7_comesThrough_26 : decode cX7_comesThrough 26 = .ok (.iload 4, 2) := by decide +kernel
theorem dX7_comesThrough_28 : decode cX7_comesThrough 28 = .ok (.aload_n 1, 1) := by decide +kernel
theorem dX7_comesThrough_29 : decode cX7_comesThrough 29 = .ok (.iload 6, 2) := by decide +kernel
theorem dX7_comesThrough_31 : decode cX7_comesThrough 31 = .ok (.iload_n 3, 1) := by decide +kernel
theorem dX7_comesThrough_32 : decode cX7_comesThrough 32 = .ok (.invokevirtual 32, 3) := by decide +kernel
theorem dX7_comesThrough_35 : decode cX7_comesThrough 35 = .ok (.iload 7, 2) := by decide +kernel
theorem dX7_comesThrough_37 : decode cX7_comesThrough 37 = .ok (.imul, 1) := by decide +kernel
theorem dX7_comesThrough_38 : decode cX7_comesThrough 38 = .ok (.iadd, 1) := by decide +kernel
theorem dX7_comesThrough_39 : decode cX7_comesThrough 39 = .ok (.istore 4, 2) := by decide +kernel
theorem dX7_comesThrough_41 : decode cX7_comesThrough 41 = .ok (.iload 5, 2) := by decide +kernel
theorem dX7_comesThrough_43 : decode cX7_comesThrough 43 = .ok (.iload 7, 2) := by decide +kernel
theorem dX7_comesThrough_45 : decode cX7_comesThrough 45 = .ok (.iadd, 1) := by decide +kernel
theorem dX7_comesThrough_46 : decode cX7_comesThrough 46 = .ok (.istore 5, 2) := by decide +kernel
theorem dX7_comesThrough_48 : decode cX7_comesThrough 48 = .ok (.iinc 6 1, 3) := by decide +kernel
theorem dX7_comesThrough_51 : decode cX7_comesThrough 51 = .ok (.goto (-42), 3) := by decide +kernel
theorem dX7_comesThrough_54 : decode cX7_comesThrough 54 = .ok (.iload 5, 2) := by decide +kernel
theorem dX7_comesThrough_56 : decode cX7_comesThrough 56 = .ok (.iconst 1, 1) := by decide +kernel
theorem dX7_comesThrough_57 : decode cX7_comesThrough 57 = .ok (.if_icmp .ge 7, 3) := by decide +kernel
theorem dX7_comesThrough_60 : decode cX7_comesThrough 60 = .ok (.iconst 0, 1) := by decide +kernel
theorem dX7_comesThrough_61 : decode cX7_comesThrough 61 = .ok (.goto 18, 3) := by decide +kernel
theorem dX7_comesThrough_64 : decode cX7_comesThrough 64 = .ok (.iload 4, 2) := by decide +kernel
theorem dX7_comesThrough_66 : decode cX7_comesThrough 66 = .ok (.iload 5, 2) := by decide +kernel
theorem dX7_comesThrough_68 : decode cX7_comesThrough 68 = .ok (.idiv, 1) := by decide +kernel
theorem dX7_comesThrough_69 : decode cX7_comesThrough 69 = .ok (.aload_n 0, 1) := by decide +kernel
theorem dX7_comesThrough_70 : decode cX7_comesThrough 70 = .ok (.iload_n 2, 1) := by decide +kernel
theorem dX7_comesThrough_71 : decode cX7_comesThrough 71 = .ok (.iload_n 3, 1) := by decide +kernel
theorem dX7_comesThrough_72 : decode cX7_comesThrough 72 = .ok (.invokevirtual 36, 3) := by decide +kernel
theorem dX7_comesThrough_75 : decode cX7_comesThrough 75 = .ok (.imul, 1) := by decide +kernel
theorem dX7_comesThrough_76 : decode cX7_comesThrough 76 = .ok (.bipush 100, 2) := by decide +kernel
theorem dX7_comesThrough_78 : decode cX7_comesThrough 78 = .ok (.idiv, 1) := by decide +kernel
theorem dX7_comesThrough_79 : decode cX7_comesThrough 79 = .ok (.ireturn, 1) := by decide +kernel
theorem ck_X7_22 {l : Launch} {D : va_G} {cy : Nat → ClassId} {R : Room} (hR : 1 ≤ R.frames ∧ 20 ≤ R.locals) : CallOK l D cy R RX7 (.invokevirtual 22) 0 0 (spV 6 0 SP_X6_patches) := call_V (ci := 6) (con_X6_patches l D cy) (lwG_3 (i := 185) rfl rfl) (lwG_3 (i := 186) rfl rfl) (lwG_3 (i := 187) rfl rfl) (lwG_1 (i := 9) rfl rfl) (lwG_3 (i := 188) rfl rfl) (by decide) ⟨rfl, by decide, by decide, rfl⟩ ⟨rfl, rfl⟩ hR
theorem ck_X7_36 {l : Launch} {D : va_G} {cy : Nat → ClassId} {R : Room} (hR : 3 ≤ R.frames ∧ 64 ≤ R.locals) : CallOK l D cy R RX7 (.invokevirtual 36) 0 0 (spV 7 2 SP_X7_toneOf) := call_V (ci := 7) (con_X7_toneOf l D cy) (lwG_3 (i := 199) rfl rfl) (lwG_3 (i := 168) rfl rfl) (lwG_3 (i := 169) rfl rfl) (lwG_1 (i := 11) rfl rfl) (lwG_3 (i := 170) rfl rfl) (by decide) ⟨rfl, by decide, by decide, rfl⟩ ⟨rfl, rfl⟩ hR
theorem ck_X7_28 {l : Launch} {D : va_G} {cy : Nat → ClassId} {R : Room} (hR : 4 ≤ R.frames ∧ 85 ≤ R.locals) : CallOK l D cy R RX7 (.invokevirtual 28) 0 0 (spV 6 1 SP_X6_pushCutAt) := call_V (ci := 6) (con_X6_pushCutAt l D cy) (lwG_3 (i := 189) rfl rfl) (lwG_3 (i := 190) rfl rfl) (lwG_3 (i := 191) rfl rfl) (lwG_1 (i := 9) rfl rfl) (lwG_3 (i := 192) rfl rfl) (by decide) ⟨rfl, by decide, by decide, rfl⟩ ⟨rfl, rfl⟩ hR
theorem ck_X7_32 {l : Launch} {D : va_G} {cy : Nat → ClassId} {R : Room} (hR : 3 ≤ R.frames ∧ 65 ≤ R.locals) : CallOK l D cy R RX7 (.invokevirtual 32) 0 0 (spV 6 2 SP_X6_letAt) := call_V (ci := 6) (con_X6_letAt l D cy) (lwG_3 (i := 194) rfl rfl) (lwG_3 (i := 195) rfl rfl) (lwG_3 (i := 196) rfl rfl) (lwG_1 (i := 9) rfl rfl) (lwG_3 (i := 197) rfl rfl) (by decide) ⟨rfl, by decide, by decide, rfl⟩ ⟨rfl, rfl⟩ hR
section W_X7_comesThrough
variable {p : Program} {l : Launch} {e : Env} {s : State} {m : MethodId} {args : Array Value} {below : List Frame} {meth : Method} {c : Code} {D : va_G} {cy : Nat → ClassId} {G : Nat × Nat} {n0 : Nat} {Qp : Option PV → Mm → Prop}
set_option maxRecDepth 100000 in
set_option maxHeartbeats 4000000 in
theorem f_X7_comesThrough_9 {o0 : Nat} {a1 : Option Nat} {x2 : Int} {x3 : Int} {x4 : Int} {x5 : Int} {x6 : Int} {M : Mm} {Q : Int → Prop} {K9 : Int × Int × Int → Prop} (C : Cx p s m args meth c cX7_comesThrough 8 RX7 D cy G n0) (hr : meth.sig.returnType = some .int) (h3 : n0 = 243) (hn : M.2.2.2 = n0) (ho0 : o0 < 243 ∧ (SH o0).1 = 7) (hQ : ∀ x, Q x → Qp (some (vI x)) M) (hK9 : ∀ (x4 : Int) (x5 : Int) (x6 : Int), K9 (x4, x5, x6) → WW p l e ({ frames := 4, cells := 0, slots := 0, locals := 85 }) s m args below meth c (ZQ below args s D cy G n0 Qp n0) 8 D cy G n0 9 [(0, vR (some o0)), (1, vR a1), (2, vI x2), (3, vI x3), (4, vI x4), (5, vI x5), (6, vI x6)] [] M) (h : F_X7_comesThrough_9 o0 a1 x2 x3 M Q  K9 x4 x5 x6) : WW p l e ({ frames := 4, cells := 0, slots := 0, locals := 85 }) s m args below meth c (ZQ below args s D cy G n0 Qp n0) 8 D cy G n0 9 [(0, vR (some o0)), (1, vR a1), (2, vI x2), (3, vI x3), (4, vI x4), (5, vI x5), (6, vI x6)] [] M := by
  unfold F_X7_comesThrough_9 at h
  refine w_iload C dX7_comesThrough_9 (mem_k 6 rfl) ?_
  refine w_aload_n C dX7_comesThrough_11 rfl (mem_k 1 rfl) ?_
  obtain ⟨o1, g2, h⟩ := h
  refine cl_X6_patches (ck_X7_22 ⟨by decide, by decide⟩) C dX7_comesThrough_12 hn h3 (Nat.le_of_ble_eq_true rfl) (isO.n g2 (hn.trans h3)) h (fun v3 h => ?_)
  refine w_icmp_ge (tgt := 54) C dX7_comesThrough_15 (by decide) (fun q => ?_) (fun q => ?_)
  · replace h := h.1 q
    refine w_iload C dX7_comesThrough_54 (mem_k 5 rfl) ?_
    refine w_iconst C dX7_comesThrough_56 ⟨by decide, by decide⟩ ?_
    refine w_icmp_ge (tgt := 64) C dX7_comesThrough_57 (by decide) (fun q => ?_) (fun q => ?_)
    · replace h := h.1 q
      refine w_iload C dX7_comesThrough_64 (mem_k 4 rfl) ?_
      refine w_iload C dX7_comesThrough_66 (mem_k 5 rfl) ?_
      refine x_idiv C dX7_comesThrough_68 h.1 ?_
      replace h := h.2
      refine w_aload_n C dX7_comesThrough_69 rfl (mem_k 0 rfl) ?_
      refine w_iload_n C dX7_comesThrough_70 rfl (mem_k 2 rfl) ?_
      refine w_iload_n C dX7_comesThrough_71 rfl (mem_k 3 rfl) ?_
      refine cl_X7_toneOf (ck_X7_36 ⟨by decide, by decide⟩) C dX7_comesThrough_72 hn h3 (Nat.le_of_ble_eq_true rfl) (isO.n (ci := 7) ⟨rfl, ho0⟩ (hn.trans h3)) h (fun v4 h => ?_)
      refine w_imul C dX7_comesThrough_75 h.1 ?_
      replace h := h.2
      refine w_bipush C dX7_comesThrough_76 (by decide) ?_
      refine x_idiv C dX7_comesThrough_78 (by decide) ?_
      exact x_iret C hr dX7_comesThrough_79 hn (hQ _ h)
    · replace h := h.2 q
      refine w_iconst C dX7_comesThrough_60 ⟨by decide, by decide⟩ ?_
      refine w_goto (tgt := 79) C dX7_comesThrough_61 (by decide) ?_
      exact x_iret C hr dX7_comesThrough_79 hn (hQ _ h)
  · replace h := h.2 q
    refine w_aload_n C dX7_comesThrough_18 rfl (mem_k 1 rfl) ?_
    refine w_iload C dX7_comesThrough_19 (mem_k 6 rfl) ?_
    refine cl_X6_pushCutAt (ck_X7_28 ⟨by decide, by decide⟩) C dX7_comesThrough_21 hn h3 (Nat.le_of_ble_eq_true rfl) (isO.n g2 (hn.trans h3)) h (fun v5 h => ?_)
    refine x_istore (L' := [(7, vI v5), (0, vR (some o0)), (1, vR a1), (2, vI x2), (3, vI x3), (4, vI x4), (5, vI x5), (6, vI x6)]) C dX7_comesThrough_24 (by decide) rfl ?_
    refine w_iload C dX7_comesThrough_26 (mem_k 5 rfl) ?_
    refine w_aload_n C dX7_comesThrough_28 rfl (mem_k 2 rfl) ?_
    refine w_iload C dX7_comesThrough_29 (mem_k 7 rfl) ?_
    refine w_iload_n C dX7_comesThrough_31 rfl (mem_k 4 rfl) ?_
    refine cl_X6_letAt (ck_X7_32 ⟨by decide, by decide⟩) C dX7_comesThrough_32 hn h3 (Nat.le_of_ble_eq_true rfl) (isO.n g2 (hn.trans h3)) h (fun v6 h => ?_)
    refine w_iload C dX7_comesThrough_35 (mem_k 0 rfl) ?_
    refine w_imul C dX7_comesThrough_37 h.1 ?_
    replace h := h.2
    refine w_iadd C dX7_comesThrough_38 h.1 ?_
    replace h := h.2
    refine x_nmI (fun v7 ev7 => ?_)
    replace h := h v7 ev7
    refine x_istore (L' := [(4, vI v7), (7, vI v5), (0, vR (some o0)), (1, vR a1), (2, vI x2), (3, vI x3), (5, vI x5), (6, vI x6)]) C dX7_comesThrough_39 (by decide) rfl ?_
    refine w_iload C dX7_comesThrough_41 (mem_k 6 rfl) ?_
    refine w_iload C dX7_comesThrough_43 (mem_k 1 rfl) ?_
    refine w_iadd C dX7_comesThrough_45 h.1 ?_
    replace h := h.2
    refine x_nmI (fun v8 ev8 => ?_)
    replace h := h v8 ev8
    refine x_istore (L' := [(5, vI v8), (4, vI v7), (7, vI v5), (0, vR (some o0)), (1, vR a1), (2, vI x2), (3, vI x3), (6, vI x6)]) C dX7_comesThrough_46 (by decide) rfl ?_
    obtain ⟨v9, ev9⟩ : ∃ z : Int, z = x6 + 1 := ⟨_, rfl⟩
    refine x_iinc (L' := [(6, vI v9), (5, vI v8), (4, vI v7), (7, vI v5), (0, vR (some o0)), (1, vR a1), (2, vI x2), (3, vI x3)]) C dX7_comesThrough_48 (mem_k 7 rfl) (by decide) h.1 ev9 rfl ?_
    replace h := h.2 v9 ev9
    refine w_goto (tgt := 9) C dX7_comesThrough_51 (by decide) ?_
    refine x_pc (pc2 := 9) rfl ?_
    refine x_pick (L' := [(0, vR (some o0)), (1, vR a1), (2, vI x2), (3, vI x3), (4, vI v7), (5, vI v8), (6, vI v9)]) [4, 5, 6, 7, 2, 1, 0] rfl ?_
    exact hK9 v7 v8 v9 h
set_option maxRecDepth 100000 in
set_option maxHeartbeats 4000000 in
theorem k_X7_comesThrough_9 {o0 : Nat} {a1 : Option Nat} {x2 : Int} {x3 : Int} {x4 : Int} {x5 : Int} {x6 : Int} {M : Mm} {Q : Int → Prop} (C : Cx p s m args meth c cX7_comesThrough 8 RX7 D cy G n0) (hr : meth.sig.returnType = some .int) (h3 : n0 = 243) (hn : M.2.2.2 = n0) (ho0 : o0 < 243 ∧ (SH o0).1 = 7) (hQ : ∀ x, Q x → Qp (some (vI x)) M) (h : P_X7_comesThrough_9 o0 a1 x2 x3 x4 x5 x6 M Q ) : WW p l e ({ frames := 4, cells := 0, slots := 0, locals := 85 }) s m args below meth c (ZQ below args s D cy G n0 Qp n0) 8 D cy G n0 9 [(0, vR (some o0)), (1, vR a1), (2, vI x2), (3, vI x3), (4, vI x4), (5, vI x5), (6, vI x6)] [] M := by
  refine lpW_sound (P := fun y : Int × Int × Int => WW p l e ({ frames := 4, cells := 0, slots := 0, locals := 85 }) s m args below meth c (ZQ below args s D cy G n0 Qp n0) 8 D cy G n0 9 [(0, vR (some o0)), (1, vR a1), (2, vI x2), (3, vI x3), (4, vI y.1), (5, vI y.2.1), (6, vI y.2.2)] [] M) ?_ h
  intro K y hK hF
  obtain ⟨x4, x5, x6⟩ := y
  exact f_X7_comesThrough_9 C hr h3 hn ho0 hQ  (fun x4 x5 x6 hk => hK (x4, x5, x6) hk) hF
set_option maxRecDepth 100000 in
set_option maxHeartbeats 4000000 in
theorem k_X7_comesThrough_0 {o0 : Nat} {a1 : Option Nat} {x2 : Int} {x3 : Int} {M : Mm} {Q : Int → Prop} (C : Cx p s m args meth c cX7_comesThrough 8 RX7 D cy G n0) (hr : meth.sig.returnType = some .int) (h3 : n0 = 243) (hn : M.2.2.2 = n0) (ho0 : o0 < 243 ∧ (SH o0).1 = 7) (hQ : ∀ x, Q x → Qp (some (vI x)) M) (h : P_X7_comesThrough o0 a1 x2 x3 M Q ) : WW p l e ({ frames := 4, cells := 0, slots := 0, locals := 85 }) s m args below meth c (ZQ below args s D cy G n0 Qp n0) 8 D cy G n0 0 [(0, vR (some o0)), (1, vR a1), (2, vI x2), (3, vI x3)] [] M := by
  unfold P_X7_comesThrough at h
  refine w_iconst C dX7_comesThrough_0 ⟨by decide, by decide⟩ ?_
  refine x_istore (L' := [(4, vI 0), (0, vR (some o0)), (1, vR a1), (2, vI x2), (3, vI x3)]) C dX7_comesThrough_1 (by decide) rfl ?_
  refine w_iconst C dX7_comesThrough_3 ⟨by decide, by decide⟩ ?_
  refine x_istore (L' := [(5, vI 0), (4, vI 0), (0, vR (some o0)), (1, vR a1), (2, vI x2), (3, vI x3)]) C dX7_comesThrough_4 (by decide) rfl ?_
  refine w_iconst C dX7_comesThrough_6 ⟨by decide, by decide⟩ ?_
  refine x_istore (L' := [(6, vI 0), (5, vI 0), (4, vI 0), (0, vR (some o0)), (1, vR a1), (2, vI x2), (3, vI x3)]) C dX7_comesThrough_7 (by decide) rfl ?_
  refine x_pc (pc2 := 9) rfl ?_
  refine x_pick (L' := [(0, vR (some o0)), (1, vR a1), (2, vI x2), (3, vI x3), (4, vI 0), (5, vI 0), (6, vI 0)]) [3, 4, 5, 6, 2, 1, 0] rfl ?_
  exact k_X7_comesThrough_9 C hr h3 hn ho0 hQ  h
set_option maxRecDepth 100000 in
set_option maxHeartbeats 4000000 in
theorem con_X7_comesThrough (l : Launch) (D : va_G) (cy : Nat → ClassId) : Con l D cy yX7_comesThrough cX7_comesThrough 8 (some .int) ({ frames := 4, cells := 0, slots := 0, locals := 85 }) 0 0 SP_X7_comesThrough := by
  refine con_of (by decide) (fun as M Qp h => ?_) ?_
  · obtain ⟨-, o0, a1, x2, x3, rfl, -⟩ := h
    exact Nat.le_of_ble_eq_true rfl
  · intro p e s m args below meth c G as M Qp h C hr hnm
    obtain ⟨hn, o0, a1, x2, x3, rfl, ho1, ho2, Q0, hQ, h⟩ := h
    refine x_pick (L' := [(0, vR (some o0)), (1, vR a1), (2, vI x2), (3, vI x3)]) [0, 1, 2, 3] rfl ?_
    exact k_X7_comesThrough_0 C hr hn rfl ⟨ho1, ho2⟩ hQ h
set_option maxRecDepth 100000 in
set_option maxHeartbeats 4000000 in
theorem cl_X7_comesThrough {p : Program} {l : Launch} {e : Env} {R : Room} {s : State} {m : MethodId} {args : Array Value} {below : List Frame} {meth : Method} {c : Code} {Q : State → Prop} {cc : ByteArray} {nL : Nat} {own : String} {D : va_G} {cy : Nat → ClassId} {G : Nat × Nat} {n0 pc : Nat} {L : List (Nat × PV)} {st : List PV} {M : Mm} {op : Instr} (K : CallOK l D cy R own op 0 0 (spV 7 3 SP_X7_comesThrough)) (C : Cx p s m args meth c cc nL own D cy G n0) (hd : decode cc pc = .ok (op, 3)) (hn : M.2.2.2 = n0) (h3 : n0 = 243) (hlen : argN st ≤ 8) {r : Option Nat} {o0 : Nat} (ho : isOn 7 M.2.2.2 r o0) {a1 : Option Nat} {x2 : Int} {x3 : Int} {Q0 : Int → Prop} (h : P_X7_comesThrough o0 a1 x2 x3 M Q0) (k : ∀ x, Q0 x → WW p l e R s m args below meth c Q nL D cy G n0  (pc + 3) L (vI x :: st) M) : WW p l e R s m args below meth c Q nL D cy G n0  pc L (vI x3 :: vI x2 :: vR a1 :: vR r :: st) M := by
  obtain ⟨rfl, ho1, ho2⟩ := ho
  refine x_call0 K C hd (as := [vR (some o0), vR a1, vI x2, vI x3]) rfl hn hlen (fun v M2 => ∃ x, v = some (vI x) ∧ M2 = M ∧ Q0 x) ⟨⟨o0, [vR a1, vI x2, vI x3], rfl, rfl, ho1, ho2⟩, hn.trans h3, o0, a1, x2, x3, rfl, (hn.trans h3) ▸ ho1, ho2, Q0, fun x hx => ⟨x, rfl, rfl, hx⟩, h⟩ ?_
  rintro _ _ ⟨x, rfl, rfl, hx⟩ hm
  exact k x hx
end W_X7_comesThrough
theorem dX7_doseOfHour_0 : decode cX7_doseOfHour 0 = .ok (.lconst 0, 1) := by decide +kernel
theorem dX7_doseOfHour_1 : decode cX7_doseOfHour 1 = .ok (.lstore_n 3, 1) := by decide +kernel
theorem dX7_doseOfHour_2 : decode cX7_doseOfHour 2 = .ok (.iconst 0, 1) := by decide +kernel
theorem dX7_doseOfHour_3 : decode cX7_doseOfHour 3 = .ok (.istore 5, 2) := by decide +kernel
theorem dX7_doseOfHour_5 : decode cX7_doseOfHour 5 = .ok (.iload 5, 2) := by decide +kernel
theorem dX7_doseOfHour_7 : decode cX7_doseOfHour 7 = .ok (.iconst 4, 1) := by decide +kernel
theorem dX7_doseOfHour_8 : decode cX7_doseOfHour 8 = .ok (.if_icmp .ge 28, 3) := by decide +kernel
theorem dX7_doseOfHour_11 : decode cX7_doseOfHour 11 = .ok (.aload_n 0, 1) := by decide +kernel
theorem dX7_doseOfHour_12 : decode cX7_doseOfHour 12 = .ok (.aload_n 1, 1) := by decide +kernel
theorem dX7_doseOfHour_13 : decode cX7_doseOfHour 13 = .ok (.iload_n 2, 1) := by decide +kernel
theorem dX7_doseOfHour_14 : decode cX7_doseOfHour 14 = .ok (.iload 5, 2) := by decide +kernel
theorem dX7_doseOfHour_16 : decode cX7_doseOfHour 16 = .ok (.invokevirtual 39, 3) := by decide +kernel
theorem dX7_doseOfHour_19 : decode cX7_doseOfHour 19 = .ok (.i2l, 1) := by decide +kernel
theorem dX7_doseOfHour_20 : decode cX7_doseOfHour 20 = .ok (.lstore 6, 2) := by decide +kernel
theorem dX7_doseOfHour_22 : decode cX7_doseOfHour 22 = .ok (.lload_n 3, 1) := by decide +kernel
theorem dX7_doseOfHour_23 : decode cX7_doseOfHour 23 = .ok (.lload 6, 2) := by decide +kernel
theorem dX7_doseOfHour_25 : decode cX7_doseOfHour 25 = .ok (.lload 6, 2) := by decide +kernel
theorem dX7_doseOfHour_27 : decode cX7_doseOfHour 27 = .ok (.lmul, 1) := by decide +kernel
theorem dX7_doseOfHour_28 : decode cX7_doseOfHour 28 = .ok (.ladd, 1) := by decide +kernel
theorem dX7_doseOfHour_29 : decode cX7_doseOfHour 29 = .ok (.lstore_n 3, 1) := by decide +kernel
theorem dX7_doseOfHour_30 : decode cX7_doseOfHour 30 = .ok (.iinc 5 1, 3) := by decide +kernel
theorem dX7_doseOfHour_33 : decode cX7_doseOfHour 33 = .ok (.goto (-28), 3) := by decide +kernel
theorem dX7_doseOfHour_36 : decode cX7_doseOfHour 36 = .ok (.lload_n 3, 1) := by decide +kernel
theorem dX7_doseOfHour_37 : decode cX7_doseOfHour 37 = .ok (.lreturn, 1) := by decide +kernel
theorem ck_X7_39 {l : Launch} {D : va_G} {cy : Nat → ClassId} {R : Room} (hR : 5 ≤ R.frames ∧ 112 ≤ R.locals) : CallOK l D cy R RX7 (.invokevirtual 39) 0 0 (spV 7 3 SP_X7_comesThrough) := call_V (ci := 7) (con_X7_comesThrough l D cy) (lwG_3 (i := 212) rfl rfl) (lwG_3 (i := 182) rfl rfl) (lwG_3 (i := 183) rfl rfl) (lwG_1 (i := 11) rfl rfl) (lwG_3 (i := 184) rfl rfl) (by decide) ⟨rfl, by decide, by decide, rfl⟩ ⟨rfl, rfl⟩ hR
section W_X7_doseOfHour
variable {p : Program} {l : Launch} {e : Env} {s : State} {m : MethodId} {args : Array Value} {below : List Frame} {meth : Method} {c : Code} {D : va_G} {cy : Nat → ClassId} {G : Nat × Nat} {n0 : Nat} {Qp : Option PV → Mm → Prop}
set_option maxRecDepth 100000 in
set_option maxHeartbeats 4000000 in
theorem f_X7_doseOfHour_5 {o0 : Nat} {a1 : Option Nat} {x2 : Int} {x3 : Int} {x5 : Int} {M : Mm} {Q : Int → Prop} {K5 : Int × Int → Prop} (C : Cx p s m args meth c cX7_doseOfHour 8 RX7 D cy G n0) (hr : meth.sig.returnType = some .long) (h3 : n0 = 243) (hn : M.2.2.2 = n0) (ho0 : o0 < 243 ∧ (SH o0).1 = 7) (hQ : ∀ x, Q x → Qp (some (vL x)) M) (hK5 : ∀ (x3 : Int) (x5 : Int), K5 (x3, x5) → WW p l e ({ frames := 5, cells := 0, slots := 0, locals := 112 }) s m args below meth c (ZQ below args s D cy G n0 Qp n0) 8 D cy G n0 5 [(0, vR (some o0)), (1, vR a1), (2, vI x2), (3, vL x3), (5, vI x5)] [] M) (h : F_X7_doseOfHour_5 o0 a1 x2 M Q  K5 x3 x5) : WW p l e ({ frames := 5, cells := 0, slots := 0, locals := 112 }) s m args below meth c (ZQ below args s D cy G n0 Qp n0) 8 D cy G n0 5 [(0, vR (some o0)), (1, vR a1), (2, vI x2), (3, vL x3), (5, vI x5)] [] M := by
  unfold F_X7_doseOfHour_5 at h
  refine w_iload C dX7_doseOfHour_5 (mem_k 4 rfl) ?_
  refine w_iconst C dX7_doseOfHour_7 ⟨by decide, by decide⟩ ?_
  refine w_icmp_ge (tgt := 36) C dX7_doseOfHour_8 (by decide) (fun q => ?_) (fun q => ?_)
  · replace h := h.1 q
    refine w_lload_n C dX7_doseOfHour_36 rfl (mem_k 3 rfl) ?_
    exact x_lret C hr dX7_doseOfHour_37 hn (hQ _ h)
  · replace h := h.2 q
    refine w_aload_n C dX7_doseOfHour_11 rfl (mem_k 0 rfl) ?_
    refine w_aload_n C dX7_doseOfHour_12 rfl (mem_k 1 rfl) ?_
    refine w_iload_n C dX7_doseOfHour_13 rfl (mem_k 2 rfl) ?_
    refine w_iload C dX7_doseOfHour_14 (mem_k 4 rfl) ?_
    refine cl_X7_comesThrough (ck_X7_39 ⟨by decide, by decide⟩) C dX7_doseOfHour_16 hn h3 (Nat.le_of_ble_eq_true rfl) (isO.n (ci := 7) ⟨rfl, ho0⟩ (hn.trans h3)) h (fun v1 h => ?_)
    refine w_i2l C dX7_doseOfHour_19 ?_
    refine x_lstore (L' := [(6, vL v1), (0, vR (some o0)), (1, vR a1), (2, vI x2), (3, vL x3), (5, vI x5)]) C dX7_doseOfHour_20 (by decide) rfl ?_
    refine w_lload_n C dX7_doseOfHour_22 rfl (mem_k 4 rfl) ?_
    refine w_lload C dX7_doseOfHour_23 (mem_k 0 rfl) ?_
    refine w_lload C dX7_doseOfHour_25 (mem_k 0 rfl) ?_
    refine w_lmul C dX7_doseOfHour_27 h.1 ?_
    replace h := h.2
    refine w_ladd C dX7_doseOfHour_28 h.1 ?_
    replace h := h.2
    refine x_nmL (fun v2 ev2 => ?_)
    replace h := h v2 ev2
    refine x_lstore_n (L' := [(3, vL v2), (6, vL v1), (0, vR (some o0)), (1, vR a1), (2, vI x2), (5, vI x5)]) C dX7_doseOfHour_29 rfl (by decide) rfl ?_
    obtain ⟨v3, ev3⟩ : ∃ z : Int, z = x5 + 1 := ⟨_, rfl⟩
    refine x_iinc (L' := [(5, vI v3), (3, vL v2), (6, vL v1), (0, vR (some o0)), (1, vR a1), (2, vI x2)]) C dX7_doseOfHour_30 (mem_k 5 rfl) (by decide) h.1 ev3 rfl ?_
    replace h := h.2 v3 ev3
    refine w_goto (tgt := 5) C dX7_doseOfHour_33 (by decide) ?_
    refine x_pc (pc2 := 5) rfl ?_
    refine x_pick (L' := [(0, vR (some o0)), (1, vR a1), (2, vI x2), (3, vL v2), (5, vI v3)]) [3, 4, 5, 1, 0] rfl ?_
    exact hK5 v2 v3 h
set_option maxRecDepth 100000 in
set_option maxHeartbeats 4000000 in
theorem k_X7_doseOfHour_5 {o0 : Nat} {a1 : Option Nat} {x2 : Int} {x3 : Int} {x5 : Int} {M : Mm} {Q : Int → Prop} (C : Cx p s m args meth c cX7_doseOfHour 8 RX7 D cy G n0) (hr : meth.sig.returnType = some .long) (h3 : n0 = 243) (hn : M.2.2.2 = n0) (ho0 : o0 < 243 ∧ (SH o0).1 = 7) (hQ : ∀ x, Q x → Qp (some (vL x)) M) (h : P_X7_doseOfHour_5 o0 a1 x2 x3 x5 M Q ) : WW p l e ({ frames := 5, cells := 0, slots := 0, locals := 112 }) s m args below meth c (ZQ below args s D cy G n0 Qp n0) 8 D cy G n0 5 [(0, vR (some o0)), (1, vR a1), (2, vI x2), (3, vL x3), (5, vI x5)] [] M := by
  refine lpW_sound (P := fun y : Int × Int => WW p l e ({ frames := 5, cells := 0, slots := 0, locals := 112 }) s m args below meth c (ZQ below args s D cy G n0 Qp n0) 8 D cy G n0 5 [(0, vR (some o0)), (1, vR a1), (2, vI x2), (3, vL y.1), (5, vI y.2)] [] M) ?_ h
  intro K y hK hF
  obtain ⟨x3, x5⟩ := y
  exact f_X7_doseOfHour_5 C hr h3 hn ho0 hQ  (fun x3 x5 hk => hK (x3, x5) hk) hF
set_option maxRecDepth 100000 in
set_option maxHeartbeats 4000000 in
theorem k_X7_doseOfHour_0 {o0 : Nat} {a1 : Option Nat} {x2 : Int} {M : Mm} {Q : Int → Prop} (C : Cx p s m args meth c cX7_doseOfHour 8 RX7 D cy G n0) (hr : meth.sig.returnType = some .long) (h3 : n0 = 243) (hn : M.2.2.2 = n0) (ho0 : o0 < 243 ∧ (SH o0).1 = 7) (hQ : ∀ x, Q x → Qp (some (vL x)) M) (h : P_X7_doseOfHour o0 a1 x2 M Q ) : WW p l e ({ frames := 5, cells := 0, slots := 0, locals := 112 }) s m args below meth c (ZQ below args s D cy G n0 Qp n0) 8 D cy G n0 0 [(0, vR (some o0)), (1, vR a1), (2, vI x2)] [] M := by
  unfold P_X7_doseOfHour at h
  refine w_lconst C dX7_doseOfHour_0 ?_
  refine x_lstore_n (L' := [(3, vL 0), (0, vR (some o0)), (1, vR a1), (2, vI x2)]) C dX7_doseOfHour_1 rfl (by decide) rfl ?_
  refine w_iconst C dX7_doseOfHour_2 ⟨by decide, by decide⟩ ?_
  refine x_istore (L' := [(5, vI 0), (3, vL 0), (0, vR (some o0)), (1, vR a1), (2, vI x2)]) C dX7_doseOfHour_3 (by decide) rfl ?_
  refine x_pc (pc2 := 5) rfl ?_
  refine x_pick (L' := [(0, vR (some o0)), (1, vR a1), (2, vI x2), (3, vL 0), (5, vI 0)]) [2, 3, 4, 1, 0] rfl ?_
  exact k_X7_doseOfHour_5 C hr h3 hn ho0 hQ  h
set_option maxRecDepth 100000 in
set_option maxHeartbeats 4000000 in
theorem con_X7_doseOfHour (l : Launch) (D : va_G) (cy : Nat → ClassId) : Con l D cy yX7_doseOfHour cX7_doseOfHour 8 (some .long) ({ frames := 5, cells := 0, slots := 0, locals := 112 }) 0 0 SP_X7_doseOfHour := by
  refine con_of (by decide) (fun as M Qp h => ?_) ?_
  · obtain ⟨-, o0, a1, x2, rfl, -⟩ := h
    exact Nat.le_of_ble_eq_true rfl
  · intro p e s m args below meth c G as M Qp h C hr hnm
    obtain ⟨hn, o0, a1, x2, rfl, ho1, ho2, Q0, hQ, h⟩ := h
    refine x_pick (L' := [(0, vR (some o0)), (1, vR a1), (2, vI x2)]) [0, 1, 2] rfl ?_
    exact k_X7_doseOfHour_0 C hr hn rfl ⟨ho1, ho2⟩ hQ h
set_option maxRecDepth 100000 in
set_option maxHeartbeats 4000000 in
theorem cl_X7_doseOfHour {p : Program} {l : Launch} {e : Env} {R : Room} {s : State} {m : MethodId} {args : Array Value} {below : List Frame} {meth : Method} {c : Code} {Q : State → Prop} {cc : ByteArray} {nL : Nat} {own : String} {D : va_G} {cy : Nat → ClassId} {G : Nat × Nat} {n0 pc : Nat} {L : List (Nat × PV)} {st : List PV} {M : Mm} {op : Instr} (K : CallOK l D cy R own op 0 0 (spV 7 2 SP_X7_doseOfHour)) (C : Cx p s m args meth c cc nL own D cy G n0) (hd : decode cc pc = .ok (op, 3)) (hn : M.2.2.2 = n0) (h3 : n0 = 243) (hlen : argN st ≤ 8) {r : Option Nat} {o0 : Nat} (ho : isOn 7 M.2.2.2 r o0) {a1 : Option Nat} {x2 : Int} {Q0 : Int → Prop} (h : P_X7_doseOfHour o0 a1 x2 M Q0) (k : ∀ x, Q0 x → WW p l e R s m args below meth c Q nL D cy G n0  (pc + 3) L (vL x :: st) M) : WW p l e R s m args below meth c Q nL D cy G n0  pc L (vI x2 :: vR a1 :: vR r :: st) M := by
  obtain ⟨rfl, ho1, ho2⟩ := ho
  refine x_call0 K C hd (as := [vR (some o0), vR a1, vI x2]) rfl hn hlen (fun v M2 => ∃ x, v = some (vL x) ∧ M2 = M ∧ Q0 x) ⟨⟨o0, [vR a1, vI x2], rfl, rfl, ho1, ho2⟩, hn.trans h3, o0, a1, x2, rfl, (hn.trans h3) ▸ ho1, ho2, Q0, fun x hx => ⟨x, rfl, rfl, hx⟩, h⟩ ?_
  rintro _ _ ⟨x, rfl, rfl, hx⟩ hm
  exact k x hx
end W_X7_doseOfHour
theorem dX8_patchAt_0 : decode cX8_patchAt 0 = .ok (.iload_n 1, 1) := by decide +kernel
theorem dX8_patchAt_1 : decode cX8_patchAt 1 = .ok (.iconst 0, 1) := by decide +kernel
theorem dX8_patchAt_2 : decode cX8_patchAt 2 = .ok (.aload_n 0, 1) := by decide +kernel
theorem dX8_patchAt_3 : decode cX8_patchAt 3 = .ok (.getfield 36, 3) := by decide +kernel
theorem dX8_patchAt_6 : decode cX8_patchAt 6 = .ok (.iconst 1, 1) := by decide +kernel
theorem dX8_patchAt_7 : decode cX8_patchAt 7 = .ok (.isub, 1) := by decide +kernel
theorem dX8_patchAt_8 : decode cX8_patchAt 8 = .ok (.invokestatic 52, 3) := by decide +kernel
theorem dX8_patchAt_11 : decode cX8_patchAt 11 = .ok (.ifCond .eq 12, 3) := by decide +kernel
theorem dX8_patchAt_14 : decode cX8_patchAt 14 = .ok (.aload_n 0, 1) := by decide +kernel
theorem dX8_patchAt_15 : decode cX8_patchAt 15 = .ok (.getfield 11, 3) := by decide +kernel
theorem dX8_patchAt_18 : decode cX8_patchAt 18 = .ok (.iload_n 1, 1) := by decide +kernel
theorem dX8_patchAt_19 : decode cX8_patchAt 19 = .ok (.aaload, 1) := by decide +kernel
theorem dX8_patchAt_20 : decode cX8_patchAt 20 = .ok (.goto 4, 3) := by decide +kernel
theorem dX8_patchAt_23 : decode cX8_patchAt 23 = .ok (.aconst_null, 1) := by decide +kernel
theorem dX8_patchAt_24 : decode cX8_patchAt 24 = .ok (.areturn, 1) := by decide +kernel
theorem ck_X8_52 {l : Launch} {D : va_G} {cy : Nat → ClassId} {R : Room} (hR : 1 ≤ R.frames ∧ 22 ≤ R.locals) : CallOK l D cy R RX8 (.invokestatic 52) 0 0 (spS 3 SP_X11_isWithin) := call_SN (con_X11_isWithin l D cy) (List.mem_append_right _ (List.mem_append_right _ (List.mem_append_right _ (List.mem_append_left _ (List.mem_of_getElem? (i := 10) rfl))))) (lwG_2 (i := 92) rfl rfl) (lwG_1 (i := 1) rfl rfl) (lwG_2 (i := 93) rfl rfl) ⟨by decide, by decide, rfl⟩ ⟨rfl, rfl⟩ hR
section W_X8_patchAt
variable {p : Program} {l : Launch} {e : Env} {s : State} {m : MethodId} {args : Array Value} {below : List Frame} {meth : Method} {c : Code} {D : va_G} {cy : Nat → ClassId} {G : Nat × Nat} {n0 : Nat} {Qp : Option PV → Mm → Prop}
set_option maxRecDepth 100000 in
set_option maxHeartbeats 4000000 in
theorem k_X8_patchAt_0 {o0 : Nat} {x1 : Int} {M : Mm} {Q : Option Nat → Prop} (C : Cx p s m args meth c cX8_patchAt 2 RX8 D cy G n0) (hr : meth.sig.returnType = some (.object "LongSeats$Patch")) (h3 : n0 = 243) (hn : M.2.2.2 = n0) (ho0 : o0 < 243 ∧ (SH o0).1 = 8) (hQ : ∀ x, Q x → Qp (some (vR x)) M) (h : P_X8_patchAt o0 x1 M Q ) : WW p l e ({ frames := 1, cells := 0, slots := 0, locals := 22 }) s m args below meth c (ZQ below args s D cy G n0 Qp n0) 2 D cy G n0 0 [(0, vR (some o0)), (1, vI x1)] [] M := by
  unfold P_X8_patchAt at h
  refine w_iload_n C dX8_patchAt_0 rfl (mem_k 1 rfl) ?_
  refine w_iconst C dX8_patchAt_1 ⟨by decide, by decide⟩ ?_
  refine w_aload_n C dX8_patchAt_2 rfl (mem_k 0 rfl) ?_
  refine x_getI C dX8_patchAt_3 fw_X8_36 (isO.n (ci := 8) ⟨rfl, ho0⟩ (hn.trans h3)) ?_
  refine w_iconst C dX8_patchAt_6 ⟨by decide, by decide⟩ ?_
  refine w_isub C dX8_patchAt_7 h.1 ?_
  replace h := h.2
  refine cl_X11_isWithin (ck_X8_52 ⟨by decide, by decide⟩) C dX8_patchAt_8 hn h3 (Nat.le_of_ble_eq_true rfl) h (fun v1 h => ?_)
  refine w_if_eq (tgt := 23) C dX8_patchAt_11 (by decide) (fun q => ?_) (fun q => ?_)
  · replace h := h.1 q
    refine w_null C dX8_patchAt_23 ?_
    exact x_aret C hr (Or.inl ⟨_, rfl⟩) dX8_patchAt_24 hn (hQ _ h)
  · replace h := h.2 q
    refine w_aload_n C dX8_patchAt_14 rfl (mem_k 0 rfl) ?_
    refine x_getR C dX8_patchAt_15 fw_X8_11 (isO.n (ci := 8) ⟨rfl, ho0⟩ (hn.trans h3)) (fun r2 er2 => ?_)
    replace h := h r2 er2
    refine w_iload_n C dX8_patchAt_18 rfl (mem_k 1 rfl) ?_
    obtain ⟨o3, g4, h⟩ := h
    refine x_aald C dX8_patchAt_19 (isA.n g4 (hn.trans h3)) (by decide) (fun r5 er5 => ?_)
    replace h := h r5 er5
    refine w_goto (tgt := 24) C dX8_patchAt_20 (by decide) ?_
    exact x_aret C hr (Or.inl ⟨_, rfl⟩) dX8_patchAt_24 hn (hQ _ h)
set_option maxRecDepth 100000 in
set_option maxHeartbeats 4000000 in
theorem con_X8_patchAt (l : Launch) (D : va_G) (cy : Nat → ClassId) : Con l D cy yX8_patchAt cX8_patchAt 2 (some (.object "LongSeats$Patch")) ({ frames := 1, cells := 0, slots := 0, locals := 22 }) 0 0 SP_X8_patchAt := by
  refine con_of (by decide) (fun as M Qp h => ?_) ?_
  · obtain ⟨-, o0, x1, rfl, -⟩ := h
    exact Nat.le_of_ble_eq_true rfl
  · intro p e s m args below meth c G as M Qp h C hr hnm
    obtain ⟨hn, o0, x1, rfl, ho1, ho2, Q0, hQ, h⟩ := h
    refine x_pick (L' := [(0, vR (some o0)), (1, vI x1)]) [0, 1] rfl ?_
    exact k_X8_patchAt_0 C hr hn rfl ⟨ho1, ho2⟩ hQ h
set_option maxRecDepth 100000 in
set_option maxHeartbeats 4000000 in
theorem cl_X8_patchAt {p : Program} {l : Launch} {e : Env} {R : Room} {s : State} {m : MethodId} {args : Array Value} {below : List Frame} {meth : Method} {c : Code} {Q : State → Prop} {cc : ByteArray} {nL : Nat} {own : String} {D : va_G} {cy : Nat → ClassId} {G : Nat × Nat} {n0 pc : Nat} {L : List (Nat × PV)} {st : List PV} {M : Mm} {op : Instr} (K : CallOK l D cy R own op 0 0 (spV 8 1 SP_X8_patchAt)) (C : Cx p s m args meth c cc nL own D cy G n0) (hd : decode cc pc = .ok (op, 3)) (hn : M.2.2.2 = n0) (h3 : n0 = 243) (hlen : argN st ≤ 8) {r : Option Nat} {o0 : Nat} (ho : isOn 8 M.2.2.2 r o0) {x1 : Int} {Q0 : Option Nat → Prop} (h : P_X8_patchAt o0 x1 M Q0) (k : ∀ x, Q0 x → WW p l e R s m args below meth c Q nL D cy G n0  (pc + 3) L (vR x :: st) M) : WW p l e R s m args below meth c Q nL D cy G n0  pc L (vI x1 :: vR r :: st) M := by
  obtain ⟨rfl, ho1, ho2⟩ := ho
  refine x_call0 K C hd (as := [vR (some o0), vI x1]) rfl hn hlen (fun v M2 => ∃ x, v = some (vR x) ∧ M2 = M ∧ Q0 x) ⟨⟨o0, [vI x1], rfl, rfl, ho1, ho2⟩, hn.trans h3, o0, x1, rfl, (hn.trans h3) ▸ ho1, ho2, Q0, fun x hx => ⟨x, rfl, rfl, hx⟩, h⟩ ?_
  rintro _ _ ⟨x, rfl, rfl, hx⟩ hm
  exact k x hx
end W_X8_patchAt
theorem dX9_append_0 : decode cX9_append 0 = .ok (.iload_n 1, 1) := by decide +kernel
theorem dX9_append_1 : decode cX9_append 1 = .ok (.ifCond .lt 15, 3) := by decide +kernel
theorem dX9_append_4 : decode cX9_append 4 = .ok (.iload_n 1, 1) := by decide +kernel
theorem dX9_append_5 : decode cX9_append 5 = .ok (.sipush 300, 3) := by decide +kernel
theorem dX9_append_8 : decode cX9_append 8 = .ok (.aload_n 0, 1) := by decide +kernel
theorem dX9_append_9 : decode cX9_append 9 = .ok (.getfield 19, 3) := by decide +kernel
theorem dX9_append_12 : decode cX9_append 12 = .ok (.isub, 1) := by decide +kernel
theorem dX9_append_13 : decode cX9_append 13 = .ok (.if_icmp .le 5, 3) := by decide +kernel
theorem dX9_append_16 : decode cX9_append 16 = .ok (.iconst 0, 1) := by decide +kernel
theorem dX9_append_17 : decode cX9_append 17 = .ok (.ireturn, 1) := by decide +kernel
theorem dX9_append_18 : decode cX9_append 18 = .ok (.iload_n 1, 1) := by decide +kernel
theorem dX9_append_19 : decode cX9_append 19 = .ok (.iconst 1, 1) := by decide +kernel
theorem dX9_append_20 : decode cX9_append 20 = .ok (.isub, 1) := by decide +kernel
theorem dX9_append_21 : decode cX9_append 21 = .ok (.istore 4, 2) := by decide +kernel
theorem dX9_append_23 : decode cX9_append 23 = .ok (.iload 4, 2) := by decide +kernel
theorem dX9_append_25 : decode cX9_append 25 = .ok (.ifCond .lt 37, 3) := by decide +kernel
theorem dX9_append_28 : decode cX9_append 28 = .ok (.aload_n 0, 1) := by decide +kernel
theorem dX9_append_29 : decode cX9_append 29 = .ok (.getfield 9, 3) := by decide +kernel
theorem dX9_append_32 : decode cX9_append 32 = .ok (.aload_n 0, 1) := by decide +kernel
theorem dX9_append_33 : decode cX9_append 33 = .ok (.getfield 19, 3) := by decide +kernel
theorem dX9_append_36 : decode cX9_append 36 = .ok (.lload_n 2, 1) := by decide +kernel
theorem dX9_append_37 : decode cX9_append 37 = .ok (.bipush 8, 2) := by decide +kernel
theorem dX9_append_39 : decode cX9_append 39 = .ok (.iload 4, 2) := by decide +kernel
theorem dX9_append_41 : decode cX9_append 41 = .ok (.imul, 1) := by decide +kernel
theorem dX9_append_42 : decode cX9_append 42 = .ok (.lshr, 1) := by decide +kernel
theorem dX9_append_43 : decode cX9_append 43 = .ok (.l2i, 1) := by decide +kernel
theorem dX9_append_44 : decode cX9_append 44 = .ok (.i2b, 1) := by decide +kernel
theorem dX9_append_45 : decode cX9_append 45 = .ok (.bastore, 1) := by decide +kernel
theorem dX9_append_46 : decode cX9_append 46 = .ok (.aload_n 0, 1) := by decide +kernel
theorem dX9_append_47 : decode cX9_append 47 = .ok (.dup, 1) := by decide +kernel
theorem dX9_append_48 : decode cX9_append 48 = .ok (.getfield 19, 3) := by decide +kernel
theorem dX9_append_51 : decode cX9_append 51 = .ok (.iconst 1, 1) := by decide +kernel
theorem dX9_append_52 : decode cX9_append 52 = .ok (.iadd, 1) := by decide +kernel
theorem dX9_append_53 : decode cX9_append 53 = .ok (.putfield 19, 3) := by decide +kernel
theorem dX9_append_56 : decode cX9_append 56 = .ok (.iinc 4 (-1), 3) := by decide +kernel
theorem dX9_append_59 : decode cX9_append 59 = .ok (.goto (-36), 3) := by decide +kernel
theorem dX9_append_62 : decode cX9_append 62 = .ok (.iconst 1, 1) := by decide +kernel
theorem dX9_append_63 : decode cX9_append 63 = .ok (.ireturn, 1) := by decide +kernel
theorem fw_X9_9 : fR RX9 9 9 0 := ⟨⟨lwG_1 (i := 30) rfl rfl, by decide, by decide⟩, fun _ _ => rfl, fun r => ⟨r, rfl⟩⟩
theorem fw_X9_19 : fI RX9 19 9 1 := ⟨⟨lwG_1 (i := 31) rfl rfl, by decide, by decide⟩, rfl⟩
section W_X9_append
variable {p : Program} {l : Launch} {e : Env} {s : State} {m : MethodId} {args : Array Value} {below : List Frame} {meth : Method} {c : Code} {D : va_G} {cy : Nat → ClassId} {G : Nat × Nat} {n0 : Nat} {Qp : Option PV → Mm → Prop}
set_option maxRecDepth 100000 in
set_option maxHeartbeats 4000000 in
theorem f_X9_append_23 {o0 : Nat} {x2 : Int} {x4 : Int} {M : Mm} {Q : Int → Mm → Prop} {K23 : Int × Mm → Prop} (C : Cx p s m args meth c cX9_append 5 RX9 D cy G n0) (hr : meth.sig.returnType = some .boolean) (h3 : n0 = 243) (hn : M.2.2.2 = n0) (ho0 : o0 < 243 ∧ (SH o0).1 = 9) (hQ : ∀ x M, Q x M → Qp (some (vI x)) M) (hK23 : ∀ (x4 : Int) (M : Mm), K23 (x4, M) → M.2.2.2 = n0 → WW p l e ({ frames := 0, cells := 0, slots := 0, locals := 0 }) s m args below meth c (ZQ below args s D cy G n0 Qp n0) 5 D cy G n0 23 [(0, vR (some o0)), (2, vL x2), (4, vI x4)] [] M) (h : F_X9_append_23 o0 x2 Q  K23 x4 M) : WW p l e ({ frames := 0, cells := 0, slots := 0, locals := 0 }) s m args below meth c (ZQ below args s D cy G n0 Qp n0) 5 D cy G n0 23 [(0, vR (some o0)), (2, vL x2), (4, vI x4)] [] M := by
  unfold F_X9_append_23 at h
  refine w_iload C dX9_append_23 (mem_k 2 rfl) ?_
  refine w_if_lt (tgt := 62) C dX9_append_25 (by decide) (fun q => ?_) (fun q => ?_)
  · replace h := h.1 q
    refine w_iconst C dX9_append_62 ⟨by decide, by decide⟩ ?_
    exact x_zret C hr dX9_append_63 hn (by decide) (hQ _ M h)
  · replace h := h.2 q
    refine w_aload_n C dX9_append_28 rfl (mem_k 0 rfl) ?_
    refine x_getR C dX9_append_29 fw_X9_9 (isO.n (ci := 9) ⟨rfl, ho0⟩ (hn.trans h3)) (fun r1 er1 => ?_)
    replace h := h r1 er1
    refine w_aload_n C dX9_append_32 rfl (mem_k 0 rfl) ?_
    refine x_getI C dX9_append_33 fw_X9_19 (isO.n (ci := 9) ⟨rfl, ho0⟩ (hn.trans h3)) ?_
    refine w_lload_n C dX9_append_36 rfl (mem_k 1 rfl) ?_
    refine w_bipush C dX9_append_37 (by decide) ?_
    refine w_iload C dX9_append_39 (mem_k 2 rfl) ?_
    refine w_imul C dX9_append_41 h.1 ?_
    replace h := h.2
    refine w_lshr C dX9_append_42 ?_
    refine w_l2i C dX9_append_43 ?_
    refine w_i2b C dX9_append_44 ?_
    obtain ⟨o2, g3, h⟩ := h
    obtain ⟨g6, h⟩ := h
    refine x_bast C dX9_append_45 (isA.n g3 (hn.trans h3)) g6 (fun M4 eM4 hn5 => ?_)
    replace h := h M4 eM4
    replace hn5 := hn5.trans hn
    refine w_aload_n C dX9_append_46 rfl (mem_k 0 rfl) ?_
    refine w_dup C dX9_append_47 rfl ?_
    refine x_getI C dX9_append_48 fw_X9_19 (isO.n (ci := 9) ⟨rfl, ho0⟩ (hn5.trans h3)) ?_
    refine w_iconst C dX9_append_51 ⟨by decide, by decide⟩ ?_
    refine w_iadd C dX9_append_52 h.1 ?_
    replace h := h.2
    refine x_putI C dX9_append_53 fw_X9_19 (isO.n (ci := 9) ⟨rfl, ho0⟩ (hn5.trans h3)) (Or.inl rfl) (fun M7 eM7 hn8 => ?_)
    replace h := h M7 eM7
    replace hn8 := hn8.trans hn5
    obtain ⟨v9, ev9⟩ : ∃ z : Int, z = x4 + (-1) := ⟨_, rfl⟩
    refine x_iinc (L' := [(4, vI v9), (0, vR (some o0)), (2, vL x2)]) C dX9_append_56 (mem_k 2 rfl) (by decide) h.1 ev9 rfl ?_
    replace h := h.2 v9 ev9
    refine w_goto (tgt := 23) C dX9_append_59 (by decide) ?_
    refine x_pc (pc2 := 23) rfl ?_
    refine x_pick (L' := [(0, vR (some o0)), (2, vL x2), (4, vI v9)]) [1, 2, 0] rfl ?_
    exact hK23 v9 M7 h hn8
set_option maxRecDepth 100000 in
set_option maxHeartbeats 4000000 in
theorem k_X9_append_23 {o0 : Nat} {x2 : Int} {x4 : Int} {M : Mm} {Q : Int → Mm → Prop} (C : Cx p s m args meth c cX9_append 5 RX9 D cy G n0) (hr : meth.sig.returnType = some .boolean) (h3 : n0 = 243) (hn : M.2.2.2 = n0) (ho0 : o0 < 243 ∧ (SH o0).1 = 9) (hQ : ∀ x M, Q x M → Qp (some (vI x)) M) (h : P_X9_append_23 o0 x2 x4 M Q ) : WW p l e ({ frames := 0, cells := 0, slots := 0, locals := 0 }) s m args below meth c (ZQ below args s D cy G n0 Qp n0) 5 D cy G n0 23 [(0, vR (some o0)), (2, vL x2), (4, vI x4)] [] M := by
  refine lpW_sound (P := fun y : Int × Mm => y.2.2.2.2 = n0 → WW p l e ({ frames := 0, cells := 0, slots := 0, locals := 0 }) s m args below meth c (ZQ below args s D cy G n0 Qp n0) 5 D cy G n0 23 [(0, vR (some o0)), (2, vL x2), (4, vI y.1)] [] y.2) ?_ h hn
  intro K y hK hF
  obtain ⟨x4, M⟩ := y
  intro hn
  exact f_X9_append_23 C hr h3 hn ho0 hQ  (fun x4 M hk => hK (x4, M) hk) hF
set_option maxRecDepth 100000 in
set_option maxHeartbeats 4000000 in
theorem k_X9_append_0 {o0 : Nat} {x1 : Int} {x2 : Int} {M : Mm} {Q : Int → Mm → Prop} (C : Cx p s m args meth c cX9_append 5 RX9 D cy G n0) (hr : meth.sig.returnType = some .boolean) (h3 : n0 = 243) (hn : M.2.2.2 = n0) (ho0 : o0 < 243 ∧ (SH o0).1 = 9) (hQ : ∀ x M, Q x M → Qp (some (vI x)) M) (h : P_X9_append o0 x1 x2 M Q ) : WW p l e ({ frames := 0, cells := 0, slots := 0, locals := 0 }) s m args below meth c (ZQ below args s D cy G n0 Qp n0) 5 D cy G n0 0 [(0, vR (some o0)), (1, vI x1), (2, vL x2)] [] M := by
  unfold P_X9_append at h
  refine w_iload_n C dX9_append_0 rfl (mem_k 1 rfl) ?_
  refine w_if_lt (tgt := 16) C dX9_append_1 (by decide) (fun q => ?_) (fun q => ?_)
  · replace h := h.1 q
    refine w_iconst C dX9_append_16 ⟨by decide, by decide⟩ ?_
    exact x_zret C hr dX9_append_17 hn (by decide) (hQ _ M h)
  · replace h := h.2 q
    refine w_iload_n C dX9_append_4 rfl (mem_k 1 rfl) ?_
    refine w_sipush C dX9_append_5 (by decide) ?_
    refine w_aload_n C dX9_append_8 rfl (mem_k 0 rfl) ?_
    refine x_getI C dX9_append_9 fw_X9_19 (isO.n (ci := 9) ⟨rfl, ho0⟩ (hn.trans h3)) ?_
    refine w_isub C dX9_append_12 h.1 ?_
    replace h := h.2
    refine w_icmp_le (tgt := 18) C dX9_append_13 (by decide) (fun q => ?_) (fun q => ?_)
    · replace h := h.1 q
      refine w_iload_n C dX9_append_18 rfl (mem_k 1 rfl) ?_
      refine w_iconst C dX9_append_19 ⟨by decide, by decide⟩ ?_
      refine w_isub C dX9_append_20 h.1 ?_
      replace h := h.2
      refine x_nmI (fun v10 ev10 => ?_)
      replace h := h v10 ev10
      refine x_istore (L' := [(4, vI v10), (0, vR (some o0)), (1, vI x1), (2, vL x2)]) C dX9_append_21 (by decide) rfl ?_
      refine x_pc (pc2 := 23) rfl ?_
      refine x_pick (L' := [(0, vR (some o0)), (2, vL x2), (4, vI v10)]) [1, 3, 0] rfl ?_
      exact k_X9_append_23 C hr h3 hn ho0 hQ  h
    · replace h := h.2 q
      refine w_iconst C dX9_append_16 ⟨by decide, by decide⟩ ?_
      exact x_zret C hr dX9_append_17 hn (by decide) (hQ _ M h)
set_option maxRecDepth 100000 in
set_option maxHeartbeats 4000000 in
theorem con_X9_append (l : Launch) (D : va_G) (cy : Nat → ClassId) : Con l D cy yX9_append cX9_append 5 (some .boolean) ({ frames := 0, cells := 0, slots := 0, locals := 0 }) 0 0 SP_X9_append := by
  refine con_of (by decide) (fun as M Qp h => ?_) ?_
  · obtain ⟨-, o0, x1, x2, rfl, -⟩ := h
    exact Nat.le_of_ble_eq_true rfl
  · intro p e s m args below meth c G as M Qp h C hr hnm
    obtain ⟨hn, o0, x1, x2, rfl, ho1, ho2, Q0, hQ, h⟩ := h
    refine x_pick (L' := [(0, vR (some o0)), (1, vI x1), (2, vL x2)]) [0, 1, 2] rfl ?_
    exact k_X9_append_0 C hr hn rfl ⟨ho1, ho2⟩ hQ h
set_option maxRecDepth 100000 in
set_option maxHeartbeats 4000000 in
theorem cl_X9_append {p : Program} {l : Launch} {e : Env} {R : Room} {s : State} {m : MethodId} {args : Array Value} {below : List Frame} {meth : Method} {c : Code} {Q : State → Prop} {cc : ByteArray} {nL : Nat} {own : String} {D : va_G} {cy : Nat → ClassId} {G : Nat × Nat} {n0 pc : Nat} {L : List (Nat × PV)} {st : List PV} {M : Mm} {op : Instr} (K : CallOK l D cy R own op 0 0 (spV 9 2 SP_X9_append)) (C : Cx p s m args meth c cc nL own D cy G n0) (hd : decode cc pc = .ok (op, 3)) (hn : M.2.2.2 = n0) (h3 : n0 = 243) (hlen : argN st ≤ 8) {r : Option Nat} {o0 : Nat} (ho : isOn 9 M.2.2.2 r o0) {x1 : Int} {x2 : Int} {Q0 : Int → Mm → Prop} (h : P_X9_append o0 x1 x2 M Q0) (k : ∀ x M2, Q0 x M2 → M2.2.2.2 = n0 → WW p l e R s m args below meth c Q nL D cy G n0  (pc + 3) L (vI x :: st) M2) : WW p l e R s m args below meth c Q nL D cy G n0  pc L (vL x2 :: vI x1 :: vR r :: st) M := by
  obtain ⟨rfl, ho1, ho2⟩ := ho
  refine x_call0 K C hd (as := [vR (some o0), vI x1, vL x2]) rfl hn hlen (fun v M2 => ∃ x, v = some (vI x) ∧ Q0 x M2) ⟨⟨o0, [vI x1, vL x2], rfl, rfl, ho1, ho2⟩, hn.trans h3, o0, x1, x2, rfl, (hn.trans h3) ▸ ho1, ho2, Q0, fun x M2 hx => ⟨x, rfl, hx⟩, h⟩ ?_
  rintro _ _ ⟨x, rfl, hx⟩ hm
  exact k x _ hx hm
end W_X9_append
theorem dX9_readNumbers_0 : decode cX9_readNumbers 0 = .ok (.aload_n 0, 1) := by decide +kernel
theorem dX9_readNumbers_1 : decode cX9_readNumbers 1 = .ok (.iconst 0, 1) := by decide +kernel
theorem dX9_readNumbers_2 : decode cX9_readNumbers 2 = .ok (.putfield 32, 3) := by decide +kernel
theorem dX9_readNumbers_5 : decode cX9_readNumbers 5 = .ok (.iconst 0, 1) := by decide +kernel
theorem dX9_readNumbers_6 : decode cX9_readNumbers 6 = .ok (.istore_n 2, 1) := by decide +kernel
theorem dX9_readNumbers_7 : decode cX9_readNumbers 7 = .ok (.iconst 0, 1) := by decide +kernel
theorem dX9_readNumbers_8 : decode cX9_readNumbers 8 = .ok (.istore_n 3, 1) := by decide +kernel
theorem dX9_readNumbers_9 : decode cX9_readNumbers 9 = .ok (.iload_n 1, 1) := by decide +kernel
theorem dX9_readNumbers_10 : decode cX9_readNumbers 10 = .ok (.istore 4, 2) := by decide +kernel
theorem dX9_readNumbers_12 : decode cX9_readNumbers 12 = .ok (.iload 4, 2) := by decide +kernel
theorem dX9_readNumbers_14 : decode cX9_readNumbers 14 = .ok (.aload_n 0, 1) := by decide +kernel
theorem dX9_readNumbers_15 : decode cX9_readNumbers 15 = .ok (.getfield 19, 3) := by decide +kernel
theorem dX9_readNumbers_18 : decode cX9_readNumbers 18 = .ok (.if_icmp .ge 123, 3) := by decide +kernel
theorem dX9_readNumbers_21 : decode cX9_readNumbers 21 = .ok (.aload_n 0, 1) := by decide +kernel
theorem dX9_readNumbers_22 : decode cX9_readNumbers 22 = .ok (.getfield 9, 3) := by decide +kernel
theorem dX9_readNumbers_25 : decode cX9_readNumbers 25 = .ok (.iload 4, 2) := by decide +kernel
theorem dX9_readNumbers_27 : decode cX9_readNumbers 27 = .ok (.baload, 1) := by decide +kernel
theorem dX9_readNumbers_28 : decode cX9_readNumbers 28 = .ok (.istore 5, 2) := by decide +kernel
theorem dX9_readNumbers_30 : decode cX9_readNumbers 30 = .ok (.iload 5, 2) := by decide +kernel
theorem dX9_readNumbers_32 : decode cX9_readNumbers 32 = .ok (.bipush 48, 2) := by decide +kernel
theorem dX9_readNumbers_34 : decode cX9_readNumbers 34 = .ok (.if_icmp .lt 35, 3) := by decide +kernel
theorem dX9_readNumbers_37 : decode cX9_readNumbers 37 = .ok (.iload 5, 2) := by decide +kernel
theorem dX9_readNumbers_39 : decode cX9_readNumbers 39 = .ok (.bipush 57, 2) := by decide +kernel
theorem dX9_readNumbers_41 : decode cX9_readNumbers 41 = .ok (.if_icmp .gt 28, 3) := by decide +kernel
theorem dX9_readNumbers_44 : decode cX9_readNumbers 44 = .ok (.iload_n 2, 1) := by decide +kernel
theorem dX9_readNumbers_45 : decode cX9_readNumbers 45 = .ok (.iconst 4, 1) := by decide +kernel
theorem dX9_readNumbers_46 : decode cX9_readNumbers 46 = .ok (.if_icmp .ne 6, 3) := by decide +kernel
theorem dX9_readNumbers_49 : decode cX9_readNumbers 49 = .ok (.bipush (-4), 2) := by decide +kernel
theorem dX9_readNumbers_51 : decode cX9_readNumbers 51 = .ok (.ireturn, 1) := by decide +kernel
theorem dX9_readNumbers_52 : decode cX9_readNumbers 52 = .ok (.bipush 10, 2) := by decide +kernel
theorem dX9_readNumbers_54 : decode cX9_readNumbers 54 = .ok (.iload_n 3, 1) := by decide +kernel
theorem dX9_readNumbers_55 : decode cX9_readNumbers 55 = .ok (.imul, 1) := by decide +kernel
theorem dX9_readNumbers_56 : decode cX9_readNumbers 56 = .ok (.iload 5, 2) := by decide +kernel
theorem dX9_readNumbers_58 : decode cX9_readNumbers 58 = .ok (.bipush 48, 2) := by decide +kernel
theorem dX9_readNumbers_60 : decode cX9_readNumbers 60 = .ok (.isub, 1) := by decide +kernel
theorem dX9_readNumbers_61 : decode cX9_readNumbers 61 = .ok (.iadd, 1) := by decide +kernel
theorem dX9_readNumbers_62 : decode cX9_readNumbers 62 = .ok (.istore_n 3, 1) := by decide +kernel
theorem dX9_readNumbers_63 : decode cX9_readNumbers 63 = .ok (.iinc 2 1, 3) := by decide +kernel
theorem dX9_readNumbers_66 : decode cX9_readNumbers 66 = .ok (.goto 69, 3) := by decide +kernel
theorem dX9_readNumbers_69 : decode cX9_readNumbers 69 = .ok (.iload 5, 2) := by decide +kernel
theorem dX9_readNumbers_71 : decode cX9_readNumbers 71 = .ok (.bipush 44, 2) := by decide +kernel
theorem dX9_readNumbers_73 : decode cX9_readNumbers 73 = .ok (.if_icmp .eq 10, 3) := by decide +kernel
theorem dX9_readNumbers_76 : decode cX9_readNumbers 76 = .ok (.iload 5, 2) := by decide +kernel
theorem dX9_readNumbers_78 : decode cX9_readNumbers 78 = .ok (.bipush 59, 2) := by decide +kernel
theorem dX9_readNumbers_80 : decode cX9_readNumbers 80 = .ok (.if_icmp .ne 16, 3) := by decide +kernel
theorem dX9_readNumbers_83 : decode cX9_readNumbers 83 = .ok (.iload_n 2, 1) := by decide +kernel
theorem dX9_readNumbers_84 : decode cX9_readNumbers 84 = .ok (.ifCond .eq 12, 3) := by decide +kernel
theorem dX9_readNumbers_87 : decode cX9_readNumbers 87 = .ok (.aload_n 0, 1) := by decide +kernel
theorem dX9_readNumbers_88 : decode cX9_readNumbers 88 = .ok (.getfield 32, 3) := by decide +kernel
theorem dX9_readNumbers_91 : decode cX9_readNumbers 91 = .ok (.bipush 8, 2) := by decide +kernel
theorem dX9_readNumbers_93 : decode cX9_readNumbers 93 = .ok (.if_icmp .ne 6, 3) := by decide +kernel
theorem dX9_readNumbers_96 : decode cX9_readNumbers 96 = .ok (.bipush (-4), 2) := by decide +kernel
theorem dX9_readNumbers_98 : decode cX9_readNumbers 98 = .ok (.ireturn, 1) := by decide +kernel
theorem dX9_readNumbers_99 : decode cX9_readNumbers 99 = .ok (.aload_n 0, 1) := by decide +kernel
theorem dX9_readNumbers_100 : decode cX9_readNumbers 100 = .ok (.getfield 15, 3) := by decide +kernel
theorem dX9_readNumbers_103 : decode cX9_readNumbers 103 = .ok (.aload_n 0, 1) := by decide +kernel
theorem dX9_readNumbers_104 : decode cX9_readNumbers 104 = .ok (.getfield 32, 3) := by decide +kernel
theorem dX9_readNumbers_107 : decode cX9_readNumbers 107 = .ok (.iload_n 3, 1) := by decide +kernel
theorem dX9_readNumbers_108 : decode cX9_readNumbers 108 = .ok (.iastore, 1) := by decide +kernel
theorem dX9_readNumbers_109 : decode cX9_readNumbers 109 = .ok (.aload_n 0, 1) := by decide +kernel
theorem dX9_readNumbers_110 : decode cX9_readNumbers 110 = .ok (.dup, 1) := by decide +kernel
theorem dX9_readNumbers_111 : decode cX9_readNumbers 111 = .ok (.getfield 32, 3) := by decide +kernel
theorem dX9_readNumbers_114 : decode cX9_readNumbers 114 = .ok (.iconst 1, 1) := by decide +kernel
theorem dX9_readNumbers_115 : decode cX9_readNumbers 115 = .ok (.iadd, 1) := by decide +kernel
theorem dX9_readNumbers_116 : decode cX9_readNumbers 116 = .ok (.putfield 32, 3) := by decide +kernel
theorem dX9_readNumbers_119 : decode cX9_readNumbers 119 = .ok (.iload 5, 2) := by decide +kernel
theorem dX9_readNumbers_121 : decode cX9_readNumbers 121 = .ok (.bipush 59, 2) := by decide +kernel
theorem dX9_readNumbers_123 : decode cX9_readNumbers 123 = .ok (.if_icmp .ne 8, 3) := by decide +kernel
theorem dX9_readNumbers_126 : decode cX9_readNumbers 126 = .ok (.iload 4, 2) := by decide +kernel
theorem dX9_readNumbers_128 : decode cX9_readNumbers 128 = .ok (.iconst 1, 1) := by decide +kernel
theorem dX9_readNumbers_129 : decode cX9_readNumbers 129 = .ok (.iadd, 1) := by decide +kernel
theorem dX9_readNumbers_130 : decode cX9_readNumbers 130 = .ok (.ireturn, 1) := by decide +kernel
theorem dX9_readNumbers_131 : decode cX9_readNumbers 131 = .ok (.iconst 0, 1) := by decide +kernel
theorem dX9_readNumbers_132 : decode cX9_readNumbers 132 = .ok (.istore_n 2, 1) := by decide +kernel
theorem dX9_readNumbers_133 : decode cX9_readNumbers 133 = .ok (.iconst 0, 1) := by decide +kernel
theorem dX9_readNumbers_134 : decode cX9_readNumbers 134 = .ok (.istore_n 3, 1) := by decide +kernel
theorem dX9_readNumbers_135 : decode cX9_readNumbers 135 = .ok (.iinc 4 1, 3) := by decide +kernel
theorem dX9_readNumbers_138 : decode cX9_readNumbers 138 = .ok (.goto (-126), 3) := by decide +kernel
theorem dX9_readNumbers_141 : decode cX9_readNumbers 141 = .ok (.bipush (-4), 2) := by decide +kernel
theorem dX9_readNumbers_143 : decode cX9_readNumbers 143 = .ok (.ireturn, 1) := by decide +kernel
theorem fw_X9_32 : fI RX9 32 9 3 := ⟨⟨lwG_1 (i := 34) rfl rfl, by decide, by decide⟩, rfl⟩
theorem fw_X9_15 : fR RX9 15 9 2 := ⟨⟨lwG_1 (i := 33) rfl rfl, by decide, by decide⟩, fun _ _ => rfl, fun r => ⟨r, rfl⟩⟩
section W_X9_readNumbers
variable {p : Program} {l : Launch} {e : Env} {s : State} {m : MethodId} {args : Array Value} {below : List Frame} {meth : Method} {c : Code} {D : va_G} {cy : Nat → ClassId} {G : Nat × Nat} {n0 : Nat} {Qp : Option PV → Mm → Prop}
set_option maxRecDepth 100000 in
set_option maxHeartbeats 4000000 in
theorem k_X9_readNumbers_83 {o0 : Nat} {x2 : Int} {x3 : Int} {x4 : Int} {x5 : Int} {M : Mm} {Q : Int → Mm → Prop} {K12 : Int × Int × Int × Mm → Prop} (C : Cx p s m args meth c cX9_readNumbers 6 RX9 D cy G n0) (hr : meth.sig.returnType = some .int) (h3 : n0 = 243) (hn : M.2.2.2 = n0) (ho0 : o0 < 243 ∧ (SH o0).1 = 9) (hQ : ∀ x M, Q x M → Qp (some (vI x)) M) (hK12 : ∀ (x2 : Int) (x3 : Int) (x4 : Int) (M : Mm), K12 (x2, x3, x4, M) → M.2.2.2 = n0 → WW p l e ({ frames := 0, cells := 0, slots := 0, locals := 0 }) s m args below meth c (ZQ below args s D cy G n0 Qp n0) 6 D cy G n0 12 [(0, vR (some o0)), (2, vI x2), (3, vI x3), (4, vI x4)] [] M) (h : P_X9_readNumbers_83 o0 x2 x3 x4 x5 M Q K12) : WW p l e ({ frames := 0, cells := 0, slots := 0, locals := 0 }) s m args below meth c (ZQ below args s D cy G n0 Qp n0) 6 D cy G n0 83 [(0, vR (some o0)), (2, vI x2), (3, vI x3), (4, vI x4), (5, vI x5)] [] M := by
  unfold P_X9_readNumbers_83 at h
  refine w_iload_n C dX9_readNumbers_83 rfl (mem_k 1 rfl) ?_
  refine w_if_eq (tgt := 96) C dX9_readNumbers_84 (by decide) (fun q => ?_) (fun q => ?_)
  · replace h := h.1 q
    refine w_bipush C dX9_readNumbers_96 (by decide) ?_
    exact x_iret C hr dX9_readNumbers_98 hn (hQ _ M h)
  · replace h := h.2 q
    refine w_aload_n C dX9_readNumbers_87 rfl (mem_k 0 rfl) ?_
    refine x_getI C dX9_readNumbers_88 fw_X9_32 (isO.n (ci := 9) ⟨rfl, ho0⟩ (hn.trans h3)) ?_
    refine w_bipush C dX9_readNumbers_91 (by decide) ?_
    refine w_icmp_ne (tgt := 99) C dX9_readNumbers_93 (by decide) (fun q => ?_) (fun q => ?_)
    · replace h := h.1 q
      refine w_aload_n C dX9_readNumbers_99 rfl (mem_k 0 rfl) ?_
      refine x_getR C dX9_readNumbers_100 fw_X9_15 (isO.n (ci := 9) ⟨rfl, ho0⟩ (hn.trans h3)) (fun r1 er1 => ?_)
      replace h := h r1 er1
      refine w_aload_n C dX9_readNumbers_103 rfl (mem_k 0 rfl) ?_
      refine x_getI C dX9_readNumbers_104 fw_X9_32 (isO.n (ci := 9) ⟨rfl, ho0⟩ (hn.trans h3)) ?_
      refine w_iload_n C dX9_readNumbers_107 rfl (mem_k 2 rfl) ?_
      obtain ⟨o2, g3, h⟩ := h
      refine x_iast C dX9_readNumbers_108 (isA.n g3 (hn.trans h3)) (fun M4 eM4 hn5 => ?_)
      replace h := h M4 eM4
      replace hn5 := hn5.trans hn
      refine w_aload_n C dX9_readNumbers_109 rfl (mem_k 0 rfl) ?_
      refine w_dup C dX9_readNumbers_110 rfl ?_
      refine x_getI C dX9_readNumbers_111 fw_X9_32 (isO.n (ci := 9) ⟨rfl, ho0⟩ (hn5.trans h3)) ?_
      refine w_iconst C dX9_readNumbers_114 ⟨by decide, by decide⟩ ?_
      refine w_iadd C dX9_readNumbers_115 h.1 ?_
      replace h := h.2
      refine x_putI C dX9_readNumbers_116 fw_X9_32 (isO.n (ci := 9) ⟨rfl, ho0⟩ (hn5.trans h3)) (Or.inl rfl) (fun M6 eM6 hn7 => ?_)
      replace h := h M6 eM6
      replace hn7 := hn7.trans hn5
      refine w_iload C dX9_readNumbers_119 (mem_k 4 rfl) ?_
      refine w_bipush C dX9_readNumbers_121 (by decide) ?_
      refine w_icmp_ne (tgt := 131) C dX9_readNumbers_123 (by decide) (fun q => ?_) (fun q => ?_)
      · replace h := h.1 q
        refine w_iconst C dX9_readNumbers_131 ⟨by decide, by decide⟩ ?_
        refine x_istore_n (L' := [(2, vI 0), (0, vR (some o0)), (3, vI x3), (4, vI x4), (5, vI x5)]) C dX9_readNumbers_132 rfl (by decide) rfl ?_
        refine w_iconst C dX9_readNumbers_133 ⟨by decide, by decide⟩ ?_
        refine x_istore_n (L' := [(3, vI 0), (2, vI 0), (0, vR (some o0)), (4, vI x4), (5, vI x5)]) C dX9_readNumbers_134 rfl (by decide) rfl ?_
        obtain ⟨v8, ev8⟩ : ∃ z : Int, z = x4 + 1 := ⟨_, rfl⟩
        refine x_iinc (L' := [(4, vI v8), (3, vI 0), (2, vI 0), (0, vR (some o0)), (5, vI x5)]) C dX9_readNumbers_135 (mem_k 3 rfl) (by decide) h.1 ev8 rfl ?_
        replace h := h.2 v8 ev8
        refine w_goto (tgt := 12) C dX9_readNumbers_138 (by decide) ?_
        refine x_pc (pc2 := 12) rfl ?_
        refine x_pick (L' := [(0, vR (some o0)), (2, vI 0), (3, vI 0), (4, vI v8)]) [3, 2, 1, 0] rfl ?_
        exact hK12 0 0 v8 M6 h hn7
      · replace h := h.2 q
        refine w_iload C dX9_readNumbers_126 (mem_k 3 rfl) ?_
        refine w_iconst C dX9_readNumbers_128 ⟨by decide, by decide⟩ ?_
        refine w_iadd C dX9_readNumbers_129 h.1 ?_
        replace h := h.2
        exact x_iret C hr dX9_readNumbers_130 hn7 (hQ _ M6 h)
    · replace h := h.2 q
      refine w_bipush C dX9_readNumbers_96 (by decide) ?_
      exact x_iret C hr dX9_readNumbers_98 hn (hQ _ M h)
set_option maxRecDepth 100000 in
set_option maxHeartbeats 4000000 in
theorem k_X9_readNumbers_69 {o0 : Nat} {x2 : Int} {x3 : Int} {x4 : Int} {x5 : Int} {M : Mm} {Q : Int → Mm → Prop} {K12 : Int × Int × Int × Mm → Prop} (C : Cx p s m args meth c cX9_readNumbers 6 RX9 D cy G n0) (hr : meth.sig.returnType = some .int) (h3 : n0 = 243) (hn : M.2.2.2 = n0) (ho0 : o0 < 243 ∧ (SH o0).1 = 9) (hQ : ∀ x M, Q x M → Qp (some (vI x)) M) (hK12 : ∀ (x2 : Int) (x3 : Int) (x4 : Int) (M : Mm), K12 (x2, x3, x4, M) → M.2.2.2 = n0 → WW p l e ({ frames := 0, cells := 0, slots := 0, locals := 0 }) s m args below meth c (ZQ below args s D cy G n0 Qp n0) 6 D cy G n0 12 [(0, vR (some o0)), (2, vI x2), (3, vI x3), (4, vI x4)] [] M) (h : P_X9_readNumbers_69 o0 x2 x3 x4 x5 M Q K12) : WW p l e ({ frames := 0, cells := 0, slots := 0, locals := 0 }) s m args below meth c (ZQ below args s D cy G n0 Qp n0) 6 D cy G n0 69 [(0, vR (some o0)), (2, vI x2), (3, vI x3), (4, vI x4), (5, vI x5)] [] M := by
  unfold P_X9_readNumbers_69 at h
  refine w_iload C dX9_readNumbers_69 (mem_k 4 rfl) ?_
  refine w_bipush C dX9_readNumbers_71 (by decide) ?_
  refine w_icmp_eq (tgt := 83) C dX9_readNumbers_73 (by decide) (fun q => ?_) (fun q => ?_)
  · replace h := h.1 q
    refine x_pc (pc2 := 83) rfl ?_
    refine x_pick (L' := [(0, vR (some o0)), (2, vI x2), (3, vI x3), (4, vI x4), (5, vI x5)]) [0, 1, 2, 3, 4] rfl ?_
    exact k_X9_readNumbers_83 C hr h3 hn ho0 hQ hK12 h
  · replace h := h.2 q
    refine w_iload C dX9_readNumbers_76 (mem_k 4 rfl) ?_
    refine w_bipush C dX9_readNumbers_78 (by decide) ?_
    refine w_icmp_ne (tgt := 96) C dX9_readNumbers_80 (by decide) (fun q => ?_) (fun q => ?_)
    · replace h := h.1 q
      refine w_bipush C dX9_readNumbers_96 (by decide) ?_
      exact x_iret C hr dX9_readNumbers_98 hn (hQ _ M h)
    · replace h := h.2 q
      refine x_pc (pc2 := 83) rfl ?_
      refine x_pick (L' := [(0, vR (some o0)), (2, vI x2), (3, vI x3), (4, vI x4), (5, vI x5)]) [0, 1, 2, 3, 4] rfl ?_
      exact k_X9_readNumbers_83 C hr h3 hn ho0 hQ hK12 h
set_option maxRecDepth 100000 in
set_option maxHeartbeats 4000000 in
theorem f_X9_readNumbers_12 {o0 : Nat} {x2 : Int} {x3 : Int} {x4 : Int} {M : Mm} {Q : Int → Mm → Prop} {K12 : Int × Int × Int × Mm → Prop} (C : Cx p s m args meth c cX9_readNumbers 6 RX9 D cy G n0) (hr : meth.sig.returnType = some .int) (h3 : n0 = 243) (hn : M.2.2.2 = n0) (ho0 : o0 < 243 ∧ (SH o0).1 = 9) (hQ : ∀ x M, Q x M → Qp (some (vI x)) M) (hK12 : ∀ (x2 : Int) (x3 : Int) (x4 : Int) (M : Mm), K12 (x2, x3, x4, M) → M.2.2.2 = n0 → WW p l e ({ frames := 0, cells := 0, slots := 0, locals := 0 }) s m args below meth c (ZQ below args s D cy G n0 Qp n0) 6 D cy G n0 12 [(0, vR (some o0)), (2, vI x2), (3, vI x3), (4, vI x4)] [] M) (h : F_X9_readNumbers_12 o0 Q  K12 x2 x3 x4 M) : WW p l e ({ frames := 0, cells := 0, slots := 0, locals := 0 }) s m args below meth c (ZQ below args s D cy G n0 Qp n0) 6 D cy G n0 12 [(0, vR (some o0)), (2, vI x2), (3, vI x3), (4, vI x4)] [] M := by
  unfold F_X9_readNumbers_12 at h
  refine w_iload C dX9_readNumbers_12 (mem_k 3 rfl) ?_
  refine w_aload_n C dX9_readNumbers_14 rfl (mem_k 0 rfl) ?_
  refine x_getI C dX9_readNumbers_15 fw_X9_19 (isO.n (ci := 9) ⟨rfl, ho0⟩ (hn.trans h3)) ?_
  refine w_icmp_ge (tgt := 141) C dX9_readNumbers_18 (by decide) (fun q => ?_) (fun q => ?_)
  · replace h := h.1 q
    refine w_bipush C dX9_readNumbers_141 (by decide) ?_
    exact x_iret C hr dX9_readNumbers_143 hn (hQ _ M h)
  · replace h := h.2 q
    refine w_aload_n C dX9_readNumbers_21 rfl (mem_k 0 rfl) ?_
    refine x_getR C dX9_readNumbers_22 fw_X9_9 (isO.n (ci := 9) ⟨rfl, ho0⟩ (hn.trans h3)) (fun r9 er9 => ?_)
    replace h := h r9 er9
    refine w_iload C dX9_readNumbers_25 (mem_k 3 rfl) ?_
    obtain ⟨o10, g11, h⟩ := h
    refine x_bald C dX9_readNumbers_27 (isA.n g11 (hn.trans h3)) ?_
    refine x_nmI (fun v12 ev12 => ?_)
    replace h := h v12 ev12
    refine x_istore (L' := [(5, vI v12), (0, vR (some o0)), (2, vI x2), (3, vI x3), (4, vI x4)]) C dX9_readNumbers_28 (by decide) rfl ?_
    refine w_iload C dX9_readNumbers_30 (mem_k 0 rfl) ?_
    refine w_bipush C dX9_readNumbers_32 (by decide) ?_
    refine w_icmp_lt (tgt := 69) C dX9_readNumbers_34 (by decide) (fun q => ?_) (fun q => ?_)
    · replace h := h.1 q
      refine x_pc (pc2 := 69) rfl ?_
      refine x_pick (L' := [(0, vR (some o0)), (2, vI x2), (3, vI x3), (4, vI x4), (5, vI v12)]) [1, 2, 3, 4, 0] rfl ?_
      exact k_X9_readNumbers_69 C hr h3 hn ho0 hQ hK12 h
    · replace h := h.2 q
      refine w_iload C dX9_readNumbers_37 (mem_k 0 rfl) ?_
      refine w_bipush C dX9_readNumbers_39 (by decide) ?_
      refine w_icmp_gt (tgt := 69) C dX9_readNumbers_41 (by decide) (fun q => ?_) (fun q => ?_)
      · replace h := h.1 q
        refine x_pc (pc2 := 69) rfl ?_
        refine x_pick (L' := [(0, vR (some o0)), (2, vI x2), (3, vI x3), (4, vI x4), (5, vI v12)]) [1, 2, 3, 4, 0] rfl ?_
        exact k_X9_readNumbers_69 C hr h3 hn ho0 hQ hK12 h
      · replace h := h.2 q
        refine w_iload_n C dX9_readNumbers_44 rfl (mem_k 2 rfl) ?_
        refine w_iconst C dX9_readNumbers_45 ⟨by decide, by decide⟩ ?_
        refine w_icmp_ne (tgt := 52) C dX9_readNumbers_46 (by decide) (fun q => ?_) (fun q => ?_)
        · replace h := h.1 q
          refine w_bipush C dX9_readNumbers_52 (by decide) ?_
          refine w_iload_n C dX9_readNumbers_54 rfl (mem_k 3 rfl) ?_
          refine w_imul C dX9_readNumbers_55 h.1 ?_
          replace h := h.2
          refine w_iload C dX9_readNumbers_56 (mem_k 0 rfl) ?_
          refine w_bipush C dX9_readNumbers_58 (by decide) ?_
          refine w_isub C dX9_readNumbers_60 h.1 ?_
          replace h := h.2
          refine w_iadd C dX9_readNumbers_61 h.1 ?_
          replace h := h.2
          refine x_nmI (fun v13 ev13 => ?_)
          replace h := h v13 ev13
          refine x_istore_n (L' := [(3, vI v13), (5, vI v12), (0, vR (some o0)), (2, vI x2), (4, vI x4)]) C dX9_readNumbers_62 rfl (by decide) rfl ?_
          obtain ⟨v14, ev14⟩ : ∃ z : Int, z = x2 + 1 := ⟨_, rfl⟩
          refine x_iinc (L' := [(2, vI v14), (3, vI v13), (5, vI v12), (0, vR (some o0)), (4, vI x4)]) C dX9_readNumbers_63 (mem_k 3 rfl) (by decide) h.1 ev14 rfl ?_
          replace h := h.2 v14 ev14
          refine w_goto (tgt := 135) C dX9_readNumbers_66 (by decide) ?_
          obtain ⟨v15, ev15⟩ : ∃ z : Int, z = x4 + 1 := ⟨_, rfl⟩
          refine x_iinc (L' := [(4, vI v15), (2, vI v14), (3, vI v13), (5, vI v12), (0, vR (some o0))]) C dX9_readNumbers_135 (mem_k 4 rfl) (by decide) h.1 ev15 rfl ?_
          replace h := h.2 v15 ev15
          refine w_goto (tgt := 12) C dX9_readNumbers_138 (by decide) ?_
          refine x_pc (pc2 := 12) rfl ?_
          refine x_pick (L' := [(0, vR (some o0)), (2, vI v14), (3, vI v13), (4, vI v15)]) [4, 1, 2, 0] rfl ?_
          exact hK12 v14 v13 v15 M h hn
        · replace h := h.2 q
          refine w_bipush C dX9_readNumbers_49 (by decide) ?_
          exact x_iret C hr dX9_readNumbers_51 hn (hQ _ M h)
set_option maxRecDepth 100000 in
set_option maxHeartbeats 4000000 in
theorem k_X9_readNumbers_12 {o0 : Nat} {x2 : Int} {x3 : Int} {x4 : Int} {M : Mm} {Q : Int → Mm → Prop} (C : Cx p s m args meth c cX9_readNumbers 6 RX9 D cy G n0) (hr : meth.sig.returnType = some .int) (h3 : n0 = 243) (hn : M.2.2.2 = n0) (ho0 : o0 < 243 ∧ (SH o0).1 = 9) (hQ : ∀ x M, Q x M → Qp (some (vI x)) M) (h : P_X9_readNumbers_12 o0 x2 x3 x4 M Q ) : WW p l e ({ frames := 0, cells := 0, slots := 0, locals := 0 }) s m args below meth c (ZQ below args s D cy G n0 Qp n0) 6 D cy G n0 12 [(0, vR (some o0)), (2, vI x2), (3, vI x3), (4, vI x4)] [] M := by
  refine lpW_sound (P := fun y : Int × Int × Int × Mm => y.2.2.2.2.2.2 = n0 → WW p l e ({ frames := 0, cells := 0, slots := 0, locals := 0 }) s m args below meth c (ZQ below args s D cy G n0 Qp n0) 6 D cy G n0 12 [(0, vR (some o0)), (2, vI y.1), (3, vI y.2.1), (4, vI y.2.2.1)] [] y.2.2.2) ?_ h hn
  intro K y hK hF
  obtain ⟨x2, x3, x4, M⟩ := y
  intro hn
  exact f_X9_readNumbers_12 C hr h3 hn ho0 hQ  (fun x2 x3 x4 M hk => hK (x2, x3, x4, M) hk) hF
set_option maxRecDepth 100000 in
set_option maxHeartbeats 4000000 in
theorem k_X9_readNumbers_0 {o0 : Nat} {x1 : Int} {M : Mm} {Q : Int → Mm → Prop} (C : Cx p s m args meth c cX9_readNumbers 6 RX9 D cy G n0) (hr : meth.sig.returnType = some .int) (h3 : n0 = 243) (hn : M.2.2.2 = n0) (ho0 : o0 < 243 ∧ (SH o0).1 = 9) (hQ : ∀ x M, Q x M → Qp (some (vI x)) M) (h : P_X9_readNumbers o0 x1 M Q ) : WW p l e ({ frames := 0, cells := 0, slots := 0, locals := 0 }) s m args below meth c (ZQ below args s D cy G n0 Qp n0) 6 D cy G n0 0 [(0, vR (some o0)), (1, vI x1)] [] M := by
  unfold P_X9_readNumbers at h
  refine w_aload_n C dX9_readNumbers_0 rfl (mem_k 0 rfl) ?_
  refine w_iconst C dX9_readNumbers_1 ⟨by decide, by decide⟩ ?_
  refine x_putI C dX9_readNumbers_2 fw_X9_32 (isO.n (ci := 9) ⟨rfl, ho0⟩ (hn.trans h3)) (Or.inl rfl) (fun M16 eM16 hn17 => ?_)
  replace h := h M16 eM16
  replace hn17 := hn17.trans hn
  refine w_iconst C dX9_readNumbers_5 ⟨by decide, by decide⟩ ?_
  refine x_istore_n (L' := [(2, vI 0), (0, vR (some o0)), (1, vI x1)]) C dX9_readNumbers_6 rfl (by decide) rfl ?_
  refine w_iconst C dX9_readNumbers_7 ⟨by decide, by decide⟩ ?_
  refine x_istore_n (L' := [(3, vI 0), (2, vI 0), (0, vR (some o0)), (1, vI x1)]) C dX9_readNumbers_8 rfl (by decide) rfl ?_
  refine w_iload_n C dX9_readNumbers_9 rfl (mem_k 3 rfl) ?_
  refine x_istore (L' := [(4, vI x1), (3, vI 0), (2, vI 0), (0, vR (some o0)), (1, vI x1)]) C dX9_readNumbers_10 (by decide) rfl ?_
  refine x_pc (pc2 := 12) rfl ?_
  refine x_pick (L' := [(0, vR (some o0)), (2, vI 0), (3, vI 0), (4, vI x1)]) [3, 2, 1, 0] rfl ?_
  exact k_X9_readNumbers_12 C hr h3 hn17 ho0 hQ  h
set_option maxRecDepth 100000 in
set_option maxHeartbeats 4000000 in
theorem con_X9_readNumbers (l : Launch) (D : va_G) (cy : Nat → ClassId) : Con l D cy yX9_readNumbers cX9_readNumbers 6 (some .int) ({ frames := 0, cells := 0, slots := 0, locals := 0 }) 0 0 SP_X9_readNumbers := by
  refine con_of (by decide) (fun as M Qp h => ?_) ?_
  · obtain ⟨-, o0, x1, rfl, -⟩ := h
    exact Nat.le_of_ble_eq_true rfl
  · intro p e s m args below meth c G as M Qp h C hr hnm
    obtain ⟨hn, o0, x1, rfl, ho1, ho2, Q0, hQ, h⟩ := h
    refine x_pick (L' := [(0, vR (some o0)), (1, vI x1)]) [0, 1] rfl ?_
    exact k_X9_readNumbers_0 C hr hn rfl ⟨ho1, ho2⟩ hQ h
set_option maxRecDepth 100000 in
set_option maxHeartbeats 4000000 in
theorem cl_X9_readNumbers {p : Program} {l : Launch} {e : Env} {R : Room} {s : State} {m : MethodId} {args : Array Value} {below : List Frame} {meth : Method} {c : Code} {Q : State → Prop} {cc : ByteArray} {nL : Nat} {own : String} {D : va_G} {cy : Nat → ClassId} {G : Nat × Nat} {n0 pc : Nat} {L : List (Nat × PV)} {st : List PV} {M : Mm} {op : Instr} (K : CallOK l D cy R own op 0 0 (spV 9 1 SP_X9_readNumbers)) (C : Cx p s m args meth c cc nL own D cy G n0) (hd : decode cc pc = .ok (op, 3)) (hn : M.2.2.2 = n0) (h3 : n0 = 243) (hlen : argN st ≤ 8) {r : Option Nat} {o0 : Nat} (ho : isOn 9 M.2.2.2 r o0) {x1 : Int} {Q0 : Int → Mm → Prop} (h : P_X9_readNumbers o0 x1 M Q0) (k : ∀ x M2, Q0 x M2 → M2.2.2.2 = n0 → WW p l e R s m args below meth c Q nL D cy G n0  (pc + 3) L (vI x :: st) M2) : WW p l e R s m args below meth c Q nL D cy G n0  pc L (vI x1 :: vR r :: st) M := by
  obtain ⟨rfl, ho1, ho2⟩ := ho
  refine x_call0 K C hd (as := [vR (some o0), vI x1]) rfl hn hlen (fun v M2 => ∃ x, v = some (vI x) ∧ Q0 x M2) ⟨⟨o0, [vI x1], rfl, rfl, ho1, ho2⟩, hn.trans h3, o0, x1, rfl, (hn.trans h3) ▸ ho1, ho2, Q0, fun x M2 hx => ⟨x, rfl, hx⟩, h⟩ ?_
  rintro _ _ ⟨x, rfl, hx⟩ hm
  exact k x _ hx hm
end W_X9_readNumbers
theorem dX9_readInto_0 : decode cX9_readInto 0 = .ok (.aload_n 1, 1) := by decide +kernel
theorem dX9_readInto_1 : decode cX9_readInto 1 = .ok (.invokevirtual 23, 3) := by decide +kernel
theorem dX9_readInto_4 : decode cX9_readInto 4 = .ok (.iconst 0, 1) := by decide +kernel
theorem dX9_readInto_5 : decode cX9_readInto 5 = .ok (.istore_n 2, 1) := by decide +kernel
theorem dX9_readInto_6 : decode cX9_readInto 6 = .ok (.iconst 0, 1) := by decide +kernel
theorem dX9_readInto_7 : decode cX9_readInto 7 = .ok (.istore_n 3, 1) := by decide +kernel
theorem dX9_readInto_8 : decode cX9_readInto 8 = .ok (.iload_n 3, 1) := by decide +kernel
theorem dX9_readInto_9 : decode cX9_readInto 9 = .ok (.sipush 300, 3) := by decide +kernel
theorem dX9_readInto_12 : decode cX9_readInto 12 = .ok (.if_icmp .ge 59, 3) := by decide +kernel
theorem dX9_readInto_15 : decode cX9_readInto 15 = .ok (.iload_n 2, 1) := by decide +kernel
theorem dX9_readInto_16 : decode cX9_readInto 16 = .ok (.aload_n 0, 1) := by decide +kernel
theorem dX9_readInto_17 : decode cX9_readInto 17 = .ok (.getfield 19, 3) := by decide +kernel
theorem dX9_readInto_20 : decode cX9_readInto 20 = .ok (.if_icmp .ge 51, 3) := by decide +kernel
theorem dX9_readInto_23 : decode cX9_readInto 23 = .ok (.aload_n 0, 1) := by decide +kernel
theorem dX9_readInto_24 : decode cX9_readInto 24 = .ok (.iload_n 2, 1) := by decide +kernel
theorem dX9_readInto_25 : decode cX9_readInto 25 = .ok (.iconst 1, 1) := by decide +kernel
theorem dX9_readInto_26 : decode cX9_readInto 26 = .ok (.iadd, 1) := by decide +kernel
theorem dX9_readInto_27 : decode cX9_readInto 27 = .ok (.invokevirtual 28, 3) := by decide +kernel
theorem dX9_readInto_30 : decode cX9_readInto 30 = .ok (.istore 4, 2) := by decide +kernel
theorem dX9_readInto_32 : decode cX9_readInto 32 = .ok (.iload 4, 2) := by decide +kernel
theorem dX9_readInto_34 : decode cX9_readInto 34 = .ok (.bipush (-4), 2) := by decide +kernel
theorem dX9_readInto_36 : decode cX9_readInto 36 = .ok (.if_icmp .eq 24, 3) := by decide +kernel
theorem dX9_readInto_39 : decode cX9_readInto 39 = .ok (.aload_n 1, 1) := by decide +kernel
theorem dX9_readInto_40 : decode cX9_readInto 40 = .ok (.aload_n 0, 1) := by decide +kernel
theorem dX9_readInto_41 : decode cX9_readInto 41 = .ok (.getfield 9, 3) := by decide +kernel
theorem dX9_readInto_44 : decode cX9_readInto 44 = .ok (.iload_n 2, 1) := by decide +kernel
theorem dX9_readInto_45 : decode cX9_readInto 45 = .ok (.baload, 1) := by decide +kernel
theorem dX9_readInto_46 : decode cX9_readInto 46 = .ok (.aload_n 0, 1) := by decide +kernel
theorem dX9_readInto_47 : decode cX9_readInto 47 = .ok (.getfield 15, 3) := by decide +kernel
theorem dX9_readInto_50 : decode cX9_readInto 50 = .ok (.aload_n 0, 1) := by decide +kernel
theorem dX9_readInto_51 : decode cX9_readInto 51 = .ok (.getfield 32, 3) := by decide +kernel
theorem dX9_readInto_54 : decode cX9_readInto 54 = .ok (.invokevirtual 35, 3) := by decide +kernel
theorem dX9_readInto_57 : decode cX9_readInto 57 = .ok (.ifCond .ne 5, 3) := by decide +kernel
theorem dX9_readInto_60 : decode cX9_readInto 60 = .ok (.iload_n 2, 1) := by decide +kernel
theorem dX9_readInto_61 : decode cX9_readInto 61 = .ok (.ireturn, 1) := by decide +kernel
theorem dX9_readInto_62 : decode cX9_readInto 62 = .ok (.iload 4, 2) := by decide +kernel
theorem dX9_readInto_64 : decode cX9_readInto 64 = .ok (.istore_n 2, 1) := by decide +kernel
theorem dX9_readInto_65 : decode cX9_readInto 65 = .ok (.iinc 3 1, 3) := by decide +kernel
theorem dX9_readInto_68 : decode cX9_readInto 68 = .ok (.goto (-60), 3) := by decide +kernel
theorem dX9_readInto_71 : decode cX9_readInto 71 = .ok (.bipush (-4), 2) := by decide +kernel
theorem dX9_readInto_73 : decode cX9_readInto 73 = .ok (.ireturn, 1) := by decide +kernel
theorem ck_X9_28 {l : Launch} {D : va_G} {cy : Nat → ClassId} {R : Room} (hR : 1 ≤ R.frames ∧ 25 ≤ R.locals) : CallOK l D cy R RX9 (.invokevirtual 28) 0 0 (spV 9 1 SP_X9_readNumbers) := call_V (ci := 9) (con_X9_readNumbers l D cy) (lwG_2 (i := 114) rfl rfl) (lwG_2 (i := 116) rfl rfl) (lwG_p (i := 0) rfl rfl) (lwG_1 (i := 2) rfl rfl) (lwG_2 (i := 117) rfl rfl) (by decide) ⟨rfl, by decide, by decide, rfl⟩ ⟨rfl, rfl⟩ hR
theorem ck_X9_35 {l : Launch} {D : va_G} {cy : Nat → ClassId} {R : Room} (hR : 3 ≤ R.frames ∧ 70 ≤ R.locals) : CallOK l D cy R RX9 (.invokevirtual 35) 0 0 (spV 5 3 SP_X5_takeItem) := call_V (ci := 5) (con_X5_takeItem l D cy) (lwG_2 (i := 118) rfl rfl) (lwG_2 (i := 119) rfl rfl) (lwG_2 (i := 120) rfl rfl) (lwG_1 (i := 3) rfl rfl) (lwG_2 (i := 121) rfl rfl) (by decide) ⟨rfl, by decide, by decide, rfl⟩ ⟨rfl, rfl⟩ hR
theorem ck_X9_23 {l : Launch} {D : va_G} {cy : Nat → ClassId} {R : Room} (hR : 1 ≤ R.frames ∧ 20 ≤ R.locals) : CallOK l D cy R RX9 (.invokevirtual 23) 0 0 (spV 5 0 SP_X5_clear) := call_V (ci := 5) (con_X5_clear l D cy) (lwG_2 (i := 110) rfl rfl) (lwG_2 (i := 111) rfl rfl) (lwG_2 (i := 112) rfl rfl) (lwG_1 (i := 3) rfl rfl) (lwG_2 (i := 113) rfl rfl) (by decide) ⟨rfl, by decide, by decide, rfl⟩ ⟨rfl, rfl⟩ hR
section W_X9_readInto
variable {p : Program} {l : Launch} {e : Env} {s : State} {m : MethodId} {args : Array Value} {below : List Frame} {meth : Method} {c : Code} {D : va_G} {cy : Nat → ClassId} {G : Nat × Nat} {n0 : Nat} {Qp : Option PV → Mm → Prop}
set_option maxRecDepth 100000 in
set_option maxHeartbeats 4000000 in
theorem f_X9_readInto_8 {o0 : Nat} {a1 : Option Nat} {x2 : Int} {x3 : Int} {M : Mm} {Q : Int → Mm → Prop} {K8 : Int × Int × Mm → Prop} (C : Cx p s m args meth c cX9_readInto 5 RX9 D cy G n0) (hr : meth.sig.returnType = some .int) (h3 : n0 = 243) (hn : M.2.2.2 = n0) (ho0 : o0 < 243 ∧ (SH o0).1 = 9) (hQ : ∀ x M, Q x M → Qp (some (vI x)) M) (hK8 : ∀ (x2 : Int) (x3 : Int) (M : Mm), K8 (x2, x3, M) → M.2.2.2 = n0 → WW p l e ({ frames := 3, cells := 0, slots := 0, locals := 70 }) s m args below meth c (ZQ below args s D cy G n0 Qp n0) 5 D cy G n0 8 [(0, vR (some o0)), (1, vR a1), (2, vI x2), (3, vI x3)] [] M) (h : F_X9_readInto_8 o0 a1 Q  K8 x2 x3 M) : WW p l e ({ frames := 3, cells := 0, slots := 0, locals := 70 }) s m args below meth c (ZQ below args s D cy G n0 Qp n0) 5 D cy G n0 8 [(0, vR (some o0)), (1, vR a1), (2, vI x2), (3, vI x3)] [] M := by
  unfold F_X9_readInto_8 at h
  refine w_iload_n C dX9_readInto_8 rfl (mem_k 3 rfl) ?_
  refine w_sipush C dX9_readInto_9 (by decide) ?_
  refine w_icmp_ge (tgt := 71) C dX9_readInto_12 (by decide) (fun q => ?_) (fun q => ?_)
  · replace h := h.1 q
    refine w_bipush C dX9_readInto_71 (by decide) ?_
    exact x_iret C hr dX9_readInto_73 hn (hQ _ M h)
  · replace h := h.2 q
    refine w_iload_n C dX9_readInto_15 rfl (mem_k 2 rfl) ?_
    refine w_aload_n C dX9_readInto_16 rfl (mem_k 0 rfl) ?_
    refine x_getI C dX9_readInto_17 fw_X9_19 (isO.n (ci := 9) ⟨rfl, ho0⟩ (hn.trans h3)) ?_
    refine w_icmp_ge (tgt := 71) C dX9_readInto_20 (by decide) (fun q => ?_) (fun q => ?_)
    · replace h := h.1 q
      refine w_bipush C dX9_readInto_71 (by decide) ?_
      exact x_iret C hr dX9_readInto_73 hn (hQ _ M h)
    · replace h := h.2 q
      refine w_aload_n C dX9_readInto_23 rfl (mem_k 0 rfl) ?_
      refine w_iload_n C dX9_readInto_24 rfl (mem_k 2 rfl) ?_
      refine w_iconst C dX9_readInto_25 ⟨by decide, by decide⟩ ?_
      refine w_iadd C dX9_readInto_26 h.1 ?_
      replace h := h.2
      refine cl_X9_readNumbers (ck_X9_28 ⟨by decide, by decide⟩) C dX9_readInto_27 hn h3 (Nat.le_of_ble_eq_true rfl) (isO.n (ci := 9) ⟨rfl, ho0⟩ (hn.trans h3)) h (fun v1 M2 h hn3 => ?_)
      refine x_istore (L' := [(4, vI v1), (0, vR (some o0)), (1, vR a1), (2, vI x2), (3, vI x3)]) C dX9_readInto_30 (by decide) rfl ?_
      refine w_iload C dX9_readInto_32 (mem_k 0 rfl) ?_
      refine w_bipush C dX9_readInto_34 (by decide) ?_
      refine w_icmp_eq (tgt := 60) C dX9_readInto_36 (by decide) (fun q => ?_) (fun q => ?_)
      · replace h := h.1 q
        refine w_iload_n C dX9_readInto_60 rfl (mem_k 3 rfl) ?_
        exact x_iret C hr dX9_readInto_61 hn3 (hQ _ M2 h)
      · replace h := h.2 q
        refine w_aload_n C dX9_readInto_39 rfl (mem_k 2 rfl) ?_
        refine w_aload_n C dX9_readInto_40 rfl (mem_k 1 rfl) ?_
        refine x_getR C dX9_readInto_41 fw_X9_9 (isO.n (ci := 9) ⟨rfl, ho0⟩ (hn3.trans h3)) (fun r4 er4 => ?_)
        replace h := h r4 er4
        refine w_iload_n C dX9_readInto_44 rfl (mem_k 3 rfl) ?_
        obtain ⟨o5, g6, h⟩ := h
        refine x_bald C dX9_readInto_45 (isA.n g6 (hn3.trans h3)) ?_
        refine w_aload_n C dX9_readInto_46 rfl (mem_k 1 rfl) ?_
        refine x_getR C dX9_readInto_47 fw_X9_15 (isO.n (ci := 9) ⟨rfl, ho0⟩ (hn3.trans h3)) (fun r7 er7 => ?_)
        replace h := h r7 er7
        refine w_aload_n C dX9_readInto_50 rfl (mem_k 1 rfl) ?_
        refine x_getI C dX9_readInto_51 fw_X9_32 (isO.n (ci := 9) ⟨rfl, ho0⟩ (hn3.trans h3)) ?_
        obtain ⟨o8, g9, h⟩ := h
        refine cl_X5_takeItem (ck_X9_35 ⟨by decide, by decide⟩) C dX9_readInto_54 hn3 h3 (Nat.le_of_ble_eq_true rfl) (isO.n g9 (hn3.trans h3)) h (fun v10 M11 h hn12 => ?_)
        refine w_if_ne (tgt := 62) C dX9_readInto_57 (by decide) (fun q => ?_) (fun q => ?_)
        · replace h := h.1 q
          refine w_iload C dX9_readInto_62 (mem_k 0 rfl) ?_
          refine x_istore_n (L' := [(2, vI v1), (4, vI v1), (0, vR (some o0)), (1, vR a1), (3, vI x3)]) C dX9_readInto_64 rfl (by decide) rfl ?_
          obtain ⟨v13, ev13⟩ : ∃ z : Int, z = x3 + 1 := ⟨_, rfl⟩
          refine x_iinc (L' := [(3, vI v13), (2, vI v1), (4, vI v1), (0, vR (some o0)), (1, vR a1)]) C dX9_readInto_65 (mem_k 4 rfl) (by decide) h.1 ev13 rfl ?_
          replace h := h.2 v13 ev13
          refine w_goto (tgt := 8) C dX9_readInto_68 (by decide) ?_
          refine x_pc (pc2 := 8) rfl ?_
          refine x_pick (L' := [(0, vR (some o0)), (1, vR a1), (2, vI v1), (3, vI v13)]) [3, 4, 1, 0] rfl ?_
          exact hK8 v1 v13 M11 h hn12
        · replace h := h.2 q
          refine w_iload_n C dX9_readInto_60 rfl (mem_k 3 rfl) ?_
          exact x_iret C hr dX9_readInto_61 hn12 (hQ _ M11 h)
set_option maxRecDepth 100000 in
set_option maxHeartbeats 4000000 in
theorem k_X9_readInto_8 {o0 : Nat} {a1 : Option Nat} {x2 : Int} {x3 : Int} {M : Mm} {Q : Int → Mm → Prop} (C : Cx p s m args meth c cX9_readInto 5 RX9 D cy G n0) (hr : meth.sig.returnType = some .int) (h3 : n0 = 243) (hn : M.2.2.2 = n0) (ho0 : o0 < 243 ∧ (SH o0).1 = 9) (hQ : ∀ x M, Q x M → Qp (some (vI x)) M) (h : P_X9_readInto_8 o0 a1 x2 x3 M Q ) : WW p l e ({ frames := 3, cells := 0, slots := 0, locals := 70 }) s m args below meth c (ZQ below args s D cy G n0 Qp n0) 5 D cy G n0 8 [(0, vR (some o0)), (1, vR a1), (2, vI x2), (3, vI x3)] [] M := by
  refine lpW_sound (P := fun y : Int × Int × Mm => y.2.2.2.2.2 = n0 → WW p l e ({ frames := 3, cells := 0, slots := 0, locals := 70 }) s m args below meth c (ZQ below args s D cy G n0 Qp n0) 5 D cy G n0 8 [(0, vR (some o0)), (1, vR a1), (2, vI y.1), (3, vI y.2.1)] [] y.2.2) ?_ h hn
  intro K y hK hF
  obtain ⟨x2, x3, M⟩ := y
  intro hn
  exact f_X9_readInto_8 C hr h3 hn ho0 hQ  (fun x2 x3 M hk => hK (x2, x3, M) hk) hF
set_option maxRecDepth 100000 in
set_option maxHeartbeats 4000000 in
theorem k_X9_readInto_0 {o0 : Nat} {a1 : Option Nat} {M : Mm} {Q : Int → Mm → Prop} (C : Cx p s m args meth c cX9_readInto 5 RX9 D cy G n0) (hr : meth.sig.returnType = some .int) (h3 : n0 = 243) (hn : M.2.2.2 = n0) (ho0 : o0 < 243 ∧ (SH o0).1 = 9) (hQ : ∀ x M, Q x M → Qp (some (vI x)) M) (h : P_X9_readInto o0 a1 M Q ) : WW p l e ({ frames := 3, cells := 0, slots := 0, locals := 70 }) s m args below meth c (ZQ below args s D cy G n0 Qp n0) 5 D cy G n0 0 [(0, vR (some o0)), (1, vR a1)] [] M := by
  unfold P_X9_readInto at h
  refine w_aload_n C dX9_readInto_0 rfl (mem_k 1 rfl) ?_
  obtain ⟨o14, g15, h⟩ := h
  refine cl_X5_clear (ck_X9_23 ⟨by decide, by decide⟩) C dX9_readInto_1 hn h3 (Nat.le_of_ble_eq_true rfl) (isO.n g15 (hn.trans h3)) h (fun M16 h hn17 => ?_)
  refine w_iconst C dX9_readInto_4 ⟨by decide, by decide⟩ ?_
  refine x_istore_n (L' := [(2, vI 0), (0, vR (some o0)), (1, vR a1)]) C dX9_readInto_5 rfl (by decide) rfl ?_
  refine w_iconst C dX9_readInto_6 ⟨by decide, by decide⟩ ?_
  refine x_istore_n (L' := [(3, vI 0), (2, vI 0), (0, vR (some o0)), (1, vR a1)]) C dX9_readInto_7 rfl (by decide) rfl ?_
  refine x_pc (pc2 := 8) rfl ?_
  refine x_pick (L' := [(0, vR (some o0)), (1, vR a1), (2, vI 0), (3, vI 0)]) [2, 3, 1, 0] rfl ?_
  exact k_X9_readInto_8 C hr h3 hn17 ho0 hQ  h
set_option maxRecDepth 100000 in
set_option maxHeartbeats 4000000 in
theorem con_X9_readInto (l : Launch) (D : va_G) (cy : Nat → ClassId) : Con l D cy yX9_readInto cX9_readInto 5 (some .int) ({ frames := 3, cells := 0, slots := 0, locals := 70 }) 0 0 SP_X9_readInto := by
  refine con_of (by decide) (fun as M Qp h => ?_) ?_
  · obtain ⟨-, o0, a1, rfl, -⟩ := h
    exact Nat.le_of_ble_eq_true rfl
  · intro p e s m args below meth c G as M Qp h C hr hnm
    obtain ⟨hn, o0, a1, rfl, ho1, ho2, Q0, hQ, h⟩ := h
    refine x_pick (L' := [(0, vR (some o0)), (1, vR a1)]) [0, 1] rfl ?_
    exact k_X9_readInto_0 C hr hn rfl ⟨ho1, ho2⟩ hQ h
set_option maxRecDepth 100000 in
set_option maxHeartbeats 4000000 in
theorem cl_X9_readInto {p : Program} {l : Launch} {e : Env} {R : Room} {s : State} {m : MethodId} {args : Array Value} {below : List Frame} {meth : Method} {c : Code} {Q : State → Prop} {cc : ByteArray} {nL : Nat} {own : String} {D : va_G} {cy : Nat → ClassId} {G : Nat × Nat} {n0 pc : Nat} {L : List (Nat × PV)} {st : List PV} {M : Mm} {op : Instr} (K : CallOK l D cy R own op 0 0 (spV 9 1 SP_X9_readInto)) (C : Cx p s m args meth c cc nL own D cy G n0) (hd : decode cc pc = .ok (op, 3)) (hn : M.2.2.2 = n0) (h3 : n0 = 243) (hlen : argN st ≤ 8) {r : Option Nat} {o0 : Nat} (ho : isOn 9 M.2.2.2 r o0) {a1 : Option Nat} {Q0 : Int → Mm → Prop} (h : P_X9_readInto o0 a1 M Q0) (k : ∀ x M2, Q0 x M2 → M2.2.2.2 = n0 → WW p l e R s m args below meth c Q nL D cy G n0  (pc + 3) L (vI x :: st) M2) : WW p l e R s m args below meth c Q nL D cy G n0  pc L (vR a1 :: vR r :: st) M := by
  obtain ⟨rfl, ho1, ho2⟩ := ho
  refine x_call0 K C hd (as := [vR (some o0), vR a1]) rfl hn hlen (fun v M2 => ∃ x, v = some (vI x) ∧ Q0 x M2) ⟨⟨o0, [vR a1], rfl, rfl, ho1, ho2⟩, hn.trans h3, o0, a1, rfl, (hn.trans h3) ▸ ho1, ho2, Q0, fun x M2 hx => ⟨x, rfl, hx⟩, h⟩ ?_
  rintro _ _ ⟨x, rfl, hx⟩ hm
  exact k x _ hx hm
end W_X9_readInto
theorem dX10_compare_0 : decode cX10_compare 0 = .ok (.aload_n 0, 1) := by decide +kernel
theorem dX10_compare_1 : decode cX10_compare 1 = .ok (.iconst 0, 1) := by decide +kernel
theorem dX10_compare_2 : decode cX10_compare 2 = .ok (.putfield 7, 3) := by decide +kernel
theorem dX10_compare_5 : decode cX10_compare 5 = .ok (.aload_n 0, 1) := by decide +kernel
theorem dX10_compare_6 : decode cX10_compare 6 = .ok (.iconst 0, 1) := by decide +kernel
theorem dX10_compare_7 : decode cX10_compare 7 = .ok (.putfield 13, 3) := by decide +kernel
theorem dX10_compare_10 : decode cX10_compare 10 = .ok (.aload_n 0, 1) := by decide +kernel
theorem dX10_compare_11 : decode cX10_compare 11 = .ok (.iconst 0, 1) := by decide +kernel
theorem dX10_compare_12 : decode cX10_compare 12 = .ok (.putfield 16, 3) := by decide +kernel
theorem dX10_compare_15 : decode cX10_compare 15 = .ok (.iconst 0, 1) := by decide +kernel
theorem dX10_compare_16 : decode cX10_compare 16 = .ok (.istore 4, 2) := by decide +kernel
theorem dX10_compare_18 : decode cX10_compare 18 = .ok (.iload 4, 2) := by decide +kernel
theorem dX10_compare_20 : decode cX10_compare 20 = .ok (.aload_n 1, 1) := by decide +kernel
theorem dX10_compare_21 : decode cX10_compare 21 = .ok (.getfield 19, 3) := by decide +kernel
theorem dX10_compare_24 : decode cX10_compare 24 = .ok (.if_icmp .ge 110, 3) := by decide +kernel
theorem dX10_compare_27 : decode cX10_compare 27 = .ok (.aload_n 1, 1) := by decide +kernel
theorem dX10_compare_28 : decode cX10_compare 28 = .ok (.getfield 24, 3) := by decide +kernel
theorem dX10_compare_31 : decode cX10_compare 31 = .ok (.iload 4, 2) := by decide +kernel
theorem dX10_compare_33 : decode cX10_compare 33 = .ok (.aaload, 1) := by decide +kernel
theorem dX10_compare_34 : decode cX10_compare 34 = .ok (.astore 5, 2) := by decide +kernel
theorem dX10_compare_36 : decode cX10_compare 36 = .ok (.aload 5, 2) := by decide +kernel
theorem dX10_compare_38 : decode cX10_compare 38 = .ok (.iload_n 2, 1) := by decide +kernel
theorem dX10_compare_39 : decode cX10_compare 39 = .ok (.invokevirtual 28, 3) := by decide +kernel
theorem dX10_compare_42 : decode cX10_compare 42 = .ok (.ifCond .eq 86, 3) := by decide +kernel
theorem dX10_compare_45 : decode cX10_compare 45 = .ok (.aload 5, 2) := by decide +kernel
theorem dX10_compare_47 : decode cX10_compare 47 = .ok (.iload_n 3, 1) := by decide +kernel
theorem dX10_compare_48 : decode cX10_compare 48 = .ok (.invokevirtual 28, 3) := by decide +kernel
theorem dX10_compare_51 : decode cX10_compare 51 = .ok (.ifCond .eq 77, 3) := by decide +kernel
theorem dX10_compare_54 : decode cX10_compare 54 = .ok (.aload 5, 2) := by decide +kernel
theorem dX10_compare_56 : decode cX10_compare 56 = .ok (.iload_n 2, 1) := by decide +kernel
theorem dX10_compare_57 : decode cX10_compare 57 = .ok (.invokevirtual 34, 3) := by decide +kernel
theorem dX10_compare_60 : decode cX10_compare 60 = .ok (.aload 5, 2) := by decide +kernel
theorem dX10_compare_62 : decode cX10_compare 62 = .ok (.iload_n 3, 1) := by decide +kernel
theorem dX10_compare_63 : decode cX10_compare 63 = .ok (.invokevirtual 34, 3) := by decide +kernel
theorem dX10_compare_66 : decode cX10_compare 66 = .ok (.invokestatic 38, 3) := by decide +kernel
theorem dX10_compare_69 : decode cX10_compare 69 = .ok (.istore 6, 2) := by decide +kernel
theorem dX10_compare_71 : decode cX10_compare 71 = .ok (.aload_n 0, 1) := by decide +kernel
theorem dX10_compare_72 : decode cX10_compare 72 = .ok (.dup, 1) := by decide +kernel
theorem dX10_compare_73 : decode cX10_compare 73 = .ok (.getfield 7, 3) := by decide +kernel
theorem dX10_compare_76 : decode cX10_compare 76 = .ok (.iload 6, 2) := by decide +kernel
theorem dX10_compare_78 : decode cX10_compare 78 = .ok (.ifCond .le 7, 3) := by decide +kernel
theorem dX10_compare_81 : decode cX10_compare 81 = .ok (.iconst 1, 1) := by decide +kernel
theorem dX10_compare_82 : decode cX10_compare 82 = .ok (.goto 4, 3) := by decide +kernel
theorem dX10_compare_85 : decode cX10_compare 85 = .ok (.iconst 0, 1) := by decide +kernel
theorem dX10_compare_86 : decode cX10_compare 86 = .ok (.iadd, 1) := by decide +kernel
theorem dX10_compare_87 : decode cX10_compare 87 = .ok (.putfield 7, 3) := by decide +kernel
theorem dX10_compare_90 : decode cX10_compare 90 = .ok (.aload_n 0, 1) := by decide +kernel
theorem dX10_compare_91 : decode cX10_compare 91 = .ok (.dup, 1) := by decide +kernel
theorem dX10_compare_92 : decode cX10_compare 92 = .ok (.getfield 13, 3) := by decide +kernel
theorem dX10_compare_95 : decode cX10_compare 95 = .ok (.iload 6, 2) := by decide +kernel
theorem dX10_compare_97 : decode cX10_compare 97 = .ok (.ifCond .ge 7, 3) := by decide +kernel
theorem dX10_compare_100 : decode cX10_compare 100 = .ok (.iconst 1, 1) := by decide +kernel
theorem dX10_compare_101 : decode cX10_compare 101 = .ok (.goto 4, 3) := by decide +kernel
theorem dX10_compare_104 : decode cX10_compare 104 = .ok (.iconst 0, 1) := by decide +kernel
theorem dX10_compare_105 : decode cX10_compare 105 = .ok (.iadd, 1) := by decide +kernel
theorem dX10_compare_106 : decode cX10_compare 106 = .ok (.putfield 13, 3) := by decide +kernel
theorem dX10_compare_109 : decode cX10_compare 109 = .ok (.aload_n 0, 1) := by decide +kernel
theorem dX10_compare_110 : decode cX10_compare 110 = .ok (.dup, 1) := by decide +kernel
theorem dX10_compare_111 : decode cX10_compare 111 = .ok (.getfield 16, 3) := by decide +kernel
theorem dX10_compare_114 : decode cX10_compare 114 = .ok (.iload 6, 2) := by decide +kernel
theorem dX10_compare_116 : decode cX10_compare 116 = .ok (.ifCond .ne 7, 3) := by decide +kernel
theorem dX10_compare_119 : decode cX10_compare 119 = .ok (.iconst 1, 1) := by decide +kernel
theorem dX10_compare_120 : decode cX10_compare 120 = .ok (.goto 4, 3) := by decide +kernel
theorem dX10_compare_123 : decode cX10_compare 123 = .ok (.iconst 0, 1) := by decide +kernel
theorem dX10_compare_124 : decode cX10_compare 124 = .ok (.iadd, 1) := by decide +kernel
theorem dX10_compare_125 : decode cX10_compare 125 = .ok (.putfield 16, 3) := by decide +kernel
theorem dX10_compare_128 : decode cX10_compare 128 = .ok (.iinc 4 1, 3) := by decide +kernel
theorem dX10_compare_131 : decode cX10_compare 131 = .ok (.goto (-113), 3) := by decide +kernel
theorem dX10_compare_134 : decode cX10_compare 134 = .ok (.return_, 1) := by decide +kernel
theorem fw_X10_13 : fI RX10 13 10 2 := ⟨⟨lwG_2 (i := 49) rfl rfl, by decide, by decide⟩, rfl⟩
theorem fw_X10_16 : fI RX10 16 10 3 := ⟨⟨lwG_2 (i := 51) rfl rfl, by decide, by decide⟩, rfl⟩
theorem fw_X10_7 : fI RX10 7 10 1 := ⟨⟨lwG_2 (i := 47) rfl rfl, by decide, by decide⟩, rfl⟩
theorem fw_X10_19 : fI RX10 19 1 1 := ⟨⟨lwG_1 (i := 202) rfl rfl, by decide, by decide⟩, rfl⟩
theorem fw_X10_24 : fR RX10 24 1 0 := ⟨⟨lwG_1 (i := 200) rfl rfl, by decide, by decide⟩, fun _ _ => rfl, fun r => ⟨r, rfl⟩⟩
theorem ck_X10_28 {l : Launch} {D : va_G} {cy : Nat → ClassId} {R : Room} (hR : 2 ≤ R.frames ∧ 43 ≤ R.locals) : CallOK l D cy R RX10 (.invokevirtual 28) 0 0 (spV 0 1 SP_X0_hasTried) := call_V (ci := 0) (con_X0_hasTried l D cy) (lwG_4 (i := 17) rfl rfl) (lwG_4 (i := 18) rfl rfl) (lwG_4 (i := 19) rfl rfl) (lwG_1 (i := 8) rfl rfl) (lwG_4 (i := 20) rfl rfl) (by decide) ⟨rfl, by decide, by decide, rfl⟩ ⟨rfl, rfl⟩ hR
theorem ck_X10_34 {l : Launch} {D : va_G} {cy : Nat → ClassId} {R : Room} (hR : 3 ≤ R.frames ∧ 64 ≤ R.locals) : CallOK l D cy R RX10 (.invokevirtual 34) 0 0 (spV 0 1 SP_X0_saidOf) := call_V (ci := 0) (con_X0_saidOf l D cy) (lwG_4 (i := 21) rfl rfl) (lwG_4 (i := 22) rfl rfl) (lwG_4 (i := 23) rfl rfl) (lwG_1 (i := 8) rfl rfl) (lwG_4 (i := 24) rfl rfl) (by decide) ⟨rfl, by decide, by decide, rfl⟩ ⟨rfl, rfl⟩ hR
theorem ck_X10_38 {l : Launch} {D : va_G} {cy : Nat → ClassId} {R : Room} (hR : 1 ≤ R.frames ∧ 21 ≤ R.locals) : CallOK l D cy R RX10 (.invokestatic 38) 0 0 (spS 2 SP_J6_compare_7cf53) := call_S (con_J6_compare_7cf53 l D cy) (lwG_4 (i := 26) rfl rfl) (lwG_4 (i := 27) rfl rfl) (lwG_1 (i := 15) rfl rfl) (lwG_4 (i := 28) rfl rfl) ⟨by decide, by decide, rfl⟩ ⟨rfl, rfl⟩ hR
section W_X10_compare
variable {p : Program} {l : Launch} {e : Env} {s : State} {m : MethodId} {args : Array Value} {below : List Frame} {meth : Method} {c : Code} {D : va_G} {cy : Nat → ClassId} {G : Nat × Nat} {n0 : Nat} {Qp : Option PV → Mm → Prop}
set_option maxRecDepth 100000 in
set_option maxHeartbeats 4000000 in
theorem k_X10_compare_105 {o0 : Nat} {a1 : Option Nat} {x2 : Int} {x3 : Int} {x4 : Int} {x6 : Int} {as0 : Option Nat} {s1 : Int} {s2 : Int} {M : Mm} {Q : Mm → Prop} {K18 : Int × Mm → Prop} (C : Cx p s m args meth c cX10_compare 7 RX10 D cy G n0) (hr : meth.sig.returnType = none) (h3 : n0 = 243) (hn : M.2.2.2 = n0) (ho0 : o0 < 243 ∧ (SH o0).1 = 10) (hQ : ∀ M, Q M → Qp none M) (hK18 : ∀ (x4 : Int) (M : Mm), K18 (x4, M) → M.2.2.2 = n0 → WW p l e ({ frames := 3, cells := 0, slots := 0, locals := 64 }) s m args below meth c (ZQ below args s D cy G n0 Qp n0) 7 D cy G n0 18 [(0, vR (some o0)), (1, vR a1), (2, vI x2), (3, vI x3), (4, vI x4)] [] M) (h : P_X10_compare_105 o0 a1 x2 x3 x4 x6 as0 s1 s2 M Q K18) : WW p l e ({ frames := 3, cells := 0, slots := 0, locals := 64 }) s m args below meth c (ZQ below args s D cy G n0 Qp n0) 7 D cy G n0 105 [(0, vR (some o0)), (1, vR a1), (2, vI x2), (3, vI x3), (4, vI x4), (6, vI x6)] [vI s2, vI s1, vR as0] M := by
  unfold P_X10_compare_105 at h
  refine w_iadd C dX10_compare_105 h.1 ?_
  replace h := h.2
  obtain ⟨o1, g2, h⟩ := h
  refine x_putI C dX10_compare_106 fw_X10_13 (isO.n g2 (hn.trans h3)) (Or.inl rfl) (fun M3 eM3 hn4 => ?_)
  replace h := h M3 eM3
  replace hn4 := hn4.trans hn
  refine w_aload_n C dX10_compare_109 rfl (mem_k 0 rfl) ?_
  refine w_dup C dX10_compare_110 rfl ?_
  refine x_getI C dX10_compare_111 fw_X10_16 (isO.n (ci := 10) ⟨rfl, ho0⟩ (hn4.trans h3)) ?_
  refine w_iload C dX10_compare_114 (mem_k 5 rfl) ?_
  refine w_if_ne (tgt := 123) C dX10_compare_116 (by decide) (fun q => ?_) (fun q => ?_)
  · replace h := h.1 q
    refine w_iconst C dX10_compare_123 ⟨by decide, by decide⟩ ?_
    refine w_iadd C dX10_compare_124 h.1 ?_
    replace h := h.2
    refine x_putI C dX10_compare_125 fw_X10_16 (isO.n (ci := 10) ⟨rfl, ho0⟩ (hn4.trans h3)) (Or.inl rfl) (fun M5 eM5 hn6 => ?_)
    replace h := h M5 eM5
    replace hn6 := hn6.trans hn4
    obtain ⟨v7, ev7⟩ : ∃ z : Int, z = x4 + 1 := ⟨_, rfl⟩
    refine x_iinc (L' := [(4, vI v7), (0, vR (some o0)), (1, vR a1), (2, vI x2), (3, vI x3), (6, vI x6)]) C dX10_compare_128 (mem_k 4 rfl) (by decide) h.1 ev7 rfl ?_
    replace h := h.2 v7 ev7
    refine w_goto (tgt := 18) C dX10_compare_131 (by decide) ?_
    refine x_pc (pc2 := 18) rfl ?_
    refine x_pick (L' := [(0, vR (some o0)), (1, vR a1), (2, vI x2), (3, vI x3), (4, vI v7)]) [1, 2, 3, 4, 0] rfl ?_
    exact hK18 v7 M5 h hn6
  · replace h := h.2 q
    refine w_iconst C dX10_compare_119 ⟨by decide, by decide⟩ ?_
    refine w_goto (tgt := 124) C dX10_compare_120 (by decide) ?_
    refine w_iadd C dX10_compare_124 h.1 ?_
    replace h := h.2
    refine x_putI C dX10_compare_125 fw_X10_16 (isO.n (ci := 10) ⟨rfl, ho0⟩ (hn4.trans h3)) (Or.inl rfl) (fun M8 eM8 hn9 => ?_)
    replace h := h M8 eM8
    replace hn9 := hn9.trans hn4
    obtain ⟨v10, ev10⟩ : ∃ z : Int, z = x4 + 1 := ⟨_, rfl⟩
    refine x_iinc (L' := [(4, vI v10), (0, vR (some o0)), (1, vR a1), (2, vI x2), (3, vI x3), (6, vI x6)]) C dX10_compare_128 (mem_k 4 rfl) (by decide) h.1 ev10 rfl ?_
    replace h := h.2 v10 ev10
    refine w_goto (tgt := 18) C dX10_compare_131 (by decide) ?_
    refine x_pc (pc2 := 18) rfl ?_
    refine x_pick (L' := [(0, vR (some o0)), (1, vR a1), (2, vI x2), (3, vI x3), (4, vI v10)]) [1, 2, 3, 4, 0] rfl ?_
    exact hK18 v10 M8 h hn9
set_option maxRecDepth 100000 in
set_option maxHeartbeats 4000000 in
theorem k_X10_compare_86 {o0 : Nat} {a1 : Option Nat} {x2 : Int} {x3 : Int} {x4 : Int} {x6 : Int} {as0 : Option Nat} {s1 : Int} {s2 : Int} {M : Mm} {Q : Mm → Prop} {K18 : Int × Mm → Prop} (C : Cx p s m args meth c cX10_compare 7 RX10 D cy G n0) (hr : meth.sig.returnType = none) (h3 : n0 = 243) (hn : M.2.2.2 = n0) (ho0 : o0 < 243 ∧ (SH o0).1 = 10) (hQ : ∀ M, Q M → Qp none M) (hK18 : ∀ (x4 : Int) (M : Mm), K18 (x4, M) → M.2.2.2 = n0 → WW p l e ({ frames := 3, cells := 0, slots := 0, locals := 64 }) s m args below meth c (ZQ below args s D cy G n0 Qp n0) 7 D cy G n0 18 [(0, vR (some o0)), (1, vR a1), (2, vI x2), (3, vI x3), (4, vI x4)] [] M) (h : P_X10_compare_86 o0 a1 x2 x3 x4 x6 as0 s1 s2 M Q K18) : WW p l e ({ frames := 3, cells := 0, slots := 0, locals := 64 }) s m args below meth c (ZQ below args s D cy G n0 Qp n0) 7 D cy G n0 86 [(0, vR (some o0)), (1, vR a1), (2, vI x2), (3, vI x3), (4, vI x4), (6, vI x6)] [vI s2, vI s1, vR as0] M := by
  unfold P_X10_compare_86 at h
  refine w_iadd C dX10_compare_86 h.1 ?_
  replace h := h.2
  obtain ⟨o11, g12, h⟩ := h
  refine x_putI C dX10_compare_87 fw_X10_7 (isO.n g12 (hn.trans h3)) (Or.inl rfl) (fun M13 eM13 hn14 => ?_)
  replace h := h M13 eM13
  replace hn14 := hn14.trans hn
  refine w_aload_n C dX10_compare_90 rfl (mem_k 0 rfl) ?_
  refine w_dup C dX10_compare_91 rfl ?_
  refine x_getI C dX10_compare_92 fw_X10_13 (isO.n (ci := 10) ⟨rfl, ho0⟩ (hn14.trans h3)) ?_
  refine w_iload C dX10_compare_95 (mem_k 5 rfl) ?_
  refine w_if_ge (tgt := 104) C dX10_compare_97 (by decide) (fun q => ?_) (fun q => ?_)
  · replace h := h.1 q
    refine w_iconst C dX10_compare_104 ⟨by decide, by decide⟩ ?_
    refine x_pc (pc2 := 105) rfl ?_
    refine x_pick (L' := [(0, vR (some o0)), (1, vR a1), (2, vI x2), (3, vI x3), (4, vI x4), (6, vI x6)]) [0, 1, 2, 3, 4, 5] rfl ?_
    exact k_X10_compare_105 C hr h3 hn14 ho0 hQ hK18 h
  · replace h := h.2 q
    refine w_iconst C dX10_compare_100 ⟨by decide, by decide⟩ ?_
    refine w_goto (tgt := 105) C dX10_compare_101 (by decide) ?_
    refine x_pc (pc2 := 105) rfl ?_
    refine x_pick (L' := [(0, vR (some o0)), (1, vR a1), (2, vI x2), (3, vI x3), (4, vI x4), (6, vI x6)]) [0, 1, 2, 3, 4, 5] rfl ?_
    exact k_X10_compare_105 C hr h3 hn14 ho0 hQ hK18 h
set_option maxRecDepth 100000 in
set_option maxHeartbeats 4000000 in
theorem f_X10_compare_18 {o0 : Nat} {a1 : Option Nat} {x2 : Int} {x3 : Int} {x4 : Int} {M : Mm} {Q : Mm → Prop} {K18 : Int × Mm → Prop} (C : Cx p s m args meth c cX10_compare 7 RX10 D cy G n0) (hr : meth.sig.returnType = none) (h3 : n0 = 243) (hn : M.2.2.2 = n0) (ho0 : o0 < 243 ∧ (SH o0).1 = 10) (hQ : ∀ M, Q M → Qp none M) (hK18 : ∀ (x4 : Int) (M : Mm), K18 (x4, M) → M.2.2.2 = n0 → WW p l e ({ frames := 3, cells := 0, slots := 0, locals := 64 }) s m args below meth c (ZQ below args s D cy G n0 Qp n0) 7 D cy G n0 18 [(0, vR (some o0)), (1, vR a1), (2, vI x2), (3, vI x3), (4, vI x4)] [] M) (h : F_X10_compare_18 o0 a1 x2 x3 Q  K18 x4 M) : WW p l e ({ frames := 3, cells := 0, slots := 0, locals := 64 }) s m args below meth c (ZQ below args s D cy G n0 Qp n0) 7 D cy G n0 18 [(0, vR (some o0)), (1, vR a1), (2, vI x2), (3, vI x3), (4, vI x4)] [] M := by
  unfold F_X10_compare_18 at h
  refine w_iload C dX10_compare_18 (mem_k 4 rfl) ?_
  refine w_aload_n C dX10_compare_20 rfl (mem_k 1 rfl) ?_
  obtain ⟨o15, g16, h⟩ := h
  refine x_getI C dX10_compare_21 fw_X10_19 (isO.n g16 (hn.trans h3)) ?_
  refine w_icmp_ge (tgt := 134) C dX10_compare_24 (by decide) (fun q => ?_) (fun q => ?_)
  · replace h := h.1 q
    exact x_vret C hr dX10_compare_134 hn (hQ M h)
  · replace h := h.2 q
    refine w_aload_n C dX10_compare_27 rfl (mem_k 1 rfl) ?_
    refine x_getR C dX10_compare_28 fw_X10_24 (isO.n g16 (hn.trans h3)) (fun r17 er17 => ?_)
    replace h := h r17 er17
    refine w_iload C dX10_compare_31 (mem_k 4 rfl) ?_
    obtain ⟨o18, g19, h⟩ := h
    refine x_aald C dX10_compare_33 (isA.n g19 (hn.trans h3)) (by decide) (fun r20 er20 => ?_)
    replace h := h r20 er20
    refine x_astore (L' := [(5, vR r20), (0, vR (some o0)), (1, vR a1), (2, vI x2), (3, vI x3), (4, vI x4)]) C dX10_compare_34 (by decide) rfl ?_
    refine w_aload C dX10_compare_36 (mem_k 0 rfl) ?_
    refine w_iload_n C dX10_compare_38 rfl (mem_k 3 rfl) ?_
    obtain ⟨o21, g22, h⟩ := h
    refine cl_X0_hasTried (ck_X10_28 ⟨by decide, by decide⟩) C dX10_compare_39 hn h3 (Nat.le_of_ble_eq_true rfl) (isO.n g22 (hn.trans h3)) h (fun v23 h => ?_)
    refine w_if_eq (tgt := 128) C dX10_compare_42 (by decide) (fun q => ?_) (fun q => ?_)
    · replace h := h.1 q
      obtain ⟨v24, ev24⟩ : ∃ z : Int, z = x4 + 1 := ⟨_, rfl⟩
      refine x_iinc (L' := [(4, vI v24), (5, vR r20), (0, vR (some o0)), (1, vR a1), (2, vI x2), (3, vI x3)]) C dX10_compare_128 (mem_k 5 rfl) (by decide) h.1 ev24 rfl ?_
      replace h := h.2 v24 ev24
      refine w_goto (tgt := 18) C dX10_compare_131 (by decide) ?_
      refine x_pc (pc2 := 18) rfl ?_
      refine x_pick (L' := [(0, vR (some o0)), (1, vR a1), (2, vI x2), (3, vI x3), (4, vI v24)]) [2, 3, 4, 5, 0] rfl ?_
      exact hK18 v24 M h hn
    · replace h := h.2 q
      refine w_aload C dX10_compare_45 (mem_k 0 rfl) ?_
      refine w_iload_n C dX10_compare_47 rfl (mem_k 4 rfl) ?_
      refine cl_X0_hasTried (ck_X10_28 ⟨by decide, by decide⟩) C dX10_compare_48 hn h3 (Nat.le_of_ble_eq_true rfl) (isO.n g22 (hn.trans h3)) h (fun v25 h => ?_)
      refine w_if_eq (tgt := 128) C dX10_compare_51 (by decide) (fun q => ?_) (fun q => ?_)
      · replace h := h.1 q
        obtain ⟨v26, ev26⟩ : ∃ z : Int, z = x4 + 1 := ⟨_, rfl⟩
        refine x_iinc (L' := [(4, vI v26), (5, vR r20), (0, vR (some o0)), (1, vR a1), (2, vI x2), (3, vI x3)]) C dX10_compare_128 (mem_k 5 rfl) (by decide) h.1 ev26 rfl ?_
        replace h := h.2 v26 ev26
        refine w_goto (tgt := 18) C dX10_compare_131 (by decide) ?_
        refine x_pc (pc2 := 18) rfl ?_
        refine x_pick (L' := [(0, vR (some o0)), (1, vR a1), (2, vI x2), (3, vI x3), (4, vI v26)]) [2, 3, 4, 5, 0] rfl ?_
        exact hK18 v26 M h hn
      · replace h := h.2 q
        refine w_aload C dX10_compare_54 (mem_k 0 rfl) ?_
        refine w_iload_n C dX10_compare_56 rfl (mem_k 3 rfl) ?_
        refine cl_X0_saidOf (ck_X10_34 ⟨by decide, by decide⟩) C dX10_compare_57 hn h3 (Nat.le_of_ble_eq_true rfl) (isO.n g22 (hn.trans h3)) h (fun v27 h => ?_)
        refine w_aload C dX10_compare_60 (mem_k 0 rfl) ?_
        refine w_iload_n C dX10_compare_62 rfl (mem_k 4 rfl) ?_
        refine cl_X0_saidOf (ck_X10_34 ⟨by decide, by decide⟩) C dX10_compare_63 hn h3 (Nat.le_of_ble_eq_true rfl) (isO.n g22 (hn.trans h3)) h (fun v28 h => ?_)
        refine cl_J6_compare_7cf53 (ck_X10_38 ⟨by decide, by decide⟩) C dX10_compare_66 hn h3 (Nat.le_of_ble_eq_true rfl) h (fun v29 h => ?_)
        refine x_istore (L' := [(6, vI v29), (5, vR r20), (0, vR (some o0)), (1, vR a1), (2, vI x2), (3, vI x3), (4, vI x4)]) C dX10_compare_69 (by decide) rfl ?_
        refine w_aload_n C dX10_compare_71 rfl (mem_k 2 rfl) ?_
        refine w_dup C dX10_compare_72 rfl ?_
        refine x_getI C dX10_compare_73 fw_X10_7 (isO.n (ci := 10) ⟨rfl, ho0⟩ (hn.trans h3)) ?_
        refine w_iload C dX10_compare_76 (mem_k 0 rfl) ?_
        refine w_if_le (tgt := 85) C dX10_compare_78 (by decide) (fun q => ?_) (fun q => ?_)
        · replace h := h.1 q
          refine w_iconst C dX10_compare_85 ⟨by decide, by decide⟩ ?_
          refine x_pc (pc2 := 86) rfl ?_
          refine x_pick (L' := [(0, vR (some o0)), (1, vR a1), (2, vI x2), (3, vI x3), (4, vI x4), (6, vI v29)]) [2, 3, 4, 5, 6, 0] rfl ?_
          exact k_X10_compare_86 C hr h3 hn ho0 hQ hK18 h
        · replace h := h.2 q
          refine w_iconst C dX10_compare_81 ⟨by decide, by decide⟩ ?_
          refine w_goto (tgt := 86) C dX10_compare_82 (by decide) ?_
          refine x_pc (pc2 := 86) rfl ?_
          refine x_pick (L' := [(0, vR (some o0)), (1, vR a1), (2, vI x2), (3, vI x3), (4, vI x4), (6, vI v29)]) [2, 3, 4, 5, 6, 0] rfl ?_
          exact k_X10_compare_86 C hr h3 hn ho0 hQ hK18 h
set_option maxRecDepth 100000 in
set_option maxHeartbeats 4000000 in
theorem k_X10_compare_18 {o0 : Nat} {a1 : Option Nat} {x2 : Int} {x3 : Int} {x4 : Int} {M : Mm} {Q : Mm → Prop} (C : Cx p s m args meth c cX10_compare 7 RX10 D cy G n0) (hr : meth.sig.returnType = none) (h3 : n0 = 243) (hn : M.2.2.2 = n0) (ho0 : o0 < 243 ∧ (SH o0).1 = 10) (hQ : ∀ M, Q M → Qp none M) (h : P_X10_compare_18 o0 a1 x2 x3 x4 M Q ) : WW p l e ({ frames := 3, cells := 0, slots := 0, locals := 64 }) s m args below meth c (ZQ below args s D cy G n0 Qp n0) 7 D cy G n0 18 [(0, vR (some o0)), (1, vR a1), (2, vI x2), (3, vI x3), (4, vI x4)] [] M := by
  refine lpW_sound (P := fun y : Int × Mm => y.2.2.2.2 = n0 → WW p l e ({ frames := 3, cells := 0, slots := 0, locals := 64 }) s m args below meth c (ZQ below args s D cy G n0 Qp n0) 7 D cy G n0 18 [(0, vR (some o0)), (1, vR a1), (2, vI x2), (3, vI x3), (4, vI y.1)] [] y.2) ?_ h hn
  intro K y hK hF
  obtain ⟨x4, M⟩ := y
  intro hn
  exact f_X10_compare_18 C hr h3 hn ho0 hQ  (fun x4 M hk => hK (x4, M) hk) hF
set_option maxRecDepth 100000 in
set_option maxHeartbeats 4000000 in
theorem k_X10_compare_0 {o0 : Nat} {a1 : Option Nat} {x2 : Int} {x3 : Int} {M : Mm} {Q : Mm → Prop} (C : Cx p s m args meth c cX10_compare 7 RX10 D cy G n0) (hr : meth.sig.returnType = none) (h3 : n0 = 243) (hn : M.2.2.2 = n0) (ho0 : o0 < 243 ∧ (SH o0).1 = 10) (hQ : ∀ M, Q M → Qp none M) (h : P_X10_compare o0 a1 x2 x3 M Q ) : WW p l e ({ frames := 3, cells := 0, slots := 0, locals := 64 }) s m args below meth c (ZQ below args s D cy G n0 Qp n0) 7 D cy G n0 0 [(0, vR (some o0)), (1, vR a1), (2, vI x2), (3, vI x3)] [] M := by
  unfold P_X10_compare at h
  refine w_aload_n C dX10_compare_0 rfl (mem_k 0 rfl) ?_
  refine w_iconst C dX10_compare_1 ⟨by decide, by decide⟩ ?_
  refine x_putI C dX10_compare_2 fw_X10_7 (isO.n (ci := 10) ⟨rfl, ho0⟩ (hn.trans h3)) (Or.inl rfl) (fun M30 eM30 hn31 => ?_)
  replace h := h M30 eM30
  replace hn31 := hn31.trans hn
  refine w_aload_n C dX10_compare_5 rfl (mem_k 0 rfl) ?_
  refine w_iconst C dX10_compare_6 ⟨by decide, by decide⟩ ?_
  refine x_putI C dX10_compare_7 fw_X10_13 (isO.n (ci := 10) ⟨rfl, ho0⟩ (hn31.trans h3)) (Or.inl rfl) (fun M32 eM32 hn33 => ?_)
  replace h := h M32 eM32
  replace hn33 := hn33.trans hn31
  refine w_aload_n C dX10_compare_10 rfl (mem_k 0 rfl) ?_
  refine w_iconst C dX10_compare_11 ⟨by decide, by decide⟩ ?_
  refine x_putI C dX10_compare_12 fw_X10_16 (isO.n (ci := 10) ⟨rfl, ho0⟩ (hn33.trans h3)) (Or.inl rfl) (fun M34 eM34 hn35 => ?_)
  replace h := h M34 eM34
  replace hn35 := hn35.trans hn33
  refine w_iconst C dX10_compare_15 ⟨by decide, by decide⟩ ?_
  refine x_istore (L' := [(4, vI 0), (0, vR (some o0)), (1, vR a1), (2, vI x2), (3, vI x3)]) C dX10_compare_16 (by decide) rfl ?_
  refine x_pc (pc2 := 18) rfl ?_
  refine x_pick (L' := [(0, vR (some o0)), (1, vR a1), (2, vI x2), (3, vI x3), (4, vI 0)]) [1, 2, 3, 4, 0] rfl ?_
  exact k_X10_compare_18 C hr h3 hn35 ho0 hQ  h
set_option maxRecDepth 100000 in
set_option maxHeartbeats 4000000 in
theorem con_X10_compare (l : Launch) (D : va_G) (cy : Nat → ClassId) : Con l D cy yX10_compare cX10_compare 7 (none) ({ frames := 3, cells := 0, slots := 0, locals := 64 }) 0 0 SP_X10_compare := by
  refine con_of (by decide) (fun as M Qp h => ?_) ?_
  · obtain ⟨-, o0, a1, x2, x3, rfl, -⟩ := h
    exact Nat.le_of_ble_eq_true rfl
  · intro p e s m args below meth c G as M Qp h C hr hnm
    obtain ⟨hn, o0, a1, x2, x3, rfl, ho1, ho2, Q0, hQ, h⟩ := h
    refine x_pick (L' := [(0, vR (some o0)), (1, vR a1), (2, vI x2), (3, vI x3)]) [0, 1, 2, 3] rfl ?_
    exact k_X10_compare_0 C hr hn rfl ⟨ho1, ho2⟩ hQ h
set_option maxRecDepth 100000 in
set_option maxHeartbeats 4000000 in
theorem cl_X10_compare {p : Program} {l : Launch} {e : Env} {R : Room} {s : State} {m : MethodId} {args : Array Value} {below : List Frame} {meth : Method} {c : Code} {Q : State → Prop} {cc : ByteArray} {nL : Nat} {own : String} {D : va_G} {cy : Nat → ClassId} {G : Nat × Nat} {n0 pc : Nat} {L : List (Nat × PV)} {st : List PV} {M : Mm} {op : Instr} (K : CallOK l D cy R own op 0 0 (spV 10 3 SP_X10_compare)) (C : Cx p s m args meth c cc nL own D cy G n0) (hd : decode cc pc = .ok (op, 3)) (hn : M.2.2.2 = n0) (h3 : n0 = 243) (hlen : argN st ≤ 8) {r : Option Nat} {o0 : Nat} (ho : isOn 10 M.2.2.2 r o0) {a1 : Option Nat} {x2 : Int} {x3 : Int} {Q0 : Mm → Prop} (h : P_X10_compare o0 a1 x2 x3 M Q0) (k : ∀ M2, Q0 M2 → M2.2.2.2 = n0 → WW p l e R s m args below meth c Q nL D cy G n0  (pc + 3) L (st) M2) : WW p l e R s m args below meth c Q nL D cy G n0  pc L (vI x3 :: vI x2 :: vR a1 :: vR r :: st) M := by
  obtain ⟨rfl, ho1, ho2⟩ := ho
  refine x_call0 K C hd (as := [vR (some o0), vR a1, vI x2, vI x3]) rfl hn hlen (fun v M2 => v = none ∧ Q0 M2) ⟨⟨o0, [vR a1, vI x2, vI x3], rfl, rfl, ho1, ho2⟩, hn.trans h3, o0, a1, x2, x3, rfl, (hn.trans h3) ▸ ho1, ho2, Q0, fun M2 hx => ⟨rfl, hx⟩, h⟩ ?_
  rintro _ _ ⟨rfl, hx⟩ hm
  exact k _ hx hm
end W_X10_compare
theorem dX10_odds_0 : decode cX10_odds 0 = .ok (.aload_n 0, 1) := by decide +kernel
theorem dX10_odds_1 : decode cX10_odds 1 = .ok (.getfield 7, 3) := by decide +kernel
theorem dX10_odds_4 : decode cX10_odds 4 = .ok (.aload_n 0, 1) := by decide +kernel
theorem dX10_odds_5 : decode cX10_odds 5 = .ok (.getfield 13, 3) := by decide +kernel
theorem dX10_odds_8 : decode cX10_odds 8 = .ok (.iadd, 1) := by decide +kernel
theorem dX10_odds_9 : decode cX10_odds 9 = .ok (.istore_n 1, 1) := by decide +kernel
theorem dX10_odds_10 : decode cX10_odds 10 = .ok (.iconst 1, 1) := by decide +kernel
theorem dX10_odds_11 : decode cX10_odds 11 = .ok (.istore_n 2, 1) := by decide +kernel
theorem dX10_odds_12 : decode cX10_odds 12 = .ok (.iconst 0, 1) := by decide +kernel
theorem dX10_odds_13 : decode cX10_odds 13 = .ok (.istore_n 3, 1) := by decide +kernel
theorem dX10_odds_14 : decode cX10_odds 14 = .ok (.iconst 0, 1) := by decide +kernel
theorem dX10_odds_15 : decode cX10_odds 15 = .ok (.istore 4, 2) := by decide +kernel
theorem dX10_odds_17 : decode cX10_odds 17 = .ok (.iload 4, 2) := by decide +kernel
theorem dX10_odds_19 : decode cX10_odds 19 = .ok (.iload_n 1, 1) := by decide +kernel
theorem dX10_odds_20 : decode cX10_odds 20 = .ok (.if_icmp .gt 38, 3) := by decide +kernel
theorem dX10_odds_23 : decode cX10_odds 23 = .ok (.iload_n 3, 1) := by decide +kernel
theorem dX10_odds_24 : decode cX10_odds 24 = .ok (.iload 4, 2) := by decide +kernel
theorem dX10_odds_26 : decode cX10_odds 26 = .ok (.aload_n 0, 1) := by decide +kernel
theorem dX10_odds_27 : decode cX10_odds 27 = .ok (.getfield 7, 3) := by decide +kernel
theorem dX10_odds_30 : decode cX10_odds 30 = .ok (.if_icmp .lt 7, 3) := by decide +kernel
theorem dX10_odds_33 : decode cX10_odds 33 = .ok (.iload_n 2, 1) := by decide +kernel
theorem dX10_odds_34 : decode cX10_odds 34 = .ok (.goto 4, 3) := by decide +kernel
theorem dX10_odds_37 : decode cX10_odds 37 = .ok (.iconst 0, 1) := by decide +kernel
theorem dX10_odds_38 : decode cX10_odds 38 = .ok (.iadd, 1) := by decide +kernel
theorem dX10_odds_39 : decode cX10_odds 39 = .ok (.istore_n 3, 1) := by decide +kernel
theorem dX10_odds_40 : decode cX10_odds 40 = .ok (.iload_n 2, 1) := by decide +kernel
theorem dX10_odds_41 : decode cX10_odds 41 = .ok (.iload_n 1, 1) := by decide +kernel
theorem dX10_odds_42 : decode cX10_odds 42 = .ok (.iload 4, 2) := by decide +kernel
theorem dX10_odds_44 : decode cX10_odds 44 = .ok (.isub, 1) := by decide +kernel
theorem dX10_odds_45 : decode cX10_odds 45 = .ok (.imul, 1) := by decide +kernel
theorem dX10_odds_46 : decode cX10_odds 46 = .ok (.iload 4, 2) := by decide +kernel
theorem dX10_odds_48 : decode cX10_odds 48 = .ok (.iconst 1, 1) := by decide +kernel
theorem dX10_odds_49 : decode cX10_odds 49 = .ok (.iadd, 1) := by decide +kernel
theorem dX10_odds_50 : decode cX10_odds 50 = .ok (.idiv, 1) := by decide +kernel
theorem dX10_odds_51 : decode cX10_odds 51 = .ok (.istore_n 2, 1) := by decide +kernel
theorem dX10_odds_52 : decode cX10_odds 52 = .ok (.iinc 4 1, 3) := by decide +kernel
theorem dX10_odds_55 : decode cX10_odds 55 = .ok (.goto (-38), 3) := by decide +kernel
theorem dX10_odds_58 : decode cX10_odds 58 = .ok (.iload_n 3, 1) := by decide +kernel
theorem dX10_odds_59 : decode cX10_odds 59 = .ok (.ireturn, 1) := by decide +kernel
section W_X10_odds
variable {p : Program} {l : Launch} {e : Env} {s : State} {m : MethodId} {args : Array Value} {below : List Frame} {meth : Method} {c : Code} {D : va_G} {cy : Nat → ClassId} {G : Nat × Nat} {n0 : Nat} {Qp : Option PV → Mm → Prop}
set_option maxRecDepth 100000 in
set_option maxHeartbeats 4000000 in
theorem k_X10_odds_38 {o0 : Nat} {x1 : Int} {x2 : Int} {x4 : Int} {s0 : Int} {s1 : Int} {M : Mm} {Q : Int → Prop} {K17 : Int × Int × Int → Prop} (C : Cx p s m args meth c cX10_odds 5 RX10 D cy G n0) (hr : meth.sig.returnType = some .int) (h3 : n0 = 243) (hn : M.2.2.2 = n0) (ho0 : o0 < 243 ∧ (SH o0).1 = 10) (hQ : ∀ x, Q x → Qp (some (vI x)) M) (hK17 : ∀ (x2 : Int) (x3 : Int) (x4 : Int), K17 (x2, x3, x4) → WW p l e ({ frames := 0, cells := 0, slots := 0, locals := 0 }) s m args below meth c (ZQ below args s D cy G n0 Qp n0) 5 D cy G n0 17 [(0, vR (some o0)), (1, vI x1), (2, vI x2), (3, vI x3), (4, vI x4)] [] M) (h : P_X10_odds_38 o0 x1 x2 x4 s0 s1 M Q K17) : WW p l e ({ frames := 0, cells := 0, slots := 0, locals := 0 }) s m args below meth c (ZQ below args s D cy G n0 Qp n0) 5 D cy G n0 38 [(0, vR (some o0)), (1, vI x1), (2, vI x2), (4, vI x4)] [vI s1, vI s0] M := by
  unfold P_X10_odds_38 at h
  refine w_iadd C dX10_odds_38 h.1 ?_
  replace h := h.2
  refine x_nmI (fun v1 ev1 => ?_)
  replace h := h v1 ev1
  refine x_istore_n (L' := [(3, vI v1), (0, vR (some o0)), (1, vI x1), (2, vI x2), (4, vI x4)]) C dX10_odds_39 rfl (by decide) rfl ?_
  refine w_iload_n C dX10_odds_40 rfl (mem_k 3 rfl) ?_
  refine w_iload_n C dX10_odds_41 rfl (mem_k 2 rfl) ?_
  refine w_iload C dX10_odds_42 (mem_k 4 rfl) ?_
  refine w_isub C dX10_odds_44 h.1 ?_
  replace h := h.2
  refine w_imul C dX10_odds_45 h.1 ?_
  replace h := h.2
  refine w_iload C dX10_odds_46 (mem_k 4 rfl) ?_
  refine w_iconst C dX10_odds_48 ⟨by decide, by decide⟩ ?_
  refine w_iadd C dX10_odds_49 h.1 ?_
  replace h := h.2
  refine x_idiv C dX10_odds_50 h.1 ?_
  replace h := h.2
  refine x_nmI (fun v2 ev2 => ?_)
  replace h := h v2 ev2
  refine x_istore_n (L' := [(2, vI v2), (3, vI v1), (0, vR (some o0)), (1, vI x1), (4, vI x4)]) C dX10_odds_51 rfl (by decide) rfl ?_
  obtain ⟨v3, ev3⟩ : ∃ z : Int, z = x4 + 1 := ⟨_, rfl⟩
  refine x_iinc (L' := [(4, vI v3), (2, vI v2), (3, vI v1), (0, vR (some o0)), (1, vI x1)]) C dX10_odds_52 (mem_k 4 rfl) (by decide) h.1 ev3 rfl ?_
  replace h := h.2 v3 ev3
  refine w_goto (tgt := 17) C dX10_odds_55 (by decide) ?_
  refine x_pc (pc2 := 17) rfl ?_
  refine x_pick (L' := [(0, vR (some o0)), (1, vI x1), (2, vI v2), (3, vI v1), (4, vI v3)]) [3, 4, 1, 2, 0] rfl ?_
  exact hK17 v2 v1 v3 h
set_option maxRecDepth 100000 in
set_option maxHeartbeats 4000000 in
theorem f_X10_odds_17 {o0 : Nat} {x1 : Int} {x2 : Int} {x3 : Int} {x4 : Int} {M : Mm} {Q : Int → Prop} {K17 : Int × Int × Int → Prop} (C : Cx p s m args meth c cX10_odds 5 RX10 D cy G n0) (hr : meth.sig.returnType = some .int) (h3 : n0 = 243) (hn : M.2.2.2 = n0) (ho0 : o0 < 243 ∧ (SH o0).1 = 10) (hQ : ∀ x, Q x → Qp (some (vI x)) M) (hK17 : ∀ (x2 : Int) (x3 : Int) (x4 : Int), K17 (x2, x3, x4) → WW p l e ({ frames := 0, cells := 0, slots := 0, locals := 0 }) s m args below meth c (ZQ below args s D cy G n0 Qp n0) 5 D cy G n0 17 [(0, vR (some o0)), (1, vI x1), (2, vI x2), (3, vI x3), (4, vI x4)] [] M) (h : F_X10_odds_17 o0 x1 M Q  K17 x2 x3 x4) : WW p l e ({ frames := 0, cells := 0, slots := 0, locals := 0 }) s m args below meth c (ZQ below args s D cy G n0 Qp n0) 5 D cy G n0 17 [(0, vR (some o0)), (1, vI x1), (2, vI x2), (3, vI x3), (4, vI x4)] [] M := by
  unfold F_X10_odds_17 at h
  refine w_iload C dX10_odds_17 (mem_k 4 rfl) ?_
  refine w_iload_n C dX10_odds_19 rfl (mem_k 1 rfl) ?_
  refine w_icmp_gt (tgt := 58) C dX10_odds_20 (by decide) (fun q => ?_) (fun q => ?_)
  · replace h := h.1 q
    refine w_iload_n C dX10_odds_58 rfl (mem_k 3 rfl) ?_
    exact x_iret C hr dX10_odds_59 hn (hQ _ h)
  · replace h := h.2 q
    refine w_iload_n C dX10_odds_23 rfl (mem_k 3 rfl) ?_
    refine w_iload C dX10_odds_24 (mem_k 4 rfl) ?_
    refine w_aload_n C dX10_odds_26 rfl (mem_k 0 rfl) ?_
    refine x_getI C dX10_odds_27 fw_X10_7 (isO.n (ci := 10) ⟨rfl, ho0⟩ (hn.trans h3)) ?_
    refine w_icmp_lt (tgt := 37) C dX10_odds_30 (by decide) (fun q => ?_) (fun q => ?_)
    · replace h := h.1 q
      refine w_iconst C dX10_odds_37 ⟨by decide, by decide⟩ ?_
      refine x_pc (pc2 := 38) rfl ?_
      refine x_pick (L' := [(0, vR (some o0)), (1, vI x1), (2, vI x2), (4, vI x4)]) [0, 1, 2, 4] rfl ?_
      exact k_X10_odds_38 C hr h3 hn ho0 hQ hK17 h
    · replace h := h.2 q
      refine w_iload_n C dX10_odds_33 rfl (mem_k 2 rfl) ?_
      refine w_goto (tgt := 38) C dX10_odds_34 (by decide) ?_
      refine x_pc (pc2 := 38) rfl ?_
      refine x_pick (L' := [(0, vR (some o0)), (1, vI x1), (2, vI x2), (4, vI x4)]) [0, 1, 2, 4] rfl ?_
      exact k_X10_odds_38 C hr h3 hn ho0 hQ hK17 h
set_option maxRecDepth 100000 in
set_option maxHeartbeats 4000000 in
theorem k_X10_odds_17 {o0 : Nat} {x1 : Int} {x2 : Int} {x3 : Int} {x4 : Int} {M : Mm} {Q : Int → Prop} (C : Cx p s m args meth c cX10_odds 5 RX10 D cy G n0) (hr : meth.sig.returnType = some .int) (h3 : n0 = 243) (hn : M.2.2.2 = n0) (ho0 : o0 < 243 ∧ (SH o0).1 = 10) (hQ : ∀ x, Q x → Qp (some (vI x)) M) (h : P_X10_odds_17 o0 x1 x2 x3 x4 M Q ) : WW p l e ({ frames := 0, cells := 0, slots := 0, locals := 0 }) s m args below meth c (ZQ below args s D cy G n0 Qp n0) 5 D cy G n0 17 [(0, vR (some o0)), (1, vI x1), (2, vI x2), (3, vI x3), (4, vI x4)] [] M := by
  refine lpW_sound (P := fun y : Int × Int × Int => WW p l e ({ frames := 0, cells := 0, slots := 0, locals := 0 }) s m args below meth c (ZQ below args s D cy G n0 Qp n0) 5 D cy G n0 17 [(0, vR (some o0)), (1, vI x1), (2, vI y.1), (3, vI y.2.1), (4, vI y.2.2)] [] M) ?_ h
  intro K y hK hF
  obtain ⟨x2, x3, x4⟩ := y
  exact f_X10_odds_17 C hr h3 hn ho0 hQ  (fun x2 x3 x4 hk => hK (x2, x3, x4) hk) hF
set_option maxRecDepth 100000 in
set_option maxHeartbeats 4000000 in
theorem k_X10_odds_0 {o0 : Nat} {M : Mm} {Q : Int → Prop} (C : Cx p s m args meth c cX10_odds 5 RX10 D cy G n0) (hr : meth.sig.returnType = some .int) (h3 : n0 = 243) (hn : M.2.2.2 = n0) (ho0 : o0 < 243 ∧ (SH o0).1 = 10) (hQ : ∀ x, Q x → Qp (some (vI x)) M) (h : P_X10_odds o0 M Q ) : WW p l e ({ frames := 0, cells := 0, slots := 0, locals := 0 }) s m args below meth c (ZQ below args s D cy G n0 Qp n0) 5 D cy G n0 0 [(0, vR (some o0))] [] M := by
  unfold P_X10_odds at h
  refine w_aload_n C dX10_odds_0 rfl (mem_k 0 rfl) ?_
  refine x_getI C dX10_odds_1 fw_X10_7 (isO.n (ci := 10) ⟨rfl, ho0⟩ (hn.trans h3)) ?_
  refine w_aload_n C dX10_odds_4 rfl (mem_k 0 rfl) ?_
  refine x_getI C dX10_odds_5 fw_X10_13 (isO.n (ci := 10) ⟨rfl, ho0⟩ (hn.trans h3)) ?_
  refine w_iadd C dX10_odds_8 h.1 ?_
  replace h := h.2
  refine x_nmI (fun v4 ev4 => ?_)
  replace h := h v4 ev4
  refine x_istore_n (L' := [(1, vI v4), (0, vR (some o0))]) C dX10_odds_9 rfl (by decide) rfl ?_
  refine w_iconst C dX10_odds_10 ⟨by decide, by decide⟩ ?_
  refine x_istore_n (L' := [(2, vI 1), (1, vI v4), (0, vR (some o0))]) C dX10_odds_11 rfl (by decide) rfl ?_
  refine w_iconst C dX10_odds_12 ⟨by decide, by decide⟩ ?_
  refine x_istore_n (L' := [(3, vI 0), (2, vI 1), (1, vI v4), (0, vR (some o0))]) C dX10_odds_13 rfl (by decide) rfl ?_
  refine w_iconst C dX10_odds_14 ⟨by decide, by decide⟩ ?_
  refine x_istore (L' := [(4, vI 0), (3, vI 0), (2, vI 1), (1, vI v4), (0, vR (some o0))]) C dX10_odds_15 (by decide) rfl ?_
  refine x_pc (pc2 := 17) rfl ?_
  refine x_pick (L' := [(0, vR (some o0)), (1, vI v4), (2, vI 1), (3, vI 0), (4, vI 0)]) [4, 3, 2, 1, 0] rfl ?_
  exact k_X10_odds_17 C hr h3 hn ho0 hQ  h
set_option maxRecDepth 100000 in
set_option maxHeartbeats 4000000 in
theorem con_X10_odds (l : Launch) (D : va_G) (cy : Nat → ClassId) : Con l D cy yX10_odds cX10_odds 5 (some .int) ({ frames := 0, cells := 0, slots := 0, locals := 0 }) 0 0 SP_X10_odds := by
  refine con_of (by decide) (fun as M Qp h => ?_) ?_
  · obtain ⟨-, o0, rfl, -⟩ := h
    exact Nat.le_of_ble_eq_true rfl
  · intro p e s m args below meth c G as M Qp h C hr hnm
    obtain ⟨hn, o0, rfl, ho1, ho2, Q0, hQ, h⟩ := h
    refine x_pick (L' := [(0, vR (some o0))]) [0] rfl ?_
    exact k_X10_odds_0 C hr hn rfl ⟨ho1, ho2⟩ hQ h
set_option maxRecDepth 100000 in
set_option maxHeartbeats 4000000 in
theorem cl_X10_odds {p : Program} {l : Launch} {e : Env} {R : Room} {s : State} {m : MethodId} {args : Array Value} {below : List Frame} {meth : Method} {c : Code} {Q : State → Prop} {cc : ByteArray} {nL : Nat} {own : String} {D : va_G} {cy : Nat → ClassId} {G : Nat × Nat} {n0 pc : Nat} {L : List (Nat × PV)} {st : List PV} {M : Mm} {op : Instr} (K : CallOK l D cy R own op 0 0 (spV 10 0 SP_X10_odds)) (C : Cx p s m args meth c cc nL own D cy G n0) (hd : decode cc pc = .ok (op, 3)) (hn : M.2.2.2 = n0) (h3 : n0 = 243) (hlen : argN st ≤ 8) {r : Option Nat} {o0 : Nat} (ho : isOn 10 M.2.2.2 r o0)  {Q0 : Int → Prop} (h : P_X10_odds o0 M Q0) (k : ∀ x, Q0 x → WW p l e R s m args below meth c Q nL D cy G n0  (pc + 3) L (vI x :: st) M) : WW p l e R s m args below meth c Q nL D cy G n0  pc L (vR r :: st) M := by
  obtain ⟨rfl, ho1, ho2⟩ := ho
  refine x_call0 K C hd (as := [vR (some o0)]) rfl hn hlen (fun v M2 => ∃ x, v = some (vI x) ∧ M2 = M ∧ Q0 x) ⟨⟨o0, [], rfl, rfl, ho1, ho2⟩, hn.trans h3, o0, rfl, (hn.trans h3) ▸ ho1, ho2, Q0, fun x hx => ⟨x, rfl, rfl, hx⟩, h⟩ ?_
  rintro _ _ ⟨x, rfl, rfl, hx⟩ hm
  exact k x hx
end W_X10_odds
theorem dX10_sixtiethsOf_0 : decode cX10_sixtiethsOf 0 = .ok (.iconst 0, 1) := by decide +kernel
theorem dX10_sixtiethsOf_1 : decode cX10_sixtiethsOf 1 = .ok (.istore_n 3, 1) := by decide +kernel
theorem dX10_sixtiethsOf_2 : decode cX10_sixtiethsOf 2 = .ok (.iconst 0, 1) := by decide +kernel
theorem dX10_sixtiethsOf_3 : decode cX10_sixtiethsOf 3 = .ok (.istore 4, 2) := by decide +kernel
theorem dX10_sixtiethsOf_5 : decode cX10_sixtiethsOf 5 = .ok (.iload 4, 2) := by decide +kernel
theorem dX10_sixtiethsOf_7 : decode cX10_sixtiethsOf 7 = .ok (.aload_n 1, 1) := by decide +kernel
theorem dX10_sixtiethsOf_8 : decode cX10_sixtiethsOf 8 = .ok (.getfield 19, 3) := by decide +kernel
theorem dX10_sixtiethsOf_11 : decode cX10_sixtiethsOf 11 = .ok (.if_icmp .ge 63, 3) := by decide +kernel
theorem dX10_sixtiethsOf_14 : decode cX10_sixtiethsOf 14 = .ok (.aload_n 1, 1) := by decide +kernel
theorem dX10_sixtiethsOf_15 : decode cX10_sixtiethsOf 15 = .ok (.getfield 24, 3) := by decide +kernel
theorem dX10_sixtiethsOf_18 : decode cX10_sixtiethsOf 18 = .ok (.iload 4, 2) := by decide +kernel
theorem dX10_sixtiethsOf_20 : decode cX10_sixtiethsOf 20 = .ok (.aaload, 1) := by decide +kernel
theorem dX10_sixtiethsOf_21 : decode cX10_sixtiethsOf 21 = .ok (.astore 5, 2) := by decide +kernel
theorem dX10_sixtiethsOf_23 : decode cX10_sixtiethsOf 23 = .ok (.aload 5, 2) := by decide +kernel
theorem dX10_sixtiethsOf_25 : decode cX10_sixtiethsOf 25 = .ok (.invokevirtual 44, 3) := by decide +kernel
theorem dX10_sixtiethsOf_28 : decode cX10_sixtiethsOf 28 = .ok (.istore 6, 2) := by decide +kernel
theorem dX10_sixtiethsOf_30 : decode cX10_sixtiethsOf 30 = .ok (.aload 5, 2) := by decide +kernel
theorem dX10_sixtiethsOf_32 : decode cX10_sixtiethsOf 32 = .ok (.iload_n 2, 1) := by decide +kernel
theorem dX10_sixtiethsOf_33 : decode cX10_sixtiethsOf 33 = .ok (.invokevirtual 28, 3) := by decide +kernel
theorem dX10_sixtiethsOf_36 : decode cX10_sixtiethsOf 36 = .ok (.ifCond .eq 32, 3) := by decide +kernel
theorem dX10_sixtiethsOf_39 : decode cX10_sixtiethsOf 39 = .ok (.iload 6, 2) := by decide +kernel
theorem dX10_sixtiethsOf_41 : decode cX10_sixtiethsOf 41 = .ok (.ifCond .le 27, 3) := by decide +kernel
theorem dX10_sixtiethsOf_44 : decode cX10_sixtiethsOf 44 = .ok (.iload_n 3, 1) := by decide +kernel
theorem dX10_sixtiethsOf_45 : decode cX10_sixtiethsOf 45 = .ok (.aload 5, 2) := by decide +kernel
theorem dX10_sixtiethsOf_47 : decode cX10_sixtiethsOf 47 = .ok (.iload_n 2, 1) := by decide +kernel
theorem dX10_sixtiethsOf_48 : decode cX10_sixtiethsOf 48 = .ok (.invokevirtual 34, 3) := by decide +kernel
theorem dX10_sixtiethsOf_51 : decode cX10_sixtiethsOf 51 = .ok (.bipush 60, 2) := by decide +kernel
theorem dX10_sixtiethsOf_53 : decode cX10_sixtiethsOf 53 = .ok (.imul, 1) := by decide +kernel
theorem dX10_sixtiethsOf_54 : decode cX10_sixtiethsOf 54 = .ok (.aload 5, 2) := by decide +kernel
theorem dX10_sixtiethsOf_56 : decode cX10_sixtiethsOf 56 = .ok (.invokevirtual 48, 3) := by decide +kernel
theorem dX10_sixtiethsOf_59 : decode cX10_sixtiethsOf 59 = .ok (.bipush 60, 2) := by decide +kernel
theorem dX10_sixtiethsOf_61 : decode cX10_sixtiethsOf 61 = .ok (.iload 6, 2) := by decide +kernel
theorem dX10_sixtiethsOf_63 : decode cX10_sixtiethsOf 63 = .ok (.idiv, 1) := by decide +kernel
theorem dX10_sixtiethsOf_64 : decode cX10_sixtiethsOf 64 = .ok (.imul, 1) := by decide +kernel
theorem dX10_sixtiethsOf_65 : decode cX10_sixtiethsOf 65 = .ok (.isub, 1) := by decide +kernel
theorem dX10_sixtiethsOf_66 : decode cX10_sixtiethsOf 66 = .ok (.iadd, 1) := by decide +kernel
theorem dX10_sixtiethsOf_67 : decode cX10_sixtiethsOf 67 = .ok (.istore_n 3, 1) := by decide +kernel
theorem dX10_sixtiethsOf_68 : decode cX10_sixtiethsOf 68 = .ok (.iinc 4 1, 3) := by decide +kernel
theorem dX10_sixtiethsOf_71 : decode cX10_sixtiethsOf 71 = .ok (.goto (-66), 3) := by decide +kernel
theorem dX10_sixtiethsOf_74 : decode cX10_sixtiethsOf 74 = .ok (.iload_n 3, 1) := by decide +kernel
theorem dX10_sixtiethsOf_75 : decode cX10_sixtiethsOf 75 = .ok (.ireturn, 1) := by decide +kernel
theorem ck_X10_44 {l : Launch} {D : va_G} {cy : Nat → ClassId} {R : Room} (hR : 3 ≤ R.frames ∧ 65 ≤ R.locals) : CallOK l D cy R RX10 (.invokevirtual 44) 0 0 (spV 0 0 SP_X0_triedSeats) := call_V (ci := 0) (con_X0_triedSeats l D cy) (lwG_4 (i := 41) rfl rfl) (lwG_4 (i := 42) rfl rfl) (lwG_4 (i := 43) rfl rfl) (lwG_1 (i := 8) rfl rfl) (lwG_4 (i := 44) rfl rfl) (by decide) ⟨rfl, by decide, by decide, rfl⟩ ⟨rfl, rfl⟩ hR
theorem ck_X10_48 {l : Launch} {D : va_G} {cy : Nat → ClassId} {R : Room} (hR : 4 ≤ R.frames ∧ 86 ≤ R.locals) : CallOK l D cy R RX10 (.invokevirtual 48) 0 0 (spV 0 0 SP_X0_saidTogether) := call_V (ci := 0) (con_X0_saidTogether l D cy) (lwG_4 (i := 45) rfl rfl) (lwG_4 (i := 46) rfl rfl) (lwG_4 (i := 47) rfl rfl) (lwG_1 (i := 8) rfl rfl) (lwG_4 (i := 48) rfl rfl) (by decide) ⟨rfl, by decide, by decide, rfl⟩ ⟨rfl, rfl⟩ hR
section W_X10_sixtiethsOf
variable {p : Program} {l : Launch} {e : Env} {s : State} {m : MethodId} {args : Array Value} {below : List Frame} {meth : Method} {c : Code} {D : va_G} {cy : Nat → ClassId} {G : Nat × Nat} {n0 : Nat} {Qp : Option PV → Mm → Prop}
set_option maxRecDepth 100000 in
set_option maxHeartbeats 4000000 in
theorem f_X10_sixtiethsOf_5 {a1 : Option Nat} {x2 : Int} {x3 : Int} {x4 : Int} {M : Mm} {Q : Int → Prop} {o0 : Nat} {K5 : Int × Int → Prop} (C : Cx p s m args meth c cX10_sixtiethsOf 7 RX10 D cy G n0) (hr : meth.sig.returnType = some .int) (h3 : n0 = 243) (hn : M.2.2.2 = n0) (ho0 : o0 < 243 ∧ (SH o0).1 = 10) (hQ : ∀ x, Q x → Qp (some (vI x)) M) (hK5 : ∀ (x3 : Int) (x4 : Int), K5 (x3, x4) → WW p l e ({ frames := 4, cells := 0, slots := 0, locals := 86 }) s m args below meth c (ZQ below args s D cy G n0 Qp n0) 7 D cy G n0 5 [(1, vR a1), (2, vI x2), (3, vI x3), (4, vI x4)] [] M) (h : F_X10_sixtiethsOf_5 a1 x2 M Q  K5 x3 x4) : WW p l e ({ frames := 4, cells := 0, slots := 0, locals := 86 }) s m args below meth c (ZQ below args s D cy G n0 Qp n0) 7 D cy G n0 5 [(1, vR a1), (2, vI x2), (3, vI x3), (4, vI x4)] [] M := by
  unfold F_X10_sixtiethsOf_5 at h
  refine w_iload C dX10_sixtiethsOf_5 (mem_k 3 rfl) ?_
  refine w_aload_n C dX10_sixtiethsOf_7 rfl (mem_k 0 rfl) ?_
  obtain ⟨o1, g2, h⟩ := h
  refine x_getI C dX10_sixtiethsOf_8 fw_X10_19 (isO.n g2 (hn.trans h3)) ?_
  refine w_icmp_ge (tgt := 74) C dX10_sixtiethsOf_11 (by decide) (fun q => ?_) (fun q => ?_)
  · replace h := h.1 q
    refine w_iload_n C dX10_sixtiethsOf_74 rfl (mem_k 2 rfl) ?_
    exact x_iret C hr dX10_sixtiethsOf_75 hn (hQ _ h)
  · replace h := h.2 q
    refine w_aload_n C dX10_sixtiethsOf_14 rfl (mem_k 0 rfl) ?_
    refine x_getR C dX10_sixtiethsOf_15 fw_X10_24 (isO.n g2 (hn.trans h3)) (fun r3 er3 => ?_)
    replace h := h r3 er3
    refine w_iload C dX10_sixtiethsOf_18 (mem_k 3 rfl) ?_
    obtain ⟨o4, g5, h⟩ := h
    refine x_aald C dX10_sixtiethsOf_20 (isA.n g5 (hn.trans h3)) (by decide) (fun r6 er6 => ?_)
    replace h := h r6 er6
    refine x_astore (L' := [(5, vR r6), (1, vR a1), (2, vI x2), (3, vI x3), (4, vI x4)]) C dX10_sixtiethsOf_21 (by decide) rfl ?_
    refine w_aload C dX10_sixtiethsOf_23 (mem_k 0 rfl) ?_
    obtain ⟨o7, g8, h⟩ := h
    refine cl_X0_triedSeats (ck_X10_44 ⟨by decide, by decide⟩) C dX10_sixtiethsOf_25 hn h3 (Nat.le_of_ble_eq_true rfl) (isO.n g8 (hn.trans h3)) h (fun v9 h => ?_)
    refine x_istore (L' := [(6, vI v9), (5, vR r6), (1, vR a1), (2, vI x2), (3, vI x3), (4, vI x4)]) C dX10_sixtiethsOf_28 (by decide) rfl ?_
    refine w_aload C dX10_sixtiethsOf_30 (mem_k 1 rfl) ?_
    refine w_iload_n C dX10_sixtiethsOf_32 rfl (mem_k 3 rfl) ?_
    refine cl_X0_hasTried (ck_X10_28 ⟨by decide, by decide⟩) C dX10_sixtiethsOf_33 hn h3 (Nat.le_of_ble_eq_true rfl) (isO.n g8 (hn.trans h3)) h (fun v10 h => ?_)
    refine w_if_eq (tgt := 68) C dX10_sixtiethsOf_36 (by decide) (fun q => ?_) (fun q => ?_)
    · replace h := h.1 q
      obtain ⟨v11, ev11⟩ : ∃ z : Int, z = x4 + 1 := ⟨_, rfl⟩
      refine x_iinc (L' := [(4, vI v11), (6, vI v9), (5, vR r6), (1, vR a1), (2, vI x2), (3, vI x3)]) C dX10_sixtiethsOf_68 (mem_k 5 rfl) (by decide) h.1 ev11 rfl ?_
      replace h := h.2 v11 ev11
      refine w_goto (tgt := 5) C dX10_sixtiethsOf_71 (by decide) ?_
      refine x_pc (pc2 := 5) rfl ?_
      refine x_pick (L' := [(1, vR a1), (2, vI x2), (3, vI x3), (4, vI v11)]) [3, 4, 5, 0] rfl ?_
      exact hK5 x3 v11 h
    · replace h := h.2 q
      refine w_iload C dX10_sixtiethsOf_39 (mem_k 0 rfl) ?_
      refine w_if_le (tgt := 68) C dX10_sixtiethsOf_41 (by decide) (fun q => ?_) (fun q => ?_)
      · replace h := h.1 q
        obtain ⟨v12, ev12⟩ : ∃ z : Int, z = x4 + 1 := ⟨_, rfl⟩
        refine x_iinc (L' := [(4, vI v12), (6, vI v9), (5, vR r6), (1, vR a1), (2, vI x2), (3, vI x3)]) C dX10_sixtiethsOf_68 (mem_k 5 rfl) (by decide) h.1 ev12 rfl ?_
        replace h := h.2 v12 ev12
        refine w_goto (tgt := 5) C dX10_sixtiethsOf_71 (by decide) ?_
        refine x_pc (pc2 := 5) rfl ?_
        refine x_pick (L' := [(1, vR a1), (2, vI x2), (3, vI x3), (4, vI v12)]) [3, 4, 5, 0] rfl ?_
        exact hK5 x3 v12 h
      · replace h := h.2 q
        refine w_iload_n C dX10_sixtiethsOf_44 rfl (mem_k 4 rfl) ?_
        refine w_aload C dX10_sixtiethsOf_45 (mem_k 1 rfl) ?_
        refine w_iload_n C dX10_sixtiethsOf_47 rfl (mem_k 3 rfl) ?_
        refine cl_X0_saidOf (ck_X10_34 ⟨by decide, by decide⟩) C dX10_sixtiethsOf_48 hn h3 (Nat.le_of_ble_eq_true rfl) (isO.n g8 (hn.trans h3)) h (fun v13 h => ?_)
        refine w_bipush C dX10_sixtiethsOf_51 (by decide) ?_
        refine w_imul C dX10_sixtiethsOf_53 h.1 ?_
        replace h := h.2
        refine w_aload C dX10_sixtiethsOf_54 (mem_k 1 rfl) ?_
        refine cl_X0_saidTogether (ck_X10_48 ⟨by decide, by decide⟩) C dX10_sixtiethsOf_56 hn h3 (Nat.le_of_ble_eq_true rfl) (isO.n g8 (hn.trans h3)) h (fun v14 h => ?_)
        refine w_bipush C dX10_sixtiethsOf_59 (by decide) ?_
        refine w_iload C dX10_sixtiethsOf_61 (mem_k 0 rfl) ?_
        refine x_idiv C dX10_sixtiethsOf_63 h.1 ?_
        replace h := h.2
        refine w_imul C dX10_sixtiethsOf_64 h.1 ?_
        replace h := h.2
        refine w_isub C dX10_sixtiethsOf_65 h.1 ?_
        replace h := h.2
        refine w_iadd C dX10_sixtiethsOf_66 h.1 ?_
        replace h := h.2
        refine x_nmI (fun v15 ev15 => ?_)
        replace h := h v15 ev15
        refine x_istore_n (L' := [(3, vI v15), (6, vI v9), (5, vR r6), (1, vR a1), (2, vI x2), (4, vI x4)]) C dX10_sixtiethsOf_67 rfl (by decide) rfl ?_
        obtain ⟨v16, ev16⟩ : ∃ z : Int, z = x4 + 1 := ⟨_, rfl⟩
        refine x_iinc (L' := [(4, vI v16), (3, vI v15), (6, vI v9), (5, vR r6), (1, vR a1), (2, vI x2)]) C dX10_sixtiethsOf_68 (mem_k 5 rfl) (by decide) h.1 ev16 rfl ?_
        replace h := h.2 v16 ev16
        refine w_goto (tgt := 5) C dX10_sixtiethsOf_71 (by decide) ?_
        refine x_pc (pc2 := 5) rfl ?_
        refine x_pick (L' := [(1, vR a1), (2, vI x2), (3, vI v15), (4, vI v16)]) [4, 5, 1, 0] rfl ?_
        exact hK5 v15 v16 h
set_option maxRecDepth 100000 in
set_option maxHeartbeats 4000000 in
theorem k_X10_sixtiethsOf_5 {a1 : Option Nat} {x2 : Int} {x3 : Int} {x4 : Int} {M : Mm} {Q : Int → Prop} {o0 : Nat} (C : Cx p s m args meth c cX10_sixtiethsOf 7 RX10 D cy G n0) (hr : meth.sig.returnType = some .int) (h3 : n0 = 243) (hn : M.2.2.2 = n0) (ho0 : o0 < 243 ∧ (SH o0).1 = 10) (hQ : ∀ x, Q x → Qp (some (vI x)) M) (h : P_X10_sixtiethsOf_5 a1 x2 x3 x4 M Q ) : WW p l e ({ frames := 4, cells := 0, slots := 0, locals := 86 }) s m args below meth c (ZQ below args s D cy G n0 Qp n0) 7 D cy G n0 5 [(1, vR a1), (2, vI x2), (3, vI x3), (4, vI x4)] [] M := by
  refine lpW_sound (P := fun y : Int × Int => WW p l e ({ frames := 4, cells := 0, slots := 0, locals := 86 }) s m args below meth c (ZQ below args s D cy G n0 Qp n0) 7 D cy G n0 5 [(1, vR a1), (2, vI x2), (3, vI y.1), (4, vI y.2)] [] M) ?_ h
  intro K y hK hF
  obtain ⟨x3, x4⟩ := y
  exact f_X10_sixtiethsOf_5 C hr h3 hn ho0 hQ  (fun x3 x4 hk => hK (x3, x4) hk) hF
set_option maxRecDepth 100000 in
set_option maxHeartbeats 4000000 in
theorem k_X10_sixtiethsOf_0 {o0 : Nat} {a1 : Option Nat} {x2 : Int} {M : Mm} {Q : Int → Prop} (C : Cx p s m args meth c cX10_sixtiethsOf 7 RX10 D cy G n0) (hr : meth.sig.returnType = some .int) (h3 : n0 = 243) (hn : M.2.2.2 = n0) (ho0 : o0 < 243 ∧ (SH o0).1 = 10) (hQ : ∀ x, Q x → Qp (some (vI x)) M) (h : P_X10_sixtiethsOf o0 a1 x2 M Q ) : WW p l e ({ frames := 4, cells := 0, slots := 0, locals := 86 }) s m args below meth c (ZQ below args s D cy G n0 Qp n0) 7 D cy G n0 0 [(0, vR (some o0)), (1, vR a1), (2, vI x2)] [] M := by
  unfold P_X10_sixtiethsOf at h
  refine w_iconst C dX10_sixtiethsOf_0 ⟨by decide, by decide⟩ ?_
  refine x_istore_n (L' := [(3, vI 0), (0, vR (some o0)), (1, vR a1), (2, vI x2)]) C dX10_sixtiethsOf_1 rfl (by decide) rfl ?_
  refine w_iconst C dX10_sixtiethsOf_2 ⟨by decide, by decide⟩ ?_
  refine x_istore (L' := [(4, vI 0), (3, vI 0), (0, vR (some o0)), (1, vR a1), (2, vI x2)]) C dX10_sixtiethsOf_3 (by decide) rfl ?_
  refine x_pc (pc2 := 5) rfl ?_
  refine x_pick (L' := [(1, vR a1), (2, vI x2), (3, vI 0), (4, vI 0)]) [3, 4, 1, 0] rfl ?_
  exact k_X10_sixtiethsOf_5 C hr h3 hn ho0 hQ  h
set_option maxRecDepth 100000 in
set_option maxHeartbeats 4000000 in
theorem con_X10_sixtiethsOf (l : Launch) (D : va_G) (cy : Nat → ClassId) : Con l D cy yX10_sixtiethsOf cX10_sixtiethsOf 7 (some .int) ({ frames := 4, cells := 0, slots := 0, locals := 86 }) 0 0 SP_X10_sixtiethsOf := by
  refine con_of (by decide) (fun as M Qp h => ?_) ?_
  · obtain ⟨-, o0, a1, x2, rfl, -⟩ := h
    exact Nat.le_of_ble_eq_true rfl
  · intro p e s m args below meth c G as M Qp h C hr hnm
    obtain ⟨hn, o0, a1, x2, rfl, ho1, ho2, Q0, hQ, h⟩ := h
    refine x_pick (L' := [(0, vR (some o0)), (1, vR a1), (2, vI x2)]) [0, 1, 2] rfl ?_
    exact k_X10_sixtiethsOf_0 C hr hn rfl ⟨ho1, ho2⟩ hQ h
set_option maxRecDepth 100000 in
set_option maxHeartbeats 4000000 in
theorem cl_X10_sixtiethsOf {p : Program} {l : Launch} {e : Env} {R : Room} {s : State} {m : MethodId} {args : Array Value} {below : List Frame} {meth : Method} {c : Code} {Q : State → Prop} {cc : ByteArray} {nL : Nat} {own : String} {D : va_G} {cy : Nat → ClassId} {G : Nat × Nat} {n0 pc : Nat} {L : List (Nat × PV)} {st : List PV} {M : Mm} {op : Instr} (K : CallOK l D cy R own op 0 0 (spV 10 2 SP_X10_sixtiethsOf)) (C : Cx p s m args meth c cc nL own D cy G n0) (hd : decode cc pc = .ok (op, 3)) (hn : M.2.2.2 = n0) (h3 : n0 = 243) (hlen : argN st ≤ 8) {r : Option Nat} {o0 : Nat} (ho : isOn 10 M.2.2.2 r o0) {a1 : Option Nat} {x2 : Int} {Q0 : Int → Prop} (h : P_X10_sixtiethsOf o0 a1 x2 M Q0) (k : ∀ x, Q0 x → WW p l e R s m args below meth c Q nL D cy G n0  (pc + 3) L (vI x :: st) M) : WW p l e R s m args below meth c Q nL D cy G n0  pc L (vI x2 :: vR a1 :: vR r :: st) M := by
  obtain ⟨rfl, ho1, ho2⟩ := ho
  refine x_call0 K C hd (as := [vR (some o0), vR a1, vI x2]) rfl hn hlen (fun v M2 => ∃ x, v = some (vI x) ∧ M2 = M ∧ Q0 x) ⟨⟨o0, [vR a1, vI x2], rfl, rfl, ho1, ho2⟩, hn.trans h3, o0, a1, x2, rfl, (hn.trans h3) ▸ ho1, ho2, Q0, fun x hx => ⟨x, rfl, rfl, hx⟩, h⟩ ?_
  rintro _ _ ⟨x, rfl, rfl, hx⟩ hm
  exact k x hx
end W_X10_sixtiethsOf
theorem dX11_write_0 : decode cX11_write 0 = .ok (.iload_n 1, 1) := by decide +kernel
theorem dX11_write_1 : decode cX11_write 1 = .ok (.iconst 1, 1) := by decide +kernel
theorem dX11_write_2 : decode cX11_write 2 = .ok (.bipush 8, 2) := by decide +kernel
theorem dX11_write_4 : decode cX11_write 4 = .ok (.invokestatic 61, 3) := by decide +kernel
theorem dX11_write_7 : decode cX11_write 7 = .ok (.ifCond .ne 5, 3) := by decide +kernel
theorem dX11_write_10 : decode cX11_write 10 = .ok (.iconst (-1), 1) := by decide +kernel
theorem dX11_write_11 : decode cX11_write 11 = .ok (.ireturn, 1) := by decide +kernel
theorem dX11_write_12 : decode cX11_write 12 = .ok (.aload_n 0, 1) := by decide +kernel
theorem dX11_write_13 : decode cX11_write 13 = .ok (.getfield 10, 3) := by decide +kernel
theorem dX11_write_16 : decode cX11_write 16 = .ok (.iload_n 1, 1) := by decide +kernel
theorem dX11_write_17 : decode cX11_write 17 = .ok (.lload_n 2, 1) := by decide +kernel
theorem dX11_write_18 : decode cX11_write 18 = .ok (.invokevirtual 65, 3) := by decide +kernel
theorem dX11_write_21 : decode cX11_write 21 = .ok (.ifCond .eq 13, 3) := by decide +kernel
theorem dX11_write_24 : decode cX11_write 24 = .ok (.aload_n 0, 1) := by decide +kernel
theorem dX11_write_25 : decode cX11_write 25 = .ok (.getfield 10, 3) := by decide +kernel
theorem dX11_write_28 : decode cX11_write 28 = .ok (.getfield 69, 3) := by decide +kernel
theorem dX11_write_31 : decode cX11_write 31 = .ok (.goto 5, 3) := by decide +kernel
theorem dX11_write_34 : decode cX11_write 34 = .ok (.bipush (-3), 2) := by decide +kernel
theorem dX11_write_36 : decode cX11_write 36 = .ok (.ireturn, 1) := by decide +kernel
theorem fw_X11_10 : fR RX11 10 11 0 := ⟨⟨lwG_2 (i := 62) rfl rfl, by decide, by decide⟩, fun _ _ => rfl, fun r => ⟨r, rfl⟩⟩
theorem ck_X11_65 {l : Launch} {D : va_G} {cy : Nat → ClassId} {R : Room} (hR : 1 ≤ R.frames ∧ 24 ≤ R.locals) : CallOK l D cy R RX11 (.invokevirtual 65) 0 0 (spV 9 2 SP_X9_append) := call_V (ci := 9) (con_X9_append l D cy) (lwG_2 (i := 94) rfl rfl) (lwG_2 (i := 95) rfl rfl) (lwG_2 (i := 96) rfl rfl) (lwG_1 (i := 2) rfl rfl) (lwG_2 (i := 97) rfl rfl) (by decide) ⟨rfl, by decide, by decide, rfl⟩ ⟨rfl, rfl⟩ hR
theorem fw_X11_69 : fI RX11 69 9 1 := ⟨⟨lwG_1 (i := 32) rfl rfl, by decide, by decide⟩, rfl⟩
section W_X11_write
variable {p : Program} {l : Launch} {e : Env} {s : State} {m : MethodId} {args : Array Value} {below : List Frame} {meth : Method} {c : Code} {D : va_G} {cy : Nat → ClassId} {G : Nat × Nat} {n0 : Nat} {Qp : Option PV → Mm → Prop}
set_option maxRecDepth 100000 in
set_option maxHeartbeats 4000000 in
theorem k_X11_write_0 {o0 : Nat} {x1 : Int} {x2 : Int} {M : Mm} {Q : Int → Mm → Prop} (C : Cx p s m args meth c cX11_write 4 RX11 D cy G n0) (hr : meth.sig.returnType = some .int) (h3 : n0 = 243) (hn : M.2.2.2 = n0) (ho0 : o0 < 243 ∧ (SH o0).1 = 11) (hQ : ∀ x M, Q x M → Qp (some (vI x)) M) (h : P_X11_write o0 x1 x2 M Q ) : WW p l e ({ frames := 1, cells := 0, slots := 0, locals := 24 }) s m args below meth c (ZQ below args s D cy G n0 Qp n0) 4 D cy G n0 0 [(0, vR (some o0)), (1, vI x1), (2, vL x2)] [] M := by
  unfold P_X11_write at h
  refine w_iload_n C dX11_write_0 rfl (mem_k 1 rfl) ?_
  refine w_iconst C dX11_write_1 ⟨by decide, by decide⟩ ?_
  refine w_bipush C dX11_write_2 (by decide) ?_
  refine cl_X11_isWithin (ck_X11_61 ⟨by decide, by decide⟩) C dX11_write_4 hn h3 (Nat.le_of_ble_eq_true rfl) h (fun v1 h => ?_)
  refine w_if_ne (tgt := 12) C dX11_write_7 (by decide) (fun q => ?_) (fun q => ?_)
  · replace h := h.1 q
    refine w_aload_n C dX11_write_12 rfl (mem_k 0 rfl) ?_
    refine x_getR C dX11_write_13 fw_X11_10 (isO.n (ci := 11) ⟨rfl, ho0⟩ (hn.trans h3)) (fun r2 er2 => ?_)
    replace h := h r2 er2
    refine w_iload_n C dX11_write_16 rfl (mem_k 1 rfl) ?_
    refine w_lload_n C dX11_write_17 rfl (mem_k 2 rfl) ?_
    obtain ⟨o3, g4, h⟩ := h
    refine cl_X9_append (ck_X11_65 ⟨by decide, by decide⟩) C dX11_write_18 hn h3 (Nat.le_of_ble_eq_true rfl) (isO.n g4 (hn.trans h3)) h (fun v5 M6 h hn7 => ?_)
    refine w_if_eq (tgt := 34) C dX11_write_21 (by decide) (fun q => ?_) (fun q => ?_)
    · replace h := h.1 q
      refine w_bipush C dX11_write_34 (by decide) ?_
      exact x_iret C hr dX11_write_36 hn7 (hQ _ M6 h)
    · replace h := h.2 q
      refine w_aload_n C dX11_write_24 rfl (mem_k 0 rfl) ?_
      refine x_getR C dX11_write_25 fw_X11_10 (isO.n (ci := 11) ⟨rfl, ho0⟩ (hn7.trans h3)) (fun r8 er8 => ?_)
      replace h := h r8 er8
      obtain ⟨o9, g10, h⟩ := h
      refine x_getI C dX11_write_28 fw_X11_69 (isO.n g10 (hn7.trans h3)) ?_
      refine w_goto (tgt := 36) C dX11_write_31 (by decide) ?_
      exact x_iret C hr dX11_write_36 hn7 (hQ _ M6 h)
  · replace h := h.2 q
    refine w_iconst C dX11_write_10 ⟨by decide, by decide⟩ ?_
    exact x_iret C hr dX11_write_11 hn (hQ _ M h)
set_option maxRecDepth 100000 in
set_option maxHeartbeats 4000000 in
theorem con_X11_write (l : Launch) (D : va_G) (cy : Nat → ClassId) : Con l D cy yX11_write cX11_write 4 (some .int) ({ frames := 1, cells := 0, slots := 0, locals := 24 }) 0 0 SP_X11_write := by
  refine con_of (by decide) (fun as M Qp h => ?_) ?_
  · obtain ⟨-, o0, x1, x2, rfl, -⟩ := h
    exact Nat.le_of_ble_eq_true rfl
  · intro p e s m args below meth c G as M Qp h C hr hnm
    obtain ⟨hn, o0, x1, x2, rfl, ho1, ho2, Q0, hQ, h⟩ := h
    refine x_pick (L' := [(0, vR (some o0)), (1, vI x1), (2, vL x2)]) [0, 1, 2] rfl ?_
    exact k_X11_write_0 C hr hn rfl ⟨ho1, ho2⟩ hQ h
set_option maxRecDepth 100000 in
set_option maxHeartbeats 4000000 in
theorem cl_X11_write {p : Program} {l : Launch} {e : Env} {R : Room} {s : State} {m : MethodId} {args : Array Value} {below : List Frame} {meth : Method} {c : Code} {Q : State → Prop} {cc : ByteArray} {nL : Nat} {own : String} {D : va_G} {cy : Nat → ClassId} {G : Nat × Nat} {n0 pc : Nat} {L : List (Nat × PV)} {st : List PV} {M : Mm} {op : Instr} (K : CallOK l D cy R own op 0 0 (spV 11 2 SP_X11_write)) (C : Cx p s m args meth c cc nL own D cy G n0) (hd : decode cc pc = .ok (op, 3)) (hn : M.2.2.2 = n0) (h3 : n0 = 243) (hlen : argN st ≤ 8) {r : Option Nat} {o0 : Nat} (ho : isOn 11 M.2.2.2 r o0) {x1 : Int} {x2 : Int} {Q0 : Int → Mm → Prop} (h : P_X11_write o0 x1 x2 M Q0) (k : ∀ x M2, Q0 x M2 → M2.2.2.2 = n0 → WW p l e R s m args below meth c Q nL D cy G n0  (pc + 3) L (vI x :: st) M2) : WW p l e R s m args below meth c Q nL D cy G n0  pc L (vL x2 :: vI x1 :: vR r :: st) M := by
  obtain ⟨rfl, ho1, ho2⟩ := ho
  refine x_call0 K C hd (as := [vR (some o0), vI x1, vL x2]) rfl hn hlen (fun v M2 => ∃ x, v = some (vI x) ∧ Q0 x M2) ⟨⟨o0, [vI x1, vL x2], rfl, rfl, ho1, ho2⟩, hn.trans h3, o0, x1, x2, rfl, (hn.trans h3) ▸ ho1, ho2, Q0, fun x M2 hx => ⟨x, rfl, hx⟩, h⟩ ?_
  rintro _ _ ⟨x, rfl, hx⟩ hm
  exact k x _ hx hm
end W_X11_write
theorem dX11_wipe_0 : decode cX11_wipe 0 = .ok (.aload_n 0, 1) := by decide +kernel
theorem dX11_wipe_1 : decode cX11_wipe 1 = .ok (.getfield 10, 3) := by decide +kernel
theorem dX11_wipe_4 : decode cX11_wipe 4 = .ok (.getfield 69, 3) := by decide +kernel
theorem dX11_wipe_7 : decode cX11_wipe 7 = .ok (.istore_n 1, 1) := by decide +kernel
theorem dX11_wipe_8 : decode cX11_wipe 8 = .ok (.aload_n 0, 1) := by decide +kernel
theorem dX11_wipe_9 : decode cX11_wipe 9 = .ok (.getfield 10, 3) := by decide +kernel
theorem dX11_wipe_12 : decode cX11_wipe 12 = .ok (.iconst 0, 1) := by decide +kernel
theorem dX11_wipe_13 : decode cX11_wipe 13 = .ok (.putfield 69, 3) := by decide +kernel
theorem dX11_wipe_16 : decode cX11_wipe 16 = .ok (.iload_n 1, 1) := by decide +kernel
theorem dX11_wipe_17 : decode cX11_wipe 17 = .ok (.ireturn, 1) := by decide +kernel
section W_X11_wipe
variable {p : Program} {l : Launch} {e : Env} {s : State} {m : MethodId} {args : Array Value} {below : List Frame} {meth : Method} {c : Code} {D : va_G} {cy : Nat → ClassId} {G : Nat × Nat} {n0 : Nat} {Qp : Option PV → Mm → Prop}
set_option maxRecDepth 100000 in
set_option maxHeartbeats 4000000 in
theorem k_X11_wipe_0 {o0 : Nat} {M : Mm} {Q : Int → Mm → Prop} (C : Cx p s m args meth c cX11_wipe 2 RX11 D cy G n0) (hr : meth.sig.returnType = some .int) (h3 : n0 = 243) (hn : M.2.2.2 = n0) (ho0 : o0 < 243 ∧ (SH o0).1 = 11) (hQ : ∀ x M, Q x M → Qp (some (vI x)) M) (h : P_X11_wipe o0 M Q ) : WW p l e ({ frames := 0, cells := 0, slots := 0, locals := 0 }) s m args below meth c (ZQ below args s D cy G n0 Qp n0) 2 D cy G n0 0 [(0, vR (some o0))] [] M := by
  unfold P_X11_wipe at h
  refine w_aload_n C dX11_wipe_0 rfl (mem_k 0 rfl) ?_
  refine x_getR C dX11_wipe_1 fw_X11_10 (isO.n (ci := 11) ⟨rfl, ho0⟩ (hn.trans h3)) (fun r1 er1 => ?_)
  replace h := h r1 er1
  obtain ⟨o2, g3, h⟩ := h
  refine x_getI C dX11_wipe_4 fw_X11_69 (isO.n g3 (hn.trans h3)) ?_
  refine x_nmI (fun v4 ev4 => ?_)
  replace h := h v4 ev4
  refine x_istore_n (L' := [(1, vI v4), (0, vR (some o0))]) C dX11_wipe_7 rfl (by decide) rfl ?_
  refine w_aload_n C dX11_wipe_8 rfl (mem_k 1 rfl) ?_
  refine x_getR C dX11_wipe_9 fw_X11_10 (isO.n (ci := 11) ⟨rfl, ho0⟩ (hn.trans h3)) (fun r5 er5 => ?_)
  replace h := h r5 er5
  refine w_iconst C dX11_wipe_12 ⟨by decide, by decide⟩ ?_
  obtain ⟨o6, g7, h⟩ := h
  refine x_putI C dX11_wipe_13 fw_X11_69 (isO.n g7 (hn.trans h3)) (Or.inl rfl) (fun M8 eM8 hn9 => ?_)
  replace h := h M8 eM8
  replace hn9 := hn9.trans hn
  refine w_iload_n C dX11_wipe_16 rfl (mem_k 0 rfl) ?_
  exact x_iret C hr dX11_wipe_17 hn9 (hQ _ M8 h)
set_option maxRecDepth 100000 in
set_option maxHeartbeats 4000000 in
theorem con_X11_wipe (l : Launch) (D : va_G) (cy : Nat → ClassId) : Con l D cy yX11_wipe cX11_wipe 2 (some .int) ({ frames := 0, cells := 0, slots := 0, locals := 0 }) 0 0 SP_X11_wipe := by
  refine con_of (by decide) (fun as M Qp h => ?_) ?_
  · obtain ⟨-, o0, rfl, -⟩ := h
    exact Nat.le_of_ble_eq_true rfl
  · intro p e s m args below meth c G as M Qp h C hr hnm
    obtain ⟨hn, o0, rfl, ho1, ho2, Q0, hQ, h⟩ := h
    refine x_pick (L' := [(0, vR (some o0))]) [0] rfl ?_
    exact k_X11_wipe_0 C hr hn rfl ⟨ho1, ho2⟩ hQ h
set_option maxRecDepth 100000 in
set_option maxHeartbeats 4000000 in
theorem cl_X11_wipe {p : Program} {l : Launch} {e : Env} {R : Room} {s : State} {m : MethodId} {args : Array Value} {below : List Frame} {meth : Method} {c : Code} {Q : State → Prop} {cc : ByteArray} {nL : Nat} {own : String} {D : va_G} {cy : Nat → ClassId} {G : Nat × Nat} {n0 pc : Nat} {L : List (Nat × PV)} {st : List PV} {M : Mm} {op : Instr} (K : CallOK l D cy R own op 0 0 (spV 11 0 SP_X11_wipe)) (C : Cx p s m args meth c cc nL own D cy G n0) (hd : decode cc pc = .ok (op, 3)) (hn : M.2.2.2 = n0) (h3 : n0 = 243) (hlen : argN st ≤ 8) {r : Option Nat} {o0 : Nat} (ho : isOn 11 M.2.2.2 r o0)  {Q0 : Int → Mm → Prop} (h : P_X11_wipe o0 M Q0) (k : ∀ x M2, Q0 x M2 → M2.2.2.2 = n0 → WW p l e R s m args below meth c Q nL D cy G n0  (pc + 3) L (vI x :: st) M2) : WW p l e R s m args below meth c Q nL D cy G n0  pc L (vR r :: st) M := by
  obtain ⟨rfl, ho1, ho2⟩ := ho
  refine x_call0 K C hd (as := [vR (some o0)]) rfl hn hlen (fun v M2 => ∃ x, v = some (vI x) ∧ Q0 x M2) ⟨⟨o0, [], rfl, rfl, ho1, ho2⟩, hn.trans h3, o0, rfl, (hn.trans h3) ▸ ho1, ho2, Q0, fun x M2 hx => ⟨x, rfl, hx⟩, h⟩ ?_
  rintro _ _ ⟨x, rfl, hx⟩ hm
  exact k x _ hx hm
end W_X11_wipe
theorem dX11_fault_0 : decode cX11_fault 0 = .ok (.aload_n 0, 1) := by decide +kernel
theorem dX11_fault_1 : decode cX11_fault 1 = .ok (.getfield 10, 3) := by decide +kernel
theorem dX11_fault_4 : decode cX11_fault 4 = .ok (.aload_n 0, 1) := by decide +kernel
theorem dX11_fault_5 : decode cX11_fault 5 = .ok (.getfield 23, 3) := by decide +kernel
theorem dX11_fault_8 : decode cX11_fault 8 = .ok (.invokevirtual 73, 3) := by decide +kernel
theorem dX11_fault_11 : decode cX11_fault 11 = .ok (.ireturn, 1) := by decide +kernel
theorem fw_X11_23 : fR RX11 23 11 2 := ⟨⟨lwG_2 (i := 64) rfl rfl, by decide, by decide⟩, fun _ _ => rfl, fun r => ⟨r, rfl⟩⟩
theorem ck_X11_73 {l : Launch} {D : va_G} {cy : Nat → ClassId} {R : Room} (hR : 4 ≤ R.frames ∧ 94 ≤ R.locals) : CallOK l D cy R RX11 (.invokevirtual 73) 0 0 (spV 9 1 SP_X9_readInto) := call_V (ci := 9) (con_X9_readInto l D cy) (lwG_2 (i := 106) rfl rfl) (lwG_2 (i := 107) rfl rfl) (lwG_2 (i := 108) rfl rfl) (lwG_1 (i := 2) rfl rfl) (lwG_2 (i := 109) rfl rfl) (by decide) ⟨rfl, by decide, by decide, rfl⟩ ⟨rfl, rfl⟩ hR
section W_X11_fault
variable {p : Program} {l : Launch} {e : Env} {s : State} {m : MethodId} {args : Array Value} {below : List Frame} {meth : Method} {c : Code} {D : va_G} {cy : Nat → ClassId} {G : Nat × Nat} {n0 : Nat} {Qp : Option PV → Mm → Prop}
set_option maxRecDepth 100000 in
set_option maxHeartbeats 4000000 in
theorem k_X11_fault_0 {o0 : Nat} {M : Mm} {Q : Int → Mm → Prop} (C : Cx p s m args meth c cX11_fault 1 RX11 D cy G n0) (hr : meth.sig.returnType = some .int) (h3 : n0 = 243) (hn : M.2.2.2 = n0) (ho0 : o0 < 243 ∧ (SH o0).1 = 11) (hQ : ∀ x M, Q x M → Qp (some (vI x)) M) (h : P_X11_fault o0 M Q ) : WW p l e ({ frames := 4, cells := 0, slots := 0, locals := 94 }) s m args below meth c (ZQ below args s D cy G n0 Qp n0) 1 D cy G n0 0 [(0, vR (some o0))] [] M := by
  unfold P_X11_fault at h
  refine w_aload_n C dX11_fault_0 rfl (mem_k 0 rfl) ?_
  refine x_getR C dX11_fault_1 fw_X11_10 (isO.n (ci := 11) ⟨rfl, ho0⟩ (hn.trans h3)) (fun r1 er1 => ?_)
  replace h := h r1 er1
  refine w_aload_n C dX11_fault_4 rfl (mem_k 0 rfl) ?_
  refine x_getR C dX11_fault_5 fw_X11_23 (isO.n (ci := 11) ⟨rfl, ho0⟩ (hn.trans h3)) (fun r2 er2 => ?_)
  replace h := h r2 er2
  obtain ⟨o3, g4, h⟩ := h
  refine cl_X9_readInto (ck_X11_73 ⟨by decide, by decide⟩) C dX11_fault_8 hn h3 (Nat.le_of_ble_eq_true rfl) (isO.n g4 (hn.trans h3)) h (fun v5 M6 h hn7 => ?_)
  exact x_iret C hr dX11_fault_11 hn7 (hQ _ M6 h)
set_option maxRecDepth 100000 in
set_option maxHeartbeats 4000000 in
theorem con_X11_fault (l : Launch) (D : va_G) (cy : Nat → ClassId) : Con l D cy yX11_fault cX11_fault 1 (some .int) ({ frames := 4, cells := 0, slots := 0, locals := 94 }) 0 0 SP_X11_fault := by
  refine con_of (by decide) (fun as M Qp h => ?_) ?_
  · obtain ⟨-, o0, rfl, -⟩ := h
    exact Nat.le_of_ble_eq_true rfl
  · intro p e s m args below meth c G as M Qp h C hr hnm
    obtain ⟨hn, o0, rfl, ho1, ho2, Q0, hQ, h⟩ := h
    refine x_pick (L' := [(0, vR (some o0))]) [0] rfl ?_
    exact k_X11_fault_0 C hr hn rfl ⟨ho1, ho2⟩ hQ h
set_option maxRecDepth 100000 in
set_option maxHeartbeats 4000000 in
theorem cl_X11_fault {p : Program} {l : Launch} {e : Env} {R : Room} {s : State} {m : MethodId} {args : Array Value} {below : List Frame} {meth : Method} {c : Code} {Q : State → Prop} {cc : ByteArray} {nL : Nat} {own : String} {D : va_G} {cy : Nat → ClassId} {G : Nat × Nat} {n0 pc : Nat} {L : List (Nat × PV)} {st : List PV} {M : Mm} {op : Instr} (K : CallOK l D cy R own op 0 0 (spV 11 0 SP_X11_fault)) (C : Cx p s m args meth c cc nL own D cy G n0) (hd : decode cc pc = .ok (op, 3)) (hn : M.2.2.2 = n0) (h3 : n0 = 243) (hlen : argN st ≤ 8) {r : Option Nat} {o0 : Nat} (ho : isOn 11 M.2.2.2 r o0)  {Q0 : Int → Mm → Prop} (h : P_X11_fault o0 M Q0) (k : ∀ x M2, Q0 x M2 → M2.2.2.2 = n0 → WW p l e R s m args below meth c Q nL D cy G n0  (pc + 3) L (vI x :: st) M2) : WW p l e R s m args below meth c Q nL D cy G n0  pc L (vR r :: st) M := by
  obtain ⟨rfl, ho1, ho2⟩ := ho
  refine x_call0 K C hd (as := [vR (some o0)]) rfl hn hlen (fun v M2 => ∃ x, v = some (vI x) ∧ Q0 x M2) ⟨⟨o0, [], rfl, rfl, ho1, ho2⟩, hn.trans h3, o0, rfl, (hn.trans h3) ▸ ho1, ho2, Q0, fun x M2 hx => ⟨x, rfl, hx⟩, h⟩ ?_
  rintro _ _ ⟨x, rfl, hx⟩ hm
  exact k x _ hx hm
end W_X11_fault
theorem dX11_lay_0 : decode cX11_lay 0 = .ok (.aload_n 0, 1) := by decide +kernel
theorem dX11_lay_1 : decode cX11_lay 1 = .ok (.getfield 10, 3) := by decide +kernel
theorem dX11_lay_4 : decode cX11_lay 4 = .ok (.aload_n 0, 1) := by decide +kernel
theorem dX11_lay_5 : decode cX11_lay 5 = .ok (.getfield 23, 3) := by decide +kernel
theorem dX11_lay_8 : decode cX11_lay 8 = .ok (.invokevirtual 73, 3) := by decide +kernel
theorem dX11_lay_11 : decode cX11_lay 11 = .ok (.bipush (-4), 2) := by decide +kernel
theorem dX11_lay_13 : decode cX11_lay 13 = .ok (.if_icmp .ne 13, 3) := by decide +kernel
theorem dX11_lay_16 : decode cX11_lay 16 = .ok (.aload_n 0, 1) := by decide +kernel
theorem dX11_lay_17 : decode cX11_lay 17 = .ok (.getfield 23, 3) := by decide +kernel
theorem dX11_lay_20 : decode cX11_lay 20 = .ok (.invokevirtual 77, 3) := by decide +kernel
theorem dX11_lay_23 : decode cX11_lay 23 = .ok (.ifCond .ne 6, 3) := by decide +kernel
theorem dX11_lay_26 : decode cX11_lay 26 = .ok (.bipush (-2), 2) := by decide +kernel
theorem dX11_lay_28 : decode cX11_lay 28 = .ok (.ireturn, 1) := by decide +kernel
theorem dX11_lay_29 : decode cX11_lay 29 = .ok (.aload_n 0, 1) := by decide +kernel
theorem dX11_lay_30 : decode cX11_lay 30 = .ok (.getfield 19, 3) := by decide +kernel
theorem dX11_lay_33 : decode cX11_lay 33 = .ok (.astore_n 1, 1) := by decide +kernel
theorem dX11_lay_34 : decode cX11_lay 34 = .ok (.aload_n 0, 1) := by decide +kernel
theorem dX11_lay_35 : decode cX11_lay 35 = .ok (.aload_n 0, 1) := by decide +kernel
theorem dX11_lay_36 : decode cX11_lay 36 = .ok (.getfield 23, 3) := by decide +kernel
theorem dX11_lay_39 : decode cX11_lay 39 = .ok (.putfield 19, 3) := by decide +kernel
theorem dX11_lay_42 : decode cX11_lay 42 = .ok (.aload_n 0, 1) := by decide +kernel
theorem dX11_lay_43 : decode cX11_lay 43 = .ok (.aload_n 1, 1) := by decide +kernel
theorem dX11_lay_44 : decode cX11_lay 44 = .ok (.putfield 23, 3) := by decide +kernel
theorem dX11_lay_47 : decode cX11_lay 47 = .ok (.aload_n 0, 1) := by decide +kernel
theorem dX11_lay_48 : decode cX11_lay 48 = .ok (.getfield 19, 3) := by decide +kernel
theorem dX11_lay_51 : decode cX11_lay 51 = .ok (.getfield 81, 3) := by decide +kernel
theorem dX11_lay_54 : decode cX11_lay 54 = .ok (.ireturn, 1) := by decide +kernel
theorem ck_X11_77 {l : Launch} {D : va_G} {cy : Nat → ClassId} {R : Room} (hR : 1 ≤ R.frames ∧ 21 ≤ R.locals) : CallOK l D cy R RX11 (.invokevirtual 77) 0 0 (spV 5 0 SP_X5_allSeatsHavePatches) := call_V (ci := 5) (con_X5_allSeatsHavePatches l D cy) (lwG_2 (i := 163) rfl rfl) (lwG_2 (i := 164) rfl rfl) (lwG_2 (i := 165) rfl rfl) (lwG_1 (i := 3) rfl rfl) (lwG_2 (i := 166) rfl rfl) (by decide) ⟨rfl, by decide, by decide, rfl⟩ ⟨rfl, rfl⟩ hR
theorem fw_X11_19 : fR RX11 19 11 1 := ⟨⟨lwG_2 (i := 63) rfl rfl, by decide, by decide⟩, fun _ _ => rfl, fun r => ⟨r, rfl⟩⟩
theorem fw_X11_81 : fI RX11 81 5 3 := ⟨⟨lwG_1 (i := 142) rfl rfl, by decide, by decide⟩, rfl⟩
section W_X11_lay
variable {p : Program} {l : Launch} {e : Env} {s : State} {m : MethodId} {args : Array Value} {below : List Frame} {meth : Method} {c : Code} {D : va_G} {cy : Nat → ClassId} {G : Nat × Nat} {n0 : Nat} {Qp : Option PV → Mm → Prop}
set_option maxRecDepth 100000 in
set_option maxHeartbeats 4000000 in
theorem k_X11_lay_0 {o0 : Nat} {M : Mm} {Q : Int → Mm → Prop} (C : Cx p s m args meth c cX11_lay 2 RX11 D cy G n0) (hr : meth.sig.returnType = some .int) (h3 : n0 = 243) (hn : M.2.2.2 = n0) (ho0 : o0 < 243 ∧ (SH o0).1 = 11) (hQ : ∀ x M, Q x M → Qp (some (vI x)) M) (h : P_X11_lay o0 M Q ) : WW p l e ({ frames := 4, cells := 0, slots := 0, locals := 94 }) s m args below meth c (ZQ below args s D cy G n0 Qp n0) 2 D cy G n0 0 [(0, vR (some o0))] [] M := by
  unfold P_X11_lay at h
  refine w_aload_n C dX11_lay_0 rfl (mem_k 0 rfl) ?_
  refine x_getR C dX11_lay_1 fw_X11_10 (isO.n (ci := 11) ⟨rfl, ho0⟩ (hn.trans h3)) (fun r1 er1 => ?_)
  replace h := h r1 er1
  refine w_aload_n C dX11_lay_4 rfl (mem_k 0 rfl) ?_
  refine x_getR C dX11_lay_5 fw_X11_23 (isO.n (ci := 11) ⟨rfl, ho0⟩ (hn.trans h3)) (fun r2 er2 => ?_)
  replace h := h r2 er2
  obtain ⟨o3, g4, h⟩ := h
  refine cl_X9_readInto (ck_X11_73 ⟨by decide, by decide⟩) C dX11_lay_8 hn h3 (Nat.le_of_ble_eq_true rfl) (isO.n g4 (hn.trans h3)) h (fun v5 M6 h hn7 => ?_)
  refine w_bipush C dX11_lay_11 (by decide) ?_
  refine w_icmp_ne (tgt := 26) C dX11_lay_13 (by decide) (fun q => ?_) (fun q => ?_)
  · replace h := h.1 q
    refine w_bipush C dX11_lay_26 (by decide) ?_
    exact x_iret C hr dX11_lay_28 hn7 (hQ _ M6 h)
  · replace h := h.2 q
    refine w_aload_n C dX11_lay_16 rfl (mem_k 0 rfl) ?_
    refine x_getR C dX11_lay_17 fw_X11_23 (isO.n (ci := 11) ⟨rfl, ho0⟩ (hn7.trans h3)) (fun r8 er8 => ?_)
    replace h := h r8 er8
    obtain ⟨o9, g10, h⟩ := h
    refine cl_X5_allSeatsHavePatches (ck_X11_77 ⟨by decide, by decide⟩) C dX11_lay_20 hn7 h3 (Nat.le_of_ble_eq_true rfl) (isO.n g10 (hn7.trans h3)) h (fun v11 h => ?_)
    refine w_if_ne (tgt := 29) C dX11_lay_23 (by decide) (fun q => ?_) (fun q => ?_)
    · replace h := h.1 q
      refine w_aload_n C dX11_lay_29 rfl (mem_k 0 rfl) ?_
      refine x_getR C dX11_lay_30 fw_X11_19 (isO.n (ci := 11) ⟨rfl, ho0⟩ (hn7.trans h3)) (fun r12 er12 => ?_)
      replace h := h r12 er12
      refine x_astore_n (L' := [(1, vR r12), (0, vR (some o0))]) C dX11_lay_33 rfl (by decide) rfl ?_
      refine w_aload_n C dX11_lay_34 rfl (mem_k 1 rfl) ?_
      refine w_aload_n C dX11_lay_35 rfl (mem_k 1 rfl) ?_
      refine x_getR C dX11_lay_36 fw_X11_23 (isO.n (ci := 11) ⟨rfl, ho0⟩ (hn7.trans h3)) (fun r13 er13 => ?_)
      replace h := h r13 er13
      refine x_putR C dX11_lay_39 fw_X11_19 (isO.n (ci := 11) ⟨rfl, ho0⟩ (hn7.trans h3)) (Or.inl rfl) (fun M14 eM14 hn15 => ?_)
      replace h := h M14 eM14
      replace hn15 := hn15.trans hn7
      refine w_aload_n C dX11_lay_42 rfl (mem_k 1 rfl) ?_
      refine w_aload_n C dX11_lay_43 rfl (mem_k 0 rfl) ?_
      refine x_putR C dX11_lay_44 fw_X11_23 (isO.n (ci := 11) ⟨rfl, ho0⟩ (hn15.trans h3)) (Or.inl rfl) (fun M16 eM16 hn17 => ?_)
      replace h := h M16 eM16
      replace hn17 := hn17.trans hn15
      refine w_aload_n C dX11_lay_47 rfl (mem_k 1 rfl) ?_
      refine x_getR C dX11_lay_48 fw_X11_19 (isO.n (ci := 11) ⟨rfl, ho0⟩ (hn17.trans h3)) (fun r18 er18 => ?_)
      replace h := h r18 er18
      obtain ⟨o19, g20, h⟩ := h
      refine x_getI C dX11_lay_51 fw_X11_81 (isO.n g20 (hn17.trans h3)) ?_
      exact x_iret C hr dX11_lay_54 hn17 (hQ _ M16 h)
    · replace h := h.2 q
      refine w_bipush C dX11_lay_26 (by decide) ?_
      exact x_iret C hr dX11_lay_28 hn7 (hQ _ M6 h)
set_option maxRecDepth 100000 in
set_option maxHeartbeats 4000000 in
theorem con_X11_lay (l : Launch) (D : va_G) (cy : Nat → ClassId) : Con l D cy yX11_lay cX11_lay 2 (some .int) ({ frames := 4, cells := 0, slots := 0, locals := 94 }) 0 0 SP_X11_lay := by
  refine con_of (by decide) (fun as M Qp h => ?_) ?_
  · obtain ⟨-, o0, rfl, -⟩ := h
    exact Nat.le_of_ble_eq_true rfl
  · intro p e s m args below meth c G as M Qp h C hr hnm
    obtain ⟨hn, o0, rfl, ho1, ho2, Q0, hQ, h⟩ := h
    refine x_pick (L' := [(0, vR (some o0))]) [0] rfl ?_
    exact k_X11_lay_0 C hr hn rfl ⟨ho1, ho2⟩ hQ h
set_option maxRecDepth 100000 in
set_option maxHeartbeats 4000000 in
theorem cl_X11_lay {p : Program} {l : Launch} {e : Env} {R : Room} {s : State} {m : MethodId} {args : Array Value} {below : List Frame} {meth : Method} {c : Code} {Q : State → Prop} {cc : ByteArray} {nL : Nat} {own : String} {D : va_G} {cy : Nat → ClassId} {G : Nat × Nat} {n0 pc : Nat} {L : List (Nat × PV)} {st : List PV} {M : Mm} {op : Instr} (K : CallOK l D cy R own op 0 0 (spV 11 0 SP_X11_lay)) (C : Cx p s m args meth c cc nL own D cy G n0) (hd : decode cc pc = .ok (op, 3)) (hn : M.2.2.2 = n0) (h3 : n0 = 243) (hlen : argN st ≤ 8) {r : Option Nat} {o0 : Nat} (ho : isOn 11 M.2.2.2 r o0)  {Q0 : Int → Mm → Prop} (h : P_X11_lay o0 M Q0) (k : ∀ x M2, Q0 x M2 → M2.2.2.2 = n0 → WW p l e R s m args below meth c Q nL D cy G n0  (pc + 3) L (vI x :: st) M2) : WW p l e R s m args below meth c Q nL D cy G n0  pc L (vR r :: st) M := by
  obtain ⟨rfl, ho1, ho2⟩ := ho
  refine x_call0 K C hd (as := [vR (some o0)]) rfl hn hlen (fun v M2 => ∃ x, v = some (vI x) ∧ Q0 x M2) ⟨⟨o0, [], rfl, rfl, ho1, ho2⟩, hn.trans h3, o0, rfl, (hn.trans h3) ▸ ho1, ho2, Q0, fun x M2 hx => ⟨x, rfl, hx⟩, h⟩ ?_
  rintro _ _ ⟨x, rfl, hx⟩ hm
  exact k x _ hx hm
end W_X11_lay
