/-! model: pure predicates, decode rows, walks, contracts; by program (wip/gen/walk.py) -/
theorem dX12_in_0 : decode cX12_in 0 = .ok (.lload_n 0, 1) := by decide +kernel
theorem dX12_in_1 : decode cX12_in 1 = .ok (.lload_n 2, 1) := by decide +kernel
theorem dX12_in_2 : decode cX12_in 2 = .ok (.lcmp, 1) := by decide +kernel
theorem dX12_in_3 : decode cX12_in 3 = .ok (.ifCond .lt 14, 3) := by decide +kernel
theorem dX12_in_6 : decode cX12_in 6 = .ok (.lload_n 0, 1) := by decide +kernel
theorem dX12_in_7 : decode cX12_in 7 = .ok (.lload 4, 2) := by decide +kernel
theorem dX12_in_9 : decode cX12_in 9 = .ok (.lcmp, 1) := by decide +kernel
theorem dX12_in_10 : decode cX12_in 10 = .ok (.ifCond .gt 7, 3) := by decide +kernel
theorem dX12_in_13 : decode cX12_in 13 = .ok (.iconst 1, 1) := by decide +kernel
theorem dX12_in_14 : decode cX12_in 14 = .ok (.goto 4, 3) := by decide +kernel
theorem dX12_in_17 : decode cX12_in 17 = .ok (.iconst 0, 1) := by decide +kernel
theorem dX12_in_18 : decode cX12_in 18 = .ok (.ireturn, 1) := by decide +kernel
section W_X12_in
variable {p : Program} {l : Launch} {e : Env} {s : State} {m : MethodId} {args : Array Value} {below : List Frame} {meth : Method} {c : Code} {D : va_G} {cy : Nat → ClassId} {G : Nat × Nat} {n0 : Nat} {Qp : Option PV → Mm → Prop}
set_option maxRecDepth 100000 in
set_option maxHeartbeats 4000000 in
theorem k_X12_in_0 {x0 : Int} {x2 : Int} {x4 : Int} {M : Mm} {Q : Int → Prop} (C : Cx p s m args meth c cX12_in 6 RX12 D cy G n0) (hr : meth.sig.returnType = some .boolean) (h3 : n0 = 243) (hn : M.2.2.2 = n0) (hQ : ∀ x, Q x → Qp (some (vI x)) M) (h : P_X12_in x0 x2 x4 M Q ) : WW p l e ({ frames := 0, cells := 0, slots := 0, locals := 0 }) s m args below meth c (ZQ below args s D cy G n0 Qp n0) 6 D cy G n0 0 [(0, vL x0), (2, vL x2), (4, vL x4)] [] M := by
  unfold P_X12_in at h
  refine w_lload_n C dX12_in_0 rfl (mem_k 0 rfl) ?_
  refine w_lload_n C dX12_in_1 rfl (mem_k 1 rfl) ?_
  refine x_lif_lt (tgt := 17) C dX12_in_2 dX12_in_3 (by decide) (fun q => ?_) (fun q => ?_)
  · replace h := h.1 q
    refine w_iconst C dX12_in_17 ⟨by decide, by decide⟩ ?_
    exact x_zret C hr dX12_in_18 hn (by decide) (hQ _ h)
  · replace h := h.2 q
    refine w_lload_n C dX12_in_6 rfl (mem_k 0 rfl) ?_
    refine w_lload C dX12_in_7 (mem_k 2 rfl) ?_
    refine x_lif_gt (tgt := 17) C dX12_in_9 dX12_in_10 (by decide) (fun q => ?_) (fun q => ?_)
    · replace h := h.1 q
      refine w_iconst C dX12_in_17 ⟨by decide, by decide⟩ ?_
      exact x_zret C hr dX12_in_18 hn (by decide) (hQ _ h)
    · replace h := h.2 q
      refine w_iconst C dX12_in_13 ⟨by decide, by decide⟩ ?_
      refine w_goto (tgt := 18) C dX12_in_14 (by decide) ?_
      exact x_zret C hr dX12_in_18 hn (by decide) (hQ _ h)
set_option maxRecDepth 100000 in
set_option maxHeartbeats 4000000 in
theorem con_X12_in (l : Launch) (D : va_G) (cy : Nat → ClassId) : Con l D cy yX12_in cX12_in 6 (some .boolean) ({ frames := 0, cells := 0, slots := 0, locals := 0 }) 0 0 SP_X12_in := by
  refine con_of (by decide) (fun as M Qp h => ?_) ?_
  · obtain ⟨-, x0, x2, x4, rfl, -⟩ := h
    exact Nat.le_of_ble_eq_true rfl
  · intro p e s m args below meth c G as M Qp h C hr hnm
    obtain ⟨hn, x0, x2, x4, rfl, Q0, hQ, h⟩ := h
    refine x_pick (L' := [(0, vL x0), (2, vL x2), (4, vL x4)]) [0, 1, 2] rfl ?_
    exact k_X12_in_0 C hr hn rfl hQ h
set_option maxRecDepth 100000 in
set_option maxHeartbeats 4000000 in
theorem cl_X12_in {p : Program} {l : Launch} {e : Env} {R : Room} {s : State} {m : MethodId} {args : Array Value} {below : List Frame} {meth : Method} {c : Code} {Q : State → Prop} {cc : ByteArray} {nL : Nat} {own : String} {D : va_G} {cy : Nat → ClassId} {G : Nat × Nat} {n0 pc : Nat} {L : List (Nat × PV)} {st : List PV} {M : Mm} {op : Instr} (K : CallOK l D cy R own op 0 0 (spS 3 SP_X12_in)) (C : Cx p s m args meth c cc nL own D cy G n0) (hd : decode cc pc = .ok (op, 3)) (hn : M.2.2.2 = n0) (h3 : n0 = 243) (hlen : argN st ≤ 8) {x0 : Int} {x2 : Int} {x4 : Int} {Q0 : Int → Prop} (h : P_X12_in x0 x2 x4 M Q0) (k : ∀ x, Q0 x → WW p l e R s m args below meth c Q nL D cy G n0  (pc + 3) L (vI x :: st) M) : WW p l e R s m args below meth c Q nL D cy G n0  pc L (vL x4 :: vL x2 :: vL x0 :: st) M := by
  refine x_call0 K C hd (as := [vL x0, vL x2, vL x4]) rfl hn hlen (fun v M2 => ∃ x, v = some (vI x) ∧ M2 = M ∧ Q0 x) ⟨rfl, hn.trans h3, x0, x2, x4, rfl, Q0, fun x hx => ⟨x, rfl, rfl, hx⟩, h⟩ ?_
  rintro _ _ ⟨x, rfl, rfl, hx⟩ hm
  exact k x hx
end W_X12_in
theorem dX12_common_0 : decode cX12_common 0 = .ok (.lload_n 0, 1) := by decide +kernel
theorem dX12_common_1 : decode cX12_common 1 = .ok (.lconst 0, 1) := by decide +kernel
theorem dX12_common_2 : decode cX12_common 2 = .ok (.lcmp, 1) := by decide +kernel
theorem dX12_common_3 : decode cX12_common 3 = .ok (.ifCond .ge 8, 3) := by decide +kernel
theorem dX12_common_6 : decode cX12_common 6 = .ok (.lload_n 0, 1) := by decide +kernel
theorem dX12_common_7 : decode cX12_common 7 = .ok (.lneg, 1) := by decide +kernel
theorem dX12_common_8 : decode cX12_common 8 = .ok (.goto 4, 3) := by decide +kernel
theorem dX12_common_11 : decode cX12_common 11 = .ok (.lload_n 0, 1) := by decide +kernel
theorem dX12_common_12 : decode cX12_common 12 = .ok (.lstore 4, 2) := by decide +kernel
theorem dX12_common_14 : decode cX12_common 14 = .ok (.lload_n 2, 1) := by decide +kernel
theorem dX12_common_15 : decode cX12_common 15 = .ok (.lconst 0, 1) := by decide +kernel
theorem dX12_common_16 : decode cX12_common 16 = .ok (.lcmp, 1) := by decide +kernel
theorem dX12_common_17 : decode cX12_common 17 = .ok (.ifCond .ge 8, 3) := by decide +kernel
theorem dX12_common_20 : decode cX12_common 20 = .ok (.lload_n 2, 1) := by decide +kernel
theorem dX12_common_21 : decode cX12_common 21 = .ok (.lneg, 1) := by decide +kernel
theorem dX12_common_22 : decode cX12_common 22 = .ok (.goto 4, 3) := by decide +kernel
theorem dX12_common_25 : decode cX12_common 25 = .ok (.lload_n 2, 1) := by decide +kernel
theorem dX12_common_26 : decode cX12_common 26 = .ok (.lstore 6, 2) := by decide +kernel
theorem dX12_common_28 : decode cX12_common 28 = .ok (.lload 6, 2) := by decide +kernel
theorem dX12_common_30 : decode cX12_common 30 = .ok (.lconst 0, 1) := by decide +kernel
theorem dX12_common_31 : decode cX12_common 31 = .ok (.lcmp, 1) := by decide +kernel
theorem dX12_common_32 : decode cX12_common 32 = .ok (.ifCond .eq 21, 3) := by decide +kernel
theorem dX12_common_35 : decode cX12_common 35 = .ok (.lload 4, 2) := by decide +kernel
theorem dX12_common_37 : decode cX12_common 37 = .ok (.lload 6, 2) := by decide +kernel
theorem dX12_common_39 : decode cX12_common 39 = .ok (.lrem, 1) := by decide +kernel
theorem dX12_common_40 : decode cX12_common 40 = .ok (.lstore 8, 2) := by decide +kernel
theorem dX12_common_42 : decode cX12_common 42 = .ok (.lload 6, 2) := by decide +kernel
theorem dX12_common_44 : decode cX12_common 44 = .ok (.lstore 4, 2) := by decide +kernel
theorem dX12_common_46 : decode cX12_common 46 = .ok (.lload 8, 2) := by decide +kernel
theorem dX12_common_48 : decode cX12_common 48 = .ok (.lstore 6, 2) := by decide +kernel
theorem dX12_common_50 : decode cX12_common 50 = .ok (.goto (-22), 3) := by decide +kernel
theorem dX12_common_53 : decode cX12_common 53 = .ok (.lload 4, 2) := by decide +kernel
theorem dX12_common_55 : decode cX12_common 55 = .ok (.lreturn, 1) := by decide +kernel
section W_X12_common
variable {p : Program} {l : Launch} {e : Env} {s : State} {m : MethodId} {args : Array Value} {below : List Frame} {meth : Method} {c : Code} {D : va_G} {cy : Nat → ClassId} {G : Nat × Nat} {n0 : Nat} {Qp : Option PV → Mm → Prop}
set_option maxRecDepth 100000 in
set_option maxHeartbeats 4000000 in
theorem f_X12_common_28 {x4 : Int} {x6 : Int} {M : Mm} {Q : Int → Prop} {K28 : Int × Int → Prop} (C : Cx p s m args meth c cX12_common 10 RX12 D cy G n0) (hr : meth.sig.returnType = some .long) (h3 : n0 = 243) (hn : M.2.2.2 = n0) (hQ : ∀ x, Q x → Qp (some (vL x)) M) (hK28 : ∀ (x4 : Int) (x6 : Int), K28 (x4, x6) → WW p l e ({ frames := 0, cells := 0, slots := 0, locals := 0 }) s m args below meth c (ZQ below args s D cy G n0 Qp n0) 10 D cy G n0 28 [(4, vL x4), (6, vL x6)] [] M) (h : F_X12_common_28  M Q  K28 x4 x6) : WW p l e ({ frames := 0, cells := 0, slots := 0, locals := 0 }) s m args below meth c (ZQ below args s D cy G n0 Qp n0) 10 D cy G n0 28 [(4, vL x4), (6, vL x6)] [] M := by
  unfold F_X12_common_28 at h
  refine w_lload C dX12_common_28 (mem_k 1 rfl) ?_
  refine w_lconst C dX12_common_30 ?_
  refine x_lif_eq (tgt := 53) C dX12_common_31 dX12_common_32 (by decide) (fun q => ?_) (fun q => ?_)
  · replace h := h.1 q
    refine w_lload C dX12_common_53 (mem_k 0 rfl) ?_
    exact x_lret C hr dX12_common_55 hn (hQ _ h)
  · replace h := h.2 q
    refine w_lload C dX12_common_35 (mem_k 0 rfl) ?_
    refine w_lload C dX12_common_37 (mem_k 1 rfl) ?_
    refine x_lrem C dX12_common_39 h.1 ?_
    replace h := h.2
    refine x_nmL (fun v1 ev1 => ?_)
    replace h := h v1 ev1
    refine x_lstore (L' := [(8, vL v1), (4, vL x4), (6, vL x6)]) C dX12_common_40 (by decide) rfl ?_
    refine w_lload C dX12_common_42 (mem_k 2 rfl) ?_
    refine x_lstore (L' := [(4, vL x6), (8, vL v1), (6, vL x6)]) C dX12_common_44 (by decide) rfl ?_
    refine w_lload C dX12_common_46 (mem_k 1 rfl) ?_
    refine x_lstore (L' := [(6, vL v1), (4, vL x6), (8, vL v1)]) C dX12_common_48 (by decide) rfl ?_
    refine w_goto (tgt := 28) C dX12_common_50 (by decide) ?_
    refine x_pc (pc2 := 28) rfl ?_
    refine x_pick (L' := [(4, vL x6), (6, vL v1)]) [1, 0] rfl ?_
    exact hK28 x6 v1 h
set_option maxRecDepth 100000 in
set_option maxHeartbeats 4000000 in
theorem k_X12_common_28 {x4 : Int} {x6 : Int} {M : Mm} {Q : Int → Prop} (C : Cx p s m args meth c cX12_common 10 RX12 D cy G n0) (hr : meth.sig.returnType = some .long) (h3 : n0 = 243) (hn : M.2.2.2 = n0) (hQ : ∀ x, Q x → Qp (some (vL x)) M) (h : P_X12_common_28 x4 x6 M Q ) : WW p l e ({ frames := 0, cells := 0, slots := 0, locals := 0 }) s m args below meth c (ZQ below args s D cy G n0 Qp n0) 10 D cy G n0 28 [(4, vL x4), (6, vL x6)] [] M := by
  refine lpW_sound (P := fun y : Int × Int => WW p l e ({ frames := 0, cells := 0, slots := 0, locals := 0 }) s m args below meth c (ZQ below args s D cy G n0 Qp n0) 10 D cy G n0 28 [(4, vL y.1), (6, vL y.2)] [] M) ?_ h
  intro K y hK hF
  obtain ⟨x4, x6⟩ := y
  exact f_X12_common_28 C hr h3 hn hQ  (fun x4 x6 hk => hK (x4, x6) hk) hF
set_option maxRecDepth 100000 in
set_option maxHeartbeats 4000000 in
theorem k_X12_common_12 {x2 : Int} {s0 : Int} {M : Mm} {Q : Int → Prop} (C : Cx p s m args meth c cX12_common 10 RX12 D cy G n0) (hr : meth.sig.returnType = some .long) (h3 : n0 = 243) (hn : M.2.2.2 = n0) (hQ : ∀ x, Q x → Qp (some (vL x)) M) (h : P_X12_common_12 x2 s0 M Q ) : WW p l e ({ frames := 0, cells := 0, slots := 0, locals := 0 }) s m args below meth c (ZQ below args s D cy G n0 Qp n0) 10 D cy G n0 12 [(2, vL x2)] [vL s0] M := by
  unfold P_X12_common_12 at h
  refine x_lstore (L' := [(4, vL s0), (2, vL x2)]) C dX12_common_12 (by decide) rfl ?_
  refine w_lload_n C dX12_common_14 rfl (mem_k 1 rfl) ?_
  refine w_lconst C dX12_common_15 ?_
  refine x_lif_ge (tgt := 25) C dX12_common_16 dX12_common_17 (by decide) (fun q => ?_) (fun q => ?_)
  · replace h := h.1 q
    refine w_lload_n C dX12_common_25 rfl (mem_k 1 rfl) ?_
    refine x_lstore (L' := [(6, vL x2), (4, vL s0), (2, vL x2)]) C dX12_common_26 (by decide) rfl ?_
    refine x_pc (pc2 := 28) rfl ?_
    refine x_pick (L' := [(4, vL s0), (6, vL x2)]) [1, 0] rfl ?_
    exact k_X12_common_28 C hr h3 hn hQ  h
  · replace h := h.2 q
    refine w_lload_n C dX12_common_20 rfl (mem_k 1 rfl) ?_
    refine w_lneg C dX12_common_21 h.1 ?_
    replace h := h.2
    refine w_goto (tgt := 26) C dX12_common_22 (by decide) ?_
    refine x_nmL (fun v2 ev2 => ?_)
    replace h := h v2 ev2
    refine x_lstore (L' := [(6, vL v2), (4, vL s0), (2, vL x2)]) C dX12_common_26 (by decide) rfl ?_
    refine x_pc (pc2 := 28) rfl ?_
    refine x_pick (L' := [(4, vL s0), (6, vL v2)]) [1, 0] rfl ?_
    exact k_X12_common_28 C hr h3 hn hQ  h
set_option maxRecDepth 100000 in
set_option maxHeartbeats 4000000 in
theorem k_X12_common_0 {x0 : Int} {x2 : Int} {M : Mm} {Q : Int → Prop} (C : Cx p s m args meth c cX12_common 10 RX12 D cy G n0) (hr : meth.sig.returnType = some .long) (h3 : n0 = 243) (hn : M.2.2.2 = n0) (hQ : ∀ x, Q x → Qp (some (vL x)) M) (h : P_X12_common x0 x2 M Q ) : WW p l e ({ frames := 0, cells := 0, slots := 0, locals := 0 }) s m args below meth c (ZQ below args s D cy G n0 Qp n0) 10 D cy G n0 0 [(0, vL x0), (2, vL x2)] [] M := by
  unfold P_X12_common at h
  refine w_lload_n C dX12_common_0 rfl (mem_k 0 rfl) ?_
  refine w_lconst C dX12_common_1 ?_
  refine x_lif_ge (tgt := 11) C dX12_common_2 dX12_common_3 (by decide) (fun q => ?_) (fun q => ?_)
  · replace h := h.1 q
    refine w_lload_n C dX12_common_11 rfl (mem_k 0 rfl) ?_
    refine x_pc (pc2 := 12) rfl ?_
    refine x_pick (L' := [(2, vL x2)]) [1] rfl ?_
    exact k_X12_common_12 C hr h3 hn hQ  h
  · replace h := h.2 q
    refine w_lload_n C dX12_common_6 rfl (mem_k 0 rfl) ?_
    refine w_lneg C dX12_common_7 h.1 ?_
    replace h := h.2
    refine w_goto (tgt := 12) C dX12_common_8 (by decide) ?_
    refine x_pc (pc2 := 12) rfl ?_
    refine x_pick (L' := [(2, vL x2)]) [1] rfl ?_
    exact k_X12_common_12 C hr h3 hn hQ  h
set_option maxRecDepth 100000 in
set_option maxHeartbeats 4000000 in
theorem con_X12_common (l : Launch) (D : va_G) (cy : Nat → ClassId) : Con l D cy yX12_common cX12_common 10 (some .long) ({ frames := 0, cells := 0, slots := 0, locals := 0 }) 0 0 SP_X12_common := by
  refine con_of (by decide) (fun as M Qp h => ?_) ?_
  · obtain ⟨-, x0, x2, rfl, -⟩ := h
    exact Nat.le_of_ble_eq_true rfl
  · intro p e s m args below meth c G as M Qp h C hr hnm
    obtain ⟨hn, x0, x2, rfl, Q0, hQ, h⟩ := h
    refine x_pick (L' := [(0, vL x0), (2, vL x2)]) [0, 1] rfl ?_
    exact k_X12_common_0 C hr hn rfl hQ h
set_option maxRecDepth 100000 in
set_option maxHeartbeats 4000000 in
theorem cl_X12_common {p : Program} {l : Launch} {e : Env} {R : Room} {s : State} {m : MethodId} {args : Array Value} {below : List Frame} {meth : Method} {c : Code} {Q : State → Prop} {cc : ByteArray} {nL : Nat} {own : String} {D : va_G} {cy : Nat → ClassId} {G : Nat × Nat} {n0 pc : Nat} {L : List (Nat × PV)} {st : List PV} {M : Mm} {op : Instr} (K : CallOK l D cy R own op 0 0 (spS 2 SP_X12_common)) (C : Cx p s m args meth c cc nL own D cy G n0) (hd : decode cc pc = .ok (op, 3)) (hn : M.2.2.2 = n0) (h3 : n0 = 243) (hlen : argN st ≤ 8) {x0 : Int} {x2 : Int} {Q0 : Int → Prop} (h : P_X12_common x0 x2 M Q0) (k : ∀ x, Q0 x → WW p l e R s m args below meth c Q nL D cy G n0  (pc + 3) L (vL x :: st) M) : WW p l e R s m args below meth c Q nL D cy G n0  pc L (vL x2 :: vL x0 :: st) M := by
  refine x_call0 K C hd (as := [vL x0, vL x2]) rfl hn hlen (fun v M2 => ∃ x, v = some (vL x) ∧ M2 = M ∧ Q0 x) ⟨rfl, hn.trans h3, x0, x2, rfl, Q0, fun x hx => ⟨x, rfl, rfl, hx⟩, h⟩ ?_
  rintro _ _ ⟨x, rfl, rfl, hx⟩ hm
  exact k x hx
end W_X12_common
theorem dX12_write_0 : decode cX12_write 0 = .ok (.iload_n 1, 1) := by decide +kernel
theorem dX12_write_1 : decode cX12_write 1 = .ok (.i2l, 1) := by decide +kernel
theorem dX12_write_2 : decode cX12_write 2 = .ok (.lconst 1, 1) := by decide +kernel
theorem dX12_write_3 : decode cX12_write 3 = .ok (.ldc2_w 83, 3) := by decide +kernel
theorem dX12_write_6 : decode cX12_write 6 = .ok (.invokestatic 85, 3) := by decide +kernel
theorem dX12_write_9 : decode cX12_write 9 = .ok (.ifCond .ne 5, 3) := by decide +kernel
theorem dX12_write_12 : decode cX12_write 12 = .ok (.iconst (-1), 1) := by decide +kernel
theorem dX12_write_13 : decode cX12_write 13 = .ok (.ireturn, 1) := by decide +kernel
theorem dX12_write_14 : decode cX12_write 14 = .ok (.aload_n 0, 1) := by decide +kernel
theorem dX12_write_15 : decode cX12_write 15 = .ok (.getfield 89, 3) := by decide +kernel
theorem dX12_write_18 : decode cX12_write 18 = .ok (.iload_n 1, 1) := by decide +kernel
theorem dX12_write_19 : decode cX12_write 19 = .ok (.iadd, 1) := by decide +kernel
theorem dX12_write_20 : decode cX12_write 20 = .ok (.sipush 300, 3) := by decide +kernel
theorem dX12_write_23 : decode cX12_write 23 = .ok (.if_icmp .le 6, 3) := by decide +kernel
theorem dX12_write_26 : decode cX12_write 26 = .ok (.bipush (-3), 2) := by decide +kernel
theorem dX12_write_28 : decode cX12_write 28 = .ok (.ireturn, 1) := by decide +kernel
theorem dX12_write_29 : decode cX12_write 29 = .ok (.iload_n 1, 1) := by decide +kernel
theorem dX12_write_30 : decode cX12_write 30 = .ok (.iconst 1, 1) := by decide +kernel
theorem dX12_write_31 : decode cX12_write 31 = .ok (.isub, 1) := by decide +kernel
theorem dX12_write_32 : decode cX12_write 32 = .ok (.istore 4, 2) := by decide +kernel
theorem dX12_write_34 : decode cX12_write 34 = .ok (.iload 4, 2) := by decide +kernel
theorem dX12_write_36 : decode cX12_write 36 = .ok (.ifCond .lt 40, 3) := by decide +kernel
theorem dX12_write_39 : decode cX12_write 39 = .ok (.aload_n 0, 1) := by decide +kernel
theorem dX12_write_40 : decode cX12_write 40 = .ok (.getfield 7, 3) := by decide +kernel
theorem dX12_write_43 : decode cX12_write 43 = .ok (.aload_n 0, 1) := by decide +kernel
theorem dX12_write_44 : decode cX12_write 44 = .ok (.getfield 89, 3) := by decide +kernel
theorem dX12_write_47 : decode cX12_write 47 = .ok (.lload_n 2, 1) := by decide +kernel
theorem dX12_write_48 : decode cX12_write 48 = .ok (.bipush 8, 2) := by decide +kernel
theorem dX12_write_50 : decode cX12_write 50 = .ok (.iload 4, 2) := by decide +kernel
theorem dX12_write_52 : decode cX12_write 52 = .ok (.imul, 1) := by decide +kernel
theorem dX12_write_53 : decode cX12_write 53 = .ok (.lshr, 1) := by decide +kernel
theorem dX12_write_54 : decode cX12_write 54 = .ok (.ldc2_w 92, 3) := by decide +kernel
theorem dX12_write_57 : decode cX12_write 57 = .ok (.land, 1) := by decide +kernel
theorem dX12_write_58 : decode cX12_write 58 = .ok (.l2i, 1) := by decide +kernel
theorem dX12_write_59 : decode cX12_write 59 = .ok (.iastore, 1) := by decide +kernel
theorem dX12_write_60 : decode cX12_write 60 = .ok (.aload_n 0, 1) := by decide +kernel
theorem dX12_write_61 : decode cX12_write 61 = .ok (.dup, 1) := by decide +kernel
theorem dX12_write_62 : decode cX12_write 62 = .ok (.getfield 89, 3) := by decide +kernel
theorem dX12_write_65 : decode cX12_write 65 = .ok (.iconst 1, 1) := by decide +kernel
theorem dX12_write_66 : decode cX12_write 66 = .ok (.iadd, 1) := by decide +kernel
theorem dX12_write_67 : decode cX12_write 67 = .ok (.putfield 89, 3) := by decide +kernel
theorem dX12_write_70 : decode cX12_write 70 = .ok (.iinc 4 (-1), 3) := by decide +kernel
theorem dX12_write_73 : decode cX12_write 73 = .ok (.goto (-39), 3) := by decide +kernel
theorem dX12_write_76 : decode cX12_write 76 = .ok (.aload_n 0, 1) := by decide +kernel
theorem dX12_write_77 : decode cX12_write 77 = .ok (.getfield 89, 3) := by decide +kernel
theorem dX12_write_80 : decode cX12_write 80 = .ok (.ireturn, 1) := by decide +kernel
theorem fw_X12_89 : fI RX12 89 12 0 := ⟨⟨lwG_4 (i := 64) rfl rfl, by decide, by decide⟩, rfl⟩
theorem fw_X12_7 : fR RX12 7 12 1 := ⟨⟨lwG_4 (i := 65) rfl rfl, by decide, by decide⟩, fun _ _ => rfl, fun r => ⟨r, rfl⟩⟩
theorem cn_X12_92 : Cond.constantLong RX12 92 (Int64.ofInt 255) ∈ lwG := lwG_4 (i := 163) rfl rfl
theorem cn_X12_83 : Cond.constantLong RX12 83 (Int64.ofInt 8) ∈ lwG := lwG_4 (i := 159) rfl rfl
theorem ck_X12_85 {l : Launch} {D : va_G} {cy : Nat → ClassId} {R : Room} (hR : 1 ≤ R.frames ∧ 25 ≤ R.locals) : CallOK l D cy R RX12 (.invokestatic 85) 0 0 (spS 3 SP_X12_in) := call_S (con_X12_in l D cy) (lwG_4 (i := 160) rfl rfl) (lwG_4 (i := 161) rfl rfl) (lwG_1 (i := 13) rfl rfl) (lwG_4 (i := 162) rfl rfl) ⟨by decide, by decide, rfl⟩ ⟨rfl, rfl⟩ hR
section W_X12_write
variable {p : Program} {l : Launch} {e : Env} {s : State} {m : MethodId} {args : Array Value} {below : List Frame} {meth : Method} {c : Code} {D : va_G} {cy : Nat → ClassId} {G : Nat × Nat} {n0 : Nat} {Qp : Option PV → Mm → Prop}
set_option maxRecDepth 100000 in
set_option maxHeartbeats 4000000 in
theorem f_X12_write_34 {o0 : Nat} {x2 : Int} {x4 : Int} {M : Mm} {Q : Int → Mm → Prop} {K34 : Int × Mm → Prop} (C : Cx p s m args meth c cX12_write 5 RX12 D cy G n0) (hr : meth.sig.returnType = some .int) (h3 : n0 = 243) (hn : M.2.2.2 = n0) (ho0 : o0 < 243 ∧ (SH o0).1 = 12) (hQ : ∀ x M, Q x M → Qp (some (vI x)) M) (hK34 : ∀ (x4 : Int) (M : Mm), K34 (x4, M) → M.2.2.2 = n0 → WW p l e ({ frames := 1, cells := 0, slots := 0, locals := 25 }) s m args below meth c (ZQ below args s D cy G n0 Qp n0) 5 D cy G n0 34 [(0, vR (some o0)), (2, vL x2), (4, vI x4)] [] M) (h : F_X12_write_34 o0 x2 Q  K34 x4 M) : WW p l e ({ frames := 1, cells := 0, slots := 0, locals := 25 }) s m args below meth c (ZQ below args s D cy G n0 Qp n0) 5 D cy G n0 34 [(0, vR (some o0)), (2, vL x2), (4, vI x4)] [] M := by
  unfold F_X12_write_34 at h
  refine w_iload C dX12_write_34 (mem_k 2 rfl) ?_
  refine w_if_lt (tgt := 76) C dX12_write_36 (by decide) (fun q => ?_) (fun q => ?_)
  · replace h := h.1 q
    refine w_aload_n C dX12_write_76 rfl (mem_k 0 rfl) ?_
    refine x_getI C dX12_write_77 fw_X12_89 (isO.n (ci := 12) ⟨rfl, ho0⟩ (hn.trans h3)) ?_
    exact x_iret C hr dX12_write_80 hn (hQ _ M h)
  · replace h := h.2 q
    refine w_aload_n C dX12_write_39 rfl (mem_k 0 rfl) ?_
    refine x_getR C dX12_write_40 fw_X12_7 (isO.n (ci := 12) ⟨rfl, ho0⟩ (hn.trans h3)) (fun r1 er1 => ?_)
    replace h := h r1 er1
    refine w_aload_n C dX12_write_43 rfl (mem_k 0 rfl) ?_
    refine x_getI C dX12_write_44 fw_X12_89 (isO.n (ci := 12) ⟨rfl, ho0⟩ (hn.trans h3)) ?_
    refine w_lload_n C dX12_write_47 rfl (mem_k 1 rfl) ?_
    refine w_bipush C dX12_write_48 (by decide) ?_
    refine w_iload C dX12_write_50 (mem_k 2 rfl) ?_
    refine w_imul C dX12_write_52 h.1 ?_
    replace h := h.2
    refine w_lshr C dX12_write_53 ?_
    refine w_ldc2 (x := 255) C dX12_write_54 cn_X12_92 ⟨by decide, by decide⟩ ?_
    refine w_land C dX12_write_57 ?_
    refine w_l2i C dX12_write_58 ?_
    obtain ⟨o2, g3, h⟩ := h
    refine x_iast C dX12_write_59 (isA.n g3 (hn.trans h3)) (fun M4 eM4 hn5 => ?_)
    replace h := h M4 eM4
    replace hn5 := hn5.trans hn
    refine w_aload_n C dX12_write_60 rfl (mem_k 0 rfl) ?_
    refine w_dup C dX12_write_61 rfl ?_
    refine x_getI C dX12_write_62 fw_X12_89 (isO.n (ci := 12) ⟨rfl, ho0⟩ (hn5.trans h3)) ?_
    refine w_iconst C dX12_write_65 ⟨by decide, by decide⟩ ?_
    refine w_iadd C dX12_write_66 h.1 ?_
    replace h := h.2
    refine x_putI C dX12_write_67 fw_X12_89 (isO.n (ci := 12) ⟨rfl, ho0⟩ (hn5.trans h3)) (Or.inl rfl) (fun M6 eM6 hn7 => ?_)
    replace h := h M6 eM6
    replace hn7 := hn7.trans hn5
    obtain ⟨v8, ev8⟩ : ∃ z : Int, z = x4 + (-1) := ⟨_, rfl⟩
    refine x_iinc (L' := [(4, vI v8), (0, vR (some o0)), (2, vL x2)]) C dX12_write_70 (mem_k 2 rfl) (by decide) h.1 ev8 rfl ?_
    replace h := h.2 v8 ev8
    refine w_goto (tgt := 34) C dX12_write_73 (by decide) ?_
    refine x_pc (pc2 := 34) rfl ?_
    refine x_pick (L' := [(0, vR (some o0)), (2, vL x2), (4, vI v8)]) [1, 2, 0] rfl ?_
    exact hK34 v8 M6 h hn7
set_option maxRecDepth 100000 in
set_option maxHeartbeats 4000000 in
theorem k_X12_write_34 {o0 : Nat} {x2 : Int} {x4 : Int} {M : Mm} {Q : Int → Mm → Prop} (C : Cx p s m args meth c cX12_write 5 RX12 D cy G n0) (hr : meth.sig.returnType = some .int) (h3 : n0 = 243) (hn : M.2.2.2 = n0) (ho0 : o0 < 243 ∧ (SH o0).1 = 12) (hQ : ∀ x M, Q x M → Qp (some (vI x)) M) (h : P_X12_write_34 o0 x2 x4 M Q ) : WW p l e ({ frames := 1, cells := 0, slots := 0, locals := 25 }) s m args below meth c (ZQ below args s D cy G n0 Qp n0) 5 D cy G n0 34 [(0, vR (some o0)), (2, vL x2), (4, vI x4)] [] M := by
  refine lpW_sound (P := fun y : Int × Mm => y.2.2.2.2 = n0 → WW p l e ({ frames := 1, cells := 0, slots := 0, locals := 25 }) s m args below meth c (ZQ below args s D cy G n0 Qp n0) 5 D cy G n0 34 [(0, vR (some o0)), (2, vL x2), (4, vI y.1)] [] y.2) ?_ h hn
  intro K y hK hF
  obtain ⟨x4, M⟩ := y
  intro hn
  exact f_X12_write_34 C hr h3 hn ho0 hQ  (fun x4 M hk => hK (x4, M) hk) hF
set_option maxRecDepth 100000 in
set_option maxHeartbeats 4000000 in
theorem k_X12_write_0 {o0 : Nat} {x1 : Int} {x2 : Int} {M : Mm} {Q : Int → Mm → Prop} (C : Cx p s m args meth c cX12_write 5 RX12 D cy G n0) (hr : meth.sig.returnType = some .int) (h3 : n0 = 243) (hn : M.2.2.2 = n0) (ho0 : o0 < 243 ∧ (SH o0).1 = 12) (hQ : ∀ x M, Q x M → Qp (some (vI x)) M) (h : P_X12_write o0 x1 x2 M Q ) : WW p l e ({ frames := 1, cells := 0, slots := 0, locals := 25 }) s m args below meth c (ZQ below args s D cy G n0 Qp n0) 5 D cy G n0 0 [(0, vR (some o0)), (1, vI x1), (2, vL x2)] [] M := by
  unfold P_X12_write at h
  refine w_iload_n C dX12_write_0 rfl (mem_k 1 rfl) ?_
  refine w_i2l C dX12_write_1 ?_
  refine w_lconst C dX12_write_2 ?_
  refine w_ldc2 (x := 8) C dX12_write_3 cn_X12_83 ⟨by decide, by decide⟩ ?_
  refine cl_X12_in (ck_X12_85 ⟨by decide, by decide⟩) C dX12_write_6 hn h3 (Nat.le_of_ble_eq_true rfl) h (fun v9 h => ?_)
  refine w_if_ne (tgt := 14) C dX12_write_9 (by decide) (fun q => ?_) (fun q => ?_)
  · replace h := h.1 q
    refine w_aload_n C dX12_write_14 rfl (mem_k 0 rfl) ?_
    refine x_getI C dX12_write_15 fw_X12_89 (isO.n (ci := 12) ⟨rfl, ho0⟩ (hn.trans h3)) ?_
    refine w_iload_n C dX12_write_18 rfl (mem_k 1 rfl) ?_
    refine w_iadd C dX12_write_19 h.1 ?_
    replace h := h.2
    refine w_sipush C dX12_write_20 (by decide) ?_
    refine w_icmp_le (tgt := 29) C dX12_write_23 (by decide) (fun q => ?_) (fun q => ?_)
    · replace h := h.1 q
      refine w_iload_n C dX12_write_29 rfl (mem_k 1 rfl) ?_
      refine w_iconst C dX12_write_30 ⟨by decide, by decide⟩ ?_
      refine w_isub C dX12_write_31 h.1 ?_
      replace h := h.2
      refine x_nmI (fun v10 ev10 => ?_)
      replace h := h v10 ev10
      refine x_istore (L' := [(4, vI v10), (0, vR (some o0)), (1, vI x1), (2, vL x2)]) C dX12_write_32 (by decide) rfl ?_
      refine x_pc (pc2 := 34) rfl ?_
      refine x_pick (L' := [(0, vR (some o0)), (2, vL x2), (4, vI v10)]) [1, 3, 0] rfl ?_
      exact k_X12_write_34 C hr h3 hn ho0 hQ  h
    · replace h := h.2 q
      refine w_bipush C dX12_write_26 (by decide) ?_
      exact x_iret C hr dX12_write_28 hn (hQ _ M h)
  · replace h := h.2 q
    refine w_iconst C dX12_write_12 ⟨by decide, by decide⟩ ?_
    exact x_iret C hr dX12_write_13 hn (hQ _ M h)
set_option maxRecDepth 100000 in
set_option maxHeartbeats 4000000 in
theorem con_X12_write (l : Launch) (D : va_G) (cy : Nat → ClassId) : Con l D cy yX12_write cX12_write 5 (some .int) ({ frames := 1, cells := 0, slots := 0, locals := 25 }) 0 0 SP_X12_write := by
  refine con_of (by decide) (fun as M Qp h => ?_) ?_
  · obtain ⟨-, o0, x1, x2, rfl, -⟩ := h
    exact Nat.le_of_ble_eq_true rfl
  · intro p e s m args below meth c G as M Qp h C hr hnm
    obtain ⟨hn, o0, x1, x2, rfl, ho1, ho2, Q0, hQ, h⟩ := h
    refine x_pick (L' := [(0, vR (some o0)), (1, vI x1), (2, vL x2)]) [0, 1, 2] rfl ?_
    exact k_X12_write_0 C hr hn rfl ⟨ho1, ho2⟩ hQ h
set_option maxRecDepth 100000 in
set_option maxHeartbeats 4000000 in
theorem cl_X12_write {p : Program} {l : Launch} {e : Env} {R : Room} {s : State} {m : MethodId} {args : Array Value} {below : List Frame} {meth : Method} {c : Code} {Q : State → Prop} {cc : ByteArray} {nL : Nat} {own : String} {D : va_G} {cy : Nat → ClassId} {G : Nat × Nat} {n0 pc : Nat} {L : List (Nat × PV)} {st : List PV} {M : Mm} {op : Instr} (K : CallOK l D cy R own op 0 0 (spV 12 2 SP_X12_write)) (C : Cx p s m args meth c cc nL own D cy G n0) (hd : decode cc pc = .ok (op, 3)) (hn : M.2.2.2 = n0) (h3 : n0 = 243) (hlen : argN st ≤ 8) {r : Option Nat} {o0 : Nat} (ho : isOn 12 M.2.2.2 r o0) {x1 : Int} {x2 : Int} {Q0 : Int → Mm → Prop} (h : P_X12_write o0 x1 x2 M Q0) (k : ∀ x M2, Q0 x M2 → M2.2.2.2 = n0 → WW p l e R s m args below meth c Q nL D cy G n0  (pc + 3) L (vI x :: st) M2) : WW p l e R s m args below meth c Q nL D cy G n0  pc L (vL x2 :: vI x1 :: vR r :: st) M := by
  obtain ⟨rfl, ho1, ho2⟩ := ho
  refine x_call0 K C hd (as := [vR (some o0), vI x1, vL x2]) rfl hn hlen (fun v M2 => ∃ x, v = some (vI x) ∧ Q0 x M2) ⟨⟨o0, [vI x1, vL x2], rfl, rfl, ho1, ho2⟩, hn.trans h3, o0, x1, x2, rfl, (hn.trans h3) ▸ ho1, ho2, Q0, fun x M2 hx => ⟨x, rfl, hx⟩, h⟩ ?_
  rintro _ _ ⟨x, rfl, hx⟩ hm
  exact k x _ hx hm
end W_X12_write
theorem dX12_wipe_0 : decode cX12_wipe 0 = .ok (.aload_n 0, 1) := by decide +kernel
theorem dX12_wipe_1 : decode cX12_wipe 1 = .ok (.getfield 89, 3) := by decide +kernel
theorem dX12_wipe_4 : decode cX12_wipe 4 = .ok (.istore_n 1, 1) := by decide +kernel
theorem dX12_wipe_5 : decode cX12_wipe 5 = .ok (.aload_n 0, 1) := by decide +kernel
theorem dX12_wipe_6 : decode cX12_wipe 6 = .ok (.iconst 0, 1) := by decide +kernel
theorem dX12_wipe_7 : decode cX12_wipe 7 = .ok (.putfield 89, 3) := by decide +kernel
theorem dX12_wipe_10 : decode cX12_wipe 10 = .ok (.iload_n 1, 1) := by decide +kernel
theorem dX12_wipe_11 : decode cX12_wipe 11 = .ok (.ireturn, 1) := by decide +kernel
section W_X12_wipe
variable {p : Program} {l : Launch} {e : Env} {s : State} {m : MethodId} {args : Array Value} {below : List Frame} {meth : Method} {c : Code} {D : va_G} {cy : Nat → ClassId} {G : Nat × Nat} {n0 : Nat} {Qp : Option PV → Mm → Prop}
set_option maxRecDepth 100000 in
set_option maxHeartbeats 4000000 in
theorem k_X12_wipe_0 {o0 : Nat} {M : Mm} {Q : Int → Mm → Prop} (C : Cx p s m args meth c cX12_wipe 2 RX12 D cy G n0) (hr : meth.sig.returnType = some .int) (h3 : n0 = 243) (hn : M.2.2.2 = n0) (ho0 : o0 < 243 ∧ (SH o0).1 = 12) (hQ : ∀ x M, Q x M → Qp (some (vI x)) M) (h : P_X12_wipe o0 M Q ) : WW p l e ({ frames := 0, cells := 0, slots := 0, locals := 0 }) s m args below meth c (ZQ below args s D cy G n0 Qp n0) 2 D cy G n0 0 [(0, vR (some o0))] [] M := by
  unfold P_X12_wipe at h
  refine w_aload_n C dX12_wipe_0 rfl (mem_k 0 rfl) ?_
  refine x_getI C dX12_wipe_1 fw_X12_89 (isO.n (ci := 12) ⟨rfl, ho0⟩ (hn.trans h3)) ?_
  refine x_nmI (fun v1 ev1 => ?_)
  replace h := h v1 ev1
  refine x_istore_n (L' := [(1, vI v1), (0, vR (some o0))]) C dX12_wipe_4 rfl (by decide) rfl ?_
  refine w_aload_n C dX12_wipe_5 rfl (mem_k 1 rfl) ?_
  refine w_iconst C dX12_wipe_6 ⟨by decide, by decide⟩ ?_
  refine x_putI C dX12_wipe_7 fw_X12_89 (isO.n (ci := 12) ⟨rfl, ho0⟩ (hn.trans h3)) (Or.inl rfl) (fun M2 eM2 hn3 => ?_)
  replace h := h M2 eM2
  replace hn3 := hn3.trans hn
  refine w_iload_n C dX12_wipe_10 rfl (mem_k 0 rfl) ?_
  exact x_iret C hr dX12_wipe_11 hn3 (hQ _ M2 h)
set_option maxRecDepth 100000 in
set_option maxHeartbeats 4000000 in
theorem con_X12_wipe (l : Launch) (D : va_G) (cy : Nat → ClassId) : Con l D cy yX12_wipe cX12_wipe 2 (some .int) ({ frames := 0, cells := 0, slots := 0, locals := 0 }) 0 0 SP_X12_wipe := by
  refine con_of (by decide) (fun as M Qp h => ?_) ?_
  · obtain ⟨-, o0, rfl, -⟩ := h
    exact Nat.le_of_ble_eq_true rfl
  · intro p e s m args below meth c G as M Qp h C hr hnm
    obtain ⟨hn, o0, rfl, ho1, ho2, Q0, hQ, h⟩ := h
    refine x_pick (L' := [(0, vR (some o0))]) [0] rfl ?_
    exact k_X12_wipe_0 C hr hn rfl ⟨ho1, ho2⟩ hQ h
set_option maxRecDepth 100000 in
set_option maxHeartbeats 4000000 in
theorem cl_X12_wipe {p : Program} {l : Launch} {e : Env} {R : Room} {s : State} {m : MethodId} {args : Array Value} {below : List Frame} {meth : Method} {c : Code} {Q : State → Prop} {cc : ByteArray} {nL : Nat} {own : String} {D : va_G} {cy : Nat → ClassId} {G : Nat × Nat} {n0 pc : Nat} {L : List (Nat × PV)} {st : List PV} {M : Mm} {op : Instr} (K : CallOK l D cy R own op 0 0 (spV 12 0 SP_X12_wipe)) (C : Cx p s m args meth c cc nL own D cy G n0) (hd : decode cc pc = .ok (op, 3)) (hn : M.2.2.2 = n0) (h3 : n0 = 243) (hlen : argN st ≤ 8) {r : Option Nat} {o0 : Nat} (ho : isOn 12 M.2.2.2 r o0)  {Q0 : Int → Mm → Prop} (h : P_X12_wipe o0 M Q0) (k : ∀ x M2, Q0 x M2 → M2.2.2.2 = n0 → WW p l e R s m args below meth c Q nL D cy G n0  (pc + 3) L (vI x :: st) M2) : WW p l e R s m args below meth c Q nL D cy G n0  pc L (vR r :: st) M := by
  obtain ⟨rfl, ho1, ho2⟩ := ho
  refine x_call0 K C hd (as := [vR (some o0)]) rfl hn hlen (fun v M2 => ∃ x, v = some (vI x) ∧ Q0 x M2) ⟨⟨o0, [], rfl, rfl, ho1, ho2⟩, hn.trans h3, o0, rfl, (hn.trans h3) ▸ ho1, ho2, Q0, fun x M2 hx => ⟨x, rfl, hx⟩, h⟩ ?_
  rintro _ _ ⟨x, rfl, hx⟩ hm
  exact k x _ hx hm
end W_X12_wipe
theorem dX12_numbers_0 : decode cX12_numbers 0 = .ok (.iconst 0, 1) := by decide +kernel
theorem dX12_numbers_1 : decode cX12_numbers 1 = .ok (.istore_n 1, 1) := by decide +kernel
theorem dX12_numbers_2 : decode cX12_numbers 2 = .ok (.iload_n 1, 1) := by decide +kernel
theorem dX12_numbers_3 : decode cX12_numbers 3 = .ok (.bipush 8, 2) := by decide +kernel
theorem dX12_numbers_5 : decode cX12_numbers 5 = .ok (.if_icmp .ge 165, 3) := by decide +kernel
theorem dX12_numbers_8 : decode cX12_numbers 8 = .ok (.iconst 0, 1) := by decide +kernel
theorem dX12_numbers_9 : decode cX12_numbers 9 = .ok (.istore_n 2, 1) := by decide +kernel
theorem dX12_numbers_10 : decode cX12_numbers 10 = .ok (.iconst 0, 1) := by decide +kernel
theorem dX12_numbers_11 : decode cX12_numbers 11 = .ok (.istore_n 3, 1) := by decide +kernel
theorem dX12_numbers_12 : decode cX12_numbers 12 = .ok (.aload_n 0, 1) := by decide +kernel
theorem dX12_numbers_13 : decode cX12_numbers 13 = .ok (.getfield 94, 3) := by decide +kernel
theorem dX12_numbers_16 : decode cX12_numbers 16 = .ok (.aload_n 0, 1) := by decide +kernel
theorem dX12_numbers_17 : decode cX12_numbers 17 = .ok (.getfield 89, 3) := by decide +kernel
theorem dX12_numbers_20 : decode cX12_numbers 20 = .ok (.if_icmp .ge 64, 3) := by decide +kernel
theorem dX12_numbers_23 : decode cX12_numbers 23 = .ok (.aload_n 0, 1) := by decide +kernel
theorem dX12_numbers_24 : decode cX12_numbers 24 = .ok (.getfield 7, 3) := by decide +kernel
theorem dX12_numbers_27 : decode cX12_numbers 27 = .ok (.aload_n 0, 1) := by decide +kernel
theorem dX12_numbers_28 : decode cX12_numbers 28 = .ok (.getfield 94, 3) := by decide +kernel
theorem dX12_numbers_31 : decode cX12_numbers 31 = .ok (.iaload, 1) := by decide +kernel
theorem dX12_numbers_32 : decode cX12_numbers 32 = .ok (.i2l, 1) := by decide +kernel
theorem dX12_numbers_33 : decode cX12_numbers 33 = .ok (.ldc2_w 97, 3) := by decide +kernel
theorem dX12_numbers_36 : decode cX12_numbers 36 = .ok (.ldc2_w 99, 3) := by decide +kernel
theorem dX12_numbers_39 : decode cX12_numbers 39 = .ok (.invokestatic 85, 3) := by decide +kernel
theorem dX12_numbers_42 : decode cX12_numbers 42 = .ok (.ifCond .eq 42, 3) := by decide +kernel
theorem dX12_numbers_45 : decode cX12_numbers 45 = .ok (.iload_n 2, 1) := by decide +kernel
theorem dX12_numbers_46 : decode cX12_numbers 46 = .ok (.iconst 5, 1) := by decide +kernel
theorem dX12_numbers_47 : decode cX12_numbers 47 = .ok (.if_icmp .ge 37, 3) := by decide +kernel
theorem dX12_numbers_50 : decode cX12_numbers 50 = .ok (.bipush 10, 2) := by decide +kernel
theorem dX12_numbers_52 : decode cX12_numbers 52 = .ok (.iload_n 3, 1) := by decide +kernel
theorem dX12_numbers_53 : decode cX12_numbers 53 = .ok (.imul, 1) := by decide +kernel
theorem dX12_numbers_54 : decode cX12_numbers 54 = .ok (.aload_n 0, 1) := by decide +kernel
theorem dX12_numbers_55 : decode cX12_numbers 55 = .ok (.getfield 7, 3) := by decide +kernel
theorem dX12_numbers_58 : decode cX12_numbers 58 = .ok (.aload_n 0, 1) := by decide +kernel
theorem dX12_numbers_59 : decode cX12_numbers 59 = .ok (.getfield 94, 3) := by decide +kernel
theorem dX12_numbers_62 : decode cX12_numbers 62 = .ok (.iaload, 1) := by decide +kernel
theorem dX12_numbers_63 : decode cX12_numbers 63 = .ok (.iadd, 1) := by decide +kernel
theorem dX12_numbers_64 : decode cX12_numbers 64 = .ok (.bipush 48, 2) := by decide +kernel
theorem dX12_numbers_66 : decode cX12_numbers 66 = .ok (.isub, 1) := by decide +kernel
theorem dX12_numbers_67 : decode cX12_numbers 67 = .ok (.istore_n 3, 1) := by decide +kernel
theorem dX12_numbers_68 : decode cX12_numbers 68 = .ok (.iinc 2 1, 3) := by decide +kernel
theorem dX12_numbers_71 : decode cX12_numbers 71 = .ok (.aload_n 0, 1) := by decide +kernel
theorem dX12_numbers_72 : decode cX12_numbers 72 = .ok (.dup, 1) := by decide +kernel
theorem dX12_numbers_73 : decode cX12_numbers 73 = .ok (.getfield 94, 3) := by decide +kernel
theorem dX12_numbers_76 : decode cX12_numbers 76 = .ok (.iconst 1, 1) := by decide +kernel
theorem dX12_numbers_77 : decode cX12_numbers 77 = .ok (.iadd, 1) := by decide +kernel
theorem dX12_numbers_78 : decode cX12_numbers 78 = .ok (.putfield 94, 3) := by decide +kernel
theorem dX12_numbers_81 : decode cX12_numbers 81 = .ok (.goto (-69), 3) := by decide +kernel
theorem dX12_numbers_84 : decode cX12_numbers 84 = .ok (.iload_n 2, 1) := by decide +kernel
theorem dX12_numbers_85 : decode cX12_numbers 85 = .ok (.i2l, 1) := by decide +kernel
theorem dX12_numbers_86 : decode cX12_numbers 86 = .ok (.lconst 1, 1) := by decide +kernel
theorem dX12_numbers_87 : decode cX12_numbers 87 = .ok (.ldc2_w 101, 3) := by decide +kernel
theorem dX12_numbers_90 : decode cX12_numbers 90 = .ok (.invokestatic 85, 3) := by decide +kernel
theorem dX12_numbers_93 : decode cX12_numbers 93 = .ok (.ifCond .eq 14, 3) := by decide +kernel
theorem dX12_numbers_96 : decode cX12_numbers 96 = .ok (.aload_n 0, 1) := by decide +kernel
theorem dX12_numbers_97 : decode cX12_numbers 97 = .ok (.getfield 94, 3) := by decide +kernel
theorem dX12_numbers_100 : decode cX12_numbers 100 = .ok (.aload_n 0, 1) := by decide +kernel
theorem dX12_numbers_101 : decode cX12_numbers 101 = .ok (.getfield 89, 3) := by decide +kernel
theorem dX12_numbers_104 : decode cX12_numbers 104 = .ok (.if_icmp .ne 6, 3) := by decide +kernel
theorem dX12_numbers_107 : decode cX12_numbers 107 = .ok (.bipush (-4), 2) := by decide +kernel
theorem dX12_numbers_109 : decode cX12_numbers 109 = .ok (.ireturn, 1) := by decide +kernel
theorem dX12_numbers_110 : decode cX12_numbers 110 = .ok (.aload_n 0, 1) := by decide +kernel
theorem dX12_numbers_111 : decode cX12_numbers 111 = .ok (.getfield 65, 3) := by decide +kernel
theorem dX12_numbers_114 : decode cX12_numbers 114 = .ok (.iload_n 1, 1) := by decide +kernel
theorem dX12_numbers_115 : decode cX12_numbers 115 = .ok (.iload_n 3, 1) := by decide +kernel
theorem dX12_numbers_116 : decode cX12_numbers 116 = .ok (.iastore, 1) := by decide +kernel
theorem dX12_numbers_117 : decode cX12_numbers 117 = .ok (.iinc 1 1, 3) := by decide +kernel
theorem dX12_numbers_120 : decode cX12_numbers 120 = .ok (.aload_n 0, 1) := by decide +kernel
theorem dX12_numbers_121 : decode cX12_numbers 121 = .ok (.dup, 1) := by decide +kernel
theorem dX12_numbers_122 : decode cX12_numbers 122 = .ok (.getfield 94, 3) := by decide +kernel
theorem dX12_numbers_125 : decode cX12_numbers 125 = .ok (.iconst 1, 1) := by decide +kernel
theorem dX12_numbers_126 : decode cX12_numbers 126 = .ok (.iadd, 1) := by decide +kernel
theorem dX12_numbers_127 : decode cX12_numbers 127 = .ok (.putfield 94, 3) := by decide +kernel
theorem dX12_numbers_130 : decode cX12_numbers 130 = .ok (.aload_n 0, 1) := by decide +kernel
theorem dX12_numbers_131 : decode cX12_numbers 131 = .ok (.getfield 7, 3) := by decide +kernel
theorem dX12_numbers_134 : decode cX12_numbers 134 = .ok (.aload_n 0, 1) := by decide +kernel
theorem dX12_numbers_135 : decode cX12_numbers 135 = .ok (.getfield 94, 3) := by decide +kernel
theorem dX12_numbers_138 : decode cX12_numbers 138 = .ok (.iconst 1, 1) := by decide +kernel
theorem dX12_numbers_139 : decode cX12_numbers 139 = .ok (.isub, 1) := by decide +kernel
theorem dX12_numbers_140 : decode cX12_numbers 140 = .ok (.iaload, 1) := by decide +kernel
theorem dX12_numbers_141 : decode cX12_numbers 141 = .ok (.bipush 59, 2) := by decide +kernel
theorem dX12_numbers_143 : decode cX12_numbers 143 = .ok (.if_icmp .ne 5, 3) := by decide +kernel
theorem dX12_numbers_146 : decode cX12_numbers 146 = .ok (.iload_n 1, 1) := by decide +kernel
theorem dX12_numbers_147 : decode cX12_numbers 147 = .ok (.ireturn, 1) := by decide +kernel
theorem dX12_numbers_148 : decode cX12_numbers 148 = .ok (.aload_n 0, 1) := by decide +kernel
theorem dX12_numbers_149 : decode cX12_numbers 149 = .ok (.getfield 7, 3) := by decide +kernel
theorem dX12_numbers_152 : decode cX12_numbers 152 = .ok (.aload_n 0, 1) := by decide +kernel
theorem dX12_numbers_153 : decode cX12_numbers 153 = .ok (.getfield 94, 3) := by decide +kernel
theorem dX12_numbers_156 : decode cX12_numbers 156 = .ok (.iconst 1, 1) := by decide +kernel
theorem dX12_numbers_157 : decode cX12_numbers 157 = .ok (.isub, 1) := by decide +kernel
theorem dX12_numbers_158 : decode cX12_numbers 158 = .ok (.iaload, 1) := by decide +kernel
theorem dX12_numbers_159 : decode cX12_numbers 159 = .ok (.bipush 44, 2) := by decide +kernel
theorem dX12_numbers_161 : decode cX12_numbers 161 = .ok (.if_icmp .eq 6, 3) := by decide +kernel
theorem dX12_numbers_164 : decode cX12_numbers 164 = .ok (.bipush (-4), 2) := by decide +kernel
theorem dX12_numbers_166 : decode cX12_numbers 166 = .ok (.ireturn, 1) := by decide +kernel
theorem dX12_numbers_167 : decode cX12_numbers 167 = .ok (.goto (-165), 3) := by decide +kernel
theorem dX12_numbers_170 : decode cX12_numbers 170 = .ok (.bipush (-4), 2) := by decide +kernel
theorem dX12_numbers_172 : decode cX12_numbers 172 = .ok (.ireturn, 1) := by decide +kernel
theorem cn_X12_101 : Cond.constantLong RX12 101 (Int64.ofInt 4) ∈ lwG := lwG_4 (i := 182) rfl rfl
theorem fw_X12_94 : fI RX12 94 12 21 := ⟨⟨lwG_4 (i := 85) rfl rfl, by decide, by decide⟩, rfl⟩
theorem fw_X12_65 : fR RX12 65 12 22 := ⟨⟨lwG_4 (i := 86) rfl rfl, by decide, by decide⟩, fun _ _ => rfl, fun r => ⟨r, rfl⟩⟩
theorem cn_X12_97 : Cond.constantLong RX12 97 (Int64.ofInt 48) ∈ lwG := lwG_4 (i := 180) rfl rfl
theorem cn_X12_99 : Cond.constantLong RX12 99 (Int64.ofInt 57) ∈ lwG := lwG_4 (i := 181) rfl rfl
section W_X12_numbers
variable {p : Program} {l : Launch} {e : Env} {s : State} {m : MethodId} {args : Array Value} {below : List Frame} {meth : Method} {c : Code} {D : va_G} {cy : Nat → ClassId} {G : Nat × Nat} {n0 : Nat} {Qp : Option PV → Mm → Prop}
set_option maxRecDepth 100000 in
set_option maxHeartbeats 4000000 in
theorem k_X12_numbers_84 {o0 : Nat} {x1 : Int} {x2 : Int} {x3 : Int} {M : Mm} {Q : Int → Mm → Prop} {K2 : Int × Mm → Prop} (C : Cx p s m args meth c cX12_numbers 4 RX12 D cy G n0) (hr : meth.sig.returnType = some .int) (h3 : n0 = 243) (hn : M.2.2.2 = n0) (ho0 : o0 < 243 ∧ (SH o0).1 = 12) (hQ : ∀ x M, Q x M → Qp (some (vI x)) M) (hK2 : ∀ (x1 : Int) (M : Mm), K2 (x1, M) → M.2.2.2 = n0 → WW p l e ({ frames := 1, cells := 0, slots := 0, locals := 25 }) s m args below meth c (ZQ below args s D cy G n0 Qp n0) 4 D cy G n0 2 [(0, vR (some o0)), (1, vI x1)] [] M) (h : P_X12_numbers_84 o0 x1 x2 x3 M Q K2) : WW p l e ({ frames := 1, cells := 0, slots := 0, locals := 25 }) s m args below meth c (ZQ below args s D cy G n0 Qp n0) 4 D cy G n0 84 [(0, vR (some o0)), (1, vI x1), (2, vI x2), (3, vI x3)] [] M := by
  unfold P_X12_numbers_84 at h
  refine w_iload_n C dX12_numbers_84 rfl (mem_k 2 rfl) ?_
  refine w_i2l C dX12_numbers_85 ?_
  refine w_lconst C dX12_numbers_86 ?_
  refine w_ldc2 (x := 4) C dX12_numbers_87 cn_X12_101 ⟨by decide, by decide⟩ ?_
  refine cl_X12_in (ck_X12_85 ⟨by decide, by decide⟩) C dX12_numbers_90 hn h3 (Nat.le_of_ble_eq_true rfl) h (fun v1 h => ?_)
  refine w_if_eq (tgt := 107) C dX12_numbers_93 (by decide) (fun q => ?_) (fun q => ?_)
  · replace h := h.1 q
    refine w_bipush C dX12_numbers_107 (by decide) ?_
    exact x_iret C hr dX12_numbers_109 hn (hQ _ M h)
  · replace h := h.2 q
    refine w_aload_n C dX12_numbers_96 rfl (mem_k 0 rfl) ?_
    refine x_getI C dX12_numbers_97 fw_X12_94 (isO.n (ci := 12) ⟨rfl, ho0⟩ (hn.trans h3)) ?_
    refine w_aload_n C dX12_numbers_100 rfl (mem_k 0 rfl) ?_
    refine x_getI C dX12_numbers_101 fw_X12_89 (isO.n (ci := 12) ⟨rfl, ho0⟩ (hn.trans h3)) ?_
    refine w_icmp_ne (tgt := 110) C dX12_numbers_104 (by decide) (fun q => ?_) (fun q => ?_)
    · replace h := h.1 q
      refine w_aload_n C dX12_numbers_110 rfl (mem_k 0 rfl) ?_
      refine x_getR C dX12_numbers_111 fw_X12_65 (isO.n (ci := 12) ⟨rfl, ho0⟩ (hn.trans h3)) (fun r2 er2 => ?_)
      replace h := h r2 er2
      refine w_iload_n C dX12_numbers_114 rfl (mem_k 1 rfl) ?_
      refine w_iload_n C dX12_numbers_115 rfl (mem_k 3 rfl) ?_
      obtain ⟨o3, g4, h⟩ := h
      refine x_iast C dX12_numbers_116 (isA.n g4 (hn.trans h3)) (fun M5 eM5 hn6 => ?_)
      replace h := h M5 eM5
      replace hn6 := hn6.trans hn
      obtain ⟨v7, ev7⟩ : ∃ z : Int, z = x1 + 1 := ⟨_, rfl⟩
      refine x_iinc (L' := [(1, vI v7), (0, vR (some o0)), (2, vI x2), (3, vI x3)]) C dX12_numbers_117 (mem_k 1 rfl) (by decide) h.1 ev7 rfl ?_
      replace h := h.2 v7 ev7
      refine w_aload_n C dX12_numbers_120 rfl (mem_k 1 rfl) ?_
      refine w_dup C dX12_numbers_121 rfl ?_
      refine x_getI C dX12_numbers_122 fw_X12_94 (isO.n (ci := 12) ⟨rfl, ho0⟩ (hn6.trans h3)) ?_
      refine w_iconst C dX12_numbers_125 ⟨by decide, by decide⟩ ?_
      refine w_iadd C dX12_numbers_126 h.1 ?_
      replace h := h.2
      refine x_putI C dX12_numbers_127 fw_X12_94 (isO.n (ci := 12) ⟨rfl, ho0⟩ (hn6.trans h3)) (Or.inl rfl) (fun M8 eM8 hn9 => ?_)
      replace h := h M8 eM8
      replace hn9 := hn9.trans hn6
      refine w_aload_n C dX12_numbers_130 rfl (mem_k 1 rfl) ?_
      refine x_getR C dX12_numbers_131 fw_X12_7 (isO.n (ci := 12) ⟨rfl, ho0⟩ (hn9.trans h3)) (fun r10 er10 => ?_)
      replace h := h r10 er10
      refine w_aload_n C dX12_numbers_134 rfl (mem_k 1 rfl) ?_
      refine x_getI C dX12_numbers_135 fw_X12_94 (isO.n (ci := 12) ⟨rfl, ho0⟩ (hn9.trans h3)) ?_
      refine w_iconst C dX12_numbers_138 ⟨by decide, by decide⟩ ?_
      refine w_isub C dX12_numbers_139 h.1 ?_
      replace h := h.2
      obtain ⟨o11, g12, h⟩ := h
      refine x_iald C dX12_numbers_140 (isA.n g12 (hn9.trans h3)) ?_
      refine w_bipush C dX12_numbers_141 (by decide) ?_
      refine w_icmp_ne (tgt := 148) C dX12_numbers_143 (by decide) (fun q => ?_) (fun q => ?_)
      · replace h := h.1 q
        refine w_aload_n C dX12_numbers_148 rfl (mem_k 1 rfl) ?_
        refine x_getR C dX12_numbers_149 fw_X12_7 (isO.n (ci := 12) ⟨rfl, ho0⟩ (hn9.trans h3)) (fun r13 er13 => ?_)
        replace h := h r13 er13
        refine w_aload_n C dX12_numbers_152 rfl (mem_k 1 rfl) ?_
        refine x_getI C dX12_numbers_153 fw_X12_94 (isO.n (ci := 12) ⟨rfl, ho0⟩ (hn9.trans h3)) ?_
        refine w_iconst C dX12_numbers_156 ⟨by decide, by decide⟩ ?_
        refine w_isub C dX12_numbers_157 h.1 ?_
        replace h := h.2
        obtain ⟨o14, g15, h⟩ := h
        refine x_iald C dX12_numbers_158 (isA.n g15 (hn9.trans h3)) ?_
        refine w_bipush C dX12_numbers_159 (by decide) ?_
        refine w_icmp_eq (tgt := 167) C dX12_numbers_161 (by decide) (fun q => ?_) (fun q => ?_)
        · replace h := h.1 q
          refine w_goto (tgt := 2) C dX12_numbers_167 (by decide) ?_
          refine x_pc (pc2 := 2) rfl ?_
          refine x_pick (L' := [(0, vR (some o0)), (1, vI v7)]) [1, 0] rfl ?_
          exact hK2 v7 M8 h hn9
        · replace h := h.2 q
          refine w_bipush C dX12_numbers_164 (by decide) ?_
          exact x_iret C hr dX12_numbers_166 hn9 (hQ _ M8 h)
      · replace h := h.2 q
        refine w_iload_n C dX12_numbers_146 rfl (mem_k 0 rfl) ?_
        exact x_iret C hr dX12_numbers_147 hn9 (hQ _ M8 h)
    · replace h := h.2 q
      refine w_bipush C dX12_numbers_107 (by decide) ?_
      exact x_iret C hr dX12_numbers_109 hn (hQ _ M h)
set_option maxRecDepth 100000 in
set_option maxHeartbeats 4000000 in
theorem f_X12_numbers_12 {o0 : Nat} {x1 : Int} {x2 : Int} {x3 : Int} {M : Mm} {Q : Int → Mm → Prop} {K2 : Int × Mm → Prop} {K12 : Int × Int × Mm → Prop} (C : Cx p s m args meth c cX12_numbers 4 RX12 D cy G n0) (hr : meth.sig.returnType = some .int) (h3 : n0 = 243) (hn : M.2.2.2 = n0) (ho0 : o0 < 243 ∧ (SH o0).1 = 12) (hQ : ∀ x M, Q x M → Qp (some (vI x)) M) (hK2 : ∀ (x1 : Int) (M : Mm), K2 (x1, M) → M.2.2.2 = n0 → WW p l e ({ frames := 1, cells := 0, slots := 0, locals := 25 }) s m args below meth c (ZQ below args s D cy G n0 Qp n0) 4 D cy G n0 2 [(0, vR (some o0)), (1, vI x1)] [] M) (hK12 : ∀ (x2 : Int) (x3 : Int) (M : Mm), K12 (x2, x3, M) → M.2.2.2 = n0 → WW p l e ({ frames := 1, cells := 0, slots := 0, locals := 25 }) s m args below meth c (ZQ below args s D cy G n0 Qp n0) 4 D cy G n0 12 [(0, vR (some o0)), (1, vI x1), (2, vI x2), (3, vI x3)] [] M) (h : F_X12_numbers_12 o0 x1 Q K2 K12 x2 x3 M) : WW p l e ({ frames := 1, cells := 0, slots := 0, locals := 25 }) s m args below meth c (ZQ below args s D cy G n0 Qp n0) 4 D cy G n0 12 [(0, vR (some o0)), (1, vI x1), (2, vI x2), (3, vI x3)] [] M := by
  unfold F_X12_numbers_12 at h
  refine w_aload_n C dX12_numbers_12 rfl (mem_k 0 rfl) ?_
  refine x_getI C dX12_numbers_13 fw_X12_94 (isO.n (ci := 12) ⟨rfl, ho0⟩ (hn.trans h3)) ?_
  refine w_aload_n C dX12_numbers_16 rfl (mem_k 0 rfl) ?_
  refine x_getI C dX12_numbers_17 fw_X12_89 (isO.n (ci := 12) ⟨rfl, ho0⟩ (hn.trans h3)) ?_
  refine w_icmp_ge (tgt := 84) C dX12_numbers_20 (by decide) (fun q => ?_) (fun q => ?_)
  · replace h := h.1 q
    refine x_pc (pc2 := 84) rfl ?_
    refine x_pick (L' := [(0, vR (some o0)), (1, vI x1), (2, vI x2), (3, vI x3)]) [0, 1, 2, 3] rfl ?_
    exact k_X12_numbers_84 C hr h3 hn ho0 hQ hK2 h
  · replace h := h.2 q
    refine w_aload_n C dX12_numbers_23 rfl (mem_k 0 rfl) ?_
    refine x_getR C dX12_numbers_24 fw_X12_7 (isO.n (ci := 12) ⟨rfl, ho0⟩ (hn.trans h3)) (fun r16 er16 => ?_)
    replace h := h r16 er16
    refine w_aload_n C dX12_numbers_27 rfl (mem_k 0 rfl) ?_
    refine x_getI C dX12_numbers_28 fw_X12_94 (isO.n (ci := 12) ⟨rfl, ho0⟩ (hn.trans h3)) ?_
    obtain ⟨o17, g18, h⟩ := h
    refine x_iald C dX12_numbers_31 (isA.n g18 (hn.trans h3)) ?_
    refine w_i2l C dX12_numbers_32 ?_
    refine w_ldc2 (x := 48) C dX12_numbers_33 cn_X12_97 ⟨by decide, by decide⟩ ?_
    refine w_ldc2 (x := 57) C dX12_numbers_36 cn_X12_99 ⟨by decide, by decide⟩ ?_
    refine cl_X12_in (ck_X12_85 ⟨by decide, by decide⟩) C dX12_numbers_39 hn h3 (Nat.le_of_ble_eq_true rfl) h (fun v19 h => ?_)
    refine w_if_eq (tgt := 84) C dX12_numbers_42 (by decide) (fun q => ?_) (fun q => ?_)
    · replace h := h.1 q
      refine x_pc (pc2 := 84) rfl ?_
      refine x_pick (L' := [(0, vR (some o0)), (1, vI x1), (2, vI x2), (3, vI x3)]) [0, 1, 2, 3] rfl ?_
      exact k_X12_numbers_84 C hr h3 hn ho0 hQ hK2 h
    · replace h := h.2 q
      refine w_iload_n C dX12_numbers_45 rfl (mem_k 2 rfl) ?_
      refine w_iconst C dX12_numbers_46 ⟨by decide, by decide⟩ ?_
      refine w_icmp_ge (tgt := 84) C dX12_numbers_47 (by decide) (fun q => ?_) (fun q => ?_)
      · replace h := h.1 q
        refine x_pc (pc2 := 84) rfl ?_
        refine x_pick (L' := [(0, vR (some o0)), (1, vI x1), (2, vI x2), (3, vI x3)]) [0, 1, 2, 3] rfl ?_
        exact k_X12_numbers_84 C hr h3 hn ho0 hQ hK2 h
      · replace h := h.2 q
        refine w_bipush C dX12_numbers_50 (by decide) ?_
        refine w_iload_n C dX12_numbers_52 rfl (mem_k 3 rfl) ?_
        refine w_imul C dX12_numbers_53 h.1 ?_
        replace h := h.2
        refine w_aload_n C dX12_numbers_54 rfl (mem_k 0 rfl) ?_
        refine x_getR C dX12_numbers_55 fw_X12_7 (isO.n (ci := 12) ⟨rfl, ho0⟩ (hn.trans h3)) (fun r20 er20 => ?_)
        replace h := h r20 er20
        refine w_aload_n C dX12_numbers_58 rfl (mem_k 0 rfl) ?_
        refine x_getI C dX12_numbers_59 fw_X12_94 (isO.n (ci := 12) ⟨rfl, ho0⟩ (hn.trans h3)) ?_
        obtain ⟨o21, g22, h⟩ := h
        refine x_iald C dX12_numbers_62 (isA.n g22 (hn.trans h3)) ?_
        refine w_iadd C dX12_numbers_63 h.1 ?_
        replace h := h.2
        refine w_bipush C dX12_numbers_64 (by decide) ?_
        refine w_isub C dX12_numbers_66 h.1 ?_
        replace h := h.2
        refine x_nmI (fun v23 ev23 => ?_)
        replace h := h v23 ev23
        refine x_istore_n (L' := [(3, vI v23), (0, vR (some o0)), (1, vI x1), (2, vI x2)]) C dX12_numbers_67 rfl (by decide) rfl ?_
        obtain ⟨v24, ev24⟩ : ∃ z : Int, z = x2 + 1 := ⟨_, rfl⟩
        refine x_iinc (L' := [(2, vI v24), (3, vI v23), (0, vR (some o0)), (1, vI x1)]) C dX12_numbers_68 (mem_k 3 rfl) (by decide) h.1 ev24 rfl ?_
        replace h := h.2 v24 ev24
        refine w_aload_n C dX12_numbers_71 rfl (mem_k 2 rfl) ?_
        refine w_dup C dX12_numbers_72 rfl ?_
        refine x_getI C dX12_numbers_73 fw_X12_94 (isO.n (ci := 12) ⟨rfl, ho0⟩ (hn.trans h3)) ?_
        refine w_iconst C dX12_numbers_76 ⟨by decide, by decide⟩ ?_
        refine w_iadd C dX12_numbers_77 h.1 ?_
        replace h := h.2
        refine x_putI C dX12_numbers_78 fw_X12_94 (isO.n (ci := 12) ⟨rfl, ho0⟩ (hn.trans h3)) (Or.inl rfl) (fun M25 eM25 hn26 => ?_)
        replace h := h M25 eM25
        replace hn26 := hn26.trans hn
        refine w_goto (tgt := 12) C dX12_numbers_81 (by decide) ?_
        refine x_pc (pc2 := 12) rfl ?_
        refine x_pick (L' := [(0, vR (some o0)), (1, vI x1), (2, vI v24), (3, vI v23)]) [2, 3, 0, 1] rfl ?_
        exact hK12 v24 v23 M25 h hn26
set_option maxRecDepth 100000 in
set_option maxHeartbeats 4000000 in
theorem k_X12_numbers_12 {o0 : Nat} {x1 : Int} {x2 : Int} {x3 : Int} {M : Mm} {Q : Int → Mm → Prop} {K2 : Int × Mm → Prop} (C : Cx p s m args meth c cX12_numbers 4 RX12 D cy G n0) (hr : meth.sig.returnType = some .int) (h3 : n0 = 243) (hn : M.2.2.2 = n0) (ho0 : o0 < 243 ∧ (SH o0).1 = 12) (hQ : ∀ x M, Q x M → Qp (some (vI x)) M) (hK2 : ∀ (x1 : Int) (M : Mm), K2 (x1, M) → M.2.2.2 = n0 → WW p l e ({ frames := 1, cells := 0, slots := 0, locals := 25 }) s m args below meth c (ZQ below args s D cy G n0 Qp n0) 4 D cy G n0 2 [(0, vR (some o0)), (1, vI x1)] [] M) (h : P_X12_numbers_12 o0 x1 x2 x3 M Q K2) : WW p l e ({ frames := 1, cells := 0, slots := 0, locals := 25 }) s m args below meth c (ZQ below args s D cy G n0 Qp n0) 4 D cy G n0 12 [(0, vR (some o0)), (1, vI x1), (2, vI x2), (3, vI x3)] [] M := by
  refine lpW_sound (P := fun y : Int × Int × Mm => y.2.2.2.2.2 = n0 → WW p l e ({ frames := 1, cells := 0, slots := 0, locals := 25 }) s m args below meth c (ZQ below args s D cy G n0 Qp n0) 4 D cy G n0 12 [(0, vR (some o0)), (1, vI x1), (2, vI y.1), (3, vI y.2.1)] [] y.2.2) ?_ h hn
  intro K y hK hF
  obtain ⟨x2, x3, M⟩ := y
  intro hn
  exact f_X12_numbers_12 C hr h3 hn ho0 hQ hK2 (fun x2 x3 M hk => hK (x2, x3, M) hk) hF
set_option maxRecDepth 100000 in
set_option maxHeartbeats 4000000 in
theorem f_X12_numbers_2 {o0 : Nat} {x1 : Int} {M : Mm} {Q : Int → Mm → Prop} {K2 : Int × Mm → Prop} (C : Cx p s m args meth c cX12_numbers 4 RX12 D cy G n0) (hr : meth.sig.returnType = some .int) (h3 : n0 = 243) (hn : M.2.2.2 = n0) (ho0 : o0 < 243 ∧ (SH o0).1 = 12) (hQ : ∀ x M, Q x M → Qp (some (vI x)) M) (hK2 : ∀ (x1 : Int) (M : Mm), K2 (x1, M) → M.2.2.2 = n0 → WW p l e ({ frames := 1, cells := 0, slots := 0, locals := 25 }) s m args below meth c (ZQ below args s D cy G n0 Qp n0) 4 D cy G n0 2 [(0, vR (some o0)), (1, vI x1)] [] M) (h : F_X12_numbers_2 o0 Q  K2 x1 M) : WW p l e ({ frames := 1, cells := 0, slots := 0, locals := 25 }) s m args below meth c (ZQ below args s D cy G n0 Qp n0) 4 D cy G n0 2 [(0, vR (some o0)), (1, vI x1)] [] M := by
  unfold F_X12_numbers_2 at h
  refine w_iload_n C dX12_numbers_2 rfl (mem_k 1 rfl) ?_
  refine w_bipush C dX12_numbers_3 (by decide) ?_
  refine w_icmp_ge (tgt := 170) C dX12_numbers_5 (by decide) (fun q => ?_) (fun q => ?_)
  · replace h := h.1 q
    refine w_bipush C dX12_numbers_170 (by decide) ?_
    exact x_iret C hr dX12_numbers_172 hn (hQ _ M h)
  · replace h := h.2 q
    refine w_iconst C dX12_numbers_8 ⟨by decide, by decide⟩ ?_
    refine x_istore_n (L' := [(2, vI 0), (0, vR (some o0)), (1, vI x1)]) C dX12_numbers_9 rfl (by decide) rfl ?_
    refine w_iconst C dX12_numbers_10 ⟨by decide, by decide⟩ ?_
    refine x_istore_n (L' := [(3, vI 0), (2, vI 0), (0, vR (some o0)), (1, vI x1)]) C dX12_numbers_11 rfl (by decide) rfl ?_
    refine x_pc (pc2 := 12) rfl ?_
    refine x_pick (L' := [(0, vR (some o0)), (1, vI x1), (2, vI 0), (3, vI 0)]) [2, 3, 1, 0] rfl ?_
    exact k_X12_numbers_12 C hr h3 hn ho0 hQ hK2 h
set_option maxRecDepth 100000 in
set_option maxHeartbeats 4000000 in
theorem k_X12_numbers_2 {o0 : Nat} {x1 : Int} {M : Mm} {Q : Int → Mm → Prop} (C : Cx p s m args meth c cX12_numbers 4 RX12 D cy G n0) (hr : meth.sig.returnType = some .int) (h3 : n0 = 243) (hn : M.2.2.2 = n0) (ho0 : o0 < 243 ∧ (SH o0).1 = 12) (hQ : ∀ x M, Q x M → Qp (some (vI x)) M) (h : P_X12_numbers_2 o0 x1 M Q ) : WW p l e ({ frames := 1, cells := 0, slots := 0, locals := 25 }) s m args below meth c (ZQ below args s D cy G n0 Qp n0) 4 D cy G n0 2 [(0, vR (some o0)), (1, vI x1)] [] M := by
  refine lpW_sound (P := fun y : Int × Mm => y.2.2.2.2 = n0 → WW p l e ({ frames := 1, cells := 0, slots := 0, locals := 25 }) s m args below meth c (ZQ below args s D cy G n0 Qp n0) 4 D cy G n0 2 [(0, vR (some o0)), (1, vI y.1)] [] y.2) ?_ h hn
  intro K y hK hF
  obtain ⟨x1, M⟩ := y
  intro hn
  exact f_X12_numbers_2 C hr h3 hn ho0 hQ  (fun x1 M hk => hK (x1, M) hk) hF
set_option maxRecDepth 100000 in
set_option maxHeartbeats 4000000 in
theorem k_X12_numbers_0 {o0 : Nat} {M : Mm} {Q : Int → Mm → Prop} (C : Cx p s m args meth c cX12_numbers 4 RX12 D cy G n0) (hr : meth.sig.returnType = some .int) (h3 : n0 = 243) (hn : M.2.2.2 = n0) (ho0 : o0 < 243 ∧ (SH o0).1 = 12) (hQ : ∀ x M, Q x M → Qp (some (vI x)) M) (h : P_X12_numbers o0 M Q ) : WW p l e ({ frames := 1, cells := 0, slots := 0, locals := 25 }) s m args below meth c (ZQ below args s D cy G n0 Qp n0) 4 D cy G n0 0 [(0, vR (some o0))] [] M := by
  unfold P_X12_numbers at h
  refine w_iconst C dX12_numbers_0 ⟨by decide, by decide⟩ ?_
  refine x_istore_n (L' := [(1, vI 0), (0, vR (some o0))]) C dX12_numbers_1 rfl (by decide) rfl ?_
  refine x_pc (pc2 := 2) rfl ?_
  refine x_pick (L' := [(0, vR (some o0)), (1, vI 0)]) [1, 0] rfl ?_
  exact k_X12_numbers_2 C hr h3 hn ho0 hQ  h
set_option maxRecDepth 100000 in
set_option maxHeartbeats 4000000 in
theorem con_X12_numbers (l : Launch) (D : va_G) (cy : Nat → ClassId) : Con l D cy yX12_numbers cX12_numbers 4 (some .int) ({ frames := 1, cells := 0, slots := 0, locals := 25 }) 0 0 SP_X12_numbers := by
  refine con_of (by decide) (fun as M Qp h => ?_) ?_
  · obtain ⟨-, o0, rfl, -⟩ := h
    exact Nat.le_of_ble_eq_true rfl
  · intro p e s m args below meth c G as M Qp h C hr hnm
    obtain ⟨hn, o0, rfl, ho1, ho2, Q0, hQ, h⟩ := h
    refine x_pick (L' := [(0, vR (some o0))]) [0] rfl ?_
    exact k_X12_numbers_0 C hr hn rfl ⟨ho1, ho2⟩ hQ h
set_option maxRecDepth 100000 in
set_option maxHeartbeats 4000000 in
theorem cl_X12_numbers {p : Program} {l : Launch} {e : Env} {R : Room} {s : State} {m : MethodId} {args : Array Value} {below : List Frame} {meth : Method} {c : Code} {Q : State → Prop} {cc : ByteArray} {nL : Nat} {own : String} {D : va_G} {cy : Nat → ClassId} {G : Nat × Nat} {n0 pc : Nat} {L : List (Nat × PV)} {st : List PV} {M : Mm} {op : Instr} (K : CallOK l D cy R own op 0 0 (spV 12 0 SP_X12_numbers)) (C : Cx p s m args meth c cc nL own D cy G n0) (hd : decode cc pc = .ok (op, 3)) (hn : M.2.2.2 = n0) (h3 : n0 = 243) (hlen : argN st ≤ 8) {r : Option Nat} {o0 : Nat} (ho : isOn 12 M.2.2.2 r o0)  {Q0 : Int → Mm → Prop} (h : P_X12_numbers o0 M Q0) (k : ∀ x M2, Q0 x M2 → M2.2.2.2 = n0 → WW p l e R s m args below meth c Q nL D cy G n0  (pc + 3) L (vI x :: st) M2) : WW p l e R s m args below meth c Q nL D cy G n0  pc L (vR r :: st) M := by
  obtain ⟨rfl, ho1, ho2⟩ := ho
  refine x_call0 K C hd (as := [vR (some o0)]) rfl hn hlen (fun v M2 => ∃ x, v = some (vI x) ∧ Q0 x M2) ⟨⟨o0, [], rfl, rfl, ho1, ho2⟩, hn.trans h3, o0, rfl, (hn.trans h3) ▸ ho1, ho2, Q0, fun x M2 hx => ⟨x, rfl, hx⟩, h⟩ ?_
  rintro _ _ ⟨x, rfl, hx⟩ hm
  exact k x _ hx hm
end W_X12_numbers
theorem dX12_layer_0 : decode cX12_layer 0 = .ok (.iload_n 1, 1) := by decide +kernel
theorem dX12_layer_1 : decode cX12_layer 1 = .ok (.ifCond .le 24, 3) := by decide +kernel
theorem dX12_layer_4 : decode cX12_layer 4 = .ok (.iload_n 1, 1) := by decide +kernel
theorem dX12_layer_5 : decode cX12_layer 5 = .ok (.iconst 2, 1) := by decide +kernel
theorem dX12_layer_6 : decode cX12_layer 6 = .ok (.irem, 1) := by decide +kernel
theorem dX12_layer_7 : decode cX12_layer 7 = .ok (.ifCond .ne 18, 3) := by decide +kernel
theorem dX12_layer_10 : decode cX12_layer 10 = .ok (.aload_n 0, 1) := by decide +kernel
theorem dX12_layer_11 : decode cX12_layer 11 = .ok (.getfield 13, 3) := by decide +kernel
theorem dX12_layer_14 : decode cX12_layer 14 = .ok (.iconst 0, 1) := by decide +kernel
theorem dX12_layer_15 : decode cX12_layer 15 = .ok (.iaload, 1) := by decide +kernel
theorem dX12_layer_16 : decode cX12_layer 16 = .ok (.bipush 8, 2) := by decide +kernel
theorem dX12_layer_18 : decode cX12_layer 18 = .ok (.if_icmp .ge 7, 3) := by decide +kernel
theorem dX12_layer_21 : decode cX12_layer 21 = .ok (.iconst 1, 1) := by decide +kernel
theorem dX12_layer_22 : decode cX12_layer 22 = .ok (.goto 4, 3) := by decide +kernel
theorem dX12_layer_25 : decode cX12_layer 25 = .ok (.iconst 0, 1) := by decide +kernel
theorem dX12_layer_26 : decode cX12_layer 26 = .ok (.istore_n 2, 1) := by decide +kernel
theorem dX12_layer_27 : decode cX12_layer 27 = .ok (.iconst 0, 1) := by decide +kernel
theorem dX12_layer_28 : decode cX12_layer 28 = .ok (.istore_n 3, 1) := by decide +kernel
theorem dX12_layer_29 : decode cX12_layer 29 = .ok (.iload_n 3, 1) := by decide +kernel
theorem dX12_layer_30 : decode cX12_layer 30 = .ok (.iload_n 1, 1) := by decide +kernel
theorem dX12_layer_31 : decode cX12_layer 31 = .ok (.if_icmp .ge 55, 3) := by decide +kernel
theorem dX12_layer_34 : decode cX12_layer 34 = .ok (.iload_n 2, 1) := by decide +kernel
theorem dX12_layer_35 : decode cX12_layer 35 = .ok (.ifCond .eq 43, 3) := by decide +kernel
theorem dX12_layer_38 : decode cX12_layer 38 = .ok (.aload_n 0, 1) := by decide +kernel
theorem dX12_layer_39 : decode cX12_layer 39 = .ok (.getfield 65, 3) := by decide +kernel
theorem dX12_layer_42 : decode cX12_layer 42 = .ok (.iload_n 3, 1) := by decide +kernel
theorem dX12_layer_43 : decode cX12_layer 43 = .ok (.iaload, 1) := by decide +kernel
theorem dX12_layer_44 : decode cX12_layer 44 = .ok (.i2l, 1) := by decide +kernel
theorem dX12_layer_45 : decode cX12_layer 45 = .ok (.lconst 1, 1) := by decide +kernel
theorem dX12_layer_46 : decode cX12_layer 46 = .ok (.ldc2_w 103, 3) := by decide +kernel
theorem dX12_layer_49 : decode cX12_layer 49 = .ok (.invokestatic 85, 3) := by decide +kernel
theorem dX12_layer_52 : decode cX12_layer 52 = .ok (.ifCond .eq 26, 3) := by decide +kernel
theorem dX12_layer_55 : decode cX12_layer 55 = .ok (.aload_n 0, 1) := by decide +kernel
theorem dX12_layer_56 : decode cX12_layer 56 = .ok (.getfield 65, 3) := by decide +kernel
theorem dX12_layer_59 : decode cX12_layer 59 = .ok (.iload_n 3, 1) := by decide +kernel
theorem dX12_layer_60 : decode cX12_layer 60 = .ok (.iconst 1, 1) := by decide +kernel
theorem dX12_layer_61 : decode cX12_layer 61 = .ok (.iadd, 1) := by decide +kernel
theorem dX12_layer_62 : decode cX12_layer 62 = .ok (.iaload, 1) := by decide +kernel
theorem dX12_layer_63 : decode cX12_layer 63 = .ok (.i2l, 1) := by decide +kernel
theorem dX12_layer_64 : decode cX12_layer 64 = .ok (.lconst 1, 1) := by decide +kernel
theorem dX12_layer_65 : decode cX12_layer 65 = .ok (.ldc2_w 105, 3) := by decide +kernel
theorem dX12_layer_68 : decode cX12_layer 68 = .ok (.invokestatic 85, 3) := by decide +kernel
theorem dX12_layer_71 : decode cX12_layer 71 = .ok (.ifCond .eq 7, 3) := by decide +kernel
theorem dX12_layer_74 : decode cX12_layer 74 = .ok (.iconst 1, 1) := by decide +kernel
theorem dX12_layer_75 : decode cX12_layer 75 = .ok (.goto 4, 3) := by decide +kernel
theorem dX12_layer_78 : decode cX12_layer 78 = .ok (.iconst 0, 1) := by decide +kernel
theorem dX12_layer_79 : decode cX12_layer 79 = .ok (.istore_n 2, 1) := by decide +kernel
theorem dX12_layer_80 : decode cX12_layer 80 = .ok (.iinc 3 2, 3) := by decide +kernel
theorem dX12_layer_83 : decode cX12_layer 83 = .ok (.goto (-54), 3) := by decide +kernel
theorem dX12_layer_86 : decode cX12_layer 86 = .ok (.iload_n 2, 1) := by decide +kernel
theorem dX12_layer_87 : decode cX12_layer 87 = .ok (.ifCond .ne 5, 3) := by decide +kernel
theorem dX12_layer_90 : decode cX12_layer 90 = .ok (.iconst 0, 1) := by decide +kernel
theorem dX12_layer_91 : decode cX12_layer 91 = .ok (.ireturn, 1) := by decide +kernel
theorem dX12_layer_92 : decode cX12_layer 92 = .ok (.aload_n 0, 1) := by decide +kernel
theorem dX12_layer_93 : decode cX12_layer 93 = .ok (.getfield 13, 3) := by decide +kernel
theorem dX12_layer_96 : decode cX12_layer 96 = .ok (.iconst 0, 1) := by decide +kernel
theorem dX12_layer_97 : decode cX12_layer 97 = .ok (.iaload, 1) := by decide +kernel
theorem dX12_layer_98 : decode cX12_layer 98 = .ok (.istore_n 3, 1) := by decide +kernel
theorem dX12_layer_99 : decode cX12_layer 99 = .ok (.aload_n 0, 1) := by decide +kernel
theorem dX12_layer_100 : decode cX12_layer 100 = .ok (.getfield 16, 3) := by decide +kernel
theorem dX12_layer_103 : decode cX12_layer 103 = .ok (.iload_n 3, 1) := by decide +kernel
theorem dX12_layer_104 : decode cX12_layer 104 = .ok (.iload_n 1, 1) := by decide +kernel
theorem dX12_layer_105 : decode cX12_layer 105 = .ok (.iconst 2, 1) := by decide +kernel
theorem dX12_layer_106 : decode cX12_layer 106 = .ok (.idiv, 1) := by decide +kernel
theorem dX12_layer_107 : decode cX12_layer 107 = .ok (.iastore, 1) := by decide +kernel
theorem dX12_layer_108 : decode cX12_layer 108 = .ok (.iconst 0, 1) := by decide +kernel
theorem dX12_layer_109 : decode cX12_layer 109 = .ok (.istore 4, 2) := by decide +kernel
theorem dX12_layer_111 : decode cX12_layer 111 = .ok (.iload 4, 2) := by decide +kernel
theorem dX12_layer_113 : decode cX12_layer 113 = .ok (.bipush 8, 2) := by decide +kernel
theorem dX12_layer_115 : decode cX12_layer 115 = .ok (.if_icmp .ge 28, 3) := by decide +kernel
theorem dX12_layer_118 : decode cX12_layer 118 = .ok (.aload_n 0, 1) := by decide +kernel
theorem dX12_layer_119 : decode cX12_layer 119 = .ok (.getfield 19, 3) := by decide +kernel
theorem dX12_layer_122 : decode cX12_layer 122 = .ok (.bipush 8, 2) := by decide +kernel
theorem dX12_layer_124 : decode cX12_layer 124 = .ok (.iload_n 3, 1) := by decide +kernel
theorem dX12_layer_125 : decode cX12_layer 125 = .ok (.imul, 1) := by decide +kernel
theorem dX12_layer_126 : decode cX12_layer 126 = .ok (.iload 4, 2) := by decide +kernel
theorem dX12_layer_128 : decode cX12_layer 128 = .ok (.iadd, 1) := by decide +kernel
theorem dX12_layer_129 : decode cX12_layer 129 = .ok (.aload_n 0, 1) := by decide +kernel
theorem dX12_layer_130 : decode cX12_layer 130 = .ok (.getfield 65, 3) := by decide +kernel
theorem dX12_layer_133 : decode cX12_layer 133 = .ok (.iload 4, 2) := by decide +kernel
theorem dX12_layer_135 : decode cX12_layer 135 = .ok (.iaload, 1) := by decide +kernel
theorem dX12_layer_136 : decode cX12_layer 136 = .ok (.iastore, 1) := by decide +kernel
theorem dX12_layer_137 : decode cX12_layer 137 = .ok (.iinc 4 1, 3) := by decide +kernel
theorem dX12_layer_140 : decode cX12_layer 140 = .ok (.goto (-29), 3) := by decide +kernel
theorem dX12_layer_143 : decode cX12_layer 143 = .ok (.iconst 0, 1) := by decide +kernel
theorem dX12_layer_144 : decode cX12_layer 144 = .ok (.istore 4, 2) := by decide +kernel
theorem dX12_layer_146 : decode cX12_layer 146 = .ok (.iload 4, 2) := by decide +kernel
theorem dX12_layer_148 : decode cX12_layer 148 = .ok (.iconst 4, 1) := by decide +kernel
theorem dX12_layer_149 : decode cX12_layer 149 = .ok (.if_icmp .ge 22, 3) := by decide +kernel
theorem dX12_layer_152 : decode cX12_layer 152 = .ok (.aload_n 0, 1) := by decide +kernel
theorem dX12_layer_153 : decode cX12_layer 153 = .ok (.getfield 22, 3) := by decide +kernel
theorem dX12_layer_156 : decode cX12_layer 156 = .ok (.iconst 4, 1) := by decide +kernel
theorem dX12_layer_157 : decode cX12_layer 157 = .ok (.iload_n 3, 1) := by decide +kernel
theorem dX12_layer_158 : decode cX12_layer 158 = .ok (.imul, 1) := by decide +kernel
theorem dX12_layer_159 : decode cX12_layer 159 = .ok (.iload 4, 2) := by decide +kernel
theorem dX12_layer_161 : decode cX12_layer 161 = .ok (.iadd, 1) := by decide +kernel
theorem dX12_layer_162 : decode cX12_layer 162 = .ok (.bipush 100, 2) := by decide +kernel
theorem dX12_layer_164 : decode cX12_layer 164 = .ok (.iastore, 1) := by decide +kernel
theorem dX12_layer_165 : decode cX12_layer 165 = .ok (.iinc 4 1, 3) := by decide +kernel
theorem dX12_layer_168 : decode cX12_layer 168 = .ok (.goto (-22), 3) := by decide +kernel
theorem dX12_layer_171 : decode cX12_layer 171 = .ok (.aload_n 0, 1) := by decide +kernel
theorem dX12_layer_172 : decode cX12_layer 172 = .ok (.getfield 13, 3) := by decide +kernel
theorem dX12_layer_175 : decode cX12_layer 175 = .ok (.iconst 0, 1) := by decide +kernel
theorem dX12_layer_176 : decode cX12_layer 176 = .ok (.dup2, 1) := by decide +kernel
theorem dX12_layer_177 : decode cX12_layer 177 = .ok (.iaload, 1) := by decide +kernel
theorem dX12_layer_178 : decode cX12_layer 178 = .ok (.iconst 1, 1) := by decide +kernel
theorem dX12_layer_179 : decode cX12_layer 179 = .ok (.iadd, 1) := by decide +kernel
theorem dX12_layer_180 : decode cX12_layer 180 = .ok (.iastore, 1) := by decide +kernel
theorem dX12_layer_181 : decode cX12_layer 181 = .ok (.iconst 1, 1) := by decide +kernel
theorem dX12_layer_182 : decode cX12_layer 182 = .ok (.ireturn, 1) := by decide +kernel
theorem fw_X12_13 : fR RX12 13 12 2 := ⟨⟨lwG_4 (i := 66) rfl rfl, by decide, by decide⟩, fun _ _ => rfl, fun r => ⟨r, rfl⟩⟩
theorem fw_X12_22 : fR RX12 22 12 5 := ⟨⟨lwG_4 (i := 69) rfl rfl, by decide, by decide⟩, fun _ _ => rfl, fun r => ⟨r, rfl⟩⟩
theorem fw_X12_19 : fR RX12 19 12 4 := ⟨⟨lwG_4 (i := 68) rfl rfl, by decide, by decide⟩, fun _ _ => rfl, fun r => ⟨r, rfl⟩⟩
theorem fw_X12_16 : fR RX12 16 12 3 := ⟨⟨lwG_4 (i := 67) rfl rfl, by decide, by decide⟩, fun _ _ => rfl, fun r => ⟨r, rfl⟩⟩
theorem cn_X12_103 : Cond.constantLong RX12 103 (Int64.ofInt 100) ∈ lwG := lwG_4 (i := 187) rfl rfl
theorem cn_X12_105 : Cond.constantLong RX12 105 (Int64.ofInt 200) ∈ lwG := lwG_4 (i := 188) rfl rfl
section W_X12_layer
variable {p : Program} {l : Launch} {e : Env} {s : State} {m : MethodId} {args : Array Value} {below : List Frame} {meth : Method} {c : Code} {D : va_G} {cy : Nat → ClassId} {G : Nat × Nat} {n0 : Nat} {Qp : Option PV → Mm → Prop}
set_option maxRecDepth 100000 in
set_option maxHeartbeats 4000000 in
theorem f_X12_layer_146 {o0 : Nat} {x3 : Int} {x4 : Int} {M : Mm} {Q : Int → Mm → Prop} {K146 : Int × Mm → Prop} (C : Cx p s m args meth c cX12_layer 5 RX12 D cy G n0) (hr : meth.sig.returnType = some .boolean) (h3 : n0 = 243) (hn : M.2.2.2 = n0) (ho0 : o0 < 243 ∧ (SH o0).1 = 12) (hQ : ∀ x M, Q x M → Qp (some (vI x)) M) (hK146 : ∀ (x4 : Int) (M : Mm), K146 (x4, M) → M.2.2.2 = n0 → WW p l e ({ frames := 1, cells := 0, slots := 0, locals := 25 }) s m args below meth c (ZQ below args s D cy G n0 Qp n0) 5 D cy G n0 146 [(0, vR (some o0)), (3, vI x3), (4, vI x4)] [] M) (h : F_X12_layer_146 o0 x3 Q  K146 x4 M) : WW p l e ({ frames := 1, cells := 0, slots := 0, locals := 25 }) s m args below meth c (ZQ below args s D cy G n0 Qp n0) 5 D cy G n0 146 [(0, vR (some o0)), (3, vI x3), (4, vI x4)] [] M := by
  unfold F_X12_layer_146 at h
  refine w_iload C dX12_layer_146 (mem_k 2 rfl) ?_
  refine w_iconst C dX12_layer_148 ⟨by decide, by decide⟩ ?_
  refine w_icmp_ge (tgt := 171) C dX12_layer_149 (by decide) (fun q => ?_) (fun q => ?_)
  · replace h := h.1 q
    refine w_aload_n C dX12_layer_171 rfl (mem_k 0 rfl) ?_
    refine x_getR C dX12_layer_172 fw_X12_13 (isO.n (ci := 12) ⟨rfl, ho0⟩ (hn.trans h3)) (fun r1 er1 => ?_)
    replace h := h r1 er1
    refine w_iconst C dX12_layer_175 ⟨by decide, by decide⟩ ?_
    refine w_dup2 C dX12_layer_176 rfl rfl ?_
    obtain ⟨o2, g3, h⟩ := h
    refine x_iald C dX12_layer_177 (isA.n g3 (hn.trans h3)) ?_
    refine w_iconst C dX12_layer_178 ⟨by decide, by decide⟩ ?_
    refine w_iadd C dX12_layer_179 h.1 ?_
    replace h := h.2
    obtain ⟨o4, g5, h⟩ := h
    refine x_iast C dX12_layer_180 (isA.n g5 (hn.trans h3)) (fun M6 eM6 hn7 => ?_)
    replace h := h M6 eM6
    replace hn7 := hn7.trans hn
    refine w_iconst C dX12_layer_181 ⟨by decide, by decide⟩ ?_
    exact x_zret C hr dX12_layer_182 hn7 (by decide) (hQ _ M6 h)
  · replace h := h.2 q
    refine w_aload_n C dX12_layer_152 rfl (mem_k 0 rfl) ?_
    refine x_getR C dX12_layer_153 fw_X12_22 (isO.n (ci := 12) ⟨rfl, ho0⟩ (hn.trans h3)) (fun r8 er8 => ?_)
    replace h := h r8 er8
    refine w_iconst C dX12_layer_156 ⟨by decide, by decide⟩ ?_
    refine w_iload_n C dX12_layer_157 rfl (mem_k 1 rfl) ?_
    refine w_imul C dX12_layer_158 h.1 ?_
    replace h := h.2
    refine w_iload C dX12_layer_159 (mem_k 2 rfl) ?_
    refine w_iadd C dX12_layer_161 h.1 ?_
    replace h := h.2
    refine w_bipush C dX12_layer_162 (by decide) ?_
    obtain ⟨o9, g10, h⟩ := h
    refine x_iast C dX12_layer_164 (isA.n g10 (hn.trans h3)) (fun M11 eM11 hn12 => ?_)
    replace h := h M11 eM11
    replace hn12 := hn12.trans hn
    obtain ⟨v13, ev13⟩ : ∃ z : Int, z = x4 + 1 := ⟨_, rfl⟩
    refine x_iinc (L' := [(4, vI v13), (0, vR (some o0)), (3, vI x3)]) C dX12_layer_165 (mem_k 2 rfl) (by decide) h.1 ev13 rfl ?_
    replace h := h.2 v13 ev13
    refine w_goto (tgt := 146) C dX12_layer_168 (by decide) ?_
    refine x_pc (pc2 := 146) rfl ?_
    refine x_pick (L' := [(0, vR (some o0)), (3, vI x3), (4, vI v13)]) [1, 2, 0] rfl ?_
    exact hK146 v13 M11 h hn12
set_option maxRecDepth 100000 in
set_option maxHeartbeats 4000000 in
theorem k_X12_layer_146 {o0 : Nat} {x3 : Int} {x4 : Int} {M : Mm} {Q : Int → Mm → Prop} (C : Cx p s m args meth c cX12_layer 5 RX12 D cy G n0) (hr : meth.sig.returnType = some .boolean) (h3 : n0 = 243) (hn : M.2.2.2 = n0) (ho0 : o0 < 243 ∧ (SH o0).1 = 12) (hQ : ∀ x M, Q x M → Qp (some (vI x)) M) (h : P_X12_layer_146 o0 x3 x4 M Q ) : WW p l e ({ frames := 1, cells := 0, slots := 0, locals := 25 }) s m args below meth c (ZQ below args s D cy G n0 Qp n0) 5 D cy G n0 146 [(0, vR (some o0)), (3, vI x3), (4, vI x4)] [] M := by
  refine lpW_sound (P := fun y : Int × Mm => y.2.2.2.2 = n0 → WW p l e ({ frames := 1, cells := 0, slots := 0, locals := 25 }) s m args below meth c (ZQ below args s D cy G n0 Qp n0) 5 D cy G n0 146 [(0, vR (some o0)), (3, vI x3), (4, vI y.1)] [] y.2) ?_ h hn
  intro K y hK hF
  obtain ⟨x4, M⟩ := y
  intro hn
  exact f_X12_layer_146 C hr h3 hn ho0 hQ  (fun x4 M hk => hK (x4, M) hk) hF
set_option maxRecDepth 100000 in
set_option maxHeartbeats 4000000 in
theorem f_X12_layer_111 {o0 : Nat} {x3 : Int} {x4 : Int} {M : Mm} {Q : Int → Mm → Prop} {K111 : Int × Mm → Prop} (C : Cx p s m args meth c cX12_layer 5 RX12 D cy G n0) (hr : meth.sig.returnType = some .boolean) (h3 : n0 = 243) (hn : M.2.2.2 = n0) (ho0 : o0 < 243 ∧ (SH o0).1 = 12) (hQ : ∀ x M, Q x M → Qp (some (vI x)) M) (hK111 : ∀ (x4 : Int) (M : Mm), K111 (x4, M) → M.2.2.2 = n0 → WW p l e ({ frames := 1, cells := 0, slots := 0, locals := 25 }) s m args below meth c (ZQ below args s D cy G n0 Qp n0) 5 D cy G n0 111 [(0, vR (some o0)), (3, vI x3), (4, vI x4)] [] M) (h : F_X12_layer_111 o0 x3 Q  K111 x4 M) : WW p l e ({ frames := 1, cells := 0, slots := 0, locals := 25 }) s m args below meth c (ZQ below args s D cy G n0 Qp n0) 5 D cy G n0 111 [(0, vR (some o0)), (3, vI x3), (4, vI x4)] [] M := by
  unfold F_X12_layer_111 at h
  refine w_iload C dX12_layer_111 (mem_k 2 rfl) ?_
  refine w_bipush C dX12_layer_113 (by decide) ?_
  refine w_icmp_ge (tgt := 143) C dX12_layer_115 (by decide) (fun q => ?_) (fun q => ?_)
  · replace h := h.1 q
    refine w_iconst C dX12_layer_143 ⟨by decide, by decide⟩ ?_
    refine x_istore (L' := [(4, vI 0), (0, vR (some o0)), (3, vI x3)]) C dX12_layer_144 (by decide) rfl ?_
    refine x_pc (pc2 := 146) rfl ?_
    refine x_pick (L' := [(0, vR (some o0)), (3, vI x3), (4, vI 0)]) [1, 2, 0] rfl ?_
    exact k_X12_layer_146 C hr h3 hn ho0 hQ  h
  · replace h := h.2 q
    refine w_aload_n C dX12_layer_118 rfl (mem_k 0 rfl) ?_
    refine x_getR C dX12_layer_119 fw_X12_19 (isO.n (ci := 12) ⟨rfl, ho0⟩ (hn.trans h3)) (fun r14 er14 => ?_)
    replace h := h r14 er14
    refine w_bipush C dX12_layer_122 (by decide) ?_
    refine w_iload_n C dX12_layer_124 rfl (mem_k 1 rfl) ?_
    refine w_imul C dX12_layer_125 h.1 ?_
    replace h := h.2
    refine w_iload C dX12_layer_126 (mem_k 2 rfl) ?_
    refine w_iadd C dX12_layer_128 h.1 ?_
    replace h := h.2
    refine w_aload_n C dX12_layer_129 rfl (mem_k 0 rfl) ?_
    refine x_getR C dX12_layer_130 fw_X12_65 (isO.n (ci := 12) ⟨rfl, ho0⟩ (hn.trans h3)) (fun r15 er15 => ?_)
    replace h := h r15 er15
    refine w_iload C dX12_layer_133 (mem_k 2 rfl) ?_
    obtain ⟨o16, g17, h⟩ := h
    refine x_iald C dX12_layer_135 (isA.n g17 (hn.trans h3)) ?_
    obtain ⟨o18, g19, h⟩ := h
    refine x_iast C dX12_layer_136 (isA.n g19 (hn.trans h3)) (fun M20 eM20 hn21 => ?_)
    replace h := h M20 eM20
    replace hn21 := hn21.trans hn
    obtain ⟨v22, ev22⟩ : ∃ z : Int, z = x4 + 1 := ⟨_, rfl⟩
    refine x_iinc (L' := [(4, vI v22), (0, vR (some o0)), (3, vI x3)]) C dX12_layer_137 (mem_k 2 rfl) (by decide) h.1 ev22 rfl ?_
    replace h := h.2 v22 ev22
    refine w_goto (tgt := 111) C dX12_layer_140 (by decide) ?_
    refine x_pc (pc2 := 111) rfl ?_
    refine x_pick (L' := [(0, vR (some o0)), (3, vI x3), (4, vI v22)]) [1, 2, 0] rfl ?_
    exact hK111 v22 M20 h hn21
set_option maxRecDepth 100000 in
set_option maxHeartbeats 4000000 in
theorem k_X12_layer_111 {o0 : Nat} {x3 : Int} {x4 : Int} {M : Mm} {Q : Int → Mm → Prop} (C : Cx p s m args meth c cX12_layer 5 RX12 D cy G n0) (hr : meth.sig.returnType = some .boolean) (h3 : n0 = 243) (hn : M.2.2.2 = n0) (ho0 : o0 < 243 ∧ (SH o0).1 = 12) (hQ : ∀ x M, Q x M → Qp (some (vI x)) M) (h : P_X12_layer_111 o0 x3 x4 M Q ) : WW p l e ({ frames := 1, cells := 0, slots := 0, locals := 25 }) s m args below meth c (ZQ below args s D cy G n0 Qp n0) 5 D cy G n0 111 [(0, vR (some o0)), (3, vI x3), (4, vI x4)] [] M := by
  refine lpW_sound (P := fun y : Int × Mm => y.2.2.2.2 = n0 → WW p l e ({ frames := 1, cells := 0, slots := 0, locals := 25 }) s m args below meth c (ZQ below args s D cy G n0 Qp n0) 5 D cy G n0 111 [(0, vR (some o0)), (3, vI x3), (4, vI y.1)] [] y.2) ?_ h hn
  intro K y hK hF
  obtain ⟨x4, M⟩ := y
  intro hn
  exact f_X12_layer_111 C hr h3 hn ho0 hQ  (fun x4 M hk => hK (x4, M) hk) hF
set_option maxRecDepth 100000 in
set_option maxHeartbeats 4000000 in
theorem f_X12_layer_29 {o0 : Nat} {x1 : Int} {x2 : Int} {x3 : Int} {M : Mm} {Q : Int → Mm → Prop} {K29 : Int × Int → Prop} (C : Cx p s m args meth c cX12_layer 5 RX12 D cy G n0) (hr : meth.sig.returnType = some .boolean) (h3 : n0 = 243) (hn : M.2.2.2 = n0) (ho0 : o0 < 243 ∧ (SH o0).1 = 12) (hQ : ∀ x M, Q x M → Qp (some (vI x)) M) (hK29 : ∀ (x2 : Int) (x3 : Int), K29 (x2, x3) → WW p l e ({ frames := 1, cells := 0, slots := 0, locals := 25 }) s m args below meth c (ZQ below args s D cy G n0 Qp n0) 5 D cy G n0 29 [(0, vR (some o0)), (1, vI x1), (2, vI x2), (3, vI x3)] [] M) (h : F_X12_layer_29 o0 x1 M Q  K29 x2 x3) : WW p l e ({ frames := 1, cells := 0, slots := 0, locals := 25 }) s m args below meth c (ZQ below args s D cy G n0 Qp n0) 5 D cy G n0 29 [(0, vR (some o0)), (1, vI x1), (2, vI x2), (3, vI x3)] [] M := by
  unfold F_X12_layer_29 at h
  refine w_iload_n C dX12_layer_29 rfl (mem_k 3 rfl) ?_
  refine w_iload_n C dX12_layer_30 rfl (mem_k 1 rfl) ?_
  refine w_icmp_ge (tgt := 86) C dX12_layer_31 (by decide) (fun q => ?_) (fun q => ?_)
  · replace h := h.1 q
    refine w_iload_n C dX12_layer_86 rfl (mem_k 2 rfl) ?_
    refine w_if_ne (tgt := 92) C dX12_layer_87 (by decide) (fun q => ?_) (fun q => ?_)
    · replace h := h.1 q
      refine w_aload_n C dX12_layer_92 rfl (mem_k 0 rfl) ?_
      refine x_getR C dX12_layer_93 fw_X12_13 (isO.n (ci := 12) ⟨rfl, ho0⟩ (hn.trans h3)) (fun r23 er23 => ?_)
      replace h := h r23 er23
      refine w_iconst C dX12_layer_96 ⟨by decide, by decide⟩ ?_
      obtain ⟨o24, g25, h⟩ := h
      refine x_iald C dX12_layer_97 (isA.n g25 (hn.trans h3)) ?_
      refine x_nmI (fun v26 ev26 => ?_)
      replace h := h v26 ev26
      refine x_istore_n (L' := [(3, vI v26), (0, vR (some o0)), (1, vI x1), (2, vI x2)]) C dX12_layer_98 rfl (by decide) rfl ?_
      refine w_aload_n C dX12_layer_99 rfl (mem_k 1 rfl) ?_
      refine x_getR C dX12_layer_100 fw_X12_16 (isO.n (ci := 12) ⟨rfl, ho0⟩ (hn.trans h3)) (fun r27 er27 => ?_)
      replace h := h r27 er27
      refine w_iload_n C dX12_layer_103 rfl (mem_k 0 rfl) ?_
      refine w_iload_n C dX12_layer_104 rfl (mem_k 2 rfl) ?_
      refine w_iconst C dX12_layer_105 ⟨by decide, by decide⟩ ?_
      refine x_idiv C dX12_layer_106 (by decide) ?_
      obtain ⟨o28, g29, h⟩ := h
      refine x_iast C dX12_layer_107 (isA.n g29 (hn.trans h3)) (fun M30 eM30 hn31 => ?_)
      replace h := h M30 eM30
      replace hn31 := hn31.trans hn
      refine w_iconst C dX12_layer_108 ⟨by decide, by decide⟩ ?_
      refine x_istore (L' := [(4, vI 0), (3, vI v26), (0, vR (some o0)), (1, vI x1), (2, vI x2)]) C dX12_layer_109 (by decide) rfl ?_
      refine x_pc (pc2 := 111) rfl ?_
      refine x_pick (L' := [(0, vR (some o0)), (3, vI v26), (4, vI 0)]) [2, 1, 0] rfl ?_
      exact k_X12_layer_111 C hr h3 hn31 ho0 hQ  h
    · replace h := h.2 q
      refine w_iconst C dX12_layer_90 ⟨by decide, by decide⟩ ?_
      exact x_zret C hr dX12_layer_91 hn (by decide) (hQ _ M h)
  · replace h := h.2 q
    refine w_iload_n C dX12_layer_34 rfl (mem_k 2 rfl) ?_
    refine w_if_eq (tgt := 78) C dX12_layer_35 (by decide) (fun q => ?_) (fun q => ?_)
    · replace h := h.1 q
      refine w_iconst C dX12_layer_78 ⟨by decide, by decide⟩ ?_
      refine x_istore_n (L' := [(2, vI 0), (0, vR (some o0)), (1, vI x1), (3, vI x3)]) C dX12_layer_79 rfl (by decide) rfl ?_
      obtain ⟨v32, ev32⟩ : ∃ z : Int, z = x3 + 2 := ⟨_, rfl⟩
      refine x_iinc (L' := [(3, vI v32), (2, vI 0), (0, vR (some o0)), (1, vI x1)]) C dX12_layer_80 (mem_k 3 rfl) (by decide) h.1 ev32 rfl ?_
      replace h := h.2 v32 ev32
      refine w_goto (tgt := 29) C dX12_layer_83 (by decide) ?_
      refine x_pc (pc2 := 29) rfl ?_
      refine x_pick (L' := [(0, vR (some o0)), (1, vI x1), (2, vI 0), (3, vI v32)]) [2, 3, 1, 0] rfl ?_
      exact hK29 0 v32 h
    · replace h := h.2 q
      refine w_aload_n C dX12_layer_38 rfl (mem_k 0 rfl) ?_
      refine x_getR C dX12_layer_39 fw_X12_65 (isO.n (ci := 12) ⟨rfl, ho0⟩ (hn.trans h3)) (fun r33 er33 => ?_)
      replace h := h r33 er33
      refine w_iload_n C dX12_layer_42 rfl (mem_k 3 rfl) ?_
      obtain ⟨o34, g35, h⟩ := h
      refine x_iald C dX12_layer_43 (isA.n g35 (hn.trans h3)) ?_
      refine w_i2l C dX12_layer_44 ?_
      refine w_lconst C dX12_layer_45 ?_
      refine w_ldc2 (x := 100) C dX12_layer_46 cn_X12_103 ⟨by decide, by decide⟩ ?_
      refine cl_X12_in (ck_X12_85 ⟨by decide, by decide⟩) C dX12_layer_49 hn h3 (Nat.le_of_ble_eq_true rfl) h (fun v36 h => ?_)
      refine w_if_eq (tgt := 78) C dX12_layer_52 (by decide) (fun q => ?_) (fun q => ?_)
      · replace h := h.1 q
        refine w_iconst C dX12_layer_78 ⟨by decide, by decide⟩ ?_
        refine x_istore_n (L' := [(2, vI 0), (0, vR (some o0)), (1, vI x1), (3, vI x3)]) C dX12_layer_79 rfl (by decide) rfl ?_
        obtain ⟨v37, ev37⟩ : ∃ z : Int, z = x3 + 2 := ⟨_, rfl⟩
        refine x_iinc (L' := [(3, vI v37), (2, vI 0), (0, vR (some o0)), (1, vI x1)]) C dX12_layer_80 (mem_k 3 rfl) (by decide) h.1 ev37 rfl ?_
        replace h := h.2 v37 ev37
        refine w_goto (tgt := 29) C dX12_layer_83 (by decide) ?_
        refine x_pc (pc2 := 29) rfl ?_
        refine x_pick (L' := [(0, vR (some o0)), (1, vI x1), (2, vI 0), (3, vI v37)]) [2, 3, 1, 0] rfl ?_
        exact hK29 0 v37 h
      · replace h := h.2 q
        refine w_aload_n C dX12_layer_55 rfl (mem_k 0 rfl) ?_
        refine x_getR C dX12_layer_56 fw_X12_65 (isO.n (ci := 12) ⟨rfl, ho0⟩ (hn.trans h3)) (fun r38 er38 => ?_)
        replace h := h r38 er38
        refine w_iload_n C dX12_layer_59 rfl (mem_k 3 rfl) ?_
        refine w_iconst C dX12_layer_60 ⟨by decide, by decide⟩ ?_
        refine w_iadd C dX12_layer_61 h.1 ?_
        replace h := h.2
        obtain ⟨o39, g40, h⟩ := h
        refine x_iald C dX12_layer_62 (isA.n g40 (hn.trans h3)) ?_
        refine w_i2l C dX12_layer_63 ?_
        refine w_lconst C dX12_layer_64 ?_
        refine w_ldc2 (x := 200) C dX12_layer_65 cn_X12_105 ⟨by decide, by decide⟩ ?_
        refine cl_X12_in (ck_X12_85 ⟨by decide, by decide⟩) C dX12_layer_68 hn h3 (Nat.le_of_ble_eq_true rfl) h (fun v41 h => ?_)
        refine w_if_eq (tgt := 78) C dX12_layer_71 (by decide) (fun q => ?_) (fun q => ?_)
        · replace h := h.1 q
          refine w_iconst C dX12_layer_78 ⟨by decide, by decide⟩ ?_
          refine x_istore_n (L' := [(2, vI 0), (0, vR (some o0)), (1, vI x1), (3, vI x3)]) C dX12_layer_79 rfl (by decide) rfl ?_
          obtain ⟨v42, ev42⟩ : ∃ z : Int, z = x3 + 2 := ⟨_, rfl⟩
          refine x_iinc (L' := [(3, vI v42), (2, vI 0), (0, vR (some o0)), (1, vI x1)]) C dX12_layer_80 (mem_k 3 rfl) (by decide) h.1 ev42 rfl ?_
          replace h := h.2 v42 ev42
          refine w_goto (tgt := 29) C dX12_layer_83 (by decide) ?_
          refine x_pc (pc2 := 29) rfl ?_
          refine x_pick (L' := [(0, vR (some o0)), (1, vI x1), (2, vI 0), (3, vI v42)]) [2, 3, 1, 0] rfl ?_
          exact hK29 0 v42 h
        · replace h := h.2 q
          refine w_iconst C dX12_layer_74 ⟨by decide, by decide⟩ ?_
          refine w_goto (tgt := 79) C dX12_layer_75 (by decide) ?_
          refine x_istore_n (L' := [(2, vI 1), (0, vR (some o0)), (1, vI x1), (3, vI x3)]) C dX12_layer_79 rfl (by decide) rfl ?_
          obtain ⟨v43, ev43⟩ : ∃ z : Int, z = x3 + 2 := ⟨_, rfl⟩
          refine x_iinc (L' := [(3, vI v43), (2, vI 1), (0, vR (some o0)), (1, vI x1)]) C dX12_layer_80 (mem_k 3 rfl) (by decide) h.1 ev43 rfl ?_
          replace h := h.2 v43 ev43
          refine w_goto (tgt := 29) C dX12_layer_83 (by decide) ?_
          refine x_pc (pc2 := 29) rfl ?_
          refine x_pick (L' := [(0, vR (some o0)), (1, vI x1), (2, vI 1), (3, vI v43)]) [2, 3, 1, 0] rfl ?_
          exact hK29 1 v43 h
set_option maxRecDepth 100000 in
set_option maxHeartbeats 4000000 in
theorem k_X12_layer_29 {o0 : Nat} {x1 : Int} {x2 : Int} {x3 : Int} {M : Mm} {Q : Int → Mm → Prop} (C : Cx p s m args meth c cX12_layer 5 RX12 D cy G n0) (hr : meth.sig.returnType = some .boolean) (h3 : n0 = 243) (hn : M.2.2.2 = n0) (ho0 : o0 < 243 ∧ (SH o0).1 = 12) (hQ : ∀ x M, Q x M → Qp (some (vI x)) M) (h : P_X12_layer_29 o0 x1 x2 x3 M Q ) : WW p l e ({ frames := 1, cells := 0, slots := 0, locals := 25 }) s m args below meth c (ZQ below args s D cy G n0 Qp n0) 5 D cy G n0 29 [(0, vR (some o0)), (1, vI x1), (2, vI x2), (3, vI x3)] [] M := by
  refine lpW_sound (P := fun y : Int × Int => WW p l e ({ frames := 1, cells := 0, slots := 0, locals := 25 }) s m args below meth c (ZQ below args s D cy G n0 Qp n0) 5 D cy G n0 29 [(0, vR (some o0)), (1, vI x1), (2, vI y.1), (3, vI y.2)] [] M) ?_ h
  intro K y hK hF
  obtain ⟨x2, x3⟩ := y
  exact f_X12_layer_29 C hr h3 hn ho0 hQ  (fun x2 x3 hk => hK (x2, x3) hk) hF
set_option maxRecDepth 100000 in
set_option maxHeartbeats 4000000 in
theorem k_X12_layer_0 {o0 : Nat} {x1 : Int} {M : Mm} {Q : Int → Mm → Prop} (C : Cx p s m args meth c cX12_layer 5 RX12 D cy G n0) (hr : meth.sig.returnType = some .boolean) (h3 : n0 = 243) (hn : M.2.2.2 = n0) (ho0 : o0 < 243 ∧ (SH o0).1 = 12) (hQ : ∀ x M, Q x M → Qp (some (vI x)) M) (h : P_X12_layer o0 x1 M Q ) : WW p l e ({ frames := 1, cells := 0, slots := 0, locals := 25 }) s m args below meth c (ZQ below args s D cy G n0 Qp n0) 5 D cy G n0 0 [(0, vR (some o0)), (1, vI x1)] [] M := by
  unfold P_X12_layer at h
  refine w_iload_n C dX12_layer_0 rfl (mem_k 1 rfl) ?_
  refine w_if_le (tgt := 25) C dX12_layer_1 (by decide) (fun q => ?_) (fun q => ?_)
  · replace h := h.1 q
    refine w_iconst C dX12_layer_25 ⟨by decide, by decide⟩ ?_
    refine x_istore_n (L' := [(2, vI 0), (0, vR (some o0)), (1, vI x1)]) C dX12_layer_26 rfl (by decide) rfl ?_
    refine w_iconst C dX12_layer_27 ⟨by decide, by decide⟩ ?_
    refine x_istore_n (L' := [(3, vI 0), (2, vI 0), (0, vR (some o0)), (1, vI x1)]) C dX12_layer_28 rfl (by decide) rfl ?_
    refine x_pc (pc2 := 29) rfl ?_
    refine x_pick (L' := [(0, vR (some o0)), (1, vI x1), (2, vI 0), (3, vI 0)]) [2, 3, 1, 0] rfl ?_
    exact k_X12_layer_29 C hr h3 hn ho0 hQ  h
  · replace h := h.2 q
    refine w_iload_n C dX12_layer_4 rfl (mem_k 1 rfl) ?_
    refine w_iconst C dX12_layer_5 ⟨by decide, by decide⟩ ?_
    refine x_irem C dX12_layer_6 (by decide) ?_
    refine w_if_ne (tgt := 25) C dX12_layer_7 (by decide) (fun q => ?_) (fun q => ?_)
    · replace h := h.1 q
      refine w_iconst C dX12_layer_25 ⟨by decide, by decide⟩ ?_
      refine x_istore_n (L' := [(2, vI 0), (0, vR (some o0)), (1, vI x1)]) C dX12_layer_26 rfl (by decide) rfl ?_
      refine w_iconst C dX12_layer_27 ⟨by decide, by decide⟩ ?_
      refine x_istore_n (L' := [(3, vI 0), (2, vI 0), (0, vR (some o0)), (1, vI x1)]) C dX12_layer_28 rfl (by decide) rfl ?_
      refine x_pc (pc2 := 29) rfl ?_
      refine x_pick (L' := [(0, vR (some o0)), (1, vI x1), (2, vI 0), (3, vI 0)]) [2, 3, 1, 0] rfl ?_
      exact k_X12_layer_29 C hr h3 hn ho0 hQ  h
    · replace h := h.2 q
      refine w_aload_n C dX12_layer_10 rfl (mem_k 0 rfl) ?_
      refine x_getR C dX12_layer_11 fw_X12_13 (isO.n (ci := 12) ⟨rfl, ho0⟩ (hn.trans h3)) (fun r44 er44 => ?_)
      replace h := h r44 er44
      refine w_iconst C dX12_layer_14 ⟨by decide, by decide⟩ ?_
      obtain ⟨o45, g46, h⟩ := h
      refine x_iald C dX12_layer_15 (isA.n g46 (hn.trans h3)) ?_
      refine w_bipush C dX12_layer_16 (by decide) ?_
      refine w_icmp_ge (tgt := 25) C dX12_layer_18 (by decide) (fun q => ?_) (fun q => ?_)
      · replace h := h.1 q
        refine w_iconst C dX12_layer_25 ⟨by decide, by decide⟩ ?_
        refine x_istore_n (L' := [(2, vI 0), (0, vR (some o0)), (1, vI x1)]) C dX12_layer_26 rfl (by decide) rfl ?_
        refine w_iconst C dX12_layer_27 ⟨by decide, by decide⟩ ?_
        refine x_istore_n (L' := [(3, vI 0), (2, vI 0), (0, vR (some o0)), (1, vI x1)]) C dX12_layer_28 rfl (by decide) rfl ?_
        refine x_pc (pc2 := 29) rfl ?_
        refine x_pick (L' := [(0, vR (some o0)), (1, vI x1), (2, vI 0), (3, vI 0)]) [2, 3, 1, 0] rfl ?_
        exact k_X12_layer_29 C hr h3 hn ho0 hQ  h
      · replace h := h.2 q
        refine w_iconst C dX12_layer_21 ⟨by decide, by decide⟩ ?_
        refine w_goto (tgt := 26) C dX12_layer_22 (by decide) ?_
        refine x_istore_n (L' := [(2, vI 1), (0, vR (some o0)), (1, vI x1)]) C dX12_layer_26 rfl (by decide) rfl ?_
        refine w_iconst C dX12_layer_27 ⟨by decide, by decide⟩ ?_
        refine x_istore_n (L' := [(3, vI 0), (2, vI 1), (0, vR (some o0)), (1, vI x1)]) C dX12_layer_28 rfl (by decide) rfl ?_
        refine x_pc (pc2 := 29) rfl ?_
        refine x_pick (L' := [(0, vR (some o0)), (1, vI x1), (2, vI 1), (3, vI 0)]) [2, 3, 1, 0] rfl ?_
        exact k_X12_layer_29 C hr h3 hn ho0 hQ  h
set_option maxRecDepth 100000 in
set_option maxHeartbeats 4000000 in
theorem con_X12_layer (l : Launch) (D : va_G) (cy : Nat → ClassId) : Con l D cy yX12_layer cX12_layer 5 (some .boolean) ({ frames := 1, cells := 0, slots := 0, locals := 25 }) 0 0 SP_X12_layer := by
  refine con_of (by decide) (fun as M Qp h => ?_) ?_
  · obtain ⟨-, o0, x1, rfl, -⟩ := h
    exact Nat.le_of_ble_eq_true rfl
  · intro p e s m args below meth c G as M Qp h C hr hnm
    obtain ⟨hn, o0, x1, rfl, ho1, ho2, Q0, hQ, h⟩ := h
    refine x_pick (L' := [(0, vR (some o0)), (1, vI x1)]) [0, 1] rfl ?_
    exact k_X12_layer_0 C hr hn rfl ⟨ho1, ho2⟩ hQ h
set_option maxRecDepth 100000 in
set_option maxHeartbeats 4000000 in
theorem cl_X12_layer {p : Program} {l : Launch} {e : Env} {R : Room} {s : State} {m : MethodId} {args : Array Value} {below : List Frame} {meth : Method} {c : Code} {Q : State → Prop} {cc : ByteArray} {nL : Nat} {own : String} {D : va_G} {cy : Nat → ClassId} {G : Nat × Nat} {n0 pc : Nat} {L : List (Nat × PV)} {st : List PV} {M : Mm} {op : Instr} (K : CallOK l D cy R own op 0 0 (spV 12 1 SP_X12_layer)) (C : Cx p s m args meth c cc nL own D cy G n0) (hd : decode cc pc = .ok (op, 3)) (hn : M.2.2.2 = n0) (h3 : n0 = 243) (hlen : argN st ≤ 8) {r : Option Nat} {o0 : Nat} (ho : isOn 12 M.2.2.2 r o0) {x1 : Int} {Q0 : Int → Mm → Prop} (h : P_X12_layer o0 x1 M Q0) (k : ∀ x M2, Q0 x M2 → M2.2.2.2 = n0 → WW p l e R s m args below meth c Q nL D cy G n0  (pc + 3) L (vI x :: st) M2) : WW p l e R s m args below meth c Q nL D cy G n0  pc L (vI x1 :: vR r :: st) M := by
  obtain ⟨rfl, ho1, ho2⟩ := ho
  refine x_call0 K C hd (as := [vR (some o0), vI x1]) rfl hn hlen (fun v M2 => ∃ x, v = some (vI x) ∧ Q0 x M2) ⟨⟨o0, [vI x1], rfl, rfl, ho1, ho2⟩, hn.trans h3, o0, x1, rfl, (hn.trans h3) ▸ ho1, ho2, Q0, fun x M2 hx => ⟨x, rfl, hx⟩, h⟩ ?_
  rintro _ _ ⟨x, rfl, hx⟩ hm
  exact k x _ hx hm
end W_X12_layer
theorem dX12_letting_0 : decode cX12_letting 0 = .ok (.iload_n 1, 1) := by decide +kernel
theorem dX12_letting_1 : decode cX12_letting 1 = .ok (.iconst 5, 1) := by decide +kernel
theorem dX12_letting_2 : decode cX12_letting 2 = .ok (.if_icmp .ne 18, 3) := by decide +kernel
theorem dX12_letting_5 : decode cX12_letting 5 = .ok (.aload_n 0, 1) := by decide +kernel
theorem dX12_letting_6 : decode cX12_letting 6 = .ok (.getfield 65, 3) := by decide +kernel
theorem dX12_letting_9 : decode cX12_letting 9 = .ok (.iconst 0, 1) := by decide +kernel
theorem dX12_letting_10 : decode cX12_letting 10 = .ok (.iaload, 1) := by decide +kernel
theorem dX12_letting_11 : decode cX12_letting 11 = .ok (.aload_n 0, 1) := by decide +kernel
theorem dX12_letting_12 : decode cX12_letting 12 = .ok (.getfield 13, 3) := by decide +kernel
theorem dX12_letting_15 : decode cX12_letting 15 = .ok (.iconst 0, 1) := by decide +kernel
theorem dX12_letting_16 : decode cX12_letting 16 = .ok (.iaload, 1) := by decide +kernel
theorem dX12_letting_17 : decode cX12_letting 17 = .ok (.if_icmp .lt 5, 3) := by decide +kernel
theorem dX12_letting_20 : decode cX12_letting 20 = .ok (.iconst 0, 1) := by decide +kernel
theorem dX12_letting_21 : decode cX12_letting 21 = .ok (.ireturn, 1) := by decide +kernel
theorem dX12_letting_22 : decode cX12_letting 22 = .ok (.iconst 1, 1) := by decide +kernel
theorem dX12_letting_23 : decode cX12_letting 23 = .ok (.istore_n 2, 1) := by decide +kernel
theorem dX12_letting_24 : decode cX12_letting 24 = .ok (.iload_n 2, 1) := by decide +kernel
theorem dX12_letting_25 : decode cX12_letting 25 = .ok (.iconst 5, 1) := by decide +kernel
theorem dX12_letting_26 : decode cX12_letting 26 = .ok (.if_icmp .ge 23, 3) := by decide +kernel
theorem dX12_letting_29 : decode cX12_letting 29 = .ok (.aload_n 0, 1) := by decide +kernel
theorem dX12_letting_30 : decode cX12_letting 30 = .ok (.getfield 65, 3) := by decide +kernel
theorem dX12_letting_33 : decode cX12_letting 33 = .ok (.iload_n 2, 1) := by decide +kernel
theorem dX12_letting_34 : decode cX12_letting 34 = .ok (.iaload, 1) := by decide +kernel
theorem dX12_letting_35 : decode cX12_letting 35 = .ok (.sipush 300, 3) := by decide +kernel
theorem dX12_letting_38 : decode cX12_letting 38 = .ok (.if_icmp .le 5, 3) := by decide +kernel
theorem dX12_letting_41 : decode cX12_letting 41 = .ok (.iconst 0, 1) := by decide +kernel
theorem dX12_letting_42 : decode cX12_letting 42 = .ok (.ireturn, 1) := by decide +kernel
theorem dX12_letting_43 : decode cX12_letting 43 = .ok (.iinc 2 1, 3) := by decide +kernel
theorem dX12_letting_46 : decode cX12_letting 46 = .ok (.goto (-22), 3) := by decide +kernel
theorem dX12_letting_49 : decode cX12_letting 49 = .ok (.iconst 1, 1) := by decide +kernel
theorem dX12_letting_50 : decode cX12_letting 50 = .ok (.istore_n 2, 1) := by decide +kernel
theorem dX12_letting_51 : decode cX12_letting 51 = .ok (.iload_n 2, 1) := by decide +kernel
theorem dX12_letting_52 : decode cX12_letting 52 = .ok (.iconst 5, 1) := by decide +kernel
theorem dX12_letting_53 : decode cX12_letting 53 = .ok (.if_icmp .ge 32, 3) := by decide +kernel
theorem dX12_letting_56 : decode cX12_letting 56 = .ok (.aload_n 0, 1) := by decide +kernel
theorem dX12_letting_57 : decode cX12_letting 57 = .ok (.getfield 22, 3) := by decide +kernel
theorem dX12_letting_60 : decode cX12_letting 60 = .ok (.iconst 4, 1) := by decide +kernel
theorem dX12_letting_61 : decode cX12_letting 61 = .ok (.aload_n 0, 1) := by decide +kernel
theorem dX12_letting_62 : decode cX12_letting 62 = .ok (.getfield 65, 3) := by decide +kernel
theorem dX12_letting_65 : decode cX12_letting 65 = .ok (.iconst 0, 1) := by decide +kernel
theorem dX12_letting_66 : decode cX12_letting 66 = .ok (.iaload, 1) := by decide +kernel
theorem dX12_letting_67 : decode cX12_letting 67 = .ok (.imul, 1) := by decide +kernel
theorem dX12_letting_68 : decode cX12_letting 68 = .ok (.iload_n 2, 1) := by decide +kernel
theorem dX12_letting_69 : decode cX12_letting 69 = .ok (.iadd, 1) := by decide +kernel
theorem dX12_letting_70 : decode cX12_letting 70 = .ok (.iconst 1, 1) := by decide +kernel
theorem dX12_letting_71 : decode cX12_letting 71 = .ok (.isub, 1) := by decide +kernel
theorem dX12_letting_72 : decode cX12_letting 72 = .ok (.aload_n 0, 1) := by decide +kernel
theorem dX12_letting_73 : decode cX12_letting 73 = .ok (.getfield 65, 3) := by decide +kernel
theorem dX12_letting_76 : decode cX12_letting 76 = .ok (.iload_n 2, 1) := by decide +kernel
theorem dX12_letting_77 : decode cX12_letting 77 = .ok (.iaload, 1) := by decide +kernel
theorem dX12_letting_78 : decode cX12_letting 78 = .ok (.iastore, 1) := by decide +kernel
theorem dX12_letting_79 : decode cX12_letting 79 = .ok (.iinc 2 1, 3) := by decide +kernel
theorem dX12_letting_82 : decode cX12_letting 82 = .ok (.goto (-31), 3) := by decide +kernel
theorem dX12_letting_85 : decode cX12_letting 85 = .ok (.iconst 1, 1) := by decide +kernel
theorem dX12_letting_86 : decode cX12_letting 86 = .ok (.ireturn, 1) := by decide +kernel
section W_X12_letting
variable {p : Program} {l : Launch} {e : Env} {s : State} {m : MethodId} {args : Array Value} {below : List Frame} {meth : Method} {c : Code} {D : va_G} {cy : Nat → ClassId} {G : Nat × Nat} {n0 : Nat} {Qp : Option PV → Mm → Prop}
set_option maxRecDepth 100000 in
set_option maxHeartbeats 4000000 in
theorem f_X12_letting_51 {o0 : Nat} {x2 : Int} {M : Mm} {Q : Int → Mm → Prop} {K51 : Int × Mm → Prop} (C : Cx p s m args meth c cX12_letting 3 RX12 D cy G n0) (hr : meth.sig.returnType = some .boolean) (h3 : n0 = 243) (hn : M.2.2.2 = n0) (ho0 : o0 < 243 ∧ (SH o0).1 = 12) (hQ : ∀ x M, Q x M → Qp (some (vI x)) M) (hK51 : ∀ (x2 : Int) (M : Mm), K51 (x2, M) → M.2.2.2 = n0 → WW p l e ({ frames := 0, cells := 0, slots := 0, locals := 0 }) s m args below meth c (ZQ below args s D cy G n0 Qp n0) 3 D cy G n0 51 [(0, vR (some o0)), (2, vI x2)] [] M) (h : F_X12_letting_51 o0 Q  K51 x2 M) : WW p l e ({ frames := 0, cells := 0, slots := 0, locals := 0 }) s m args below meth c (ZQ below args s D cy G n0 Qp n0) 3 D cy G n0 51 [(0, vR (some o0)), (2, vI x2)] [] M := by
  unfold F_X12_letting_51 at h
  refine w_iload_n C dX12_letting_51 rfl (mem_k 1 rfl) ?_
  refine w_iconst C dX12_letting_52 ⟨by decide, by decide⟩ ?_
  refine w_icmp_ge (tgt := 85) C dX12_letting_53 (by decide) (fun q => ?_) (fun q => ?_)
  · replace h := h.1 q
    refine w_iconst C dX12_letting_85 ⟨by decide, by decide⟩ ?_
    exact x_zret C hr dX12_letting_86 hn (by decide) (hQ _ M h)
  · replace h := h.2 q
    refine w_aload_n C dX12_letting_56 rfl (mem_k 0 rfl) ?_
    refine x_getR C dX12_letting_57 fw_X12_22 (isO.n (ci := 12) ⟨rfl, ho0⟩ (hn.trans h3)) (fun r1 er1 => ?_)
    replace h := h r1 er1
    refine w_iconst C dX12_letting_60 ⟨by decide, by decide⟩ ?_
    refine w_aload_n C dX12_letting_61 rfl (mem_k 0 rfl) ?_
    refine x_getR C dX12_letting_62 fw_X12_65 (isO.n (ci := 12) ⟨rfl, ho0⟩ (hn.trans h3)) (fun r2 er2 => ?_)
    replace h := h r2 er2
    refine w_iconst C dX12_letting_65 ⟨by decide, by decide⟩ ?_
    obtain ⟨o3, g4, h⟩ := h
    refine x_iald C dX12_letting_66 (isA.n g4 (hn.trans h3)) ?_
    refine w_imul C dX12_letting_67 h.1 ?_
    replace h := h.2
    refine w_iload_n C dX12_letting_68 rfl (mem_k 1 rfl) ?_
    refine w_iadd C dX12_letting_69 h.1 ?_
    replace h := h.2
    refine w_iconst C dX12_letting_70 ⟨by decide, by decide⟩ ?_
    refine w_isub C dX12_letting_71 h.1 ?_
    replace h := h.2
    refine w_aload_n C dX12_letting_72 rfl (mem_k 0 rfl) ?_
    refine x_getR C dX12_letting_73 fw_X12_65 (isO.n (ci := 12) ⟨rfl, ho0⟩ (hn.trans h3)) (fun r5 er5 => ?_)
    replace h := h r5 er5
    refine w_iload_n C dX12_letting_76 rfl (mem_k 1 rfl) ?_
    obtain ⟨o6, g7, h⟩ := h
    refine x_iald C dX12_letting_77 (isA.n g7 (hn.trans h3)) ?_
    obtain ⟨o8, g9, h⟩ := h
    refine x_iast C dX12_letting_78 (isA.n g9 (hn.trans h3)) (fun M10 eM10 hn11 => ?_)
    replace h := h M10 eM10
    replace hn11 := hn11.trans hn
    obtain ⟨v12, ev12⟩ : ∃ z : Int, z = x2 + 1 := ⟨_, rfl⟩
    refine x_iinc (L' := [(2, vI v12), (0, vR (some o0))]) C dX12_letting_79 (mem_k 1 rfl) (by decide) h.1 ev12 rfl ?_
    replace h := h.2 v12 ev12
    refine w_goto (tgt := 51) C dX12_letting_82 (by decide) ?_
    refine x_pc (pc2 := 51) rfl ?_
    refine x_pick (L' := [(0, vR (some o0)), (2, vI v12)]) [1, 0] rfl ?_
    exact hK51 v12 M10 h hn11
set_option maxRecDepth 100000 in
set_option maxHeartbeats 4000000 in
theorem k_X12_letting_51 {o0 : Nat} {x2 : Int} {M : Mm} {Q : Int → Mm → Prop} (C : Cx p s m args meth c cX12_letting 3 RX12 D cy G n0) (hr : meth.sig.returnType = some .boolean) (h3 : n0 = 243) (hn : M.2.2.2 = n0) (ho0 : o0 < 243 ∧ (SH o0).1 = 12) (hQ : ∀ x M, Q x M → Qp (some (vI x)) M) (h : P_X12_letting_51 o0 x2 M Q ) : WW p l e ({ frames := 0, cells := 0, slots := 0, locals := 0 }) s m args below meth c (ZQ below args s D cy G n0 Qp n0) 3 D cy G n0 51 [(0, vR (some o0)), (2, vI x2)] [] M := by
  refine lpW_sound (P := fun y : Int × Mm => y.2.2.2.2 = n0 → WW p l e ({ frames := 0, cells := 0, slots := 0, locals := 0 }) s m args below meth c (ZQ below args s D cy G n0 Qp n0) 3 D cy G n0 51 [(0, vR (some o0)), (2, vI y.1)] [] y.2) ?_ h hn
  intro K y hK hF
  obtain ⟨x2, M⟩ := y
  intro hn
  exact f_X12_letting_51 C hr h3 hn ho0 hQ  (fun x2 M hk => hK (x2, M) hk) hF
set_option maxRecDepth 100000 in
set_option maxHeartbeats 4000000 in
theorem f_X12_letting_24 {o0 : Nat} {x2 : Int} {M : Mm} {Q : Int → Mm → Prop} {K24 : Int → Prop} (C : Cx p s m args meth c cX12_letting 3 RX12 D cy G n0) (hr : meth.sig.returnType = some .boolean) (h3 : n0 = 243) (hn : M.2.2.2 = n0) (ho0 : o0 < 243 ∧ (SH o0).1 = 12) (hQ : ∀ x M, Q x M → Qp (some (vI x)) M) (hK24 : ∀ (x2 : Int), K24 (x2) → WW p l e ({ frames := 0, cells := 0, slots := 0, locals := 0 }) s m args below meth c (ZQ below args s D cy G n0 Qp n0) 3 D cy G n0 24 [(0, vR (some o0)), (2, vI x2)] [] M) (h : F_X12_letting_24 o0 M Q  K24 x2) : WW p l e ({ frames := 0, cells := 0, slots := 0, locals := 0 }) s m args below meth c (ZQ below args s D cy G n0 Qp n0) 3 D cy G n0 24 [(0, vR (some o0)), (2, vI x2)] [] M := by
  unfold F_X12_letting_24 at h
  refine w_iload_n C dX12_letting_24 rfl (mem_k 1 rfl) ?_
  refine w_iconst C dX12_letting_25 ⟨by decide, by decide⟩ ?_
  refine w_icmp_ge (tgt := 49) C dX12_letting_26 (by decide) (fun q => ?_) (fun q => ?_)
  · replace h := h.1 q
    refine w_iconst C dX12_letting_49 ⟨by decide, by decide⟩ ?_
    refine x_istore_n (L' := [(2, vI 1), (0, vR (some o0))]) C dX12_letting_50 rfl (by decide) rfl ?_
    refine x_pc (pc2 := 51) rfl ?_
    refine x_pick (L' := [(0, vR (some o0)), (2, vI 1)]) [1, 0] rfl ?_
    exact k_X12_letting_51 C hr h3 hn ho0 hQ  h
  · replace h := h.2 q
    refine w_aload_n C dX12_letting_29 rfl (mem_k 0 rfl) ?_
    refine x_getR C dX12_letting_30 fw_X12_65 (isO.n (ci := 12) ⟨rfl, ho0⟩ (hn.trans h3)) (fun r13 er13 => ?_)
    replace h := h r13 er13
    refine w_iload_n C dX12_letting_33 rfl (mem_k 1 rfl) ?_
    obtain ⟨o14, g15, h⟩ := h
    refine x_iald C dX12_letting_34 (isA.n g15 (hn.trans h3)) ?_
    refine w_sipush C dX12_letting_35 (by decide) ?_
    refine w_icmp_le (tgt := 43) C dX12_letting_38 (by decide) (fun q => ?_) (fun q => ?_)
    · replace h := h.1 q
      obtain ⟨v16, ev16⟩ : ∃ z : Int, z = x2 + 1 := ⟨_, rfl⟩
      refine x_iinc (L' := [(2, vI v16), (0, vR (some o0))]) C dX12_letting_43 (mem_k 1 rfl) (by decide) h.1 ev16 rfl ?_
      replace h := h.2 v16 ev16
      refine w_goto (tgt := 24) C dX12_letting_46 (by decide) ?_
      refine x_pc (pc2 := 24) rfl ?_
      refine x_pick (L' := [(0, vR (some o0)), (2, vI v16)]) [1, 0] rfl ?_
      exact hK24 v16 h
    · replace h := h.2 q
      refine w_iconst C dX12_letting_41 ⟨by decide, by decide⟩ ?_
      exact x_zret C hr dX12_letting_42 hn (by decide) (hQ _ M h)
set_option maxRecDepth 100000 in
set_option maxHeartbeats 4000000 in
theorem k_X12_letting_24 {o0 : Nat} {x2 : Int} {M : Mm} {Q : Int → Mm → Prop} (C : Cx p s m args meth c cX12_letting 3 RX12 D cy G n0) (hr : meth.sig.returnType = some .boolean) (h3 : n0 = 243) (hn : M.2.2.2 = n0) (ho0 : o0 < 243 ∧ (SH o0).1 = 12) (hQ : ∀ x M, Q x M → Qp (some (vI x)) M) (h : P_X12_letting_24 o0 x2 M Q ) : WW p l e ({ frames := 0, cells := 0, slots := 0, locals := 0 }) s m args below meth c (ZQ below args s D cy G n0 Qp n0) 3 D cy G n0 24 [(0, vR (some o0)), (2, vI x2)] [] M := by
  refine lpW_sound (P := fun y : Int => WW p l e ({ frames := 0, cells := 0, slots := 0, locals := 0 }) s m args below meth c (ZQ below args s D cy G n0 Qp n0) 3 D cy G n0 24 [(0, vR (some o0)), (2, vI y)] [] M) ?_ h
  intro K y hK hF
  exact f_X12_letting_24 C hr h3 hn ho0 hQ  (fun x2 hk => hK x2 hk) hF
set_option maxRecDepth 100000 in
set_option maxHeartbeats 4000000 in
theorem k_X12_letting_0 {o0 : Nat} {x1 : Int} {M : Mm} {Q : Int → Mm → Prop} (C : Cx p s m args meth c cX12_letting 3 RX12 D cy G n0) (hr : meth.sig.returnType = some .boolean) (h3 : n0 = 243) (hn : M.2.2.2 = n0) (ho0 : o0 < 243 ∧ (SH o0).1 = 12) (hQ : ∀ x M, Q x M → Qp (some (vI x)) M) (h : P_X12_letting o0 x1 M Q ) : WW p l e ({ frames := 0, cells := 0, slots := 0, locals := 0 }) s m args below meth c (ZQ below args s D cy G n0 Qp n0) 3 D cy G n0 0 [(0, vR (some o0)), (1, vI x1)] [] M := by
  unfold P_X12_letting at h
  refine w_iload_n C dX12_letting_0 rfl (mem_k 1 rfl) ?_
  refine w_iconst C dX12_letting_1 ⟨by decide, by decide⟩ ?_
  refine w_icmp_ne (tgt := 20) C dX12_letting_2 (by decide) (fun q => ?_) (fun q => ?_)
  · replace h := h.1 q
    refine w_iconst C dX12_letting_20 ⟨by decide, by decide⟩ ?_
    exact x_zret C hr dX12_letting_21 hn (by decide) (hQ _ M h)
  · replace h := h.2 q
    refine w_aload_n C dX12_letting_5 rfl (mem_k 0 rfl) ?_
    refine x_getR C dX12_letting_6 fw_X12_65 (isO.n (ci := 12) ⟨rfl, ho0⟩ (hn.trans h3)) (fun r17 er17 => ?_)
    replace h := h r17 er17
    refine w_iconst C dX12_letting_9 ⟨by decide, by decide⟩ ?_
    obtain ⟨o18, g19, h⟩ := h
    refine x_iald C dX12_letting_10 (isA.n g19 (hn.trans h3)) ?_
    refine w_aload_n C dX12_letting_11 rfl (mem_k 0 rfl) ?_
    refine x_getR C dX12_letting_12 fw_X12_13 (isO.n (ci := 12) ⟨rfl, ho0⟩ (hn.trans h3)) (fun r20 er20 => ?_)
    replace h := h r20 er20
    refine w_iconst C dX12_letting_15 ⟨by decide, by decide⟩ ?_
    obtain ⟨o21, g22, h⟩ := h
    refine x_iald C dX12_letting_16 (isA.n g22 (hn.trans h3)) ?_
    refine w_icmp_lt (tgt := 22) C dX12_letting_17 (by decide) (fun q => ?_) (fun q => ?_)
    · replace h := h.1 q
      refine w_iconst C dX12_letting_22 ⟨by decide, by decide⟩ ?_
      refine x_istore_n (L' := [(2, vI 1), (0, vR (some o0)), (1, vI x1)]) C dX12_letting_23 rfl (by decide) rfl ?_
      refine x_pc (pc2 := 24) rfl ?_
      refine x_pick (L' := [(0, vR (some o0)), (2, vI 1)]) [1, 0] rfl ?_
      exact k_X12_letting_24 C hr h3 hn ho0 hQ  h
    · replace h := h.2 q
      refine w_iconst C dX12_letting_20 ⟨by decide, by decide⟩ ?_
      exact x_zret C hr dX12_letting_21 hn (by decide) (hQ _ M h)
set_option maxRecDepth 100000 in
set_option maxHeartbeats 4000000 in
theorem con_X12_letting (l : Launch) (D : va_G) (cy : Nat → ClassId) : Con l D cy yX12_letting cX12_letting 3 (some .boolean) ({ frames := 0, cells := 0, slots := 0, locals := 0 }) 0 0 SP_X12_letting := by
  refine con_of (by decide) (fun as M Qp h => ?_) ?_
  · obtain ⟨-, o0, x1, rfl, -⟩ := h
    exact Nat.le_of_ble_eq_true rfl
  · intro p e s m args below meth c G as M Qp h C hr hnm
    obtain ⟨hn, o0, x1, rfl, ho1, ho2, Q0, hQ, h⟩ := h
    refine x_pick (L' := [(0, vR (some o0)), (1, vI x1)]) [0, 1] rfl ?_
    exact k_X12_letting_0 C hr hn rfl ⟨ho1, ho2⟩ hQ h
set_option maxRecDepth 100000 in
set_option maxHeartbeats 4000000 in
theorem cl_X12_letting {p : Program} {l : Launch} {e : Env} {R : Room} {s : State} {m : MethodId} {args : Array Value} {below : List Frame} {meth : Method} {c : Code} {Q : State → Prop} {cc : ByteArray} {nL : Nat} {own : String} {D : va_G} {cy : Nat → ClassId} {G : Nat × Nat} {n0 pc : Nat} {L : List (Nat × PV)} {st : List PV} {M : Mm} {op : Instr} (K : CallOK l D cy R own op 0 0 (spV 12 1 SP_X12_letting)) (C : Cx p s m args meth c cc nL own D cy G n0) (hd : decode cc pc = .ok (op, 3)) (hn : M.2.2.2 = n0) (h3 : n0 = 243) (hlen : argN st ≤ 8) {r : Option Nat} {o0 : Nat} (ho : isOn 12 M.2.2.2 r o0) {x1 : Int} {Q0 : Int → Mm → Prop} (h : P_X12_letting o0 x1 M Q0) (k : ∀ x M2, Q0 x M2 → M2.2.2.2 = n0 → WW p l e R s m args below meth c Q nL D cy G n0  (pc + 3) L (vI x :: st) M2) : WW p l e R s m args below meth c Q nL D cy G n0  pc L (vI x1 :: vR r :: st) M := by
  obtain ⟨rfl, ho1, ho2⟩ := ho
  refine x_call0 K C hd (as := [vR (some o0), vI x1]) rfl hn hlen (fun v M2 => ∃ x, v = some (vI x) ∧ Q0 x M2) ⟨⟨o0, [vI x1], rfl, rfl, ho1, ho2⟩, hn.trans h3, o0, x1, rfl, (hn.trans h3) ▸ ho1, ho2, Q0, fun x M2 hx => ⟨x, rfl, hx⟩, h⟩ ?_
  rintro _ _ ⟨x, rfl, hx⟩ hm
  exact k x _ hx hm
end W_X12_letting
theorem dX12_seat_0 : decode cX12_seat 0 = .ok (.iload_n 1, 1) := by decide +kernel
theorem dX12_seat_1 : decode cX12_seat 1 = .ok (.iconst 4, 1) := by decide +kernel
theorem dX12_seat_2 : decode cX12_seat 2 = .ok (.if_icmp .ne 90, 3) := by decide +kernel
theorem dX12_seat_5 : decode cX12_seat 5 = .ok (.aload_n 0, 1) := by decide +kernel
theorem dX12_seat_6 : decode cX12_seat 6 = .ok (.getfield 25, 3) := by decide +kernel
theorem dX12_seat_9 : decode cX12_seat 9 = .ok (.iconst 0, 1) := by decide +kernel
theorem dX12_seat_10 : decode cX12_seat 10 = .ok (.iaload, 1) := by decide +kernel
theorem dX12_seat_11 : decode cX12_seat 11 = .ok (.bipush 6, 2) := by decide +kernel
theorem dX12_seat_13 : decode cX12_seat 13 = .ok (.if_icmp .eq 79, 3) := by decide +kernel
theorem dX12_seat_16 : decode cX12_seat 16 = .ok (.aload_n 0, 1) := by decide +kernel
theorem dX12_seat_17 : decode cX12_seat 17 = .ok (.getfield 65, 3) := by decide +kernel
theorem dX12_seat_20 : decode cX12_seat 20 = .ok (.iconst 0, 1) := by decide +kernel
theorem dX12_seat_21 : decode cX12_seat 21 = .ok (.iaload, 1) := by decide +kernel
theorem dX12_seat_22 : decode cX12_seat 22 = .ok (.i2l, 1) := by decide +kernel
theorem dX12_seat_23 : decode cX12_seat 23 = .ok (.ldc2_w 103, 3) := by decide +kernel
theorem dX12_seat_26 : decode cX12_seat 26 = .ok (.ldc2_w 107, 3) := by decide +kernel
theorem dX12_seat_29 : decode cX12_seat 29 = .ok (.invokestatic 85, 3) := by decide +kernel
theorem dX12_seat_32 : decode cX12_seat 32 = .ok (.ifCond .eq 60, 3) := by decide +kernel
theorem dX12_seat_35 : decode cX12_seat 35 = .ok (.aload_n 0, 1) := by decide +kernel
theorem dX12_seat_36 : decode cX12_seat 36 = .ok (.getfield 65, 3) := by decide +kernel
theorem dX12_seat_39 : decode cX12_seat 39 = .ok (.iconst 1, 1) := by decide +kernel
theorem dX12_seat_40 : decode cX12_seat 40 = .ok (.iaload, 1) := by decide +kernel
theorem dX12_seat_41 : decode cX12_seat 41 = .ok (.i2l, 1) := by decide +kernel
theorem dX12_seat_42 : decode cX12_seat 42 = .ok (.ldc2_w 109, 3) := by decide +kernel
theorem dX12_seat_45 : decode cX12_seat 45 = .ok (.ldc2_w 111, 3) := by decide +kernel
theorem dX12_seat_48 : decode cX12_seat 48 = .ok (.invokestatic 85, 3) := by decide +kernel
theorem dX12_seat_51 : decode cX12_seat 51 = .ok (.ifCond .eq 41, 3) := by decide +kernel
theorem dX12_seat_54 : decode cX12_seat 54 = .ok (.aload_n 0, 1) := by decide +kernel
theorem dX12_seat_55 : decode cX12_seat 55 = .ok (.getfield 65, 3) := by decide +kernel
theorem dX12_seat_58 : decode cX12_seat 58 = .ok (.iconst 2, 1) := by decide +kernel
theorem dX12_seat_59 : decode cX12_seat 59 = .ok (.iaload, 1) := by decide +kernel
theorem dX12_seat_60 : decode cX12_seat 60 = .ok (.i2l, 1) := by decide +kernel
theorem dX12_seat_61 : decode cX12_seat 61 = .ok (.ldc2_w 107, 3) := by decide +kernel
theorem dX12_seat_64 : decode cX12_seat 64 = .ok (.ldc2_w 113, 3) := by decide +kernel
theorem dX12_seat_67 : decode cX12_seat 67 = .ok (.invokestatic 85, 3) := by decide +kernel
theorem dX12_seat_70 : decode cX12_seat 70 = .ok (.ifCond .eq 22, 3) := by decide +kernel
theorem dX12_seat_73 : decode cX12_seat 73 = .ok (.aload_n 0, 1) := by decide +kernel
theorem dX12_seat_74 : decode cX12_seat 74 = .ok (.getfield 65, 3) := by decide +kernel
theorem dX12_seat_77 : decode cX12_seat 77 = .ok (.iconst 3, 1) := by decide +kernel
theorem dX12_seat_78 : decode cX12_seat 78 = .ok (.iaload, 1) := by decide +kernel
theorem dX12_seat_79 : decode cX12_seat 79 = .ok (.i2l, 1) := by decide +kernel
theorem dX12_seat_80 : decode cX12_seat 80 = .ok (.ldc2_w 105, 3) := by decide +kernel
theorem dX12_seat_83 : decode cX12_seat 83 = .ok (.ldc2_w 115, 3) := by decide +kernel
theorem dX12_seat_86 : decode cX12_seat 86 = .ok (.invokestatic 85, 3) := by decide +kernel
theorem dX12_seat_89 : decode cX12_seat 89 = .ok (.ifCond .ne 5, 3) := by decide +kernel
theorem dX12_seat_92 : decode cX12_seat 92 = .ok (.iconst 0, 1) := by decide +kernel
theorem dX12_seat_93 : decode cX12_seat 93 = .ok (.ireturn, 1) := by decide +kernel
theorem dX12_seat_94 : decode cX12_seat 94 = .ok (.iconst 0, 1) := by decide +kernel
theorem dX12_seat_95 : decode cX12_seat 95 = .ok (.istore_n 2, 1) := by decide +kernel
theorem dX12_seat_96 : decode cX12_seat 96 = .ok (.iload_n 2, 1) := by decide +kernel
theorem dX12_seat_97 : decode cX12_seat 97 = .ok (.iconst 4, 1) := by decide +kernel
theorem dX12_seat_98 : decode cX12_seat 98 = .ok (.if_icmp .ge 30, 3) := by decide +kernel
theorem dX12_seat_101 : decode cX12_seat 101 = .ok (.aload_n 0, 1) := by decide +kernel
theorem dX12_seat_102 : decode cX12_seat 102 = .ok (.getfield 28, 3) := by decide +kernel
theorem dX12_seat_105 : decode cX12_seat 105 = .ok (.iconst 4, 1) := by decide +kernel
theorem dX12_seat_106 : decode cX12_seat 106 = .ok (.aload_n 0, 1) := by decide +kernel
theorem dX12_seat_107 : decode cX12_seat 107 = .ok (.getfield 25, 3) := by decide +kernel
theorem dX12_seat_110 : decode cX12_seat 110 = .ok (.iconst 0, 1) := by decide +kernel
theorem dX12_seat_111 : decode cX12_seat 111 = .ok (.iaload, 1) := by decide +kernel
theorem dX12_seat_112 : decode cX12_seat 112 = .ok (.imul, 1) := by decide +kernel
theorem dX12_seat_113 : decode cX12_seat 113 = .ok (.iload_n 2, 1) := by decide +kernel
theorem dX12_seat_114 : decode cX12_seat 114 = .ok (.iadd, 1) := by decide +kernel
theorem dX12_seat_115 : decode cX12_seat 115 = .ok (.aload_n 0, 1) := by decide +kernel
theorem dX12_seat_116 : decode cX12_seat 116 = .ok (.getfield 65, 3) := by decide +kernel
theorem dX12_seat_119 : decode cX12_seat 119 = .ok (.iload_n 2, 1) := by decide +kernel
theorem dX12_seat_120 : decode cX12_seat 120 = .ok (.iaload, 1) := by decide +kernel
theorem dX12_seat_121 : decode cX12_seat 121 = .ok (.iastore, 1) := by decide +kernel
theorem dX12_seat_122 : decode cX12_seat 122 = .ok (.iinc 2 1, 3) := by decide +kernel
theorem dX12_seat_125 : decode cX12_seat 125 = .ok (.goto (-29), 3) := by decide +kernel
theorem dX12_seat_128 : decode cX12_seat 128 = .ok (.aload_n 0, 1) := by decide +kernel
theorem dX12_seat_129 : decode cX12_seat 129 = .ok (.getfield 31, 3) := by decide +kernel
theorem dX12_seat_132 : decode cX12_seat 132 = .ok (.aload_n 0, 1) := by decide +kernel
theorem dX12_seat_133 : decode cX12_seat 133 = .ok (.getfield 25, 3) := by decide +kernel
theorem dX12_seat_136 : decode cX12_seat 136 = .ok (.iconst 0, 1) := by decide +kernel
theorem dX12_seat_137 : decode cX12_seat 137 = .ok (.iaload, 1) := by decide +kernel
theorem dX12_seat_138 : decode cX12_seat 138 = .ok (.iconst 0, 1) := by decide +kernel
theorem dX12_seat_139 : decode cX12_seat 139 = .ok (.iastore, 1) := by decide +kernel
theorem dX12_seat_140 : decode cX12_seat 140 = .ok (.aload_n 0, 1) := by decide +kernel
theorem dX12_seat_141 : decode cX12_seat 141 = .ok (.getfield 25, 3) := by decide +kernel
theorem dX12_seat_144 : decode cX12_seat 144 = .ok (.iconst 0, 1) := by decide +kernel
theorem dX12_seat_145 : decode cX12_seat 145 = .ok (.dup2, 1) := by decide +kernel
theorem dX12_seat_146 : decode cX12_seat 146 = .ok (.iaload, 1) := by decide +kernel
theorem dX12_seat_147 : decode cX12_seat 147 = .ok (.iconst 1, 1) := by decide +kernel
theorem dX12_seat_148 : decode cX12_seat 148 = .ok (.iadd, 1) := by decide +kernel
theorem dX12_seat_149 : decode cX12_seat 149 = .ok (.iastore, 1) := by decide +kernel
theorem dX12_seat_150 : decode cX12_seat 150 = .ok (.iconst 1, 1) := by decide +kernel
theorem dX12_seat_151 : decode cX12_seat 151 = .ok (.ireturn, 1) := by decide +kernel
theorem fw_X12_31 : fR RX12 31 12 8 := ⟨⟨lwG_4 (i := 72) rfl rfl, by decide, by decide⟩, fun _ _ => rfl, fun r => ⟨r, rfl⟩⟩
theorem fw_X12_25 : fR RX12 25 12 6 := ⟨⟨lwG_4 (i := 70) rfl rfl, by decide, by decide⟩, fun _ _ => rfl, fun r => ⟨r, rfl⟩⟩
theorem fw_X12_28 : fR RX12 28 12 7 := ⟨⟨lwG_4 (i := 71) rfl rfl, by decide, by decide⟩, fun _ _ => rfl, fun r => ⟨r, rfl⟩⟩
theorem cn_X12_107 : Cond.constantLong RX12 107 (Int64.ofInt 600) ∈ lwG := lwG_4 (i := 197) rfl rfl
theorem cn_X12_109 : Cond.constantLong RX12 109 (Int64.ofInt 300) ∈ lwG := lwG_4 (i := 198) rfl rfl
theorem cn_X12_111 : Cond.constantLong RX12 111 (Int64.ofInt 900) ∈ lwG := lwG_4 (i := 199) rfl rfl
theorem cn_X12_113 : Cond.constantLong RX12 113 (Int64.ofInt 1600) ∈ lwG := lwG_4 (i := 200) rfl rfl
theorem cn_X12_115 : Cond.constantLong RX12 115 (Int64.ofInt 700) ∈ lwG := lwG_4 (i := 201) rfl rfl
section W_X12_seat
variable {p : Program} {l : Launch} {e : Env} {s : State} {m : MethodId} {args : Array Value} {below : List Frame} {meth : Method} {c : Code} {D : va_G} {cy : Nat → ClassId} {G : Nat × Nat} {n0 : Nat} {Qp : Option PV → Mm → Prop}
set_option maxRecDepth 100000 in
set_option maxHeartbeats 4000000 in
theorem f_X12_seat_96 {o0 : Nat} {x2 : Int} {M : Mm} {Q : Int → Mm → Prop} {K96 : Int × Mm → Prop} (C : Cx p s m args meth c cX12_seat 3 RX12 D cy G n0) (hr : meth.sig.returnType = some .boolean) (h3 : n0 = 243) (hn : M.2.2.2 = n0) (ho0 : o0 < 243 ∧ (SH o0).1 = 12) (hQ : ∀ x M, Q x M → Qp (some (vI x)) M) (hK96 : ∀ (x2 : Int) (M : Mm), K96 (x2, M) → M.2.2.2 = n0 → WW p l e ({ frames := 1, cells := 0, slots := 0, locals := 25 }) s m args below meth c (ZQ below args s D cy G n0 Qp n0) 3 D cy G n0 96 [(0, vR (some o0)), (2, vI x2)] [] M) (h : F_X12_seat_96 o0 Q  K96 x2 M) : WW p l e ({ frames := 1, cells := 0, slots := 0, locals := 25 }) s m args below meth c (ZQ below args s D cy G n0 Qp n0) 3 D cy G n0 96 [(0, vR (some o0)), (2, vI x2)] [] M := by
  unfold F_X12_seat_96 at h
  refine w_iload_n C dX12_seat_96 rfl (mem_k 1 rfl) ?_
  refine w_iconst C dX12_seat_97 ⟨by decide, by decide⟩ ?_
  refine w_icmp_ge (tgt := 128) C dX12_seat_98 (by decide) (fun q => ?_) (fun q => ?_)
  · replace h := h.1 q
    refine w_aload_n C dX12_seat_128 rfl (mem_k 0 rfl) ?_
    refine x_getR C dX12_seat_129 fw_X12_31 (isO.n (ci := 12) ⟨rfl, ho0⟩ (hn.trans h3)) (fun r1 er1 => ?_)
    replace h := h r1 er1
    refine w_aload_n C dX12_seat_132 rfl (mem_k 0 rfl) ?_
    refine x_getR C dX12_seat_133 fw_X12_25 (isO.n (ci := 12) ⟨rfl, ho0⟩ (hn.trans h3)) (fun r2 er2 => ?_)
    replace h := h r2 er2
    refine w_iconst C dX12_seat_136 ⟨by decide, by decide⟩ ?_
    obtain ⟨o3, g4, h⟩ := h
    refine x_iald C dX12_seat_137 (isA.n g4 (hn.trans h3)) ?_
    refine w_iconst C dX12_seat_138 ⟨by decide, by decide⟩ ?_
    obtain ⟨o5, g6, h⟩ := h
    refine x_iast C dX12_seat_139 (isA.n g6 (hn.trans h3)) (fun M7 eM7 hn8 => ?_)
    replace h := h M7 eM7
    replace hn8 := hn8.trans hn
    refine w_aload_n C dX12_seat_140 rfl (mem_k 0 rfl) ?_
    refine x_getR C dX12_seat_141 fw_X12_25 (isO.n (ci := 12) ⟨rfl, ho0⟩ (hn8.trans h3)) (fun r9 er9 => ?_)
    replace h := h r9 er9
    refine w_iconst C dX12_seat_144 ⟨by decide, by decide⟩ ?_
    refine w_dup2 C dX12_seat_145 rfl rfl ?_
    obtain ⟨o10, g11, h⟩ := h
    refine x_iald C dX12_seat_146 (isA.n g11 (hn8.trans h3)) ?_
    refine w_iconst C dX12_seat_147 ⟨by decide, by decide⟩ ?_
    refine w_iadd C dX12_seat_148 h.1 ?_
    replace h := h.2
    obtain ⟨o12, g13, h⟩ := h
    refine x_iast C dX12_seat_149 (isA.n g13 (hn8.trans h3)) (fun M14 eM14 hn15 => ?_)
    replace h := h M14 eM14
    replace hn15 := hn15.trans hn8
    refine w_iconst C dX12_seat_150 ⟨by decide, by decide⟩ ?_
    exact x_zret C hr dX12_seat_151 hn15 (by decide) (hQ _ M14 h)
  · replace h := h.2 q
    refine w_aload_n C dX12_seat_101 rfl (mem_k 0 rfl) ?_
    refine x_getR C dX12_seat_102 fw_X12_28 (isO.n (ci := 12) ⟨rfl, ho0⟩ (hn.trans h3)) (fun r16 er16 => ?_)
    replace h := h r16 er16
    refine w_iconst C dX12_seat_105 ⟨by decide, by decide⟩ ?_
    refine w_aload_n C dX12_seat_106 rfl (mem_k 0 rfl) ?_
    refine x_getR C dX12_seat_107 fw_X12_25 (isO.n (ci := 12) ⟨rfl, ho0⟩ (hn.trans h3)) (fun r17 er17 => ?_)
    replace h := h r17 er17
    refine w_iconst C dX12_seat_110 ⟨by decide, by decide⟩ ?_
    obtain ⟨o18, g19, h⟩ := h
    refine x_iald C dX12_seat_111 (isA.n g19 (hn.trans h3)) ?_
    refine w_imul C dX12_seat_112 h.1 ?_
    replace h := h.2
    refine w_iload_n C dX12_seat_113 rfl (mem_k 1 rfl) ?_
    refine w_iadd C dX12_seat_114 h.1 ?_
    replace h := h.2
    refine w_aload_n C dX12_seat_115 rfl (mem_k 0 rfl) ?_
    refine x_getR C dX12_seat_116 fw_X12_65 (isO.n (ci := 12) ⟨rfl, ho0⟩ (hn.trans h3)) (fun r20 er20 => ?_)
    replace h := h r20 er20
    refine w_iload_n C dX12_seat_119 rfl (mem_k 1 rfl) ?_
    obtain ⟨o21, g22, h⟩ := h
    refine x_iald C dX12_seat_120 (isA.n g22 (hn.trans h3)) ?_
    obtain ⟨o23, g24, h⟩ := h
    refine x_iast C dX12_seat_121 (isA.n g24 (hn.trans h3)) (fun M25 eM25 hn26 => ?_)
    replace h := h M25 eM25
    replace hn26 := hn26.trans hn
    obtain ⟨v27, ev27⟩ : ∃ z : Int, z = x2 + 1 := ⟨_, rfl⟩
    refine x_iinc (L' := [(2, vI v27), (0, vR (some o0))]) C dX12_seat_122 (mem_k 1 rfl) (by decide) h.1 ev27 rfl ?_
    replace h := h.2 v27 ev27
    refine w_goto (tgt := 96) C dX12_seat_125 (by decide) ?_
    refine x_pc (pc2 := 96) rfl ?_
    refine x_pick (L' := [(0, vR (some o0)), (2, vI v27)]) [1, 0] rfl ?_
    exact hK96 v27 M25 h hn26
set_option maxRecDepth 100000 in
set_option maxHeartbeats 4000000 in
theorem k_X12_seat_96 {o0 : Nat} {x2 : Int} {M : Mm} {Q : Int → Mm → Prop} (C : Cx p s m args meth c cX12_seat 3 RX12 D cy G n0) (hr : meth.sig.returnType = some .boolean) (h3 : n0 = 243) (hn : M.2.2.2 = n0) (ho0 : o0 < 243 ∧ (SH o0).1 = 12) (hQ : ∀ x M, Q x M → Qp (some (vI x)) M) (h : P_X12_seat_96 o0 x2 M Q ) : WW p l e ({ frames := 1, cells := 0, slots := 0, locals := 25 }) s m args below meth c (ZQ below args s D cy G n0 Qp n0) 3 D cy G n0 96 [(0, vR (some o0)), (2, vI x2)] [] M := by
  refine lpW_sound (P := fun y : Int × Mm => y.2.2.2.2 = n0 → WW p l e ({ frames := 1, cells := 0, slots := 0, locals := 25 }) s m args below meth c (ZQ below args s D cy G n0 Qp n0) 3 D cy G n0 96 [(0, vR (some o0)), (2, vI y.1)] [] y.2) ?_ h hn
  intro K y hK hF
  obtain ⟨x2, M⟩ := y
  intro hn
  exact f_X12_seat_96 C hr h3 hn ho0 hQ  (fun x2 M hk => hK (x2, M) hk) hF
set_option maxRecDepth 100000 in
set_option maxHeartbeats 4000000 in
theorem k_X12_seat_0 {o0 : Nat} {x1 : Int} {M : Mm} {Q : Int → Mm → Prop} (C : Cx p s m args meth c cX12_seat 3 RX12 D cy G n0) (hr : meth.sig.returnType = some .boolean) (h3 : n0 = 243) (hn : M.2.2.2 = n0) (ho0 : o0 < 243 ∧ (SH o0).1 = 12) (hQ : ∀ x M, Q x M → Qp (some (vI x)) M) (h : P_X12_seat o0 x1 M Q ) : WW p l e ({ frames := 1, cells := 0, slots := 0, locals := 25 }) s m args below meth c (ZQ below args s D cy G n0 Qp n0) 3 D cy G n0 0 [(0, vR (some o0)), (1, vI x1)] [] M := by
  unfold P_X12_seat at h
  refine w_iload_n C dX12_seat_0 rfl (mem_k 1 rfl) ?_
  refine w_iconst C dX12_seat_1 ⟨by decide, by decide⟩ ?_
  refine w_icmp_ne (tgt := 92) C dX12_seat_2 (by decide) (fun q => ?_) (fun q => ?_)
  · replace h := h.1 q
    refine w_iconst C dX12_seat_92 ⟨by decide, by decide⟩ ?_
    exact x_zret C hr dX12_seat_93 hn (by decide) (hQ _ M h)
  · replace h := h.2 q
    refine w_aload_n C dX12_seat_5 rfl (mem_k 0 rfl) ?_
    refine x_getR C dX12_seat_6 fw_X12_25 (isO.n (ci := 12) ⟨rfl, ho0⟩ (hn.trans h3)) (fun r28 er28 => ?_)
    replace h := h r28 er28
    refine w_iconst C dX12_seat_9 ⟨by decide, by decide⟩ ?_
    obtain ⟨o29, g30, h⟩ := h
    refine x_iald C dX12_seat_10 (isA.n g30 (hn.trans h3)) ?_
    refine w_bipush C dX12_seat_11 (by decide) ?_
    refine w_icmp_eq (tgt := 92) C dX12_seat_13 (by decide) (fun q => ?_) (fun q => ?_)
    · replace h := h.1 q
      refine w_iconst C dX12_seat_92 ⟨by decide, by decide⟩ ?_
      exact x_zret C hr dX12_seat_93 hn (by decide) (hQ _ M h)
    · replace h := h.2 q
      refine w_aload_n C dX12_seat_16 rfl (mem_k 0 rfl) ?_
      refine x_getR C dX12_seat_17 fw_X12_65 (isO.n (ci := 12) ⟨rfl, ho0⟩ (hn.trans h3)) (fun r31 er31 => ?_)
      replace h := h r31 er31
      refine w_iconst C dX12_seat_20 ⟨by decide, by decide⟩ ?_
      obtain ⟨o32, g33, h⟩ := h
      refine x_iald C dX12_seat_21 (isA.n g33 (hn.trans h3)) ?_
      refine w_i2l C dX12_seat_22 ?_
      refine w_ldc2 (x := 100) C dX12_seat_23 cn_X12_103 ⟨by decide, by decide⟩ ?_
      refine w_ldc2 (x := 600) C dX12_seat_26 cn_X12_107 ⟨by decide, by decide⟩ ?_
      refine cl_X12_in (ck_X12_85 ⟨by decide, by decide⟩) C dX12_seat_29 hn h3 (Nat.le_of_ble_eq_true rfl) h (fun v34 h => ?_)
      refine w_if_eq (tgt := 92) C dX12_seat_32 (by decide) (fun q => ?_) (fun q => ?_)
      · replace h := h.1 q
        refine w_iconst C dX12_seat_92 ⟨by decide, by decide⟩ ?_
        exact x_zret C hr dX12_seat_93 hn (by decide) (hQ _ M h)
      · replace h := h.2 q
        refine w_aload_n C dX12_seat_35 rfl (mem_k 0 rfl) ?_
        refine x_getR C dX12_seat_36 fw_X12_65 (isO.n (ci := 12) ⟨rfl, ho0⟩ (hn.trans h3)) (fun r35 er35 => ?_)
        replace h := h r35 er35
        refine w_iconst C dX12_seat_39 ⟨by decide, by decide⟩ ?_
        obtain ⟨o36, g37, h⟩ := h
        refine x_iald C dX12_seat_40 (isA.n g37 (hn.trans h3)) ?_
        refine w_i2l C dX12_seat_41 ?_
        refine w_ldc2 (x := 300) C dX12_seat_42 cn_X12_109 ⟨by decide, by decide⟩ ?_
        refine w_ldc2 (x := 900) C dX12_seat_45 cn_X12_111 ⟨by decide, by decide⟩ ?_
        refine cl_X12_in (ck_X12_85 ⟨by decide, by decide⟩) C dX12_seat_48 hn h3 (Nat.le_of_ble_eq_true rfl) h (fun v38 h => ?_)
        refine w_if_eq (tgt := 92) C dX12_seat_51 (by decide) (fun q => ?_) (fun q => ?_)
        · replace h := h.1 q
          refine w_iconst C dX12_seat_92 ⟨by decide, by decide⟩ ?_
          exact x_zret C hr dX12_seat_93 hn (by decide) (hQ _ M h)
        · replace h := h.2 q
          refine w_aload_n C dX12_seat_54 rfl (mem_k 0 rfl) ?_
          refine x_getR C dX12_seat_55 fw_X12_65 (isO.n (ci := 12) ⟨rfl, ho0⟩ (hn.trans h3)) (fun r39 er39 => ?_)
          replace h := h r39 er39
          refine w_iconst C dX12_seat_58 ⟨by decide, by decide⟩ ?_
          obtain ⟨o40, g41, h⟩ := h
          refine x_iald C dX12_seat_59 (isA.n g41 (hn.trans h3)) ?_
          refine w_i2l C dX12_seat_60 ?_
          refine w_ldc2 (x := 600) C dX12_seat_61 cn_X12_107 ⟨by decide, by decide⟩ ?_
          refine w_ldc2 (x := 1600) C dX12_seat_64 cn_X12_113 ⟨by decide, by decide⟩ ?_
          refine cl_X12_in (ck_X12_85 ⟨by decide, by decide⟩) C dX12_seat_67 hn h3 (Nat.le_of_ble_eq_true rfl) h (fun v42 h => ?_)
          refine w_if_eq (tgt := 92) C dX12_seat_70 (by decide) (fun q => ?_) (fun q => ?_)
          · replace h := h.1 q
            refine w_iconst C dX12_seat_92 ⟨by decide, by decide⟩ ?_
            exact x_zret C hr dX12_seat_93 hn (by decide) (hQ _ M h)
          · replace h := h.2 q
            refine w_aload_n C dX12_seat_73 rfl (mem_k 0 rfl) ?_
            refine x_getR C dX12_seat_74 fw_X12_65 (isO.n (ci := 12) ⟨rfl, ho0⟩ (hn.trans h3)) (fun r43 er43 => ?_)
            replace h := h r43 er43
            refine w_iconst C dX12_seat_77 ⟨by decide, by decide⟩ ?_
            obtain ⟨o44, g45, h⟩ := h
            refine x_iald C dX12_seat_78 (isA.n g45 (hn.trans h3)) ?_
            refine w_i2l C dX12_seat_79 ?_
            refine w_ldc2 (x := 200) C dX12_seat_80 cn_X12_105 ⟨by decide, by decide⟩ ?_
            refine w_ldc2 (x := 700) C dX12_seat_83 cn_X12_115 ⟨by decide, by decide⟩ ?_
            refine cl_X12_in (ck_X12_85 ⟨by decide, by decide⟩) C dX12_seat_86 hn h3 (Nat.le_of_ble_eq_true rfl) h (fun v46 h => ?_)
            refine w_if_ne (tgt := 94) C dX12_seat_89 (by decide) (fun q => ?_) (fun q => ?_)
            · replace h := h.1 q
              refine w_iconst C dX12_seat_94 ⟨by decide, by decide⟩ ?_
              refine x_istore_n (L' := [(2, vI 0), (0, vR (some o0)), (1, vI x1)]) C dX12_seat_95 rfl (by decide) rfl ?_
              refine x_pc (pc2 := 96) rfl ?_
              refine x_pick (L' := [(0, vR (some o0)), (2, vI 0)]) [1, 0] rfl ?_
              exact k_X12_seat_96 C hr h3 hn ho0 hQ  h
            · replace h := h.2 q
              refine w_iconst C dX12_seat_92 ⟨by decide, by decide⟩ ?_
              exact x_zret C hr dX12_seat_93 hn (by decide) (hQ _ M h)
set_option maxRecDepth 100000 in
set_option maxHeartbeats 4000000 in
theorem con_X12_seat (l : Launch) (D : va_G) (cy : Nat → ClassId) : Con l D cy yX12_seat cX12_seat 3 (some .boolean) ({ frames := 1, cells := 0, slots := 0, locals := 25 }) 0 0 SP_X12_seat := by
  refine con_of (by decide) (fun as M Qp h => ?_) ?_
  · obtain ⟨-, o0, x1, rfl, -⟩ := h
    exact Nat.le_of_ble_eq_true rfl
  · intro p e s m args below meth c G as M Qp h C hr hnm
    obtain ⟨hn, o0, x1, rfl, ho1, ho2, Q0, hQ, h⟩ := h
    refine x_pick (L' := [(0, vR (some o0)), (1, vI x1)]) [0, 1] rfl ?_
    exact k_X12_seat_0 C hr hn rfl ⟨ho1, ho2⟩ hQ h
set_option maxRecDepth 100000 in
set_option maxHeartbeats 4000000 in
theorem cl_X12_seat {p : Program} {l : Launch} {e : Env} {R : Room} {s : State} {m : MethodId} {args : Array Value} {below : List Frame} {meth : Method} {c : Code} {Q : State → Prop} {cc : ByteArray} {nL : Nat} {own : String} {D : va_G} {cy : Nat → ClassId} {G : Nat × Nat} {n0 pc : Nat} {L : List (Nat × PV)} {st : List PV} {M : Mm} {op : Instr} (K : CallOK l D cy R own op 0 0 (spV 12 1 SP_X12_seat)) (C : Cx p s m args meth c cc nL own D cy G n0) (hd : decode cc pc = .ok (op, 3)) (hn : M.2.2.2 = n0) (h3 : n0 = 243) (hlen : argN st ≤ 8) {r : Option Nat} {o0 : Nat} (ho : isOn 12 M.2.2.2 r o0) {x1 : Int} {Q0 : Int → Mm → Prop} (h : P_X12_seat o0 x1 M Q0) (k : ∀ x M2, Q0 x M2 → M2.2.2.2 = n0 → WW p l e R s m args below meth c Q nL D cy G n0  (pc + 3) L (vI x :: st) M2) : WW p l e R s m args below meth c Q nL D cy G n0  pc L (vI x1 :: vR r :: st) M := by
  obtain ⟨rfl, ho1, ho2⟩ := ho
  refine x_call0 K C hd (as := [vR (some o0), vI x1]) rfl hn hlen (fun v M2 => ∃ x, v = some (vI x) ∧ Q0 x M2) ⟨⟨o0, [vI x1], rfl, rfl, ho1, ho2⟩, hn.trans h3, o0, x1, rfl, (hn.trans h3) ▸ ho1, ho2, Q0, fun x M2 hx => ⟨x, rfl, hx⟩, h⟩ ?_
  rintro _ _ ⟨x, rfl, hx⟩ hm
  exact k x _ hx hm
end W_X12_seat
