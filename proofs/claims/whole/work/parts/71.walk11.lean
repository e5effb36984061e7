/-! model: pure predicates, decode rows, walks, contracts; by program (wip/gen/walk.py) -/
theorem dX12_law_0 : decode cX12_law 0 = .ok (.iload_n 1, 1) := by decide +kernel
theorem dX12_law_1 : decode cX12_law 1 = .ok (.i2l, 1) := by decide +kernel
theorem dX12_law_2 : decode cX12_law 2 = .ok (.lconst 0, 1) := by decide +kernel
theorem dX12_law_3 : decode cX12_law 3 = .ok (.lconst 1, 1) := by decide +kernel
theorem dX12_law_4 : decode cX12_law 4 = .ok (.invokestatic 85, 3) := by decide +kernel
theorem dX12_law_7 : decode cX12_law 7 = .ok (.ifCond .eq 25, 3) := by decide +kernel
theorem dX12_law_10 : decode cX12_law 10 = .ok (.iload_n 2, 1) := by decide +kernel
theorem dX12_law_11 : decode cX12_law 11 = .ok (.i2l, 1) := by decide +kernel
theorem dX12_law_12 : decode cX12_law 12 = .ok (.lconst 0, 1) := by decide +kernel
theorem dX12_law_13 : decode cX12_law 13 = .ok (.iload_n 1, 1) := by decide +kernel
theorem dX12_law_14 : decode cX12_law 14 = .ok (.ifCond .ne 9, 3) := by decide +kernel
theorem dX12_law_17 : decode cX12_law 17 = .ok (.ldc2_w 235, 3) := by decide +kernel
theorem dX12_law_20 : decode cX12_law 20 = .ok (.goto 6, 3) := by decide +kernel
theorem dX12_law_23 : decode cX12_law 23 = .ok (.ldc2_w 147, 3) := by decide +kernel
theorem dX12_law_26 : decode cX12_law 26 = .ok (.invokestatic 85, 3) := by decide +kernel
theorem dX12_law_29 : decode cX12_law 29 = .ok (.ifCond .ne 5, 3) := by decide +kernel
theorem dX12_law_32 : decode cX12_law 32 = .ok (.iconst (-1), 1) := by decide +kernel
theorem dX12_law_33 : decode cX12_law 33 = .ok (.ireturn, 1) := by decide +kernel
theorem dX12_law_34 : decode cX12_law 34 = .ok (.iload_n 1, 1) := by decide +kernel
theorem dX12_law_35 : decode cX12_law 35 = .ok (.ifCond .ne 10, 3) := by decide +kernel
theorem dX12_law_38 : decode cX12_law 38 = .ok (.aload_n 0, 1) := by decide +kernel
theorem dX12_law_39 : decode cX12_law 39 = .ok (.getfield 56, 3) := by decide +kernel
theorem dX12_law_42 : decode cX12_law 42 = .ok (.goto 7, 3) := by decide +kernel
theorem dX12_law_45 : decode cX12_law 45 = .ok (.aload_n 0, 1) := by decide +kernel
theorem dX12_law_46 : decode cX12_law 46 = .ok (.getfield 59, 3) := by decide +kernel
theorem dX12_law_49 : decode cX12_law 49 = .ok (.istore_n 3, 1) := by decide +kernel
theorem dX12_law_50 : decode cX12_law 50 = .ok (.iload_n 1, 1) := by decide +kernel
theorem dX12_law_51 : decode cX12_law 51 = .ok (.ifCond .ne 11, 3) := by decide +kernel
theorem dX12_law_54 : decode cX12_law 54 = .ok (.aload_n 0, 1) := by decide +kernel
theorem dX12_law_55 : decode cX12_law 55 = .ok (.iload_n 2, 1) := by decide +kernel
theorem dX12_law_56 : decode cX12_law 56 = .ok (.putfield 56, 3) := by decide +kernel
theorem dX12_law_59 : decode cX12_law 59 = .ok (.goto 8, 3) := by decide +kernel
theorem dX12_law_62 : decode cX12_law 62 = .ok (.aload_n 0, 1) := by decide +kernel
theorem dX12_law_63 : decode cX12_law 63 = .ok (.iload_n 2, 1) := by decide +kernel
theorem dX12_law_64 : decode cX12_law 64 = .ok (.putfield 59, 3) := by decide +kernel
theorem dX12_law_67 : decode cX12_law 67 = .ok (.iload_n 3, 1) := by decide +kernel
theorem dX12_law_68 : decode cX12_law 68 = .ok (.ireturn, 1) := by decide +kernel
theorem fw_X12_59 : fI RX12 59 12 19 := ⟨⟨lwG_4 (i := 83) rfl rfl, by decide, by decide⟩, rfl⟩
theorem fw_X12_56 : fI RX12 56 12 18 := ⟨⟨lwG_4 (i := 82) rfl rfl, by decide, by decide⟩, rfl⟩
theorem cn_X12_235 : Cond.constantLong RX12 235 (Int64.ofInt 20000) ∈ lwG := lwG_5 (i := 106) rfl rfl
section W_X12_law
variable {p : Program} {l : Launch} {e : Env} {s : State} {m : MethodId} {args : Array Value} {below : List Frame} {meth : Method} {c : Code} {D : va_G} {cy : Nat → ClassId} {G : Nat × Nat} {n0 : Nat} {Qp : Option PV → Mm → Prop}
set_option maxRecDepth 100000 in
set_option maxHeartbeats 4000000 in
theorem k_X12_law_49 {o0 : Nat} {x1 : Int} {x2 : Int} {s0 : Int} {M : Mm} {Q : Int → Mm → Prop} (C : Cx p s m args meth c cX12_law 4 RX12 D cy G n0) (hr : meth.sig.returnType = some .int) (h3 : n0 = 243) (hn : M.2.2.2 = n0) (ho0 : o0 < 243 ∧ (SH o0).1 = 12) (hQ : ∀ x M, Q x M → Qp (some (vI x)) M) (h : P_X12_law_49 o0 x1 x2 s0 M Q ) : WW p l e ({ frames := 1, cells := 0, slots := 0, locals := 25 }) s m args below meth c (ZQ below args s D cy G n0 Qp n0) 4 D cy G n0 49 [(0, vR (some o0)), (1, vI x1), (2, vI x2)] [vI s0] M := by
  unfold P_X12_law_49 at h
  refine x_istore_n (L' := [(3, vI s0), (0, vR (some o0)), (1, vI x1), (2, vI x2)]) C dX12_law_49 rfl (by decide) rfl ?_
  refine w_iload_n C dX12_law_50 rfl (mem_k 2 rfl) ?_
  refine w_if_ne (tgt := 62) C dX12_law_51 (by decide) (fun q => ?_) (fun q => ?_)
  · replace h := h.1 q
    refine w_aload_n C dX12_law_62 rfl (mem_k 1 rfl) ?_
    refine w_iload_n C dX12_law_63 rfl (mem_k 3 rfl) ?_
    refine x_putI C dX12_law_64 fw_X12_59 (isO.n (ci := 12) ⟨rfl, ho0⟩ (hn.trans h3)) (Or.inl rfl) (fun M1 eM1 hn2 => ?_)
    replace h := h M1 eM1
    replace hn2 := hn2.trans hn
    refine w_iload_n C dX12_law_67 rfl (mem_k 0 rfl) ?_
    exact x_iret C hr dX12_law_68 hn2 (hQ _ M1 h)
  · replace h := h.2 q
    refine w_aload_n C dX12_law_54 rfl (mem_k 1 rfl) ?_
    refine w_iload_n C dX12_law_55 rfl (mem_k 3 rfl) ?_
    refine x_putI C dX12_law_56 fw_X12_56 (isO.n (ci := 12) ⟨rfl, ho0⟩ (hn.trans h3)) (Or.inl rfl) (fun M3 eM3 hn4 => ?_)
    replace h := h M3 eM3
    replace hn4 := hn4.trans hn
    refine w_goto (tgt := 67) C dX12_law_59 (by decide) ?_
    refine w_iload_n C dX12_law_67 rfl (mem_k 0 rfl) ?_
    exact x_iret C hr dX12_law_68 hn4 (hQ _ M3 h)
set_option maxRecDepth 100000 in
set_option maxHeartbeats 4000000 in
theorem k_X12_law_26 {o0 : Nat} {x1 : Int} {x2 : Int} {s0 : Int} {s1 : Int} {s2 : Int} {M : Mm} {Q : Int → Mm → Prop} (C : Cx p s m args meth c cX12_law 4 RX12 D cy G n0) (hr : meth.sig.returnType = some .int) (h3 : n0 = 243) (hn : M.2.2.2 = n0) (ho0 : o0 < 243 ∧ (SH o0).1 = 12) (hQ : ∀ x M, Q x M → Qp (some (vI x)) M) (h : P_X12_law_26 o0 x1 x2 s0 s1 s2 M Q ) : WW p l e ({ frames := 1, cells := 0, slots := 0, locals := 25 }) s m args below meth c (ZQ below args s D cy G n0 Qp n0) 4 D cy G n0 26 [(0, vR (some o0)), (1, vI x1), (2, vI x2)] [vL s2, vL s1, vL s0] M := by
  unfold P_X12_law_26 at h
  refine cl_X12_in (ck_X12_85 ⟨by decide, by decide⟩) C dX12_law_26 hn h3 (Nat.le_of_ble_eq_true rfl) h (fun v5 h => ?_)
  refine w_if_ne (tgt := 34) C dX12_law_29 (by decide) (fun q => ?_) (fun q => ?_)
  · replace h := h.1 q
    refine w_iload_n C dX12_law_34 rfl (mem_k 1 rfl) ?_
    refine w_if_ne (tgt := 45) C dX12_law_35 (by decide) (fun q => ?_) (fun q => ?_)
    · replace h := h.1 q
      refine w_aload_n C dX12_law_45 rfl (mem_k 0 rfl) ?_
      refine x_getI C dX12_law_46 fw_X12_59 (isO.n (ci := 12) ⟨rfl, ho0⟩ (hn.trans h3)) ?_
      refine x_pc (pc2 := 49) rfl ?_
      refine x_pick (L' := [(0, vR (some o0)), (1, vI x1), (2, vI x2)]) [0, 1, 2] rfl ?_
      exact k_X12_law_49 C hr h3 hn ho0 hQ  h
    · replace h := h.2 q
      refine w_aload_n C dX12_law_38 rfl (mem_k 0 rfl) ?_
      refine x_getI C dX12_law_39 fw_X12_56 (isO.n (ci := 12) ⟨rfl, ho0⟩ (hn.trans h3)) ?_
      refine w_goto (tgt := 49) C dX12_law_42 (by decide) ?_
      refine x_pc (pc2 := 49) rfl ?_
      refine x_pick (L' := [(0, vR (some o0)), (1, vI x1), (2, vI x2)]) [0, 1, 2] rfl ?_
      exact k_X12_law_49 C hr h3 hn ho0 hQ  h
  · replace h := h.2 q
    refine w_iconst C dX12_law_32 ⟨by decide, by decide⟩ ?_
    exact x_iret C hr dX12_law_33 hn (hQ _ M h)
set_option maxRecDepth 100000 in
set_option maxHeartbeats 4000000 in
theorem k_X12_law_0 {o0 : Nat} {x1 : Int} {x2 : Int} {M : Mm} {Q : Int → Mm → Prop} (C : Cx p s m args meth c cX12_law 4 RX12 D cy G n0) (hr : meth.sig.returnType = some .int) (h3 : n0 = 243) (hn : M.2.2.2 = n0) (ho0 : o0 < 243 ∧ (SH o0).1 = 12) (hQ : ∀ x M, Q x M → Qp (some (vI x)) M) (h : P_X12_law o0 x1 x2 M Q ) : WW p l e ({ frames := 1, cells := 0, slots := 0, locals := 25 }) s m args below meth c (ZQ below args s D cy G n0 Qp n0) 4 D cy G n0 0 [(0, vR (some o0)), (1, vI x1), (2, vI x2)] [] M := by
  unfold P_X12_law at h
  refine w_iload_n C dX12_law_0 rfl (mem_k 1 rfl) ?_
  refine w_i2l C dX12_law_1 ?_
  refine w_lconst C dX12_law_2 ?_
  refine w_lconst C dX12_law_3 ?_
  refine cl_X12_in (ck_X12_85 ⟨by decide, by decide⟩) C dX12_law_4 hn h3 (Nat.le_of_ble_eq_true rfl) h (fun v6 h => ?_)
  refine w_if_eq (tgt := 32) C dX12_law_7 (by decide) (fun q => ?_) (fun q => ?_)
  · replace h := h.1 q
    refine w_iconst C dX12_law_32 ⟨by decide, by decide⟩ ?_
    exact x_iret C hr dX12_law_33 hn (hQ _ M h)
  · replace h := h.2 q
    refine w_iload_n C dX12_law_10 rfl (mem_k 2 rfl) ?_
    refine w_i2l C dX12_law_11 ?_
    refine w_lconst C dX12_law_12 ?_
    refine w_iload_n C dX12_law_13 rfl (mem_k 1 rfl) ?_
    refine w_if_ne (tgt := 23) C dX12_law_14 (by decide) (fun q => ?_) (fun q => ?_)
    · replace h := h.1 q
      refine w_ldc2 (x := 1000) C dX12_law_23 cn_X12_147 ⟨by decide, by decide⟩ ?_
      refine x_pc (pc2 := 26) rfl ?_
      refine x_pick (L' := [(0, vR (some o0)), (1, vI x1), (2, vI x2)]) [0, 1, 2] rfl ?_
      exact k_X12_law_26 C hr h3 hn ho0 hQ  h
    · replace h := h.2 q
      refine w_ldc2 (x := 20000) C dX12_law_17 cn_X12_235 ⟨by decide, by decide⟩ ?_
      refine w_goto (tgt := 26) C dX12_law_20 (by decide) ?_
      refine x_pc (pc2 := 26) rfl ?_
      refine x_pick (L' := [(0, vR (some o0)), (1, vI x1), (2, vI x2)]) [0, 1, 2] rfl ?_
      exact k_X12_law_26 C hr h3 hn ho0 hQ  h
set_option maxRecDepth 100000 in
set_option maxHeartbeats 4000000 in
theorem con_X12_law (l : Launch) (D : va_G) (cy : Nat → ClassId) : Con l D cy yX12_law cX12_law 4 (some .int) ({ frames := 1, cells := 0, slots := 0, locals := 25 }) 0 0 SP_X12_law := by
  refine con_of (by decide) (fun as M Qp h => ?_) ?_
  · obtain ⟨-, o0, x1, x2, rfl, -⟩ := h
    exact Nat.le_of_ble_eq_true rfl
  · intro p e s m args below meth c G as M Qp h C hr hnm
    obtain ⟨hn, o0, x1, x2, rfl, ho1, ho2, Q0, hQ, h⟩ := h
    refine x_pick (L' := [(0, vR (some o0)), (1, vI x1), (2, vI x2)]) [0, 1, 2] rfl ?_
    exact k_X12_law_0 C hr hn rfl ⟨ho1, ho2⟩ hQ h
set_option maxRecDepth 100000 in
set_option maxHeartbeats 4000000 in
theorem cl_X12_law {p : Program} {l : Launch} {e : Env} {R : Room} {s : State} {m : MethodId} {args : Array Value} {below : List Frame} {meth : Method} {c : Code} {Q : State → Prop} {cc : ByteArray} {nL : Nat} {own : String} {D : va_G} {cy : Nat → ClassId} {G : Nat × Nat} {n0 pc : Nat} {L : List (Nat × PV)} {st : List PV} {M : Mm} {op : Instr} (K : CallOK l D cy R own op 0 0 (spV 12 2 SP_X12_law)) (C : Cx p s m args meth c cc nL own D cy G n0) (hd : decode cc pc = .ok (op, 3)) (hn : M.2.2.2 = n0) (h3 : n0 = 243) (hlen : argN st ≤ 8) {r : Option Nat} {o0 : Nat} (ho : isOn 12 M.2.2.2 r o0) {x1 : Int} {x2 : Int} {Q0 : Int → Mm → Prop} (h : P_X12_law o0 x1 x2 M Q0) (k : ∀ x M2, Q0 x M2 → M2.2.2.2 = n0 → WW p l e R s m args below meth c Q nL D cy G n0  (pc + 3) L (vI x :: st) M2) : WW p l e R s m args below meth c Q nL D cy G n0  pc L (vI x2 :: vI x1 :: vR r :: st) M := by
  obtain ⟨rfl, ho1, ho2⟩ := ho
  refine x_call0 K C hd (as := [vR (some o0), vI x1, vI x2]) rfl hn hlen (fun v M2 => ∃ x, v = some (vI x) ∧ Q0 x M2) ⟨⟨o0, [vI x1, vI x2], rfl, rfl, ho1, ho2⟩, hn.trans h3, o0, x1, x2, rfl, (hn.trans h3) ▸ ho1, ho2, Q0, fun x M2 hx => ⟨x, rfl, hx⟩, h⟩ ?_
  rintro _ _ ⟨x, rfl, hx⟩ hm
  exact k x _ hx hm
end W_X12_law
theorem dX12_hurts_0 : decode cX12_hurts 0 = .ok (.aload_n 0, 1) := by decide +kernel
theorem dX12_hurts_1 : decode cX12_hurts 1 = .ok (.getfield 68, 3) := by decide +kernel
theorem dX12_hurts_4 : decode cX12_hurts 4 = .ok (.iload_n 1, 1) := by decide +kernel
theorem dX12_hurts_5 : decode cX12_hurts 5 = .ok (.iaload, 1) := by decide +kernel
theorem dX12_hurts_6 : decode cX12_hurts 6 = .ok (.aload_n 0, 1) := by decide +kernel
theorem dX12_hurts_7 : decode cX12_hurts 7 = .ok (.getfield 56, 3) := by decide +kernel
theorem dX12_hurts_10 : decode cX12_hurts 10 = .ok (.if_icmp .le 17, 3) := by decide +kernel
theorem dX12_hurts_13 : decode cX12_hurts 13 = .ok (.aload_n 0, 1) := by decide +kernel
theorem dX12_hurts_14 : decode cX12_hurts 14 = .ok (.getfield 68, 3) := by decide +kernel
theorem dX12_hurts_17 : decode cX12_hurts 17 = .ok (.iload_n 1, 1) := by decide +kernel
theorem dX12_hurts_18 : decode cX12_hurts 18 = .ok (.iaload, 1) := by decide +kernel
theorem dX12_hurts_19 : decode cX12_hurts 19 = .ok (.aload_n 0, 1) := by decide +kernel
theorem dX12_hurts_20 : decode cX12_hurts 20 = .ok (.getfield 56, 3) := by decide +kernel
theorem dX12_hurts_23 : decode cX12_hurts 23 = .ok (.isub, 1) := by decide +kernel
theorem dX12_hurts_24 : decode cX12_hurts 24 = .ok (.goto 4, 3) := by decide +kernel
theorem dX12_hurts_27 : decode cX12_hurts 27 = .ok (.iconst 0, 1) := by decide +kernel
theorem dX12_hurts_28 : decode cX12_hurts 28 = .ok (.ireturn, 1) := by decide +kernel
section W_X12_hurts
variable {p : Program} {l : Launch} {e : Env} {s : State} {m : MethodId} {args : Array Value} {below : List Frame} {meth : Method} {c : Code} {D : va_G} {cy : Nat → ClassId} {G : Nat × Nat} {n0 : Nat} {Qp : Option PV → Mm → Prop}
set_option maxRecDepth 100000 in
set_option maxHeartbeats 4000000 in
theorem k_X12_hurts_0 {o0 : Nat} {x1 : Int} {M : Mm} {Q : Int → Prop} (C : Cx p s m args meth c cX12_hurts 2 RX12 D cy G n0) (hr : meth.sig.returnType = some .int) (h3 : n0 = 243) (hn : M.2.2.2 = n0) (ho0 : o0 < 243 ∧ (SH o0).1 = 12) (hQ : ∀ x, Q x → Qp (some (vI x)) M) (h : P_X12_hurts o0 x1 M Q ) : WW p l e ({ frames := 0, cells := 0, slots := 0, locals := 0 }) s m args below meth c (ZQ below args s D cy G n0 Qp n0) 2 D cy G n0 0 [(0, vR (some o0)), (1, vI x1)] [] M := by
  unfold P_X12_hurts at h
  refine w_aload_n C dX12_hurts_0 rfl (mem_k 0 rfl) ?_
  refine x_getR C dX12_hurts_1 fw_X12_68 (isO.n (ci := 12) ⟨rfl, ho0⟩ (hn.trans h3)) (fun r1 er1 => ?_)
  replace h := h r1 er1
  refine w_iload_n C dX12_hurts_4 rfl (mem_k 1 rfl) ?_
  obtain ⟨o2, g3, h⟩ := h
  refine x_iald C dX12_hurts_5 (isA.n g3 (hn.trans h3)) ?_
  refine w_aload_n C dX12_hurts_6 rfl (mem_k 0 rfl) ?_
  refine x_getI C dX12_hurts_7 fw_X12_56 (isO.n (ci := 12) ⟨rfl, ho0⟩ (hn.trans h3)) ?_
  refine w_icmp_le (tgt := 27) C dX12_hurts_10 (by decide) (fun q => ?_) (fun q => ?_)
  · replace h := h.1 q
    refine w_iconst C dX12_hurts_27 ⟨by decide, by decide⟩ ?_
    exact x_iret C hr dX12_hurts_28 hn (hQ _ h)
  · replace h := h.2 q
    refine w_aload_n C dX12_hurts_13 rfl (mem_k 0 rfl) ?_
    refine x_getR C dX12_hurts_14 fw_X12_68 (isO.n (ci := 12) ⟨rfl, ho0⟩ (hn.trans h3)) (fun r4 er4 => ?_)
    replace h := h r4 er4
    refine w_iload_n C dX12_hurts_17 rfl (mem_k 1 rfl) ?_
    obtain ⟨o5, g6, h⟩ := h
    refine x_iald C dX12_hurts_18 (isA.n g6 (hn.trans h3)) ?_
    refine w_aload_n C dX12_hurts_19 rfl (mem_k 0 rfl) ?_
    refine x_getI C dX12_hurts_20 fw_X12_56 (isO.n (ci := 12) ⟨rfl, ho0⟩ (hn.trans h3)) ?_
    refine w_isub C dX12_hurts_23 h.1 ?_
    replace h := h.2
    refine w_goto (tgt := 28) C dX12_hurts_24 (by decide) ?_
    exact x_iret C hr dX12_hurts_28 hn (hQ _ h)
set_option maxRecDepth 100000 in
set_option maxHeartbeats 4000000 in
theorem con_X12_hurts (l : Launch) (D : va_G) (cy : Nat → ClassId) : Con l D cy yX12_hurts cX12_hurts 2 (some .int) ({ frames := 0, cells := 0, slots := 0, locals := 0 }) 0 0 SP_X12_hurts := by
  refine con_of (by decide) (fun as M Qp h => ?_) ?_
  · obtain ⟨-, o0, x1, rfl, -⟩ := h
    exact Nat.le_of_ble_eq_true rfl
  · intro p e s m args below meth c G as M Qp h C hr hnm
    obtain ⟨hn, o0, x1, rfl, ho1, ho2, Q0, hQ, h⟩ := h
    refine x_pick (L' := [(0, vR (some o0)), (1, vI x1)]) [0, 1] rfl ?_
    exact k_X12_hurts_0 C hr hn rfl ⟨ho1, ho2⟩ hQ h
set_option maxRecDepth 100000 in
set_option maxHeartbeats 4000000 in
theorem cl_X12_hurts {p : Program} {l : Launch} {e : Env} {R : Room} {s : State} {m : MethodId} {args : Array Value} {below : List Frame} {meth : Method} {c : Code} {Q : State → Prop} {cc : ByteArray} {nL : Nat} {own : String} {D : va_G} {cy : Nat → ClassId} {G : Nat × Nat} {n0 pc : Nat} {L : List (Nat × PV)} {st : List PV} {M : Mm} {op : Instr} (K : CallOK l D cy R own op 0 0 (spV 12 1 SP_X12_hurts)) (C : Cx p s m args meth c cc nL own D cy G n0) (hd : decode cc pc = .ok (op, 3)) (hn : M.2.2.2 = n0) (h3 : n0 = 243) (hlen : argN st ≤ 8) {r : Option Nat} {o0 : Nat} (ho : isOn 12 M.2.2.2 r o0) {x1 : Int} {Q0 : Int → Prop} (h : P_X12_hurts o0 x1 M Q0) (k : ∀ x, Q0 x → WW p l e R s m args below meth c Q nL D cy G n0  (pc + 3) L (vI x :: st) M) : WW p l e R s m args below meth c Q nL D cy G n0  pc L (vI x1 :: vR r :: st) M := by
  obtain ⟨rfl, ho1, ho2⟩ := ho
  refine x_call0 K C hd (as := [vR (some o0), vI x1]) rfl hn hlen (fun v M2 => ∃ x, v = some (vI x) ∧ M2 = M ∧ Q0 x) ⟨⟨o0, [vI x1], rfl, rfl, ho1, ho2⟩, hn.trans h3, o0, x1, rfl, (hn.trans h3) ▸ ho1, ho2, Q0, fun x hx => ⟨x, rfl, rfl, hx⟩, h⟩ ?_
  rintro _ _ ⟨x, rfl, rfl, hx⟩ hm
  exact k x hx
end W_X12_hurts
theorem dX12_hours_0 : decode cX12_hours 0 = .ok (.aload_n 0, 1) := by decide +kernel
theorem dX12_hours_1 : decode cX12_hours 1 = .ok (.iload_n 1, 1) := by decide +kernel
theorem dX12_hours_2 : decode cX12_hours 2 = .ok (.invokevirtual 155, 3) := by decide +kernel
theorem dX12_hours_5 : decode cX12_hours 5 = .ok (.ifCond .eq 23, 3) := by decide +kernel
theorem dX12_hours_8 : decode cX12_hours 8 = .ok (.aload_n 0, 1) := by decide +kernel
theorem dX12_hours_9 : decode cX12_hours 9 = .ok (.iload_n 2, 1) := by decide +kernel
theorem dX12_hours_10 : decode cX12_hours 10 = .ok (.invokevirtual 152, 3) := by decide +kernel
theorem dX12_hours_13 : decode cX12_hours 13 = .ok (.ifCond .eq 15, 3) := by decide +kernel
theorem dX12_hours_16 : decode cX12_hours 16 = .ok (.iload_n 3, 1) := by decide +kernel
theorem dX12_hours_17 : decode cX12_hours 17 = .ok (.i2l, 1) := by decide +kernel
theorem dX12_hours_18 : decode cX12_hours 18 = .ok (.lconst 1, 1) := by decide +kernel
theorem dX12_hours_19 : decode cX12_hours 19 = .ok (.ldc2_w 237, 3) := by decide +kernel
theorem dX12_hours_22 : decode cX12_hours 22 = .ok (.invokestatic 85, 3) := by decide +kernel
theorem dX12_hours_25 : decode cX12_hours 25 = .ok (.ifCond .ne 5, 3) := by decide +kernel
theorem dX12_hours_28 : decode cX12_hours 28 = .ok (.iconst (-1), 1) := by decide +kernel
theorem dX12_hours_29 : decode cX12_hours 29 = .ok (.ireturn, 1) := by decide +kernel
theorem dX12_hours_30 : decode cX12_hours 30 = .ok (.aload_n 0, 1) := by decide +kernel
theorem dX12_hours_31 : decode cX12_hours 31 = .ok (.iload_n 1, 1) := by decide +kernel
theorem dX12_hours_32 : decode cX12_hours 32 = .ok (.iload_n 2, 1) := by decide +kernel
theorem dX12_hours_33 : decode cX12_hours 33 = .ok (.invokevirtual 209, 3) := by decide +kernel
theorem dX12_hours_36 : decode cX12_hours 36 = .ok (.iconst 1, 1) := by decide +kernel
theorem dX12_hours_37 : decode cX12_hours 37 = .ok (.istore 4, 2) := by decide +kernel
theorem dX12_hours_39 : decode cX12_hours 39 = .ok (.iload 4, 2) := by decide +kernel
theorem dX12_hours_41 : decode cX12_hours 41 = .ok (.bipush 24, 2) := by decide +kernel
theorem dX12_hours_43 : decode cX12_hours 43 = .ok (.if_icmp .gt 48, 3) := by decide +kernel
theorem dX12_hours_46 : decode cX12_hours 46 = .ok (.iconst 0, 1) := by decide +kernel
theorem dX12_hours_47 : decode cX12_hours 47 = .ok (.istore 5, 2) := by decide +kernel
theorem dX12_hours_49 : decode cX12_hours 49 = .ok (.iload 5, 2) := by decide +kernel
theorem dX12_hours_51 : decode cX12_hours 51 = .ok (.aload_n 0, 1) := by decide +kernel
theorem dX12_hours_52 : decode cX12_hours 52 = .ok (.getfield 31, 3) := by decide +kernel
theorem dX12_hours_55 : decode cX12_hours 55 = .ok (.bipush 6, 2) := by decide +kernel
theorem dX12_hours_57 : decode cX12_hours 57 = .ok (.iload_n 2, 1) := by decide +kernel
theorem dX12_hours_58 : decode cX12_hours 58 = .ok (.iadd, 1) := by decide +kernel
theorem dX12_hours_59 : decode cX12_hours 59 = .ok (.iaload, 1) := by decide +kernel
theorem dX12_hours_60 : decode cX12_hours 60 = .ok (.if_icmp .ge 25, 3) := by decide +kernel
theorem dX12_hours_63 : decode cX12_hours 63 = .ok (.iload 4, 2) := by decide +kernel
theorem dX12_hours_65 : decode cX12_hours 65 = .ok (.aload_n 0, 1) := by decide +kernel
theorem dX12_hours_66 : decode cX12_hours 66 = .ok (.iload 5, 2) := by decide +kernel
theorem dX12_hours_68 : decode cX12_hours 68 = .ok (.invokevirtual 239, 3) := by decide +kernel
theorem dX12_hours_71 : decode cX12_hours 71 = .ok (.imul, 1) := by decide +kernel
theorem dX12_hours_72 : decode cX12_hours 72 = .ok (.iload_n 3, 1) := by decide +kernel
theorem dX12_hours_73 : decode cX12_hours 73 = .ok (.if_icmp .lt 6, 3) := by decide +kernel
theorem dX12_hours_76 : decode cX12_hours 76 = .ok (.iload 4, 2) := by decide +kernel
theorem dX12_hours_78 : decode cX12_hours 78 = .ok (.ireturn, 1) := by decide +kernel
theorem dX12_hours_79 : decode cX12_hours 79 = .ok (.iinc 5 1, 3) := by decide +kernel
theorem dX12_hours_82 : decode cX12_hours 82 = .ok (.goto (-33), 3) := by decide +kernel
theorem dX12_hours_85 : decode cX12_hours 85 = .ok (.iinc 4 1, 3) := by decide +kernel
theorem dX12_hours_88 : decode cX12_hours 88 = .ok (.goto (-49), 3) := by decide +kernel
theorem dX12_hours_91 : decode cX12_hours 91 = .ok (.bipush (-4), 2) := by decide +kernel
theorem dX12_hours_93 : decode cX12_hours 93 = .ok (.ireturn, 1) := by decide +kernel
theorem ck_X12_239 {l : Launch} {D : va_G} {cy : Nat → ClassId} {R : Room} (hR : 1 ≤ R.frames ∧ 21 ≤ R.locals) : CallOK l D cy R RX12 (.invokevirtual 239) 0 0 (spV 12 1 SP_X12_hurts) := call_V (ci := 12) (con_X12_hurts l D cy) (lwG_5 (i := 112) rfl rfl) (lwG_5 (i := 114) rfl rfl) (lwG_p (i := 39) rfl rfl) (lwG_1 (i := 13) rfl rfl) (lwG_5 (i := 115) rfl rfl) (by decide) ⟨rfl, by decide, by decide, rfl⟩ ⟨rfl, rfl⟩ hR
theorem cn_X12_237 : Cond.constantLong RX12 237 (Int64.ofInt 100000) ∈ lwG := lwG_5 (i := 111) rfl rfl
section W_X12_hours
variable {p : Program} {l : Launch} {e : Env} {s : State} {m : MethodId} {args : Array Value} {below : List Frame} {meth : Method} {c : Code} {D : va_G} {cy : Nat → ClassId} {G : Nat × Nat} {n0 : Nat} {Qp : Option PV → Mm → Prop}
set_option maxRecDepth 100000 in
set_option maxHeartbeats 4000000 in
theorem f_X12_hours_49 {o0 : Nat} {x2 : Int} {x3 : Int} {x4 : Int} {x5 : Int} {M : Mm} {Q : Int → Mm → Prop} {K39 : Int → Prop} {K49 : Int → Prop} (C : Cx p s m args meth c cX12_hours 6 RX12 D cy G n0) (hr : meth.sig.returnType = some .int) (h3 : n0 = 243) (hn : M.2.2.2 = n0) (ho0 : o0 < 243 ∧ (SH o0).1 = 12) (hQ : ∀ x M, Q x M → Qp (some (vI x)) M) (hK39 : ∀ (x4 : Int), K39 (x4) → WW p l e ({ frames := 4, cells := 0, slots := 0, locals := 115 }) s m args below meth c (ZQ below args s D cy G n0 Qp n0) 6 D cy G n0 39 [(0, vR (some o0)), (2, vI x2), (3, vI x3), (4, vI x4)] [] M) (hK49 : ∀ (x5 : Int), K49 (x5) → WW p l e ({ frames := 4, cells := 0, slots := 0, locals := 115 }) s m args below meth c (ZQ below args s D cy G n0 Qp n0) 6 D cy G n0 49 [(0, vR (some o0)), (2, vI x2), (3, vI x3), (4, vI x4), (5, vI x5)] [] M) (h : F_X12_hours_49 o0 x2 x3 x4 M Q K39 K49 x5) : WW p l e ({ frames := 4, cells := 0, slots := 0, locals := 115 }) s m args below meth c (ZQ below args s D cy G n0 Qp n0) 6 D cy G n0 49 [(0, vR (some o0)), (2, vI x2), (3, vI x3), (4, vI x4), (5, vI x5)] [] M := by
  unfold F_X12_hours_49 at h
  refine w_iload C dX12_hours_49 (mem_k 4 rfl) ?_
  refine w_aload_n C dX12_hours_51 rfl (mem_k 0 rfl) ?_
  refine x_getR C dX12_hours_52 fw_X12_31 (isO.n (ci := 12) ⟨rfl, ho0⟩ (hn.trans h3)) (fun r1 er1 => ?_)
  replace h := h r1 er1
  refine w_bipush C dX12_hours_55 (by decide) ?_
  refine w_iload_n C dX12_hours_57 rfl (mem_k 1 rfl) ?_
  refine w_iadd C dX12_hours_58 h.1 ?_
  replace h := h.2
  obtain ⟨o2, g3, h⟩ := h
  refine x_iald C dX12_hours_59 (isA.n g3 (hn.trans h3)) ?_
  refine w_icmp_ge (tgt := 85) C dX12_hours_60 (by decide) (fun q => ?_) (fun q => ?_)
  · replace h := h.1 q
    obtain ⟨v4, ev4⟩ : ∃ z : Int, z = x4 + 1 := ⟨_, rfl⟩
    refine x_iinc (L' := [(4, vI v4), (0, vR (some o0)), (2, vI x2), (3, vI x3), (5, vI x5)]) C dX12_hours_85 (mem_k 3 rfl) (by decide) h.1 ev4 rfl ?_
    replace h := h.2 v4 ev4
    refine w_goto (tgt := 39) C dX12_hours_88 (by decide) ?_
    refine x_pc (pc2 := 39) rfl ?_
    refine x_pick (L' := [(0, vR (some o0)), (2, vI x2), (3, vI x3), (4, vI v4)]) [1, 2, 3, 0] rfl ?_
    exact hK39 v4 h
  · replace h := h.2 q
    refine w_iload C dX12_hours_63 (mem_k 3 rfl) ?_
    refine w_aload_n C dX12_hours_65 rfl (mem_k 0 rfl) ?_
    refine w_iload C dX12_hours_66 (mem_k 4 rfl) ?_
    refine cl_X12_hurts (ck_X12_239 ⟨by decide, by decide⟩) C dX12_hours_68 hn h3 (Nat.le_of_ble_eq_true rfl) (isO.n (ci := 12) ⟨rfl, ho0⟩ (hn.trans h3)) h (fun v5 h => ?_)
    refine w_imul C dX12_hours_71 h.1 ?_
    replace h := h.2
    refine w_iload_n C dX12_hours_72 rfl (mem_k 2 rfl) ?_
    refine w_icmp_lt (tgt := 79) C dX12_hours_73 (by decide) (fun q => ?_) (fun q => ?_)
    · replace h := h.1 q
      obtain ⟨v6, ev6⟩ : ∃ z : Int, z = x5 + 1 := ⟨_, rfl⟩
      refine x_iinc (L' := [(5, vI v6), (0, vR (some o0)), (2, vI x2), (3, vI x3), (4, vI x4)]) C dX12_hours_79 (mem_k 4 rfl) (by decide) h.1 ev6 rfl ?_
      replace h := h.2 v6 ev6
      refine w_goto (tgt := 49) C dX12_hours_82 (by decide) ?_
      refine x_pc (pc2 := 49) rfl ?_
      refine x_pick (L' := [(0, vR (some o0)), (2, vI x2), (3, vI x3), (4, vI x4), (5, vI v6)]) [1, 2, 3, 4, 0] rfl ?_
      exact hK49 v6 h
    · replace h := h.2 q
      refine w_iload C dX12_hours_76 (mem_k 3 rfl) ?_
      exact x_iret C hr dX12_hours_78 hn (hQ _ M h)
set_option maxRecDepth 100000 in
set_option maxHeartbeats 4000000 in
theorem k_X12_hours_49 {o0 : Nat} {x2 : Int} {x3 : Int} {x4 : Int} {x5 : Int} {M : Mm} {Q : Int → Mm → Prop} {K39 : Int → Prop} (C : Cx p s m args meth c cX12_hours 6 RX12 D cy G n0) (hr : meth.sig.returnType = some .int) (h3 : n0 = 243) (hn : M.2.2.2 = n0) (ho0 : o0 < 243 ∧ (SH o0).1 = 12) (hQ : ∀ x M, Q x M → Qp (some (vI x)) M) (hK39 : ∀ (x4 : Int), K39 (x4) → WW p l e ({ frames := 4, cells := 0, slots := 0, locals := 115 }) s m args below meth c (ZQ below args s D cy G n0 Qp n0) 6 D cy G n0 39 [(0, vR (some o0)), (2, vI x2), (3, vI x3), (4, vI x4)] [] M) (h : P_X12_hours_49 o0 x2 x3 x4 x5 M Q K39) : WW p l e ({ frames := 4, cells := 0, slots := 0, locals := 115 }) s m args below meth c (ZQ below args s D cy G n0 Qp n0) 6 D cy G n0 49 [(0, vR (some o0)), (2, vI x2), (3, vI x3), (4, vI x4), (5, vI x5)] [] M := by
  refine lpW_sound (P := fun y : Int => WW p l e ({ frames := 4, cells := 0, slots := 0, locals := 115 }) s m args below meth c (ZQ below args s D cy G n0 Qp n0) 6 D cy G n0 49 [(0, vR (some o0)), (2, vI x2), (3, vI x3), (4, vI x4), (5, vI y)] [] M) ?_ h
  intro K y hK hF
  exact f_X12_hours_49 C hr h3 hn ho0 hQ hK39 (fun x5 hk => hK x5 hk) hF
set_option maxRecDepth 100000 in
set_option maxHeartbeats 4000000 in
theorem f_X12_hours_39 {o0 : Nat} {x2 : Int} {x3 : Int} {x4 : Int} {M : Mm} {Q : Int → Mm → Prop} {K39 : Int → Prop} (C : Cx p s m args meth c cX12_hours 6 RX12 D cy G n0) (hr : meth.sig.returnType = some .int) (h3 : n0 = 243) (hn : M.2.2.2 = n0) (ho0 : o0 < 243 ∧ (SH o0).1 = 12) (hQ : ∀ x M, Q x M → Qp (some (vI x)) M) (hK39 : ∀ (x4 : Int), K39 (x4) → WW p l e ({ frames := 4, cells := 0, slots := 0, locals := 115 }) s m args below meth c (ZQ below args s D cy G n0 Qp n0) 6 D cy G n0 39 [(0, vR (some o0)), (2, vI x2), (3, vI x3), (4, vI x4)] [] M) (h : F_X12_hours_39 o0 x2 x3 M Q  K39 x4) : WW p l e ({ frames := 4, cells := 0, slots := 0, locals := 115 }) s m args below meth c (ZQ below args s D cy G n0 Qp n0) 6 D cy G n0 39 [(0, vR (some o0)), (2, vI x2), (3, vI x3), (4, vI x4)] [] M := by
  unfold F_X12_hours_39 at h
  refine w_iload C dX12_hours_39 (mem_k 3 rfl) ?_
  refine w_bipush C dX12_hours_41 (by decide) ?_
  refine w_icmp_gt (tgt := 91) C dX12_hours_43 (by decide) (fun q => ?_) (fun q => ?_)
  · replace h := h.1 q
    refine w_bipush C dX12_hours_91 (by decide) ?_
    exact x_iret C hr dX12_hours_93 hn (hQ _ M h)
  · replace h := h.2 q
    refine w_iconst C dX12_hours_46 ⟨by decide, by decide⟩ ?_
    refine x_istore (L' := [(5, vI 0), (0, vR (some o0)), (2, vI x2), (3, vI x3), (4, vI x4)]) C dX12_hours_47 (by decide) rfl ?_
    refine x_pc (pc2 := 49) rfl ?_
    refine x_pick (L' := [(0, vR (some o0)), (2, vI x2), (3, vI x3), (4, vI x4), (5, vI 0)]) [1, 2, 3, 4, 0] rfl ?_
    exact k_X12_hours_49 C hr h3 hn ho0 hQ hK39 h
set_option maxRecDepth 100000 in
set_option maxHeartbeats 4000000 in
theorem k_X12_hours_39 {o0 : Nat} {x2 : Int} {x3 : Int} {x4 : Int} {M : Mm} {Q : Int → Mm → Prop} (C : Cx p s m args meth c cX12_hours 6 RX12 D cy G n0) (hr : meth.sig.returnType = some .int) (h3 : n0 = 243) (hn : M.2.2.2 = n0) (ho0 : o0 < 243 ∧ (SH o0).1 = 12) (hQ : ∀ x M, Q x M → Qp (some (vI x)) M) (h : P_X12_hours_39 o0 x2 x3 x4 M Q ) : WW p l e ({ frames := 4, cells := 0, slots := 0, locals := 115 }) s m args below meth c (ZQ below args s D cy G n0 Qp n0) 6 D cy G n0 39 [(0, vR (some o0)), (2, vI x2), (3, vI x3), (4, vI x4)] [] M := by
  refine lpW_sound (P := fun y : Int => WW p l e ({ frames := 4, cells := 0, slots := 0, locals := 115 }) s m args below meth c (ZQ below args s D cy G n0 Qp n0) 6 D cy G n0 39 [(0, vR (some o0)), (2, vI x2), (3, vI x3), (4, vI y)] [] M) ?_ h
  intro K y hK hF
  exact f_X12_hours_39 C hr h3 hn ho0 hQ  (fun x4 hk => hK x4 hk) hF
set_option maxRecDepth 100000 in
set_option maxHeartbeats 4000000 in
theorem k_X12_hours_0 {o0 : Nat} {x1 : Int} {x2 : Int} {x3 : Int} {M : Mm} {Q : Int → Mm → Prop} (C : Cx p s m args meth c cX12_hours 6 RX12 D cy G n0) (hr : meth.sig.returnType = some .int) (h3 : n0 = 243) (hn : M.2.2.2 = n0) (ho0 : o0 < 243 ∧ (SH o0).1 = 12) (hQ : ∀ x M, Q x M → Qp (some (vI x)) M) (h : P_X12_hours o0 x1 x2 x3 M Q ) : WW p l e ({ frames := 4, cells := 0, slots := 0, locals := 115 }) s m args below meth c (ZQ below args s D cy G n0 Qp n0) 6 D cy G n0 0 [(0, vR (some o0)), (1, vI x1), (2, vI x2), (3, vI x3)] [] M := by
  unfold P_X12_hours at h
  refine w_aload_n C dX12_hours_0 rfl (mem_k 0 rfl) ?_
  refine w_iload_n C dX12_hours_1 rfl (mem_k 1 rfl) ?_
  refine cl_X12_isBody (ck_X12_155 ⟨by decide, by decide⟩) C dX12_hours_2 hn h3 (Nat.le_of_ble_eq_true rfl) (isO.n (ci := 12) ⟨rfl, ho0⟩ (hn.trans h3)) h (fun v7 h => ?_)
  refine w_if_eq (tgt := 28) C dX12_hours_5 (by decide) (fun q => ?_) (fun q => ?_)
  · replace h := h.1 q
    refine w_iconst C dX12_hours_28 ⟨by decide, by decide⟩ ?_
    exact x_iret C hr dX12_hours_29 hn (hQ _ M h)
  · replace h := h.2 q
    refine w_aload_n C dX12_hours_8 rfl (mem_k 0 rfl) ?_
    refine w_iload_n C dX12_hours_9 rfl (mem_k 2 rfl) ?_
    refine cl_X12_isSeat (ck_X12_152 ⟨by decide, by decide⟩) C dX12_hours_10 hn h3 (Nat.le_of_ble_eq_true rfl) (isO.n (ci := 12) ⟨rfl, ho0⟩ (hn.trans h3)) h (fun v8 h => ?_)
    refine w_if_eq (tgt := 28) C dX12_hours_13 (by decide) (fun q => ?_) (fun q => ?_)
    · replace h := h.1 q
      refine w_iconst C dX12_hours_28 ⟨by decide, by decide⟩ ?_
      exact x_iret C hr dX12_hours_29 hn (hQ _ M h)
    · replace h := h.2 q
      refine w_iload_n C dX12_hours_16 rfl (mem_k 3 rfl) ?_
      refine w_i2l C dX12_hours_17 ?_
      refine w_lconst C dX12_hours_18 ?_
      refine w_ldc2 (x := 100000) C dX12_hours_19 cn_X12_237 ⟨by decide, by decide⟩ ?_
      refine cl_X12_in (ck_X12_85 ⟨by decide, by decide⟩) C dX12_hours_22 hn h3 (Nat.le_of_ble_eq_true rfl) h (fun v9 h => ?_)
      refine w_if_ne (tgt := 30) C dX12_hours_25 (by decide) (fun q => ?_) (fun q => ?_)
      · replace h := h.1 q
        refine w_aload_n C dX12_hours_30 rfl (mem_k 0 rfl) ?_
        refine w_iload_n C dX12_hours_31 rfl (mem_k 1 rfl) ?_
        refine w_iload_n C dX12_hours_32 rfl (mem_k 2 rfl) ?_
        refine cl_X12_layPresses (ck_X12_209 ⟨by decide, by decide⟩) C dX12_hours_33 hn h3 (Nat.le_of_ble_eq_true rfl) (isO.n (ci := 12) ⟨rfl, ho0⟩ (hn.trans h3)) h (fun M10 h hn11 => ?_)
        refine w_iconst C dX12_hours_36 ⟨by decide, by decide⟩ ?_
        refine x_istore (L' := [(4, vI 1), (0, vR (some o0)), (1, vI x1), (2, vI x2), (3, vI x3)]) C dX12_hours_37 (by decide) rfl ?_
        refine x_pc (pc2 := 39) rfl ?_
        refine x_pick (L' := [(0, vR (some o0)), (2, vI x2), (3, vI x3), (4, vI 1)]) [1, 3, 4, 0] rfl ?_
        exact k_X12_hours_39 C hr h3 hn11 ho0 hQ  h
      · replace h := h.2 q
        refine w_iconst C dX12_hours_28 ⟨by decide, by decide⟩ ?_
        exact x_iret C hr dX12_hours_29 hn (hQ _ M h)
set_option maxRecDepth 100000 in
set_option maxHeartbeats 4000000 in
theorem con_X12_hours (l : Launch) (D : va_G) (cy : Nat → ClassId) : Con l D cy yX12_hours cX12_hours 6 (some .int) ({ frames := 4, cells := 0, slots := 0, locals := 115 }) 0 0 SP_X12_hours := by
  refine con_of (by decide) (fun as M Qp h => ?_) ?_
  · obtain ⟨-, o0, x1, x2, x3, rfl, -⟩ := h
    exact Nat.le_of_ble_eq_true rfl
  · intro p e s m args below meth c G as M Qp h C hr hnm
    obtain ⟨hn, o0, x1, x2, x3, rfl, ho1, ho2, Q0, hQ, h⟩ := h
    refine x_pick (L' := [(0, vR (some o0)), (1, vI x1), (2, vI x2), (3, vI x3)]) [0, 1, 2, 3] rfl ?_
    exact k_X12_hours_0 C hr hn rfl ⟨ho1, ho2⟩ hQ h
set_option maxRecDepth 100000 in
set_option maxHeartbeats 4000000 in
theorem cl_X12_hours {p : Program} {l : Launch} {e : Env} {R : Room} {s : State} {m : MethodId} {args : Array Value} {below : List Frame} {meth : Method} {c : Code} {Q : State → Prop} {cc : ByteArray} {nL : Nat} {own : String} {D : va_G} {cy : Nat → ClassId} {G : Nat × Nat} {n0 pc : Nat} {L : List (Nat × PV)} {st : List PV} {M : Mm} {op : Instr} (K : CallOK l D cy R own op 0 0 (spV 12 3 SP_X12_hours)) (C : Cx p s m args meth c cc nL own D cy G n0) (hd : decode cc pc = .ok (op, 3)) (hn : M.2.2.2 = n0) (h3 : n0 = 243) (hlen : argN st ≤ 8) {r : Option Nat} {o0 : Nat} (ho : isOn 12 M.2.2.2 r o0) {x1 : Int} {x2 : Int} {x3 : Int} {Q0 : Int → Mm → Prop} (h : P_X12_hours o0 x1 x2 x3 M Q0) (k : ∀ x M2, Q0 x M2 → M2.2.2.2 = n0 → WW p l e R s m args below meth c Q nL D cy G n0  (pc + 3) L (vI x :: st) M2) : WW p l e R s m args below meth c Q nL D cy G n0  pc L (vI x3 :: vI x2 :: vI x1 :: vR r :: st) M := by
  obtain ⟨rfl, ho1, ho2⟩ := ho
  refine x_call0 K C hd (as := [vR (some o0), vI x1, vI x2, vI x3]) rfl hn hlen (fun v M2 => ∃ x, v = some (vI x) ∧ Q0 x M2) ⟨⟨o0, [vI x1, vI x2, vI x3], rfl, rfl, ho1, ho2⟩, hn.trans h3, o0, x1, x2, x3, rfl, (hn.trans h3) ▸ ho1, ho2, Q0, fun x M2 hx => ⟨x, rfl, hx⟩, h⟩ ?_
  rintro _ _ ⟨x, rfl, hx⟩ hm
  exact k x _ hx hm
end W_X12_hours
theorem dX12_worst_0 : decode cX12_worst 0 = .ok (.iconst 0, 1) := by decide +kernel
theorem dX12_worst_1 : decode cX12_worst 1 = .ok (.istore 4, 2) := by decide +kernel
theorem dX12_worst_3 : decode cX12_worst 3 = .ok (.iconst 0, 1) := by decide +kernel
theorem dX12_worst_4 : decode cX12_worst 4 = .ok (.istore 5, 2) := by decide +kernel
theorem dX12_worst_6 : decode cX12_worst 6 = .ok (.iconst 1, 1) := by decide +kernel
theorem dX12_worst_7 : decode cX12_worst 7 = .ok (.istore 6, 2) := by decide +kernel
theorem dX12_worst_9 : decode cX12_worst 9 = .ok (.iload 6, 2) := by decide +kernel
theorem dX12_worst_11 : decode cX12_worst 11 = .ok (.iload_n 2, 1) := by decide +kernel
theorem dX12_worst_12 : decode cX12_worst 12 = .ok (.if_icmp .gt 84, 3) := by decide +kernel
theorem dX12_worst_15 : decode cX12_worst 15 = .ok (.iload 4, 2) := by decide +kernel
theorem dX12_worst_17 : decode cX12_worst 17 = .ok (.aload_n 0, 1) := by decide +kernel
theorem dX12_worst_18 : decode cX12_worst 18 = .ok (.iload_n 1, 1) := by decide +kernel
theorem dX12_worst_19 : decode cX12_worst 19 = .ok (.invokevirtual 239, 3) := by decide +kernel
theorem dX12_worst_22 : decode cX12_worst 22 = .ok (.iadd, 1) := by decide +kernel
theorem dX12_worst_23 : decode cX12_worst 23 = .ok (.istore 4, 2) := by decide +kernel
theorem dX12_worst_25 : decode cX12_worst 25 = .ok (.iload 4, 2) := by decide +kernel
theorem dX12_worst_27 : decode cX12_worst 27 = .ok (.iload 5, 2) := by decide +kernel
theorem dX12_worst_29 : decode cX12_worst 29 = .ok (.if_icmp .le 8, 3) := by decide +kernel
theorem dX12_worst_32 : decode cX12_worst 32 = .ok (.iload 4, 2) := by decide +kernel
theorem dX12_worst_34 : decode cX12_worst 34 = .ok (.goto 5, 3) := by decide +kernel
theorem dX12_worst_37 : decode cX12_worst 37 = .ok (.iload 5, 2) := by decide +kernel
theorem dX12_worst_39 : decode cX12_worst 39 = .ok (.istore 5, 2) := by decide +kernel
theorem dX12_worst_41 : decode cX12_worst 41 = .ok (.iconst 0, 1) := by decide +kernel
theorem dX12_worst_42 : decode cX12_worst 42 = .ok (.istore 7, 2) := by decide +kernel
theorem dX12_worst_44 : decode cX12_worst 44 = .ok (.iload 7, 2) := by decide +kernel
theorem dX12_worst_46 : decode cX12_worst 46 = .ok (.iload_n 3, 1) := by decide +kernel
theorem dX12_worst_47 : decode cX12_worst 47 = .ok (.if_icmp .ge 43, 3) := by decide +kernel
theorem dX12_worst_50 : decode cX12_worst 50 = .ok (.aload_n 0, 1) := by decide +kernel
theorem dX12_worst_51 : decode cX12_worst 51 = .ok (.getfield 74, 3) := by decide +kernel
theorem dX12_worst_54 : decode cX12_worst 54 = .ok (.iload 7, 2) := by decide +kernel
theorem dX12_worst_56 : decode cX12_worst 56 = .ok (.iaload, 1) := by decide +kernel
theorem dX12_worst_57 : decode cX12_worst 57 = .ok (.iload 6, 2) := by decide +kernel
theorem dX12_worst_59 : decode cX12_worst 59 = .ok (.if_icmp .ne 25, 3) := by decide +kernel
theorem dX12_worst_62 : decode cX12_worst 62 = .ok (.iload 4, 2) := by decide +kernel
theorem dX12_worst_64 : decode cX12_worst 64 = .ok (.aload_n 0, 1) := by decide +kernel
theorem dX12_worst_65 : decode cX12_worst 65 = .ok (.getfield 59, 3) := by decide +kernel
theorem dX12_worst_68 : decode cX12_worst 68 = .ok (.if_icmp .le 13, 3) := by decide +kernel
theorem dX12_worst_71 : decode cX12_worst 71 = .ok (.iload 4, 2) := by decide +kernel
theorem dX12_worst_73 : decode cX12_worst 73 = .ok (.aload_n 0, 1) := by decide +kernel
theorem dX12_worst_74 : decode cX12_worst 74 = .ok (.getfield 59, 3) := by decide +kernel
theorem dX12_worst_77 : decode cX12_worst 77 = .ok (.isub, 1) := by decide +kernel
theorem dX12_worst_78 : decode cX12_worst 78 = .ok (.goto 4, 3) := by decide +kernel
theorem dX12_worst_81 : decode cX12_worst 81 = .ok (.iconst 0, 1) := by decide +kernel
theorem dX12_worst_82 : decode cX12_worst 82 = .ok (.istore 4, 2) := by decide +kernel
theorem dX12_worst_84 : decode cX12_worst 84 = .ok (.iinc 7 1, 3) := by decide +kernel
theorem dX12_worst_87 : decode cX12_worst 87 = .ok (.goto (-43), 3) := by decide +kernel
theorem dX12_worst_90 : decode cX12_worst 90 = .ok (.iinc 6 1, 3) := by decide +kernel
theorem dX12_worst_93 : decode cX12_worst 93 = .ok (.goto (-84), 3) := by decide +kernel
theorem dX12_worst_96 : decode cX12_worst 96 = .ok (.iload 5, 2) := by decide +kernel
theorem dX12_worst_98 : decode cX12_worst 98 = .ok (.ireturn, 1) := by decide +kernel
theorem fw_X12_74 : fR RX12 74 12 27 := ⟨⟨lwG_4 (i := 91) rfl rfl, by decide, by decide⟩, fun _ _ => rfl, fun r => ⟨r, rfl⟩⟩
section W_X12_worst
variable {p : Program} {l : Launch} {e : Env} {s : State} {m : MethodId} {args : Array Value} {below : List Frame} {meth : Method} {c : Code} {D : va_G} {cy : Nat → ClassId} {G : Nat × Nat} {n0 : Nat} {Qp : Option PV → Mm → Prop}
set_option maxRecDepth 100000 in
set_option maxHeartbeats 4000000 in
theorem f_X12_worst_44 {o0 : Nat} {x1 : Int} {x2 : Int} {x3 : Int} {x4 : Int} {x5 : Int} {x6 : Int} {x7 : Int} {M : Mm} {Q : Int → Prop} {K9 : Int × Int × Int → Prop} {K44 : Int × Int → Prop} (C : Cx p s m args meth c cX12_worst 8 RX12 D cy G n0) (hr : meth.sig.returnType = some .int) (h3 : n0 = 243) (hn : M.2.2.2 = n0) (ho0 : o0 < 243 ∧ (SH o0).1 = 12) (hQ : ∀ x, Q x → Qp (some (vI x)) M) (hK9 : ∀ (x4 : Int) (x5 : Int) (x6 : Int), K9 (x4, x5, x6) → WW p l e ({ frames := 1, cells := 0, slots := 0, locals := 21 }) s m args below meth c (ZQ below args s D cy G n0 Qp n0) 8 D cy G n0 9 [(0, vR (some o0)), (1, vI x1), (2, vI x2), (3, vI x3), (4, vI x4), (5, vI x5), (6, vI x6)] [] M) (hK44 : ∀ (x4 : Int) (x7 : Int), K44 (x4, x7) → WW p l e ({ frames := 1, cells := 0, slots := 0, locals := 21 }) s m args below meth c (ZQ below args s D cy G n0 Qp n0) 8 D cy G n0 44 [(0, vR (some o0)), (1, vI x1), (2, vI x2), (3, vI x3), (4, vI x4), (5, vI x5), (6, vI x6), (7, vI x7)] [] M) (h : F_X12_worst_44 o0 x1 x2 x3 x5 x6 M Q K9 K44 x4 x7) : WW p l e ({ frames := 1, cells := 0, slots := 0, locals := 21 }) s m args below meth c (ZQ below args s D cy G n0 Qp n0) 8 D cy G n0 44 [(0, vR (some o0)), (1, vI x1), (2, vI x2), (3, vI x3), (4, vI x4), (5, vI x5), (6, vI x6), (7, vI x7)] [] M := by
  unfold F_X12_worst_44 at h
  refine w_iload C dX12_worst_44 (mem_k 7 rfl) ?_
  refine w_iload_n C dX12_worst_46 rfl (mem_k 3 rfl) ?_
  refine w_icmp_ge (tgt := 90) C dX12_worst_47 (by decide) (fun q => ?_) (fun q => ?_)
  · replace h := h.1 q
    obtain ⟨v1, ev1⟩ : ∃ z : Int, z = x6 + 1 := ⟨_, rfl⟩
    refine x_iinc (L' := [(6, vI v1), (0, vR (some o0)), (1, vI x1), (2, vI x2), (3, vI x3), (4, vI x4), (5, vI x5), (7, vI x7)]) C dX12_worst_90 (mem_k 6 rfl) (by decide) h.1 ev1 rfl ?_
    replace h := h.2 v1 ev1
    refine w_goto (tgt := 9) C dX12_worst_93 (by decide) ?_
    refine x_pc (pc2 := 9) rfl ?_
    refine x_pick (L' := [(0, vR (some o0)), (1, vI x1), (2, vI x2), (3, vI x3), (4, vI x4), (5, vI x5), (6, vI v1)]) [1, 2, 3, 4, 5, 6, 0] rfl ?_
    exact hK9 x4 x5 v1 h
  · replace h := h.2 q
    refine w_aload_n C dX12_worst_50 rfl (mem_k 0 rfl) ?_
    refine x_getR C dX12_worst_51 fw_X12_74 (isO.n (ci := 12) ⟨rfl, ho0⟩ (hn.trans h3)) (fun r2 er2 => ?_)
    replace h := h r2 er2
    refine w_iload C dX12_worst_54 (mem_k 7 rfl) ?_
    obtain ⟨o3, g4, h⟩ := h
    refine x_iald C dX12_worst_56 (isA.n g4 (hn.trans h3)) ?_
    refine w_iload C dX12_worst_57 (mem_k 6 rfl) ?_
    refine w_icmp_ne (tgt := 84) C dX12_worst_59 (by decide) (fun q => ?_) (fun q => ?_)
    · replace h := h.1 q
      obtain ⟨v5, ev5⟩ : ∃ z : Int, z = x7 + 1 := ⟨_, rfl⟩
      refine x_iinc (L' := [(7, vI v5), (0, vR (some o0)), (1, vI x1), (2, vI x2), (3, vI x3), (4, vI x4), (5, vI x5), (6, vI x6)]) C dX12_worst_84 (mem_k 7 rfl) (by decide) h.1 ev5 rfl ?_
      replace h := h.2 v5 ev5
      refine w_goto (tgt := 44) C dX12_worst_87 (by decide) ?_
      refine x_pc (pc2 := 44) rfl ?_
      refine x_pick (L' := [(0, vR (some o0)), (1, vI x1), (2, vI x2), (3, vI x3), (4, vI x4), (5, vI x5), (6, vI x6), (7, vI v5)]) [1, 2, 3, 4, 5, 6, 7, 0] rfl ?_
      exact hK44 x4 v5 h
    · replace h := h.2 q
      refine w_iload C dX12_worst_62 (mem_k 4 rfl) ?_
      refine w_aload_n C dX12_worst_64 rfl (mem_k 0 rfl) ?_
      refine x_getI C dX12_worst_65 fw_X12_59 (isO.n (ci := 12) ⟨rfl, ho0⟩ (hn.trans h3)) ?_
      refine w_icmp_le (tgt := 81) C dX12_worst_68 (by decide) (fun q => ?_) (fun q => ?_)
      · replace h := h.1 q
        refine w_iconst C dX12_worst_81 ⟨by decide, by decide⟩ ?_
        refine x_istore (L' := [(4, vI 0), (0, vR (some o0)), (1, vI x1), (2, vI x2), (3, vI x3), (5, vI x5), (6, vI x6), (7, vI x7)]) C dX12_worst_82 (by decide) rfl ?_
        obtain ⟨v6, ev6⟩ : ∃ z : Int, z = x7 + 1 := ⟨_, rfl⟩
        refine x_iinc (L' := [(7, vI v6), (4, vI 0), (0, vR (some o0)), (1, vI x1), (2, vI x2), (3, vI x3), (5, vI x5), (6, vI x6)]) C dX12_worst_84 (mem_k 7 rfl) (by decide) h.1 ev6 rfl ?_
        replace h := h.2 v6 ev6
        refine w_goto (tgt := 44) C dX12_worst_87 (by decide) ?_
        refine x_pc (pc2 := 44) rfl ?_
        refine x_pick (L' := [(0, vR (some o0)), (1, vI x1), (2, vI x2), (3, vI x3), (4, vI 0), (5, vI x5), (6, vI x6), (7, vI v6)]) [2, 3, 4, 5, 1, 6, 7, 0] rfl ?_
        exact hK44 0 v6 h
      · replace h := h.2 q
        refine w_iload C dX12_worst_71 (mem_k 4 rfl) ?_
        refine w_aload_n C dX12_worst_73 rfl (mem_k 0 rfl) ?_
        refine x_getI C dX12_worst_74 fw_X12_59 (isO.n (ci := 12) ⟨rfl, ho0⟩ (hn.trans h3)) ?_
        refine w_isub C dX12_worst_77 h.1 ?_
        replace h := h.2
        refine w_goto (tgt := 82) C dX12_worst_78 (by decide) ?_
        refine x_nmI (fun v7 ev7 => ?_)
        replace h := h v7 ev7
        refine x_istore (L' := [(4, vI v7), (0, vR (some o0)), (1, vI x1), (2, vI x2), (3, vI x3), (5, vI x5), (6, vI x6), (7, vI x7)]) C dX12_worst_82 (by decide) rfl ?_
        obtain ⟨v8, ev8⟩ : ∃ z : Int, z = x7 + 1 := ⟨_, rfl⟩
        refine x_iinc (L' := [(7, vI v8), (4, vI v7), (0, vR (some o0)), (1, vI x1), (2, vI x2), (3, vI x3), (5, vI x5), (6, vI x6)]) C dX12_worst_84 (mem_k 7 rfl) (by decide) h.1 ev8 rfl ?_
        replace h := h.2 v8 ev8
        refine w_goto (tgt := 44) C dX12_worst_87 (by decide) ?_
        refine x_pc (pc2 := 44) rfl ?_
        refine x_pick (L' := [(0, vR (some o0)), (1, vI x1), (2, vI x2), (3, vI x3), (4, vI v7), (5, vI x5), (6, vI x6), (7, vI v8)]) [2, 3, 4, 5, 1, 6, 7, 0] rfl ?_
        exact hK44 v7 v8 h
set_option maxRecDepth 100000 in
set_option maxHeartbeats 4000000 in
theorem k_X12_worst_44 {o0 : Nat} {x1 : Int} {x2 : Int} {x3 : Int} {x4 : Int} {x5 : Int} {x6 : Int} {x7 : Int} {M : Mm} {Q : Int → Prop} {K9 : Int × Int × Int → Prop} (C : Cx p s m args meth c cX12_worst 8 RX12 D cy G n0) (hr : meth.sig.returnType = some .int) (h3 : n0 = 243) (hn : M.2.2.2 = n0) (ho0 : o0 < 243 ∧ (SH o0).1 = 12) (hQ : ∀ x, Q x → Qp (some (vI x)) M) (hK9 : ∀ (x4 : Int) (x5 : Int) (x6 : Int), K9 (x4, x5, x6) → WW p l e ({ frames := 1, cells := 0, slots := 0, locals := 21 }) s m args below meth c (ZQ below args s D cy G n0 Qp n0) 8 D cy G n0 9 [(0, vR (some o0)), (1, vI x1), (2, vI x2), (3, vI x3), (4, vI x4), (5, vI x5), (6, vI x6)] [] M) (h : P_X12_worst_44 o0 x1 x2 x3 x4 x5 x6 x7 M Q K9) : WW p l e ({ frames := 1, cells := 0, slots := 0, locals := 21 }) s m args below meth c (ZQ below args s D cy G n0 Qp n0) 8 D cy G n0 44 [(0, vR (some o0)), (1, vI x1), (2, vI x2), (3, vI x3), (4, vI x4), (5, vI x5), (6, vI x6), (7, vI x7)] [] M := by
  refine lpW_sound (P := fun y : Int × Int => WW p l e ({ frames := 1, cells := 0, slots := 0, locals := 21 }) s m args below meth c (ZQ below args s D cy G n0 Qp n0) 8 D cy G n0 44 [(0, vR (some o0)), (1, vI x1), (2, vI x2), (3, vI x3), (4, vI y.1), (5, vI x5), (6, vI x6), (7, vI y.2)] [] M) ?_ h
  intro K y hK hF
  obtain ⟨x4, x7⟩ := y
  exact f_X12_worst_44 C hr h3 hn ho0 hQ hK9 (fun x4 x7 hk => hK (x4, x7) hk) hF
set_option maxRecDepth 100000 in
set_option maxHeartbeats 4000000 in
theorem f_X12_worst_9 {o0 : Nat} {x1 : Int} {x2 : Int} {x3 : Int} {x4 : Int} {x5 : Int} {x6 : Int} {M : Mm} {Q : Int → Prop} {K9 : Int × Int × Int → Prop} (C : Cx p s m args meth c cX12_worst 8 RX12 D cy G n0) (hr : meth.sig.returnType = some .int) (h3 : n0 = 243) (hn : M.2.2.2 = n0) (ho0 : o0 < 243 ∧ (SH o0).1 = 12) (hQ : ∀ x, Q x → Qp (some (vI x)) M) (hK9 : ∀ (x4 : Int) (x5 : Int) (x6 : Int), K9 (x4, x5, x6) → WW p l e ({ frames := 1, cells := 0, slots := 0, locals := 21 }) s m args below meth c (ZQ below args s D cy G n0 Qp n0) 8 D cy G n0 9 [(0, vR (some o0)), (1, vI x1), (2, vI x2), (3, vI x3), (4, vI x4), (5, vI x5), (6, vI x6)] [] M) (h : F_X12_worst_9 o0 x1 x2 x3 M Q  K9 x4 x5 x6) : WW p l e ({ frames := 1, cells := 0, slots := 0, locals := 21 }) s m args below meth c (ZQ below args s D cy G n0 Qp n0) 8 D cy G n0 9 [(0, vR (some o0)), (1, vI x1), (2, vI x2), (3, vI x3), (4, vI x4), (5, vI x5), (6, vI x6)] [] M := by
  unfold F_X12_worst_9 at h
  refine w_iload C dX12_worst_9 (mem_k 6 rfl) ?_
  refine w_iload_n C dX12_worst_11 rfl (mem_k 2 rfl) ?_
  refine w_icmp_gt (tgt := 96) C dX12_worst_12 (by decide) (fun q => ?_) (fun q => ?_)
  · replace h := h.1 q
    refine w_iload C dX12_worst_96 (mem_k 5 rfl) ?_
    exact x_iret C hr dX12_worst_98 hn (hQ _ h)
  · replace h := h.2 q
    refine w_iload C dX12_worst_15 (mem_k 4 rfl) ?_
    refine w_aload_n C dX12_worst_17 rfl (mem_k 0 rfl) ?_
    refine w_iload_n C dX12_worst_18 rfl (mem_k 1 rfl) ?_
    refine cl_X12_hurts (ck_X12_239 ⟨by decide, by decide⟩) C dX12_worst_19 hn h3 (Nat.le_of_ble_eq_true rfl) (isO.n (ci := 12) ⟨rfl, ho0⟩ (hn.trans h3)) h (fun v9 h => ?_)
    refine w_iadd C dX12_worst_22 h.1 ?_
    replace h := h.2
    refine x_nmI (fun v10 ev10 => ?_)
    replace h := h v10 ev10
    refine x_istore (L' := [(4, vI v10), (0, vR (some o0)), (1, vI x1), (2, vI x2), (3, vI x3), (5, vI x5), (6, vI x6)]) C dX12_worst_23 (by decide) rfl ?_
    refine w_iload C dX12_worst_25 (mem_k 0 rfl) ?_
    refine w_iload C dX12_worst_27 (mem_k 5 rfl) ?_
    refine w_icmp_le (tgt := 37) C dX12_worst_29 (by decide) (fun q => ?_) (fun q => ?_)
    · replace h := h.1 q
      refine w_iload C dX12_worst_37 (mem_k 5 rfl) ?_
      refine x_istore (L' := [(5, vI x5), (4, vI v10), (0, vR (some o0)), (1, vI x1), (2, vI x2), (3, vI x3), (6, vI x6)]) C dX12_worst_39 (by decide) rfl ?_
      refine w_iconst C dX12_worst_41 ⟨by decide, by decide⟩ ?_
      refine x_istore (L' := [(7, vI 0), (5, vI x5), (4, vI v10), (0, vR (some o0)), (1, vI x1), (2, vI x2), (3, vI x3), (6, vI x6)]) C dX12_worst_42 (by decide) rfl ?_
      refine x_pc (pc2 := 44) rfl ?_
      refine x_pick (L' := [(0, vR (some o0)), (1, vI x1), (2, vI x2), (3, vI x3), (4, vI v10), (5, vI x5), (6, vI x6), (7, vI 0)]) [3, 4, 5, 6, 2, 1, 7, 0] rfl ?_
      exact k_X12_worst_44 C hr h3 hn ho0 hQ hK9 h
    · replace h := h.2 q
      refine w_iload C dX12_worst_32 (mem_k 0 rfl) ?_
      refine w_goto (tgt := 39) C dX12_worst_34 (by decide) ?_
      refine x_istore (L' := [(5, vI v10), (4, vI v10), (0, vR (some o0)), (1, vI x1), (2, vI x2), (3, vI x3), (6, vI x6)]) C dX12_worst_39 (by decide) rfl ?_
      refine w_iconst C dX12_worst_41 ⟨by decide, by decide⟩ ?_
      refine x_istore (L' := [(7, vI 0), (5, vI v10), (4, vI v10), (0, vR (some o0)), (1, vI x1), (2, vI x2), (3, vI x3), (6, vI x6)]) C dX12_worst_42 (by decide) rfl ?_
      refine x_pc (pc2 := 44) rfl ?_
      refine x_pick (L' := [(0, vR (some o0)), (1, vI x1), (2, vI x2), (3, vI x3), (4, vI v10), (5, vI v10), (6, vI x6), (7, vI 0)]) [3, 4, 5, 6, 2, 1, 7, 0] rfl ?_
      exact k_X12_worst_44 C hr h3 hn ho0 hQ hK9 h
set_option maxRecDepth 100000 in
set_option maxHeartbeats 4000000 in
theorem k_X12_worst_9 {o0 : Nat} {x1 : Int} {x2 : Int} {x3 : Int} {x4 : Int} {x5 : Int} {x6 : Int} {M : Mm} {Q : Int → Prop} (C : Cx p s m args meth c cX12_worst 8 RX12 D cy G n0) (hr : meth.sig.returnType = some .int) (h3 : n0 = 243) (hn : M.2.2.2 = n0) (ho0 : o0 < 243 ∧ (SH o0).1 = 12) (hQ : ∀ x, Q x → Qp (some (vI x)) M) (h : P_X12_worst_9 o0 x1 x2 x3 x4 x5 x6 M Q ) : WW p l e ({ frames := 1, cells := 0, slots := 0, locals := 21 }) s m args below meth c (ZQ below args s D cy G n0 Qp n0) 8 D cy G n0 9 [(0, vR (some o0)), (1, vI x1), (2, vI x2), (3, vI x3), (4, vI x4), (5, vI x5), (6, vI x6)] [] M := by
  refine lpW_sound (P := fun y : Int × Int × Int => WW p l e ({ frames := 1, cells := 0, slots := 0, locals := 21 }) s m args below meth c (ZQ below args s D cy G n0 Qp n0) 8 D cy G n0 9 [(0, vR (some o0)), (1, vI x1), (2, vI x2), (3, vI x3), (4, vI y.1), (5, vI y.2.1), (6, vI y.2.2)] [] M) ?_ h
  intro K y hK hF
  obtain ⟨x4, x5, x6⟩ := y
  exact f_X12_worst_9 C hr h3 hn ho0 hQ  (fun x4 x5 x6 hk => hK (x4, x5, x6) hk) hF
set_option maxRecDepth 100000 in
set_option maxHeartbeats 4000000 in
theorem k_X12_worst_0 {o0 : Nat} {x1 : Int} {x2 : Int} {x3 : Int} {M : Mm} {Q : Int → Prop} (C : Cx p s m args meth c cX12_worst 8 RX12 D cy G n0) (hr : meth.sig.returnType = some .int) (h3 : n0 = 243) (hn : M.2.2.2 = n0) (ho0 : o0 < 243 ∧ (SH o0).1 = 12) (hQ : ∀ x, Q x → Qp (some (vI x)) M) (h : P_X12_worst o0 x1 x2 x3 M Q ) : WW p l e ({ frames := 1, cells := 0, slots := 0, locals := 21 }) s m args below meth c (ZQ below args s D cy G n0 Qp n0) 8 D cy G n0 0 [(0, vR (some o0)), (1, vI x1), (2, vI x2), (3, vI x3)] [] M := by
  unfold P_X12_worst at h
  refine w_iconst C dX12_worst_0 ⟨by decide, by decide⟩ ?_
  refine x_istore (L' := [(4, vI 0), (0, vR (some o0)), (1, vI x1), (2, vI x2), (3, vI x3)]) C dX12_worst_1 (by decide) rfl ?_
  refine w_iconst C dX12_worst_3 ⟨by decide, by decide⟩ ?_
  refine x_istore (L' := [(5, vI 0), (4, vI 0), (0, vR (some o0)), (1, vI x1), (2, vI x2), (3, vI x3)]) C dX12_worst_4 (by decide) rfl ?_
  refine w_iconst C dX12_worst_6 ⟨by decide, by decide⟩ ?_
  refine x_istore (L' := [(6, vI 1), (5, vI 0), (4, vI 0), (0, vR (some o0)), (1, vI x1), (2, vI x2), (3, vI x3)]) C dX12_worst_7 (by decide) rfl ?_
  refine x_pc (pc2 := 9) rfl ?_
  refine x_pick (L' := [(0, vR (some o0)), (1, vI x1), (2, vI x2), (3, vI x3), (4, vI 0), (5, vI 0), (6, vI 1)]) [3, 4, 5, 6, 2, 1, 0] rfl ?_
  exact k_X12_worst_9 C hr h3 hn ho0 hQ  h
set_option maxRecDepth 100000 in
set_option maxHeartbeats 4000000 in
theorem con_X12_worst (l : Launch) (D : va_G) (cy : Nat → ClassId) : Con l D cy yX12_worst cX12_worst 8 (some .int) ({ frames := 1, cells := 0, slots := 0, locals := 21 }) 0 0 SP_X12_worst := by
  refine con_of (by decide) (fun as M Qp h => ?_) ?_
  · obtain ⟨-, o0, x1, x2, x3, rfl, -⟩ := h
    exact Nat.le_of_ble_eq_true rfl
  · intro p e s m args below meth c G as M Qp h C hr hnm
    obtain ⟨hn, o0, x1, x2, x3, rfl, ho1, ho2, Q0, hQ, h⟩ := h
    refine x_pick (L' := [(0, vR (some o0)), (1, vI x1), (2, vI x2), (3, vI x3)]) [0, 1, 2, 3] rfl ?_
    exact k_X12_worst_0 C hr hn rfl ⟨ho1, ho2⟩ hQ h
set_option maxRecDepth 100000 in
set_option maxHeartbeats 4000000 in
theorem cl_X12_worst {p : Program} {l : Launch} {e : Env} {R : Room} {s : State} {m : MethodId} {args : Array Value} {below : List Frame} {meth : Method} {c : Code} {Q : State → Prop} {cc : ByteArray} {nL : Nat} {own : String} {D : va_G} {cy : Nat → ClassId} {G : Nat × Nat} {n0 pc : Nat} {L : List (Nat × PV)} {st : List PV} {M : Mm} {op : Instr} (K : CallOK l D cy R own op 0 0 (spV 12 3 SP_X12_worst)) (C : Cx p s m args meth c cc nL own D cy G n0) (hd : decode cc pc = .ok (op, 3)) (hn : M.2.2.2 = n0) (h3 : n0 = 243) (hlen : argN st ≤ 8) {r : Option Nat} {o0 : Nat} (ho : isOn 12 M.2.2.2 r o0) {x1 : Int} {x2 : Int} {x3 : Int} {Q0 : Int → Prop} (h : P_X12_worst o0 x1 x2 x3 M Q0) (k : ∀ x, Q0 x → WW p l e R s m args below meth c Q nL D cy G n0  (pc + 3) L (vI x :: st) M) : WW p l e R s m args below meth c Q nL D cy G n0  pc L (vI x3 :: vI x2 :: vI x1 :: vR r :: st) M := by
  obtain ⟨rfl, ho1, ho2⟩ := ho
  refine x_call0 K C hd (as := [vR (some o0), vI x1, vI x2, vI x3]) rfl hn hlen (fun v M2 => ∃ x, v = some (vI x) ∧ M2 = M ∧ Q0 x) ⟨⟨o0, [vI x1, vI x2, vI x3], rfl, rfl, ho1, ho2⟩, hn.trans h3, o0, x1, x2, x3, rfl, (hn.trans h3) ▸ ho1, ho2, Q0, fun x hx => ⟨x, rfl, rfl, hx⟩, h⟩ ?_
  rintro _ _ ⟨x, rfl, rfl, hx⟩ hm
  exact k x hx
end W_X12_worst
theorem dX12_stops_0 : decode cX12_stops 0 = .ok (.aload_n 0, 1) := by decide +kernel
theorem dX12_stops_1 : decode cX12_stops 1 = .ok (.iload_n 1, 1) := by decide +kernel
theorem dX12_stops_2 : decode cX12_stops 2 = .ok (.invokevirtual 155, 3) := by decide +kernel
theorem dX12_stops_5 : decode cX12_stops 5 = .ok (.ifCond .eq 42, 3) := by decide +kernel
theorem dX12_stops_8 : decode cX12_stops 8 = .ok (.aload_n 0, 1) := by decide +kernel
theorem dX12_stops_9 : decode cX12_stops 9 = .ok (.iload_n 2, 1) := by decide +kernel
theorem dX12_stops_10 : decode cX12_stops 10 = .ok (.invokevirtual 152, 3) := by decide +kernel
theorem dX12_stops_13 : decode cX12_stops 13 = .ok (.ifCond .eq 34, 3) := by decide +kernel
theorem dX12_stops_16 : decode cX12_stops 16 = .ok (.iload_n 3, 1) := by decide +kernel
theorem dX12_stops_17 : decode cX12_stops 17 = .ok (.i2l, 1) := by decide +kernel
theorem dX12_stops_18 : decode cX12_stops 18 = .ok (.lconst 1, 1) := by decide +kernel
theorem dX12_stops_19 : decode cX12_stops 19 = .ok (.ldc2_w 242, 3) := by decide +kernel
theorem dX12_stops_22 : decode cX12_stops 22 = .ok (.invokestatic 85, 3) := by decide +kernel
theorem dX12_stops_25 : decode cX12_stops 25 = .ok (.ifCond .eq 22, 3) := by decide +kernel
theorem dX12_stops_28 : decode cX12_stops 28 = .ok (.iload 4, 2) := by decide +kernel
theorem dX12_stops_30 : decode cX12_stops 30 = .ok (.i2l, 1) := by decide +kernel
theorem dX12_stops_31 : decode cX12_stops 31 = .ok (.lconst 0, 1) := by decide +kernel
theorem dX12_stops_32 : decode cX12_stops 32 = .ok (.ldc2_w 244, 3) := by decide +kernel
theorem dX12_stops_35 : decode cX12_stops 35 = .ok (.invokestatic 85, 3) := by decide +kernel
theorem dX12_stops_38 : decode cX12_stops 38 = .ok (.ifCond .eq 9, 3) := by decide +kernel
theorem dX12_stops_41 : decode cX12_stops 41 = .ok (.iload 5, 2) := by decide +kernel
theorem dX12_stops_43 : decode cX12_stops 43 = .ok (.iconst (-1), 1) := by decide +kernel
theorem dX12_stops_44 : decode cX12_stops 44 = .ok (.if_icmp .ge 5, 3) := by decide +kernel
theorem dX12_stops_47 : decode cX12_stops 47 = .ok (.iconst (-1), 1) := by decide +kernel
theorem dX12_stops_48 : decode cX12_stops 48 = .ok (.ireturn, 1) := by decide +kernel
theorem dX12_stops_49 : decode cX12_stops 49 = .ok (.iload 5, 2) := by decide +kernel
theorem dX12_stops_51 : decode cX12_stops 51 = .ok (.iload 4, 2) := by decide +kernel
theorem dX12_stops_53 : decode cX12_stops 53 = .ok (.if_icmp .lt 6, 3) := by decide +kernel
theorem dX12_stops_56 : decode cX12_stops 56 = .ok (.bipush (-4), 2) := by decide +kernel
theorem dX12_stops_58 : decode cX12_stops 58 = .ok (.ireturn, 1) := by decide +kernel
theorem dX12_stops_59 : decode cX12_stops 59 = .ok (.aload_n 0, 1) := by decide +kernel
theorem dX12_stops_60 : decode cX12_stops 60 = .ok (.iload_n 1, 1) := by decide +kernel
theorem dX12_stops_61 : decode cX12_stops 61 = .ok (.iload_n 2, 1) := by decide +kernel
theorem dX12_stops_62 : decode cX12_stops 62 = .ok (.invokevirtual 209, 3) := by decide +kernel
theorem dX12_stops_65 : decode cX12_stops 65 = .ok (.iconst (-1), 1) := by decide +kernel
theorem dX12_stops_66 : decode cX12_stops 66 = .ok (.istore 6, 2) := by decide +kernel
theorem dX12_stops_68 : decode cX12_stops 68 = .ok (.iconst 1, 1) := by decide +kernel
theorem dX12_stops_69 : decode cX12_stops 69 = .ok (.istore 7, 2) := by decide +kernel
theorem dX12_stops_71 : decode cX12_stops 71 = .ok (.iconst 0, 1) := by decide +kernel
theorem dX12_stops_72 : decode cX12_stops 72 = .ok (.istore 8, 2) := by decide +kernel
theorem dX12_stops_74 : decode cX12_stops 74 = .ok (.iload 8, 2) := by decide +kernel
theorem dX12_stops_76 : decode cX12_stops 76 = .ok (.iload 4, 2) := by decide +kernel
theorem dX12_stops_78 : decode cX12_stops 78 = .ok (.if_icmp .ge 15, 3) := by decide +kernel
theorem dX12_stops_81 : decode cX12_stops 81 = .ok (.iload 7, 2) := by decide +kernel
theorem dX12_stops_83 : decode cX12_stops 83 = .ok (.iload_n 3, 1) := by decide +kernel
theorem dX12_stops_84 : decode cX12_stops 84 = .ok (.imul, 1) := by decide +kernel
theorem dX12_stops_85 : decode cX12_stops 85 = .ok (.istore 7, 2) := by decide +kernel
theorem dX12_stops_87 : decode cX12_stops 87 = .ok (.iinc 8 1, 3) := by decide +kernel
theorem dX12_stops_90 : decode cX12_stops 90 = .ok (.goto (-16), 3) := by decide +kernel
theorem dX12_stops_93 : decode cX12_stops 93 = .ok (.iconst 0, 1) := by decide +kernel
theorem dX12_stops_94 : decode cX12_stops 94 = .ok (.istore 8, 2) := by decide +kernel
theorem dX12_stops_96 : decode cX12_stops 96 = .ok (.iload 8, 2) := by decide +kernel
theorem dX12_stops_98 : decode cX12_stops 98 = .ok (.iload 7, 2) := by decide +kernel
theorem dX12_stops_100 : decode cX12_stops 100 = .ok (.if_icmp .ge 200, 3) := by decide +kernel
theorem dX12_stops_103 : decode cX12_stops 103 = .ok (.iload 8, 2) := by decide +kernel
theorem dX12_stops_105 : decode cX12_stops 105 = .ok (.istore 9, 2) := by decide +kernel
theorem dX12_stops_107 : decode cX12_stops 107 = .ok (.iconst 1, 1) := by decide +kernel
theorem dX12_stops_108 : decode cX12_stops 108 = .ok (.istore 10, 2) := by decide +kernel
theorem dX12_stops_110 : decode cX12_stops 110 = .ok (.iload 4, 2) := by decide +kernel
theorem dX12_stops_112 : decode cX12_stops 112 = .ok (.iconst 1, 1) := by decide +kernel
theorem dX12_stops_113 : decode cX12_stops 113 = .ok (.isub, 1) := by decide +kernel
theorem dX12_stops_114 : decode cX12_stops 114 = .ok (.istore 11, 2) := by decide +kernel
theorem dX12_stops_116 : decode cX12_stops 116 = .ok (.iload 11, 2) := by decide +kernel
theorem dX12_stops_118 : decode cX12_stops 118 = .ok (.ifCond .lt 68, 3) := by decide +kernel
theorem dX12_stops_121 : decode cX12_stops 121 = .ok (.aload_n 0, 1) := by decide +kernel
theorem dX12_stops_122 : decode cX12_stops 122 = .ok (.getfield 74, 3) := by decide +kernel
theorem dX12_stops_125 : decode cX12_stops 125 = .ok (.iload 11, 2) := by decide +kernel
theorem dX12_stops_127 : decode cX12_stops 127 = .ok (.iconst 1, 1) := by decide +kernel
theorem dX12_stops_128 : decode cX12_stops 128 = .ok (.iload 9, 2) := by decide +kernel
theorem dX12_stops_130 : decode cX12_stops 130 = .ok (.iload_n 3, 1) := by decide +kernel
theorem dX12_stops_131 : decode cX12_stops 131 = .ok (.irem, 1) := by decide +kernel
theorem dX12_stops_132 : decode cX12_stops 132 = .ok (.iadd, 1) := by decide +kernel
theorem dX12_stops_133 : decode cX12_stops 133 = .ok (.iastore, 1) := by decide +kernel
theorem dX12_stops_134 : decode cX12_stops 134 = .ok (.iload 9, 2) := by decide +kernel
theorem dX12_stops_136 : decode cX12_stops 136 = .ok (.iload_n 3, 1) := by decide +kernel
theorem dX12_stops_137 : decode cX12_stops 137 = .ok (.idiv, 1) := by decide +kernel
theorem dX12_stops_138 : decode cX12_stops 138 = .ok (.istore 9, 2) := by decide +kernel
theorem dX12_stops_140 : decode cX12_stops 140 = .ok (.iload 10, 2) := by decide +kernel
theorem dX12_stops_142 : decode cX12_stops 142 = .ok (.ifCond .eq 35, 3) := by decide +kernel
theorem dX12_stops_145 : decode cX12_stops 145 = .ok (.iload 11, 2) := by decide +kernel
theorem dX12_stops_147 : decode cX12_stops 147 = .ok (.iload 4, 2) := by decide +kernel
theorem dX12_stops_149 : decode cX12_stops 149 = .ok (.iconst 1, 1) := by decide +kernel
theorem dX12_stops_150 : decode cX12_stops 150 = .ok (.isub, 1) := by decide +kernel
theorem dX12_stops_151 : decode cX12_stops 151 = .ok (.if_icmp .eq 22, 3) := by decide +kernel
theorem dX12_stops_154 : decode cX12_stops 154 = .ok (.aload_n 0, 1) := by decide +kernel
theorem dX12_stops_155 : decode cX12_stops 155 = .ok (.getfield 74, 3) := by decide +kernel
theorem dX12_stops_158 : decode cX12_stops 158 = .ok (.iload 11, 2) := by decide +kernel
theorem dX12_stops_160 : decode cX12_stops 160 = .ok (.iaload, 1) := by decide +kernel
theorem dX12_stops_161 : decode cX12_stops 161 = .ok (.aload_n 0, 1) := by decide +kernel
theorem dX12_stops_162 : decode cX12_stops 162 = .ok (.getfield 74, 3) := by decide +kernel
theorem dX12_stops_165 : decode cX12_stops 165 = .ok (.iload 11, 2) := by decide +kernel
theorem dX12_stops_167 : decode cX12_stops 167 = .ok (.iconst 1, 1) := by decide +kernel
theorem dX12_stops_168 : decode cX12_stops 168 = .ok (.iadd, 1) := by decide +kernel
theorem dX12_stops_169 : decode cX12_stops 169 = .ok (.iaload, 1) := by decide +kernel
theorem dX12_stops_170 : decode cX12_stops 170 = .ok (.if_icmp .gt 7, 3) := by decide +kernel
theorem dX12_stops_173 : decode cX12_stops 173 = .ok (.iconst 1, 1) := by decide +kernel
theorem dX12_stops_174 : decode cX12_stops 174 = .ok (.goto 4, 3) := by decide +kernel
theorem dX12_stops_177 : decode cX12_stops 177 = .ok (.iconst 0, 1) := by decide +kernel
theorem dX12_stops_178 : decode cX12_stops 178 = .ok (.istore 10, 2) := by decide +kernel
theorem dX12_stops_180 : decode cX12_stops 180 = .ok (.iinc 11 (-1), 3) := by decide +kernel
theorem dX12_stops_183 : decode cX12_stops 183 = .ok (.goto (-67), 3) := by decide +kernel
theorem dX12_stops_186 : decode cX12_stops 186 = .ok (.iconst 0, 1) := by decide +kernel
theorem dX12_stops_187 : decode cX12_stops 187 = .ok (.istore 11, 2) := by decide +kernel
theorem dX12_stops_189 : decode cX12_stops 189 = .ok (.iconst 0, 1) := by decide +kernel
theorem dX12_stops_190 : decode cX12_stops 190 = .ok (.istore 12, 2) := by decide +kernel
theorem dX12_stops_192 : decode cX12_stops 192 = .ok (.iload 12, 2) := by decide +kernel
theorem dX12_stops_194 : decode cX12_stops 194 = .ok (.aload_n 0, 1) := by decide +kernel
theorem dX12_stops_195 : decode cX12_stops 195 = .ok (.getfield 31, 3) := by decide +kernel
theorem dX12_stops_198 : decode cX12_stops 198 = .ok (.bipush 6, 2) := by decide +kernel
theorem dX12_stops_200 : decode cX12_stops 200 = .ok (.iload_n 2, 1) := by decide +kernel
theorem dX12_stops_201 : decode cX12_stops 201 = .ok (.iadd, 1) := by decide +kernel
theorem dX12_stops_202 : decode cX12_stops 202 = .ok (.iaload, 1) := by decide +kernel
theorem dX12_stops_203 : decode cX12_stops 203 = .ok (.if_icmp .ge 41, 3) := by decide +kernel
theorem dX12_stops_206 : decode cX12_stops 206 = .ok (.iload 10, 2) := by decide +kernel
theorem dX12_stops_208 : decode cX12_stops 208 = .ok (.ifCond .eq 36, 3) := by decide +kernel
theorem dX12_stops_211 : decode cX12_stops 211 = .ok (.aload_n 0, 1) := by decide +kernel
theorem dX12_stops_212 : decode cX12_stops 212 = .ok (.iload 12, 2) := by decide +kernel
theorem dX12_stops_214 : decode cX12_stops 214 = .ok (.iload_n 3, 1) := by decide +kernel
theorem dX12_stops_215 : decode cX12_stops 215 = .ok (.iload 4, 2) := by decide +kernel
theorem dX12_stops_217 : decode cX12_stops 217 = .ok (.invokevirtual 246, 3) := by decide +kernel
theorem dX12_stops_220 : decode cX12_stops 220 = .ok (.istore 13, 2) := by decide +kernel
theorem dX12_stops_222 : decode cX12_stops 222 = .ok (.iload 13, 2) := by decide +kernel
theorem dX12_stops_224 : decode cX12_stops 224 = .ok (.iload 11, 2) := by decide +kernel
theorem dX12_stops_226 : decode cX12_stops 226 = .ok (.if_icmp .le 8, 3) := by decide +kernel
theorem dX12_stops_229 : decode cX12_stops 229 = .ok (.iload 13, 2) := by decide +kernel
theorem dX12_stops_231 : decode cX12_stops 231 = .ok (.goto 5, 3) := by decide +kernel
theorem dX12_stops_234 : decode cX12_stops 234 = .ok (.iload 11, 2) := by decide +kernel
theorem dX12_stops_236 : decode cX12_stops 236 = .ok (.istore 11, 2) := by decide +kernel
theorem dX12_stops_238 : decode cX12_stops 238 = .ok (.iinc 12 1, 3) := by decide +kernel
theorem dX12_stops_241 : decode cX12_stops 241 = .ok (.goto (-49), 3) := by decide +kernel
theorem dX12_stops_244 : decode cX12_stops 244 = .ok (.iload 10, 2) := by decide +kernel
theorem dX12_stops_246 : decode cX12_stops 246 = .ok (.ifCond .eq 48, 3) := by decide +kernel
theorem dX12_stops_249 : decode cX12_stops 249 = .ok (.iload 6, 2) := by decide +kernel
theorem dX12_stops_251 : decode cX12_stops 251 = .ok (.ifCond .lt 10, 3) := by decide +kernel
theorem dX12_stops_254 : decode cX12_stops 254 = .ok (.iload 11, 2) := by decide +kernel
theorem dX12_stops_256 : decode cX12_stops 256 = .ok (.iload 6, 2) := by decide +kernel
theorem dX12_stops_258 : decode cX12_stops 258 = .ok (.if_icmp .ge 36, 3) := by decide +kernel
theorem dX12_stops_261 : decode cX12_stops 261 = .ok (.iload 11, 2) := by decide +kernel
theorem dX12_stops_263 : decode cX12_stops 263 = .ok (.istore 6, 2) := by decide +kernel
theorem dX12_stops_265 : decode cX12_stops 265 = .ok (.iconst 0, 1) := by decide +kernel
theorem dX12_stops_266 : decode cX12_stops 266 = .ok (.istore 12, 2) := by decide +kernel
theorem dX12_stops_268 : decode cX12_stops 268 = .ok (.iload 12, 2) := by decide +kernel
theorem dX12_stops_270 : decode cX12_stops 270 = .ok (.iconst 3, 1) := by decide +kernel
theorem dX12_stops_271 : decode cX12_stops 271 = .ok (.if_icmp .ge 23, 3) := by decide +kernel
theorem dX12_stops_274 : decode cX12_stops 274 = .ok (.aload_n 0, 1) := by decide +kernel
theorem dX12_stops_275 : decode cX12_stops 275 = .ok (.getfield 77, 3) := by decide +kernel
theorem dX12_stops_278 : decode cX12_stops 278 = .ok (.iload 12, 2) := by decide +kernel
theorem dX12_stops_280 : decode cX12_stops 280 = .ok (.aload_n 0, 1) := by decide +kernel
theorem dX12_stops_281 : decode cX12_stops 281 = .ok (.getfield 74, 3) := by decide +kernel
theorem dX12_stops_284 : decode cX12_stops 284 = .ok (.iload 12, 2) := by decide +kernel
theorem dX12_stops_286 : decode cX12_stops 286 = .ok (.iaload, 1) := by decide +kernel
theorem dX12_stops_287 : decode cX12_stops 287 = .ok (.iastore, 1) := by decide +kernel
theorem dX12_stops_288 : decode cX12_stops 288 = .ok (.iinc 12 1, 3) := by decide +kernel
theorem dX12_stops_291 : decode cX12_stops 291 = .ok (.goto (-23), 3) := by decide +kernel
theorem dX12_stops_294 : decode cX12_stops 294 = .ok (.iinc 8 1, 3) := by decide +kernel
theorem dX12_stops_297 : decode cX12_stops 297 = .ok (.goto (-201), 3) := by decide +kernel
theorem dX12_stops_300 : decode cX12_stops 300 = .ok (.iload 5, 2) := by decide +kernel
theorem dX12_stops_302 : decode cX12_stops 302 = .ok (.ifCond .ge 8, 3) := by decide +kernel
theorem dX12_stops_305 : decode cX12_stops 305 = .ok (.iload 6, 2) := by decide +kernel
theorem dX12_stops_307 : decode cX12_stops 307 = .ok (.goto 10, 3) := by decide +kernel
theorem dX12_stops_310 : decode cX12_stops 310 = .ok (.aload_n 0, 1) := by decide +kernel
theorem dX12_stops_311 : decode cX12_stops 311 = .ok (.getfield 77, 3) := by decide +kernel
theorem dX12_stops_314 : decode cX12_stops 314 = .ok (.iload 5, 2) := by decide +kernel
theorem dX12_stops_316 : decode cX12_stops 316 = .ok (.iaload, 1) := by decide +kernel
theorem dX12_stops_317 : decode cX12_stops 317 = .ok (.ireturn, 1) := by decide +kernel
theorem fw_X12_77 : fR RX12 77 12 28 := ⟨⟨lwG_4 (i := 92) rfl rfl, by decide, by decide⟩, fun _ _ => rfl, fun r => ⟨r, rfl⟩⟩
theorem ck_X12_246 {l : Launch} {D : va_G} {cy : Nat → ClassId} {R : Room} (hR : 2 ≤ R.frames ∧ 48 ≤ R.locals) : CallOK l D cy R RX12 (.invokevirtual 246) 0 0 (spV 12 3 SP_X12_worst) := call_V (ci := 12) (con_X12_worst l D cy) (lwG_5 (i := 122) rfl rfl) (lwG_5 (i := 124) rfl rfl) (lwG_p (i := 40) rfl rfl) (lwG_1 (i := 13) rfl rfl) (lwG_5 (i := 125) rfl rfl) (by decide) ⟨rfl, by decide, by decide, rfl⟩ ⟨rfl, rfl⟩ hR
theorem cn_X12_242 : Cond.constantLong RX12 242 (Int64.ofInt 12) ∈ lwG := lwG_5 (i := 120) rfl rfl
theorem cn_X12_244 : Cond.constantLong RX12 244 (Int64.ofInt 3) ∈ lwG := lwG_5 (i := 121) rfl rfl
section W_X12_stops
variable {p : Program} {l : Launch} {e : Env} {s : State} {m : MethodId} {args : Array Value} {below : List Frame} {meth : Method} {c : Code} {D : va_G} {cy : Nat → ClassId} {G : Nat × Nat} {n0 : Nat} {Qp : Option PV → Mm → Prop}
set_option maxRecDepth 100000 in
set_option maxHeartbeats 4000000 in
theorem f_X12_stops_268 {o0 : Nat} {x2 : Int} {x3 : Int} {x4 : Int} {x5 : Int} {x6 : Int} {x7 : Int} {x8 : Int} {x12 : Int} {M : Mm} {Q : Int → Mm → Prop} {K96 : Int × Int × Mm → Prop} {K268 : Int × Mm → Prop} (C : Cx p s m args meth c cX12_stops 14 RX12 D cy G n0) (hr : meth.sig.returnType = some .int) (h3 : n0 = 243) (hn : M.2.2.2 = n0) (ho0 : o0 < 243 ∧ (SH o0).1 = 12) (hQ : ∀ x M, Q x M → Qp (some (vI x)) M) (hK96 : ∀ (x6 : Int) (x8 : Int) (M : Mm), K96 (x6, x8, M) → M.2.2.2 = n0 → WW p l e ({ frames := 4, cells := 0, slots := 0, locals := 115 }) s m args below meth c (ZQ below args s D cy G n0 Qp n0) 14 D cy G n0 96 [(0, vR (some o0)), (2, vI x2), (3, vI x3), (4, vI x4), (5, vI x5), (6, vI x6), (7, vI x7), (8, vI x8)] [] M) (hK268 : ∀ (x12 : Int) (M : Mm), K268 (x12, M) → M.2.2.2 = n0 → WW p l e ({ frames := 4, cells := 0, slots := 0, locals := 115 }) s m args below meth c (ZQ below args s D cy G n0 Qp n0) 14 D cy G n0 268 [(0, vR (some o0)), (2, vI x2), (3, vI x3), (4, vI x4), (5, vI x5), (6, vI x6), (7, vI x7), (8, vI x8), (12, vI x12)] [] M) (h : F_X12_stops_268 o0 x2 x3 x4 x5 x6 x7 x8 Q K96 K268 x12 M) : WW p l e ({ frames := 4, cells := 0, slots := 0, locals := 115 }) s m args below meth c (ZQ below args s D cy G n0 Qp n0) 14 D cy G n0 268 [(0, vR (some o0)), (2, vI x2), (3, vI x3), (4, vI x4), (5, vI x5), (6, vI x6), (7, vI x7), (8, vI x8), (12, vI x12)] [] M := by
  unfold F_X12_stops_268 at h
  refine w_iload C dX12_stops_268 (mem_k 8 rfl) ?_
  refine w_iconst C dX12_stops_270 ⟨by decide, by decide⟩ ?_
  refine w_icmp_ge (tgt := 294) C dX12_stops_271 (by decide) (fun q => ?_) (fun q => ?_)
  · replace h := h.1 q
    obtain ⟨v1, ev1⟩ : ∃ z : Int, z = x8 + 1 := ⟨_, rfl⟩
    refine x_iinc (L' := [(8, vI v1), (0, vR (some o0)), (2, vI x2), (3, vI x3), (4, vI x4), (5, vI x5), (6, vI x6), (7, vI x7), (12, vI x12)]) C dX12_stops_294 (mem_k 7 rfl) (by decide) h.1 ev1 rfl ?_
    replace h := h.2 v1 ev1
    refine w_goto (tgt := 96) C dX12_stops_297 (by decide) ?_
    refine x_pc (pc2 := 96) rfl ?_
    refine x_pick (L' := [(0, vR (some o0)), (2, vI x2), (3, vI x3), (4, vI x4), (5, vI x5), (6, vI x6), (7, vI x7), (8, vI v1)]) [1, 2, 3, 4, 5, 6, 7, 0] rfl ?_
    exact hK96 x6 v1 M h hn
  · replace h := h.2 q
    refine w_aload_n C dX12_stops_274 rfl (mem_k 0 rfl) ?_
    refine x_getR C dX12_stops_275 fw_X12_77 (isO.n (ci := 12) ⟨rfl, ho0⟩ (hn.trans h3)) (fun r2 er2 => ?_)
    replace h := h r2 er2
    refine w_iload C dX12_stops_278 (mem_k 8 rfl) ?_
    refine w_aload_n C dX12_stops_280 rfl (mem_k 0 rfl) ?_
    refine x_getR C dX12_stops_281 fw_X12_74 (isO.n (ci := 12) ⟨rfl, ho0⟩ (hn.trans h3)) (fun r3 er3 => ?_)
    replace h := h r3 er3
    refine w_iload C dX12_stops_284 (mem_k 8 rfl) ?_
    obtain ⟨o4, g5, h⟩ := h
    refine x_iald C dX12_stops_286 (isA.n g5 (hn.trans h3)) ?_
    obtain ⟨o6, g7, h⟩ := h
    refine x_iast C dX12_stops_287 (isA.n g7 (hn.trans h3)) (fun M8 eM8 hn9 => ?_)
    replace h := h M8 eM8
    replace hn9 := hn9.trans hn
    obtain ⟨v10, ev10⟩ : ∃ z : Int, z = x12 + 1 := ⟨_, rfl⟩
    refine x_iinc (L' := [(12, vI v10), (0, vR (some o0)), (2, vI x2), (3, vI x3), (4, vI x4), (5, vI x5), (6, vI x6), (7, vI x7), (8, vI x8)]) C dX12_stops_288 (mem_k 8 rfl) (by decide) h.1 ev10 rfl ?_
    replace h := h.2 v10 ev10
    refine w_goto (tgt := 268) C dX12_stops_291 (by decide) ?_
    refine x_pc (pc2 := 268) rfl ?_
    refine x_pick (L' := [(0, vR (some o0)), (2, vI x2), (3, vI x3), (4, vI x4), (5, vI x5), (6, vI x6), (7, vI x7), (8, vI x8), (12, vI v10)]) [1, 2, 3, 4, 5, 6, 7, 8, 0] rfl ?_
    exact hK268 v10 M8 h hn9
set_option maxRecDepth 100000 in
set_option maxHeartbeats 4000000 in
theorem k_X12_stops_268 {o0 : Nat} {x2 : Int} {x3 : Int} {x4 : Int} {x5 : Int} {x6 : Int} {x7 : Int} {x8 : Int} {x12 : Int} {M : Mm} {Q : Int → Mm → Prop} {K96 : Int × Int × Mm → Prop} (C : Cx p s m args meth c cX12_stops 14 RX12 D cy G n0) (hr : meth.sig.returnType = some .int) (h3 : n0 = 243) (hn : M.2.2.2 = n0) (ho0 : o0 < 243 ∧ (SH o0).1 = 12) (hQ : ∀ x M, Q x M → Qp (some (vI x)) M) (hK96 : ∀ (x6 : Int) (x8 : Int) (M : Mm), K96 (x6, x8, M) → M.2.2.2 = n0 → WW p l e ({ frames := 4, cells := 0, slots := 0, locals := 115 }) s m args below meth c (ZQ below args s D cy G n0 Qp n0) 14 D cy G n0 96 [(0, vR (some o0)), (2, vI x2), (3, vI x3), (4, vI x4), (5, vI x5), (6, vI x6), (7, vI x7), (8, vI x8)] [] M) (h : P_X12_stops_268 o0 x2 x3 x4 x5 x6 x7 x8 x12 M Q K96) : WW p l e ({ frames := 4, cells := 0, slots := 0, locals := 115 }) s m args below meth c (ZQ below args s D cy G n0 Qp n0) 14 D cy G n0 268 [(0, vR (some o0)), (2, vI x2), (3, vI x3), (4, vI x4), (5, vI x5), (6, vI x6), (7, vI x7), (8, vI x8), (12, vI x12)] [] M := by
  refine lpW_sound (P := fun y : Int × Mm => y.2.2.2.2 = n0 → WW p l e ({ frames := 4, cells := 0, slots := 0, locals := 115 }) s m args below meth c (ZQ below args s D cy G n0 Qp n0) 14 D cy G n0 268 [(0, vR (some o0)), (2, vI x2), (3, vI x3), (4, vI x4), (5, vI x5), (6, vI x6), (7, vI x7), (8, vI x8), (12, vI y.1)] [] y.2) ?_ h hn
  intro K y hK hF
  obtain ⟨x12, M⟩ := y
  intro hn
  exact f_X12_stops_268 C hr h3 hn ho0 hQ hK96 (fun x12 M hk => hK (x12, M) hk) hF
set_option maxRecDepth 100000 in
set_option maxHeartbeats 4000000 in
theorem k_X12_stops_244 {o0 : Nat} {x2 : Int} {x3 : Int} {x4 : Int} {x5 : Int} {x6 : Int} {x7 : Int} {x8 : Int} {x10 : Int} {x11 : Int} {M : Mm} {Q : Int → Mm → Prop} {K96 : Int × Int × Mm → Prop} (C : Cx p s m args meth c cX12_stops 14 RX12 D cy G n0) (hr : meth.sig.returnType = some .int) (h3 : n0 = 243) (hn : M.2.2.2 = n0) (ho0 : o0 < 243 ∧ (SH o0).1 = 12) (hQ : ∀ x M, Q x M → Qp (some (vI x)) M) (hK96 : ∀ (x6 : Int) (x8 : Int) (M : Mm), K96 (x6, x8, M) → M.2.2.2 = n0 → WW p l e ({ frames := 4, cells := 0, slots := 0, locals := 115 }) s m args below meth c (ZQ below args s D cy G n0 Qp n0) 14 D cy G n0 96 [(0, vR (some o0)), (2, vI x2), (3, vI x3), (4, vI x4), (5, vI x5), (6, vI x6), (7, vI x7), (8, vI x8)] [] M) (h : P_X12_stops_244 o0 x2 x3 x4 x5 x6 x7 x8 x10 x11 M Q K96) : WW p l e ({ frames := 4, cells := 0, slots := 0, locals := 115 }) s m args below meth c (ZQ below args s D cy G n0 Qp n0) 14 D cy G n0 244 [(0, vR (some o0)), (2, vI x2), (3, vI x3), (4, vI x4), (5, vI x5), (6, vI x6), (7, vI x7), (8, vI x8), (10, vI x10), (11, vI x11)] [] M := by
  unfold P_X12_stops_244 at h
  refine w_iload C dX12_stops_244 (mem_k 8 rfl) ?_
  refine w_if_eq (tgt := 294) C dX12_stops_246 (by decide) (fun q => ?_) (fun q => ?_)
  · replace h := h.1 q
    obtain ⟨v11, ev11⟩ : ∃ z : Int, z = x8 + 1 := ⟨_, rfl⟩
    refine x_iinc (L' := [(8, vI v11), (0, vR (some o0)), (2, vI x2), (3, vI x3), (4, vI x4), (5, vI x5), (6, vI x6), (7, vI x7), (10, vI x10), (11, vI x11)]) C dX12_stops_294 (mem_k 7 rfl) (by decide) h.1 ev11 rfl ?_
    replace h := h.2 v11 ev11
    refine w_goto (tgt := 96) C dX12_stops_297 (by decide) ?_
    refine x_pc (pc2 := 96) rfl ?_
    refine x_pick (L' := [(0, vR (some o0)), (2, vI x2), (3, vI x3), (4, vI x4), (5, vI x5), (6, vI x6), (7, vI x7), (8, vI v11)]) [1, 2, 3, 4, 5, 6, 7, 0] rfl ?_
    exact hK96 x6 v11 M h hn
  · replace h := h.2 q
    refine w_iload C dX12_stops_249 (mem_k 5 rfl) ?_
    refine w_if_lt (tgt := 261) C dX12_stops_251 (by decide) (fun q => ?_) (fun q => ?_)
    · replace h := h.1 q
      refine w_iload C dX12_stops_261 (mem_k 9 rfl) ?_
      refine x_istore (L' := [(6, vI x11), (0, vR (some o0)), (2, vI x2), (3, vI x3), (4, vI x4), (5, vI x5), (7, vI x7), (8, vI x8), (10, vI x10), (11, vI x11)]) C dX12_stops_263 (by decide) rfl ?_
      refine w_iconst C dX12_stops_265 ⟨by decide, by decide⟩ ?_
      refine x_istore (L' := [(12, vI 0), (6, vI x11), (0, vR (some o0)), (2, vI x2), (3, vI x3), (4, vI x4), (5, vI x5), (7, vI x7), (8, vI x8), (10, vI x10), (11, vI x11)]) C dX12_stops_266 (by decide) rfl ?_
      refine x_pc (pc2 := 268) rfl ?_
      refine x_pick (L' := [(0, vR (some o0)), (2, vI x2), (3, vI x3), (4, vI x4), (5, vI x5), (6, vI x11), (7, vI x7), (8, vI x8), (12, vI 0)]) [2, 3, 4, 5, 6, 1, 7, 8, 0] rfl ?_
      exact k_X12_stops_268 C hr h3 hn ho0 hQ hK96 h
    · replace h := h.2 q
      refine w_iload C dX12_stops_254 (mem_k 9 rfl) ?_
      refine w_iload C dX12_stops_256 (mem_k 5 rfl) ?_
      refine w_icmp_ge (tgt := 294) C dX12_stops_258 (by decide) (fun q => ?_) (fun q => ?_)
      · replace h := h.1 q
        obtain ⟨v12, ev12⟩ : ∃ z : Int, z = x8 + 1 := ⟨_, rfl⟩
        refine x_iinc (L' := [(8, vI v12), (0, vR (some o0)), (2, vI x2), (3, vI x3), (4, vI x4), (5, vI x5), (6, vI x6), (7, vI x7), (10, vI x10), (11, vI x11)]) C dX12_stops_294 (mem_k 7 rfl) (by decide) h.1 ev12 rfl ?_
        replace h := h.2 v12 ev12
        refine w_goto (tgt := 96) C dX12_stops_297 (by decide) ?_
        refine x_pc (pc2 := 96) rfl ?_
        refine x_pick (L' := [(0, vR (some o0)), (2, vI x2), (3, vI x3), (4, vI x4), (5, vI x5), (6, vI x6), (7, vI x7), (8, vI v12)]) [1, 2, 3, 4, 5, 6, 7, 0] rfl ?_
        exact hK96 x6 v12 M h hn
      · replace h := h.2 q
        refine w_iload C dX12_stops_261 (mem_k 9 rfl) ?_
        refine x_istore (L' := [(6, vI x11), (0, vR (some o0)), (2, vI x2), (3, vI x3), (4, vI x4), (5, vI x5), (7, vI x7), (8, vI x8), (10, vI x10), (11, vI x11)]) C dX12_stops_263 (by decide) rfl ?_
        refine w_iconst C dX12_stops_265 ⟨by decide, by decide⟩ ?_
        refine x_istore (L' := [(12, vI 0), (6, vI x11), (0, vR (some o0)), (2, vI x2), (3, vI x3), (4, vI x4), (5, vI x5), (7, vI x7), (8, vI x8), (10, vI x10), (11, vI x11)]) C dX12_stops_266 (by decide) rfl ?_
        refine x_pc (pc2 := 268) rfl ?_
        refine x_pick (L' := [(0, vR (some o0)), (2, vI x2), (3, vI x3), (4, vI x4), (5, vI x5), (6, vI x11), (7, vI x7), (8, vI x8), (12, vI 0)]) [2, 3, 4, 5, 6, 1, 7, 8, 0] rfl ?_
        exact k_X12_stops_268 C hr h3 hn ho0 hQ hK96 h
set_option maxRecDepth 100000 in
set_option maxHeartbeats 4000000 in
theorem f_X12_stops_192 {o0 : Nat} {x2 : Int} {x3 : Int} {x4 : Int} {x5 : Int} {x6 : Int} {x7 : Int} {x8 : Int} {x10 : Int} {x11 : Int} {x12 : Int} {M : Mm} {Q : Int → Mm → Prop} {K96 : Int × Int × Mm → Prop} {K192 : Int × Int → Prop} (C : Cx p s m args meth c cX12_stops 14 RX12 D cy G n0) (hr : meth.sig.returnType = some .int) (h3 : n0 = 243) (hn : M.2.2.2 = n0) (ho0 : o0 < 243 ∧ (SH o0).1 = 12) (hQ : ∀ x M, Q x M → Qp (some (vI x)) M) (hK96 : ∀ (x6 : Int) (x8 : Int) (M : Mm), K96 (x6, x8, M) → M.2.2.2 = n0 → WW p l e ({ frames := 4, cells := 0, slots := 0, locals := 115 }) s m args below meth c (ZQ below args s D cy G n0 Qp n0) 14 D cy G n0 96 [(0, vR (some o0)), (2, vI x2), (3, vI x3), (4, vI x4), (5, vI x5), (6, vI x6), (7, vI x7), (8, vI x8)] [] M) (hK192 : ∀ (x11 : Int) (x12 : Int), K192 (x11, x12) → WW p l e ({ frames := 4, cells := 0, slots := 0, locals := 115 }) s m args below meth c (ZQ below args s D cy G n0 Qp n0) 14 D cy G n0 192 [(0, vR (some o0)), (2, vI x2), (3, vI x3), (4, vI x4), (5, vI x5), (6, vI x6), (7, vI x7), (8, vI x8), (10, vI x10), (11, vI x11), (12, vI x12)] [] M) (h : F_X12_stops_192 o0 x2 x3 x4 x5 x6 x7 x8 x10 M Q K96 K192 x11 x12) : WW p l e ({ frames := 4, cells := 0, slots := 0, locals := 115 }) s m args below meth c (ZQ below args s D cy G n0 Qp n0) 14 D cy G n0 192 [(0, vR (some o0)), (2, vI x2), (3, vI x3), (4, vI x4), (5, vI x5), (6, vI x6), (7, vI x7), (8, vI x8), (10, vI x10), (11, vI x11), (12, vI x12)] [] M := by
  unfold F_X12_stops_192 at h
  refine w_iload C dX12_stops_192 (mem_k 10 rfl) ?_
  refine w_aload_n C dX12_stops_194 rfl (mem_k 0 rfl) ?_
  refine x_getR C dX12_stops_195 fw_X12_31 (isO.n (ci := 12) ⟨rfl, ho0⟩ (hn.trans h3)) (fun r13 er13 => ?_)
  replace h := h r13 er13
  refine w_bipush C dX12_stops_198 (by decide) ?_
  refine w_iload_n C dX12_stops_200 rfl (mem_k 1 rfl) ?_
  refine w_iadd C dX12_stops_201 h.1 ?_
  replace h := h.2
  obtain ⟨o14, g15, h⟩ := h
  refine x_iald C dX12_stops_202 (isA.n g15 (hn.trans h3)) ?_
  refine w_icmp_ge (tgt := 244) C dX12_stops_203 (by decide) (fun q => ?_) (fun q => ?_)
  · replace h := h.1 q
    refine x_pc (pc2 := 244) rfl ?_
    refine x_pick (L' := [(0, vR (some o0)), (2, vI x2), (3, vI x3), (4, vI x4), (5, vI x5), (6, vI x6), (7, vI x7), (8, vI x8), (10, vI x10), (11, vI x11)]) [0, 1, 2, 3, 4, 5, 6, 7, 8, 9] rfl ?_
    exact k_X12_stops_244 C hr h3 hn ho0 hQ hK96 h
  · replace h := h.2 q
    refine w_iload C dX12_stops_206 (mem_k 8 rfl) ?_
    refine w_if_eq (tgt := 244) C dX12_stops_208 (by decide) (fun q => ?_) (fun q => ?_)
    · replace h := h.1 q
      refine x_pc (pc2 := 244) rfl ?_
      refine x_pick (L' := [(0, vR (some o0)), (2, vI x2), (3, vI x3), (4, vI x4), (5, vI x5), (6, vI x6), (7, vI x7), (8, vI x8), (10, vI x10), (11, vI x11)]) [0, 1, 2, 3, 4, 5, 6, 7, 8, 9] rfl ?_
      exact k_X12_stops_244 C hr h3 hn ho0 hQ hK96 h
    · replace h := h.2 q
      refine w_aload_n C dX12_stops_211 rfl (mem_k 0 rfl) ?_
      refine w_iload C dX12_stops_212 (mem_k 10 rfl) ?_
      refine w_iload_n C dX12_stops_214 rfl (mem_k 2 rfl) ?_
      refine w_iload C dX12_stops_215 (mem_k 3 rfl) ?_
      refine cl_X12_worst (ck_X12_246 ⟨by decide, by decide⟩) C dX12_stops_217 hn h3 (Nat.le_of_ble_eq_true rfl) (isO.n (ci := 12) ⟨rfl, ho0⟩ (hn.trans h3)) h (fun v16 h => ?_)
      refine x_istore (L' := [(13, vI v16), (0, vR (some o0)), (2, vI x2), (3, vI x3), (4, vI x4), (5, vI x5), (6, vI x6), (7, vI x7), (8, vI x8), (10, vI x10), (11, vI x11), (12, vI x12)]) C dX12_stops_220 (by decide) rfl ?_
      refine w_iload C dX12_stops_222 (mem_k 0 rfl) ?_
      refine w_iload C dX12_stops_224 (mem_k 10 rfl) ?_
      refine w_icmp_le (tgt := 234) C dX12_stops_226 (by decide) (fun q => ?_) (fun q => ?_)
      · replace h := h.1 q
        refine w_iload C dX12_stops_234 (mem_k 10 rfl) ?_
        refine x_istore (L' := [(11, vI x11), (13, vI v16), (0, vR (some o0)), (2, vI x2), (3, vI x3), (4, vI x4), (5, vI x5), (6, vI x6), (7, vI x7), (8, vI x8), (10, vI x10), (12, vI x12)]) C dX12_stops_236 (by decide) rfl ?_
        obtain ⟨v17, ev17⟩ : ∃ z : Int, z = x12 + 1 := ⟨_, rfl⟩
        refine x_iinc (L' := [(12, vI v17), (11, vI x11), (13, vI v16), (0, vR (some o0)), (2, vI x2), (3, vI x3), (4, vI x4), (5, vI x5), (6, vI x6), (7, vI x7), (8, vI x8), (10, vI x10)]) C dX12_stops_238 (mem_k 11 rfl) (by decide) h.1 ev17 rfl ?_
        replace h := h.2 v17 ev17
        refine w_goto (tgt := 192) C dX12_stops_241 (by decide) ?_
        refine x_pc (pc2 := 192) rfl ?_
        refine x_pick (L' := [(0, vR (some o0)), (2, vI x2), (3, vI x3), (4, vI x4), (5, vI x5), (6, vI x6), (7, vI x7), (8, vI x8), (10, vI x10), (11, vI x11), (12, vI v17)]) [3, 4, 5, 6, 7, 8, 9, 10, 11, 1, 0] rfl ?_
        exact hK192 x11 v17 h
      · replace h := h.2 q
        refine w_iload C dX12_stops_229 (mem_k 0 rfl) ?_
        refine w_goto (tgt := 236) C dX12_stops_231 (by decide) ?_
        refine x_istore (L' := [(11, vI v16), (13, vI v16), (0, vR (some o0)), (2, vI x2), (3, vI x3), (4, vI x4), (5, vI x5), (6, vI x6), (7, vI x7), (8, vI x8), (10, vI x10), (12, vI x12)]) C dX12_stops_236 (by decide) rfl ?_
        obtain ⟨v18, ev18⟩ : ∃ z : Int, z = x12 + 1 := ⟨_, rfl⟩
        refine x_iinc (L' := [(12, vI v18), (11, vI v16), (13, vI v16), (0, vR (some o0)), (2, vI x2), (3, vI x3), (4, vI x4), (5, vI x5), (6, vI x6), (7, vI x7), (8, vI x8), (10, vI x10)]) C dX12_stops_238 (mem_k 11 rfl) (by decide) h.1 ev18 rfl ?_
        replace h := h.2 v18 ev18
        refine w_goto (tgt := 192) C dX12_stops_241 (by decide) ?_
        refine x_pc (pc2 := 192) rfl ?_
        refine x_pick (L' := [(0, vR (some o0)), (2, vI x2), (3, vI x3), (4, vI x4), (5, vI x5), (6, vI x6), (7, vI x7), (8, vI x8), (10, vI x10), (11, vI v16), (12, vI v18)]) [3, 4, 5, 6, 7, 8, 9, 10, 11, 1, 0] rfl ?_
        exact hK192 v16 v18 h
set_option maxRecDepth 100000 in
set_option maxHeartbeats 4000000 in
theorem k_X12_stops_192 {o0 : Nat} {x2 : Int} {x3 : Int} {x4 : Int} {x5 : Int} {x6 : Int} {x7 : Int} {x8 : Int} {x10 : Int} {x11 : Int} {x12 : Int} {M : Mm} {Q : Int → Mm → Prop} {K96 : Int × Int × Mm → Prop} (C : Cx p s m args meth c cX12_stops 14 RX12 D cy G n0) (hr : meth.sig.returnType = some .int) (h3 : n0 = 243) (hn : M.2.2.2 = n0) (ho0 : o0 < 243 ∧ (SH o0).1 = 12) (hQ : ∀ x M, Q x M → Qp (some (vI x)) M) (hK96 : ∀ (x6 : Int) (x8 : Int) (M : Mm), K96 (x6, x8, M) → M.2.2.2 = n0 → WW p l e ({ frames := 4, cells := 0, slots := 0, locals := 115 }) s m args below meth c (ZQ below args s D cy G n0 Qp n0) 14 D cy G n0 96 [(0, vR (some o0)), (2, vI x2), (3, vI x3), (4, vI x4), (5, vI x5), (6, vI x6), (7, vI x7), (8, vI x8)] [] M) (h : P_X12_stops_192 o0 x2 x3 x4 x5 x6 x7 x8 x10 x11 x12 M Q K96) : WW p l e ({ frames := 4, cells := 0, slots := 0, locals := 115 }) s m args below meth c (ZQ below args s D cy G n0 Qp n0) 14 D cy G n0 192 [(0, vR (some o0)), (2, vI x2), (3, vI x3), (4, vI x4), (5, vI x5), (6, vI x6), (7, vI x7), (8, vI x8), (10, vI x10), (11, vI x11), (12, vI x12)] [] M := by
  refine lpW_sound (P := fun y : Int × Int => WW p l e ({ frames := 4, cells := 0, slots := 0, locals := 115 }) s m args below meth c (ZQ below args s D cy G n0 Qp n0) 14 D cy G n0 192 [(0, vR (some o0)), (2, vI x2), (3, vI x3), (4, vI x4), (5, vI x5), (6, vI x6), (7, vI x7), (8, vI x8), (10, vI x10), (11, vI y.1), (12, vI y.2)] [] M) ?_ h
  intro K y hK hF
  obtain ⟨x11, x12⟩ := y
  exact f_X12_stops_192 C hr h3 hn ho0 hQ hK96 (fun x11 x12 hk => hK (x11, x12) hk) hF
set_option maxRecDepth 100000 in
set_option maxHeartbeats 4000000 in
theorem f_X12_stops_116 {o0 : Nat} {x2 : Int} {x3 : Int} {x4 : Int} {x5 : Int} {x6 : Int} {x7 : Int} {x8 : Int} {x9 : Int} {x10 : Int} {x11 : Int} {M : Mm} {Q : Int → Mm → Prop} {K96 : Int × Int × Mm → Prop} {K116 : Int × Int × Int × Mm → Prop} (C : Cx p s m args meth c cX12_stops 14 RX12 D cy G n0) (hr : meth.sig.returnType = some .int) (h3 : n0 = 243) (hn : M.2.2.2 = n0) (ho0 : o0 < 243 ∧ (SH o0).1 = 12) (hQ : ∀ x M, Q x M → Qp (some (vI x)) M) (hK96 : ∀ (x6 : Int) (x8 : Int) (M : Mm), K96 (x6, x8, M) → M.2.2.2 = n0 → WW p l e ({ frames := 4, cells := 0, slots := 0, locals := 115 }) s m args below meth c (ZQ below args s D cy G n0 Qp n0) 14 D cy G n0 96 [(0, vR (some o0)), (2, vI x2), (3, vI x3), (4, vI x4), (5, vI x5), (6, vI x6), (7, vI x7), (8, vI x8)] [] M) (hK116 : ∀ (x9 : Int) (x10 : Int) (x11 : Int) (M : Mm), K116 (x9, x10, x11, M) → M.2.2.2 = n0 → WW p l e ({ frames := 4, cells := 0, slots := 0, locals := 115 }) s m args below meth c (ZQ below args s D cy G n0 Qp n0) 14 D cy G n0 116 [(0, vR (some o0)), (2, vI x2), (3, vI x3), (4, vI x4), (5, vI x5), (6, vI x6), (7, vI x7), (8, vI x8), (9, vI x9), (10, vI x10), (11, vI x11)] [] M) (h : F_X12_stops_116 o0 x2 x3 x4 x5 x6 x7 x8 Q K96 K116 x9 x10 x11 M) : WW p l e ({ frames := 4, cells := 0, slots := 0, locals := 115 }) s m args below meth c (ZQ below args s D cy G n0 Qp n0) 14 D cy G n0 116 [(0, vR (some o0)), (2, vI x2), (3, vI x3), (4, vI x4), (5, vI x5), (6, vI x6), (7, vI x7), (8, vI x8), (9, vI x9), (10, vI x10), (11, vI x11)] [] M := by
  unfold F_X12_stops_116 at h
  refine w_iload C dX12_stops_116 (mem_k 10 rfl) ?_
  refine w_if_lt (tgt := 186) C dX12_stops_118 (by decide) (fun q => ?_) (fun q => ?_)
  · replace h := h.1 q
    refine w_iconst C dX12_stops_186 ⟨by decide, by decide⟩ ?_
    refine x_istore (L' := [(11, vI 0), (0, vR (some o0)), (2, vI x2), (3, vI x3), (4, vI x4), (5, vI x5), (6, vI x6), (7, vI x7), (8, vI x8), (9, vI x9), (10, vI x10)]) C dX12_stops_187 (by decide) rfl ?_
    refine w_iconst C dX12_stops_189 ⟨by decide, by decide⟩ ?_
    refine x_istore (L' := [(12, vI 0), (11, vI 0), (0, vR (some o0)), (2, vI x2), (3, vI x3), (4, vI x4), (5, vI x5), (6, vI x6), (7, vI x7), (8, vI x8), (9, vI x9), (10, vI x10)]) C dX12_stops_190 (by decide) rfl ?_
    refine x_pc (pc2 := 192) rfl ?_
    refine x_pick (L' := [(0, vR (some o0)), (2, vI x2), (3, vI x3), (4, vI x4), (5, vI x5), (6, vI x6), (7, vI x7), (8, vI x8), (10, vI x10), (11, vI 0), (12, vI 0)]) [2, 3, 4, 5, 6, 7, 8, 9, 11, 1, 0] rfl ?_
    exact k_X12_stops_192 C hr h3 hn ho0 hQ hK96 h
  · replace h := h.2 q
    refine w_aload_n C dX12_stops_121 rfl (mem_k 0 rfl) ?_
    refine x_getR C dX12_stops_122 fw_X12_74 (isO.n (ci := 12) ⟨rfl, ho0⟩ (hn.trans h3)) (fun r19 er19 => ?_)
    replace h := h r19 er19
    refine w_iload C dX12_stops_125 (mem_k 10 rfl) ?_
    refine w_iconst C dX12_stops_127 ⟨by decide, by decide⟩ ?_
    refine w_iload C dX12_stops_128 (mem_k 8 rfl) ?_
    refine w_iload_n C dX12_stops_130 rfl (mem_k 2 rfl) ?_
    refine x_irem C dX12_stops_131 h.1 ?_
    replace h := h.2
    refine w_iadd C dX12_stops_132 h.1 ?_
    replace h := h.2
    obtain ⟨o20, g21, h⟩ := h
    refine x_iast C dX12_stops_133 (isA.n g21 (hn.trans h3)) (fun M22 eM22 hn23 => ?_)
    replace h := h M22 eM22
    replace hn23 := hn23.trans hn
    refine w_iload C dX12_stops_134 (mem_k 8 rfl) ?_
    refine w_iload_n C dX12_stops_136 rfl (mem_k 2 rfl) ?_
    refine x_idiv C dX12_stops_137 h.1 ?_
    replace h := h.2
    refine x_nmI (fun v24 ev24 => ?_)
    replace h := h v24 ev24
    refine x_istore (L' := [(9, vI v24), (0, vR (some o0)), (2, vI x2), (3, vI x3), (4, vI x4), (5, vI x5), (6, vI x6), (7, vI x7), (8, vI x8), (10, vI x10), (11, vI x11)]) C dX12_stops_138 (by decide) rfl ?_
    refine w_iload C dX12_stops_140 (mem_k 9 rfl) ?_
    refine w_if_eq (tgt := 177) C dX12_stops_142 (by decide) (fun q => ?_) (fun q => ?_)
    · replace h := h.1 q
      refine w_iconst C dX12_stops_177 ⟨by decide, by decide⟩ ?_
      refine x_istore (L' := [(10, vI 0), (9, vI v24), (0, vR (some o0)), (2, vI x2), (3, vI x3), (4, vI x4), (5, vI x5), (6, vI x6), (7, vI x7), (8, vI x8), (11, vI x11)]) C dX12_stops_178 (by decide) rfl ?_
      obtain ⟨v25, ev25⟩ : ∃ z : Int, z = x11 + (-1) := ⟨_, rfl⟩
      refine x_iinc (L' := [(11, vI v25), (10, vI 0), (9, vI v24), (0, vR (some o0)), (2, vI x2), (3, vI x3), (4, vI x4), (5, vI x5), (6, vI x6), (7, vI x7), (8, vI x8)]) C dX12_stops_180 (mem_k 10 rfl) (by decide) h.1 ev25 rfl ?_
      replace h := h.2 v25 ev25
      refine w_goto (tgt := 116) C dX12_stops_183 (by decide) ?_
      refine x_pc (pc2 := 116) rfl ?_
      refine x_pick (L' := [(0, vR (some o0)), (2, vI x2), (3, vI x3), (4, vI x4), (5, vI x5), (6, vI x6), (7, vI x7), (8, vI x8), (9, vI v24), (10, vI 0), (11, vI v25)]) [3, 4, 5, 6, 7, 8, 9, 10, 2, 1, 0] rfl ?_
      exact hK116 v24 0 v25 M22 h hn23
    · replace h := h.2 q
      refine w_iload C dX12_stops_145 (mem_k 10 rfl) ?_
      refine w_iload C dX12_stops_147 (mem_k 4 rfl) ?_
      refine w_iconst C dX12_stops_149 ⟨by decide, by decide⟩ ?_
      refine w_isub C dX12_stops_150 h.1 ?_
      replace h := h.2
      refine w_icmp_eq (tgt := 173) C dX12_stops_151 (by decide) (fun q => ?_) (fun q => ?_)
      · replace h := h.1 q
        refine w_iconst C dX12_stops_173 ⟨by decide, by decide⟩ ?_
        refine w_goto (tgt := 178) C dX12_stops_174 (by decide) ?_
        refine x_istore (L' := [(10, vI 1), (9, vI v24), (0, vR (some o0)), (2, vI x2), (3, vI x3), (4, vI x4), (5, vI x5), (6, vI x6), (7, vI x7), (8, vI x8), (11, vI x11)]) C dX12_stops_178 (by decide) rfl ?_
        obtain ⟨v26, ev26⟩ : ∃ z : Int, z = x11 + (-1) := ⟨_, rfl⟩
        refine x_iinc (L' := [(11, vI v26), (10, vI 1), (9, vI v24), (0, vR (some o0)), (2, vI x2), (3, vI x3), (4, vI x4), (5, vI x5), (6, vI x6), (7, vI x7), (8, vI x8)]) C dX12_stops_180 (mem_k 10 rfl) (by decide) h.1 ev26 rfl ?_
        replace h := h.2 v26 ev26
        refine w_goto (tgt := 116) C dX12_stops_183 (by decide) ?_
        refine x_pc (pc2 := 116) rfl ?_
        refine x_pick (L' := [(0, vR (some o0)), (2, vI x2), (3, vI x3), (4, vI x4), (5, vI x5), (6, vI x6), (7, vI x7), (8, vI x8), (9, vI v24), (10, vI 1), (11, vI v26)]) [3, 4, 5, 6, 7, 8, 9, 10, 2, 1, 0] rfl ?_
        exact hK116 v24 1 v26 M22 h hn23
      · replace h := h.2 q
        refine w_aload_n C dX12_stops_154 rfl (mem_k 1 rfl) ?_
        refine x_getR C dX12_stops_155 fw_X12_74 (isO.n (ci := 12) ⟨rfl, ho0⟩ (hn23.trans h3)) (fun r27 er27 => ?_)
        replace h := h r27 er27
        refine w_iload C dX12_stops_158 (mem_k 10 rfl) ?_
        obtain ⟨o28, g29, h⟩ := h
        refine x_iald C dX12_stops_160 (isA.n g29 (hn23.trans h3)) ?_
        refine w_aload_n C dX12_stops_161 rfl (mem_k 1 rfl) ?_
        refine x_getR C dX12_stops_162 fw_X12_74 (isO.n (ci := 12) ⟨rfl, ho0⟩ (hn23.trans h3)) (fun r30 er30 => ?_)
        replace h := h r30 er30
        refine w_iload C dX12_stops_165 (mem_k 10 rfl) ?_
        refine w_iconst C dX12_stops_167 ⟨by decide, by decide⟩ ?_
        refine w_iadd C dX12_stops_168 h.1 ?_
        replace h := h.2
        obtain ⟨o31, g32, h⟩ := h
        refine x_iald C dX12_stops_169 (isA.n g32 (hn23.trans h3)) ?_
        refine w_icmp_gt (tgt := 177) C dX12_stops_170 (by decide) (fun q => ?_) (fun q => ?_)
        · replace h := h.1 q
          refine w_iconst C dX12_stops_177 ⟨by decide, by decide⟩ ?_
          refine x_istore (L' := [(10, vI 0), (9, vI v24), (0, vR (some o0)), (2, vI x2), (3, vI x3), (4, vI x4), (5, vI x5), (6, vI x6), (7, vI x7), (8, vI x8), (11, vI x11)]) C dX12_stops_178 (by decide) rfl ?_
          obtain ⟨v33, ev33⟩ : ∃ z : Int, z = x11 + (-1) := ⟨_, rfl⟩
          refine x_iinc (L' := [(11, vI v33), (10, vI 0), (9, vI v24), (0, vR (some o0)), (2, vI x2), (3, vI x3), (4, vI x4), (5, vI x5), (6, vI x6), (7, vI x7), (8, vI x8)]) C dX12_stops_180 (mem_k 10 rfl) (by decide) h.1 ev33 rfl ?_
          replace h := h.2 v33 ev33
          refine w_goto (tgt := 116) C dX12_stops_183 (by decide) ?_
          refine x_pc (pc2 := 116) rfl ?_
          refine x_pick (L' := [(0, vR (some o0)), (2, vI x2), (3, vI x3), (4, vI x4), (5, vI x5), (6, vI x6), (7, vI x7), (8, vI x8), (9, vI v24), (10, vI 0), (11, vI v33)]) [3, 4, 5, 6, 7, 8, 9, 10, 2, 1, 0] rfl ?_
          exact hK116 v24 0 v33 M22 h hn23
        · replace h := h.2 q
          refine w_iconst C dX12_stops_173 ⟨by decide, by decide⟩ ?_
          refine w_goto (tgt := 178) C dX12_stops_174 (by decide) ?_
          refine x_istore (L' := [(10, vI 1), (9, vI v24), (0, vR (some o0)), (2, vI x2), (3, vI x3), (4, vI x4), (5, vI x5), (6, vI x6), (7, vI x7), (8, vI x8), (11, vI x11)]) C dX12_stops_178 (by decide) rfl ?_
          obtain ⟨v34, ev34⟩ : ∃ z : Int, z = x11 + (-1) := ⟨_, rfl⟩
          refine x_iinc (L' := [(11, vI v34), (10, vI 1), (9, vI v24), (0, vR (some o0)), (2, vI x2), (3, vI x3), (4, vI x4), (5, vI x5), (6, vI x6), (7, vI x7), (8, vI x8)]) C dX12_stops_180 (mem_k 10 rfl) (by decide) h.1 ev34 rfl ?_
          replace h := h.2 v34 ev34
          refine w_goto (tgt := 116) C dX12_stops_183 (by decide) ?_
          refine x_pc (pc2 := 116) rfl ?_
          refine x_pick (L' := [(0, vR (some o0)), (2, vI x2), (3, vI x3), (4, vI x4), (5, vI x5), (6, vI x6), (7, vI x7), (8, vI x8), (9, vI v24), (10, vI 1), (11, vI v34)]) [3, 4, 5, 6, 7, 8, 9, 10, 2, 1, 0] rfl ?_
          exact hK116 v24 1 v34 M22 h hn23
set_option maxRecDepth 100000 in
set_option maxHeartbeats 4000000 in
theorem k_X12_stops_116 {o0 : Nat} {x2 : Int} {x3 : Int} {x4 : Int} {x5 : Int} {x6 : Int} {x7 : Int} {x8 : Int} {x9 : Int} {x10 : Int} {x11 : Int} {M : Mm} {Q : Int → Mm → Prop} {K96 : Int × Int × Mm → Prop} (C : Cx p s m args meth c cX12_stops 14 RX12 D cy G n0) (hr : meth.sig.returnType = some .int) (h3 : n0 = 243) (hn : M.2.2.2 = n0) (ho0 : o0 < 243 ∧ (SH o0).1 = 12) (hQ : ∀ x M, Q x M → Qp (some (vI x)) M) (hK96 : ∀ (x6 : Int) (x8 : Int) (M : Mm), K96 (x6, x8, M) → M.2.2.2 = n0 → WW p l e ({ frames := 4, cells := 0, slots := 0, locals := 115 }) s m args below meth c (ZQ below args s D cy G n0 Qp n0) 14 D cy G n0 96 [(0, vR (some o0)), (2, vI x2), (3, vI x3), (4, vI x4), (5, vI x5), (6, vI x6), (7, vI x7), (8, vI x8)] [] M) (h : P_X12_stops_116 o0 x2 x3 x4 x5 x6 x7 x8 x9 x10 x11 M Q K96) : WW p l e ({ frames := 4, cells := 0, slots := 0, locals := 115 }) s m args below meth c (ZQ below args s D cy G n0 Qp n0) 14 D cy G n0 116 [(0, vR (some o0)), (2, vI x2), (3, vI x3), (4, vI x4), (5, vI x5), (6, vI x6), (7, vI x7), (8, vI x8), (9, vI x9), (10, vI x10), (11, vI x11)] [] M := by
  refine lpW_sound (P := fun y : Int × Int × Int × Mm => y.2.2.2.2.2.2 = n0 → WW p l e ({ frames := 4, cells := 0, slots := 0, locals := 115 }) s m args below meth c (ZQ below args s D cy G n0 Qp n0) 14 D cy G n0 116 [(0, vR (some o0)), (2, vI x2), (3, vI x3), (4, vI x4), (5, vI x5), (6, vI x6), (7, vI x7), (8, vI x8), (9, vI y.1), (10, vI y.2.1), (11, vI y.2.2.1)] [] y.2.2.2) ?_ h hn
  intro K y hK hF
  obtain ⟨x9, x10, x11, M⟩ := y
  intro hn
  exact f_X12_stops_116 C hr h3 hn ho0 hQ hK96 (fun x9 x10 x11 M hk => hK (x9, x10, x11, M) hk) hF
set_option maxRecDepth 100000 in
set_option maxHeartbeats 4000000 in
theorem f_X12_stops_96 {o0 : Nat} {x2 : Int} {x3 : Int} {x4 : Int} {x5 : Int} {x6 : Int} {x7 : Int} {x8 : Int} {M : Mm} {Q : Int → Mm → Prop} {K96 : Int × Int × Mm → Prop} (C : Cx p s m args meth c cX12_stops 14 RX12 D cy G n0) (hr : meth.sig.returnType = some .int) (h3 : n0 = 243) (hn : M.2.2.2 = n0) (ho0 : o0 < 243 ∧ (SH o0).1 = 12) (hQ : ∀ x M, Q x M → Qp (some (vI x)) M) (hK96 : ∀ (x6 : Int) (x8 : Int) (M : Mm), K96 (x6, x8, M) → M.2.2.2 = n0 → WW p l e ({ frames := 4, cells := 0, slots := 0, locals := 115 }) s m args below meth c (ZQ below args s D cy G n0 Qp n0) 14 D cy G n0 96 [(0, vR (some o0)), (2, vI x2), (3, vI x3), (4, vI x4), (5, vI x5), (6, vI x6), (7, vI x7), (8, vI x8)] [] M) (h : F_X12_stops_96 o0 x2 x3 x4 x5 x7 Q  K96 x6 x8 M) : WW p l e ({ frames := 4, cells := 0, slots := 0, locals := 115 }) s m args below meth c (ZQ below args s D cy G n0 Qp n0) 14 D cy G n0 96 [(0, vR (some o0)), (2, vI x2), (3, vI x3), (4, vI x4), (5, vI x5), (6, vI x6), (7, vI x7), (8, vI x8)] [] M := by
  unfold F_X12_stops_96 at h
  refine w_iload C dX12_stops_96 (mem_k 7 rfl) ?_
  refine w_iload C dX12_stops_98 (mem_k 6 rfl) ?_
  refine w_icmp_ge (tgt := 300) C dX12_stops_100 (by decide) (fun q => ?_) (fun q => ?_)
  · replace h := h.1 q
    refine w_iload C dX12_stops_300 (mem_k 4 rfl) ?_
    refine w_if_ge (tgt := 310) C dX12_stops_302 (by decide) (fun q => ?_) (fun q => ?_)
    · replace h := h.1 q
      refine w_aload_n C dX12_stops_310 rfl (mem_k 0 rfl) ?_
      refine x_getR C dX12_stops_311 fw_X12_77 (isO.n (ci := 12) ⟨rfl, ho0⟩ (hn.trans h3)) (fun r35 er35 => ?_)
      replace h := h r35 er35
      refine w_iload C dX12_stops_314 (mem_k 4 rfl) ?_
      obtain ⟨o36, g37, h⟩ := h
      refine x_iald C dX12_stops_316 (isA.n g37 (hn.trans h3)) ?_
      exact x_iret C hr dX12_stops_317 hn (hQ _ M h)
    · replace h := h.2 q
      refine w_iload C dX12_stops_305 (mem_k 5 rfl) ?_
      refine w_goto (tgt := 317) C dX12_stops_307 (by decide) ?_
      exact x_iret C hr dX12_stops_317 hn (hQ _ M h)
  · replace h := h.2 q
    refine w_iload C dX12_stops_103 (mem_k 7 rfl) ?_
    refine x_istore (L' := [(9, vI x8), (0, vR (some o0)), (2, vI x2), (3, vI x3), (4, vI x4), (5, vI x5), (6, vI x6), (7, vI x7), (8, vI x8)]) C dX12_stops_105 (by decide) rfl ?_
    refine w_iconst C dX12_stops_107 ⟨by decide, by decide⟩ ?_
    refine x_istore (L' := [(10, vI 1), (9, vI x8), (0, vR (some o0)), (2, vI x2), (3, vI x3), (4, vI x4), (5, vI x5), (6, vI x6), (7, vI x7), (8, vI x8)]) C dX12_stops_108 (by decide) rfl ?_
    refine w_iload C dX12_stops_110 (mem_k 5 rfl) ?_
    refine w_iconst C dX12_stops_112 ⟨by decide, by decide⟩ ?_
    refine w_isub C dX12_stops_113 h.1 ?_
    replace h := h.2
    refine x_nmI (fun v38 ev38 => ?_)
    replace h := h v38 ev38
    refine x_istore (L' := [(11, vI v38), (10, vI 1), (9, vI x8), (0, vR (some o0)), (2, vI x2), (3, vI x3), (4, vI x4), (5, vI x5), (6, vI x6), (7, vI x7), (8, vI x8)]) C dX12_stops_114 (by decide) rfl ?_
    refine x_pc (pc2 := 116) rfl ?_
    refine x_pick (L' := [(0, vR (some o0)), (2, vI x2), (3, vI x3), (4, vI x4), (5, vI x5), (6, vI x6), (7, vI x7), (8, vI x8), (9, vI x8), (10, vI 1), (11, vI v38)]) [3, 4, 5, 6, 7, 8, 9, 10, 2, 1, 0] rfl ?_
    exact k_X12_stops_116 C hr h3 hn ho0 hQ hK96 h
set_option maxRecDepth 100000 in
set_option maxHeartbeats 4000000 in
theorem k_X12_stops_96 {o0 : Nat} {x2 : Int} {x3 : Int} {x4 : Int} {x5 : Int} {x6 : Int} {x7 : Int} {x8 : Int} {M : Mm} {Q : Int → Mm → Prop} (C : Cx p s m args meth c cX12_stops 14 RX12 D cy G n0) (hr : meth.sig.returnType = some .int) (h3 : n0 = 243) (hn : M.2.2.2 = n0) (ho0 : o0 < 243 ∧ (SH o0).1 = 12) (hQ : ∀ x M, Q x M → Qp (some (vI x)) M) (h : P_X12_stops_96 o0 x2 x3 x4 x5 x6 x7 x8 M Q ) : WW p l e ({ frames := 4, cells := 0, slots := 0, locals := 115 }) s m args below meth c (ZQ below args s D cy G n0 Qp n0) 14 D cy G n0 96 [(0, vR (some o0)), (2, vI x2), (3, vI x3), (4, vI x4), (5, vI x5), (6, vI x6), (7, vI x7), (8, vI x8)] [] M := by
  refine lpW_sound (P := fun y : Int × Int × Mm => y.2.2.2.2.2 = n0 → WW p l e ({ frames := 4, cells := 0, slots := 0, locals := 115 }) s m args below meth c (ZQ below args s D cy G n0 Qp n0) 14 D cy G n0 96 [(0, vR (some o0)), (2, vI x2), (3, vI x3), (4, vI x4), (5, vI x5), (6, vI y.1), (7, vI x7), (8, vI y.2.1)] [] y.2.2) ?_ h hn
  intro K y hK hF
  obtain ⟨x6, x8, M⟩ := y
  intro hn
  exact f_X12_stops_96 C hr h3 hn ho0 hQ  (fun x6 x8 M hk => hK (x6, x8, M) hk) hF
set_option maxRecDepth 100000 in
set_option maxHeartbeats 4000000 in
theorem f_X12_stops_74 {o0 : Nat} {x2 : Int} {x3 : Int} {x4 : Int} {x5 : Int} {x6 : Int} {x7 : Int} {x8 : Int} {M : Mm} {Q : Int → Mm → Prop} {K74 : Int × Int → Prop} (C : Cx p s m args meth c cX12_stops 14 RX12 D cy G n0) (hr : meth.sig.returnType = some .int) (h3 : n0 = 243) (hn : M.2.2.2 = n0) (ho0 : o0 < 243 ∧ (SH o0).1 = 12) (hQ : ∀ x M, Q x M → Qp (some (vI x)) M) (hK74 : ∀ (x7 : Int) (x8 : Int), K74 (x7, x8) → WW p l e ({ frames := 4, cells := 0, slots := 0, locals := 115 }) s m args below meth c (ZQ below args s D cy G n0 Qp n0) 14 D cy G n0 74 [(0, vR (some o0)), (2, vI x2), (3, vI x3), (4, vI x4), (5, vI x5), (6, vI x6), (7, vI x7), (8, vI x8)] [] M) (h : F_X12_stops_74 o0 x2 x3 x4 x5 x6 M Q  K74 x7 x8) : WW p l e ({ frames := 4, cells := 0, slots := 0, locals := 115 }) s m args below meth c (ZQ below args s D cy G n0 Qp n0) 14 D cy G n0 74 [(0, vR (some o0)), (2, vI x2), (3, vI x3), (4, vI x4), (5, vI x5), (6, vI x6), (7, vI x7), (8, vI x8)] [] M := by
  unfold F_X12_stops_74 at h
  refine w_iload C dX12_stops_74 (mem_k 7 rfl) ?_
  refine w_iload C dX12_stops_76 (mem_k 3 rfl) ?_
  refine w_icmp_ge (tgt := 93) C dX12_stops_78 (by decide) (fun q => ?_) (fun q => ?_)
  · replace h := h.1 q
    refine w_iconst C dX12_stops_93 ⟨by decide, by decide⟩ ?_
    refine x_istore (L' := [(8, vI 0), (0, vR (some o0)), (2, vI x2), (3, vI x3), (4, vI x4), (5, vI x5), (6, vI x6), (7, vI x7)]) C dX12_stops_94 (by decide) rfl ?_
    refine x_pc (pc2 := 96) rfl ?_
    refine x_pick (L' := [(0, vR (some o0)), (2, vI x2), (3, vI x3), (4, vI x4), (5, vI x5), (6, vI x6), (7, vI x7), (8, vI 0)]) [1, 2, 3, 4, 5, 6, 7, 0] rfl ?_
    exact k_X12_stops_96 C hr h3 hn ho0 hQ  h
  · replace h := h.2 q
    refine w_iload C dX12_stops_81 (mem_k 6 rfl) ?_
    refine w_iload_n C dX12_stops_83 rfl (mem_k 2 rfl) ?_
    refine w_imul C dX12_stops_84 h.1 ?_
    replace h := h.2
    refine x_nmI (fun v39 ev39 => ?_)
    replace h := h v39 ev39
    refine x_istore (L' := [(7, vI v39), (0, vR (some o0)), (2, vI x2), (3, vI x3), (4, vI x4), (5, vI x5), (6, vI x6), (8, vI x8)]) C dX12_stops_85 (by decide) rfl ?_
    obtain ⟨v40, ev40⟩ : ∃ z : Int, z = x8 + 1 := ⟨_, rfl⟩
    refine x_iinc (L' := [(8, vI v40), (7, vI v39), (0, vR (some o0)), (2, vI x2), (3, vI x3), (4, vI x4), (5, vI x5), (6, vI x6)]) C dX12_stops_87 (mem_k 7 rfl) (by decide) h.1 ev40 rfl ?_
    replace h := h.2 v40 ev40
    refine w_goto (tgt := 74) C dX12_stops_90 (by decide) ?_
    refine x_pc (pc2 := 74) rfl ?_
    refine x_pick (L' := [(0, vR (some o0)), (2, vI x2), (3, vI x3), (4, vI x4), (5, vI x5), (6, vI x6), (7, vI v39), (8, vI v40)]) [2, 3, 4, 5, 6, 7, 1, 0] rfl ?_
    exact hK74 v39 v40 h
set_option maxRecDepth 100000 in
set_option maxHeartbeats 4000000 in
theorem k_X12_stops_74 {o0 : Nat} {x2 : Int} {x3 : Int} {x4 : Int} {x5 : Int} {x6 : Int} {x7 : Int} {x8 : Int} {M : Mm} {Q : Int → Mm → Prop} (C : Cx p s m args meth c cX12_stops 14 RX12 D cy G n0) (hr : meth.sig.returnType = some .int) (h3 : n0 = 243) (hn : M.2.2.2 = n0) (ho0 : o0 < 243 ∧ (SH o0).1 = 12) (hQ : ∀ x M, Q x M → Qp (some (vI x)) M) (h : P_X12_stops_74 o0 x2 x3 x4 x5 x6 x7 x8 M Q ) : WW p l e ({ frames := 4, cells := 0, slots := 0, locals := 115 }) s m args below meth c (ZQ below args s D cy G n0 Qp n0) 14 D cy G n0 74 [(0, vR (some o0)), (2, vI x2), (3, vI x3), (4, vI x4), (5, vI x5), (6, vI x6), (7, vI x7), (8, vI x8)] [] M := by
  refine lpW_sound (P := fun y : Int × Int => WW p l e ({ frames := 4, cells := 0, slots := 0, locals := 115 }) s m args below meth c (ZQ below args s D cy G n0 Qp n0) 14 D cy G n0 74 [(0, vR (some o0)), (2, vI x2), (3, vI x3), (4, vI x4), (5, vI x5), (6, vI x6), (7, vI y.1), (8, vI y.2)] [] M) ?_ h
  intro K y hK hF
  obtain ⟨x7, x8⟩ := y
  exact f_X12_stops_74 C hr h3 hn ho0 hQ  (fun x7 x8 hk => hK (x7, x8) hk) hF
set_option maxRecDepth 100000 in
set_option maxHeartbeats 4000000 in
theorem k_X12_stops_0 {o0 : Nat} {x1 : Int} {x2 : Int} {x3 : Int} {x4 : Int} {x5 : Int} {M : Mm} {Q : Int → Mm → Prop} (C : Cx p s m args meth c cX12_stops 14 RX12 D cy G n0) (hr : meth.sig.returnType = some .int) (h3 : n0 = 243) (hn : M.2.2.2 = n0) (ho0 : o0 < 243 ∧ (SH o0).1 = 12) (hQ : ∀ x M, Q x M → Qp (some (vI x)) M) (h : P_X12_stops o0 x1 x2 x3 x4 x5 M Q ) : WW p l e ({ frames := 4, cells := 0, slots := 0, locals := 115 }) s m args below meth c (ZQ below args s D cy G n0 Qp n0) 14 D cy G n0 0 [(0, vR (some o0)), (1, vI x1), (2, vI x2), (3, vI x3), (4, vI x4), (5, vI x5)] [] M := by
  unfold P_X12_stops at h
  refine w_aload_n C dX12_stops_0 rfl (mem_k 0 rfl) ?_
  refine w_iload_n C dX12_stops_1 rfl (mem_k 1 rfl) ?_
  refine cl_X12_isBody (ck_X12_155 ⟨by decide, by decide⟩) C dX12_stops_2 hn h3 (Nat.le_of_ble_eq_true rfl) (isO.n (ci := 12) ⟨rfl, ho0⟩ (hn.trans h3)) h (fun v41 h => ?_)
  refine w_if_eq (tgt := 47) C dX12_stops_5 (by decide) (fun q => ?_) (fun q => ?_)
  · replace h := h.1 q
    refine w_iconst C dX12_stops_47 ⟨by decide, by decide⟩ ?_
    exact x_iret C hr dX12_stops_48 hn (hQ _ M h)
  · replace h := h.2 q
    refine w_aload_n C dX12_stops_8 rfl (mem_k 0 rfl) ?_
    refine w_iload_n C dX12_stops_9 rfl (mem_k 2 rfl) ?_
    refine cl_X12_isSeat (ck_X12_152 ⟨by decide, by decide⟩) C dX12_stops_10 hn h3 (Nat.le_of_ble_eq_true rfl) (isO.n (ci := 12) ⟨rfl, ho0⟩ (hn.trans h3)) h (fun v42 h => ?_)
    refine w_if_eq (tgt := 47) C dX12_stops_13 (by decide) (fun q => ?_) (fun q => ?_)
    · replace h := h.1 q
      refine w_iconst C dX12_stops_47 ⟨by decide, by decide⟩ ?_
      exact x_iret C hr dX12_stops_48 hn (hQ _ M h)
    · replace h := h.2 q
      refine w_iload_n C dX12_stops_16 rfl (mem_k 3 rfl) ?_
      refine w_i2l C dX12_stops_17 ?_
      refine w_lconst C dX12_stops_18 ?_
      refine w_ldc2 (x := 12) C dX12_stops_19 cn_X12_242 ⟨by decide, by decide⟩ ?_
      refine cl_X12_in (ck_X12_85 ⟨by decide, by decide⟩) C dX12_stops_22 hn h3 (Nat.le_of_ble_eq_true rfl) h (fun v43 h => ?_)
      refine w_if_eq (tgt := 47) C dX12_stops_25 (by decide) (fun q => ?_) (fun q => ?_)
      · replace h := h.1 q
        refine w_iconst C dX12_stops_47 ⟨by decide, by decide⟩ ?_
        exact x_iret C hr dX12_stops_48 hn (hQ _ M h)
      · replace h := h.2 q
        refine w_iload C dX12_stops_28 (mem_k 4 rfl) ?_
        refine w_i2l C dX12_stops_30 ?_
        refine w_lconst C dX12_stops_31 ?_
        refine w_ldc2 (x := 3) C dX12_stops_32 cn_X12_244 ⟨by decide, by decide⟩ ?_
        refine cl_X12_in (ck_X12_85 ⟨by decide, by decide⟩) C dX12_stops_35 hn h3 (Nat.le_of_ble_eq_true rfl) h (fun v44 h => ?_)
        refine w_if_eq (tgt := 47) C dX12_stops_38 (by decide) (fun q => ?_) (fun q => ?_)
        · replace h := h.1 q
          refine w_iconst C dX12_stops_47 ⟨by decide, by decide⟩ ?_
          exact x_iret C hr dX12_stops_48 hn (hQ _ M h)
        · replace h := h.2 q
          refine w_iload C dX12_stops_41 (mem_k 5 rfl) ?_
          refine w_iconst C dX12_stops_43 ⟨by decide, by decide⟩ ?_
          refine w_icmp_ge (tgt := 49) C dX12_stops_44 (by decide) (fun q => ?_) (fun q => ?_)
          · replace h := h.1 q
            refine w_iload C dX12_stops_49 (mem_k 5 rfl) ?_
            refine w_iload C dX12_stops_51 (mem_k 4 rfl) ?_
            refine w_icmp_lt (tgt := 59) C dX12_stops_53 (by decide) (fun q => ?_) (fun q => ?_)
            · replace h := h.1 q
              refine w_aload_n C dX12_stops_59 rfl (mem_k 0 rfl) ?_
              refine w_iload_n C dX12_stops_60 rfl (mem_k 1 rfl) ?_
              refine w_iload_n C dX12_stops_61 rfl (mem_k 2 rfl) ?_
              refine cl_X12_layPresses (ck_X12_209 ⟨by decide, by decide⟩) C dX12_stops_62 hn h3 (Nat.le_of_ble_eq_true rfl) (isO.n (ci := 12) ⟨rfl, ho0⟩ (hn.trans h3)) h (fun M45 h hn46 => ?_)
              refine w_iconst C dX12_stops_65 ⟨by decide, by decide⟩ ?_
              refine x_istore (L' := [(6, vI (-1)), (0, vR (some o0)), (1, vI x1), (2, vI x2), (3, vI x3), (4, vI x4), (5, vI x5)]) C dX12_stops_66 (by decide) rfl ?_
              refine w_iconst C dX12_stops_68 ⟨by decide, by decide⟩ ?_
              refine x_istore (L' := [(7, vI 1), (6, vI (-1)), (0, vR (some o0)), (1, vI x1), (2, vI x2), (3, vI x3), (4, vI x4), (5, vI x5)]) C dX12_stops_69 (by decide) rfl ?_
              refine w_iconst C dX12_stops_71 ⟨by decide, by decide⟩ ?_
              refine x_istore (L' := [(8, vI 0), (7, vI 1), (6, vI (-1)), (0, vR (some o0)), (1, vI x1), (2, vI x2), (3, vI x3), (4, vI x4), (5, vI x5)]) C dX12_stops_72 (by decide) rfl ?_
              refine x_pc (pc2 := 74) rfl ?_
              refine x_pick (L' := [(0, vR (some o0)), (2, vI x2), (3, vI x3), (4, vI x4), (5, vI x5), (6, vI (-1)), (7, vI 1), (8, vI 0)]) [3, 5, 6, 7, 8, 2, 1, 0] rfl ?_
              exact k_X12_stops_74 C hr h3 hn46 ho0 hQ  h
            · replace h := h.2 q
              refine w_bipush C dX12_stops_56 (by decide) ?_
              exact x_iret C hr dX12_stops_58 hn (hQ _ M h)
          · replace h := h.2 q
            refine w_iconst C dX12_stops_47 ⟨by decide, by decide⟩ ?_
            exact x_iret C hr dX12_stops_48 hn (hQ _ M h)
set_option maxRecDepth 100000 in
set_option maxHeartbeats 4000000 in
theorem con_X12_stops (l : Launch) (D : va_G) (cy : Nat → ClassId) : Con l D cy yX12_stops cX12_stops 14 (some .int) ({ frames := 4, cells := 0, slots := 0, locals := 115 }) 0 0 SP_X12_stops := by
  refine con_of (by decide) (fun as M Qp h => ?_) ?_
  · obtain ⟨-, o0, x1, x2, x3, x4, x5, rfl, -⟩ := h
    exact Nat.le_of_ble_eq_true rfl
  · intro p e s m args below meth c G as M Qp h C hr hnm
    obtain ⟨hn, o0, x1, x2, x3, x4, x5, rfl, ho1, ho2, Q0, hQ, h⟩ := h
    refine x_pick (L' := [(0, vR (some o0)), (1, vI x1), (2, vI x2), (3, vI x3), (4, vI x4), (5, vI x5)]) [0, 1, 2, 3, 4, 5] rfl ?_
    exact k_X12_stops_0 C hr hn rfl ⟨ho1, ho2⟩ hQ h
set_option maxRecDepth 100000 in
set_option maxHeartbeats 4000000 in
theorem cl_X12_stops {p : Program} {l : Launch} {e : Env} {R : Room} {s : State} {m : MethodId} {args : Array Value} {below : List Frame} {meth : Method} {c : Code} {Q : State → Prop} {cc : ByteArray} {nL : Nat} {own : String} {D : va_G} {cy : Nat → ClassId} {G : Nat × Nat} {n0 pc : Nat} {L : List (Nat × PV)} {st : List PV} {M : Mm} {op : Instr} (K : CallOK l D cy R own op 0 0 (spV 12 5 SP_X12_stops)) (C : Cx p s m args meth c cc nL own D cy G n0) (hd : decode cc pc = .ok (op, 3)) (hn : M.2.2.2 = n0) (h3 : n0 = 243) (hlen : argN st ≤ 8) {r : Option Nat} {o0 : Nat} (ho : isOn 12 M.2.2.2 r o0) {x1 : Int} {x2 : Int} {x3 : Int} {x4 : Int} {x5 : Int} {Q0 : Int → Mm → Prop} (h : P_X12_stops o0 x1 x2 x3 x4 x5 M Q0) (k : ∀ x M2, Q0 x M2 → M2.2.2.2 = n0 → WW p l e R s m args below meth c Q nL D cy G n0  (pc + 3) L (vI x :: st) M2) : WW p l e R s m args below meth c Q nL D cy G n0  pc L (vI x5 :: vI x4 :: vI x3 :: vI x2 :: vI x1 :: vR r :: st) M := by
  obtain ⟨rfl, ho1, ho2⟩ := ho
  refine x_call0 K C hd (as := [vR (some o0), vI x1, vI x2, vI x3, vI x4, vI x5]) rfl hn hlen (fun v M2 => ∃ x, v = some (vI x) ∧ Q0 x M2) ⟨⟨o0, [vI x1, vI x2, vI x3, vI x4, vI x5], rfl, rfl, ho1, ho2⟩, hn.trans h3, o0, x1, x2, x3, x4, x5, rfl, (hn.trans h3) ▸ ho1, ho2, Q0, fun x M2 hx => ⟨x, rfl, hx⟩, h⟩ ?_
  rintro _ _ ⟨x, rfl, hx⟩ hm
  exact k x _ hx hm
end W_X12_stops
theorem dX12_isRoad_0 : decode cX12_isRoad 0 = .ok (.iload_n 0, 1) := by decide +kernel
theorem dX12_isRoad_1 : decode cX12_isRoad 1 = .ok (.i2l, 1) := by decide +kernel
theorem dX12_isRoad_2 : decode cX12_isRoad 2 = .ok (.lconst 0, 1) := by decide +kernel
theorem dX12_isRoad_3 : decode cX12_isRoad 3 = .ok (.ldc2_w 244, 3) := by decide +kernel
theorem dX12_isRoad_6 : decode cX12_isRoad 6 = .ok (.invokestatic 85, 3) := by decide +kernel
theorem dX12_isRoad_9 : decode cX12_isRoad 9 = .ok (.ireturn, 1) := by decide +kernel
section W_X12_isRoad
variable {p : Program} {l : Launch} {e : Env} {s : State} {m : MethodId} {args : Array Value} {below : List Frame} {meth : Method} {c : Code} {D : va_G} {cy : Nat → ClassId} {G : Nat × Nat} {n0 : Nat} {Qp : Option PV → Mm → Prop}
set_option maxRecDepth 100000 in
set_option maxHeartbeats 4000000 in
theorem k_X12_isRoad_0 {x0 : Int} {M : Mm} {Q : Int → Prop} (C : Cx p s m args meth c cX12_isRoad 1 RX12 D cy G n0) (hr : meth.sig.returnType = some .boolean) (h3 : n0 = 243) (hn : M.2.2.2 = n0) (hQ : ∀ x, Q x → Qp (some (vI x)) M) (h : P_X12_isRoad x0 M Q ) : WW p l e ({ frames := 1, cells := 0, slots := 0, locals := 25 }) s m args below meth c (ZQ below args s D cy G n0 Qp n0) 1 D cy G n0 0 [(0, vI x0)] [] M := by
  unfold P_X12_isRoad at h
  refine w_iload_n C dX12_isRoad_0 rfl (mem_k 0 rfl) ?_
  refine w_i2l C dX12_isRoad_1 ?_
  refine w_lconst C dX12_isRoad_2 ?_
  refine w_ldc2 (x := 3) C dX12_isRoad_3 cn_X12_244 ⟨by decide, by decide⟩ ?_
  refine cl_X12_in (ck_X12_85 ⟨by decide, by decide⟩) C dX12_isRoad_6 hn h3 (Nat.le_of_ble_eq_true rfl) h (fun v1 h => ?_)
  exact x_zret C hr dX12_isRoad_9 hn h.1 (hQ _ h.2)
set_option maxRecDepth 100000 in
set_option maxHeartbeats 4000000 in
theorem con_X12_isRoad (l : Launch) (D : va_G) (cy : Nat → ClassId) : Con l D cy yX12_isRoad cX12_isRoad 1 (some .boolean) ({ frames := 1, cells := 0, slots := 0, locals := 25 }) 0 0 SP_X12_isRoad := by
  refine con_of (by decide) (fun as M Qp h => ?_) ?_
  · obtain ⟨-, x0, rfl, -⟩ := h
    exact Nat.le_of_ble_eq_true rfl
  · intro p e s m args below meth c G as M Qp h C hr hnm
    obtain ⟨hn, x0, rfl, Q0, hQ, h⟩ := h
    refine x_pick (L' := [(0, vI x0)]) [0] rfl ?_
    exact k_X12_isRoad_0 C hr hn rfl hQ h
set_option maxRecDepth 100000 in
set_option maxHeartbeats 4000000 in
theorem cl_X12_isRoad {p : Program} {l : Launch} {e : Env} {R : Room} {s : State} {m : MethodId} {args : Array Value} {below : List Frame} {meth : Method} {c : Code} {Q : State → Prop} {cc : ByteArray} {nL : Nat} {own : String} {D : va_G} {cy : Nat → ClassId} {G : Nat × Nat} {n0 pc : Nat} {L : List (Nat × PV)} {st : List PV} {M : Mm} {op : Instr} (K : CallOK l D cy R own op 0 0 (spS 1 SP_X12_isRoad)) (C : Cx p s m args meth c cc nL own D cy G n0) (hd : decode cc pc = .ok (op, 3)) (hn : M.2.2.2 = n0) (h3 : n0 = 243) (hlen : argN st ≤ 8) {x0 : Int} {Q0 : Int → Prop} (h : P_X12_isRoad x0 M Q0) (k : ∀ x, Q0 x → WW p l e R s m args below meth c Q nL D cy G n0  (pc + 3) L (vI x :: st) M) : WW p l e R s m args below meth c Q nL D cy G n0  pc L (vI x0 :: st) M := by
  refine x_call0 K C hd (as := [vI x0]) rfl hn hlen (fun v M2 => ∃ x, v = some (vI x) ∧ M2 = M ∧ Q0 x) ⟨rfl, hn.trans h3, x0, rfl, Q0, fun x hx => ⟨x, rfl, rfl, hx⟩, h⟩ ?_
  rintro _ _ ⟨x, rfl, rfl, hx⟩ hm
  exact k x hx
end W_X12_isRoad
theorem dX12_road_0 : decode cX12_road 0 = .ok (.iload_n 1, 1) := by decide +kernel
theorem dX12_road_1 : decode cX12_road 1 = .ok (.invokestatic 249, 3) := by decide +kernel
theorem dX12_road_4 : decode cX12_road 4 = .ok (.ifCond .eq 27, 3) := by decide +kernel
theorem dX12_road_7 : decode cX12_road 7 = .ok (.iload_n 2, 1) := by decide +kernel
theorem dX12_road_8 : decode cX12_road 8 = .ok (.i2l, 1) := by decide +kernel
theorem dX12_road_9 : decode cX12_road 9 = .ok (.lconst 0, 1) := by decide +kernel
theorem dX12_road_10 : decode cX12_road 10 = .ok (.ldc2_w 244, 3) := by decide +kernel
theorem dX12_road_13 : decode cX12_road 13 = .ok (.invokestatic 85, 3) := by decide +kernel
theorem dX12_road_16 : decode cX12_road 16 = .ok (.ifCond .eq 15, 3) := by decide +kernel
theorem dX12_road_19 : decode cX12_road 19 = .ok (.iload_n 3, 1) := by decide +kernel
theorem dX12_road_20 : decode cX12_road 20 = .ok (.i2l, 1) := by decide +kernel
theorem dX12_road_21 : decode cX12_road 21 = .ok (.lconst 0, 1) := by decide +kernel
theorem dX12_road_22 : decode cX12_road 22 = .ok (.ldc2_w 147, 3) := by decide +kernel
theorem dX12_road_25 : decode cX12_road 25 = .ok (.invokestatic 85, 3) := by decide +kernel
theorem dX12_road_28 : decode cX12_road 28 = .ok (.ifCond .ne 5, 3) := by decide +kernel
theorem dX12_road_31 : decode cX12_road 31 = .ok (.iconst (-1), 1) := by decide +kernel
theorem dX12_road_32 : decode cX12_road 32 = .ok (.ireturn, 1) := by decide +kernel
theorem dX12_road_33 : decode cX12_road 33 = .ok (.aload_n 0, 1) := by decide +kernel
theorem dX12_road_34 : decode cX12_road 34 = .ok (.getfield 62, 3) := by decide +kernel
theorem dX12_road_37 : decode cX12_road 37 = .ok (.iconst 4, 1) := by decide +kernel
theorem dX12_road_38 : decode cX12_road 38 = .ok (.iload_n 1, 1) := by decide +kernel
theorem dX12_road_39 : decode cX12_road 39 = .ok (.imul, 1) := by decide +kernel
theorem dX12_road_40 : decode cX12_road 40 = .ok (.iload_n 2, 1) := by decide +kernel
theorem dX12_road_41 : decode cX12_road 41 = .ok (.iadd, 1) := by decide +kernel
theorem dX12_road_42 : decode cX12_road 42 = .ok (.iaload, 1) := by decide +kernel
theorem dX12_road_43 : decode cX12_road 43 = .ok (.istore 4, 2) := by decide +kernel
theorem dX12_road_45 : decode cX12_road 45 = .ok (.aload_n 0, 1) := by decide +kernel
theorem dX12_road_46 : decode cX12_road 46 = .ok (.getfield 62, 3) := by decide +kernel
theorem dX12_road_49 : decode cX12_road 49 = .ok (.iconst 4, 1) := by decide +kernel
theorem dX12_road_50 : decode cX12_road 50 = .ok (.iload_n 1, 1) := by decide +kernel
theorem dX12_road_51 : decode cX12_road 51 = .ok (.imul, 1) := by decide +kernel
theorem dX12_road_52 : decode cX12_road 52 = .ok (.iload_n 2, 1) := by decide +kernel
theorem dX12_road_53 : decode cX12_road 53 = .ok (.iadd, 1) := by decide +kernel
theorem dX12_road_54 : decode cX12_road 54 = .ok (.iload_n 3, 1) := by decide +kernel
theorem dX12_road_55 : decode cX12_road 55 = .ok (.iastore, 1) := by decide +kernel
theorem dX12_road_56 : decode cX12_road 56 = .ok (.iload 4, 2) := by decide +kernel
theorem dX12_road_58 : decode cX12_road 58 = .ok (.ireturn, 1) := by decide +kernel
theorem ck_X12_249 {l : Launch} {D : va_G} {cy : Nat → ClassId} {R : Room} (hR : 2 ≤ R.frames ∧ 45 ≤ R.locals) : CallOK l D cy R RX12 (.invokestatic 249) 0 0 (spS 1 SP_X12_isRoad) := call_S (con_X12_isRoad l D cy) (lwG_5 (i := 130) rfl rfl) (lwG_5 (i := 131) rfl rfl) (lwG_1 (i := 13) rfl rfl) (lwG_5 (i := 132) rfl rfl) ⟨by decide, by decide, rfl⟩ ⟨rfl, rfl⟩ hR
theorem fw_X12_62 : fR RX12 62 12 20 := ⟨⟨lwG_4 (i := 84) rfl rfl, by decide, by decide⟩, fun _ _ => rfl, fun r => ⟨r, rfl⟩⟩
section W_X12_road
variable {p : Program} {l : Launch} {e : Env} {s : State} {m : MethodId} {args : Array Value} {below : List Frame} {meth : Method} {c : Code} {D : va_G} {cy : Nat → ClassId} {G : Nat × Nat} {n0 : Nat} {Qp : Option PV → Mm → Prop}
set_option maxRecDepth 100000 in
set_option maxHeartbeats 4000000 in
theorem k_X12_road_0 {o0 : Nat} {x1 : Int} {x2 : Int} {x3 : Int} {M : Mm} {Q : Int → Mm → Prop} (C : Cx p s m args meth c cX12_road 5 RX12 D cy G n0) (hr : meth.sig.returnType = some .int) (h3 : n0 = 243) (hn : M.2.2.2 = n0) (ho0 : o0 < 243 ∧ (SH o0).1 = 12) (hQ : ∀ x M, Q x M → Qp (some (vI x)) M) (h : P_X12_road o0 x1 x2 x3 M Q ) : WW p l e ({ frames := 2, cells := 0, slots := 0, locals := 45 }) s m args below meth c (ZQ below args s D cy G n0 Qp n0) 5 D cy G n0 0 [(0, vR (some o0)), (1, vI x1), (2, vI x2), (3, vI x3)] [] M := by
  unfold P_X12_road at h
  refine w_iload_n C dX12_road_0 rfl (mem_k 1 rfl) ?_
  refine cl_X12_isRoad (ck_X12_249 ⟨by decide, by decide⟩) C dX12_road_1 hn h3 (Nat.le_of_ble_eq_true rfl) h (fun v1 h => ?_)
  refine w_if_eq (tgt := 31) C dX12_road_4 (by decide) (fun q => ?_) (fun q => ?_)
  · replace h := h.1 q
    refine w_iconst C dX12_road_31 ⟨by decide, by decide⟩ ?_
    exact x_iret C hr dX12_road_32 hn (hQ _ M h)
  · replace h := h.2 q
    refine w_iload_n C dX12_road_7 rfl (mem_k 2 rfl) ?_
    refine w_i2l C dX12_road_8 ?_
    refine w_lconst C dX12_road_9 ?_
    refine w_ldc2 (x := 3) C dX12_road_10 cn_X12_244 ⟨by decide, by decide⟩ ?_
    refine cl_X12_in (ck_X12_85 ⟨by decide, by decide⟩) C dX12_road_13 hn h3 (Nat.le_of_ble_eq_true rfl) h (fun v2 h => ?_)
    refine w_if_eq (tgt := 31) C dX12_road_16 (by decide) (fun q => ?_) (fun q => ?_)
    · replace h := h.1 q
      refine w_iconst C dX12_road_31 ⟨by decide, by decide⟩ ?_
      exact x_iret C hr dX12_road_32 hn (hQ _ M h)
    · replace h := h.2 q
      refine w_iload_n C dX12_road_19 rfl (mem_k 3 rfl) ?_
      refine w_i2l C dX12_road_20 ?_
      refine w_lconst C dX12_road_21 ?_
      refine w_ldc2 (x := 1000) C dX12_road_22 cn_X12_147 ⟨by decide, by decide⟩ ?_
      refine cl_X12_in (ck_X12_85 ⟨by decide, by decide⟩) C dX12_road_25 hn h3 (Nat.le_of_ble_eq_true rfl) h (fun v3 h => ?_)
      refine w_if_ne (tgt := 33) C dX12_road_28 (by decide) (fun q => ?_) (fun q => ?_)
      · replace h := h.1 q
        refine w_aload_n C dX12_road_33 rfl (mem_k 0 rfl) ?_
        refine x_getR C dX12_road_34 fw_X12_62 (isO.n (ci := 12) ⟨rfl, ho0⟩ (hn.trans h3)) (fun r4 er4 => ?_)
        replace h := h r4 er4
        refine w_iconst C dX12_road_37 ⟨by decide, by decide⟩ ?_
        refine w_iload_n C dX12_road_38 rfl (mem_k 1 rfl) ?_
        refine w_imul C dX12_road_39 h.1 ?_
        replace h := h.2
        refine w_iload_n C dX12_road_40 rfl (mem_k 2 rfl) ?_
        refine w_iadd C dX12_road_41 h.1 ?_
        replace h := h.2
        obtain ⟨o5, g6, h⟩ := h
        refine x_iald C dX12_road_42 (isA.n g6 (hn.trans h3)) ?_
        refine x_nmI (fun v7 ev7 => ?_)
        replace h := h v7 ev7
        refine x_istore (L' := [(4, vI v7), (0, vR (some o0)), (1, vI x1), (2, vI x2), (3, vI x3)]) C dX12_road_43 (by decide) rfl ?_
        refine w_aload_n C dX12_road_45 rfl (mem_k 1 rfl) ?_
        refine x_getR C dX12_road_46 fw_X12_62 (isO.n (ci := 12) ⟨rfl, ho0⟩ (hn.trans h3)) (fun r8 er8 => ?_)
        replace h := h r8 er8
        refine w_iconst C dX12_road_49 ⟨by decide, by decide⟩ ?_
        refine w_iload_n C dX12_road_50 rfl (mem_k 2 rfl) ?_
        refine w_imul C dX12_road_51 h.1 ?_
        replace h := h.2
        refine w_iload_n C dX12_road_52 rfl (mem_k 3 rfl) ?_
        refine w_iadd C dX12_road_53 h.1 ?_
        replace h := h.2
        refine w_iload_n C dX12_road_54 rfl (mem_k 4 rfl) ?_
        obtain ⟨o9, g10, h⟩ := h
        refine x_iast C dX12_road_55 (isA.n g10 (hn.trans h3)) (fun M11 eM11 hn12 => ?_)
        replace h := h M11 eM11
        replace hn12 := hn12.trans hn
        refine w_iload C dX12_road_56 (mem_k 0 rfl) ?_
        exact x_iret C hr dX12_road_58 hn12 (hQ _ M11 h)
      · replace h := h.2 q
        refine w_iconst C dX12_road_31 ⟨by decide, by decide⟩ ?_
        exact x_iret C hr dX12_road_32 hn (hQ _ M h)
set_option maxRecDepth 100000 in
set_option maxHeartbeats 4000000 in
theorem con_X12_road (l : Launch) (D : va_G) (cy : Nat → ClassId) : Con l D cy yX12_road cX12_road 5 (some .int) ({ frames := 2, cells := 0, slots := 0, locals := 45 }) 0 0 SP_X12_road := by
  refine con_of (by decide) (fun as M Qp h => ?_) ?_
  · obtain ⟨-, o0, x1, x2, x3, rfl, -⟩ := h
    exact Nat.le_of_ble_eq_true rfl
  · intro p e s m args below meth c G as M Qp h C hr hnm
    obtain ⟨hn, o0, x1, x2, x3, rfl, ho1, ho2, Q0, hQ, h⟩ := h
    refine x_pick (L' := [(0, vR (some o0)), (1, vI x1), (2, vI x2), (3, vI x3)]) [0, 1, 2, 3] rfl ?_
    exact k_X12_road_0 C hr hn rfl ⟨ho1, ho2⟩ hQ h
set_option maxRecDepth 100000 in
set_option maxHeartbeats 4000000 in
theorem cl_X12_road {p : Program} {l : Launch} {e : Env} {R : Room} {s : State} {m : MethodId} {args : Array Value} {below : List Frame} {meth : Method} {c : Code} {Q : State → Prop} {cc : ByteArray} {nL : Nat} {own : String} {D : va_G} {cy : Nat → ClassId} {G : Nat × Nat} {n0 pc : Nat} {L : List (Nat × PV)} {st : List PV} {M : Mm} {op : Instr} (K : CallOK l D cy R own op 0 0 (spV 12 3 SP_X12_road)) (C : Cx p s m args meth c cc nL own D cy G n0) (hd : decode cc pc = .ok (op, 3)) (hn : M.2.2.2 = n0) (h3 : n0 = 243) (hlen : argN st ≤ 8) {r : Option Nat} {o0 : Nat} (ho : isOn 12 M.2.2.2 r o0) {x1 : Int} {x2 : Int} {x3 : Int} {Q0 : Int → Mm → Prop} (h : P_X12_road o0 x1 x2 x3 M Q0) (k : ∀ x M2, Q0 x M2 → M2.2.2.2 = n0 → WW p l e R s m args below meth c Q nL D cy G n0  (pc + 3) L (vI x :: st) M2) : WW p l e R s m args below meth c Q nL D cy G n0  pc L (vI x3 :: vI x2 :: vI x1 :: vR r :: st) M := by
  obtain ⟨rfl, ho1, ho2⟩ := ho
  refine x_call0 K C hd (as := [vR (some o0), vI x1, vI x2, vI x3]) rfl hn hlen (fun v M2 => ∃ x, v = some (vI x) ∧ Q0 x M2) ⟨⟨o0, [vI x1, vI x2, vI x3], rfl, rfl, ho1, ho2⟩, hn.trans h3, o0, x1, x2, x3, rfl, (hn.trans h3) ▸ ho1, ho2, Q0, fun x M2 hx => ⟨x, rfl, hx⟩, h⟩ ?_
  rintro _ _ ⟨x, rfl, hx⟩ hm
  exact k x _ hx hm
end W_X12_road
theorem dX12_throughOf_0 : decode cX12_throughOf 0 = .ok (.lconst 0, 1) := by decide +kernel
theorem dX12_throughOf_1 : decode cX12_throughOf 1 = .ok (.lstore 5, 2) := by decide +kernel
theorem dX12_throughOf_3 : decode cX12_throughOf 3 = .ok (.lconst 0, 1) := by decide +kernel
theorem dX12_throughOf_4 : decode cX12_throughOf 4 = .ok (.lstore 7, 2) := by decide +kernel
theorem dX12_throughOf_6 : decode cX12_throughOf 6 = .ok (.iconst 0, 1) := by decide +kernel
theorem dX12_throughOf_7 : decode cX12_throughOf 7 = .ok (.istore 9, 2) := by decide +kernel
theorem dX12_throughOf_9 : decode cX12_throughOf 9 = .ok (.iload 9, 2) := by decide +kernel
theorem dX12_throughOf_11 : decode cX12_throughOf 11 = .ok (.aload_n 0, 1) := by decide +kernel
theorem dX12_throughOf_12 : decode cX12_throughOf 12 = .ok (.getfield 31, 3) := by decide +kernel
theorem dX12_throughOf_15 : decode cX12_throughOf 15 = .ok (.bipush 6, 2) := by decide +kernel
theorem dX12_throughOf_17 : decode cX12_throughOf 17 = .ok (.iload_n 2, 1) := by decide +kernel
theorem dX12_throughOf_18 : decode cX12_throughOf 18 = .ok (.iadd, 1) := by decide +kernel
theorem dX12_throughOf_19 : decode cX12_throughOf 19 = .ok (.iaload, 1) := by decide +kernel
theorem dX12_throughOf_20 : decode cX12_throughOf 20 = .ok (.if_icmp .ge 71, 3) := by decide +kernel
theorem dX12_throughOf_23 : decode cX12_throughOf 23 = .ok (.aload_n 0, 1) := by decide +kernel
theorem dX12_throughOf_24 : decode cX12_throughOf 24 = .ok (.iload_n 1, 1) := by decide +kernel
theorem dX12_throughOf_25 : decode cX12_throughOf 25 = .ok (.iload_n 2, 1) := by decide +kernel
theorem dX12_throughOf_26 : decode cX12_throughOf 26 = .ok (.iload 9, 2) := by decide +kernel
theorem dX12_throughOf_28 : decode cX12_throughOf 28 = .ok (.invokevirtual 206, 3) := by decide +kernel
theorem dX12_throughOf_31 : decode cX12_throughOf 31 = .ok (.ifCond .le 54, 3) := by decide +kernel
theorem dX12_throughOf_34 : decode cX12_throughOf 34 = .ok (.aload_n 0, 1) := by decide +kernel
theorem dX12_throughOf_35 : decode cX12_throughOf 35 = .ok (.iload_n 1, 1) := by decide +kernel
theorem dX12_throughOf_36 : decode cX12_throughOf 36 = .ok (.iload_n 2, 1) := by decide +kernel
theorem dX12_throughOf_37 : decode cX12_throughOf 37 = .ok (.iload 9, 2) := by decide +kernel
theorem dX12_throughOf_39 : decode cX12_throughOf 39 = .ok (.invokevirtual 199, 3) := by decide +kernel
theorem dX12_throughOf_42 : decode cX12_throughOf 42 = .ok (.aload_n 0, 1) := by decide +kernel
theorem dX12_throughOf_43 : decode cX12_throughOf 43 = .ok (.getfield 184, 3) := by decide +kernel
theorem dX12_throughOf_46 : decode cX12_throughOf 46 = .ok (.ldiv, 1) := by decide +kernel
theorem dX12_throughOf_47 : decode cX12_throughOf 47 = .ok (.lstore 10, 2) := by decide +kernel
theorem dX12_throughOf_49 : decode cX12_throughOf 49 = .ok (.lload 5, 2) := by decide +kernel
theorem dX12_throughOf_51 : decode cX12_throughOf 51 = .ok (.lload 10, 2) := by decide +kernel
theorem dX12_throughOf_53 : decode cX12_throughOf 53 = .ok (.aload_n 0, 1) := by decide +kernel
theorem dX12_throughOf_54 : decode cX12_throughOf 54 = .ok (.getfield 22, 3) := by decide +kernel
theorem dX12_throughOf_57 : decode cX12_throughOf 57 = .ok (.bipush 32, 2) := by decide +kernel
theorem dX12_throughOf_59 : decode cX12_throughOf 59 = .ok (.iconst 4, 1) := by decide +kernel
theorem dX12_throughOf_60 : decode cX12_throughOf 60 = .ok (.aload_n 0, 1) := by decide +kernel
theorem dX12_throughOf_61 : decode cX12_throughOf 61 = .ok (.iload_n 2, 1) := by decide +kernel
theorem dX12_throughOf_62 : decode cX12_throughOf 62 = .ok (.iload 9, 2) := by decide +kernel
theorem dX12_throughOf_64 : decode cX12_throughOf 64 = .ok (.invokevirtual 160, 3) := by decide +kernel
theorem dX12_throughOf_67 : decode cX12_throughOf 67 = .ok (.imul, 1) := by decide +kernel
theorem dX12_throughOf_68 : decode cX12_throughOf 68 = .ok (.iadd, 1) := by decide +kernel
theorem dX12_throughOf_69 : decode cX12_throughOf 69 = .ok (.iload 4, 2) := by decide +kernel
theorem dX12_throughOf_71 : decode cX12_throughOf 71 = .ok (.iadd, 1) := by decide +kernel
theorem dX12_throughOf_72 : decode cX12_throughOf 72 = .ok (.iaload, 1) := by decide +kernel
theorem dX12_throughOf_73 : decode cX12_throughOf 73 = .ok (.i2l, 1) := by decide +kernel
theorem dX12_throughOf_74 : decode cX12_throughOf 74 = .ok (.lmul, 1) := by decide +kernel
theorem dX12_throughOf_75 : decode cX12_throughOf 75 = .ok (.ladd, 1) := by decide +kernel
theorem dX12_throughOf_76 : decode cX12_throughOf 76 = .ok (.lstore 5, 2) := by decide +kernel
theorem dX12_throughOf_78 : decode cX12_throughOf 78 = .ok (.lload 7, 2) := by decide +kernel
theorem dX12_throughOf_80 : decode cX12_throughOf 80 = .ok (.lload 10, 2) := by decide +kernel
theorem dX12_throughOf_82 : decode cX12_throughOf 82 = .ok (.ladd, 1) := by decide +kernel
theorem dX12_throughOf_83 : decode cX12_throughOf 83 = .ok (.lstore 7, 2) := by decide +kernel
theorem dX12_throughOf_85 : decode cX12_throughOf 85 = .ok (.iinc 9 1, 3) := by decide +kernel
theorem dX12_throughOf_88 : decode cX12_throughOf 88 = .ok (.goto (-79), 3) := by decide +kernel
theorem dX12_throughOf_91 : decode cX12_throughOf 91 = .ok (.lload 7, 2) := by decide +kernel
theorem dX12_throughOf_93 : decode cX12_throughOf 93 = .ok (.lconst 0, 1) := by decide +kernel
theorem dX12_throughOf_94 : decode cX12_throughOf 94 = .ok (.lcmp, 1) := by decide +kernel
theorem dX12_throughOf_95 : decode cX12_throughOf 95 = .ok (.ifCond .ne 7, 3) := by decide +kernel
theorem dX12_throughOf_98 : decode cX12_throughOf 98 = .ok (.iconst 0, 1) := by decide +kernel
theorem dX12_throughOf_99 : decode cX12_throughOf 99 = .ok (.goto 26, 3) := by decide +kernel
theorem dX12_throughOf_102 : decode cX12_throughOf 102 = .ok (.lload 5, 2) := by decide +kernel
theorem dX12_throughOf_104 : decode cX12_throughOf 104 = .ok (.lload 7, 2) := by decide +kernel
theorem dX12_throughOf_106 : decode cX12_throughOf 106 = .ok (.ldiv, 1) := by decide +kernel
theorem dX12_throughOf_107 : decode cX12_throughOf 107 = .ok (.aload_n 0, 1) := by decide +kernel
theorem dX12_throughOf_108 : decode cX12_throughOf 108 = .ok (.getfield 62, 3) := by decide +kernel
theorem dX12_throughOf_111 : decode cX12_throughOf 111 = .ok (.iconst 4, 1) := by decide +kernel
theorem dX12_throughOf_112 : decode cX12_throughOf 112 = .ok (.iload_n 3, 1) := by decide +kernel
theorem dX12_throughOf_113 : decode cX12_throughOf 113 = .ok (.imul, 1) := by decide +kernel
theorem dX12_throughOf_114 : decode cX12_throughOf 114 = .ok (.iload 4, 2) := by decide +kernel
theorem dX12_throughOf_116 : decode cX12_throughOf 116 = .ok (.iadd, 1) := by decide +kernel
theorem dX12_throughOf_117 : decode cX12_throughOf 117 = .ok (.iaload, 1) := by decide +kernel
theorem dX12_throughOf_118 : decode cX12_throughOf 118 = .ok (.i2l, 1) := by decide +kernel
theorem dX12_throughOf_119 : decode cX12_throughOf 119 = .ok (.lmul, 1) := by decide +kernel
theorem dX12_throughOf_120 : decode cX12_throughOf 120 = .ok (.ldc2_w 103, 3) := by decide +kernel
theorem dX12_throughOf_123 : decode cX12_throughOf 123 = .ok (.ldiv, 1) := by decide +kernel
theorem dX12_throughOf_124 : decode cX12_throughOf 124 = .ok (.l2i, 1) := by decide +kernel
theorem dX12_throughOf_125 : decode cX12_throughOf 125 = .ok (.ireturn, 1) := by decide +kernel
section W_X12_throughOf
variable {p : Program} {l : Launch} {e : Env} {s : State} {m : MethodId} {args : Array Value} {below : List Frame} {meth : Method} {c : Code} {D : va_G} {cy : Nat → ClassId} {G : Nat × Nat} {n0 : Nat} {Qp : Option PV → Mm → Prop}
set_option maxRecDepth 100000 in
set_option maxHeartbeats 4000000 in
theorem f_X12_throughOf_9 {o0 : Nat} {x1 : Int} {x2 : Int} {x3 : Int} {x4 : Int} {x5 : Int} {x7 : Int} {x9 : Int} {M : Mm} {Q : Int → Prop} {K9 : Int × Int × Int → Prop} (C : Cx p s m args meth c cX12_throughOf 12 RX12 D cy G n0) (hr : meth.sig.returnType = some .int) (h3 : n0 = 243) (hn : M.2.2.2 = n0) (ho0 : o0 < 243 ∧ (SH o0).1 = 12) (hQ : ∀ x, Q x → Qp (some (vI x)) M) (hK9 : ∀ (x5 : Int) (x7 : Int) (x9 : Int), K9 (x5, x7, x9) → WW p l e ({ frames := 3, cells := 0, slots := 0, locals := 71 }) s m args below meth c (ZQ below args s D cy G n0 Qp n0) 12 D cy G n0 9 [(0, vR (some o0)), (1, vI x1), (2, vI x2), (3, vI x3), (4, vI x4), (5, vL x5), (7, vL x7), (9, vI x9)] [] M) (h : F_X12_throughOf_9 o0 x1 x2 x3 x4 M Q  K9 x5 x7 x9) : WW p l e ({ frames := 3, cells := 0, slots := 0, locals := 71 }) s m args below meth c (ZQ below args s D cy G n0 Qp n0) 12 D cy G n0 9 [(0, vR (some o0)), (1, vI x1), (2, vI x2), (3, vI x3), (4, vI x4), (5, vL x5), (7, vL x7), (9, vI x9)] [] M := by
  unfold F_X12_throughOf_9 at h
  refine w_iload C dX12_throughOf_9 (mem_k 7 rfl) ?_
  refine w_aload_n C dX12_throughOf_11 rfl (mem_k 0 rfl) ?_
  refine x_getR C dX12_throughOf_12 fw_X12_31 (isO.n (ci := 12) ⟨rfl, ho0⟩ (hn.trans h3)) (fun r1 er1 => ?_)
  replace h := h r1 er1
  refine w_bipush C dX12_throughOf_15 (by decide) ?_
  refine w_iload_n C dX12_throughOf_17 rfl (mem_k 2 rfl) ?_
  refine w_iadd C dX12_throughOf_18 h.1 ?_
  replace h := h.2
  obtain ⟨o2, g3, h⟩ := h
  refine x_iald C dX12_throughOf_19 (isA.n g3 (hn.trans h3)) ?_
  refine w_icmp_ge (tgt := 91) C dX12_throughOf_20 (by decide) (fun q => ?_) (fun q => ?_)
  · replace h := h.1 q
    refine w_lload C dX12_throughOf_91 (mem_k 6 rfl) ?_
    refine w_lconst C dX12_throughOf_93 ?_
    refine x_lif_ne (tgt := 102) C dX12_throughOf_94 dX12_throughOf_95 (by decide) (fun q => ?_) (fun q => ?_)
    · replace h := h.1 q
      refine w_lload C dX12_throughOf_102 (mem_k 5 rfl) ?_
      refine w_lload C dX12_throughOf_104 (mem_k 6 rfl) ?_
      refine x_ldiv C dX12_throughOf_106 h.1 ?_
      replace h := h.2
      refine w_aload_n C dX12_throughOf_107 rfl (mem_k 0 rfl) ?_
      refine x_getR C dX12_throughOf_108 fw_X12_62 (isO.n (ci := 12) ⟨rfl, ho0⟩ (hn.trans h3)) (fun r4 er4 => ?_)
      replace h := h r4 er4
      refine w_iconst C dX12_throughOf_111 ⟨by decide, by decide⟩ ?_
      refine w_iload_n C dX12_throughOf_112 rfl (mem_k 3 rfl) ?_
      refine w_imul C dX12_throughOf_113 h.1 ?_
      replace h := h.2
      refine w_iload C dX12_throughOf_114 (mem_k 4 rfl) ?_
      refine w_iadd C dX12_throughOf_116 h.1 ?_
      replace h := h.2
      obtain ⟨o5, g6, h⟩ := h
      refine x_iald C dX12_throughOf_117 (isA.n g6 (hn.trans h3)) ?_
      refine w_i2l C dX12_throughOf_118 ?_
      refine w_lmul C dX12_throughOf_119 h.1 ?_
      replace h := h.2
      refine w_ldc2 (x := 100) C dX12_throughOf_120 cn_X12_103 ⟨by decide, by decide⟩ ?_
      refine x_ldiv C dX12_throughOf_123 (by decide) ?_
      refine w_l2i C dX12_throughOf_124 ?_
      exact x_iret C hr dX12_throughOf_125 hn (hQ _ h)
    · replace h := h.2 q
      refine w_iconst C dX12_throughOf_98 ⟨by decide, by decide⟩ ?_
      refine w_goto (tgt := 125) C dX12_throughOf_99 (by decide) ?_
      exact x_iret C hr dX12_throughOf_125 hn (hQ _ h)
  · replace h := h.2 q
    refine w_aload_n C dX12_throughOf_23 rfl (mem_k 0 rfl) ?_
    refine w_iload_n C dX12_throughOf_24 rfl (mem_k 1 rfl) ?_
    refine w_iload_n C dX12_throughOf_25 rfl (mem_k 2 rfl) ?_
    refine w_iload C dX12_throughOf_26 (mem_k 7 rfl) ?_
    refine cl_X12_bearsBy (ck_X12_206 ⟨by decide, by decide⟩) C dX12_throughOf_28 hn h3 (Nat.le_of_ble_eq_true rfl) (isO.n (ci := 12) ⟨rfl, ho0⟩ (hn.trans h3)) h (fun v7 h => ?_)
    refine w_if_le (tgt := 85) C dX12_throughOf_31 (by decide) (fun q => ?_) (fun q => ?_)
    · replace h := h.1 q
      obtain ⟨v8, ev8⟩ : ∃ z : Int, z = x9 + 1 := ⟨_, rfl⟩
      refine x_iinc (L' := [(9, vI v8), (0, vR (some o0)), (1, vI x1), (2, vI x2), (3, vI x3), (4, vI x4), (5, vL x5), (7, vL x7)]) C dX12_throughOf_85 (mem_k 7 rfl) (by decide) h.1 ev8 rfl ?_
      replace h := h.2 v8 ev8
      refine w_goto (tgt := 9) C dX12_throughOf_88 (by decide) ?_
      refine x_pc (pc2 := 9) rfl ?_
      refine x_pick (L' := [(0, vR (some o0)), (1, vI x1), (2, vI x2), (3, vI x3), (4, vI x4), (5, vL x5), (7, vL x7), (9, vI v8)]) [1, 2, 3, 4, 5, 6, 7, 0] rfl ?_
      exact hK9 x5 x7 v8 h
    · replace h := h.2 q
      refine w_aload_n C dX12_throughOf_34 rfl (mem_k 0 rfl) ?_
      refine w_iload_n C dX12_throughOf_35 rfl (mem_k 1 rfl) ?_
      refine w_iload_n C dX12_throughOf_36 rfl (mem_k 2 rfl) ?_
      refine w_iload C dX12_throughOf_37 (mem_k 7 rfl) ?_
      refine cl_X12_pushOf (ck_X12_199 ⟨by decide, by decide⟩) C dX12_throughOf_39 hn h3 (Nat.le_of_ble_eq_true rfl) (isO.n (ci := 12) ⟨rfl, ho0⟩ (hn.trans h3)) h (fun v9 h => ?_)
      refine w_aload_n C dX12_throughOf_42 rfl (mem_k 0 rfl) ?_
      refine x_getJ C dX12_throughOf_43 fw_X12_184 (isO.n (ci := 12) ⟨rfl, ho0⟩ (hn.trans h3)) ?_
      refine x_ldiv C dX12_throughOf_46 h.1 ?_
      replace h := h.2
      refine x_nmL (fun v10 ev10 => ?_)
      replace h := h v10 ev10
      refine x_lstore (L' := [(10, vL v10), (0, vR (some o0)), (1, vI x1), (2, vI x2), (3, vI x3), (4, vI x4), (5, vL x5), (7, vL x7), (9, vI x9)]) C dX12_throughOf_47 (by decide) rfl ?_
      refine w_lload C dX12_throughOf_49 (mem_k 6 rfl) ?_
      refine w_lload C dX12_throughOf_51 (mem_k 0 rfl) ?_
      refine w_aload_n C dX12_throughOf_53 rfl (mem_k 1 rfl) ?_
      refine x_getR C dX12_throughOf_54 fw_X12_22 (isO.n (ci := 12) ⟨rfl, ho0⟩ (hn.trans h3)) (fun r11 er11 => ?_)
      replace h := h r11 er11
      refine w_bipush C dX12_throughOf_57 (by decide) ?_
      refine w_iconst C dX12_throughOf_59 ⟨by decide, by decide⟩ ?_
      refine w_aload_n C dX12_throughOf_60 rfl (mem_k 1 rfl) ?_
      refine w_iload_n C dX12_throughOf_61 rfl (mem_k 3 rfl) ?_
      refine w_iload C dX12_throughOf_62 (mem_k 8 rfl) ?_
      refine cl_X12_layerOf (ck_X12_160 ⟨by decide, by decide⟩) C dX12_throughOf_64 hn h3 (Nat.le_of_ble_eq_true rfl) (isO.n (ci := 12) ⟨rfl, ho0⟩ (hn.trans h3)) h (fun v12 h => ?_)
      refine w_imul C dX12_throughOf_67 h.1 ?_
      replace h := h.2
      refine w_iadd C dX12_throughOf_68 h.1 ?_
      replace h := h.2
      refine w_iload C dX12_throughOf_69 (mem_k 5 rfl) ?_
      refine w_iadd C dX12_throughOf_71 h.1 ?_
      replace h := h.2
      obtain ⟨o13, g14, h⟩ := h
      refine x_iald C dX12_throughOf_72 (isA.n g14 (hn.trans h3)) ?_
      refine w_i2l C dX12_throughOf_73 ?_
      refine w_lmul C dX12_throughOf_74 h.1 ?_
      replace h := h.2
      refine w_ladd C dX12_throughOf_75 h.1 ?_
      replace h := h.2
      refine x_nmL (fun v15 ev15 => ?_)
      replace h := h v15 ev15
      refine x_lstore (L' := [(5, vL v15), (10, vL v10), (0, vR (some o0)), (1, vI x1), (2, vI x2), (3, vI x3), (4, vI x4), (7, vL x7), (9, vI x9)]) C dX12_throughOf_76 (by decide) rfl ?_
      refine w_lload C dX12_throughOf_78 (mem_k 7 rfl) ?_
      refine w_lload C dX12_throughOf_80 (mem_k 1 rfl) ?_
      refine w_ladd C dX12_throughOf_82 h.1 ?_
      replace h := h.2
      refine x_nmL (fun v16 ev16 => ?_)
      replace h := h v16 ev16
      refine x_lstore (L' := [(7, vL v16), (5, vL v15), (10, vL v10), (0, vR (some o0)), (1, vI x1), (2, vI x2), (3, vI x3), (4, vI x4), (9, vI x9)]) C dX12_throughOf_83 (by decide) rfl ?_
      obtain ⟨v17, ev17⟩ : ∃ z : Int, z = x9 + 1 := ⟨_, rfl⟩
      refine x_iinc (L' := [(9, vI v17), (7, vL v16), (5, vL v15), (10, vL v10), (0, vR (some o0)), (1, vI x1), (2, vI x2), (3, vI x3), (4, vI x4)]) C dX12_throughOf_85 (mem_k 8 rfl) (by decide) h.1 ev17 rfl ?_
      replace h := h.2 v17 ev17
      refine w_goto (tgt := 9) C dX12_throughOf_88 (by decide) ?_
      refine x_pc (pc2 := 9) rfl ?_
      refine x_pick (L' := [(0, vR (some o0)), (1, vI x1), (2, vI x2), (3, vI x3), (4, vI x4), (5, vL v15), (7, vL v16), (9, vI v17)]) [4, 5, 6, 7, 8, 2, 1, 0] rfl ?_
      exact hK9 v15 v16 v17 h
set_option maxRecDepth 100000 in
set_option maxHeartbeats 4000000 in
theorem k_X12_throughOf_9 {o0 : Nat} {x1 : Int} {x2 : Int} {x3 : Int} {x4 : Int} {x5 : Int} {x7 : Int} {x9 : Int} {M : Mm} {Q : Int → Prop} (C : Cx p s m args meth c cX12_throughOf 12 RX12 D cy G n0) (hr : meth.sig.returnType = some .int) (h3 : n0 = 243) (hn : M.2.2.2 = n0) (ho0 : o0 < 243 ∧ (SH o0).1 = 12) (hQ : ∀ x, Q x → Qp (some (vI x)) M) (h : P_X12_throughOf_9 o0 x1 x2 x3 x4 x5 x7 x9 M Q ) : WW p l e ({ frames := 3, cells := 0, slots := 0, locals := 71 }) s m args below meth c (ZQ below args s D cy G n0 Qp n0) 12 D cy G n0 9 [(0, vR (some o0)), (1, vI x1), (2, vI x2), (3, vI x3), (4, vI x4), (5, vL x5), (7, vL x7), (9, vI x9)] [] M := by
  refine lpW_sound (P := fun y : Int × Int × Int => WW p l e ({ frames := 3, cells := 0, slots := 0, locals := 71 }) s m args below meth c (ZQ below args s D cy G n0 Qp n0) 12 D cy G n0 9 [(0, vR (some o0)), (1, vI x1), (2, vI x2), (3, vI x3), (4, vI x4), (5, vL y.1), (7, vL y.2.1), (9, vI y.2.2)] [] M) ?_ h
  intro K y hK hF
  obtain ⟨x5, x7, x9⟩ := y
  exact f_X12_throughOf_9 C hr h3 hn ho0 hQ  (fun x5 x7 x9 hk => hK (x5, x7, x9) hk) hF
set_option maxRecDepth 100000 in
set_option maxHeartbeats 4000000 in
theorem k_X12_throughOf_0 {o0 : Nat} {x1 : Int} {x2 : Int} {x3 : Int} {x4 : Int} {M : Mm} {Q : Int → Prop} (C : Cx p s m args meth c cX12_throughOf 12 RX12 D cy G n0) (hr : meth.sig.returnType = some .int) (h3 : n0 = 243) (hn : M.2.2.2 = n0) (ho0 : o0 < 243 ∧ (SH o0).1 = 12) (hQ : ∀ x, Q x → Qp (some (vI x)) M) (h : P_X12_throughOf o0 x1 x2 x3 x4 M Q ) : WW p l e ({ frames := 3, cells := 0, slots := 0, locals := 71 }) s m args below meth c (ZQ below args s D cy G n0 Qp n0) 12 D cy G n0 0 [(0, vR (some o0)), (1, vI x1), (2, vI x2), (3, vI x3), (4, vI x4)] [] M := by
  unfold P_X12_throughOf at h
  refine w_lconst C dX12_throughOf_0 ?_
  refine x_lstore (L' := [(5, vL 0), (0, vR (some o0)), (1, vI x1), (2, vI x2), (3, vI x3), (4, vI x4)]) C dX12_throughOf_1 (by decide) rfl ?_
  refine w_lconst C dX12_throughOf_3 ?_
  refine x_lstore (L' := [(7, vL 0), (5, vL 0), (0, vR (some o0)), (1, vI x1), (2, vI x2), (3, vI x3), (4, vI x4)]) C dX12_throughOf_4 (by decide) rfl ?_
  refine w_iconst C dX12_throughOf_6 ⟨by decide, by decide⟩ ?_
  refine x_istore (L' := [(9, vI 0), (7, vL 0), (5, vL 0), (0, vR (some o0)), (1, vI x1), (2, vI x2), (3, vI x3), (4, vI x4)]) C dX12_throughOf_7 (by decide) rfl ?_
  refine x_pc (pc2 := 9) rfl ?_
  refine x_pick (L' := [(0, vR (some o0)), (1, vI x1), (2, vI x2), (3, vI x3), (4, vI x4), (5, vL 0), (7, vL 0), (9, vI 0)]) [3, 4, 5, 6, 7, 2, 1, 0] rfl ?_
  exact k_X12_throughOf_9 C hr h3 hn ho0 hQ  h
set_option maxRecDepth 100000 in
set_option maxHeartbeats 4000000 in
theorem con_X12_throughOf (l : Launch) (D : va_G) (cy : Nat → ClassId) : Con l D cy yX12_throughOf cX12_throughOf 12 (some .int) ({ frames := 3, cells := 0, slots := 0, locals := 71 }) 0 0 SP_X12_throughOf := by
  refine con_of (by decide) (fun as M Qp h => ?_) ?_
  · obtain ⟨-, o0, x1, x2, x3, x4, rfl, -⟩ := h
    exact Nat.le_of_ble_eq_true rfl
  · intro p e s m args below meth c G as M Qp h C hr hnm
    obtain ⟨hn, o0, x1, x2, x3, x4, rfl, ho1, ho2, Q0, hQ, h⟩ := h
    refine x_pick (L' := [(0, vR (some o0)), (1, vI x1), (2, vI x2), (3, vI x3), (4, vI x4)]) [0, 1, 2, 3, 4] rfl ?_
    exact k_X12_throughOf_0 C hr hn rfl ⟨ho1, ho2⟩ hQ h
set_option maxRecDepth 100000 in
set_option maxHeartbeats 4000000 in
theorem cl_X12_throughOf {p : Program} {l : Launch} {e : Env} {R : Room} {s : State} {m : MethodId} {args : Array Value} {below : List Frame} {meth : Method} {c : Code} {Q : State → Prop} {cc : ByteArray} {nL : Nat} {own : String} {D : va_G} {cy : Nat → ClassId} {G : Nat × Nat} {n0 pc : Nat} {L : List (Nat × PV)} {st : List PV} {M : Mm} {op : Instr} (K : CallOK l D cy R own op 0 0 (spV 12 4 SP_X12_throughOf)) (C : Cx p s m args meth c cc nL own D cy G n0) (hd : decode cc pc = .ok (op, 3)) (hn : M.2.2.2 = n0) (h3 : n0 = 243) (hlen : argN st ≤ 8) {r : Option Nat} {o0 : Nat} (ho : isOn 12 M.2.2.2 r o0) {x1 : Int} {x2 : Int} {x3 : Int} {x4 : Int} {Q0 : Int → Prop} (h : P_X12_throughOf o0 x1 x2 x3 x4 M Q0) (k : ∀ x, Q0 x → WW p l e R s m args below meth c Q nL D cy G n0  (pc + 3) L (vI x :: st) M) : WW p l e R s m args below meth c Q nL D cy G n0  pc L (vI x4 :: vI x3 :: vI x2 :: vI x1 :: vR r :: st) M := by
  obtain ⟨rfl, ho1, ho2⟩ := ho
  refine x_call0 K C hd (as := [vR (some o0), vI x1, vI x2, vI x3, vI x4]) rfl hn hlen (fun v M2 => ∃ x, v = some (vI x) ∧ M2 = M ∧ Q0 x) ⟨⟨o0, [vI x1, vI x2, vI x3, vI x4], rfl, rfl, ho1, ho2⟩, hn.trans h3, o0, x1, x2, x3, x4, rfl, (hn.trans h3) ▸ ho1, ho2, Q0, fun x hx => ⟨x, rfl, rfl, hx⟩, h⟩ ?_
  rintro _ _ ⟨x, rfl, rfl, hx⟩ hm
  exact k x hx
end W_X12_throughOf
theorem dX12_through_0 : decode cX12_through 0 = .ok (.aload_n 0, 1) := by decide +kernel
theorem dX12_through_1 : decode cX12_through 1 = .ok (.iload_n 1, 1) := by decide +kernel
theorem dX12_through_2 : decode cX12_through 2 = .ok (.invokevirtual 155, 3) := by decide +kernel
theorem dX12_through_5 : decode cX12_through 5 = .ok (.ifCond .eq 31, 3) := by decide +kernel
theorem dX12_through_8 : decode cX12_through 8 = .ok (.aload_n 0, 1) := by decide +kernel
theorem dX12_through_9 : decode cX12_through 9 = .ok (.iload_n 2, 1) := by decide +kernel
theorem dX12_through_10 : decode cX12_through 10 = .ok (.invokevirtual 152, 3) := by decide +kernel
theorem dX12_through_13 : decode cX12_through 13 = .ok (.ifCond .eq 23, 3) := by decide +kernel
theorem dX12_through_16 : decode cX12_through 16 = .ok (.iload_n 3, 1) := by decide +kernel
theorem dX12_through_17 : decode cX12_through 17 = .ok (.invokestatic 249, 3) := by decide +kernel
theorem dX12_through_20 : decode cX12_through 20 = .ok (.ifCond .eq 16, 3) := by decide +kernel
theorem dX12_through_23 : decode cX12_through 23 = .ok (.iload 4, 2) := by decide +kernel
theorem dX12_through_25 : decode cX12_through 25 = .ok (.i2l, 1) := by decide +kernel
theorem dX12_through_26 : decode cX12_through 26 = .ok (.lconst 0, 1) := by decide +kernel
theorem dX12_through_27 : decode cX12_through 27 = .ok (.ldc2_w 244, 3) := by decide +kernel
theorem dX12_through_30 : decode cX12_through 30 = .ok (.invokestatic 85, 3) := by decide +kernel
theorem dX12_through_33 : decode cX12_through 33 = .ok (.ifCond .ne 5, 3) := by decide +kernel
theorem dX12_through_36 : decode cX12_through 36 = .ok (.iconst (-1), 1) := by decide +kernel
theorem dX12_through_37 : decode cX12_through 37 = .ok (.ireturn, 1) := by decide +kernel
theorem dX12_through_38 : decode cX12_through 38 = .ok (.aload_n 0, 1) := by decide +kernel
theorem dX12_through_39 : decode cX12_through 39 = .ok (.iload_n 1, 1) := by decide +kernel
theorem dX12_through_40 : decode cX12_through 40 = .ok (.iload_n 2, 1) := by decide +kernel
theorem dX12_through_41 : decode cX12_through 41 = .ok (.invokevirtual 188, 3) := by decide +kernel
theorem dX12_through_44 : decode cX12_through 44 = .ok (.aload_n 0, 1) := by decide +kernel
theorem dX12_through_45 : decode cX12_through 45 = .ok (.iload_n 1, 1) := by decide +kernel
theorem dX12_through_46 : decode cX12_through 46 = .ok (.iload_n 2, 1) := by decide +kernel
theorem dX12_through_47 : decode cX12_through 47 = .ok (.iload_n 3, 1) := by decide +kernel
theorem dX12_through_48 : decode cX12_through 48 = .ok (.iload 4, 2) := by decide +kernel
theorem dX12_through_50 : decode cX12_through 50 = .ok (.invokevirtual 252, 3) := by decide +kernel
theorem dX12_through_53 : decode cX12_through 53 = .ok (.ireturn, 1) := by decide +kernel
theorem ck_X12_252 {l : Launch} {D : va_G} {cy : Nat → ClassId} {R : Room} (hR : 4 ≤ R.frames ∧ 102 ≤ R.locals) : CallOK l D cy R RX12 (.invokevirtual 252) 0 0 (spV 12 4 SP_X12_throughOf) := call_V (ci := 12) (con_X12_throughOf l D cy) (lwG_5 (i := 137) rfl rfl) (lwG_5 (i := 139) rfl rfl) (lwG_p (i := 41) rfl rfl) (lwG_1 (i := 13) rfl rfl) (lwG_5 (i := 140) rfl rfl) (by decide) ⟨rfl, by decide, by decide, rfl⟩ ⟨rfl, rfl⟩ hR
section W_X12_through
variable {p : Program} {l : Launch} {e : Env} {s : State} {m : MethodId} {args : Array Value} {below : List Frame} {meth : Method} {c : Code} {D : va_G} {cy : Nat → ClassId} {G : Nat × Nat} {n0 : Nat} {Qp : Option PV → Mm → Prop}
set_option maxRecDepth 100000 in
set_option maxHeartbeats 4000000 in
theorem k_X12_through_0 {o0 : Nat} {x1 : Int} {x2 : Int} {x3 : Int} {x4 : Int} {M : Mm} {Q : Int → Mm → Prop} (C : Cx p s m args meth c cX12_through 5 RX12 D cy G n0) (hr : meth.sig.returnType = some .int) (h3 : n0 = 243) (hn : M.2.2.2 = n0) (ho0 : o0 < 243 ∧ (SH o0).1 = 12) (hQ : ∀ x M, Q x M → Qp (some (vI x)) M) (h : P_X12_through o0 x1 x2 x3 x4 M Q ) : WW p l e ({ frames := 4, cells := 0, slots := 0, locals := 102 }) s m args below meth c (ZQ below args s D cy G n0 Qp n0) 5 D cy G n0 0 [(0, vR (some o0)), (1, vI x1), (2, vI x2), (3, vI x3), (4, vI x4)] [] M := by
  unfold P_X12_through at h
  refine w_aload_n C dX12_through_0 rfl (mem_k 0 rfl) ?_
  refine w_iload_n C dX12_through_1 rfl (mem_k 1 rfl) ?_
  refine cl_X12_isBody (ck_X12_155 ⟨by decide, by decide⟩) C dX12_through_2 hn h3 (Nat.le_of_ble_eq_true rfl) (isO.n (ci := 12) ⟨rfl, ho0⟩ (hn.trans h3)) h (fun v1 h => ?_)
  refine w_if_eq (tgt := 36) C dX12_through_5 (by decide) (fun q => ?_) (fun q => ?_)
  · replace h := h.1 q
    refine w_iconst C dX12_through_36 ⟨by decide, by decide⟩ ?_
    exact x_iret C hr dX12_through_37 hn (hQ _ M h)
  · replace h := h.2 q
    refine w_aload_n C dX12_through_8 rfl (mem_k 0 rfl) ?_
    refine w_iload_n C dX12_through_9 rfl (mem_k 2 rfl) ?_
    refine cl_X12_isSeat (ck_X12_152 ⟨by decide, by decide⟩) C dX12_through_10 hn h3 (Nat.le_of_ble_eq_true rfl) (isO.n (ci := 12) ⟨rfl, ho0⟩ (hn.trans h3)) h (fun v2 h => ?_)
    refine w_if_eq (tgt := 36) C dX12_through_13 (by decide) (fun q => ?_) (fun q => ?_)
    · replace h := h.1 q
      refine w_iconst C dX12_through_36 ⟨by decide, by decide⟩ ?_
      exact x_iret C hr dX12_through_37 hn (hQ _ M h)
    · replace h := h.2 q
      refine w_iload_n C dX12_through_16 rfl (mem_k 3 rfl) ?_
      refine cl_X12_isRoad (ck_X12_249 ⟨by decide, by decide⟩) C dX12_through_17 hn h3 (Nat.le_of_ble_eq_true rfl) h (fun v3 h => ?_)
      refine w_if_eq (tgt := 36) C dX12_through_20 (by decide) (fun q => ?_) (fun q => ?_)
      · replace h := h.1 q
        refine w_iconst C dX12_through_36 ⟨by decide, by decide⟩ ?_
        exact x_iret C hr dX12_through_37 hn (hQ _ M h)
      · replace h := h.2 q
        refine w_iload C dX12_through_23 (mem_k 4 rfl) ?_
        refine w_i2l C dX12_through_25 ?_
        refine w_lconst C dX12_through_26 ?_
        refine w_ldc2 (x := 3) C dX12_through_27 cn_X12_244 ⟨by decide, by decide⟩ ?_
        refine cl_X12_in (ck_X12_85 ⟨by decide, by decide⟩) C dX12_through_30 hn h3 (Nat.le_of_ble_eq_true rfl) h (fun v4 h => ?_)
        refine w_if_ne (tgt := 38) C dX12_through_33 (by decide) (fun q => ?_) (fun q => ?_)
        · replace h := h.1 q
          refine w_aload_n C dX12_through_38 rfl (mem_k 0 rfl) ?_
          refine w_iload_n C dX12_through_39 rfl (mem_k 1 rfl) ?_
          refine w_iload_n C dX12_through_40 rfl (mem_k 2 rfl) ?_
          refine cl_X12_layLevel (ck_X12_188 ⟨by decide, by decide⟩) C dX12_through_41 hn h3 (Nat.le_of_ble_eq_true rfl) (isO.n (ci := 12) ⟨rfl, ho0⟩ (hn.trans h3)) h (fun M5 h hn6 => ?_)
          refine w_aload_n C dX12_through_44 rfl (mem_k 0 rfl) ?_
          refine w_iload_n C dX12_through_45 rfl (mem_k 1 rfl) ?_
          refine w_iload_n C dX12_through_46 rfl (mem_k 2 rfl) ?_
          refine w_iload_n C dX12_through_47 rfl (mem_k 3 rfl) ?_
          refine w_iload C dX12_through_48 (mem_k 4 rfl) ?_
          refine cl_X12_throughOf (ck_X12_252 ⟨by decide, by decide⟩) C dX12_through_50 hn6 h3 (Nat.le_of_ble_eq_true rfl) (isO.n (ci := 12) ⟨rfl, ho0⟩ (hn6.trans h3)) h (fun v7 h => ?_)
          exact x_iret C hr dX12_through_53 hn6 (hQ _ M5 h)
        · replace h := h.2 q
          refine w_iconst C dX12_through_36 ⟨by decide, by decide⟩ ?_
          exact x_iret C hr dX12_through_37 hn (hQ _ M h)
set_option maxRecDepth 100000 in
set_option maxHeartbeats 4000000 in
theorem con_X12_through (l : Launch) (D : va_G) (cy : Nat → ClassId) : Con l D cy yX12_through cX12_through 5 (some .int) ({ frames := 4, cells := 0, slots := 0, locals := 102 }) 0 0 SP_X12_through := by
  refine con_of (by decide) (fun as M Qp h => ?_) ?_
  · obtain ⟨-, o0, x1, x2, x3, x4, rfl, -⟩ := h
    exact Nat.le_of_ble_eq_true rfl
  · intro p e s m args below meth c G as M Qp h C hr hnm
    obtain ⟨hn, o0, x1, x2, x3, x4, rfl, ho1, ho2, Q0, hQ, h⟩ := h
    refine x_pick (L' := [(0, vR (some o0)), (1, vI x1), (2, vI x2), (3, vI x3), (4, vI x4)]) [0, 1, 2, 3, 4] rfl ?_
    exact k_X12_through_0 C hr hn rfl ⟨ho1, ho2⟩ hQ h
set_option maxRecDepth 100000 in
set_option maxHeartbeats 4000000 in
theorem cl_X12_through {p : Program} {l : Launch} {e : Env} {R : Room} {s : State} {m : MethodId} {args : Array Value} {below : List Frame} {meth : Method} {c : Code} {Q : State → Prop} {cc : ByteArray} {nL : Nat} {own : String} {D : va_G} {cy : Nat → ClassId} {G : Nat × Nat} {n0 pc : Nat} {L : List (Nat × PV)} {st : List PV} {M : Mm} {op : Instr} (K : CallOK l D cy R own op 0 0 (spV 12 4 SP_X12_through)) (C : Cx p s m args meth c cc nL own D cy G n0) (hd : decode cc pc = .ok (op, 3)) (hn : M.2.2.2 = n0) (h3 : n0 = 243) (hlen : argN st ≤ 8) {r : Option Nat} {o0 : Nat} (ho : isOn 12 M.2.2.2 r o0) {x1 : Int} {x2 : Int} {x3 : Int} {x4 : Int} {Q0 : Int → Mm → Prop} (h : P_X12_through o0 x1 x2 x3 x4 M Q0) (k : ∀ x M2, Q0 x M2 → M2.2.2.2 = n0 → WW p l e R s m args below meth c Q nL D cy G n0  (pc + 3) L (vI x :: st) M2) : WW p l e R s m args below meth c Q nL D cy G n0  pc L (vI x4 :: vI x3 :: vI x2 :: vI x1 :: vR r :: st) M := by
  obtain ⟨rfl, ho1, ho2⟩ := ho
  refine x_call0 K C hd (as := [vR (some o0), vI x1, vI x2, vI x3, vI x4]) rfl hn hlen (fun v M2 => ∃ x, v = some (vI x) ∧ Q0 x M2) ⟨⟨o0, [vI x1, vI x2, vI x3, vI x4], rfl, rfl, ho1, ho2⟩, hn.trans h3, o0, x1, x2, x3, x4, rfl, (hn.trans h3) ▸ ho1, ho2, Q0, fun x M2 hx => ⟨x, rfl, hx⟩, h⟩ ?_
  rintro _ _ ⟨x, rfl, hx⟩ hm
  exact k x _ hx hm
end W_X12_through
theorem dX12_doseOf_0 : decode cX12_doseOf 0 = .ok (.lconst 0, 1) := by decide +kernel
theorem dX12_doseOf_1 : decode cX12_doseOf 1 = .ok (.lstore 5, 2) := by decide +kernel
theorem dX12_doseOf_3 : decode cX12_doseOf 3 = .ok (.iconst 0, 1) := by decide +kernel
theorem dX12_doseOf_4 : decode cX12_doseOf 4 = .ok (.istore 7, 2) := by decide +kernel
theorem dX12_doseOf_6 : decode cX12_doseOf 6 = .ok (.iload 7, 2) := by decide +kernel
theorem dX12_doseOf_8 : decode cX12_doseOf 8 = .ok (.iconst 4, 1) := by decide +kernel
theorem dX12_doseOf_9 : decode cX12_doseOf 9 = .ok (.if_icmp .ge 31, 3) := by decide +kernel
theorem dX12_doseOf_12 : decode cX12_doseOf 12 = .ok (.aload_n 0, 1) := by decide +kernel
theorem dX12_doseOf_13 : decode cX12_doseOf 13 = .ok (.iload_n 1, 1) := by decide +kernel
theorem dX12_doseOf_14 : decode cX12_doseOf 14 = .ok (.iload_n 2, 1) := by decide +kernel
theorem dX12_doseOf_15 : decode cX12_doseOf 15 = .ok (.iload_n 3, 1) := by decide +kernel
theorem dX12_doseOf_16 : decode cX12_doseOf 16 = .ok (.iload 7, 2) := by decide +kernel
theorem dX12_doseOf_18 : decode cX12_doseOf 18 = .ok (.invokevirtual 252, 3) := by decide +kernel
theorem dX12_doseOf_21 : decode cX12_doseOf 21 = .ok (.i2l, 1) := by decide +kernel
theorem dX12_doseOf_22 : decode cX12_doseOf 22 = .ok (.lstore 8, 2) := by decide +kernel
theorem dX12_doseOf_24 : decode cX12_doseOf 24 = .ok (.lload 5, 2) := by decide +kernel
theorem dX12_doseOf_26 : decode cX12_doseOf 26 = .ok (.lload 8, 2) := by decide +kernel
theorem dX12_doseOf_28 : decode cX12_doseOf 28 = .ok (.lload 8, 2) := by decide +kernel
theorem dX12_doseOf_30 : decode cX12_doseOf 30 = .ok (.lmul, 1) := by decide +kernel
theorem dX12_doseOf_31 : decode cX12_doseOf 31 = .ok (.ladd, 1) := by decide +kernel
theorem dX12_doseOf_32 : decode cX12_doseOf 32 = .ok (.lstore 5, 2) := by decide +kernel
theorem dX12_doseOf_34 : decode cX12_doseOf 34 = .ok (.iinc 7 1, 3) := by decide +kernel
theorem dX12_doseOf_37 : decode cX12_doseOf 37 = .ok (.goto (-31), 3) := by decide +kernel
theorem dX12_doseOf_40 : decode cX12_doseOf 40 = .ok (.lload 5, 2) := by decide +kernel
theorem dX12_doseOf_42 : decode cX12_doseOf 42 = .ok (.iload 4, 2) := by decide +kernel
theorem dX12_doseOf_44 : decode cX12_doseOf 44 = .ok (.i2l, 1) := by decide +kernel
theorem dX12_doseOf_45 : decode cX12_doseOf 45 = .ok (.lmul, 1) := by decide +kernel
theorem dX12_doseOf_46 : decode cX12_doseOf 46 = .ok (.lreturn, 1) := by decide +kernel
section W_X12_doseOf
variable {p : Program} {l : Launch} {e : Env} {s : State} {m : MethodId} {args : Array Value} {below : List Frame} {meth : Method} {c : Code} {D : va_G} {cy : Nat → ClassId} {G : Nat × Nat} {n0 : Nat} {Qp : Option PV → Mm → Prop}
set_option maxRecDepth 100000 in
set_option maxHeartbeats 4000000 in
theorem f_X12_doseOf_6 {o0 : Nat} {x1 : Int} {x2 : Int} {x3 : Int} {x4 : Int} {x5 : Int} {x7 : Int} {M : Mm} {Q : Int → Prop} {K6 : Int × Int → Prop} (C : Cx p s m args meth c cX12_doseOf 10 RX12 D cy G n0) (hr : meth.sig.returnType = some .long) (h3 : n0 = 243) (hn : M.2.2.2 = n0) (ho0 : o0 < 243 ∧ (SH o0).1 = 12) (hQ : ∀ x, Q x → Qp (some (vL x)) M) (hK6 : ∀ (x5 : Int) (x7 : Int), K6 (x5, x7) → WW p l e ({ frames := 4, cells := 0, slots := 0, locals := 102 }) s m args below meth c (ZQ below args s D cy G n0 Qp n0) 10 D cy G n0 6 [(0, vR (some o0)), (1, vI x1), (2, vI x2), (3, vI x3), (4, vI x4), (5, vL x5), (7, vI x7)] [] M) (h : F_X12_doseOf_6 o0 x1 x2 x3 x4 M Q  K6 x5 x7) : WW p l e ({ frames := 4, cells := 0, slots := 0, locals := 102 }) s m args below meth c (ZQ below args s D cy G n0 Qp n0) 10 D cy G n0 6 [(0, vR (some o0)), (1, vI x1), (2, vI x2), (3, vI x3), (4, vI x4), (5, vL x5), (7, vI x7)] [] M := by
  unfold F_X12_doseOf_6 at h
  refine w_iload C dX12_doseOf_6 (mem_k 6 rfl) ?_
  refine w_iconst C dX12_doseOf_8 ⟨by decide, by decide⟩ ?_
  refine w_icmp_ge (tgt := 40) C dX12_doseOf_9 (by decide) (fun q => ?_) (fun q => ?_)
  · replace h := h.1 q
    refine w_lload C dX12_doseOf_40 (mem_k 5 rfl) ?_
    refine w_iload C dX12_doseOf_42 (mem_k 4 rfl) ?_
    refine w_i2l C dX12_doseOf_44 ?_
    refine w_lmul C dX12_doseOf_45 h.1 ?_
    replace h := h.2
    exact x_lret C hr dX12_doseOf_46 hn (hQ _ h)
  · replace h := h.2 q
    refine w_aload_n C dX12_doseOf_12 rfl (mem_k 0 rfl) ?_
    refine w_iload_n C dX12_doseOf_13 rfl (mem_k 1 rfl) ?_
    refine w_iload_n C dX12_doseOf_14 rfl (mem_k 2 rfl) ?_
    refine w_iload_n C dX12_doseOf_15 rfl (mem_k 3 rfl) ?_
    refine w_iload C dX12_doseOf_16 (mem_k 6 rfl) ?_
    refine cl_X12_throughOf (ck_X12_252 ⟨by decide, by decide⟩) C dX12_doseOf_18 hn h3 (Nat.le_of_ble_eq_true rfl) (isO.n (ci := 12) ⟨rfl, ho0⟩ (hn.trans h3)) h (fun v1 h => ?_)
    refine w_i2l C dX12_doseOf_21 ?_
    refine x_lstore (L' := [(8, vL v1), (0, vR (some o0)), (1, vI x1), (2, vI x2), (3, vI x3), (4, vI x4), (5, vL x5), (7, vI x7)]) C dX12_doseOf_22 (by decide) rfl ?_
    refine w_lload C dX12_doseOf_24 (mem_k 6 rfl) ?_
    refine w_lload C dX12_doseOf_26 (mem_k 0 rfl) ?_
    refine w_lload C dX12_doseOf_28 (mem_k 0 rfl) ?_
    refine w_lmul C dX12_doseOf_30 h.1 ?_
    replace h := h.2
    refine w_ladd C dX12_doseOf_31 h.1 ?_
    replace h := h.2
    refine x_nmL (fun v2 ev2 => ?_)
    replace h := h v2 ev2
    refine x_lstore (L' := [(5, vL v2), (8, vL v1), (0, vR (some o0)), (1, vI x1), (2, vI x2), (3, vI x3), (4, vI x4), (7, vI x7)]) C dX12_doseOf_32 (by decide) rfl ?_
    obtain ⟨v3, ev3⟩ : ∃ z : Int, z = x7 + 1 := ⟨_, rfl⟩
    refine x_iinc (L' := [(7, vI v3), (5, vL v2), (8, vL v1), (0, vR (some o0)), (1, vI x1), (2, vI x2), (3, vI x3), (4, vI x4)]) C dX12_doseOf_34 (mem_k 7 rfl) (by decide) h.1 ev3 rfl ?_
    replace h := h.2 v3 ev3
    refine w_goto (tgt := 6) C dX12_doseOf_37 (by decide) ?_
    refine x_pc (pc2 := 6) rfl ?_
    refine x_pick (L' := [(0, vR (some o0)), (1, vI x1), (2, vI x2), (3, vI x3), (4, vI x4), (5, vL v2), (7, vI v3)]) [3, 4, 5, 6, 7, 1, 0] rfl ?_
    exact hK6 v2 v3 h
set_option maxRecDepth 100000 in
set_option maxHeartbeats 4000000 in
theorem k_X12_doseOf_6 {o0 : Nat} {x1 : Int} {x2 : Int} {x3 : Int} {x4 : Int} {x5 : Int} {x7 : Int} {M : Mm} {Q : Int → Prop} (C : Cx p s m args meth c cX12_doseOf 10 RX12 D cy G n0) (hr : meth.sig.returnType = some .long) (h3 : n0 = 243) (hn : M.2.2.2 = n0) (ho0 : o0 < 243 ∧ (SH o0).1 = 12) (hQ : ∀ x, Q x → Qp (some (vL x)) M) (h : P_X12_doseOf_6 o0 x1 x2 x3 x4 x5 x7 M Q ) : WW p l e ({ frames := 4, cells := 0, slots := 0, locals := 102 }) s m args below meth c (ZQ below args s D cy G n0 Qp n0) 10 D cy G n0 6 [(0, vR (some o0)), (1, vI x1), (2, vI x2), (3, vI x3), (4, vI x4), (5, vL x5), (7, vI x7)] [] M := by
  refine lpW_sound (P := fun y : Int × Int => WW p l e ({ frames := 4, cells := 0, slots := 0, locals := 102 }) s m args below meth c (ZQ below args s D cy G n0 Qp n0) 10 D cy G n0 6 [(0, vR (some o0)), (1, vI x1), (2, vI x2), (3, vI x3), (4, vI x4), (5, vL y.1), (7, vI y.2)] [] M) ?_ h
  intro K y hK hF
  obtain ⟨x5, x7⟩ := y
  exact f_X12_doseOf_6 C hr h3 hn ho0 hQ  (fun x5 x7 hk => hK (x5, x7) hk) hF
set_option maxRecDepth 100000 in
set_option maxHeartbeats 4000000 in
theorem k_X12_doseOf_0 {o0 : Nat} {x1 : Int} {x2 : Int} {x3 : Int} {x4 : Int} {M : Mm} {Q : Int → Prop} (C : Cx p s m args meth c cX12_doseOf 10 RX12 D cy G n0) (hr : meth.sig.returnType = some .long) (h3 : n0 = 243) (hn : M.2.2.2 = n0) (ho0 : o0 < 243 ∧ (SH o0).1 = 12) (hQ : ∀ x, Q x → Qp (some (vL x)) M) (h : P_X12_doseOf o0 x1 x2 x3 x4 M Q ) : WW p l e ({ frames := 4, cells := 0, slots := 0, locals := 102 }) s m args below meth c (ZQ below args s D cy G n0 Qp n0) 10 D cy G n0 0 [(0, vR (some o0)), (1, vI x1), (2, vI x2), (3, vI x3), (4, vI x4)] [] M := by
  unfold P_X12_doseOf at h
  refine w_lconst C dX12_doseOf_0 ?_
  refine x_lstore (L' := [(5, vL 0), (0, vR (some o0)), (1, vI x1), (2, vI x2), (3, vI x3), (4, vI x4)]) C dX12_doseOf_1 (by decide) rfl ?_
  refine w_iconst C dX12_doseOf_3 ⟨by decide, by decide⟩ ?_
  refine x_istore (L' := [(7, vI 0), (5, vL 0), (0, vR (some o0)), (1, vI x1), (2, vI x2), (3, vI x3), (4, vI x4)]) C dX12_doseOf_4 (by decide) rfl ?_
  refine x_pc (pc2 := 6) rfl ?_
  refine x_pick (L' := [(0, vR (some o0)), (1, vI x1), (2, vI x2), (3, vI x3), (4, vI x4), (5, vL 0), (7, vI 0)]) [2, 3, 4, 5, 6, 1, 0] rfl ?_
  exact k_X12_doseOf_6 C hr h3 hn ho0 hQ  h
set_option maxRecDepth 100000 in
set_option maxHeartbeats 4000000 in
theorem con_X12_doseOf (l : Launch) (D : va_G) (cy : Nat → ClassId) : Con l D cy yX12_doseOf cX12_doseOf 10 (some .long) ({ frames := 4, cells := 0, slots := 0, locals := 102 }) 0 0 SP_X12_doseOf := by
  refine con_of (by decide) (fun as M Qp h => ?_) ?_
  · obtain ⟨-, o0, x1, x2, x3, x4, rfl, -⟩ := h
    exact Nat.le_of_ble_eq_true rfl
  · intro p e s m args below meth c G as M Qp h C hr hnm
    obtain ⟨hn, o0, x1, x2, x3, x4, rfl, ho1, ho2, Q0, hQ, h⟩ := h
    refine x_pick (L' := [(0, vR (some o0)), (1, vI x1), (2, vI x2), (3, vI x3), (4, vI x4)]) [0, 1, 2, 3, 4] rfl ?_
    exact k_X12_doseOf_0 C hr hn rfl ⟨ho1, ho2⟩ hQ h
set_option maxRecDepth 100000 in
set_option maxHeartbeats 4000000 in
theorem cl_X12_doseOf {p : Program} {l : Launch} {e : Env} {R : Room} {s : State} {m : MethodId} {args : Array Value} {below : List Frame} {meth : Method} {c : Code} {Q : State → Prop} {cc : ByteArray} {nL : Nat} {own : String} {D : va_G} {cy : Nat → ClassId} {G : Nat × Nat} {n0 pc : Nat} {L : List (Nat × PV)} {st : List PV} {M : Mm} {op : Instr} (K : CallOK l D cy R own op 0 0 (spV 12 4 SP_X12_doseOf)) (C : Cx p s m args meth c cc nL own D cy G n0) (hd : decode cc pc = .ok (op, 3)) (hn : M.2.2.2 = n0) (h3 : n0 = 243) (hlen : argN st ≤ 8) {r : Option Nat} {o0 : Nat} (ho : isOn 12 M.2.2.2 r o0) {x1 : Int} {x2 : Int} {x3 : Int} {x4 : Int} {Q0 : Int → Prop} (h : P_X12_doseOf o0 x1 x2 x3 x4 M Q0) (k : ∀ x, Q0 x → WW p l e R s m args below meth c Q nL D cy G n0  (pc + 3) L (vL x :: st) M) : WW p l e R s m args below meth c Q nL D cy G n0  pc L (vI x4 :: vI x3 :: vI x2 :: vI x1 :: vR r :: st) M := by
  obtain ⟨rfl, ho1, ho2⟩ := ho
  refine x_call0 K C hd (as := [vR (some o0), vI x1, vI x2, vI x3, vI x4]) rfl hn hlen (fun v M2 => ∃ x, v = some (vL x) ∧ M2 = M ∧ Q0 x) ⟨⟨o0, [vI x1, vI x2, vI x3, vI x4], rfl, rfl, ho1, ho2⟩, hn.trans h3, o0, x1, x2, x3, x4, rfl, (hn.trans h3) ▸ ho1, ho2, Q0, fun x hx => ⟨x, rfl, rfl, hx⟩, h⟩ ?_
  rintro _ _ ⟨x, rfl, rfl, hx⟩ hm
  exact k x hx
end W_X12_doseOf
