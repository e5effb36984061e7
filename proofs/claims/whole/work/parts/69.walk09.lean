/-! model: pure predicates, decode rows, walks, contracts; by program (wip/gen/walk.py) -/
theorem dX12_hang_0 : decode cX12_hang 0 = .ok (.aload_n 0, 1) := by decide +kernel
theorem dX12_hang_1 : decode cX12_hang 1 = .ok (.iload_n 1, 1) := by decide +kernel
theorem dX12_hang_2 : decode cX12_hang 2 = .ok (.invokevirtual 155, 3) := by decide +kernel
theorem dX12_hang_5 : decode cX12_hang 5 = .ok (.ifCond .eq 27, 3) := by decide +kernel
theorem dX12_hang_8 : decode cX12_hang 8 = .ok (.iload_n 2, 1) := by decide +kernel
theorem dX12_hang_9 : decode cX12_hang 9 = .ok (.i2l, 1) := by decide +kernel
theorem dX12_hang_10 : decode cX12_hang 10 = .ok (.lconst 0, 1) := by decide +kernel
theorem dX12_hang_11 : decode cX12_hang 11 = .ok (.ldc2_w 158, 3) := by decide +kernel
theorem dX12_hang_14 : decode cX12_hang 14 = .ok (.invokestatic 85, 3) := by decide +kernel
theorem dX12_hang_17 : decode cX12_hang 17 = .ok (.ifCond .eq 15, 3) := by decide +kernel
theorem dX12_hang_20 : decode cX12_hang 20 = .ok (.iload_n 3, 1) := by decide +kernel
theorem dX12_hang_21 : decode cX12_hang 21 = .ok (.i2l, 1) := by decide +kernel
theorem dX12_hang_22 : decode cX12_hang 22 = .ok (.lconst 0, 1) := by decide +kernel
theorem dX12_hang_23 : decode cX12_hang 23 = .ok (.ldc2_w 103, 3) := by decide +kernel
theorem dX12_hang_26 : decode cX12_hang 26 = .ok (.invokestatic 85, 3) := by decide +kernel
theorem dX12_hang_29 : decode cX12_hang 29 = .ok (.ifCond .ne 5, 3) := by decide +kernel
theorem dX12_hang_32 : decode cX12_hang 32 = .ok (.iconst (-1), 1) := by decide +kernel
theorem dX12_hang_33 : decode cX12_hang 33 = .ok (.ireturn, 1) := by decide +kernel
theorem dX12_hang_34 : decode cX12_hang 34 = .ok (.aload_n 0, 1) := by decide +kernel
theorem dX12_hang_35 : decode cX12_hang 35 = .ok (.getfield 46, 3) := by decide +kernel
theorem dX12_hang_38 : decode cX12_hang 38 = .ok (.bipush 6, 2) := by decide +kernel
theorem dX12_hang_40 : decode cX12_hang 40 = .ok (.iload_n 1, 1) := by decide +kernel
theorem dX12_hang_41 : decode cX12_hang 41 = .ok (.imul, 1) := by decide +kernel
theorem dX12_hang_42 : decode cX12_hang 42 = .ok (.iload_n 2, 1) := by decide +kernel
theorem dX12_hang_43 : decode cX12_hang 43 = .ok (.iadd, 1) := by decide +kernel
theorem dX12_hang_44 : decode cX12_hang 44 = .ok (.iaload, 1) := by decide +kernel
theorem dX12_hang_45 : decode cX12_hang 45 = .ok (.istore 4, 2) := by decide +kernel
theorem dX12_hang_47 : decode cX12_hang 47 = .ok (.aload_n 0, 1) := by decide +kernel
theorem dX12_hang_48 : decode cX12_hang 48 = .ok (.getfield 46, 3) := by decide +kernel
theorem dX12_hang_51 : decode cX12_hang 51 = .ok (.bipush 6, 2) := by decide +kernel
theorem dX12_hang_53 : decode cX12_hang 53 = .ok (.iload_n 1, 1) := by decide +kernel
theorem dX12_hang_54 : decode cX12_hang 54 = .ok (.imul, 1) := by decide +kernel
theorem dX12_hang_55 : decode cX12_hang 55 = .ok (.iload_n 2, 1) := by decide +kernel
theorem dX12_hang_56 : decode cX12_hang 56 = .ok (.iadd, 1) := by decide +kernel
theorem dX12_hang_57 : decode cX12_hang 57 = .ok (.iload_n 3, 1) := by decide +kernel
theorem dX12_hang_58 : decode cX12_hang 58 = .ok (.iastore, 1) := by decide +kernel
theorem dX12_hang_59 : decode cX12_hang 59 = .ok (.iload 4, 2) := by decide +kernel
theorem dX12_hang_61 : decode cX12_hang 61 = .ok (.ireturn, 1) := by decide +kernel
theorem ck_X12_155 {l : Launch} {D : va_G} {cy : Nat → ClassId} {R : Room} (hR : 2 ≤ R.frames ∧ 46 ≤ R.locals) : CallOK l D cy R RX12 (.invokevirtual 155) 0 0 (spV 12 1 SP_X12_isBody) := call_V (ci := 12) (con_X12_isBody l D cy) (lwG_4 (i := 224) rfl rfl) (lwG_4 (i := 226) rfl rfl) (lwG_p (i := 21) rfl rfl) (lwG_1 (i := 13) rfl rfl) (lwG_4 (i := 227) rfl rfl) (by decide) ⟨rfl, by decide, by decide, rfl⟩ ⟨rfl, rfl⟩ hR
theorem cn_X12_158 : Cond.constantLong RX12 158 (Int64.ofInt 5) ∈ lwG := lwG_4 (i := 228) rfl rfl
theorem fw_X12_46 : fR RX12 46 12 14 := ⟨⟨lwG_4 (i := 78) rfl rfl, by decide, by decide⟩, fun _ _ => rfl, fun r => ⟨r, rfl⟩⟩
section W_X12_hang
variable {p : Program} {l : Launch} {e : Env} {s : State} {m : MethodId} {args : Array Value} {below : List Frame} {meth : Method} {c : Code} {D : va_G} {cy : Nat → ClassId} {G : Nat × Nat} {n0 : Nat} {Qp : Option PV → Mm → Prop}
set_option maxRecDepth 100000 in
set_option maxHeartbeats 4000000 in
theorem k_X12_hang_0 {o0 : Nat} {x1 : Int} {x2 : Int} {x3 : Int} {M : Mm} {Q : Int → Mm → Prop} (C : Cx p s m args meth c cX12_hang 5 RX12 D cy G n0) (hr : meth.sig.returnType = some .int) (h3 : n0 = 243) (hn : M.2.2.2 = n0) (ho0 : o0 < 243 ∧ (SH o0).1 = 12) (hQ : ∀ x M, Q x M → Qp (some (vI x)) M) (h : P_X12_hang o0 x1 x2 x3 M Q ) : WW p l e ({ frames := 2, cells := 0, slots := 0, locals := 46 }) s m args below meth c (ZQ below args s D cy G n0 Qp n0) 5 D cy G n0 0 [(0, vR (some o0)), (1, vI x1), (2, vI x2), (3, vI x3)] [] M := by
  unfold P_X12_hang at h
  refine w_aload_n C dX12_hang_0 rfl (mem_k 0 rfl) ?_
  refine w_iload_n C dX12_hang_1 rfl (mem_k 1 rfl) ?_
  refine cl_X12_isBody (ck_X12_155 ⟨by decide, by decide⟩) C dX12_hang_2 hn h3 (Nat.le_of_ble_eq_true rfl) (isO.n (ci := 12) ⟨rfl, ho0⟩ (hn.trans h3)) h (fun v1 h => ?_)
  refine w_if_eq (tgt := 32) C dX12_hang_5 (by decide) (fun q => ?_) (fun q => ?_)
  · replace h := h.1 q
    refine w_iconst C dX12_hang_32 ⟨by decide, by decide⟩ ?_
    exact x_iret C hr dX12_hang_33 hn (hQ _ M h)
  · replace h := h.2 q
    refine w_iload_n C dX12_hang_8 rfl (mem_k 2 rfl) ?_
    refine w_i2l C dX12_hang_9 ?_
    refine w_lconst C dX12_hang_10 ?_
    refine w_ldc2 (x := 5) C dX12_hang_11 cn_X12_158 ⟨by decide, by decide⟩ ?_
    refine cl_X12_in (ck_X12_85 ⟨by decide, by decide⟩) C dX12_hang_14 hn h3 (Nat.le_of_ble_eq_true rfl) h (fun v2 h => ?_)
    refine w_if_eq (tgt := 32) C dX12_hang_17 (by decide) (fun q => ?_) (fun q => ?_)
    · replace h := h.1 q
      refine w_iconst C dX12_hang_32 ⟨by decide, by decide⟩ ?_
      exact x_iret C hr dX12_hang_33 hn (hQ _ M h)
    · replace h := h.2 q
      refine w_iload_n C dX12_hang_20 rfl (mem_k 3 rfl) ?_
      refine w_i2l C dX12_hang_21 ?_
      refine w_lconst C dX12_hang_22 ?_
      refine w_ldc2 (x := 100) C dX12_hang_23 cn_X12_103 ⟨by decide, by decide⟩ ?_
      refine cl_X12_in (ck_X12_85 ⟨by decide, by decide⟩) C dX12_hang_26 hn h3 (Nat.le_of_ble_eq_true rfl) h (fun v3 h => ?_)
      refine w_if_ne (tgt := 34) C dX12_hang_29 (by decide) (fun q => ?_) (fun q => ?_)
      · replace h := h.1 q
        refine w_aload_n C dX12_hang_34 rfl (mem_k 0 rfl) ?_
        refine x_getR C dX12_hang_35 fw_X12_46 (isO.n (ci := 12) ⟨rfl, ho0⟩ (hn.trans h3)) (fun r4 er4 => ?_)
        replace h := h r4 er4
        refine w_bipush C dX12_hang_38 (by decide) ?_
        refine w_iload_n C dX12_hang_40 rfl (mem_k 1 rfl) ?_
        refine w_imul C dX12_hang_41 h.1 ?_
        replace h := h.2
        refine w_iload_n C dX12_hang_42 rfl (mem_k 2 rfl) ?_
        refine w_iadd C dX12_hang_43 h.1 ?_
        replace h := h.2
        obtain ⟨o5, g6, h⟩ := h
        refine x_iald C dX12_hang_44 (isA.n g6 (hn.trans h3)) ?_
        refine x_nmI (fun v7 ev7 => ?_)
        replace h := h v7 ev7
        refine x_istore (L' := [(4, vI v7), (0, vR (some o0)), (1, vI x1), (2, vI x2), (3, vI x3)]) C dX12_hang_45 (by decide) rfl ?_
        refine w_aload_n C dX12_hang_47 rfl (mem_k 1 rfl) ?_
        refine x_getR C dX12_hang_48 fw_X12_46 (isO.n (ci := 12) ⟨rfl, ho0⟩ (hn.trans h3)) (fun r8 er8 => ?_)
        replace h := h r8 er8
        refine w_bipush C dX12_hang_51 (by decide) ?_
        refine w_iload_n C dX12_hang_53 rfl (mem_k 2 rfl) ?_
        refine w_imul C dX12_hang_54 h.1 ?_
        replace h := h.2
        refine w_iload_n C dX12_hang_55 rfl (mem_k 3 rfl) ?_
        refine w_iadd C dX12_hang_56 h.1 ?_
        replace h := h.2
        refine w_iload_n C dX12_hang_57 rfl (mem_k 4 rfl) ?_
        obtain ⟨o9, g10, h⟩ := h
        refine x_iast C dX12_hang_58 (isA.n g10 (hn.trans h3)) (fun M11 eM11 hn12 => ?_)
        replace h := h M11 eM11
        replace hn12 := hn12.trans hn
        refine w_iload C dX12_hang_59 (mem_k 0 rfl) ?_
        exact x_iret C hr dX12_hang_61 hn12 (hQ _ M11 h)
      · replace h := h.2 q
        refine w_iconst C dX12_hang_32 ⟨by decide, by decide⟩ ?_
        exact x_iret C hr dX12_hang_33 hn (hQ _ M h)
set_option maxRecDepth 100000 in
set_option maxHeartbeats 4000000 in
theorem con_X12_hang (l : Launch) (D : va_G) (cy : Nat → ClassId) : Con l D cy yX12_hang cX12_hang 5 (some .int) ({ frames := 2, cells := 0, slots := 0, locals := 46 }) 0 0 SP_X12_hang := by
  refine con_of (by decide) (fun as M Qp h => ?_) ?_
  · obtain ⟨-, o0, x1, x2, x3, rfl, -⟩ := h
    exact Nat.le_of_ble_eq_true rfl
  · intro p e s m args below meth c G as M Qp h C hr hnm
    obtain ⟨hn, o0, x1, x2, x3, rfl, ho1, ho2, Q0, hQ, h⟩ := h
    refine x_pick (L' := [(0, vR (some o0)), (1, vI x1), (2, vI x2), (3, vI x3)]) [0, 1, 2, 3] rfl ?_
    exact k_X12_hang_0 C hr hn rfl ⟨ho1, ho2⟩ hQ h
set_option maxRecDepth 100000 in
set_option maxHeartbeats 4000000 in
theorem cl_X12_hang {p : Program} {l : Launch} {e : Env} {R : Room} {s : State} {m : MethodId} {args : Array Value} {below : List Frame} {meth : Method} {c : Code} {Q : State → Prop} {cc : ByteArray} {nL : Nat} {own : String} {D : va_G} {cy : Nat → ClassId} {G : Nat × Nat} {n0 pc : Nat} {L : List (Nat × PV)} {st : List PV} {M : Mm} {op : Instr} (K : CallOK l D cy R own op 0 0 (spV 12 3 SP_X12_hang)) (C : Cx p s m args meth c cc nL own D cy G n0) (hd : decode cc pc = .ok (op, 3)) (hn : M.2.2.2 = n0) (h3 : n0 = 243) (hlen : argN st ≤ 8) {r : Option Nat} {o0 : Nat} (ho : isOn 12 M.2.2.2 r o0) {x1 : Int} {x2 : Int} {x3 : Int} {Q0 : Int → Mm → Prop} (h : P_X12_hang o0 x1 x2 x3 M Q0) (k : ∀ x M2, Q0 x M2 → M2.2.2.2 = n0 → WW p l e R s m args below meth c Q nL D cy G n0  (pc + 3) L (vI x :: st) M2) : WW p l e R s m args below meth c Q nL D cy G n0  pc L (vI x3 :: vI x2 :: vI x1 :: vR r :: st) M := by
  obtain ⟨rfl, ho1, ho2⟩ := ho
  refine x_call0 K C hd (as := [vR (some o0), vI x1, vI x2, vI x3]) rfl hn hlen (fun v M2 => ∃ x, v = some (vI x) ∧ Q0 x M2) ⟨⟨o0, [vI x1, vI x2, vI x3], rfl, rfl, ho1, ho2⟩, hn.trans h3, o0, x1, x2, x3, rfl, (hn.trans h3) ▸ ho1, ho2, Q0, fun x M2 hx => ⟨x, rfl, hx⟩, h⟩ ?_
  rintro _ _ ⟨x, rfl, hx⟩ hm
  exact k x _ hx hm
end W_X12_hang
theorem dX12_touchOf_0 : decode cX12_touchOf 0 = .ok (.aload_n 0, 1) := by decide +kernel
theorem dX12_touchOf_1 : decode cX12_touchOf 1 = .ok (.getfield 34, 3) := by decide +kernel
theorem dX12_touchOf_4 : decode cX12_touchOf 4 = .ok (.bipush 108, 2) := by decide +kernel
theorem dX12_touchOf_6 : decode cX12_touchOf 6 = .ok (.bipush 18, 2) := by decide +kernel
theorem dX12_touchOf_8 : decode cX12_touchOf 8 = .ok (.iload_n 2, 1) := by decide +kernel
theorem dX12_touchOf_9 : decode cX12_touchOf 9 = .ok (.imul, 1) := by decide +kernel
theorem dX12_touchOf_10 : decode cX12_touchOf 10 = .ok (.iadd, 1) := by decide +kernel
theorem dX12_touchOf_11 : decode cX12_touchOf 11 = .ok (.iconst 3, 1) := by decide +kernel
theorem dX12_touchOf_12 : decode cX12_touchOf 12 = .ok (.iload_n 3, 1) := by decide +kernel
theorem dX12_touchOf_13 : decode cX12_touchOf 13 = .ok (.imul, 1) := by decide +kernel
theorem dX12_touchOf_14 : decode cX12_touchOf 14 = .ok (.iadd, 1) := by decide +kernel
theorem dX12_touchOf_15 : decode cX12_touchOf 15 = .ok (.iconst 1, 1) := by decide +kernel
theorem dX12_touchOf_16 : decode cX12_touchOf 16 = .ok (.iadd, 1) := by decide +kernel
theorem dX12_touchOf_17 : decode cX12_touchOf 17 = .ok (.iaload, 1) := by decide +kernel
theorem dX12_touchOf_18 : decode cX12_touchOf 18 = .ok (.aload_n 0, 1) := by decide +kernel
theorem dX12_touchOf_19 : decode cX12_touchOf 19 = .ok (.getfield 37, 3) := by decide +kernel
theorem dX12_touchOf_22 : decode cX12_touchOf 22 = .ok (.bipush 6, 2) := by decide +kernel
theorem dX12_touchOf_24 : decode cX12_touchOf 24 = .ok (.iload_n 2, 1) := by decide +kernel
theorem dX12_touchOf_25 : decode cX12_touchOf 25 = .ok (.imul, 1) := by decide +kernel
theorem dX12_touchOf_26 : decode cX12_touchOf 26 = .ok (.iload_n 3, 1) := by decide +kernel
theorem dX12_touchOf_27 : decode cX12_touchOf 27 = .ok (.iadd, 1) := by decide +kernel
theorem dX12_touchOf_28 : decode cX12_touchOf 28 = .ok (.iaload, 1) := by decide +kernel
theorem dX12_touchOf_29 : decode cX12_touchOf 29 = .ok (.isub, 1) := by decide +kernel
theorem dX12_touchOf_30 : decode cX12_touchOf 30 = .ok (.aload_n 0, 1) := by decide +kernel
theorem dX12_touchOf_31 : decode cX12_touchOf 31 = .ok (.getfield 46, 3) := by decide +kernel
theorem dX12_touchOf_34 : decode cX12_touchOf 34 = .ok (.bipush 6, 2) := by decide +kernel
theorem dX12_touchOf_36 : decode cX12_touchOf 36 = .ok (.iload_n 1, 1) := by decide +kernel
theorem dX12_touchOf_37 : decode cX12_touchOf 37 = .ok (.imul, 1) := by decide +kernel
theorem dX12_touchOf_38 : decode cX12_touchOf 38 = .ok (.iload_n 3, 1) := by decide +kernel
theorem dX12_touchOf_39 : decode cX12_touchOf 39 = .ok (.iadd, 1) := by decide +kernel
theorem dX12_touchOf_40 : decode cX12_touchOf 40 = .ok (.iaload, 1) := by decide +kernel
theorem dX12_touchOf_41 : decode cX12_touchOf 41 = .ok (.iadd, 1) := by decide +kernel
theorem dX12_touchOf_42 : decode cX12_touchOf 42 = .ok (.ireturn, 1) := by decide +kernel
section W_X12_touchOf
variable {p : Program} {l : Launch} {e : Env} {s : State} {m : MethodId} {args : Array Value} {below : List Frame} {meth : Method} {c : Code} {D : va_G} {cy : Nat → ClassId} {G : Nat × Nat} {n0 : Nat} {Qp : Option PV → Mm → Prop}
set_option maxRecDepth 100000 in
set_option maxHeartbeats 4000000 in
theorem k_X12_touchOf_0 {o0 : Nat} {x1 : Int} {x2 : Int} {x3 : Int} {M : Mm} {Q : Int → Prop} (C : Cx p s m args meth c cX12_touchOf 4 RX12 D cy G n0) (hr : meth.sig.returnType = some .int) (h3 : n0 = 243) (hn : M.2.2.2 = n0) (ho0 : o0 < 243 ∧ (SH o0).1 = 12) (hQ : ∀ x, Q x → Qp (some (vI x)) M) (h : P_X12_touchOf o0 x1 x2 x3 M Q ) : WW p l e ({ frames := 0, cells := 0, slots := 0, locals := 0 }) s m args below meth c (ZQ below args s D cy G n0 Qp n0) 4 D cy G n0 0 [(0, vR (some o0)), (1, vI x1), (2, vI x2), (3, vI x3)] [] M := by
  unfold P_X12_touchOf at h
  refine w_aload_n C dX12_touchOf_0 rfl (mem_k 0 rfl) ?_
  refine x_getR C dX12_touchOf_1 fw_X12_34 (isO.n (ci := 12) ⟨rfl, ho0⟩ (hn.trans h3)) (fun r1 er1 => ?_)
  replace h := h r1 er1
  refine w_bipush C dX12_touchOf_4 (by decide) ?_
  refine w_bipush C dX12_touchOf_6 (by decide) ?_
  refine w_iload_n C dX12_touchOf_8 rfl (mem_k 2 rfl) ?_
  refine w_imul C dX12_touchOf_9 h.1 ?_
  replace h := h.2
  refine w_iadd C dX12_touchOf_10 h.1 ?_
  replace h := h.2
  refine w_iconst C dX12_touchOf_11 ⟨by decide, by decide⟩ ?_
  refine w_iload_n C dX12_touchOf_12 rfl (mem_k 3 rfl) ?_
  refine w_imul C dX12_touchOf_13 h.1 ?_
  replace h := h.2
  refine w_iadd C dX12_touchOf_14 h.1 ?_
  replace h := h.2
  refine w_iconst C dX12_touchOf_15 ⟨by decide, by decide⟩ ?_
  refine w_iadd C dX12_touchOf_16 h.1 ?_
  replace h := h.2
  obtain ⟨o2, g3, h⟩ := h
  refine x_iald C dX12_touchOf_17 (isA.n g3 (hn.trans h3)) ?_
  refine w_aload_n C dX12_touchOf_18 rfl (mem_k 0 rfl) ?_
  refine x_getR C dX12_touchOf_19 fw_X12_37 (isO.n (ci := 12) ⟨rfl, ho0⟩ (hn.trans h3)) (fun r4 er4 => ?_)
  replace h := h r4 er4
  refine w_bipush C dX12_touchOf_22 (by decide) ?_
  refine w_iload_n C dX12_touchOf_24 rfl (mem_k 2 rfl) ?_
  refine w_imul C dX12_touchOf_25 h.1 ?_
  replace h := h.2
  refine w_iload_n C dX12_touchOf_26 rfl (mem_k 3 rfl) ?_
  refine w_iadd C dX12_touchOf_27 h.1 ?_
  replace h := h.2
  obtain ⟨o5, g6, h⟩ := h
  refine x_iald C dX12_touchOf_28 (isA.n g6 (hn.trans h3)) ?_
  refine w_isub C dX12_touchOf_29 h.1 ?_
  replace h := h.2
  refine w_aload_n C dX12_touchOf_30 rfl (mem_k 0 rfl) ?_
  refine x_getR C dX12_touchOf_31 fw_X12_46 (isO.n (ci := 12) ⟨rfl, ho0⟩ (hn.trans h3)) (fun r7 er7 => ?_)
  replace h := h r7 er7
  refine w_bipush C dX12_touchOf_34 (by decide) ?_
  refine w_iload_n C dX12_touchOf_36 rfl (mem_k 1 rfl) ?_
  refine w_imul C dX12_touchOf_37 h.1 ?_
  replace h := h.2
  refine w_iload_n C dX12_touchOf_38 rfl (mem_k 3 rfl) ?_
  refine w_iadd C dX12_touchOf_39 h.1 ?_
  replace h := h.2
  obtain ⟨o8, g9, h⟩ := h
  refine x_iald C dX12_touchOf_40 (isA.n g9 (hn.trans h3)) ?_
  refine w_iadd C dX12_touchOf_41 h.1 ?_
  replace h := h.2
  exact x_iret C hr dX12_touchOf_42 hn (hQ _ h)
set_option maxRecDepth 100000 in
set_option maxHeartbeats 4000000 in
theorem con_X12_touchOf (l : Launch) (D : va_G) (cy : Nat → ClassId) : Con l D cy yX12_touchOf cX12_touchOf 4 (some .int) ({ frames := 0, cells := 0, slots := 0, locals := 0 }) 0 0 SP_X12_touchOf := by
  refine con_of (by decide) (fun as M Qp h => ?_) ?_
  · obtain ⟨-, o0, x1, x2, x3, rfl, -⟩ := h
    exact Nat.le_of_ble_eq_true rfl
  · intro p e s m args below meth c G as M Qp h C hr hnm
    obtain ⟨hn, o0, x1, x2, x3, rfl, ho1, ho2, Q0, hQ, h⟩ := h
    refine x_pick (L' := [(0, vR (some o0)), (1, vI x1), (2, vI x2), (3, vI x3)]) [0, 1, 2, 3] rfl ?_
    exact k_X12_touchOf_0 C hr hn rfl ⟨ho1, ho2⟩ hQ h
set_option maxRecDepth 100000 in
set_option maxHeartbeats 4000000 in
theorem cl_X12_touchOf {p : Program} {l : Launch} {e : Env} {R : Room} {s : State} {m : MethodId} {args : Array Value} {below : List Frame} {meth : Method} {c : Code} {Q : State → Prop} {cc : ByteArray} {nL : Nat} {own : String} {D : va_G} {cy : Nat → ClassId} {G : Nat × Nat} {n0 pc : Nat} {L : List (Nat × PV)} {st : List PV} {M : Mm} {op : Instr} (K : CallOK l D cy R own op 0 0 (spV 12 3 SP_X12_touchOf)) (C : Cx p s m args meth c cc nL own D cy G n0) (hd : decode cc pc = .ok (op, 3)) (hn : M.2.2.2 = n0) (h3 : n0 = 243) (hlen : argN st ≤ 8) {r : Option Nat} {o0 : Nat} (ho : isOn 12 M.2.2.2 r o0) {x1 : Int} {x2 : Int} {x3 : Int} {Q0 : Int → Prop} (h : P_X12_touchOf o0 x1 x2 x3 M Q0) (k : ∀ x, Q0 x → WW p l e R s m args below meth c Q nL D cy G n0  (pc + 3) L (vI x :: st) M) : WW p l e R s m args below meth c Q nL D cy G n0  pc L (vI x3 :: vI x2 :: vI x1 :: vR r :: st) M := by
  obtain ⟨rfl, ho1, ho2⟩ := ho
  refine x_call0 K C hd (as := [vR (some o0), vI x1, vI x2, vI x3]) rfl hn hlen (fun v M2 => ∃ x, v = some (vI x) ∧ M2 = M ∧ Q0 x) ⟨⟨o0, [vI x1, vI x2, vI x3], rfl, rfl, ho1, ho2⟩, hn.trans h3, o0, x1, x2, x3, rfl, (hn.trans h3) ▸ ho1, ho2, Q0, fun x hx => ⟨x, rfl, rfl, hx⟩, h⟩ ?_
  rintro _ _ ⟨x, rfl, rfl, hx⟩ hm
  exact k x hx
end W_X12_touchOf
theorem dX12_layerOf_0 : decode cX12_layerOf 0 = .ok (.aload_n 0, 1) := by decide +kernel
theorem dX12_layerOf_1 : decode cX12_layerOf 1 = .ok (.getfield 34, 3) := by decide +kernel
theorem dX12_layerOf_4 : decode cX12_layerOf 4 = .ok (.bipush 108, 2) := by decide +kernel
theorem dX12_layerOf_6 : decode cX12_layerOf 6 = .ok (.bipush 18, 2) := by decide +kernel
theorem dX12_layerOf_8 : decode cX12_layerOf 8 = .ok (.iload_n 1, 1) := by decide +kernel
theorem dX12_layerOf_9 : decode cX12_layerOf 9 = .ok (.imul, 1) := by decide +kernel
theorem dX12_layerOf_10 : decode cX12_layerOf 10 = .ok (.iadd, 1) := by decide +kernel
theorem dX12_layerOf_11 : decode cX12_layerOf 11 = .ok (.iconst 3, 1) := by decide +kernel
theorem dX12_layerOf_12 : decode cX12_layerOf 12 = .ok (.iload_n 2, 1) := by decide +kernel
theorem dX12_layerOf_13 : decode cX12_layerOf 13 = .ok (.imul, 1) := by decide +kernel
theorem dX12_layerOf_14 : decode cX12_layerOf 14 = .ok (.iadd, 1) := by decide +kernel
theorem dX12_layerOf_15 : decode cX12_layerOf 15 = .ok (.iaload, 1) := by decide +kernel
theorem dX12_layerOf_16 : decode cX12_layerOf 16 = .ok (.ireturn, 1) := by decide +kernel
section W_X12_layerOf
variable {p : Program} {l : Launch} {e : Env} {s : State} {m : MethodId} {args : Array Value} {below : List Frame} {meth : Method} {c : Code} {D : va_G} {cy : Nat → ClassId} {G : Nat × Nat} {n0 : Nat} {Qp : Option PV → Mm → Prop}
set_option maxRecDepth 100000 in
set_option maxHeartbeats 4000000 in
theorem k_X12_layerOf_0 {o0 : Nat} {x1 : Int} {x2 : Int} {M : Mm} {Q : Int → Prop} (C : Cx p s m args meth c cX12_layerOf 3 RX12 D cy G n0) (hr : meth.sig.returnType = some .int) (h3 : n0 = 243) (hn : M.2.2.2 = n0) (ho0 : o0 < 243 ∧ (SH o0).1 = 12) (hQ : ∀ x, Q x → Qp (some (vI x)) M) (h : P_X12_layerOf o0 x1 x2 M Q ) : WW p l e ({ frames := 0, cells := 0, slots := 0, locals := 0 }) s m args below meth c (ZQ below args s D cy G n0 Qp n0) 3 D cy G n0 0 [(0, vR (some o0)), (1, vI x1), (2, vI x2)] [] M := by
  unfold P_X12_layerOf at h
  refine w_aload_n C dX12_layerOf_0 rfl (mem_k 0 rfl) ?_
  refine x_getR C dX12_layerOf_1 fw_X12_34 (isO.n (ci := 12) ⟨rfl, ho0⟩ (hn.trans h3)) (fun r1 er1 => ?_)
  replace h := h r1 er1
  refine w_bipush C dX12_layerOf_4 (by decide) ?_
  refine w_bipush C dX12_layerOf_6 (by decide) ?_
  refine w_iload_n C dX12_layerOf_8 rfl (mem_k 1 rfl) ?_
  refine w_imul C dX12_layerOf_9 h.1 ?_
  replace h := h.2
  refine w_iadd C dX12_layerOf_10 h.1 ?_
  replace h := h.2
  refine w_iconst C dX12_layerOf_11 ⟨by decide, by decide⟩ ?_
  refine w_iload_n C dX12_layerOf_12 rfl (mem_k 2 rfl) ?_
  refine w_imul C dX12_layerOf_13 h.1 ?_
  replace h := h.2
  refine w_iadd C dX12_layerOf_14 h.1 ?_
  replace h := h.2
  obtain ⟨o2, g3, h⟩ := h
  refine x_iald C dX12_layerOf_15 (isA.n g3 (hn.trans h3)) ?_
  exact x_iret C hr dX12_layerOf_16 hn (hQ _ h)
set_option maxRecDepth 100000 in
set_option maxHeartbeats 4000000 in
theorem con_X12_layerOf (l : Launch) (D : va_G) (cy : Nat → ClassId) : Con l D cy yX12_layerOf cX12_layerOf 3 (some .int) ({ frames := 0, cells := 0, slots := 0, locals := 0 }) 0 0 SP_X12_layerOf := by
  refine con_of (by decide) (fun as M Qp h => ?_) ?_
  · obtain ⟨-, o0, x1, x2, rfl, -⟩ := h
    exact Nat.le_of_ble_eq_true rfl
  · intro p e s m args below meth c G as M Qp h C hr hnm
    obtain ⟨hn, o0, x1, x2, rfl, ho1, ho2, Q0, hQ, h⟩ := h
    refine x_pick (L' := [(0, vR (some o0)), (1, vI x1), (2, vI x2)]) [0, 1, 2] rfl ?_
    exact k_X12_layerOf_0 C hr hn rfl ⟨ho1, ho2⟩ hQ h
set_option maxRecDepth 100000 in
set_option maxHeartbeats 4000000 in
theorem cl_X12_layerOf {p : Program} {l : Launch} {e : Env} {R : Room} {s : State} {m : MethodId} {args : Array Value} {below : List Frame} {meth : Method} {c : Code} {Q : State → Prop} {cc : ByteArray} {nL : Nat} {own : String} {D : va_G} {cy : Nat → ClassId} {G : Nat × Nat} {n0 pc : Nat} {L : List (Nat × PV)} {st : List PV} {M : Mm} {op : Instr} (K : CallOK l D cy R own op 0 0 (spV 12 2 SP_X12_layerOf)) (C : Cx p s m args meth c cc nL own D cy G n0) (hd : decode cc pc = .ok (op, 3)) (hn : M.2.2.2 = n0) (h3 : n0 = 243) (hlen : argN st ≤ 8) {r : Option Nat} {o0 : Nat} (ho : isOn 12 M.2.2.2 r o0) {x1 : Int} {x2 : Int} {Q0 : Int → Prop} (h : P_X12_layerOf o0 x1 x2 M Q0) (k : ∀ x, Q0 x → WW p l e R s m args below meth c Q nL D cy G n0  (pc + 3) L (vI x :: st) M) : WW p l e R s m args below meth c Q nL D cy G n0  pc L (vI x2 :: vI x1 :: vR r :: st) M := by
  obtain ⟨rfl, ho1, ho2⟩ := ho
  refine x_call0 K C hd (as := [vR (some o0), vI x1, vI x2]) rfl hn hlen (fun v M2 => ∃ x, v = some (vI x) ∧ M2 = M ∧ Q0 x) ⟨⟨o0, [vI x1, vI x2], rfl, rfl, ho1, ho2⟩, hn.trans h3, o0, x1, x2, rfl, (hn.trans h3) ▸ ho1, ho2, Q0, fun x hx => ⟨x, rfl, rfl, hx⟩, h⟩ ?_
  rintro _ _ ⟨x, rfl, rfl, hx⟩ hm
  exact k x hx
end W_X12_layerOf
theorem dX12_longOf_0 : decode cX12_longOf 0 = .ok (.iconst 0, 1) := by decide +kernel
theorem dX12_longOf_1 : decode cX12_longOf 1 = .ok (.istore_n 2, 1) := by decide +kernel
theorem dX12_longOf_2 : decode cX12_longOf 2 = .ok (.iconst 0, 1) := by decide +kernel
theorem dX12_longOf_3 : decode cX12_longOf 3 = .ok (.istore_n 3, 1) := by decide +kernel
theorem dX12_longOf_4 : decode cX12_longOf 4 = .ok (.iload_n 3, 1) := by decide +kernel
theorem dX12_longOf_5 : decode cX12_longOf 5 = .ok (.aload_n 0, 1) := by decide +kernel
theorem dX12_longOf_6 : decode cX12_longOf 6 = .ok (.getfield 16, 3) := by decide +kernel
theorem dX12_longOf_9 : decode cX12_longOf 9 = .ok (.bipush 8, 2) := by decide +kernel
theorem dX12_longOf_11 : decode cX12_longOf 11 = .ok (.iload_n 1, 1) := by decide +kernel
theorem dX12_longOf_12 : decode cX12_longOf 12 = .ok (.iadd, 1) := by decide +kernel
theorem dX12_longOf_13 : decode cX12_longOf 13 = .ok (.iaload, 1) := by decide +kernel
theorem dX12_longOf_14 : decode cX12_longOf 14 = .ok (.if_icmp .ge 28, 3) := by decide +kernel
theorem dX12_longOf_17 : decode cX12_longOf 17 = .ok (.iload_n 2, 1) := by decide +kernel
theorem dX12_longOf_18 : decode cX12_longOf 18 = .ok (.aload_n 0, 1) := by decide +kernel
theorem dX12_longOf_19 : decode cX12_longOf 19 = .ok (.getfield 19, 3) := by decide +kernel
theorem dX12_longOf_22 : decode cX12_longOf 22 = .ok (.bipush 64, 2) := by decide +kernel
theorem dX12_longOf_24 : decode cX12_longOf 24 = .ok (.bipush 8, 2) := by decide +kernel
theorem dX12_longOf_26 : decode cX12_longOf 26 = .ok (.iload_n 1, 1) := by decide +kernel
theorem dX12_longOf_27 : decode cX12_longOf 27 = .ok (.imul, 1) := by decide +kernel
theorem dX12_longOf_28 : decode cX12_longOf 28 = .ok (.iadd, 1) := by decide +kernel
theorem dX12_longOf_29 : decode cX12_longOf 29 = .ok (.iconst 2, 1) := by decide +kernel
theorem dX12_longOf_30 : decode cX12_longOf 30 = .ok (.iload_n 3, 1) := by decide +kernel
theorem dX12_longOf_31 : decode cX12_longOf 31 = .ok (.imul, 1) := by decide +kernel
theorem dX12_longOf_32 : decode cX12_longOf 32 = .ok (.iadd, 1) := by decide +kernel
theorem dX12_longOf_33 : decode cX12_longOf 33 = .ok (.iaload, 1) := by decide +kernel
theorem dX12_longOf_34 : decode cX12_longOf 34 = .ok (.iadd, 1) := by decide +kernel
theorem dX12_longOf_35 : decode cX12_longOf 35 = .ok (.istore_n 2, 1) := by decide +kernel
theorem dX12_longOf_36 : decode cX12_longOf 36 = .ok (.iinc 3 1, 3) := by decide +kernel
theorem dX12_longOf_39 : decode cX12_longOf 39 = .ok (.goto (-35), 3) := by decide +kernel
theorem dX12_longOf_42 : decode cX12_longOf 42 = .ok (.iload_n 2, 1) := by decide +kernel
theorem dX12_longOf_43 : decode cX12_longOf 43 = .ok (.ireturn, 1) := by decide +kernel
section W_X12_longOf
variable {p : Program} {l : Launch} {e : Env} {s : State} {m : MethodId} {args : Array Value} {below : List Frame} {meth : Method} {c : Code} {D : va_G} {cy : Nat → ClassId} {G : Nat × Nat} {n0 : Nat} {Qp : Option PV → Mm → Prop}
set_option maxRecDepth 100000 in
set_option maxHeartbeats 4000000 in
theorem f_X12_longOf_4 {o0 : Nat} {x1 : Int} {x2 : Int} {x3 : Int} {M : Mm} {Q : Int → Prop} {K4 : Int × Int → Prop} (C : Cx p s m args meth c cX12_longOf 4 RX12 D cy G n0) (hr : meth.sig.returnType = some .int) (h3 : n0 = 243) (hn : M.2.2.2 = n0) (ho0 : o0 < 243 ∧ (SH o0).1 = 12) (hQ : ∀ x, Q x → Qp (some (vI x)) M) (hK4 : ∀ (x2 : Int) (x3 : Int), K4 (x2, x3) → WW p l e ({ frames := 0, cells := 0, slots := 0, locals := 0 }) s m args below meth c (ZQ below args s D cy G n0 Qp n0) 4 D cy G n0 4 [(0, vR (some o0)), (1, vI x1), (2, vI x2), (3, vI x3)] [] M) (h : F_X12_longOf_4 o0 x1 M Q  K4 x2 x3) : WW p l e ({ frames := 0, cells := 0, slots := 0, locals := 0 }) s m args below meth c (ZQ below args s D cy G n0 Qp n0) 4 D cy G n0 4 [(0, vR (some o0)), (1, vI x1), (2, vI x2), (3, vI x3)] [] M := by
  unfold F_X12_longOf_4 at h
  refine w_iload_n C dX12_longOf_4 rfl (mem_k 3 rfl) ?_
  refine w_aload_n C dX12_longOf_5 rfl (mem_k 0 rfl) ?_
  refine x_getR C dX12_longOf_6 fw_X12_16 (isO.n (ci := 12) ⟨rfl, ho0⟩ (hn.trans h3)) (fun r1 er1 => ?_)
  replace h := h r1 er1
  refine w_bipush C dX12_longOf_9 (by decide) ?_
  refine w_iload_n C dX12_longOf_11 rfl (mem_k 1 rfl) ?_
  refine w_iadd C dX12_longOf_12 h.1 ?_
  replace h := h.2
  obtain ⟨o2, g3, h⟩ := h
  refine x_iald C dX12_longOf_13 (isA.n g3 (hn.trans h3)) ?_
  refine w_icmp_ge (tgt := 42) C dX12_longOf_14 (by decide) (fun q => ?_) (fun q => ?_)
  · replace h := h.1 q
    refine w_iload_n C dX12_longOf_42 rfl (mem_k 2 rfl) ?_
    exact x_iret C hr dX12_longOf_43 hn (hQ _ h)
  · replace h := h.2 q
    refine w_iload_n C dX12_longOf_17 rfl (mem_k 2 rfl) ?_
    refine w_aload_n C dX12_longOf_18 rfl (mem_k 0 rfl) ?_
    refine x_getR C dX12_longOf_19 fw_X12_19 (isO.n (ci := 12) ⟨rfl, ho0⟩ (hn.trans h3)) (fun r4 er4 => ?_)
    replace h := h r4 er4
    refine w_bipush C dX12_longOf_22 (by decide) ?_
    refine w_bipush C dX12_longOf_24 (by decide) ?_
    refine w_iload_n C dX12_longOf_26 rfl (mem_k 1 rfl) ?_
    refine w_imul C dX12_longOf_27 h.1 ?_
    replace h := h.2
    refine w_iadd C dX12_longOf_28 h.1 ?_
    replace h := h.2
    refine w_iconst C dX12_longOf_29 ⟨by decide, by decide⟩ ?_
    refine w_iload_n C dX12_longOf_30 rfl (mem_k 3 rfl) ?_
    refine w_imul C dX12_longOf_31 h.1 ?_
    replace h := h.2
    refine w_iadd C dX12_longOf_32 h.1 ?_
    replace h := h.2
    obtain ⟨o5, g6, h⟩ := h
    refine x_iald C dX12_longOf_33 (isA.n g6 (hn.trans h3)) ?_
    refine w_iadd C dX12_longOf_34 h.1 ?_
    replace h := h.2
    refine x_nmI (fun v7 ev7 => ?_)
    replace h := h v7 ev7
    refine x_istore_n (L' := [(2, vI v7), (0, vR (some o0)), (1, vI x1), (3, vI x3)]) C dX12_longOf_35 rfl (by decide) rfl ?_
    obtain ⟨v8, ev8⟩ : ∃ z : Int, z = x3 + 1 := ⟨_, rfl⟩
    refine x_iinc (L' := [(3, vI v8), (2, vI v7), (0, vR (some o0)), (1, vI x1)]) C dX12_longOf_36 (mem_k 3 rfl) (by decide) h.1 ev8 rfl ?_
    replace h := h.2 v8 ev8
    refine w_goto (tgt := 4) C dX12_longOf_39 (by decide) ?_
    refine x_pc (pc2 := 4) rfl ?_
    refine x_pick (L' := [(0, vR (some o0)), (1, vI x1), (2, vI v7), (3, vI v8)]) [2, 3, 1, 0] rfl ?_
    exact hK4 v7 v8 h
set_option maxRecDepth 100000 in
set_option maxHeartbeats 4000000 in
theorem k_X12_longOf_4 {o0 : Nat} {x1 : Int} {x2 : Int} {x3 : Int} {M : Mm} {Q : Int → Prop} (C : Cx p s m args meth c cX12_longOf 4 RX12 D cy G n0) (hr : meth.sig.returnType = some .int) (h3 : n0 = 243) (hn : M.2.2.2 = n0) (ho0 : o0 < 243 ∧ (SH o0).1 = 12) (hQ : ∀ x, Q x → Qp (some (vI x)) M) (h : P_X12_longOf_4 o0 x1 x2 x3 M Q ) : WW p l e ({ frames := 0, cells := 0, slots := 0, locals := 0 }) s m args below meth c (ZQ below args s D cy G n0 Qp n0) 4 D cy G n0 4 [(0, vR (some o0)), (1, vI x1), (2, vI x2), (3, vI x3)] [] M := by
  refine lpW_sound (P := fun y : Int × Int => WW p l e ({ frames := 0, cells := 0, slots := 0, locals := 0 }) s m args below meth c (ZQ below args s D cy G n0 Qp n0) 4 D cy G n0 4 [(0, vR (some o0)), (1, vI x1), (2, vI y.1), (3, vI y.2)] [] M) ?_ h
  intro K y hK hF
  obtain ⟨x2, x3⟩ := y
  exact f_X12_longOf_4 C hr h3 hn ho0 hQ  (fun x2 x3 hk => hK (x2, x3) hk) hF
set_option maxRecDepth 100000 in
set_option maxHeartbeats 4000000 in
theorem k_X12_longOf_0 {o0 : Nat} {x1 : Int} {M : Mm} {Q : Int → Prop} (C : Cx p s m args meth c cX12_longOf 4 RX12 D cy G n0) (hr : meth.sig.returnType = some .int) (h3 : n0 = 243) (hn : M.2.2.2 = n0) (ho0 : o0 < 243 ∧ (SH o0).1 = 12) (hQ : ∀ x, Q x → Qp (some (vI x)) M) (h : P_X12_longOf o0 x1 M Q ) : WW p l e ({ frames := 0, cells := 0, slots := 0, locals := 0 }) s m args below meth c (ZQ below args s D cy G n0 Qp n0) 4 D cy G n0 0 [(0, vR (some o0)), (1, vI x1)] [] M := by
  unfold P_X12_longOf at h
  refine w_iconst C dX12_longOf_0 ⟨by decide, by decide⟩ ?_
  refine x_istore_n (L' := [(2, vI 0), (0, vR (some o0)), (1, vI x1)]) C dX12_longOf_1 rfl (by decide) rfl ?_
  refine w_iconst C dX12_longOf_2 ⟨by decide, by decide⟩ ?_
  refine x_istore_n (L' := [(3, vI 0), (2, vI 0), (0, vR (some o0)), (1, vI x1)]) C dX12_longOf_3 rfl (by decide) rfl ?_
  refine x_pc (pc2 := 4) rfl ?_
  refine x_pick (L' := [(0, vR (some o0)), (1, vI x1), (2, vI 0), (3, vI 0)]) [2, 3, 1, 0] rfl ?_
  exact k_X12_longOf_4 C hr h3 hn ho0 hQ  h
set_option maxRecDepth 100000 in
set_option maxHeartbeats 4000000 in
theorem con_X12_longOf (l : Launch) (D : va_G) (cy : Nat → ClassId) : Con l D cy yX12_longOf cX12_longOf 4 (some .int) ({ frames := 0, cells := 0, slots := 0, locals := 0 }) 0 0 SP_X12_longOf := by
  refine con_of (by decide) (fun as M Qp h => ?_) ?_
  · obtain ⟨-, o0, x1, rfl, -⟩ := h
    exact Nat.le_of_ble_eq_true rfl
  · intro p e s m args below meth c G as M Qp h C hr hnm
    obtain ⟨hn, o0, x1, rfl, ho1, ho2, Q0, hQ, h⟩ := h
    refine x_pick (L' := [(0, vR (some o0)), (1, vI x1)]) [0, 1] rfl ?_
    exact k_X12_longOf_0 C hr hn rfl ⟨ho1, ho2⟩ hQ h
set_option maxRecDepth 100000 in
set_option maxHeartbeats 4000000 in
theorem cl_X12_longOf {p : Program} {l : Launch} {e : Env} {R : Room} {s : State} {m : MethodId} {args : Array Value} {below : List Frame} {meth : Method} {c : Code} {Q : State → Prop} {cc : ByteArray} {nL : Nat} {own : String} {D : va_G} {cy : Nat → ClassId} {G : Nat × Nat} {n0 pc : Nat} {L : List (Nat × PV)} {st : List PV} {M : Mm} {op : Instr} (K : CallOK l D cy R own op 0 0 (spV 12 1 SP_X12_longOf)) (C : Cx p s m args meth c cc nL own D cy G n0) (hd : decode cc pc = .ok (op, 3)) (hn : M.2.2.2 = n0) (h3 : n0 = 243) (hlen : argN st ≤ 8) {r : Option Nat} {o0 : Nat} (ho : isOn 12 M.2.2.2 r o0) {x1 : Int} {Q0 : Int → Prop} (h : P_X12_longOf o0 x1 M Q0) (k : ∀ x, Q0 x → WW p l e R s m args below meth c Q nL D cy G n0  (pc + 3) L (vI x :: st) M) : WW p l e R s m args below meth c Q nL D cy G n0  pc L (vI x1 :: vR r :: st) M := by
  obtain ⟨rfl, ho1, ho2⟩ := ho
  refine x_call0 K C hd (as := [vR (some o0), vI x1]) rfl hn hlen (fun v M2 => ∃ x, v = some (vI x) ∧ M2 = M ∧ Q0 x) ⟨⟨o0, [vI x1], rfl, rfl, ho1, ho2⟩, hn.trans h3, o0, x1, rfl, (hn.trans h3) ▸ ho1, ho2, Q0, fun x hx => ⟨x, rfl, rfl, hx⟩, h⟩ ?_
  rintro _ _ ⟨x, rfl, rfl, hx⟩ hm
  exact k x hx
end W_X12_longOf
theorem dX12_pushBy_0 : decode cX12_pushBy 0 = .ok (.lload_n 2, 1) := by decide +kernel
theorem dX12_pushBy_1 : decode cX12_pushBy 1 = .ok (.lstore 6, 2) := by decide +kernel
theorem dX12_pushBy_3 : decode cX12_pushBy 3 = .ok (.lconst 0, 1) := by decide +kernel
theorem dX12_pushBy_4 : decode cX12_pushBy 4 = .ok (.lstore 8, 2) := by decide +kernel
theorem dX12_pushBy_6 : decode cX12_pushBy 6 = .ok (.iconst 0, 1) := by decide +kernel
theorem dX12_pushBy_7 : decode cX12_pushBy 7 = .ok (.istore 10, 2) := by decide +kernel
theorem dX12_pushBy_9 : decode cX12_pushBy 9 = .ok (.iload 10, 2) := by decide +kernel
theorem dX12_pushBy_11 : decode cX12_pushBy 11 = .ok (.aload_n 0, 1) := by decide +kernel
theorem dX12_pushBy_12 : decode cX12_pushBy 12 = .ok (.getfield 16, 3) := by decide +kernel
theorem dX12_pushBy_15 : decode cX12_pushBy 15 = .ok (.bipush 8, 2) := by decide +kernel
theorem dX12_pushBy_17 : decode cX12_pushBy 17 = .ok (.iload_n 1, 1) := by decide +kernel
theorem dX12_pushBy_18 : decode cX12_pushBy 18 = .ok (.iadd, 1) := by decide +kernel
theorem dX12_pushBy_19 : decode cX12_pushBy 19 = .ok (.iaload, 1) := by decide +kernel
theorem dX12_pushBy_20 : decode cX12_pushBy 20 = .ok (.if_icmp .ge 91, 3) := by decide +kernel
theorem dX12_pushBy_23 : decode cX12_pushBy 23 = .ok (.lload 6, 2) := by decide +kernel
theorem dX12_pushBy_25 : decode cX12_pushBy 25 = .ok (.lconst 0, 1) := by decide +kernel
theorem dX12_pushBy_26 : decode cX12_pushBy 26 = .ok (.lcmp, 1) := by decide +kernel
theorem dX12_pushBy_27 : decode cX12_pushBy 27 = .ok (.ifCond .le 84, 3) := by decide +kernel
theorem dX12_pushBy_30 : decode cX12_pushBy 30 = .ok (.aload_n 0, 1) := by decide +kernel
theorem dX12_pushBy_31 : decode cX12_pushBy 31 = .ok (.getfield 19, 3) := by decide +kernel
theorem dX12_pushBy_34 : decode cX12_pushBy 34 = .ok (.bipush 64, 2) := by decide +kernel
theorem dX12_pushBy_36 : decode cX12_pushBy 36 = .ok (.bipush 8, 2) := by decide +kernel
theorem dX12_pushBy_38 : decode cX12_pushBy 38 = .ok (.iload_n 1, 1) := by decide +kernel
theorem dX12_pushBy_39 : decode cX12_pushBy 39 = .ok (.imul, 1) := by decide +kernel
theorem dX12_pushBy_40 : decode cX12_pushBy 40 = .ok (.iadd, 1) := by decide +kernel
theorem dX12_pushBy_41 : decode cX12_pushBy 41 = .ok (.iconst 2, 1) := by decide +kernel
theorem dX12_pushBy_42 : decode cX12_pushBy 42 = .ok (.iload 10, 2) := by decide +kernel
theorem dX12_pushBy_44 : decode cX12_pushBy 44 = .ok (.imul, 1) := by decide +kernel
theorem dX12_pushBy_45 : decode cX12_pushBy 45 = .ok (.iadd, 1) := by decide +kernel
theorem dX12_pushBy_46 : decode cX12_pushBy 46 = .ok (.iaload, 1) := by decide +kernel
theorem dX12_pushBy_47 : decode cX12_pushBy 47 = .ok (.i2l, 1) := by decide +kernel
theorem dX12_pushBy_48 : decode cX12_pushBy 48 = .ok (.lload 4, 2) := by decide +kernel
theorem dX12_pushBy_50 : decode cX12_pushBy 50 = .ok (.lmul, 1) := by decide +kernel
theorem dX12_pushBy_51 : decode cX12_pushBy 51 = .ok (.lstore 11, 2) := by decide +kernel
theorem dX12_pushBy_53 : decode cX12_pushBy 53 = .ok (.lload 6, 2) := by decide +kernel
theorem dX12_pushBy_55 : decode cX12_pushBy 55 = .ok (.lload 11, 2) := by decide +kernel
theorem dX12_pushBy_57 : decode cX12_pushBy 57 = .ok (.lcmp, 1) := by decide +kernel
theorem dX12_pushBy_58 : decode cX12_pushBy 58 = .ok (.ifCond .ge 8, 3) := by decide +kernel
theorem dX12_pushBy_61 : decode cX12_pushBy 61 = .ok (.lload 6, 2) := by decide +kernel
theorem dX12_pushBy_63 : decode cX12_pushBy 63 = .ok (.goto 5, 3) := by decide +kernel
theorem dX12_pushBy_66 : decode cX12_pushBy 66 = .ok (.lload 11, 2) := by decide +kernel
theorem dX12_pushBy_68 : decode cX12_pushBy 68 = .ok (.lstore 13, 2) := by decide +kernel
theorem dX12_pushBy_70 : decode cX12_pushBy 70 = .ok (.lload 8, 2) := by decide +kernel
theorem dX12_pushBy_72 : decode cX12_pushBy 72 = .ok (.lload 13, 2) := by decide +kernel
theorem dX12_pushBy_74 : decode cX12_pushBy 74 = .ok (.aload_n 0, 1) := by decide +kernel
theorem dX12_pushBy_75 : decode cX12_pushBy 75 = .ok (.getfield 19, 3) := by decide +kernel
theorem dX12_pushBy_78 : decode cX12_pushBy 78 = .ok (.bipush 64, 2) := by decide +kernel
theorem dX12_pushBy_80 : decode cX12_pushBy 80 = .ok (.bipush 8, 2) := by decide +kernel
theorem dX12_pushBy_82 : decode cX12_pushBy 82 = .ok (.iload_n 1, 1) := by decide +kernel
theorem dX12_pushBy_83 : decode cX12_pushBy 83 = .ok (.imul, 1) := by decide +kernel
theorem dX12_pushBy_84 : decode cX12_pushBy 84 = .ok (.iadd, 1) := by decide +kernel
theorem dX12_pushBy_85 : decode cX12_pushBy 85 = .ok (.iconst 2, 1) := by decide +kernel
theorem dX12_pushBy_86 : decode cX12_pushBy 86 = .ok (.iload 10, 2) := by decide +kernel
theorem dX12_pushBy_88 : decode cX12_pushBy 88 = .ok (.imul, 1) := by decide +kernel
theorem dX12_pushBy_89 : decode cX12_pushBy 89 = .ok (.iadd, 1) := by decide +kernel
theorem dX12_pushBy_90 : decode cX12_pushBy 90 = .ok (.iconst 1, 1) := by decide +kernel
theorem dX12_pushBy_91 : decode cX12_pushBy 91 = .ok (.iadd, 1) := by decide +kernel
theorem dX12_pushBy_92 : decode cX12_pushBy 92 = .ok (.iaload, 1) := by decide +kernel
theorem dX12_pushBy_93 : decode cX12_pushBy 93 = .ok (.i2l, 1) := by decide +kernel
theorem dX12_pushBy_94 : decode cX12_pushBy 94 = .ok (.lmul, 1) := by decide +kernel
theorem dX12_pushBy_95 : decode cX12_pushBy 95 = .ok (.ladd, 1) := by decide +kernel
theorem dX12_pushBy_96 : decode cX12_pushBy 96 = .ok (.lstore 8, 2) := by decide +kernel
theorem dX12_pushBy_98 : decode cX12_pushBy 98 = .ok (.lload 6, 2) := by decide +kernel
theorem dX12_pushBy_100 : decode cX12_pushBy 100 = .ok (.lload 13, 2) := by decide +kernel
theorem dX12_pushBy_102 : decode cX12_pushBy 102 = .ok (.lsub, 1) := by decide +kernel
theorem dX12_pushBy_103 : decode cX12_pushBy 103 = .ok (.lstore 6, 2) := by decide +kernel
theorem dX12_pushBy_105 : decode cX12_pushBy 105 = .ok (.iinc 10 1, 3) := by decide +kernel
theorem dX12_pushBy_108 : decode cX12_pushBy 108 = .ok (.goto (-99), 3) := by decide +kernel
theorem dX12_pushBy_111 : decode cX12_pushBy 111 = .ok (.lload 6, 2) := by decide +kernel
theorem dX12_pushBy_113 : decode cX12_pushBy 113 = .ok (.lconst 0, 1) := by decide +kernel
theorem dX12_pushBy_114 : decode cX12_pushBy 114 = .ok (.lcmp, 1) := by decide +kernel
theorem dX12_pushBy_115 : decode cX12_pushBy 115 = .ok (.ifCond .le 15, 3) := by decide +kernel
theorem dX12_pushBy_118 : decode cX12_pushBy 118 = .ok (.lload 8, 2) := by decide +kernel
theorem dX12_pushBy_120 : decode cX12_pushBy 120 = .ok (.ldc2_w 147, 3) := by decide +kernel
theorem dX12_pushBy_123 : decode cX12_pushBy 123 = .ok (.lload 6, 2) := by decide +kernel
theorem dX12_pushBy_125 : decode cX12_pushBy 125 = .ok (.lmul, 1) := by decide +kernel
theorem dX12_pushBy_126 : decode cX12_pushBy 126 = .ok (.ladd, 1) := by decide +kernel
theorem dX12_pushBy_127 : decode cX12_pushBy 127 = .ok (.goto 5, 3) := by decide +kernel
theorem dX12_pushBy_130 : decode cX12_pushBy 130 = .ok (.lload 8, 2) := by decide +kernel
theorem dX12_pushBy_132 : decode cX12_pushBy 132 = .ok (.lreturn, 1) := by decide +kernel
section W_X12_pushBy
variable {p : Program} {l : Launch} {e : Env} {s : State} {m : MethodId} {args : Array Value} {below : List Frame} {meth : Method} {c : Code} {D : va_G} {cy : Nat → ClassId} {G : Nat × Nat} {n0 : Nat} {Qp : Option PV → Mm → Prop}
set_option maxRecDepth 100000 in
set_option maxHeartbeats 4000000 in
theorem k_X12_pushBy_111 {x6 : Int} {x8 : Int} {M : Mm} {Q : Int → Prop} {o0 : Nat} (C : Cx p s m args meth c cX12_pushBy 15 RX12 D cy G n0) (hr : meth.sig.returnType = some .long) (h3 : n0 = 243) (hn : M.2.2.2 = n0) (ho0 : o0 < 243 ∧ (SH o0).1 = 12) (hQ : ∀ x, Q x → Qp (some (vL x)) M) (h : P_X12_pushBy_111 x6 x8 M Q ) : WW p l e ({ frames := 0, cells := 0, slots := 0, locals := 0 }) s m args below meth c (ZQ below args s D cy G n0 Qp n0) 15 D cy G n0 111 [(6, vL x6), (8, vL x8)] [] M := by
  unfold P_X12_pushBy_111 at h
  refine w_lload C dX12_pushBy_111 (mem_k 0 rfl) ?_
  refine w_lconst C dX12_pushBy_113 ?_
  refine x_lif_le (tgt := 130) C dX12_pushBy_114 dX12_pushBy_115 (by decide) (fun q => ?_) (fun q => ?_)
  · replace h := h.1 q
    refine w_lload C dX12_pushBy_130 (mem_k 1 rfl) ?_
    exact x_lret C hr dX12_pushBy_132 hn (hQ _ h)
  · replace h := h.2 q
    refine w_lload C dX12_pushBy_118 (mem_k 1 rfl) ?_
    refine w_ldc2 (x := 1000) C dX12_pushBy_120 cn_X12_147 ⟨by decide, by decide⟩ ?_
    refine w_lload C dX12_pushBy_123 (mem_k 0 rfl) ?_
    refine w_lmul C dX12_pushBy_125 h.1 ?_
    replace h := h.2
    refine w_ladd C dX12_pushBy_126 h.1 ?_
    replace h := h.2
    refine w_goto (tgt := 132) C dX12_pushBy_127 (by decide) ?_
    exact x_lret C hr dX12_pushBy_132 hn (hQ _ h)
set_option maxRecDepth 100000 in
set_option maxHeartbeats 4000000 in
theorem k_X12_pushBy_68 {o0 : Nat} {x1 : Int} {x4 : Int} {x6 : Int} {x8 : Int} {x10 : Int} {s0 : Int} {M : Mm} {Q : Int → Prop} {K9 : Int × Int × Int → Prop} (C : Cx p s m args meth c cX12_pushBy 15 RX12 D cy G n0) (hr : meth.sig.returnType = some .long) (h3 : n0 = 243) (hn : M.2.2.2 = n0) (ho0 : o0 < 243 ∧ (SH o0).1 = 12) (hQ : ∀ x, Q x → Qp (some (vL x)) M) (hK9 : ∀ (x6 : Int) (x8 : Int) (x10 : Int), K9 (x6, x8, x10) → WW p l e ({ frames := 0, cells := 0, slots := 0, locals := 0 }) s m args below meth c (ZQ below args s D cy G n0 Qp n0) 15 D cy G n0 9 [(0, vR (some o0)), (1, vI x1), (4, vL x4), (6, vL x6), (8, vL x8), (10, vI x10)] [] M) (h : P_X12_pushBy_68 o0 x1 x4 x6 x8 x10 s0 M Q K9) : WW p l e ({ frames := 0, cells := 0, slots := 0, locals := 0 }) s m args below meth c (ZQ below args s D cy G n0 Qp n0) 15 D cy G n0 68 [(0, vR (some o0)), (1, vI x1), (4, vL x4), (6, vL x6), (8, vL x8), (10, vI x10)] [vL s0] M := by
  unfold P_X12_pushBy_68 at h
  refine x_lstore (L' := [(13, vL s0), (0, vR (some o0)), (1, vI x1), (4, vL x4), (6, vL x6), (8, vL x8), (10, vI x10)]) C dX12_pushBy_68 (by decide) rfl ?_
  refine w_lload C dX12_pushBy_70 (mem_k 5 rfl) ?_
  refine w_lload C dX12_pushBy_72 (mem_k 0 rfl) ?_
  refine w_aload_n C dX12_pushBy_74 rfl (mem_k 1 rfl) ?_
  refine x_getR C dX12_pushBy_75 fw_X12_19 (isO.n (ci := 12) ⟨rfl, ho0⟩ (hn.trans h3)) (fun r1 er1 => ?_)
  replace h := h r1 er1
  refine w_bipush C dX12_pushBy_78 (by decide) ?_
  refine w_bipush C dX12_pushBy_80 (by decide) ?_
  refine w_iload_n C dX12_pushBy_82 rfl (mem_k 2 rfl) ?_
  refine w_imul C dX12_pushBy_83 h.1 ?_
  replace h := h.2
  refine w_iadd C dX12_pushBy_84 h.1 ?_
  replace h := h.2
  refine w_iconst C dX12_pushBy_85 ⟨by decide, by decide⟩ ?_
  refine w_iload C dX12_pushBy_86 (mem_k 6 rfl) ?_
  refine w_imul C dX12_pushBy_88 h.1 ?_
  replace h := h.2
  refine w_iadd C dX12_pushBy_89 h.1 ?_
  replace h := h.2
  refine w_iconst C dX12_pushBy_90 ⟨by decide, by decide⟩ ?_
  refine w_iadd C dX12_pushBy_91 h.1 ?_
  replace h := h.2
  obtain ⟨o2, g3, h⟩ := h
  refine x_iald C dX12_pushBy_92 (isA.n g3 (hn.trans h3)) ?_
  refine w_i2l C dX12_pushBy_93 ?_
  refine w_lmul C dX12_pushBy_94 h.1 ?_
  replace h := h.2
  refine w_ladd C dX12_pushBy_95 h.1 ?_
  replace h := h.2
  refine x_nmL (fun v4 ev4 => ?_)
  replace h := h v4 ev4
  refine x_lstore (L' := [(8, vL v4), (13, vL s0), (0, vR (some o0)), (1, vI x1), (4, vL x4), (6, vL x6), (10, vI x10)]) C dX12_pushBy_96 (by decide) rfl ?_
  refine w_lload C dX12_pushBy_98 (mem_k 5 rfl) ?_
  refine w_lload C dX12_pushBy_100 (mem_k 1 rfl) ?_
  refine w_lsub C dX12_pushBy_102 h.1 ?_
  replace h := h.2
  refine x_nmL (fun v5 ev5 => ?_)
  replace h := h v5 ev5
  refine x_lstore (L' := [(6, vL v5), (8, vL v4), (13, vL s0), (0, vR (some o0)), (1, vI x1), (4, vL x4), (10, vI x10)]) C dX12_pushBy_103 (by decide) rfl ?_
  obtain ⟨v6, ev6⟩ : ∃ z : Int, z = x10 + 1 := ⟨_, rfl⟩
  refine x_iinc (L' := [(10, vI v6), (6, vL v5), (8, vL v4), (13, vL s0), (0, vR (some o0)), (1, vI x1), (4, vL x4)]) C dX12_pushBy_105 (mem_k 6 rfl) (by decide) h.1 ev6 rfl ?_
  replace h := h.2 v6 ev6
  refine w_goto (tgt := 9) C dX12_pushBy_108 (by decide) ?_
  refine x_pc (pc2 := 9) rfl ?_
  refine x_pick (L' := [(0, vR (some o0)), (1, vI x1), (4, vL x4), (6, vL v5), (8, vL v4), (10, vI v6)]) [4, 5, 6, 1, 2, 0] rfl ?_
  exact hK9 v5 v4 v6 h
set_option maxRecDepth 100000 in
set_option maxHeartbeats 4000000 in
theorem f_X12_pushBy_9 {o0 : Nat} {x1 : Int} {x4 : Int} {x6 : Int} {x8 : Int} {x10 : Int} {M : Mm} {Q : Int → Prop} {K9 : Int × Int × Int → Prop} (C : Cx p s m args meth c cX12_pushBy 15 RX12 D cy G n0) (hr : meth.sig.returnType = some .long) (h3 : n0 = 243) (hn : M.2.2.2 = n0) (ho0 : o0 < 243 ∧ (SH o0).1 = 12) (hQ : ∀ x, Q x → Qp (some (vL x)) M) (hK9 : ∀ (x6 : Int) (x8 : Int) (x10 : Int), K9 (x6, x8, x10) → WW p l e ({ frames := 0, cells := 0, slots := 0, locals := 0 }) s m args below meth c (ZQ below args s D cy G n0 Qp n0) 15 D cy G n0 9 [(0, vR (some o0)), (1, vI x1), (4, vL x4), (6, vL x6), (8, vL x8), (10, vI x10)] [] M) (h : F_X12_pushBy_9 o0 x1 x4 M Q  K9 x6 x8 x10) : WW p l e ({ frames := 0, cells := 0, slots := 0, locals := 0 }) s m args below meth c (ZQ below args s D cy G n0 Qp n0) 15 D cy G n0 9 [(0, vR (some o0)), (1, vI x1), (4, vL x4), (6, vL x6), (8, vL x8), (10, vI x10)] [] M := by
  unfold F_X12_pushBy_9 at h
  refine w_iload C dX12_pushBy_9 (mem_k 5 rfl) ?_
  refine w_aload_n C dX12_pushBy_11 rfl (mem_k 0 rfl) ?_
  refine x_getR C dX12_pushBy_12 fw_X12_16 (isO.n (ci := 12) ⟨rfl, ho0⟩ (hn.trans h3)) (fun r7 er7 => ?_)
  replace h := h r7 er7
  refine w_bipush C dX12_pushBy_15 (by decide) ?_
  refine w_iload_n C dX12_pushBy_17 rfl (mem_k 1 rfl) ?_
  refine w_iadd C dX12_pushBy_18 h.1 ?_
  replace h := h.2
  obtain ⟨o8, g9, h⟩ := h
  refine x_iald C dX12_pushBy_19 (isA.n g9 (hn.trans h3)) ?_
  refine w_icmp_ge (tgt := 111) C dX12_pushBy_20 (by decide) (fun q => ?_) (fun q => ?_)
  · replace h := h.1 q
    refine x_pc (pc2 := 111) rfl ?_
    refine x_pick (L' := [(6, vL x6), (8, vL x8)]) [3, 4] rfl ?_
    exact k_X12_pushBy_111 C hr h3 hn ho0 hQ  h
  · replace h := h.2 q
    refine w_lload C dX12_pushBy_23 (mem_k 3 rfl) ?_
    refine w_lconst C dX12_pushBy_25 ?_
    refine x_lif_le (tgt := 111) C dX12_pushBy_26 dX12_pushBy_27 (by decide) (fun q => ?_) (fun q => ?_)
    · replace h := h.1 q
      refine x_pc (pc2 := 111) rfl ?_
      refine x_pick (L' := [(6, vL x6), (8, vL x8)]) [3, 4] rfl ?_
      exact k_X12_pushBy_111 C hr h3 hn ho0 hQ  h
    · replace h := h.2 q
      refine w_aload_n C dX12_pushBy_30 rfl (mem_k 0 rfl) ?_
      refine x_getR C dX12_pushBy_31 fw_X12_19 (isO.n (ci := 12) ⟨rfl, ho0⟩ (hn.trans h3)) (fun r10 er10 => ?_)
      replace h := h r10 er10
      refine w_bipush C dX12_pushBy_34 (by decide) ?_
      refine w_bipush C dX12_pushBy_36 (by decide) ?_
      refine w_iload_n C dX12_pushBy_38 rfl (mem_k 1 rfl) ?_
      refine w_imul C dX12_pushBy_39 h.1 ?_
      replace h := h.2
      refine w_iadd C dX12_pushBy_40 h.1 ?_
      replace h := h.2
      refine w_iconst C dX12_pushBy_41 ⟨by decide, by decide⟩ ?_
      refine w_iload C dX12_pushBy_42 (mem_k 5 rfl) ?_
      refine w_imul C dX12_pushBy_44 h.1 ?_
      replace h := h.2
      refine w_iadd C dX12_pushBy_45 h.1 ?_
      replace h := h.2
      obtain ⟨o11, g12, h⟩ := h
      refine x_iald C dX12_pushBy_46 (isA.n g12 (hn.trans h3)) ?_
      refine w_i2l C dX12_pushBy_47 ?_
      refine w_lload C dX12_pushBy_48 (mem_k 2 rfl) ?_
      refine w_lmul C dX12_pushBy_50 h.1 ?_
      replace h := h.2
      refine x_nmL (fun v13 ev13 => ?_)
      replace h := h v13 ev13
      refine x_lstore (L' := [(11, vL v13), (0, vR (some o0)), (1, vI x1), (4, vL x4), (6, vL x6), (8, vL x8), (10, vI x10)]) C dX12_pushBy_51 (by decide) rfl ?_
      refine w_lload C dX12_pushBy_53 (mem_k 4 rfl) ?_
      refine w_lload C dX12_pushBy_55 (mem_k 0 rfl) ?_
      refine x_lif_ge (tgt := 66) C dX12_pushBy_57 dX12_pushBy_58 (by decide) (fun q => ?_) (fun q => ?_)
      · replace h := h.1 q
        refine w_lload C dX12_pushBy_66 (mem_k 0 rfl) ?_
        refine x_pc (pc2 := 68) rfl ?_
        refine x_pick (L' := [(0, vR (some o0)), (1, vI x1), (4, vL x4), (6, vL x6), (8, vL x8), (10, vI x10)]) [1, 2, 3, 4, 5, 6] rfl ?_
        exact k_X12_pushBy_68 C hr h3 hn ho0 hQ hK9 h
      · replace h := h.2 q
        refine w_lload C dX12_pushBy_61 (mem_k 4 rfl) ?_
        refine w_goto (tgt := 68) C dX12_pushBy_63 (by decide) ?_
        refine x_pc (pc2 := 68) rfl ?_
        refine x_pick (L' := [(0, vR (some o0)), (1, vI x1), (4, vL x4), (6, vL x6), (8, vL x8), (10, vI x10)]) [1, 2, 3, 4, 5, 6] rfl ?_
        exact k_X12_pushBy_68 C hr h3 hn ho0 hQ hK9 h
set_option maxRecDepth 100000 in
set_option maxHeartbeats 4000000 in
theorem k_X12_pushBy_9 {o0 : Nat} {x1 : Int} {x4 : Int} {x6 : Int} {x8 : Int} {x10 : Int} {M : Mm} {Q : Int → Prop} (C : Cx p s m args meth c cX12_pushBy 15 RX12 D cy G n0) (hr : meth.sig.returnType = some .long) (h3 : n0 = 243) (hn : M.2.2.2 = n0) (ho0 : o0 < 243 ∧ (SH o0).1 = 12) (hQ : ∀ x, Q x → Qp (some (vL x)) M) (h : P_X12_pushBy_9 o0 x1 x4 x6 x8 x10 M Q ) : WW p l e ({ frames := 0, cells := 0, slots := 0, locals := 0 }) s m args below meth c (ZQ below args s D cy G n0 Qp n0) 15 D cy G n0 9 [(0, vR (some o0)), (1, vI x1), (4, vL x4), (6, vL x6), (8, vL x8), (10, vI x10)] [] M := by
  refine lpW_sound (P := fun y : Int × Int × Int => WW p l e ({ frames := 0, cells := 0, slots := 0, locals := 0 }) s m args below meth c (ZQ below args s D cy G n0 Qp n0) 15 D cy G n0 9 [(0, vR (some o0)), (1, vI x1), (4, vL x4), (6, vL y.1), (8, vL y.2.1), (10, vI y.2.2)] [] M) ?_ h
  intro K y hK hF
  obtain ⟨x6, x8, x10⟩ := y
  exact f_X12_pushBy_9 C hr h3 hn ho0 hQ  (fun x6 x8 x10 hk => hK (x6, x8, x10) hk) hF
set_option maxRecDepth 100000 in
set_option maxHeartbeats 4000000 in
theorem k_X12_pushBy_0 {o0 : Nat} {x1 : Int} {x2 : Int} {x4 : Int} {M : Mm} {Q : Int → Prop} (C : Cx p s m args meth c cX12_pushBy 15 RX12 D cy G n0) (hr : meth.sig.returnType = some .long) (h3 : n0 = 243) (hn : M.2.2.2 = n0) (ho0 : o0 < 243 ∧ (SH o0).1 = 12) (hQ : ∀ x, Q x → Qp (some (vL x)) M) (h : P_X12_pushBy o0 x1 x2 x4 M Q ) : WW p l e ({ frames := 0, cells := 0, slots := 0, locals := 0 }) s m args below meth c (ZQ below args s D cy G n0 Qp n0) 15 D cy G n0 0 [(0, vR (some o0)), (1, vI x1), (2, vL x2), (4, vL x4)] [] M := by
  unfold P_X12_pushBy at h
  refine w_lload_n C dX12_pushBy_0 rfl (mem_k 2 rfl) ?_
  refine x_lstore (L' := [(6, vL x2), (0, vR (some o0)), (1, vI x1), (2, vL x2), (4, vL x4)]) C dX12_pushBy_1 (by decide) rfl ?_
  refine w_lconst C dX12_pushBy_3 ?_
  refine x_lstore (L' := [(8, vL 0), (6, vL x2), (0, vR (some o0)), (1, vI x1), (2, vL x2), (4, vL x4)]) C dX12_pushBy_4 (by decide) rfl ?_
  refine w_iconst C dX12_pushBy_6 ⟨by decide, by decide⟩ ?_
  refine x_istore (L' := [(10, vI 0), (8, vL 0), (6, vL x2), (0, vR (some o0)), (1, vI x1), (2, vL x2), (4, vL x4)]) C dX12_pushBy_7 (by decide) rfl ?_
  refine x_pc (pc2 := 9) rfl ?_
  refine x_pick (L' := [(0, vR (some o0)), (1, vI x1), (4, vL x4), (6, vL x2), (8, vL 0), (10, vI 0)]) [3, 4, 6, 2, 1, 0] rfl ?_
  exact k_X12_pushBy_9 C hr h3 hn ho0 hQ  h
set_option maxRecDepth 100000 in
set_option maxHeartbeats 4000000 in
theorem con_X12_pushBy (l : Launch) (D : va_G) (cy : Nat → ClassId) : Con l D cy yX12_pushBy cX12_pushBy 15 (some .long) ({ frames := 0, cells := 0, slots := 0, locals := 0 }) 0 0 SP_X12_pushBy := by
  refine con_of (by decide) (fun as M Qp h => ?_) ?_
  · obtain ⟨-, o0, x1, x2, x4, rfl, -⟩ := h
    exact Nat.le_of_ble_eq_true rfl
  · intro p e s m args below meth c G as M Qp h C hr hnm
    obtain ⟨hn, o0, x1, x2, x4, rfl, ho1, ho2, Q0, hQ, h⟩ := h
    refine x_pick (L' := [(0, vR (some o0)), (1, vI x1), (2, vL x2), (4, vL x4)]) [0, 1, 2, 3] rfl ?_
    exact k_X12_pushBy_0 C hr hn rfl ⟨ho1, ho2⟩ hQ h
set_option maxRecDepth 100000 in
set_option maxHeartbeats 4000000 in
theorem cl_X12_pushBy {p : Program} {l : Launch} {e : Env} {R : Room} {s : State} {m : MethodId} {args : Array Value} {below : List Frame} {meth : Method} {c : Code} {Q : State → Prop} {cc : ByteArray} {nL : Nat} {own : String} {D : va_G} {cy : Nat → ClassId} {G : Nat × Nat} {n0 pc : Nat} {L : List (Nat × PV)} {st : List PV} {M : Mm} {op : Instr} (K : CallOK l D cy R own op 0 0 (spV 12 3 SP_X12_pushBy)) (C : Cx p s m args meth c cc nL own D cy G n0) (hd : decode cc pc = .ok (op, 3)) (hn : M.2.2.2 = n0) (h3 : n0 = 243) (hlen : argN st ≤ 8) {r : Option Nat} {o0 : Nat} (ho : isOn 12 M.2.2.2 r o0) {x1 : Int} {x2 : Int} {x4 : Int} {Q0 : Int → Prop} (h : P_X12_pushBy o0 x1 x2 x4 M Q0) (k : ∀ x, Q0 x → WW p l e R s m args below meth c Q nL D cy G n0  (pc + 3) L (vL x :: st) M) : WW p l e R s m args below meth c Q nL D cy G n0  pc L (vL x4 :: vL x2 :: vI x1 :: vR r :: st) M := by
  obtain ⟨rfl, ho1, ho2⟩ := ho
  refine x_call0 K C hd (as := [vR (some o0), vI x1, vL x2, vL x4]) rfl hn hlen (fun v M2 => ∃ x, v = some (vL x) ∧ M2 = M ∧ Q0 x) ⟨⟨o0, [vI x1, vL x2, vL x4], rfl, rfl, ho1, ho2⟩, hn.trans h3, o0, x1, x2, x4, rfl, (hn.trans h3) ▸ ho1, ho2, Q0, fun x hx => ⟨x, rfl, rfl, hx⟩, h⟩ ?_
  rintro _ _ ⟨x, rfl, rfl, hx⟩ hm
  exact k x hx
end W_X12_pushBy
theorem dX12_pushesAt_0 : decode cX12_pushesAt 0 = .ok (.lconst 0, 1) := by decide +kernel
theorem dX12_pushesAt_1 : decode cX12_pushesAt 1 = .ok (.lstore 4, 2) := by decide +kernel
theorem dX12_pushesAt_3 : decode cX12_pushesAt 3 = .ok (.iconst 0, 1) := by decide +kernel
theorem dX12_pushesAt_4 : decode cX12_pushesAt 4 = .ok (.istore 6, 2) := by decide +kernel
theorem dX12_pushesAt_6 : decode cX12_pushesAt 6 = .ok (.iload 6, 2) := by decide +kernel
theorem dX12_pushesAt_8 : decode cX12_pushesAt 8 = .ok (.aload_n 0, 1) := by decide +kernel
theorem dX12_pushesAt_9 : decode cX12_pushesAt 9 = .ok (.getfield 31, 3) := by decide +kernel
theorem dX12_pushesAt_12 : decode cX12_pushesAt 12 = .ok (.bipush 6, 2) := by decide +kernel
theorem dX12_pushesAt_14 : decode cX12_pushesAt 14 = .ok (.iload_n 2, 1) := by decide +kernel
theorem dX12_pushesAt_15 : decode cX12_pushesAt 15 = .ok (.iadd, 1) := by decide +kernel
theorem dX12_pushesAt_16 : decode cX12_pushesAt 16 = .ok (.iaload, 1) := by decide +kernel
theorem dX12_pushesAt_17 : decode cX12_pushesAt 17 = .ok (.if_icmp .ge 37, 3) := by decide +kernel
theorem dX12_pushesAt_20 : decode cX12_pushesAt 20 = .ok (.lload 4, 2) := by decide +kernel
theorem dX12_pushesAt_22 : decode cX12_pushesAt 22 = .ok (.aload_n 0, 1) := by decide +kernel
theorem dX12_pushesAt_23 : decode cX12_pushesAt 23 = .ok (.aload_n 0, 1) := by decide +kernel
theorem dX12_pushesAt_24 : decode cX12_pushesAt 24 = .ok (.iload_n 2, 1) := by decide +kernel
theorem dX12_pushesAt_25 : decode cX12_pushesAt 25 = .ok (.iload 6, 2) := by decide +kernel
theorem dX12_pushesAt_27 : decode cX12_pushesAt 27 = .ok (.invokevirtual 160, 3) := by decide +kernel
theorem dX12_pushesAt_30 : decode cX12_pushesAt 30 = .ok (.aload_n 0, 1) := by decide +kernel
theorem dX12_pushesAt_31 : decode cX12_pushesAt 31 = .ok (.iload_n 1, 1) := by decide +kernel
theorem dX12_pushesAt_32 : decode cX12_pushesAt 32 = .ok (.iload_n 2, 1) := by decide +kernel
theorem dX12_pushesAt_33 : decode cX12_pushesAt 33 = .ok (.iload 6, 2) := by decide +kernel
theorem dX12_pushesAt_35 : decode cX12_pushesAt 35 = .ok (.invokevirtual 164, 3) := by decide +kernel
theorem dX12_pushesAt_38 : decode cX12_pushesAt 38 = .ok (.iload_n 3, 1) := by decide +kernel
theorem dX12_pushesAt_39 : decode cX12_pushesAt 39 = .ok (.isub, 1) := by decide +kernel
theorem dX12_pushesAt_40 : decode cX12_pushesAt 40 = .ok (.i2l, 1) := by decide +kernel
theorem dX12_pushesAt_41 : decode cX12_pushesAt 41 = .ok (.lconst 1, 1) := by decide +kernel
theorem dX12_pushesAt_42 : decode cX12_pushesAt 42 = .ok (.invokevirtual 168, 3) := by decide +kernel
theorem dX12_pushesAt_45 : decode cX12_pushesAt 45 = .ok (.ladd, 1) := by decide +kernel
theorem dX12_pushesAt_46 : decode cX12_pushesAt 46 = .ok (.lstore 4, 2) := by decide +kernel
theorem dX12_pushesAt_48 : decode cX12_pushesAt 48 = .ok (.iinc 6 1, 3) := by decide +kernel
theorem dX12_pushesAt_51 : decode cX12_pushesAt 51 = .ok (.goto (-45), 3) := by decide +kernel
theorem dX12_pushesAt_54 : decode cX12_pushesAt 54 = .ok (.lload 4, 2) := by decide +kernel
theorem dX12_pushesAt_56 : decode cX12_pushesAt 56 = .ok (.lreturn, 1) := by decide +kernel
theorem ck_X12_160 {l : Launch} {D : va_G} {cy : Nat → ClassId} {R : Room} (hR : 1 ≤ R.frames ∧ 22 ≤ R.locals) : CallOK l D cy R RX12 (.invokevirtual 160) 0 0 (spV 12 2 SP_X12_layerOf) := call_V (ci := 12) (con_X12_layerOf l D cy) (lwG_5 (i := 6) rfl rfl) (lwG_5 (i := 8) rfl rfl) (lwG_p (i := 25) rfl rfl) (lwG_1 (i := 13) rfl rfl) (lwG_5 (i := 9) rfl rfl) (by decide) ⟨rfl, by decide, by decide, rfl⟩ ⟨rfl, rfl⟩ hR
theorem ck_X12_164 {l : Launch} {D : va_G} {cy : Nat → ClassId} {R : Room} (hR : 1 ≤ R.frames ∧ 23 ≤ R.locals) : CallOK l D cy R RX12 (.invokevirtual 164) 0 0 (spV 12 3 SP_X12_touchOf) := call_V (ci := 12) (con_X12_touchOf l D cy) (lwG_5 (i := 10) rfl rfl) (lwG_5 (i := 12) rfl rfl) (lwG_p (i := 26) rfl rfl) (lwG_1 (i := 13) rfl rfl) (lwG_5 (i := 13) rfl rfl) (by decide) ⟨rfl, by decide, by decide, rfl⟩ ⟨rfl, rfl⟩ hR
theorem ck_X12_168 {l : Launch} {D : va_G} {cy : Nat → ClassId} {R : Room} (hR : 1 ≤ R.frames ∧ 34 ≤ R.locals) : CallOK l D cy R RX12 (.invokevirtual 168) 0 0 (spV 12 3 SP_X12_pushBy) := call_V (ci := 12) (con_X12_pushBy l D cy) (lwG_5 (i := 14) rfl rfl) (lwG_5 (i := 16) rfl rfl) (lwG_p (i := 27) rfl rfl) (lwG_1 (i := 13) rfl rfl) (lwG_5 (i := 17) rfl rfl) (by decide) ⟨rfl, by decide, by decide, rfl⟩ ⟨rfl, rfl⟩ hR
section W_X12_pushesAt
variable {p : Program} {l : Launch} {e : Env} {s : State} {m : MethodId} {args : Array Value} {below : List Frame} {meth : Method} {c : Code} {D : va_G} {cy : Nat → ClassId} {G : Nat × Nat} {n0 : Nat} {Qp : Option PV → Mm → Prop}
set_option maxRecDepth 100000 in
set_option maxHeartbeats 4000000 in
theorem f_X12_pushesAt_6 {o0 : Nat} {x1 : Int} {x2 : Int} {x3 : Int} {x4 : Int} {x6 : Int} {M : Mm} {Q : Int → Prop} {K6 : Int × Int → Prop} (C : Cx p s m args meth c cX12_pushesAt 7 RX12 D cy G n0) (hr : meth.sig.returnType = some .long) (h3 : n0 = 243) (hn : M.2.2.2 = n0) (ho0 : o0 < 243 ∧ (SH o0).1 = 12) (hQ : ∀ x, Q x → Qp (some (vL x)) M) (hK6 : ∀ (x4 : Int) (x6 : Int), K6 (x4, x6) → WW p l e ({ frames := 1, cells := 0, slots := 0, locals := 34 }) s m args below meth c (ZQ below args s D cy G n0 Qp n0) 7 D cy G n0 6 [(0, vR (some o0)), (1, vI x1), (2, vI x2), (3, vI x3), (4, vL x4), (6, vI x6)] [] M) (h : F_X12_pushesAt_6 o0 x1 x2 x3 M Q  K6 x4 x6) : WW p l e ({ frames := 1, cells := 0, slots := 0, locals := 34 }) s m args below meth c (ZQ below args s D cy G n0 Qp n0) 7 D cy G n0 6 [(0, vR (some o0)), (1, vI x1), (2, vI x2), (3, vI x3), (4, vL x4), (6, vI x6)] [] M := by
  unfold F_X12_pushesAt_6 at h
  refine w_iload C dX12_pushesAt_6 (mem_k 5 rfl) ?_
  refine w_aload_n C dX12_pushesAt_8 rfl (mem_k 0 rfl) ?_
  refine x_getR C dX12_pushesAt_9 fw_X12_31 (isO.n (ci := 12) ⟨rfl, ho0⟩ (hn.trans h3)) (fun r1 er1 => ?_)
  replace h := h r1 er1
  refine w_bipush C dX12_pushesAt_12 (by decide) ?_
  refine w_iload_n C dX12_pushesAt_14 rfl (mem_k 2 rfl) ?_
  refine w_iadd C dX12_pushesAt_15 h.1 ?_
  replace h := h.2
  obtain ⟨o2, g3, h⟩ := h
  refine x_iald C dX12_pushesAt_16 (isA.n g3 (hn.trans h3)) ?_
  refine w_icmp_ge (tgt := 54) C dX12_pushesAt_17 (by decide) (fun q => ?_) (fun q => ?_)
  · replace h := h.1 q
    refine w_lload C dX12_pushesAt_54 (mem_k 4 rfl) ?_
    exact x_lret C hr dX12_pushesAt_56 hn (hQ _ h)
  · replace h := h.2 q
    refine w_lload C dX12_pushesAt_20 (mem_k 4 rfl) ?_
    refine w_aload_n C dX12_pushesAt_22 rfl (mem_k 0 rfl) ?_
    refine w_aload_n C dX12_pushesAt_23 rfl (mem_k 0 rfl) ?_
    refine w_iload_n C dX12_pushesAt_24 rfl (mem_k 2 rfl) ?_
    refine w_iload C dX12_pushesAt_25 (mem_k 5 rfl) ?_
    refine cl_X12_layerOf (ck_X12_160 ⟨by decide, by decide⟩) C dX12_pushesAt_27 hn h3 (Nat.le_of_ble_eq_true rfl) (isO.n (ci := 12) ⟨rfl, ho0⟩ (hn.trans h3)) h (fun v4 h => ?_)
    refine w_aload_n C dX12_pushesAt_30 rfl (mem_k 0 rfl) ?_
    refine w_iload_n C dX12_pushesAt_31 rfl (mem_k 1 rfl) ?_
    refine w_iload_n C dX12_pushesAt_32 rfl (mem_k 2 rfl) ?_
    refine w_iload C dX12_pushesAt_33 (mem_k 5 rfl) ?_
    refine cl_X12_touchOf (ck_X12_164 ⟨by decide, by decide⟩) C dX12_pushesAt_35 hn h3 (Nat.le_of_ble_eq_true rfl) (isO.n (ci := 12) ⟨rfl, ho0⟩ (hn.trans h3)) h (fun v5 h => ?_)
    refine w_iload_n C dX12_pushesAt_38 rfl (mem_k 3 rfl) ?_
    refine w_isub C dX12_pushesAt_39 h.1 ?_
    replace h := h.2
    refine w_i2l C dX12_pushesAt_40 ?_
    refine w_lconst C dX12_pushesAt_41 ?_
    refine cl_X12_pushBy (ck_X12_168 ⟨by decide, by decide⟩) C dX12_pushesAt_42 hn h3 (Nat.le_of_ble_eq_true rfl) (isO.n (ci := 12) ⟨rfl, ho0⟩ (hn.trans h3)) h (fun v6 h => ?_)
    refine w_ladd C dX12_pushesAt_45 h.1 ?_
    replace h := h.2
    refine x_nmL (fun v7 ev7 => ?_)
    replace h := h v7 ev7
    refine x_lstore (L' := [(4, vL v7), (0, vR (some o0)), (1, vI x1), (2, vI x2), (3, vI x3), (6, vI x6)]) C dX12_pushesAt_46 (by decide) rfl ?_
    obtain ⟨v8, ev8⟩ : ∃ z : Int, z = x6 + 1 := ⟨_, rfl⟩
    refine x_iinc (L' := [(6, vI v8), (4, vL v7), (0, vR (some o0)), (1, vI x1), (2, vI x2), (3, vI x3)]) C dX12_pushesAt_48 (mem_k 5 rfl) (by decide) h.1 ev8 rfl ?_
    replace h := h.2 v8 ev8
    refine w_goto (tgt := 6) C dX12_pushesAt_51 (by decide) ?_
    refine x_pc (pc2 := 6) rfl ?_
    refine x_pick (L' := [(0, vR (some o0)), (1, vI x1), (2, vI x2), (3, vI x3), (4, vL v7), (6, vI v8)]) [2, 3, 4, 5, 1, 0] rfl ?_
    exact hK6 v7 v8 h
set_option maxRecDepth 100000 in
set_option maxHeartbeats 4000000 in
theorem k_X12_pushesAt_6 {o0 : Nat} {x1 : Int} {x2 : Int} {x3 : Int} {x4 : Int} {x6 : Int} {M : Mm} {Q : Int → Prop} (C : Cx p s m args meth c cX12_pushesAt 7 RX12 D cy G n0) (hr : meth.sig.returnType = some .long) (h3 : n0 = 243) (hn : M.2.2.2 = n0) (ho0 : o0 < 243 ∧ (SH o0).1 = 12) (hQ : ∀ x, Q x → Qp (some (vL x)) M) (h : P_X12_pushesAt_6 o0 x1 x2 x3 x4 x6 M Q ) : WW p l e ({ frames := 1, cells := 0, slots := 0, locals := 34 }) s m args below meth c (ZQ below args s D cy G n0 Qp n0) 7 D cy G n0 6 [(0, vR (some o0)), (1, vI x1), (2, vI x2), (3, vI x3), (4, vL x4), (6, vI x6)] [] M := by
  refine lpW_sound (P := fun y : Int × Int => WW p l e ({ frames := 1, cells := 0, slots := 0, locals := 34 }) s m args below meth c (ZQ below args s D cy G n0 Qp n0) 7 D cy G n0 6 [(0, vR (some o0)), (1, vI x1), (2, vI x2), (3, vI x3), (4, vL y.1), (6, vI y.2)] [] M) ?_ h
  intro K y hK hF
  obtain ⟨x4, x6⟩ := y
  exact f_X12_pushesAt_6 C hr h3 hn ho0 hQ  (fun x4 x6 hk => hK (x4, x6) hk) hF
set_option maxRecDepth 100000 in
set_option maxHeartbeats 4000000 in
theorem k_X12_pushesAt_0 {o0 : Nat} {x1 : Int} {x2 : Int} {x3 : Int} {M : Mm} {Q : Int → Prop} (C : Cx p s m args meth c cX12_pushesAt 7 RX12 D cy G n0) (hr : meth.sig.returnType = some .long) (h3 : n0 = 243) (hn : M.2.2.2 = n0) (ho0 : o0 < 243 ∧ (SH o0).1 = 12) (hQ : ∀ x, Q x → Qp (some (vL x)) M) (h : P_X12_pushesAt o0 x1 x2 x3 M Q ) : WW p l e ({ frames := 1, cells := 0, slots := 0, locals := 34 }) s m args below meth c (ZQ below args s D cy G n0 Qp n0) 7 D cy G n0 0 [(0, vR (some o0)), (1, vI x1), (2, vI x2), (3, vI x3)] [] M := by
  unfold P_X12_pushesAt at h
  refine w_lconst C dX12_pushesAt_0 ?_
  refine x_lstore (L' := [(4, vL 0), (0, vR (some o0)), (1, vI x1), (2, vI x2), (3, vI x3)]) C dX12_pushesAt_1 (by decide) rfl ?_
  refine w_iconst C dX12_pushesAt_3 ⟨by decide, by decide⟩ ?_
  refine x_istore (L' := [(6, vI 0), (4, vL 0), (0, vR (some o0)), (1, vI x1), (2, vI x2), (3, vI x3)]) C dX12_pushesAt_4 (by decide) rfl ?_
  refine x_pc (pc2 := 6) rfl ?_
  refine x_pick (L' := [(0, vR (some o0)), (1, vI x1), (2, vI x2), (3, vI x3), (4, vL 0), (6, vI 0)]) [2, 3, 4, 5, 1, 0] rfl ?_
  exact k_X12_pushesAt_6 C hr h3 hn ho0 hQ  h
set_option maxRecDepth 100000 in
set_option maxHeartbeats 4000000 in
theorem con_X12_pushesAt (l : Launch) (D : va_G) (cy : Nat → ClassId) : Con l D cy yX12_pushesAt cX12_pushesAt 7 (some .long) ({ frames := 1, cells := 0, slots := 0, locals := 34 }) 0 0 SP_X12_pushesAt := by
  refine con_of (by decide) (fun as M Qp h => ?_) ?_
  · obtain ⟨-, o0, x1, x2, x3, rfl, -⟩ := h
    exact Nat.le_of_ble_eq_true rfl
  · intro p e s m args below meth c G as M Qp h C hr hnm
    obtain ⟨hn, o0, x1, x2, x3, rfl, ho1, ho2, Q0, hQ, h⟩ := h
    refine x_pick (L' := [(0, vR (some o0)), (1, vI x1), (2, vI x2), (3, vI x3)]) [0, 1, 2, 3] rfl ?_
    exact k_X12_pushesAt_0 C hr hn rfl ⟨ho1, ho2⟩ hQ h
set_option maxRecDepth 100000 in
set_option maxHeartbeats 4000000 in
theorem cl_X12_pushesAt {p : Program} {l : Launch} {e : Env} {R : Room} {s : State} {m : MethodId} {args : Array Value} {below : List Frame} {meth : Method} {c : Code} {Q : State → Prop} {cc : ByteArray} {nL : Nat} {own : String} {D : va_G} {cy : Nat → ClassId} {G : Nat × Nat} {n0 pc : Nat} {L : List (Nat × PV)} {st : List PV} {M : Mm} {op : Instr} (K : CallOK l D cy R own op 0 0 (spV 12 3 SP_X12_pushesAt)) (C : Cx p s m args meth c cc nL own D cy G n0) (hd : decode cc pc = .ok (op, 3)) (hn : M.2.2.2 = n0) (h3 : n0 = 243) (hlen : argN st ≤ 8) {r : Option Nat} {o0 : Nat} (ho : isOn 12 M.2.2.2 r o0) {x1 : Int} {x2 : Int} {x3 : Int} {Q0 : Int → Prop} (h : P_X12_pushesAt o0 x1 x2 x3 M Q0) (k : ∀ x, Q0 x → WW p l e R s m args below meth c Q nL D cy G n0  (pc + 3) L (vL x :: st) M) : WW p l e R s m args below meth c Q nL D cy G n0  pc L (vI x3 :: vI x2 :: vI x1 :: vR r :: st) M := by
  obtain ⟨rfl, ho1, ho2⟩ := ho
  refine x_call0 K C hd (as := [vR (some o0), vI x1, vI x2, vI x3]) rfl hn hlen (fun v M2 => ∃ x, v = some (vL x) ∧ M2 = M ∧ Q0 x) ⟨⟨o0, [vI x1, vI x2, vI x3], rfl, rfl, ho1, ho2⟩, hn.trans h3, o0, x1, x2, x3, rfl, (hn.trans h3) ▸ ho1, ho2, Q0, fun x hx => ⟨x, rfl, rfl, hx⟩, h⟩ ?_
  rintro _ _ ⟨x, rfl, rfl, hx⟩ hm
  exact k x hx
end W_X12_pushesAt
theorem dX12_layLevel_0 : decode cX12_layLevel 0 = .ok (.aload_n 0, 1) := by decide +kernel
theorem dX12_layLevel_1 : decode cX12_layLevel 1 = .ok (.getfield 43, 3) := by decide +kernel
theorem dX12_layLevel_4 : decode cX12_layLevel 4 = .ok (.bipush 6, 2) := by decide +kernel
theorem dX12_layLevel_6 : decode cX12_layLevel 6 = .ok (.iload_n 1, 1) := by decide +kernel
theorem dX12_layLevel_7 : decode cX12_layLevel 7 = .ok (.imul, 1) := by decide +kernel
theorem dX12_layLevel_8 : decode cX12_layLevel 8 = .ok (.iaload, 1) := by decide +kernel
theorem dX12_layLevel_9 : decode cX12_layLevel 9 = .ok (.istore_n 3, 1) := by decide +kernel
theorem dX12_layLevel_10 : decode cX12_layLevel 10 = .ok (.sipush 300, 3) := by decide +kernel
theorem dX12_layLevel_13 : decode cX12_layLevel 13 = .ok (.istore 4, 2) := by decide +kernel
theorem dX12_layLevel_15 : decode cX12_layLevel 15 = .ok (.aload_n 0, 1) := by decide +kernel
theorem dX12_layLevel_16 : decode cX12_layLevel 16 = .ok (.iload_n 1, 1) := by decide +kernel
theorem dX12_layLevel_17 : decode cX12_layLevel 17 = .ok (.iload_n 2, 1) := by decide +kernel
theorem dX12_layLevel_18 : decode cX12_layLevel 18 = .ok (.iload 4, 2) := by decide +kernel
theorem dX12_layLevel_20 : decode cX12_layLevel 20 = .ok (.invokevirtual 172, 3) := by decide +kernel
theorem dX12_layLevel_23 : decode cX12_layLevel 23 = .ok (.iload_n 3, 1) := by decide +kernel
theorem dX12_layLevel_24 : decode cX12_layLevel 24 = .ok (.i2l, 1) := by decide +kernel
theorem dX12_layLevel_25 : decode cX12_layLevel 25 = .ok (.lcmp, 1) := by decide +kernel
theorem dX12_layLevel_26 : decode cX12_layLevel 26 = .ok (.ifCond .ge 9, 3) := by decide +kernel
theorem dX12_layLevel_29 : decode cX12_layLevel 29 = .ok (.iinc 4 (-1), 3) := by decide +kernel
theorem dX12_layLevel_32 : decode cX12_layLevel 32 = .ok (.goto (-17), 3) := by decide +kernel
theorem dX12_layLevel_35 : decode cX12_layLevel 35 = .ok (.aload_n 0, 1) := by decide +kernel
theorem dX12_layLevel_36 : decode cX12_layLevel 36 = .ok (.iload_n 1, 1) := by decide +kernel
theorem dX12_layLevel_37 : decode cX12_layLevel 37 = .ok (.iload_n 2, 1) := by decide +kernel
theorem dX12_layLevel_38 : decode cX12_layLevel 38 = .ok (.iload 4, 2) := by decide +kernel
theorem dX12_layLevel_40 : decode cX12_layLevel 40 = .ok (.invokevirtual 172, 3) := by decide +kernel
theorem dX12_layLevel_43 : decode cX12_layLevel 43 = .ok (.lstore 5, 2) := by decide +kernel
theorem dX12_layLevel_45 : decode cX12_layLevel 45 = .ok (.lload 5, 2) := by decide +kernel
theorem dX12_layLevel_47 : decode cX12_layLevel 47 = .ok (.aload_n 0, 1) := by decide +kernel
theorem dX12_layLevel_48 : decode cX12_layLevel 48 = .ok (.iload_n 1, 1) := by decide +kernel
theorem dX12_layLevel_49 : decode cX12_layLevel 49 = .ok (.iload_n 2, 1) := by decide +kernel
theorem dX12_layLevel_50 : decode cX12_layLevel 50 = .ok (.iload 4, 2) := by decide +kernel
theorem dX12_layLevel_52 : decode cX12_layLevel 52 = .ok (.iconst 1, 1) := by decide +kernel
theorem dX12_layLevel_53 : decode cX12_layLevel 53 = .ok (.iadd, 1) := by decide +kernel
theorem dX12_layLevel_54 : decode cX12_layLevel 54 = .ok (.invokevirtual 172, 3) := by decide +kernel
theorem dX12_layLevel_57 : decode cX12_layLevel 57 = .ok (.lsub, 1) := by decide +kernel
theorem dX12_layLevel_58 : decode cX12_layLevel 58 = .ok (.lstore 7, 2) := by decide +kernel
theorem dX12_layLevel_60 : decode cX12_layLevel 60 = .ok (.iload 4, 2) := by decide +kernel
theorem dX12_layLevel_62 : decode cX12_layLevel 62 = .ok (.i2l, 1) := by decide +kernel
theorem dX12_layLevel_63 : decode cX12_layLevel 63 = .ok (.lload 7, 2) := by decide +kernel
theorem dX12_layLevel_65 : decode cX12_layLevel 65 = .ok (.lmul, 1) := by decide +kernel
theorem dX12_layLevel_66 : decode cX12_layLevel 66 = .ok (.lload 5, 2) := by decide +kernel
theorem dX12_layLevel_68 : decode cX12_layLevel 68 = .ok (.ladd, 1) := by decide +kernel
theorem dX12_layLevel_69 : decode cX12_layLevel 69 = .ok (.iload_n 3, 1) := by decide +kernel
theorem dX12_layLevel_70 : decode cX12_layLevel 70 = .ok (.i2l, 1) := by decide +kernel
theorem dX12_layLevel_71 : decode cX12_layLevel 71 = .ok (.lsub, 1) := by decide +kernel
theorem dX12_layLevel_72 : decode cX12_layLevel 72 = .ok (.lstore 9, 2) := by decide +kernel
theorem dX12_layLevel_74 : decode cX12_layLevel 74 = .ok (.lload 9, 2) := by decide +kernel
theorem dX12_layLevel_76 : decode cX12_layLevel 76 = .ok (.lload 7, 2) := by decide +kernel
theorem dX12_layLevel_78 : decode cX12_layLevel 78 = .ok (.invokestatic 176, 3) := by decide +kernel
theorem dX12_layLevel_81 : decode cX12_layLevel 81 = .ok (.lstore 11, 2) := by decide +kernel
theorem dX12_layLevel_83 : decode cX12_layLevel 83 = .ok (.aload_n 0, 1) := by decide +kernel
theorem dX12_layLevel_84 : decode cX12_layLevel 84 = .ok (.lload 9, 2) := by decide +kernel
theorem dX12_layLevel_86 : decode cX12_layLevel 86 = .ok (.lload 11, 2) := by decide +kernel
theorem dX12_layLevel_88 : decode cX12_layLevel 88 = .ok (.ldiv, 1) := by decide +kernel
theorem dX12_layLevel_89 : decode cX12_layLevel 89 = .ok (.putfield 180, 3) := by decide +kernel
theorem dX12_layLevel_92 : decode cX12_layLevel 92 = .ok (.aload_n 0, 1) := by decide +kernel
theorem dX12_layLevel_93 : decode cX12_layLevel 93 = .ok (.lload 7, 2) := by decide +kernel
theorem dX12_layLevel_95 : decode cX12_layLevel 95 = .ok (.lload 11, 2) := by decide +kernel
theorem dX12_layLevel_97 : decode cX12_layLevel 97 = .ok (.ldiv, 1) := by decide +kernel
theorem dX12_layLevel_98 : decode cX12_layLevel 98 = .ok (.putfield 184, 3) := by decide +kernel
theorem dX12_layLevel_101 : decode cX12_layLevel 101 = .ok (.return_, 1) := by decide +kernel
theorem ck_X12_172 {l : Launch} {D : va_G} {cy : Nat → ClassId} {R : Room} (hR : 2 ≤ R.frames ∧ 60 ≤ R.locals) : CallOK l D cy R RX12 (.invokevirtual 172) 0 0 (spV 12 3 SP_X12_pushesAt) := call_V (ci := 12) (con_X12_pushesAt l D cy) (lwG_5 (i := 2) rfl rfl) (lwG_5 (i := 4) rfl rfl) (lwG_p (i := 24) rfl rfl) (lwG_1 (i := 13) rfl rfl) (lwG_5 (i := 5) rfl rfl) (by decide) ⟨rfl, by decide, by decide, rfl⟩ ⟨rfl, rfl⟩ hR
theorem ck_X12_176 {l : Launch} {D : va_G} {cy : Nat → ClassId} {R : Room} (hR : 1 ≤ R.frames ∧ 29 ≤ R.locals) : CallOK l D cy R RX12 (.invokestatic 176) 0 0 (spS 2 SP_X12_common) := call_S (con_X12_common l D cy) (lwG_5 (i := 18) rfl rfl) (lwG_5 (i := 19) rfl rfl) (lwG_1 (i := 13) rfl rfl) (lwG_5 (i := 20) rfl rfl) ⟨by decide, by decide, rfl⟩ ⟨rfl, rfl⟩ hR
theorem fw_X12_180 : fJ RX12 180 12 23 := ⟨⟨lwG_4 (i := 87) rfl rfl, by decide, by decide⟩, rfl⟩
theorem fw_X12_184 : fJ RX12 184 12 24 := ⟨⟨lwG_4 (i := 88) rfl rfl, by decide, by decide⟩, rfl⟩
section W_X12_layLevel
variable {p : Program} {l : Launch} {e : Env} {s : State} {m : MethodId} {args : Array Value} {below : List Frame} {meth : Method} {c : Code} {D : va_G} {cy : Nat → ClassId} {G : Nat × Nat} {n0 : Nat} {Qp : Option PV → Mm → Prop}
set_option maxRecDepth 100000 in
set_option maxHeartbeats 4000000 in
theorem f_X12_layLevel_15 {o0 : Nat} {x1 : Int} {x2 : Int} {x3 : Int} {x4 : Int} {M : Mm} {Q : Mm → Prop} {K15 : Int → Prop} (C : Cx p s m args meth c cX12_layLevel 13 RX12 D cy G n0) (hr : meth.sig.returnType = none) (h3 : n0 = 243) (hn : M.2.2.2 = n0) (ho0 : o0 < 243 ∧ (SH o0).1 = 12) (hQ : ∀ M, Q M → Qp none M) (hK15 : ∀ (x4 : Int), K15 (x4) → WW p l e ({ frames := 2, cells := 0, slots := 0, locals := 60 }) s m args below meth c (ZQ below args s D cy G n0 Qp n0) 13 D cy G n0 15 [(0, vR (some o0)), (1, vI x1), (2, vI x2), (3, vI x3), (4, vI x4)] [] M) (h : F_X12_layLevel_15 o0 x1 x2 x3 M Q  K15 x4) : WW p l e ({ frames := 2, cells := 0, slots := 0, locals := 60 }) s m args below meth c (ZQ below args s D cy G n0 Qp n0) 13 D cy G n0 15 [(0, vR (some o0)), (1, vI x1), (2, vI x2), (3, vI x3), (4, vI x4)] [] M := by
  unfold F_X12_layLevel_15 at h
  refine w_aload_n C dX12_layLevel_15 rfl (mem_k 0 rfl) ?_
  refine w_iload_n C dX12_layLevel_16 rfl (mem_k 1 rfl) ?_
  refine w_iload_n C dX12_layLevel_17 rfl (mem_k 2 rfl) ?_
  refine w_iload C dX12_layLevel_18 (mem_k 4 rfl) ?_
  refine cl_X12_pushesAt (ck_X12_172 ⟨by decide, by decide⟩) C dX12_layLevel_20 hn h3 (Nat.le_of_ble_eq_true rfl) (isO.n (ci := 12) ⟨rfl, ho0⟩ (hn.trans h3)) h (fun v1 h => ?_)
  refine w_iload_n C dX12_layLevel_23 rfl (mem_k 3 rfl) ?_
  refine w_i2l C dX12_layLevel_24 ?_
  refine x_lif_ge (tgt := 35) C dX12_layLevel_25 dX12_layLevel_26 (by decide) (fun q => ?_) (fun q => ?_)
  · replace h := h.1 q
    refine w_aload_n C dX12_layLevel_35 rfl (mem_k 0 rfl) ?_
    refine w_iload_n C dX12_layLevel_36 rfl (mem_k 1 rfl) ?_
    refine w_iload_n C dX12_layLevel_37 rfl (mem_k 2 rfl) ?_
    refine w_iload C dX12_layLevel_38 (mem_k 4 rfl) ?_
    refine cl_X12_pushesAt (ck_X12_172 ⟨by decide, by decide⟩) C dX12_layLevel_40 hn h3 (Nat.le_of_ble_eq_true rfl) (isO.n (ci := 12) ⟨rfl, ho0⟩ (hn.trans h3)) h (fun v2 h => ?_)
    refine x_lstore (L' := [(5, vL v2), (0, vR (some o0)), (1, vI x1), (2, vI x2), (3, vI x3), (4, vI x4)]) C dX12_layLevel_43 (by decide) rfl ?_
    refine w_lload C dX12_layLevel_45 (mem_k 0 rfl) ?_
    refine w_aload_n C dX12_layLevel_47 rfl (mem_k 1 rfl) ?_
    refine w_iload_n C dX12_layLevel_48 rfl (mem_k 2 rfl) ?_
    refine w_iload_n C dX12_layLevel_49 rfl (mem_k 3 rfl) ?_
    refine w_iload C dX12_layLevel_50 (mem_k 5 rfl) ?_
    refine w_iconst C dX12_layLevel_52 ⟨by decide, by decide⟩ ?_
    refine w_iadd C dX12_layLevel_53 h.1 ?_
    replace h := h.2
    refine cl_X12_pushesAt (ck_X12_172 ⟨by decide, by decide⟩) C dX12_layLevel_54 hn h3 (Nat.le_of_ble_eq_true rfl) (isO.n (ci := 12) ⟨rfl, ho0⟩ (hn.trans h3)) h (fun v3 h => ?_)
    refine w_lsub C dX12_layLevel_57 h.1 ?_
    replace h := h.2
    refine x_nmL (fun v4 ev4 => ?_)
    replace h := h v4 ev4
    refine x_lstore (L' := [(7, vL v4), (5, vL v2), (0, vR (some o0)), (1, vI x1), (2, vI x2), (3, vI x3), (4, vI x4)]) C dX12_layLevel_58 (by decide) rfl ?_
    refine w_iload C dX12_layLevel_60 (mem_k 6 rfl) ?_
    refine w_i2l C dX12_layLevel_62 ?_
    refine w_lload C dX12_layLevel_63 (mem_k 0 rfl) ?_
    refine w_lmul C dX12_layLevel_65 h.1 ?_
    replace h := h.2
    refine w_lload C dX12_layLevel_66 (mem_k 1 rfl) ?_
    refine w_ladd C dX12_layLevel_68 h.1 ?_
    replace h := h.2
    refine w_iload_n C dX12_layLevel_69 rfl (mem_k 5 rfl) ?_
    refine w_i2l C dX12_layLevel_70 ?_
    refine w_lsub C dX12_layLevel_71 h.1 ?_
    replace h := h.2
    refine x_nmL (fun v5 ev5 => ?_)
    replace h := h v5 ev5
    refine x_lstore (L' := [(9, vL v5), (7, vL v4), (5, vL v2), (0, vR (some o0)), (1, vI x1), (2, vI x2), (3, vI x3), (4, vI x4)]) C dX12_layLevel_72 (by decide) rfl ?_
    refine w_lload C dX12_layLevel_74 (mem_k 0 rfl) ?_
    refine w_lload C dX12_layLevel_76 (mem_k 1 rfl) ?_
    refine cl_X12_common (ck_X12_176 ⟨by decide, by decide⟩) C dX12_layLevel_78 hn h3 (Nat.le_of_ble_eq_true rfl) h (fun v6 h => ?_)
    refine x_lstore (L' := [(11, vL v6), (9, vL v5), (7, vL v4), (5, vL v2), (0, vR (some o0)), (1, vI x1), (2, vI x2), (3, vI x3), (4, vI x4)]) C dX12_layLevel_81 (by decide) rfl ?_
    refine w_aload_n C dX12_layLevel_83 rfl (mem_k 4 rfl) ?_
    refine w_lload C dX12_layLevel_84 (mem_k 1 rfl) ?_
    refine w_lload C dX12_layLevel_86 (mem_k 0 rfl) ?_
    refine x_ldiv C dX12_layLevel_88 h.1 ?_
    replace h := h.2
    refine x_putJ C dX12_layLevel_89 fw_X12_180 (isO.n (ci := 12) ⟨rfl, ho0⟩ (hn.trans h3)) (Or.inl rfl) (fun M7 eM7 hn8 => ?_)
    replace h := h M7 eM7
    replace hn8 := hn8.trans hn
    refine w_aload_n C dX12_layLevel_92 rfl (mem_k 4 rfl) ?_
    refine w_lload C dX12_layLevel_93 (mem_k 2 rfl) ?_
    refine w_lload C dX12_layLevel_95 (mem_k 0 rfl) ?_
    refine x_ldiv C dX12_layLevel_97 h.1 ?_
    replace h := h.2
    refine x_putJ C dX12_layLevel_98 fw_X12_184 (isO.n (ci := 12) ⟨rfl, ho0⟩ (hn8.trans h3)) (Or.inl rfl) (fun M9 eM9 hn10 => ?_)
    replace h := h M9 eM9
    replace hn10 := hn10.trans hn8
    exact x_vret C hr dX12_layLevel_101 hn10 (hQ M9 h)
  · replace h := h.2 q
    obtain ⟨v11, ev11⟩ : ∃ z : Int, z = x4 + (-1) := ⟨_, rfl⟩
    refine x_iinc (L' := [(4, vI v11), (0, vR (some o0)), (1, vI x1), (2, vI x2), (3, vI x3)]) C dX12_layLevel_29 (mem_k 4 rfl) (by decide) h.1 ev11 rfl ?_
    replace h := h.2 v11 ev11
    refine w_goto (tgt := 15) C dX12_layLevel_32 (by decide) ?_
    refine x_pc (pc2 := 15) rfl ?_
    refine x_pick (L' := [(0, vR (some o0)), (1, vI x1), (2, vI x2), (3, vI x3), (4, vI v11)]) [1, 2, 3, 4, 0] rfl ?_
    exact hK15 v11 h
set_option maxRecDepth 100000 in
set_option maxHeartbeats 4000000 in
theorem k_X12_layLevel_15 {o0 : Nat} {x1 : Int} {x2 : Int} {x3 : Int} {x4 : Int} {M : Mm} {Q : Mm → Prop} (C : Cx p s m args meth c cX12_layLevel 13 RX12 D cy G n0) (hr : meth.sig.returnType = none) (h3 : n0 = 243) (hn : M.2.2.2 = n0) (ho0 : o0 < 243 ∧ (SH o0).1 = 12) (hQ : ∀ M, Q M → Qp none M) (h : P_X12_layLevel_15 o0 x1 x2 x3 x4 M Q ) : WW p l e ({ frames := 2, cells := 0, slots := 0, locals := 60 }) s m args below meth c (ZQ below args s D cy G n0 Qp n0) 13 D cy G n0 15 [(0, vR (some o0)), (1, vI x1), (2, vI x2), (3, vI x3), (4, vI x4)] [] M := by
  refine lpW_sound (P := fun y : Int => WW p l e ({ frames := 2, cells := 0, slots := 0, locals := 60 }) s m args below meth c (ZQ below args s D cy G n0 Qp n0) 13 D cy G n0 15 [(0, vR (some o0)), (1, vI x1), (2, vI x2), (3, vI x3), (4, vI y)] [] M) ?_ h
  intro K y hK hF
  exact f_X12_layLevel_15 C hr h3 hn ho0 hQ  (fun x4 hk => hK x4 hk) hF
set_option maxRecDepth 100000 in
set_option maxHeartbeats 4000000 in
theorem k_X12_layLevel_0 {o0 : Nat} {x1 : Int} {x2 : Int} {M : Mm} {Q : Mm → Prop} (C : Cx p s m args meth c cX12_layLevel 13 RX12 D cy G n0) (hr : meth.sig.returnType = none) (h3 : n0 = 243) (hn : M.2.2.2 = n0) (ho0 : o0 < 243 ∧ (SH o0).1 = 12) (hQ : ∀ M, Q M → Qp none M) (h : P_X12_layLevel o0 x1 x2 M Q ) : WW p l e ({ frames := 2, cells := 0, slots := 0, locals := 60 }) s m args below meth c (ZQ below args s D cy G n0 Qp n0) 13 D cy G n0 0 [(0, vR (some o0)), (1, vI x1), (2, vI x2)] [] M := by
  unfold P_X12_layLevel at h
  refine w_aload_n C dX12_layLevel_0 rfl (mem_k 0 rfl) ?_
  refine x_getR C dX12_layLevel_1 fw_X12_43 (isO.n (ci := 12) ⟨rfl, ho0⟩ (hn.trans h3)) (fun r12 er12 => ?_)
  replace h := h r12 er12
  refine w_bipush C dX12_layLevel_4 (by decide) ?_
  refine w_iload_n C dX12_layLevel_6 rfl (mem_k 1 rfl) ?_
  refine w_imul C dX12_layLevel_7 h.1 ?_
  replace h := h.2
  obtain ⟨o13, g14, h⟩ := h
  refine x_iald C dX12_layLevel_8 (isA.n g14 (hn.trans h3)) ?_
  refine x_nmI (fun v15 ev15 => ?_)
  replace h := h v15 ev15
  refine x_istore_n (L' := [(3, vI v15), (0, vR (some o0)), (1, vI x1), (2, vI x2)]) C dX12_layLevel_9 rfl (by decide) rfl ?_
  refine w_sipush C dX12_layLevel_10 (by decide) ?_
  refine x_istore (L' := [(4, vI 300), (3, vI v15), (0, vR (some o0)), (1, vI x1), (2, vI x2)]) C dX12_layLevel_13 (by decide) rfl ?_
  refine x_pc (pc2 := 15) rfl ?_
  refine x_pick (L' := [(0, vR (some o0)), (1, vI x1), (2, vI x2), (3, vI v15), (4, vI 300)]) [2, 3, 4, 1, 0] rfl ?_
  exact k_X12_layLevel_15 C hr h3 hn ho0 hQ  h
set_option maxRecDepth 100000 in
set_option maxHeartbeats 4000000 in
theorem con_X12_layLevel (l : Launch) (D : va_G) (cy : Nat → ClassId) : Con l D cy yX12_layLevel cX12_layLevel 13 (none) ({ frames := 2, cells := 0, slots := 0, locals := 60 }) 0 0 SP_X12_layLevel := by
  refine con_of (by decide) (fun as M Qp h => ?_) ?_
  · obtain ⟨-, o0, x1, x2, rfl, -⟩ := h
    exact Nat.le_of_ble_eq_true rfl
  · intro p e s m args below meth c G as M Qp h C hr hnm
    obtain ⟨hn, o0, x1, x2, rfl, ho1, ho2, Q0, hQ, h⟩ := h
    refine x_pick (L' := [(0, vR (some o0)), (1, vI x1), (2, vI x2)]) [0, 1, 2] rfl ?_
    exact k_X12_layLevel_0 C hr hn rfl ⟨ho1, ho2⟩ hQ h
set_option maxRecDepth 100000 in
set_option maxHeartbeats 4000000 in
theorem cl_X12_layLevel {p : Program} {l : Launch} {e : Env} {R : Room} {s : State} {m : MethodId} {args : Array Value} {below : List Frame} {meth : Method} {c : Code} {Q : State → Prop} {cc : ByteArray} {nL : Nat} {own : String} {D : va_G} {cy : Nat → ClassId} {G : Nat × Nat} {n0 pc : Nat} {L : List (Nat × PV)} {st : List PV} {M : Mm} {op : Instr} (K : CallOK l D cy R own op 0 0 (spV 12 2 SP_X12_layLevel)) (C : Cx p s m args meth c cc nL own D cy G n0) (hd : decode cc pc = .ok (op, 3)) (hn : M.2.2.2 = n0) (h3 : n0 = 243) (hlen : argN st ≤ 8) {r : Option Nat} {o0 : Nat} (ho : isOn 12 M.2.2.2 r o0) {x1 : Int} {x2 : Int} {Q0 : Mm → Prop} (h : P_X12_layLevel o0 x1 x2 M Q0) (k : ∀ M2, Q0 M2 → M2.2.2.2 = n0 → WW p l e R s m args below meth c Q nL D cy G n0  (pc + 3) L (st) M2) : WW p l e R s m args below meth c Q nL D cy G n0  pc L (vI x2 :: vI x1 :: vR r :: st) M := by
  obtain ⟨rfl, ho1, ho2⟩ := ho
  refine x_call0 K C hd (as := [vR (some o0), vI x1, vI x2]) rfl hn hlen (fun v M2 => v = none ∧ Q0 M2) ⟨⟨o0, [vI x1, vI x2], rfl, rfl, ho1, ho2⟩, hn.trans h3, o0, x1, x2, rfl, (hn.trans h3) ▸ ho1, ho2, Q0, fun M2 hx => ⟨rfl, hx⟩, h⟩ ?_
  rintro _ _ ⟨rfl, hx⟩ hm
  exact k _ hx hm
end W_X12_layLevel
theorem dX12_level_0 : decode cX12_level 0 = .ok (.aload_n 0, 1) := by decide +kernel
theorem dX12_level_1 : decode cX12_level 1 = .ok (.iload_n 1, 1) := by decide +kernel
theorem dX12_level_2 : decode cX12_level 2 = .ok (.invokevirtual 155, 3) := by decide +kernel
theorem dX12_level_5 : decode cX12_level 5 = .ok (.ifCond .eq 21, 3) := by decide +kernel
theorem dX12_level_8 : decode cX12_level 8 = .ok (.aload_n 0, 1) := by decide +kernel
theorem dX12_level_9 : decode cX12_level 9 = .ok (.iload_n 2, 1) := by decide +kernel
theorem dX12_level_10 : decode cX12_level 10 = .ok (.invokevirtual 152, 3) := by decide +kernel
theorem dX12_level_13 : decode cX12_level 13 = .ok (.ifCond .eq 13, 3) := by decide +kernel
theorem dX12_level_16 : decode cX12_level 16 = .ok (.iload_n 3, 1) := by decide +kernel
theorem dX12_level_17 : decode cX12_level 17 = .ok (.i2l, 1) := by decide +kernel
theorem dX12_level_18 : decode cX12_level 18 = .ok (.lconst 0, 1) := by decide +kernel
theorem dX12_level_19 : decode cX12_level 19 = .ok (.lconst 1, 1) := by decide +kernel
theorem dX12_level_20 : decode cX12_level 20 = .ok (.invokestatic 85, 3) := by decide +kernel
theorem dX12_level_23 : decode cX12_level 23 = .ok (.ifCond .ne 6, 3) := by decide +kernel
theorem dX12_level_26 : decode cX12_level 26 = .ok (.ldc 187, 2) := by decide +kernel
theorem dX12_level_28 : decode cX12_level 28 = .ok (.ireturn, 1) := by decide +kernel
theorem dX12_level_29 : decode cX12_level 29 = .ok (.aload_n 0, 1) := by decide +kernel
theorem dX12_level_30 : decode cX12_level 30 = .ok (.iload_n 1, 1) := by decide +kernel
theorem dX12_level_31 : decode cX12_level 31 = .ok (.iload_n 2, 1) := by decide +kernel
theorem dX12_level_32 : decode cX12_level 32 = .ok (.invokevirtual 188, 3) := by decide +kernel
theorem dX12_level_35 : decode cX12_level 35 = .ok (.iload_n 3, 1) := by decide +kernel
theorem dX12_level_36 : decode cX12_level 36 = .ok (.ifCond .ne 10, 3) := by decide +kernel
theorem dX12_level_39 : decode cX12_level 39 = .ok (.aload_n 0, 1) := by decide +kernel
theorem dX12_level_40 : decode cX12_level 40 = .ok (.getfield 180, 3) := by decide +kernel
theorem dX12_level_43 : decode cX12_level 43 = .ok (.goto 7, 3) := by decide +kernel
theorem dX12_level_46 : decode cX12_level 46 = .ok (.aload_n 0, 1) := by decide +kernel
theorem dX12_level_47 : decode cX12_level 47 = .ok (.getfield 184, 3) := by decide +kernel
theorem dX12_level_50 : decode cX12_level 50 = .ok (.l2i, 1) := by decide +kernel
theorem dX12_level_51 : decode cX12_level 51 = .ok (.ireturn, 1) := by decide +kernel
theorem cn_X12_187 : Cond.constant RX12 187 (Int32.ofInt (-1000000000)) ∈ lwG := lwG_4 (i := 237) rfl rfl
theorem ck_X12_188 {l : Launch} {D : va_G} {cy : Nat → ClassId} {R : Room} (hR : 3 ≤ R.frames ∧ 92 ≤ R.locals) : CallOK l D cy R RX12 (.invokevirtual 188) 0 0 (spV 12 2 SP_X12_layLevel) := call_V (ci := 12) (con_X12_layLevel l D cy) (lwG_4 (i := 238) rfl rfl) (lwG_5 (i := 0) rfl rfl) (lwG_p (i := 23) rfl rfl) (lwG_1 (i := 13) rfl rfl) (lwG_5 (i := 1) rfl rfl) (by decide) ⟨rfl, by decide, by decide, rfl⟩ ⟨rfl, rfl⟩ hR
section W_X12_level
variable {p : Program} {l : Launch} {e : Env} {s : State} {m : MethodId} {args : Array Value} {below : List Frame} {meth : Method} {c : Code} {D : va_G} {cy : Nat → ClassId} {G : Nat × Nat} {n0 : Nat} {Qp : Option PV → Mm → Prop}
set_option maxRecDepth 100000 in
set_option maxHeartbeats 4000000 in
theorem k_X12_level_0 {o0 : Nat} {x1 : Int} {x2 : Int} {x3 : Int} {M : Mm} {Q : Int → Mm → Prop} (C : Cx p s m args meth c cX12_level 4 RX12 D cy G n0) (hr : meth.sig.returnType = some .int) (h3 : n0 = 243) (hn : M.2.2.2 = n0) (ho0 : o0 < 243 ∧ (SH o0).1 = 12) (hQ : ∀ x M, Q x M → Qp (some (vI x)) M) (h : P_X12_level o0 x1 x2 x3 M Q ) : WW p l e ({ frames := 3, cells := 0, slots := 0, locals := 92 }) s m args below meth c (ZQ below args s D cy G n0 Qp n0) 4 D cy G n0 0 [(0, vR (some o0)), (1, vI x1), (2, vI x2), (3, vI x3)] [] M := by
  unfold P_X12_level at h
  refine w_aload_n C dX12_level_0 rfl (mem_k 0 rfl) ?_
  refine w_iload_n C dX12_level_1 rfl (mem_k 1 rfl) ?_
  refine cl_X12_isBody (ck_X12_155 ⟨by decide, by decide⟩) C dX12_level_2 hn h3 (Nat.le_of_ble_eq_true rfl) (isO.n (ci := 12) ⟨rfl, ho0⟩ (hn.trans h3)) h (fun v1 h => ?_)
  refine w_if_eq (tgt := 26) C dX12_level_5 (by decide) (fun q => ?_) (fun q => ?_)
  · replace h := h.1 q
    refine w_ldc (x := (-1000000000)) C dX12_level_26 cn_X12_187 ⟨by decide, by decide⟩ ?_
    exact x_iret C hr dX12_level_28 hn (hQ _ M h)
  · replace h := h.2 q
    refine w_aload_n C dX12_level_8 rfl (mem_k 0 rfl) ?_
    refine w_iload_n C dX12_level_9 rfl (mem_k 2 rfl) ?_
    refine cl_X12_isSeat (ck_X12_152 ⟨by decide, by decide⟩) C dX12_level_10 hn h3 (Nat.le_of_ble_eq_true rfl) (isO.n (ci := 12) ⟨rfl, ho0⟩ (hn.trans h3)) h (fun v2 h => ?_)
    refine w_if_eq (tgt := 26) C dX12_level_13 (by decide) (fun q => ?_) (fun q => ?_)
    · replace h := h.1 q
      refine w_ldc (x := (-1000000000)) C dX12_level_26 cn_X12_187 ⟨by decide, by decide⟩ ?_
      exact x_iret C hr dX12_level_28 hn (hQ _ M h)
    · replace h := h.2 q
      refine w_iload_n C dX12_level_16 rfl (mem_k 3 rfl) ?_
      refine w_i2l C dX12_level_17 ?_
      refine w_lconst C dX12_level_18 ?_
      refine w_lconst C dX12_level_19 ?_
      refine cl_X12_in (ck_X12_85 ⟨by decide, by decide⟩) C dX12_level_20 hn h3 (Nat.le_of_ble_eq_true rfl) h (fun v3 h => ?_)
      refine w_if_ne (tgt := 29) C dX12_level_23 (by decide) (fun q => ?_) (fun q => ?_)
      · replace h := h.1 q
        refine w_aload_n C dX12_level_29 rfl (mem_k 0 rfl) ?_
        refine w_iload_n C dX12_level_30 rfl (mem_k 1 rfl) ?_
        refine w_iload_n C dX12_level_31 rfl (mem_k 2 rfl) ?_
        refine cl_X12_layLevel (ck_X12_188 ⟨by decide, by decide⟩) C dX12_level_32 hn h3 (Nat.le_of_ble_eq_true rfl) (isO.n (ci := 12) ⟨rfl, ho0⟩ (hn.trans h3)) h (fun M4 h hn5 => ?_)
        refine w_iload_n C dX12_level_35 rfl (mem_k 3 rfl) ?_
        refine w_if_ne (tgt := 46) C dX12_level_36 (by decide) (fun q => ?_) (fun q => ?_)
        · replace h := h.1 q
          refine w_aload_n C dX12_level_46 rfl (mem_k 0 rfl) ?_
          refine x_getJ C dX12_level_47 fw_X12_184 (isO.n (ci := 12) ⟨rfl, ho0⟩ (hn5.trans h3)) ?_
          refine w_l2i C dX12_level_50 ?_
          exact x_iret C hr dX12_level_51 hn5 (hQ _ M4 h)
        · replace h := h.2 q
          refine w_aload_n C dX12_level_39 rfl (mem_k 0 rfl) ?_
          refine x_getJ C dX12_level_40 fw_X12_180 (isO.n (ci := 12) ⟨rfl, ho0⟩ (hn5.trans h3)) ?_
          refine w_goto (tgt := 50) C dX12_level_43 (by decide) ?_
          refine w_l2i C dX12_level_50 ?_
          exact x_iret C hr dX12_level_51 hn5 (hQ _ M4 h)
      · replace h := h.2 q
        refine w_ldc (x := (-1000000000)) C dX12_level_26 cn_X12_187 ⟨by decide, by decide⟩ ?_
        exact x_iret C hr dX12_level_28 hn (hQ _ M h)
set_option maxRecDepth 100000 in
set_option maxHeartbeats 4000000 in
theorem con_X12_level (l : Launch) (D : va_G) (cy : Nat → ClassId) : Con l D cy yX12_level cX12_level 4 (some .int) ({ frames := 3, cells := 0, slots := 0, locals := 92 }) 0 0 SP_X12_level := by
  refine con_of (by decide) (fun as M Qp h => ?_) ?_
  · obtain ⟨-, o0, x1, x2, x3, rfl, -⟩ := h
    exact Nat.le_of_ble_eq_true rfl
  · intro p e s m args below meth c G as M Qp h C hr hnm
    obtain ⟨hn, o0, x1, x2, x3, rfl, ho1, ho2, Q0, hQ, h⟩ := h
    refine x_pick (L' := [(0, vR (some o0)), (1, vI x1), (2, vI x2), (3, vI x3)]) [0, 1, 2, 3] rfl ?_
    exact k_X12_level_0 C hr hn rfl ⟨ho1, ho2⟩ hQ h
set_option maxRecDepth 100000 in
set_option maxHeartbeats 4000000 in
theorem cl_X12_level {p : Program} {l : Launch} {e : Env} {R : Room} {s : State} {m : MethodId} {args : Array Value} {below : List Frame} {meth : Method} {c : Code} {Q : State → Prop} {cc : ByteArray} {nL : Nat} {own : String} {D : va_G} {cy : Nat → ClassId} {G : Nat × Nat} {n0 pc : Nat} {L : List (Nat × PV)} {st : List PV} {M : Mm} {op : Instr} (K : CallOK l D cy R own op 0 0 (spV 12 3 SP_X12_level)) (C : Cx p s m args meth c cc nL own D cy G n0) (hd : decode cc pc = .ok (op, 3)) (hn : M.2.2.2 = n0) (h3 : n0 = 243) (hlen : argN st ≤ 8) {r : Option Nat} {o0 : Nat} (ho : isOn 12 M.2.2.2 r o0) {x1 : Int} {x2 : Int} {x3 : Int} {Q0 : Int → Mm → Prop} (h : P_X12_level o0 x1 x2 x3 M Q0) (k : ∀ x M2, Q0 x M2 → M2.2.2.2 = n0 → WW p l e R s m args below meth c Q nL D cy G n0  (pc + 3) L (vI x :: st) M2) : WW p l e R s m args below meth c Q nL D cy G n0  pc L (vI x3 :: vI x2 :: vI x1 :: vR r :: st) M := by
  obtain ⟨rfl, ho1, ho2⟩ := ho
  refine x_call0 K C hd (as := [vR (some o0), vI x1, vI x2, vI x3]) rfl hn hlen (fun v M2 => ∃ x, v = some (vI x) ∧ Q0 x M2) ⟨⟨o0, [vI x1, vI x2, vI x3], rfl, rfl, ho1, ho2⟩, hn.trans h3, o0, x1, x2, x3, rfl, (hn.trans h3) ▸ ho1, ho2, Q0, fun x M2 hx => ⟨x, rfl, hx⟩, h⟩ ?_
  rintro _ _ ⟨x, rfl, hx⟩ hm
  exact k x _ hx hm
end W_X12_level
theorem dX12_squeezed_0 : decode cX12_squeezed 0 = .ok (.aload_n 0, 1) := by decide +kernel
theorem dX12_squeezed_1 : decode cX12_squeezed 1 = .ok (.iload_n 1, 1) := by decide +kernel
theorem dX12_squeezed_2 : decode cX12_squeezed 2 = .ok (.iload_n 2, 1) := by decide +kernel
theorem dX12_squeezed_3 : decode cX12_squeezed 3 = .ok (.iload_n 3, 1) := by decide +kernel
theorem dX12_squeezed_4 : decode cX12_squeezed 4 = .ok (.invokevirtual 164, 3) := by decide +kernel
theorem dX12_squeezed_7 : decode cX12_squeezed 7 = .ok (.i2l, 1) := by decide +kernel
theorem dX12_squeezed_8 : decode cX12_squeezed 8 = .ok (.aload_n 0, 1) := by decide +kernel
theorem dX12_squeezed_9 : decode cX12_squeezed 9 = .ok (.getfield 184, 3) := by decide +kernel
theorem dX12_squeezed_12 : decode cX12_squeezed 12 = .ok (.lmul, 1) := by decide +kernel
theorem dX12_squeezed_13 : decode cX12_squeezed 13 = .ok (.aload_n 0, 1) := by decide +kernel
theorem dX12_squeezed_14 : decode cX12_squeezed 14 = .ok (.getfield 180, 3) := by decide +kernel
theorem dX12_squeezed_17 : decode cX12_squeezed 17 = .ok (.lsub, 1) := by decide +kernel
theorem dX12_squeezed_18 : decode cX12_squeezed 18 = .ok (.lreturn, 1) := by decide +kernel
section W_X12_squeezed
variable {p : Program} {l : Launch} {e : Env} {s : State} {m : MethodId} {args : Array Value} {below : List Frame} {meth : Method} {c : Code} {D : va_G} {cy : Nat → ClassId} {G : Nat × Nat} {n0 : Nat} {Qp : Option PV → Mm → Prop}
set_option maxRecDepth 100000 in
set_option maxHeartbeats 4000000 in
theorem k_X12_squeezed_0 {o0 : Nat} {x1 : Int} {x2 : Int} {x3 : Int} {M : Mm} {Q : Int → Prop} (C : Cx p s m args meth c cX12_squeezed 4 RX12 D cy G n0) (hr : meth.sig.returnType = some .long) (h3 : n0 = 243) (hn : M.2.2.2 = n0) (ho0 : o0 < 243 ∧ (SH o0).1 = 12) (hQ : ∀ x, Q x → Qp (some (vL x)) M) (h : P_X12_squeezed o0 x1 x2 x3 M Q ) : WW p l e ({ frames := 1, cells := 0, slots := 0, locals := 23 }) s m args below meth c (ZQ below args s D cy G n0 Qp n0) 4 D cy G n0 0 [(0, vR (some o0)), (1, vI x1), (2, vI x2), (3, vI x3)] [] M := by
  unfold P_X12_squeezed at h
  refine w_aload_n C dX12_squeezed_0 rfl (mem_k 0 rfl) ?_
  refine w_iload_n C dX12_squeezed_1 rfl (mem_k 1 rfl) ?_
  refine w_iload_n C dX12_squeezed_2 rfl (mem_k 2 rfl) ?_
  refine w_iload_n C dX12_squeezed_3 rfl (mem_k 3 rfl) ?_
  refine cl_X12_touchOf (ck_X12_164 ⟨by decide, by decide⟩) C dX12_squeezed_4 hn h3 (Nat.le_of_ble_eq_true rfl) (isO.n (ci := 12) ⟨rfl, ho0⟩ (hn.trans h3)) h (fun v1 h => ?_)
  refine w_i2l C dX12_squeezed_7 ?_
  refine w_aload_n C dX12_squeezed_8 rfl (mem_k 0 rfl) ?_
  refine x_getJ C dX12_squeezed_9 fw_X12_184 (isO.n (ci := 12) ⟨rfl, ho0⟩ (hn.trans h3)) ?_
  refine w_lmul C dX12_squeezed_12 h.1 ?_
  replace h := h.2
  refine w_aload_n C dX12_squeezed_13 rfl (mem_k 0 rfl) ?_
  refine x_getJ C dX12_squeezed_14 fw_X12_180 (isO.n (ci := 12) ⟨rfl, ho0⟩ (hn.trans h3)) ?_
  refine w_lsub C dX12_squeezed_17 h.1 ?_
  replace h := h.2
  exact x_lret C hr dX12_squeezed_18 hn (hQ _ h)
set_option maxRecDepth 100000 in
set_option maxHeartbeats 4000000 in
theorem con_X12_squeezed (l : Launch) (D : va_G) (cy : Nat → ClassId) : Con l D cy yX12_squeezed cX12_squeezed 4 (some .long) ({ frames := 1, cells := 0, slots := 0, locals := 23 }) 0 0 SP_X12_squeezed := by
  refine con_of (by decide) (fun as M Qp h => ?_) ?_
  · obtain ⟨-, o0, x1, x2, x3, rfl, -⟩ := h
    exact Nat.le_of_ble_eq_true rfl
  · intro p e s m args below meth c G as M Qp h C hr hnm
    obtain ⟨hn, o0, x1, x2, x3, rfl, ho1, ho2, Q0, hQ, h⟩ := h
    refine x_pick (L' := [(0, vR (some o0)), (1, vI x1), (2, vI x2), (3, vI x3)]) [0, 1, 2, 3] rfl ?_
    exact k_X12_squeezed_0 C hr hn rfl ⟨ho1, ho2⟩ hQ h
set_option maxRecDepth 100000 in
set_option maxHeartbeats 4000000 in
theorem cl_X12_squeezed {p : Program} {l : Launch} {e : Env} {R : Room} {s : State} {m : MethodId} {args : Array Value} {below : List Frame} {meth : Method} {c : Code} {Q : State → Prop} {cc : ByteArray} {nL : Nat} {own : String} {D : va_G} {cy : Nat → ClassId} {G : Nat × Nat} {n0 pc : Nat} {L : List (Nat × PV)} {st : List PV} {M : Mm} {op : Instr} (K : CallOK l D cy R own op 0 0 (spV 12 3 SP_X12_squeezed)) (C : Cx p s m args meth c cc nL own D cy G n0) (hd : decode cc pc = .ok (op, 3)) (hn : M.2.2.2 = n0) (h3 : n0 = 243) (hlen : argN st ≤ 8) {r : Option Nat} {o0 : Nat} (ho : isOn 12 M.2.2.2 r o0) {x1 : Int} {x2 : Int} {x3 : Int} {Q0 : Int → Prop} (h : P_X12_squeezed o0 x1 x2 x3 M Q0) (k : ∀ x, Q0 x → WW p l e R s m args below meth c Q nL D cy G n0  (pc + 3) L (vL x :: st) M) : WW p l e R s m args below meth c Q nL D cy G n0  pc L (vI x3 :: vI x2 :: vI x1 :: vR r :: st) M := by
  obtain ⟨rfl, ho1, ho2⟩ := ho
  refine x_call0 K C hd (as := [vR (some o0), vI x1, vI x2, vI x3]) rfl hn hlen (fun v M2 => ∃ x, v = some (vL x) ∧ M2 = M ∧ Q0 x) ⟨⟨o0, [vI x1, vI x2, vI x3], rfl, rfl, ho1, ho2⟩, hn.trans h3, o0, x1, x2, x3, rfl, (hn.trans h3) ▸ ho1, ho2, Q0, fun x hx => ⟨x, rfl, rfl, hx⟩, h⟩ ?_
  rintro _ _ ⟨x, rfl, rfl, hx⟩ hm
  exact k x hx
end W_X12_squeezed
theorem dX12_pushOf_0 : decode cX12_pushOf 0 = .ok (.aload_n 0, 1) := by decide +kernel
theorem dX12_pushOf_1 : decode cX12_pushOf 1 = .ok (.aload_n 0, 1) := by decide +kernel
theorem dX12_pushOf_2 : decode cX12_pushOf 2 = .ok (.iload_n 2, 1) := by decide +kernel
theorem dX12_pushOf_3 : decode cX12_pushOf 3 = .ok (.iload_n 3, 1) := by decide +kernel
theorem dX12_pushOf_4 : decode cX12_pushOf 4 = .ok (.invokevirtual 160, 3) := by decide +kernel
theorem dX12_pushOf_7 : decode cX12_pushOf 7 = .ok (.aload_n 0, 1) := by decide +kernel
theorem dX12_pushOf_8 : decode cX12_pushOf 8 = .ok (.iload_n 1, 1) := by decide +kernel
theorem dX12_pushOf_9 : decode cX12_pushOf 9 = .ok (.iload_n 2, 1) := by decide +kernel
theorem dX12_pushOf_10 : decode cX12_pushOf 10 = .ok (.iload_n 3, 1) := by decide +kernel
theorem dX12_pushOf_11 : decode cX12_pushOf 11 = .ok (.invokevirtual 192, 3) := by decide +kernel
theorem dX12_pushOf_14 : decode cX12_pushOf 14 = .ok (.aload_n 0, 1) := by decide +kernel
theorem dX12_pushOf_15 : decode cX12_pushOf 15 = .ok (.getfield 184, 3) := by decide +kernel
theorem dX12_pushOf_18 : decode cX12_pushOf 18 = .ok (.invokevirtual 168, 3) := by decide +kernel
theorem dX12_pushOf_21 : decode cX12_pushOf 21 = .ok (.lreturn, 1) := by decide +kernel
theorem ck_X12_192 {l : Launch} {D : va_G} {cy : Nat → ClassId} {R : Room} (hR : 2 ≤ R.frames ∧ 46 ≤ R.locals) : CallOK l D cy R RX12 (.invokevirtual 192) 0 0 (spV 12 3 SP_X12_squeezed) := call_V (ci := 12) (con_X12_squeezed l D cy) (lwG_5 (i := 33) rfl rfl) (lwG_5 (i := 35) rfl rfl) (lwG_p (i := 30) rfl rfl) (lwG_1 (i := 13) rfl rfl) (lwG_5 (i := 36) rfl rfl) (by decide) ⟨rfl, by decide, by decide, rfl⟩ ⟨rfl, rfl⟩ hR
section W_X12_pushOf
variable {p : Program} {l : Launch} {e : Env} {s : State} {m : MethodId} {args : Array Value} {below : List Frame} {meth : Method} {c : Code} {D : va_G} {cy : Nat → ClassId} {G : Nat × Nat} {n0 : Nat} {Qp : Option PV → Mm → Prop}
set_option maxRecDepth 100000 in
set_option maxHeartbeats 4000000 in
theorem k_X12_pushOf_0 {o0 : Nat} {x1 : Int} {x2 : Int} {x3 : Int} {M : Mm} {Q : Int → Prop} (C : Cx p s m args meth c cX12_pushOf 4 RX12 D cy G n0) (hr : meth.sig.returnType = some .long) (h3 : n0 = 243) (hn : M.2.2.2 = n0) (ho0 : o0 < 243 ∧ (SH o0).1 = 12) (hQ : ∀ x, Q x → Qp (some (vL x)) M) (h : P_X12_pushOf o0 x1 x2 x3 M Q ) : WW p l e ({ frames := 2, cells := 0, slots := 0, locals := 46 }) s m args below meth c (ZQ below args s D cy G n0 Qp n0) 4 D cy G n0 0 [(0, vR (some o0)), (1, vI x1), (2, vI x2), (3, vI x3)] [] M := by
  unfold P_X12_pushOf at h
  refine w_aload_n C dX12_pushOf_0 rfl (mem_k 0 rfl) ?_
  refine w_aload_n C dX12_pushOf_1 rfl (mem_k 0 rfl) ?_
  refine w_iload_n C dX12_pushOf_2 rfl (mem_k 2 rfl) ?_
  refine w_iload_n C dX12_pushOf_3 rfl (mem_k 3 rfl) ?_
  refine cl_X12_layerOf (ck_X12_160 ⟨by decide, by decide⟩) C dX12_pushOf_4 hn h3 (Nat.le_of_ble_eq_true rfl) (isO.n (ci := 12) ⟨rfl, ho0⟩ (hn.trans h3)) h (fun v1 h => ?_)
  refine w_aload_n C dX12_pushOf_7 rfl (mem_k 0 rfl) ?_
  refine w_iload_n C dX12_pushOf_8 rfl (mem_k 1 rfl) ?_
  refine w_iload_n C dX12_pushOf_9 rfl (mem_k 2 rfl) ?_
  refine w_iload_n C dX12_pushOf_10 rfl (mem_k 3 rfl) ?_
  refine cl_X12_squeezed (ck_X12_192 ⟨by decide, by decide⟩) C dX12_pushOf_11 hn h3 (Nat.le_of_ble_eq_true rfl) (isO.n (ci := 12) ⟨rfl, ho0⟩ (hn.trans h3)) h (fun v2 h => ?_)
  refine w_aload_n C dX12_pushOf_14 rfl (mem_k 0 rfl) ?_
  refine x_getJ C dX12_pushOf_15 fw_X12_184 (isO.n (ci := 12) ⟨rfl, ho0⟩ (hn.trans h3)) ?_
  refine cl_X12_pushBy (ck_X12_168 ⟨by decide, by decide⟩) C dX12_pushOf_18 hn h3 (Nat.le_of_ble_eq_true rfl) (isO.n (ci := 12) ⟨rfl, ho0⟩ (hn.trans h3)) h (fun v3 h => ?_)
  exact x_lret C hr dX12_pushOf_21 hn (hQ _ h)
set_option maxRecDepth 100000 in
set_option maxHeartbeats 4000000 in
theorem con_X12_pushOf (l : Launch) (D : va_G) (cy : Nat → ClassId) : Con l D cy yX12_pushOf cX12_pushOf 4 (some .long) ({ frames := 2, cells := 0, slots := 0, locals := 46 }) 0 0 SP_X12_pushOf := by
  refine con_of (by decide) (fun as M Qp h => ?_) ?_
  · obtain ⟨-, o0, x1, x2, x3, rfl, -⟩ := h
    exact Nat.le_of_ble_eq_true rfl
  · intro p e s m args below meth c G as M Qp h C hr hnm
    obtain ⟨hn, o0, x1, x2, x3, rfl, ho1, ho2, Q0, hQ, h⟩ := h
    refine x_pick (L' := [(0, vR (some o0)), (1, vI x1), (2, vI x2), (3, vI x3)]) [0, 1, 2, 3] rfl ?_
    exact k_X12_pushOf_0 C hr hn rfl ⟨ho1, ho2⟩ hQ h
set_option maxRecDepth 100000 in
set_option maxHeartbeats 4000000 in
theorem cl_X12_pushOf {p : Program} {l : Launch} {e : Env} {R : Room} {s : State} {m : MethodId} {args : Array Value} {below : List Frame} {meth : Method} {c : Code} {Q : State → Prop} {cc : ByteArray} {nL : Nat} {own : String} {D : va_G} {cy : Nat → ClassId} {G : Nat × Nat} {n0 pc : Nat} {L : List (Nat × PV)} {st : List PV} {M : Mm} {op : Instr} (K : CallOK l D cy R own op 0 0 (spV 12 3 SP_X12_pushOf)) (C : Cx p s m args meth c cc nL own D cy G n0) (hd : decode cc pc = .ok (op, 3)) (hn : M.2.2.2 = n0) (h3 : n0 = 243) (hlen : argN st ≤ 8) {r : Option Nat} {o0 : Nat} (ho : isOn 12 M.2.2.2 r o0) {x1 : Int} {x2 : Int} {x3 : Int} {Q0 : Int → Prop} (h : P_X12_pushOf o0 x1 x2 x3 M Q0) (k : ∀ x, Q0 x → WW p l e R s m args below meth c Q nL D cy G n0  (pc + 3) L (vL x :: st) M) : WW p l e R s m args below meth c Q nL D cy G n0  pc L (vI x3 :: vI x2 :: vI x1 :: vR r :: st) M := by
  obtain ⟨rfl, ho1, ho2⟩ := ho
  refine x_call0 K C hd (as := [vR (some o0), vI x1, vI x2, vI x3]) rfl hn hlen (fun v M2 => ∃ x, v = some (vL x) ∧ M2 = M ∧ Q0 x) ⟨⟨o0, [vI x1, vI x2, vI x3], rfl, rfl, ho1, ho2⟩, hn.trans h3, o0, x1, x2, x3, rfl, (hn.trans h3) ▸ ho1, ho2, Q0, fun x hx => ⟨x, rfl, rfl, hx⟩, h⟩ ?_
  rintro _ _ ⟨x, rfl, rfl, hx⟩ hm
  exact k x hx
end W_X12_pushOf
theorem dX12_push_0 : decode cX12_push 0 = .ok (.aload_n 0, 1) := by decide +kernel
theorem dX12_push_1 : decode cX12_push 1 = .ok (.iload_n 1, 1) := by decide +kernel
theorem dX12_push_2 : decode cX12_push 2 = .ok (.invokevirtual 155, 3) := by decide +kernel
theorem dX12_push_5 : decode cX12_push 5 = .ok (.ifCond .eq 23, 3) := by decide +kernel
theorem dX12_push_8 : decode cX12_push 8 = .ok (.aload_n 0, 1) := by decide +kernel
theorem dX12_push_9 : decode cX12_push 9 = .ok (.iload_n 2, 1) := by decide +kernel
theorem dX12_push_10 : decode cX12_push 10 = .ok (.iload_n 3, 1) := by decide +kernel
theorem dX12_push_11 : decode cX12_push 11 = .ok (.invokevirtual 195, 3) := by decide +kernel
theorem dX12_push_14 : decode cX12_push 14 = .ok (.ifCond .eq 14, 3) := by decide +kernel
theorem dX12_push_17 : decode cX12_push 17 = .ok (.iload 4, 2) := by decide +kernel
theorem dX12_push_19 : decode cX12_push 19 = .ok (.i2l, 1) := by decide +kernel
theorem dX12_push_20 : decode cX12_push 20 = .ok (.lconst 0, 1) := by decide +kernel
theorem dX12_push_21 : decode cX12_push 21 = .ok (.lconst 1, 1) := by decide +kernel
theorem dX12_push_22 : decode cX12_push 22 = .ok (.invokestatic 85, 3) := by decide +kernel
theorem dX12_push_25 : decode cX12_push 25 = .ok (.ifCond .ne 5, 3) := by decide +kernel
theorem dX12_push_28 : decode cX12_push 28 = .ok (.iconst (-1), 1) := by decide +kernel
theorem dX12_push_29 : decode cX12_push 29 = .ok (.ireturn, 1) := by decide +kernel
theorem dX12_push_30 : decode cX12_push 30 = .ok (.aload_n 0, 1) := by decide +kernel
theorem dX12_push_31 : decode cX12_push 31 = .ok (.iload_n 1, 1) := by decide +kernel
theorem dX12_push_32 : decode cX12_push 32 = .ok (.iload_n 2, 1) := by decide +kernel
theorem dX12_push_33 : decode cX12_push 33 = .ok (.invokevirtual 188, 3) := by decide +kernel
theorem dX12_push_36 : decode cX12_push 36 = .ok (.aload_n 0, 1) := by decide +kernel
theorem dX12_push_37 : decode cX12_push 37 = .ok (.iload_n 1, 1) := by decide +kernel
theorem dX12_push_38 : decode cX12_push 38 = .ok (.iload_n 2, 1) := by decide +kernel
theorem dX12_push_39 : decode cX12_push 39 = .ok (.iload_n 3, 1) := by decide +kernel
theorem dX12_push_40 : decode cX12_push 40 = .ok (.invokevirtual 199, 3) := by decide +kernel
theorem dX12_push_43 : decode cX12_push 43 = .ok (.lstore 5, 2) := by decide +kernel
theorem dX12_push_45 : decode cX12_push 45 = .ok (.lload 5, 2) := by decide +kernel
theorem dX12_push_47 : decode cX12_push 47 = .ok (.aload_n 0, 1) := by decide +kernel
theorem dX12_push_48 : decode cX12_push 48 = .ok (.getfield 184, 3) := by decide +kernel
theorem dX12_push_51 : decode cX12_push 51 = .ok (.invokestatic 176, 3) := by decide +kernel
theorem dX12_push_54 : decode cX12_push 54 = .ok (.lstore 7, 2) := by decide +kernel
theorem dX12_push_56 : decode cX12_push 56 = .ok (.iload 4, 2) := by decide +kernel
theorem dX12_push_58 : decode cX12_push 58 = .ok (.ifCond .ne 8, 3) := by decide +kernel
theorem dX12_push_61 : decode cX12_push 61 = .ok (.lload 5, 2) := by decide +kernel
theorem dX12_push_63 : decode cX12_push 63 = .ok (.goto 7, 3) := by decide +kernel
theorem dX12_push_66 : decode cX12_push 66 = .ok (.aload_n 0, 1) := by decide +kernel
theorem dX12_push_67 : decode cX12_push 67 = .ok (.getfield 184, 3) := by decide +kernel
theorem dX12_push_70 : decode cX12_push 70 = .ok (.lload 7, 2) := by decide +kernel
theorem dX12_push_72 : decode cX12_push 72 = .ok (.ldiv, 1) := by decide +kernel
theorem dX12_push_73 : decode cX12_push 73 = .ok (.l2i, 1) := by decide +kernel
theorem dX12_push_74 : decode cX12_push 74 = .ok (.ireturn, 1) := by decide +kernel
theorem ck_X12_195 {l : Launch} {D : va_G} {cy : Nat → ClassId} {R : Room} (hR : 3 ≤ R.frames ∧ 68 ≤ R.locals) : CallOK l D cy R RX12 (.invokevirtual 195) 0 0 (spV 12 2 SP_X12_isPatch) := call_V (ci := 12) (con_X12_isPatch l D cy) (lwG_5 (i := 25) rfl rfl) (lwG_5 (i := 27) rfl rfl) (lwG_p (i := 28) rfl rfl) (lwG_1 (i := 13) rfl rfl) (lwG_5 (i := 28) rfl rfl) (by decide) ⟨rfl, by decide, by decide, rfl⟩ ⟨rfl, rfl⟩ hR
theorem ck_X12_199 {l : Launch} {D : va_G} {cy : Nat → ClassId} {R : Room} (hR : 3 ≤ R.frames ∧ 69 ≤ R.locals) : CallOK l D cy R RX12 (.invokevirtual 199) 0 0 (spV 12 3 SP_X12_pushOf) := call_V (ci := 12) (con_X12_pushOf l D cy) (lwG_5 (i := 29) rfl rfl) (lwG_5 (i := 31) rfl rfl) (lwG_p (i := 29) rfl rfl) (lwG_1 (i := 13) rfl rfl) (lwG_5 (i := 32) rfl rfl) (by decide) ⟨rfl, by decide, by decide, rfl⟩ ⟨rfl, rfl⟩ hR
section W_X12_push
variable {p : Program} {l : Launch} {e : Env} {s : State} {m : MethodId} {args : Array Value} {below : List Frame} {meth : Method} {c : Code} {D : va_G} {cy : Nat → ClassId} {G : Nat × Nat} {n0 : Nat} {Qp : Option PV → Mm → Prop}
set_option maxRecDepth 100000 in
set_option maxHeartbeats 4000000 in
theorem k_X12_push_0 {o0 : Nat} {x1 : Int} {x2 : Int} {x3 : Int} {x4 : Int} {M : Mm} {Q : Int → Mm → Prop} (C : Cx p s m args meth c cX12_push 9 RX12 D cy G n0) (hr : meth.sig.returnType = some .int) (h3 : n0 = 243) (hn : M.2.2.2 = n0) (ho0 : o0 < 243 ∧ (SH o0).1 = 12) (hQ : ∀ x M, Q x M → Qp (some (vI x)) M) (h : P_X12_push o0 x1 x2 x3 x4 M Q ) : WW p l e ({ frames := 3, cells := 0, slots := 0, locals := 92 }) s m args below meth c (ZQ below args s D cy G n0 Qp n0) 9 D cy G n0 0 [(0, vR (some o0)), (1, vI x1), (2, vI x2), (3, vI x3), (4, vI x4)] [] M := by
  unfold P_X12_push at h
  refine w_aload_n C dX12_push_0 rfl (mem_k 0 rfl) ?_
  refine w_iload_n C dX12_push_1 rfl (mem_k 1 rfl) ?_
  refine cl_X12_isBody (ck_X12_155 ⟨by decide, by decide⟩) C dX12_push_2 hn h3 (Nat.le_of_ble_eq_true rfl) (isO.n (ci := 12) ⟨rfl, ho0⟩ (hn.trans h3)) h (fun v1 h => ?_)
  refine w_if_eq (tgt := 28) C dX12_push_5 (by decide) (fun q => ?_) (fun q => ?_)
  · replace h := h.1 q
    refine w_iconst C dX12_push_28 ⟨by decide, by decide⟩ ?_
    exact x_iret C hr dX12_push_29 hn (hQ _ M h)
  · replace h := h.2 q
    refine w_aload_n C dX12_push_8 rfl (mem_k 0 rfl) ?_
    refine w_iload_n C dX12_push_9 rfl (mem_k 2 rfl) ?_
    refine w_iload_n C dX12_push_10 rfl (mem_k 3 rfl) ?_
    refine cl_X12_isPatch (ck_X12_195 ⟨by decide, by decide⟩) C dX12_push_11 hn h3 (Nat.le_of_ble_eq_true rfl) (isO.n (ci := 12) ⟨rfl, ho0⟩ (hn.trans h3)) h (fun v2 h => ?_)
    refine w_if_eq (tgt := 28) C dX12_push_14 (by decide) (fun q => ?_) (fun q => ?_)
    · replace h := h.1 q
      refine w_iconst C dX12_push_28 ⟨by decide, by decide⟩ ?_
      exact x_iret C hr dX12_push_29 hn (hQ _ M h)
    · replace h := h.2 q
      refine w_iload C dX12_push_17 (mem_k 4 rfl) ?_
      refine w_i2l C dX12_push_19 ?_
      refine w_lconst C dX12_push_20 ?_
      refine w_lconst C dX12_push_21 ?_
      refine cl_X12_in (ck_X12_85 ⟨by decide, by decide⟩) C dX12_push_22 hn h3 (Nat.le_of_ble_eq_true rfl) h (fun v3 h => ?_)
      refine w_if_ne (tgt := 30) C dX12_push_25 (by decide) (fun q => ?_) (fun q => ?_)
      · replace h := h.1 q
        refine w_aload_n C dX12_push_30 rfl (mem_k 0 rfl) ?_
        refine w_iload_n C dX12_push_31 rfl (mem_k 1 rfl) ?_
        refine w_iload_n C dX12_push_32 rfl (mem_k 2 rfl) ?_
        refine cl_X12_layLevel (ck_X12_188 ⟨by decide, by decide⟩) C dX12_push_33 hn h3 (Nat.le_of_ble_eq_true rfl) (isO.n (ci := 12) ⟨rfl, ho0⟩ (hn.trans h3)) h (fun M4 h hn5 => ?_)
        refine w_aload_n C dX12_push_36 rfl (mem_k 0 rfl) ?_
        refine w_iload_n C dX12_push_37 rfl (mem_k 1 rfl) ?_
        refine w_iload_n C dX12_push_38 rfl (mem_k 2 rfl) ?_
        refine w_iload_n C dX12_push_39 rfl (mem_k 3 rfl) ?_
        refine cl_X12_pushOf (ck_X12_199 ⟨by decide, by decide⟩) C dX12_push_40 hn5 h3 (Nat.le_of_ble_eq_true rfl) (isO.n (ci := 12) ⟨rfl, ho0⟩ (hn5.trans h3)) h (fun v6 h => ?_)
        refine x_lstore (L' := [(5, vL v6), (0, vR (some o0)), (1, vI x1), (2, vI x2), (3, vI x3), (4, vI x4)]) C dX12_push_43 (by decide) rfl ?_
        refine w_lload C dX12_push_45 (mem_k 0 rfl) ?_
        refine w_aload_n C dX12_push_47 rfl (mem_k 1 rfl) ?_
        refine x_getJ C dX12_push_48 fw_X12_184 (isO.n (ci := 12) ⟨rfl, ho0⟩ (hn5.trans h3)) ?_
        refine cl_X12_common (ck_X12_176 ⟨by decide, by decide⟩) C dX12_push_51 hn5 h3 (Nat.le_of_ble_eq_true rfl) h (fun v7 h => ?_)
        refine x_lstore (L' := [(7, vL v7), (5, vL v6), (0, vR (some o0)), (1, vI x1), (2, vI x2), (3, vI x3), (4, vI x4)]) C dX12_push_54 (by decide) rfl ?_
        refine w_iload C dX12_push_56 (mem_k 6 rfl) ?_
        refine w_if_ne (tgt := 66) C dX12_push_58 (by decide) (fun q => ?_) (fun q => ?_)
        · replace h := h.1 q
          refine w_aload_n C dX12_push_66 rfl (mem_k 2 rfl) ?_
          refine x_getJ C dX12_push_67 fw_X12_184 (isO.n (ci := 12) ⟨rfl, ho0⟩ (hn5.trans h3)) ?_
          refine w_lload C dX12_push_70 (mem_k 0 rfl) ?_
          refine x_ldiv C dX12_push_72 h.1 ?_
          replace h := h.2
          refine w_l2i C dX12_push_73 ?_
          exact x_iret C hr dX12_push_74 hn5 (hQ _ M4 h)
        · replace h := h.2 q
          refine w_lload C dX12_push_61 (mem_k 1 rfl) ?_
          refine w_goto (tgt := 70) C dX12_push_63 (by decide) ?_
          refine w_lload C dX12_push_70 (mem_k 0 rfl) ?_
          refine x_ldiv C dX12_push_72 h.1 ?_
          replace h := h.2
          refine w_l2i C dX12_push_73 ?_
          exact x_iret C hr dX12_push_74 hn5 (hQ _ M4 h)
      · replace h := h.2 q
        refine w_iconst C dX12_push_28 ⟨by decide, by decide⟩ ?_
        exact x_iret C hr dX12_push_29 hn (hQ _ M h)
set_option maxRecDepth 100000 in
set_option maxHeartbeats 4000000 in
theorem con_X12_push (l : Launch) (D : va_G) (cy : Nat → ClassId) : Con l D cy yX12_push cX12_push 9 (some .int) ({ frames := 3, cells := 0, slots := 0, locals := 92 }) 0 0 SP_X12_push := by
  refine con_of (by decide) (fun as M Qp h => ?_) ?_
  · obtain ⟨-, o0, x1, x2, x3, x4, rfl, -⟩ := h
    exact Nat.le_of_ble_eq_true rfl
  · intro p e s m args below meth c G as M Qp h C hr hnm
    obtain ⟨hn, o0, x1, x2, x3, x4, rfl, ho1, ho2, Q0, hQ, h⟩ := h
    refine x_pick (L' := [(0, vR (some o0)), (1, vI x1), (2, vI x2), (3, vI x3), (4, vI x4)]) [0, 1, 2, 3, 4] rfl ?_
    exact k_X12_push_0 C hr hn rfl ⟨ho1, ho2⟩ hQ h
set_option maxRecDepth 100000 in
set_option maxHeartbeats 4000000 in
theorem cl_X12_push {p : Program} {l : Launch} {e : Env} {R : Room} {s : State} {m : MethodId} {args : Array Value} {below : List Frame} {meth : Method} {c : Code} {Q : State → Prop} {cc : ByteArray} {nL : Nat} {own : String} {D : va_G} {cy : Nat → ClassId} {G : Nat × Nat} {n0 pc : Nat} {L : List (Nat × PV)} {st : List PV} {M : Mm} {op : Instr} (K : CallOK l D cy R own op 0 0 (spV 12 4 SP_X12_push)) (C : Cx p s m args meth c cc nL own D cy G n0) (hd : decode cc pc = .ok (op, 3)) (hn : M.2.2.2 = n0) (h3 : n0 = 243) (hlen : argN st ≤ 8) {r : Option Nat} {o0 : Nat} (ho : isOn 12 M.2.2.2 r o0) {x1 : Int} {x2 : Int} {x3 : Int} {x4 : Int} {Q0 : Int → Mm → Prop} (h : P_X12_push o0 x1 x2 x3 x4 M Q0) (k : ∀ x M2, Q0 x M2 → M2.2.2.2 = n0 → WW p l e R s m args below meth c Q nL D cy G n0  (pc + 3) L (vI x :: st) M2) : WW p l e R s m args below meth c Q nL D cy G n0  pc L (vI x4 :: vI x3 :: vI x2 :: vI x1 :: vR r :: st) M := by
  obtain ⟨rfl, ho1, ho2⟩ := ho
  refine x_call0 K C hd (as := [vR (some o0), vI x1, vI x2, vI x3, vI x4]) rfl hn hlen (fun v M2 => ∃ x, v = some (vI x) ∧ Q0 x M2) ⟨⟨o0, [vI x1, vI x2, vI x3, vI x4], rfl, rfl, ho1, ho2⟩, hn.trans h3, o0, x1, x2, x3, x4, rfl, (hn.trans h3) ▸ ho1, ho2, Q0, fun x M2 hx => ⟨x, rfl, hx⟩, h⟩ ?_
  rintro _ _ ⟨x, rfl, hx⟩ hm
  exact k x _ hx hm
end W_X12_push
theorem dX12_bearsBy_0 : decode cX12_bearsBy 0 = .ok (.aload_n 0, 1) := by decide +kernel
theorem dX12_bearsBy_1 : decode cX12_bearsBy 1 = .ok (.iload_n 1, 1) := by decide +kernel
theorem dX12_bearsBy_2 : decode cX12_bearsBy 2 = .ok (.iload_n 2, 1) := by decide +kernel
theorem dX12_bearsBy_3 : decode cX12_bearsBy 3 = .ok (.iload_n 3, 1) := by decide +kernel
theorem dX12_bearsBy_4 : decode cX12_bearsBy 4 = .ok (.invokevirtual 192, 3) := by decide +kernel
theorem dX12_bearsBy_7 : decode cX12_bearsBy 7 = .ok (.lstore 4, 2) := by decide +kernel
theorem dX12_bearsBy_9 : decode cX12_bearsBy 9 = .ok (.lload 4, 2) := by decide +kernel
theorem dX12_bearsBy_11 : decode cX12_bearsBy 11 = .ok (.lconst 0, 1) := by decide +kernel
theorem dX12_bearsBy_12 : decode cX12_bearsBy 12 = .ok (.lcmp, 1) := by decide +kernel
theorem dX12_bearsBy_13 : decode cX12_bearsBy 13 = .ok (.ifCond .gt 7, 3) := by decide +kernel
theorem dX12_bearsBy_16 : decode cX12_bearsBy 16 = .ok (.iconst 0, 1) := by decide +kernel
theorem dX12_bearsBy_17 : decode cX12_bearsBy 17 = .ok (.goto 30, 3) := by decide +kernel
theorem dX12_bearsBy_20 : decode cX12_bearsBy 20 = .ok (.lload 4, 2) := by decide +kernel
theorem dX12_bearsBy_22 : decode cX12_bearsBy 22 = .ok (.aload_n 0, 1) := by decide +kernel
theorem dX12_bearsBy_23 : decode cX12_bearsBy 23 = .ok (.aload_n 0, 1) := by decide +kernel
theorem dX12_bearsBy_24 : decode cX12_bearsBy 24 = .ok (.iload_n 2, 1) := by decide +kernel
theorem dX12_bearsBy_25 : decode cX12_bearsBy 25 = .ok (.iload_n 3, 1) := by decide +kernel
theorem dX12_bearsBy_26 : decode cX12_bearsBy 26 = .ok (.invokevirtual 160, 3) := by decide +kernel
theorem dX12_bearsBy_29 : decode cX12_bearsBy 29 = .ok (.invokevirtual 202, 3) := by decide +kernel
theorem dX12_bearsBy_32 : decode cX12_bearsBy 32 = .ok (.i2l, 1) := by decide +kernel
theorem dX12_bearsBy_33 : decode cX12_bearsBy 33 = .ok (.aload_n 0, 1) := by decide +kernel
theorem dX12_bearsBy_34 : decode cX12_bearsBy 34 = .ok (.getfield 184, 3) := by decide +kernel
theorem dX12_bearsBy_37 : decode cX12_bearsBy 37 = .ok (.lmul, 1) := by decide +kernel
theorem dX12_bearsBy_38 : decode cX12_bearsBy 38 = .ok (.lcmp, 1) := by decide +kernel
theorem dX12_bearsBy_39 : decode cX12_bearsBy 39 = .ok (.ifCond .lt 7, 3) := by decide +kernel
theorem dX12_bearsBy_42 : decode cX12_bearsBy 42 = .ok (.iconst 2, 1) := by decide +kernel
theorem dX12_bearsBy_43 : decode cX12_bearsBy 43 = .ok (.goto 4, 3) := by decide +kernel
theorem dX12_bearsBy_46 : decode cX12_bearsBy 46 = .ok (.iconst 1, 1) := by decide +kernel
theorem dX12_bearsBy_47 : decode cX12_bearsBy 47 = .ok (.ireturn, 1) := by decide +kernel
theorem ck_X12_202 {l : Launch} {D : va_G} {cy : Nat → ClassId} {R : Room} (hR : 1 ≤ R.frames ∧ 23 ≤ R.locals) : CallOK l D cy R RX12 (.invokevirtual 202) 0 0 (spV 12 1 SP_X12_longOf) := call_V (ci := 12) (con_X12_longOf l D cy) (lwG_5 (i := 45) rfl rfl) (lwG_5 (i := 47) rfl rfl) (lwG_p (i := 32) rfl rfl) (lwG_1 (i := 13) rfl rfl) (lwG_5 (i := 48) rfl rfl) (by decide) ⟨rfl, by decide, by decide, rfl⟩ ⟨rfl, rfl⟩ hR
section W_X12_bearsBy
variable {p : Program} {l : Launch} {e : Env} {s : State} {m : MethodId} {args : Array Value} {below : List Frame} {meth : Method} {c : Code} {D : va_G} {cy : Nat → ClassId} {G : Nat × Nat} {n0 : Nat} {Qp : Option PV → Mm → Prop}
set_option maxRecDepth 100000 in
set_option maxHeartbeats 4000000 in
theorem k_X12_bearsBy_0 {o0 : Nat} {x1 : Int} {x2 : Int} {x3 : Int} {M : Mm} {Q : Int → Prop} (C : Cx p s m args meth c cX12_bearsBy 6 RX12 D cy G n0) (hr : meth.sig.returnType = some .int) (h3 : n0 = 243) (hn : M.2.2.2 = n0) (ho0 : o0 < 243 ∧ (SH o0).1 = 12) (hQ : ∀ x, Q x → Qp (some (vI x)) M) (h : P_X12_bearsBy o0 x1 x2 x3 M Q ) : WW p l e ({ frames := 2, cells := 0, slots := 0, locals := 46 }) s m args below meth c (ZQ below args s D cy G n0 Qp n0) 6 D cy G n0 0 [(0, vR (some o0)), (1, vI x1), (2, vI x2), (3, vI x3)] [] M := by
  unfold P_X12_bearsBy at h
  refine w_aload_n C dX12_bearsBy_0 rfl (mem_k 0 rfl) ?_
  refine w_iload_n C dX12_bearsBy_1 rfl (mem_k 1 rfl) ?_
  refine w_iload_n C dX12_bearsBy_2 rfl (mem_k 2 rfl) ?_
  refine w_iload_n C dX12_bearsBy_3 rfl (mem_k 3 rfl) ?_
  refine cl_X12_squeezed (ck_X12_192 ⟨by decide, by decide⟩) C dX12_bearsBy_4 hn h3 (Nat.le_of_ble_eq_true rfl) (isO.n (ci := 12) ⟨rfl, ho0⟩ (hn.trans h3)) h (fun v1 h => ?_)
  refine x_lstore (L' := [(4, vL v1), (0, vR (some o0)), (1, vI x1), (2, vI x2), (3, vI x3)]) C dX12_bearsBy_7 (by decide) rfl ?_
  refine w_lload C dX12_bearsBy_9 (mem_k 0 rfl) ?_
  refine w_lconst C dX12_bearsBy_11 ?_
  refine x_lif_gt (tgt := 20) C dX12_bearsBy_12 dX12_bearsBy_13 (by decide) (fun q => ?_) (fun q => ?_)
  · replace h := h.1 q
    refine w_lload C dX12_bearsBy_20 (mem_k 0 rfl) ?_
    refine w_aload_n C dX12_bearsBy_22 rfl (mem_k 1 rfl) ?_
    refine w_aload_n C dX12_bearsBy_23 rfl (mem_k 1 rfl) ?_
    refine w_iload_n C dX12_bearsBy_24 rfl (mem_k 3 rfl) ?_
    refine w_iload_n C dX12_bearsBy_25 rfl (mem_k 4 rfl) ?_
    refine cl_X12_layerOf (ck_X12_160 ⟨by decide, by decide⟩) C dX12_bearsBy_26 hn h3 (Nat.le_of_ble_eq_true rfl) (isO.n (ci := 12) ⟨rfl, ho0⟩ (hn.trans h3)) h (fun v2 h => ?_)
    refine cl_X12_longOf (ck_X12_202 ⟨by decide, by decide⟩) C dX12_bearsBy_29 hn h3 (Nat.le_of_ble_eq_true rfl) (isO.n (ci := 12) ⟨rfl, ho0⟩ (hn.trans h3)) h (fun v3 h => ?_)
    refine w_i2l C dX12_bearsBy_32 ?_
    refine w_aload_n C dX12_bearsBy_33 rfl (mem_k 1 rfl) ?_
    refine x_getJ C dX12_bearsBy_34 fw_X12_184 (isO.n (ci := 12) ⟨rfl, ho0⟩ (hn.trans h3)) ?_
    refine w_lmul C dX12_bearsBy_37 h.1 ?_
    replace h := h.2
    refine x_lif_lt (tgt := 46) C dX12_bearsBy_38 dX12_bearsBy_39 (by decide) (fun q => ?_) (fun q => ?_)
    · replace h := h.1 q
      refine w_iconst C dX12_bearsBy_46 ⟨by decide, by decide⟩ ?_
      exact x_iret C hr dX12_bearsBy_47 hn (hQ _ h)
    · replace h := h.2 q
      refine w_iconst C dX12_bearsBy_42 ⟨by decide, by decide⟩ ?_
      refine w_goto (tgt := 47) C dX12_bearsBy_43 (by decide) ?_
      exact x_iret C hr dX12_bearsBy_47 hn (hQ _ h)
  · replace h := h.2 q
    refine w_iconst C dX12_bearsBy_16 ⟨by decide, by decide⟩ ?_
    refine w_goto (tgt := 47) C dX12_bearsBy_17 (by decide) ?_
    exact x_iret C hr dX12_bearsBy_47 hn (hQ _ h)
set_option maxRecDepth 100000 in
set_option maxHeartbeats 4000000 in
theorem con_X12_bearsBy (l : Launch) (D : va_G) (cy : Nat → ClassId) : Con l D cy yX12_bearsBy cX12_bearsBy 6 (some .int) ({ frames := 2, cells := 0, slots := 0, locals := 46 }) 0 0 SP_X12_bearsBy := by
  refine con_of (by decide) (fun as M Qp h => ?_) ?_
  · obtain ⟨-, o0, x1, x2, x3, rfl, -⟩ := h
    exact Nat.le_of_ble_eq_true rfl
  · intro p e s m args below meth c G as M Qp h C hr hnm
    obtain ⟨hn, o0, x1, x2, x3, rfl, ho1, ho2, Q0, hQ, h⟩ := h
    refine x_pick (L' := [(0, vR (some o0)), (1, vI x1), (2, vI x2), (3, vI x3)]) [0, 1, 2, 3] rfl ?_
    exact k_X12_bearsBy_0 C hr hn rfl ⟨ho1, ho2⟩ hQ h
set_option maxRecDepth 100000 in
set_option maxHeartbeats 4000000 in
theorem cl_X12_bearsBy {p : Program} {l : Launch} {e : Env} {R : Room} {s : State} {m : MethodId} {args : Array Value} {below : List Frame} {meth : Method} {c : Code} {Q : State → Prop} {cc : ByteArray} {nL : Nat} {own : String} {D : va_G} {cy : Nat → ClassId} {G : Nat × Nat} {n0 pc : Nat} {L : List (Nat × PV)} {st : List PV} {M : Mm} {op : Instr} (K : CallOK l D cy R own op 0 0 (spV 12 3 SP_X12_bearsBy)) (C : Cx p s m args meth c cc nL own D cy G n0) (hd : decode cc pc = .ok (op, 3)) (hn : M.2.2.2 = n0) (h3 : n0 = 243) (hlen : argN st ≤ 8) {r : Option Nat} {o0 : Nat} (ho : isOn 12 M.2.2.2 r o0) {x1 : Int} {x2 : Int} {x3 : Int} {Q0 : Int → Prop} (h : P_X12_bearsBy o0 x1 x2 x3 M Q0) (k : ∀ x, Q0 x → WW p l e R s m args below meth c Q nL D cy G n0  (pc + 3) L (vI x :: st) M) : WW p l e R s m args below meth c Q nL D cy G n0  pc L (vI x3 :: vI x2 :: vI x1 :: vR r :: st) M := by
  obtain ⟨rfl, ho1, ho2⟩ := ho
  refine x_call0 K C hd (as := [vR (some o0), vI x1, vI x2, vI x3]) rfl hn hlen (fun v M2 => ∃ x, v = some (vI x) ∧ M2 = M ∧ Q0 x) ⟨⟨o0, [vI x1, vI x2, vI x3], rfl, rfl, ho1, ho2⟩, hn.trans h3, o0, x1, x2, x3, rfl, (hn.trans h3) ▸ ho1, ho2, Q0, fun x hx => ⟨x, rfl, rfl, hx⟩, h⟩ ?_
  rintro _ _ ⟨x, rfl, rfl, hx⟩ hm
  exact k x hx
end W_X12_bearsBy
theorem dX12_bears_0 : decode cX12_bears 0 = .ok (.aload_n 0, 1) := by decide +kernel
theorem dX12_bears_1 : decode cX12_bears 1 = .ok (.iload_n 1, 1) := by decide +kernel
theorem dX12_bears_2 : decode cX12_bears 2 = .ok (.invokevirtual 155, 3) := by decide +kernel
theorem dX12_bears_5 : decode cX12_bears 5 = .ok (.ifCond .eq 12, 3) := by decide +kernel
theorem dX12_bears_8 : decode cX12_bears 8 = .ok (.aload_n 0, 1) := by decide +kernel
theorem dX12_bears_9 : decode cX12_bears 9 = .ok (.iload_n 2, 1) := by decide +kernel
theorem dX12_bears_10 : decode cX12_bears 10 = .ok (.iload_n 3, 1) := by decide +kernel
theorem dX12_bears_11 : decode cX12_bears 11 = .ok (.invokevirtual 195, 3) := by decide +kernel
theorem dX12_bears_14 : decode cX12_bears 14 = .ok (.ifCond .ne 5, 3) := by decide +kernel
theorem dX12_bears_17 : decode cX12_bears 17 = .ok (.iconst (-1), 1) := by decide +kernel
theorem dX12_bears_18 : decode cX12_bears 18 = .ok (.ireturn, 1) := by decide +kernel
theorem dX12_bears_19 : decode cX12_bears 19 = .ok (.aload_n 0, 1) := by decide +kernel
theorem dX12_bears_20 : decode cX12_bears 20 = .ok (.iload_n 1, 1) := by decide +kernel
theorem dX12_bears_21 : decode cX12_bears 21 = .ok (.iload_n 2, 1) := by decide +kernel
theorem dX12_bears_22 : decode cX12_bears 22 = .ok (.invokevirtual 188, 3) := by decide +kernel
theorem dX12_bears_25 : decode cX12_bears 25 = .ok (.aload_n 0, 1) := by decide +kernel
theorem dX12_bears_26 : decode cX12_bears 26 = .ok (.iload_n 1, 1) := by decide +kernel
theorem dX12_bears_27 : decode cX12_bears 27 = .ok (.iload_n 2, 1) := by decide +kernel
theorem dX12_bears_28 : decode cX12_bears 28 = .ok (.iload_n 3, 1) := by decide +kernel
theorem dX12_bears_29 : decode cX12_bears 29 = .ok (.invokevirtual 206, 3) := by decide +kernel
theorem dX12_bears_32 : decode cX12_bears 32 = .ok (.ireturn, 1) := by decide +kernel
theorem ck_X12_206 {l : Launch} {D : va_G} {cy : Nat → ClassId} {R : Room} (hR : 3 ≤ R.frames ∧ 71 ≤ R.locals) : CallOK l D cy R RX12 (.invokevirtual 206) 0 0 (spV 12 3 SP_X12_bearsBy) := call_V (ci := 12) (con_X12_bearsBy l D cy) (lwG_5 (i := 41) rfl rfl) (lwG_5 (i := 43) rfl rfl) (lwG_p (i := 31) rfl rfl) (lwG_1 (i := 13) rfl rfl) (lwG_5 (i := 44) rfl rfl) (by decide) ⟨rfl, by decide, by decide, rfl⟩ ⟨rfl, rfl⟩ hR
section W_X12_bears
variable {p : Program} {l : Launch} {e : Env} {s : State} {m : MethodId} {args : Array Value} {below : List Frame} {meth : Method} {c : Code} {D : va_G} {cy : Nat → ClassId} {G : Nat × Nat} {n0 : Nat} {Qp : Option PV → Mm → Prop}
set_option maxRecDepth 100000 in
set_option maxHeartbeats 4000000 in
theorem k_X12_bears_0 {o0 : Nat} {x1 : Int} {x2 : Int} {x3 : Int} {M : Mm} {Q : Int → Mm → Prop} (C : Cx p s m args meth c cX12_bears 4 RX12 D cy G n0) (hr : meth.sig.returnType = some .int) (h3 : n0 = 243) (hn : M.2.2.2 = n0) (ho0 : o0 < 243 ∧ (SH o0).1 = 12) (hQ : ∀ x M, Q x M → Qp (some (vI x)) M) (h : P_X12_bears o0 x1 x2 x3 M Q ) : WW p l e ({ frames := 3, cells := 0, slots := 0, locals := 92 }) s m args below meth c (ZQ below args s D cy G n0 Qp n0) 4 D cy G n0 0 [(0, vR (some o0)), (1, vI x1), (2, vI x2), (3, vI x3)] [] M := by
  unfold P_X12_bears at h
  refine w_aload_n C dX12_bears_0 rfl (mem_k 0 rfl) ?_
  refine w_iload_n C dX12_bears_1 rfl (mem_k 1 rfl) ?_
  refine cl_X12_isBody (ck_X12_155 ⟨by decide, by decide⟩) C dX12_bears_2 hn h3 (Nat.le_of_ble_eq_true rfl) (isO.n (ci := 12) ⟨rfl, ho0⟩ (hn.trans h3)) h (fun v1 h => ?_)
  refine w_if_eq (tgt := 17) C dX12_bears_5 (by decide) (fun q => ?_) (fun q => ?_)
  · replace h := h.1 q
    refine w_iconst C dX12_bears_17 ⟨by decide, by decide⟩ ?_
    exact x_iret C hr dX12_bears_18 hn (hQ _ M h)
  · replace h := h.2 q
    refine w_aload_n C dX12_bears_8 rfl (mem_k 0 rfl) ?_
    refine w_iload_n C dX12_bears_9 rfl (mem_k 2 rfl) ?_
    refine w_iload_n C dX12_bears_10 rfl (mem_k 3 rfl) ?_
    refine cl_X12_isPatch (ck_X12_195 ⟨by decide, by decide⟩) C dX12_bears_11 hn h3 (Nat.le_of_ble_eq_true rfl) (isO.n (ci := 12) ⟨rfl, ho0⟩ (hn.trans h3)) h (fun v2 h => ?_)
    refine w_if_ne (tgt := 19) C dX12_bears_14 (by decide) (fun q => ?_) (fun q => ?_)
    · replace h := h.1 q
      refine w_aload_n C dX12_bears_19 rfl (mem_k 0 rfl) ?_
      refine w_iload_n C dX12_bears_20 rfl (mem_k 1 rfl) ?_
      refine w_iload_n C dX12_bears_21 rfl (mem_k 2 rfl) ?_
      refine cl_X12_layLevel (ck_X12_188 ⟨by decide, by decide⟩) C dX12_bears_22 hn h3 (Nat.le_of_ble_eq_true rfl) (isO.n (ci := 12) ⟨rfl, ho0⟩ (hn.trans h3)) h (fun M3 h hn4 => ?_)
      refine w_aload_n C dX12_bears_25 rfl (mem_k 0 rfl) ?_
      refine w_iload_n C dX12_bears_26 rfl (mem_k 1 rfl) ?_
      refine w_iload_n C dX12_bears_27 rfl (mem_k 2 rfl) ?_
      refine w_iload_n C dX12_bears_28 rfl (mem_k 3 rfl) ?_
      refine cl_X12_bearsBy (ck_X12_206 ⟨by decide, by decide⟩) C dX12_bears_29 hn4 h3 (Nat.le_of_ble_eq_true rfl) (isO.n (ci := 12) ⟨rfl, ho0⟩ (hn4.trans h3)) h (fun v5 h => ?_)
      exact x_iret C hr dX12_bears_32 hn4 (hQ _ M3 h)
    · replace h := h.2 q
      refine w_iconst C dX12_bears_17 ⟨by decide, by decide⟩ ?_
      exact x_iret C hr dX12_bears_18 hn (hQ _ M h)
set_option maxRecDepth 100000 in
set_option maxHeartbeats 4000000 in
theorem con_X12_bears (l : Launch) (D : va_G) (cy : Nat → ClassId) : Con l D cy yX12_bears cX12_bears 4 (some .int) ({ frames := 3, cells := 0, slots := 0, locals := 92 }) 0 0 SP_X12_bears := by
  refine con_of (by decide) (fun as M Qp h => ?_) ?_
  · obtain ⟨-, o0, x1, x2, x3, rfl, -⟩ := h
    exact Nat.le_of_ble_eq_true rfl
  · intro p e s m args below meth c G as M Qp h C hr hnm
    obtain ⟨hn, o0, x1, x2, x3, rfl, ho1, ho2, Q0, hQ, h⟩ := h
    refine x_pick (L' := [(0, vR (some o0)), (1, vI x1), (2, vI x2), (3, vI x3)]) [0, 1, 2, 3] rfl ?_
    exact k_X12_bears_0 C hr hn rfl ⟨ho1, ho2⟩ hQ h
set_option maxRecDepth 100000 in
set_option maxHeartbeats 4000000 in
theorem cl_X12_bears {p : Program} {l : Launch} {e : Env} {R : Room} {s : State} {m : MethodId} {args : Array Value} {below : List Frame} {meth : Method} {c : Code} {Q : State → Prop} {cc : ByteArray} {nL : Nat} {own : String} {D : va_G} {cy : Nat → ClassId} {G : Nat × Nat} {n0 pc : Nat} {L : List (Nat × PV)} {st : List PV} {M : Mm} {op : Instr} (K : CallOK l D cy R own op 0 0 (spV 12 3 SP_X12_bears)) (C : Cx p s m args meth c cc nL own D cy G n0) (hd : decode cc pc = .ok (op, 3)) (hn : M.2.2.2 = n0) (h3 : n0 = 243) (hlen : argN st ≤ 8) {r : Option Nat} {o0 : Nat} (ho : isOn 12 M.2.2.2 r o0) {x1 : Int} {x2 : Int} {x3 : Int} {Q0 : Int → Mm → Prop} (h : P_X12_bears o0 x1 x2 x3 M Q0) (k : ∀ x M2, Q0 x M2 → M2.2.2.2 = n0 → WW p l e R s m args below meth c Q nL D cy G n0  (pc + 3) L (vI x :: st) M2) : WW p l e R s m args below meth c Q nL D cy G n0  pc L (vI x3 :: vI x2 :: vI x1 :: vR r :: st) M := by
  obtain ⟨rfl, ho1, ho2⟩ := ho
  refine x_call0 K C hd (as := [vR (some o0), vI x1, vI x2, vI x3]) rfl hn hlen (fun v M2 => ∃ x, v = some (vI x) ∧ Q0 x M2) ⟨⟨o0, [vI x1, vI x2, vI x3], rfl, rfl, ho1, ho2⟩, hn.trans h3, o0, x1, x2, x3, rfl, (hn.trans h3) ▸ ho1, ho2, Q0, fun x M2 hx => ⟨x, rfl, hx⟩, h⟩ ?_
  rintro _ _ ⟨x, rfl, hx⟩ hm
  exact k x _ hx hm
end W_X12_bears
theorem dX12_layPresses_0 : decode cX12_layPresses 0 = .ok (.aload_n 0, 1) := by decide +kernel
theorem dX12_layPresses_1 : decode cX12_layPresses 1 = .ok (.iload_n 1, 1) := by decide +kernel
theorem dX12_layPresses_2 : decode cX12_layPresses 2 = .ok (.iload_n 2, 1) := by decide +kernel
theorem dX12_layPresses_3 : decode cX12_layPresses 3 = .ok (.invokevirtual 188, 3) := by decide +kernel
theorem dX12_layPresses_6 : decode cX12_layPresses 6 = .ok (.iconst 0, 1) := by decide +kernel
theorem dX12_layPresses_7 : decode cX12_layPresses 7 = .ok (.istore_n 3, 1) := by decide +kernel
theorem dX12_layPresses_8 : decode cX12_layPresses 8 = .ok (.iload_n 3, 1) := by decide +kernel
theorem dX12_layPresses_9 : decode cX12_layPresses 9 = .ok (.aload_n 0, 1) := by decide +kernel
theorem dX12_layPresses_10 : decode cX12_layPresses 10 = .ok (.getfield 31, 3) := by decide +kernel
theorem dX12_layPresses_13 : decode cX12_layPresses 13 = .ok (.bipush 6, 2) := by decide +kernel
theorem dX12_layPresses_15 : decode cX12_layPresses 15 = .ok (.iload_n 2, 1) := by decide +kernel
theorem dX12_layPresses_16 : decode cX12_layPresses 16 = .ok (.iadd, 1) := by decide +kernel
theorem dX12_layPresses_17 : decode cX12_layPresses 17 = .ok (.iaload, 1) := by decide +kernel
theorem dX12_layPresses_18 : decode cX12_layPresses 18 = .ok (.if_icmp .ge 52, 3) := by decide +kernel
theorem dX12_layPresses_21 : decode cX12_layPresses 21 = .ok (.aload_n 0, 1) := by decide +kernel
theorem dX12_layPresses_22 : decode cX12_layPresses 22 = .ok (.getfield 68, 3) := by decide +kernel
theorem dX12_layPresses_25 : decode cX12_layPresses 25 = .ok (.iload_n 3, 1) := by decide +kernel
theorem dX12_layPresses_26 : decode cX12_layPresses 26 = .ok (.ldc2_w 103, 3) := by decide +kernel
theorem dX12_layPresses_29 : decode cX12_layPresses 29 = .ok (.aload_n 0, 1) := by decide +kernel
theorem dX12_layPresses_30 : decode cX12_layPresses 30 = .ok (.iload_n 1, 1) := by decide +kernel
theorem dX12_layPresses_31 : decode cX12_layPresses 31 = .ok (.iload_n 2, 1) := by decide +kernel
theorem dX12_layPresses_32 : decode cX12_layPresses 32 = .ok (.iload_n 3, 1) := by decide +kernel
theorem dX12_layPresses_33 : decode cX12_layPresses 33 = .ok (.invokevirtual 199, 3) := by decide +kernel
theorem dX12_layPresses_36 : decode cX12_layPresses 36 = .ok (.lmul, 1) := by decide +kernel
theorem dX12_layPresses_37 : decode cX12_layPresses 37 = .ok (.aload_n 0, 1) := by decide +kernel
theorem dX12_layPresses_38 : decode cX12_layPresses 38 = .ok (.getfield 184, 3) := by decide +kernel
theorem dX12_layPresses_41 : decode cX12_layPresses 41 = .ok (.aload_n 0, 1) := by decide +kernel
theorem dX12_layPresses_42 : decode cX12_layPresses 42 = .ok (.getfield 34, 3) := by decide +kernel
theorem dX12_layPresses_45 : decode cX12_layPresses 45 = .ok (.bipush 108, 2) := by decide +kernel
theorem dX12_layPresses_47 : decode cX12_layPresses 47 = .ok (.bipush 18, 2) := by decide +kernel
theorem dX12_layPresses_49 : decode cX12_layPresses 49 = .ok (.iload_n 2, 1) := by decide +kernel
theorem dX12_layPresses_50 : decode cX12_layPresses 50 = .ok (.imul, 1) := by decide +kernel
theorem dX12_layPresses_51 : decode cX12_layPresses 51 = .ok (.iadd, 1) := by decide +kernel
theorem dX12_layPresses_52 : decode cX12_layPresses 52 = .ok (.iconst 3, 1) := by decide +kernel
theorem dX12_layPresses_53 : decode cX12_layPresses 53 = .ok (.iload_n 3, 1) := by decide +kernel
theorem dX12_layPresses_54 : decode cX12_layPresses 54 = .ok (.imul, 1) := by decide +kernel
theorem dX12_layPresses_55 : decode cX12_layPresses 55 = .ok (.iadd, 1) := by decide +kernel
theorem dX12_layPresses_56 : decode cX12_layPresses 56 = .ok (.iconst 2, 1) := by decide +kernel
theorem dX12_layPresses_57 : decode cX12_layPresses 57 = .ok (.iadd, 1) := by decide +kernel
theorem dX12_layPresses_58 : decode cX12_layPresses 58 = .ok (.iaload, 1) := by decide +kernel
theorem dX12_layPresses_59 : decode cX12_layPresses 59 = .ok (.i2l, 1) := by decide +kernel
theorem dX12_layPresses_60 : decode cX12_layPresses 60 = .ok (.lmul, 1) := by decide +kernel
theorem dX12_layPresses_61 : decode cX12_layPresses 61 = .ok (.ldiv, 1) := by decide +kernel
theorem dX12_layPresses_62 : decode cX12_layPresses 62 = .ok (.l2i, 1) := by decide +kernel
theorem dX12_layPresses_63 : decode cX12_layPresses 63 = .ok (.iastore, 1) := by decide +kernel
theorem dX12_layPresses_64 : decode cX12_layPresses 64 = .ok (.iinc 3 1, 3) := by decide +kernel
theorem dX12_layPresses_67 : decode cX12_layPresses 67 = .ok (.goto (-59), 3) := by decide +kernel
theorem dX12_layPresses_70 : decode cX12_layPresses 70 = .ok (.return_, 1) := by decide +kernel
theorem fw_X12_68 : fR RX12 68 12 25 := ⟨⟨lwG_4 (i := 89) rfl rfl, by decide, by decide⟩, fun _ _ => rfl, fun r => ⟨r, rfl⟩⟩
section W_X12_layPresses
variable {p : Program} {l : Launch} {e : Env} {s : State} {m : MethodId} {args : Array Value} {below : List Frame} {meth : Method} {c : Code} {D : va_G} {cy : Nat → ClassId} {G : Nat × Nat} {n0 : Nat} {Qp : Option PV → Mm → Prop}
set_option maxRecDepth 100000 in
set_option maxHeartbeats 4000000 in
theorem f_X12_layPresses_8 {o0 : Nat} {x1 : Int} {x2 : Int} {x3 : Int} {M : Mm} {Q : Mm → Prop} {K8 : Int × Mm → Prop} (C : Cx p s m args meth c cX12_layPresses 4 RX12 D cy G n0) (hr : meth.sig.returnType = none) (h3 : n0 = 243) (hn : M.2.2.2 = n0) (ho0 : o0 < 243 ∧ (SH o0).1 = 12) (hQ : ∀ M, Q M → Qp none M) (hK8 : ∀ (x3 : Int) (M : Mm), K8 (x3, M) → M.2.2.2 = n0 → WW p l e ({ frames := 3, cells := 0, slots := 0, locals := 92 }) s m args below meth c (ZQ below args s D cy G n0 Qp n0) 4 D cy G n0 8 [(0, vR (some o0)), (1, vI x1), (2, vI x2), (3, vI x3)] [] M) (h : F_X12_layPresses_8 o0 x1 x2 Q  K8 x3 M) : WW p l e ({ frames := 3, cells := 0, slots := 0, locals := 92 }) s m args below meth c (ZQ below args s D cy G n0 Qp n0) 4 D cy G n0 8 [(0, vR (some o0)), (1, vI x1), (2, vI x2), (3, vI x3)] [] M := by
  unfold F_X12_layPresses_8 at h
  refine w_iload_n C dX12_layPresses_8 rfl (mem_k 3 rfl) ?_
  refine w_aload_n C dX12_layPresses_9 rfl (mem_k 0 rfl) ?_
  refine x_getR C dX12_layPresses_10 fw_X12_31 (isO.n (ci := 12) ⟨rfl, ho0⟩ (hn.trans h3)) (fun r1 er1 => ?_)
  replace h := h r1 er1
  refine w_bipush C dX12_layPresses_13 (by decide) ?_
  refine w_iload_n C dX12_layPresses_15 rfl (mem_k 2 rfl) ?_
  refine w_iadd C dX12_layPresses_16 h.1 ?_
  replace h := h.2
  obtain ⟨o2, g3, h⟩ := h
  refine x_iald C dX12_layPresses_17 (isA.n g3 (hn.trans h3)) ?_
  refine w_icmp_ge (tgt := 70) C dX12_layPresses_18 (by decide) (fun q => ?_) (fun q => ?_)
  · replace h := h.1 q
    exact x_vret C hr dX12_layPresses_70 hn (hQ M h)
  · replace h := h.2 q
    refine w_aload_n C dX12_layPresses_21 rfl (mem_k 0 rfl) ?_
    refine x_getR C dX12_layPresses_22 fw_X12_68 (isO.n (ci := 12) ⟨rfl, ho0⟩ (hn.trans h3)) (fun r4 er4 => ?_)
    replace h := h r4 er4
    refine w_iload_n C dX12_layPresses_25 rfl (mem_k 3 rfl) ?_
    refine w_ldc2 (x := 100) C dX12_layPresses_26 cn_X12_103 ⟨by decide, by decide⟩ ?_
    refine w_aload_n C dX12_layPresses_29 rfl (mem_k 0 rfl) ?_
    refine w_iload_n C dX12_layPresses_30 rfl (mem_k 1 rfl) ?_
    refine w_iload_n C dX12_layPresses_31 rfl (mem_k 2 rfl) ?_
    refine w_iload_n C dX12_layPresses_32 rfl (mem_k 3 rfl) ?_
    refine cl_X12_pushOf (ck_X12_199 ⟨by decide, by decide⟩) C dX12_layPresses_33 hn h3 (Nat.le_of_ble_eq_true rfl) (isO.n (ci := 12) ⟨rfl, ho0⟩ (hn.trans h3)) h (fun v5 h => ?_)
    refine w_lmul C dX12_layPresses_36 h.1 ?_
    replace h := h.2
    refine w_aload_n C dX12_layPresses_37 rfl (mem_k 0 rfl) ?_
    refine x_getJ C dX12_layPresses_38 fw_X12_184 (isO.n (ci := 12) ⟨rfl, ho0⟩ (hn.trans h3)) ?_
    refine w_aload_n C dX12_layPresses_41 rfl (mem_k 0 rfl) ?_
    refine x_getR C dX12_layPresses_42 fw_X12_34 (isO.n (ci := 12) ⟨rfl, ho0⟩ (hn.trans h3)) (fun r6 er6 => ?_)
    replace h := h r6 er6
    refine w_bipush C dX12_layPresses_45 (by decide) ?_
    refine w_bipush C dX12_layPresses_47 (by decide) ?_
    refine w_iload_n C dX12_layPresses_49 rfl (mem_k 2 rfl) ?_
    refine w_imul C dX12_layPresses_50 h.1 ?_
    replace h := h.2
    refine w_iadd C dX12_layPresses_51 h.1 ?_
    replace h := h.2
    refine w_iconst C dX12_layPresses_52 ⟨by decide, by decide⟩ ?_
    refine w_iload_n C dX12_layPresses_53 rfl (mem_k 3 rfl) ?_
    refine w_imul C dX12_layPresses_54 h.1 ?_
    replace h := h.2
    refine w_iadd C dX12_layPresses_55 h.1 ?_
    replace h := h.2
    refine w_iconst C dX12_layPresses_56 ⟨by decide, by decide⟩ ?_
    refine w_iadd C dX12_layPresses_57 h.1 ?_
    replace h := h.2
    obtain ⟨o7, g8, h⟩ := h
    refine x_iald C dX12_layPresses_58 (isA.n g8 (hn.trans h3)) ?_
    refine w_i2l C dX12_layPresses_59 ?_
    refine w_lmul C dX12_layPresses_60 h.1 ?_
    replace h := h.2
    refine x_ldiv C dX12_layPresses_61 h.1 ?_
    replace h := h.2
    refine w_l2i C dX12_layPresses_62 ?_
    obtain ⟨o9, g10, h⟩ := h
    refine x_iast C dX12_layPresses_63 (isA.n g10 (hn.trans h3)) (fun M11 eM11 hn12 => ?_)
    replace h := h M11 eM11
    replace hn12 := hn12.trans hn
    obtain ⟨v13, ev13⟩ : ∃ z : Int, z = x3 + 1 := ⟨_, rfl⟩
    refine x_iinc (L' := [(3, vI v13), (0, vR (some o0)), (1, vI x1), (2, vI x2)]) C dX12_layPresses_64 (mem_k 3 rfl) (by decide) h.1 ev13 rfl ?_
    replace h := h.2 v13 ev13
    refine w_goto (tgt := 8) C dX12_layPresses_67 (by decide) ?_
    refine x_pc (pc2 := 8) rfl ?_
    refine x_pick (L' := [(0, vR (some o0)), (1, vI x1), (2, vI x2), (3, vI v13)]) [1, 2, 3, 0] rfl ?_
    exact hK8 v13 M11 h hn12
set_option maxRecDepth 100000 in
set_option maxHeartbeats 4000000 in
theorem k_X12_layPresses_8 {o0 : Nat} {x1 : Int} {x2 : Int} {x3 : Int} {M : Mm} {Q : Mm → Prop} (C : Cx p s m args meth c cX12_layPresses 4 RX12 D cy G n0) (hr : meth.sig.returnType = none) (h3 : n0 = 243) (hn : M.2.2.2 = n0) (ho0 : o0 < 243 ∧ (SH o0).1 = 12) (hQ : ∀ M, Q M → Qp none M) (h : P_X12_layPresses_8 o0 x1 x2 x3 M Q ) : WW p l e ({ frames := 3, cells := 0, slots := 0, locals := 92 }) s m args below meth c (ZQ below args s D cy G n0 Qp n0) 4 D cy G n0 8 [(0, vR (some o0)), (1, vI x1), (2, vI x2), (3, vI x3)] [] M := by
  refine lpW_sound (P := fun y : Int × Mm => y.2.2.2.2 = n0 → WW p l e ({ frames := 3, cells := 0, slots := 0, locals := 92 }) s m args below meth c (ZQ below args s D cy G n0 Qp n0) 4 D cy G n0 8 [(0, vR (some o0)), (1, vI x1), (2, vI x2), (3, vI y.1)] [] y.2) ?_ h hn
  intro K y hK hF
  obtain ⟨x3, M⟩ := y
  intro hn
  exact f_X12_layPresses_8 C hr h3 hn ho0 hQ  (fun x3 M hk => hK (x3, M) hk) hF
set_option maxRecDepth 100000 in
set_option maxHeartbeats 4000000 in
theorem k_X12_layPresses_0 {o0 : Nat} {x1 : Int} {x2 : Int} {M : Mm} {Q : Mm → Prop} (C : Cx p s m args meth c cX12_layPresses 4 RX12 D cy G n0) (hr : meth.sig.returnType = none) (h3 : n0 = 243) (hn : M.2.2.2 = n0) (ho0 : o0 < 243 ∧ (SH o0).1 = 12) (hQ : ∀ M, Q M → Qp none M) (h : P_X12_layPresses o0 x1 x2 M Q ) : WW p l e ({ frames := 3, cells := 0, slots := 0, locals := 92 }) s m args below meth c (ZQ below args s D cy G n0 Qp n0) 4 D cy G n0 0 [(0, vR (some o0)), (1, vI x1), (2, vI x2)] [] M := by
  unfold P_X12_layPresses at h
  refine w_aload_n C dX12_layPresses_0 rfl (mem_k 0 rfl) ?_
  refine w_iload_n C dX12_layPresses_1 rfl (mem_k 1 rfl) ?_
  refine w_iload_n C dX12_layPresses_2 rfl (mem_k 2 rfl) ?_
  refine cl_X12_layLevel (ck_X12_188 ⟨by decide, by decide⟩) C dX12_layPresses_3 hn h3 (Nat.le_of_ble_eq_true rfl) (isO.n (ci := 12) ⟨rfl, ho0⟩ (hn.trans h3)) h (fun M14 h hn15 => ?_)
  refine w_iconst C dX12_layPresses_6 ⟨by decide, by decide⟩ ?_
  refine x_istore_n (L' := [(3, vI 0), (0, vR (some o0)), (1, vI x1), (2, vI x2)]) C dX12_layPresses_7 rfl (by decide) rfl ?_
  refine x_pc (pc2 := 8) rfl ?_
  refine x_pick (L' := [(0, vR (some o0)), (1, vI x1), (2, vI x2), (3, vI 0)]) [1, 2, 3, 0] rfl ?_
  exact k_X12_layPresses_8 C hr h3 hn15 ho0 hQ  h
set_option maxRecDepth 100000 in
set_option maxHeartbeats 4000000 in
theorem con_X12_layPresses (l : Launch) (D : va_G) (cy : Nat → ClassId) : Con l D cy yX12_layPresses cX12_layPresses 4 (none) ({ frames := 3, cells := 0, slots := 0, locals := 92 }) 0 0 SP_X12_layPresses := by
  refine con_of (by decide) (fun as M Qp h => ?_) ?_
  · obtain ⟨-, o0, x1, x2, rfl, -⟩ := h
    exact Nat.le_of_ble_eq_true rfl
  · intro p e s m args below meth c G as M Qp h C hr hnm
    obtain ⟨hn, o0, x1, x2, rfl, ho1, ho2, Q0, hQ, h⟩ := h
    refine x_pick (L' := [(0, vR (some o0)), (1, vI x1), (2, vI x2)]) [0, 1, 2] rfl ?_
    exact k_X12_layPresses_0 C hr hn rfl ⟨ho1, ho2⟩ hQ h
set_option maxRecDepth 100000 in
set_option maxHeartbeats 4000000 in
theorem cl_X12_layPresses {p : Program} {l : Launch} {e : Env} {R : Room} {s : State} {m : MethodId} {args : Array Value} {below : List Frame} {meth : Method} {c : Code} {Q : State → Prop} {cc : ByteArray} {nL : Nat} {own : String} {D : va_G} {cy : Nat → ClassId} {G : Nat × Nat} {n0 pc : Nat} {L : List (Nat × PV)} {st : List PV} {M : Mm} {op : Instr} (K : CallOK l D cy R own op 0 0 (spV 12 2 SP_X12_layPresses)) (C : Cx p s m args meth c cc nL own D cy G n0) (hd : decode cc pc = .ok (op, 3)) (hn : M.2.2.2 = n0) (h3 : n0 = 243) (hlen : argN st ≤ 8) {r : Option Nat} {o0 : Nat} (ho : isOn 12 M.2.2.2 r o0) {x1 : Int} {x2 : Int} {Q0 : Mm → Prop} (h : P_X12_layPresses o0 x1 x2 M Q0) (k : ∀ M2, Q0 M2 → M2.2.2.2 = n0 → WW p l e R s m args below meth c Q nL D cy G n0  (pc + 3) L (st) M2) : WW p l e R s m args below meth c Q nL D cy G n0  pc L (vI x2 :: vI x1 :: vR r :: st) M := by
  obtain ⟨rfl, ho1, ho2⟩ := ho
  refine x_call0 K C hd (as := [vR (some o0), vI x1, vI x2]) rfl hn hlen (fun v M2 => v = none ∧ Q0 M2) ⟨⟨o0, [vI x1, vI x2], rfl, rfl, ho1, ho2⟩, hn.trans h3, o0, x1, x2, rfl, (hn.trans h3) ▸ ho1, ho2, Q0, fun M2 hx => ⟨rfl, hx⟩, h⟩ ?_
  rintro _ _ ⟨rfl, hx⟩ hm
  exact k _ hx hm
end W_X12_layPresses
