/-! model: pure predicates, decode rows, walks, contracts; by program (wip/gen/walk.py) -/
theorem dX12_press_0 : decode cX12_press 0 = .ok (.aload_n 0, 1) := by decide +kernel
theorem dX12_press_1 : decode cX12_press 1 = .ok (.iload_n 1, 1) := by decide +kernel
theorem dX12_press_2 : decode cX12_press 2 = .ok (.invokevirtual 155, 3) := by decide +kernel
theorem dX12_press_5 : decode cX12_press 5 = .ok (.ifCond .eq 25, 3) := by decide +kernel
theorem dX12_press_8 : decode cX12_press 8 = .ok (.aload_n 0, 1) := by decide +kernel
theorem dX12_press_9 : decode cX12_press 9 = .ok (.iload_n 2, 1) := by decide +kernel
theorem dX12_press_10 : decode cX12_press 10 = .ok (.invokevirtual 152, 3) := by decide +kernel
theorem dX12_press_13 : decode cX12_press 13 = .ok (.ifCond .eq 17, 3) := by decide +kernel
theorem dX12_press_16 : decode cX12_press 16 = .ok (.iload_n 3, 1) := by decide +kernel
theorem dX12_press_17 : decode cX12_press 17 = .ok (.iconst (-1), 1) := by decide +kernel
theorem dX12_press_18 : decode cX12_press 18 = .ok (.if_icmp .eq 14, 3) := by decide +kernel
theorem dX12_press_21 : decode cX12_press 21 = .ok (.aload_n 0, 1) := by decide +kernel
theorem dX12_press_22 : decode cX12_press 22 = .ok (.iload_n 2, 1) := by decide +kernel
theorem dX12_press_23 : decode cX12_press 23 = .ok (.iload_n 3, 1) := by decide +kernel
theorem dX12_press_24 : decode cX12_press 24 = .ok (.invokevirtual 195, 3) := by decide +kernel
theorem dX12_press_27 : decode cX12_press 27 = .ok (.ifCond .ne 5, 3) := by decide +kernel
theorem dX12_press_30 : decode cX12_press 30 = .ok (.iconst (-1), 1) := by decide +kernel
theorem dX12_press_31 : decode cX12_press 31 = .ok (.ireturn, 1) := by decide +kernel
theorem dX12_press_32 : decode cX12_press 32 = .ok (.aload_n 0, 1) := by decide +kernel
theorem dX12_press_33 : decode cX12_press 33 = .ok (.iload_n 1, 1) := by decide +kernel
theorem dX12_press_34 : decode cX12_press 34 = .ok (.iload_n 2, 1) := by decide +kernel
theorem dX12_press_35 : decode cX12_press 35 = .ok (.invokevirtual 209, 3) := by decide +kernel
theorem dX12_press_38 : decode cX12_press 38 = .ok (.iload_n 3, 1) := by decide +kernel
theorem dX12_press_39 : decode cX12_press 39 = .ok (.ifCond .lt 10, 3) := by decide +kernel
theorem dX12_press_42 : decode cX12_press 42 = .ok (.aload_n 0, 1) := by decide +kernel
theorem dX12_press_43 : decode cX12_press 43 = .ok (.getfield 68, 3) := by decide +kernel
theorem dX12_press_46 : decode cX12_press 46 = .ok (.iload_n 3, 1) := by decide +kernel
theorem dX12_press_47 : decode cX12_press 47 = .ok (.iaload, 1) := by decide +kernel
theorem dX12_press_48 : decode cX12_press 48 = .ok (.ireturn, 1) := by decide +kernel
theorem dX12_press_49 : decode cX12_press 49 = .ok (.iconst 0, 1) := by decide +kernel
theorem dX12_press_50 : decode cX12_press 50 = .ok (.istore 4, 2) := by decide +kernel
theorem dX12_press_52 : decode cX12_press 52 = .ok (.iconst 1, 1) := by decide +kernel
theorem dX12_press_53 : decode cX12_press 53 = .ok (.istore 5, 2) := by decide +kernel
theorem dX12_press_55 : decode cX12_press 55 = .ok (.iload 5, 2) := by decide +kernel
theorem dX12_press_57 : decode cX12_press 57 = .ok (.aload_n 0, 1) := by decide +kernel
theorem dX12_press_58 : decode cX12_press 58 = .ok (.getfield 31, 3) := by decide +kernel
theorem dX12_press_61 : decode cX12_press 61 = .ok (.bipush 6, 2) := by decide +kernel
theorem dX12_press_63 : decode cX12_press 63 = .ok (.iload_n 2, 1) := by decide +kernel
theorem dX12_press_64 : decode cX12_press 64 = .ok (.iadd, 1) := by decide +kernel
theorem dX12_press_65 : decode cX12_press 65 = .ok (.iaload, 1) := by decide +kernel
theorem dX12_press_66 : decode cX12_press 66 = .ok (.if_icmp .ge 35, 3) := by decide +kernel
theorem dX12_press_69 : decode cX12_press 69 = .ok (.aload_n 0, 1) := by decide +kernel
theorem dX12_press_70 : decode cX12_press 70 = .ok (.getfield 68, 3) := by decide +kernel
theorem dX12_press_73 : decode cX12_press 73 = .ok (.iload 5, 2) := by decide +kernel
theorem dX12_press_75 : decode cX12_press 75 = .ok (.iaload, 1) := by decide +kernel
theorem dX12_press_76 : decode cX12_press 76 = .ok (.aload_n 0, 1) := by decide +kernel
theorem dX12_press_77 : decode cX12_press 77 = .ok (.getfield 68, 3) := by decide +kernel
theorem dX12_press_80 : decode cX12_press 80 = .ok (.iload 4, 2) := by decide +kernel
theorem dX12_press_82 : decode cX12_press 82 = .ok (.iaload, 1) := by decide +kernel
theorem dX12_press_83 : decode cX12_press 83 = .ok (.if_icmp .le 8, 3) := by decide +kernel
theorem dX12_press_86 : decode cX12_press 86 = .ok (.iload 5, 2) := by decide +kernel
theorem dX12_press_88 : decode cX12_press 88 = .ok (.goto 5, 3) := by decide +kernel
theorem dX12_press_91 : decode cX12_press 91 = .ok (.iload 4, 2) := by decide +kernel
theorem dX12_press_93 : decode cX12_press 93 = .ok (.istore 4, 2) := by decide +kernel
theorem dX12_press_95 : decode cX12_press 95 = .ok (.iinc 5 1, 3) := by decide +kernel
theorem dX12_press_98 : decode cX12_press 98 = .ok (.goto (-43), 3) := by decide +kernel
theorem dX12_press_101 : decode cX12_press 101 = .ok (.iload 4, 2) := by decide +kernel
theorem dX12_press_103 : decode cX12_press 103 = .ok (.ireturn, 1) := by decide +kernel
theorem ck_X12_209 {l : Launch} {D : va_G} {cy : Nat → ClassId} {R : Room} (hR : 4 ≤ R.frames ∧ 115 ≤ R.locals) : CallOK l D cy R RX12 (.invokevirtual 209) 0 0 (spV 12 2 SP_X12_layPresses) := call_V (ci := 12) (con_X12_layPresses l D cy) (lwG_5 (i := 53) rfl rfl) (lwG_5 (i := 55) rfl rfl) (lwG_p (i := 33) rfl rfl) (lwG_1 (i := 13) rfl rfl) (lwG_5 (i := 56) rfl rfl) (by decide) ⟨rfl, by decide, by decide, rfl⟩ ⟨rfl, rfl⟩ hR
section W_X12_press
variable {p : Program} {l : Launch} {e : Env} {s : State} {m : MethodId} {args : Array Value} {below : List Frame} {meth : Method} {c : Code} {D : va_G} {cy : Nat → ClassId} {G : Nat × Nat} {n0 : Nat} {Qp : Option PV → Mm → Prop}
set_option maxRecDepth 100000 in
set_option maxHeartbeats 4000000 in
theorem f_X12_press_55 {o0 : Nat} {x2 : Int} {x4 : Int} {x5 : Int} {M : Mm} {Q : Int → Mm → Prop} {K55 : Int × Int → Prop} (C : Cx p s m args meth c cX12_press 6 RX12 D cy G n0) (hr : meth.sig.returnType = some .int) (h3 : n0 = 243) (hn : M.2.2.2 = n0) (ho0 : o0 < 243 ∧ (SH o0).1 = 12) (hQ : ∀ x M, Q x M → Qp (some (vI x)) M) (hK55 : ∀ (x4 : Int) (x5 : Int), K55 (x4, x5) → WW p l e ({ frames := 4, cells := 0, slots := 0, locals := 115 }) s m args below meth c (ZQ below args s D cy G n0 Qp n0) 6 D cy G n0 55 [(0, vR (some o0)), (2, vI x2), (4, vI x4), (5, vI x5)] [] M) (h : F_X12_press_55 o0 x2 M Q  K55 x4 x5) : WW p l e ({ frames := 4, cells := 0, slots := 0, locals := 115 }) s m args below meth c (ZQ below args s D cy G n0 Qp n0) 6 D cy G n0 55 [(0, vR (some o0)), (2, vI x2), (4, vI x4), (5, vI x5)] [] M := by
  unfold F_X12_press_55 at h
  refine w_iload C dX12_press_55 (mem_k 3 rfl) ?_
  refine w_aload_n C dX12_press_57 rfl (mem_k 0 rfl) ?_
  refine x_getR C dX12_press_58 fw_X12_31 (isO.n (ci := 12) ⟨rfl, ho0⟩ (hn.trans h3)) (fun r1 er1 => ?_)
  replace h := h r1 er1
  refine w_bipush C dX12_press_61 (by decide) ?_
  refine w_iload_n C dX12_press_63 rfl (mem_k 1 rfl) ?_
  refine w_iadd C dX12_press_64 h.1 ?_
  replace h := h.2
  obtain ⟨o2, g3, h⟩ := h
  refine x_iald C dX12_press_65 (isA.n g3 (hn.trans h3)) ?_
  refine w_icmp_ge (tgt := 101) C dX12_press_66 (by decide) (fun q => ?_) (fun q => ?_)
  · replace h := h.1 q
    refine w_iload C dX12_press_101 (mem_k 2 rfl) ?_
    exact x_iret C hr dX12_press_103 hn (hQ _ M h)
  · replace h := h.2 q
    refine w_aload_n C dX12_press_69 rfl (mem_k 0 rfl) ?_
    refine x_getR C dX12_press_70 fw_X12_68 (isO.n (ci := 12) ⟨rfl, ho0⟩ (hn.trans h3)) (fun r4 er4 => ?_)
    replace h := h r4 er4
    refine w_iload C dX12_press_73 (mem_k 3 rfl) ?_
    obtain ⟨o5, g6, h⟩ := h
    refine x_iald C dX12_press_75 (isA.n g6 (hn.trans h3)) ?_
    refine w_aload_n C dX12_press_76 rfl (mem_k 0 rfl) ?_
    refine x_getR C dX12_press_77 fw_X12_68 (isO.n (ci := 12) ⟨rfl, ho0⟩ (hn.trans h3)) (fun r7 er7 => ?_)
    replace h := h r7 er7
    refine w_iload C dX12_press_80 (mem_k 2 rfl) ?_
    obtain ⟨o8, g9, h⟩ := h
    refine x_iald C dX12_press_82 (isA.n g9 (hn.trans h3)) ?_
    refine w_icmp_le (tgt := 91) C dX12_press_83 (by decide) (fun q => ?_) (fun q => ?_)
    · replace h := h.1 q
      refine w_iload C dX12_press_91 (mem_k 2 rfl) ?_
      refine x_istore (L' := [(4, vI x4), (0, vR (some o0)), (2, vI x2), (5, vI x5)]) C dX12_press_93 (by decide) rfl ?_
      obtain ⟨v10, ev10⟩ : ∃ z : Int, z = x5 + 1 := ⟨_, rfl⟩
      refine x_iinc (L' := [(5, vI v10), (4, vI x4), (0, vR (some o0)), (2, vI x2)]) C dX12_press_95 (mem_k 3 rfl) (by decide) h.1 ev10 rfl ?_
      replace h := h.2 v10 ev10
      refine w_goto (tgt := 55) C dX12_press_98 (by decide) ?_
      refine x_pc (pc2 := 55) rfl ?_
      refine x_pick (L' := [(0, vR (some o0)), (2, vI x2), (4, vI x4), (5, vI v10)]) [2, 3, 1, 0] rfl ?_
      exact hK55 x4 v10 h
    · replace h := h.2 q
      refine w_iload C dX12_press_86 (mem_k 3 rfl) ?_
      refine w_goto (tgt := 93) C dX12_press_88 (by decide) ?_
      refine x_istore (L' := [(4, vI x5), (0, vR (some o0)), (2, vI x2), (5, vI x5)]) C dX12_press_93 (by decide) rfl ?_
      obtain ⟨v11, ev11⟩ : ∃ z : Int, z = x5 + 1 := ⟨_, rfl⟩
      refine x_iinc (L' := [(5, vI v11), (4, vI x5), (0, vR (some o0)), (2, vI x2)]) C dX12_press_95 (mem_k 3 rfl) (by decide) h.1 ev11 rfl ?_
      replace h := h.2 v11 ev11
      refine w_goto (tgt := 55) C dX12_press_98 (by decide) ?_
      refine x_pc (pc2 := 55) rfl ?_
      refine x_pick (L' := [(0, vR (some o0)), (2, vI x2), (4, vI x5), (5, vI v11)]) [2, 3, 1, 0] rfl ?_
      exact hK55 x5 v11 h
set_option maxRecDepth 100000 in
set_option maxHeartbeats 4000000 in
theorem k_X12_press_55 {o0 : Nat} {x2 : Int} {x4 : Int} {x5 : Int} {M : Mm} {Q : Int → Mm → Prop} (C : Cx p s m args meth c cX12_press 6 RX12 D cy G n0) (hr : meth.sig.returnType = some .int) (h3 : n0 = 243) (hn : M.2.2.2 = n0) (ho0 : o0 < 243 ∧ (SH o0).1 = 12) (hQ : ∀ x M, Q x M → Qp (some (vI x)) M) (h : P_X12_press_55 o0 x2 x4 x5 M Q ) : WW p l e ({ frames := 4, cells := 0, slots := 0, locals := 115 }) s m args below meth c (ZQ below args s D cy G n0 Qp n0) 6 D cy G n0 55 [(0, vR (some o0)), (2, vI x2), (4, vI x4), (5, vI x5)] [] M := by
  refine lpW_sound (P := fun y : Int × Int => WW p l e ({ frames := 4, cells := 0, slots := 0, locals := 115 }) s m args below meth c (ZQ below args s D cy G n0 Qp n0) 6 D cy G n0 55 [(0, vR (some o0)), (2, vI x2), (4, vI y.1), (5, vI y.2)] [] M) ?_ h
  intro K y hK hF
  obtain ⟨x4, x5⟩ := y
  exact f_X12_press_55 C hr h3 hn ho0 hQ  (fun x4 x5 hk => hK (x4, x5) hk) hF
set_option maxRecDepth 100000 in
set_option maxHeartbeats 4000000 in
theorem k_X12_press_32 {o0 : Nat} {x1 : Int} {x2 : Int} {x3 : Int} {M : Mm} {Q : Int → Mm → Prop} (C : Cx p s m args meth c cX12_press 6 RX12 D cy G n0) (hr : meth.sig.returnType = some .int) (h3 : n0 = 243) (hn : M.2.2.2 = n0) (ho0 : o0 < 243 ∧ (SH o0).1 = 12) (hQ : ∀ x M, Q x M → Qp (some (vI x)) M) (h : P_X12_press_32 o0 x1 x2 x3 M Q ) : WW p l e ({ frames := 4, cells := 0, slots := 0, locals := 115 }) s m args below meth c (ZQ below args s D cy G n0 Qp n0) 6 D cy G n0 32 [(0, vR (some o0)), (1, vI x1), (2, vI x2), (3, vI x3)] [] M := by
  unfold P_X12_press_32 at h
  refine w_aload_n C dX12_press_32 rfl (mem_k 0 rfl) ?_
  refine w_iload_n C dX12_press_33 rfl (mem_k 1 rfl) ?_
  refine w_iload_n C dX12_press_34 rfl (mem_k 2 rfl) ?_
  refine cl_X12_layPresses (ck_X12_209 ⟨by decide, by decide⟩) C dX12_press_35 hn h3 (Nat.le_of_ble_eq_true rfl) (isO.n (ci := 12) ⟨rfl, ho0⟩ (hn.trans h3)) h (fun M12 h hn13 => ?_)
  refine w_iload_n C dX12_press_38 rfl (mem_k 3 rfl) ?_
  refine w_if_lt (tgt := 49) C dX12_press_39 (by decide) (fun q => ?_) (fun q => ?_)
  · replace h := h.1 q
    refine w_iconst C dX12_press_49 ⟨by decide, by decide⟩ ?_
    refine x_istore (L' := [(4, vI 0), (0, vR (some o0)), (1, vI x1), (2, vI x2), (3, vI x3)]) C dX12_press_50 (by decide) rfl ?_
    refine w_iconst C dX12_press_52 ⟨by decide, by decide⟩ ?_
    refine x_istore (L' := [(5, vI 1), (4, vI 0), (0, vR (some o0)), (1, vI x1), (2, vI x2), (3, vI x3)]) C dX12_press_53 (by decide) rfl ?_
    refine x_pc (pc2 := 55) rfl ?_
    refine x_pick (L' := [(0, vR (some o0)), (2, vI x2), (4, vI 0), (5, vI 1)]) [2, 4, 1, 0] rfl ?_
    exact k_X12_press_55 C hr h3 hn13 ho0 hQ  h
  · replace h := h.2 q
    refine w_aload_n C dX12_press_42 rfl (mem_k 0 rfl) ?_
    refine x_getR C dX12_press_43 fw_X12_68 (isO.n (ci := 12) ⟨rfl, ho0⟩ (hn13.trans h3)) (fun r14 er14 => ?_)
    replace h := h r14 er14
    refine w_iload_n C dX12_press_46 rfl (mem_k 3 rfl) ?_
    obtain ⟨o15, g16, h⟩ := h
    refine x_iald C dX12_press_47 (isA.n g16 (hn13.trans h3)) ?_
    exact x_iret C hr dX12_press_48 hn13 (hQ _ M12 h)
set_option maxRecDepth 100000 in
set_option maxHeartbeats 4000000 in
theorem k_X12_press_0 {o0 : Nat} {x1 : Int} {x2 : Int} {x3 : Int} {M : Mm} {Q : Int → Mm → Prop} (C : Cx p s m args meth c cX12_press 6 RX12 D cy G n0) (hr : meth.sig.returnType = some .int) (h3 : n0 = 243) (hn : M.2.2.2 = n0) (ho0 : o0 < 243 ∧ (SH o0).1 = 12) (hQ : ∀ x M, Q x M → Qp (some (vI x)) M) (h : P_X12_press o0 x1 x2 x3 M Q ) : WW p l e ({ frames := 4, cells := 0, slots := 0, locals := 115 }) s m args below meth c (ZQ below args s D cy G n0 Qp n0) 6 D cy G n0 0 [(0, vR (some o0)), (1, vI x1), (2, vI x2), (3, vI x3)] [] M := by
  unfold P_X12_press at h
  refine w_aload_n C dX12_press_0 rfl (mem_k 0 rfl) ?_
  refine w_iload_n C dX12_press_1 rfl (mem_k 1 rfl) ?_
  refine cl_X12_isBody (ck_X12_155 ⟨by decide, by decide⟩) C dX12_press_2 hn h3 (Nat.le_of_ble_eq_true rfl) (isO.n (ci := 12) ⟨rfl, ho0⟩ (hn.trans h3)) h (fun v17 h => ?_)
  refine w_if_eq (tgt := 30) C dX12_press_5 (by decide) (fun q => ?_) (fun q => ?_)
  · replace h := h.1 q
    refine w_iconst C dX12_press_30 ⟨by decide, by decide⟩ ?_
    exact x_iret C hr dX12_press_31 hn (hQ _ M h)
  · replace h := h.2 q
    refine w_aload_n C dX12_press_8 rfl (mem_k 0 rfl) ?_
    refine w_iload_n C dX12_press_9 rfl (mem_k 2 rfl) ?_
    refine cl_X12_isSeat (ck_X12_152 ⟨by decide, by decide⟩) C dX12_press_10 hn h3 (Nat.le_of_ble_eq_true rfl) (isO.n (ci := 12) ⟨rfl, ho0⟩ (hn.trans h3)) h (fun v18 h => ?_)
    refine w_if_eq (tgt := 30) C dX12_press_13 (by decide) (fun q => ?_) (fun q => ?_)
    · replace h := h.1 q
      refine w_iconst C dX12_press_30 ⟨by decide, by decide⟩ ?_
      exact x_iret C hr dX12_press_31 hn (hQ _ M h)
    · replace h := h.2 q
      refine w_iload_n C dX12_press_16 rfl (mem_k 3 rfl) ?_
      refine w_iconst C dX12_press_17 ⟨by decide, by decide⟩ ?_
      refine w_icmp_eq (tgt := 32) C dX12_press_18 (by decide) (fun q => ?_) (fun q => ?_)
      · replace h := h.1 q
        refine x_pc (pc2 := 32) rfl ?_
        refine x_pick (L' := [(0, vR (some o0)), (1, vI x1), (2, vI x2), (3, vI x3)]) [0, 1, 2, 3] rfl ?_
        exact k_X12_press_32 C hr h3 hn ho0 hQ  h
      · replace h := h.2 q
        refine w_aload_n C dX12_press_21 rfl (mem_k 0 rfl) ?_
        refine w_iload_n C dX12_press_22 rfl (mem_k 2 rfl) ?_
        refine w_iload_n C dX12_press_23 rfl (mem_k 3 rfl) ?_
        refine cl_X12_isPatch (ck_X12_195 ⟨by decide, by decide⟩) C dX12_press_24 hn h3 (Nat.le_of_ble_eq_true rfl) (isO.n (ci := 12) ⟨rfl, ho0⟩ (hn.trans h3)) h (fun v19 h => ?_)
        refine w_if_ne (tgt := 32) C dX12_press_27 (by decide) (fun q => ?_) (fun q => ?_)
        · replace h := h.1 q
          refine x_pc (pc2 := 32) rfl ?_
          refine x_pick (L' := [(0, vR (some o0)), (1, vI x1), (2, vI x2), (3, vI x3)]) [0, 1, 2, 3] rfl ?_
          exact k_X12_press_32 C hr h3 hn ho0 hQ  h
        · replace h := h.2 q
          refine w_iconst C dX12_press_30 ⟨by decide, by decide⟩ ?_
          exact x_iret C hr dX12_press_31 hn (hQ _ M h)
set_option maxRecDepth 100000 in
set_option maxHeartbeats 4000000 in
theorem con_X12_press (l : Launch) (D : va_G) (cy : Nat → ClassId) : Con l D cy yX12_press cX12_press 6 (some .int) ({ frames := 4, cells := 0, slots := 0, locals := 115 }) 0 0 SP_X12_press := by
  refine con_of (by decide) (fun as M Qp h => ?_) ?_
  · obtain ⟨-, o0, x1, x2, x3, rfl, -⟩ := h
    exact Nat.le_of_ble_eq_true rfl
  · intro p e s m args below meth c G as M Qp h C hr hnm
    obtain ⟨hn, o0, x1, x2, x3, rfl, ho1, ho2, Q0, hQ, h⟩ := h
    refine x_pick (L' := [(0, vR (some o0)), (1, vI x1), (2, vI x2), (3, vI x3)]) [0, 1, 2, 3] rfl ?_
    exact k_X12_press_0 C hr hn rfl ⟨ho1, ho2⟩ hQ h
set_option maxRecDepth 100000 in
set_option maxHeartbeats 4000000 in
theorem cl_X12_press {p : Program} {l : Launch} {e : Env} {R : Room} {s : State} {m : MethodId} {args : Array Value} {below : List Frame} {meth : Method} {c : Code} {Q : State → Prop} {cc : ByteArray} {nL : Nat} {own : String} {D : va_G} {cy : Nat → ClassId} {G : Nat × Nat} {n0 pc : Nat} {L : List (Nat × PV)} {st : List PV} {M : Mm} {op : Instr} (K : CallOK l D cy R own op 0 0 (spV 12 3 SP_X12_press)) (C : Cx p s m args meth c cc nL own D cy G n0) (hd : decode cc pc = .ok (op, 3)) (hn : M.2.2.2 = n0) (h3 : n0 = 243) (hlen : argN st ≤ 8) {r : Option Nat} {o0 : Nat} (ho : isOn 12 M.2.2.2 r o0) {x1 : Int} {x2 : Int} {x3 : Int} {Q0 : Int → Mm → Prop} (h : P_X12_press o0 x1 x2 x3 M Q0) (k : ∀ x M2, Q0 x M2 → M2.2.2.2 = n0 → WW p l e R s m args below meth c Q nL D cy G n0  (pc + 3) L (vI x :: st) M2) : WW p l e R s m args below meth c Q nL D cy G n0  pc L (vI x3 :: vI x2 :: vI x1 :: vR r :: st) M := by
  obtain ⟨rfl, ho1, ho2⟩ := ho
  refine x_call0 K C hd (as := [vR (some o0), vI x1, vI x2, vI x3]) rfl hn hlen (fun v M2 => ∃ x, v = some (vI x) ∧ Q0 x M2) ⟨⟨o0, [vI x1, vI x2, vI x3], rfl, rfl, ho1, ho2⟩, hn.trans h3, o0, x1, x2, x3, rfl, (hn.trans h3) ▸ ho1, ho2, Q0, fun x M2 hx => ⟨x, rfl, hx⟩, h⟩ ?_
  rintro _ _ ⟨x, rfl, hx⟩ hm
  exact k x _ hx hm
end W_X12_press
theorem dX12_slack_0 : decode cX12_slack 0 = .ok (.iload_n 1, 1) := by decide +kernel
theorem dX12_slack_1 : decode cX12_slack 1 = .ok (.i2l, 1) := by decide +kernel
theorem dX12_slack_2 : decode cX12_slack 2 = .ok (.lconst 0, 1) := by decide +kernel
theorem dX12_slack_3 : decode cX12_slack 3 = .ok (.ldc2_w 109, 3) := by decide +kernel
theorem dX12_slack_6 : decode cX12_slack 6 = .ok (.invokestatic 85, 3) := by decide +kernel
theorem dX12_slack_9 : decode cX12_slack 9 = .ok (.ifCond .ne 5, 3) := by decide +kernel
theorem dX12_slack_12 : decode cX12_slack 12 = .ok (.iconst (-1), 1) := by decide +kernel
theorem dX12_slack_13 : decode cX12_slack 13 = .ok (.ireturn, 1) := by decide +kernel
theorem dX12_slack_14 : decode cX12_slack 14 = .ok (.aload_n 0, 1) := by decide +kernel
theorem dX12_slack_15 : decode cX12_slack 15 = .ok (.getfield 52, 3) := by decide +kernel
theorem dX12_slack_18 : decode cX12_slack 18 = .ok (.istore_n 2, 1) := by decide +kernel
theorem dX12_slack_19 : decode cX12_slack 19 = .ok (.aload_n 0, 1) := by decide +kernel
theorem dX12_slack_20 : decode cX12_slack 20 = .ok (.iload_n 1, 1) := by decide +kernel
theorem dX12_slack_21 : decode cX12_slack 21 = .ok (.putfield 52, 3) := by decide +kernel
theorem dX12_slack_24 : decode cX12_slack 24 = .ok (.iload_n 2, 1) := by decide +kernel
theorem dX12_slack_25 : decode cX12_slack 25 = .ok (.ireturn, 1) := by decide +kernel
theorem fw_X12_52 : fI RX12 52 12 17 := ⟨⟨lwG_4 (i := 81) rfl rfl, by decide, by decide⟩, rfl⟩
section W_X12_slack
variable {p : Program} {l : Launch} {e : Env} {s : State} {m : MethodId} {args : Array Value} {below : List Frame} {meth : Method} {c : Code} {D : va_G} {cy : Nat → ClassId} {G : Nat × Nat} {n0 : Nat} {Qp : Option PV → Mm → Prop}
set_option maxRecDepth 100000 in
set_option maxHeartbeats 4000000 in
theorem k_X12_slack_0 {o0 : Nat} {x1 : Int} {M : Mm} {Q : Int → Mm → Prop} (C : Cx p s m args meth c cX12_slack 3 RX12 D cy G n0) (hr : meth.sig.returnType = some .int) (h3 : n0 = 243) (hn : M.2.2.2 = n0) (ho0 : o0 < 243 ∧ (SH o0).1 = 12) (hQ : ∀ x M, Q x M → Qp (some (vI x)) M) (h : P_X12_slack o0 x1 M Q ) : WW p l e ({ frames := 1, cells := 0, slots := 0, locals := 25 }) s m args below meth c (ZQ below args s D cy G n0 Qp n0) 3 D cy G n0 0 [(0, vR (some o0)), (1, vI x1)] [] M := by
  unfold P_X12_slack at h
  refine w_iload_n C dX12_slack_0 rfl (mem_k 1 rfl) ?_
  refine w_i2l C dX12_slack_1 ?_
  refine w_lconst C dX12_slack_2 ?_
  refine w_ldc2 (x := 300) C dX12_slack_3 cn_X12_109 ⟨by decide, by decide⟩ ?_
  refine cl_X12_in (ck_X12_85 ⟨by decide, by decide⟩) C dX12_slack_6 hn h3 (Nat.le_of_ble_eq_true rfl) h (fun v1 h => ?_)
  refine w_if_ne (tgt := 14) C dX12_slack_9 (by decide) (fun q => ?_) (fun q => ?_)
  · replace h := h.1 q
    refine w_aload_n C dX12_slack_14 rfl (mem_k 0 rfl) ?_
    refine x_getI C dX12_slack_15 fw_X12_52 (isO.n (ci := 12) ⟨rfl, ho0⟩ (hn.trans h3)) ?_
    refine x_nmI (fun v2 ev2 => ?_)
    replace h := h v2 ev2
    refine x_istore_n (L' := [(2, vI v2), (0, vR (some o0)), (1, vI x1)]) C dX12_slack_18 rfl (by decide) rfl ?_
    refine w_aload_n C dX12_slack_19 rfl (mem_k 1 rfl) ?_
    refine w_iload_n C dX12_slack_20 rfl (mem_k 2 rfl) ?_
    refine x_putI C dX12_slack_21 fw_X12_52 (isO.n (ci := 12) ⟨rfl, ho0⟩ (hn.trans h3)) (Or.inl rfl) (fun M3 eM3 hn4 => ?_)
    replace h := h M3 eM3
    replace hn4 := hn4.trans hn
    refine w_iload_n C dX12_slack_24 rfl (mem_k 0 rfl) ?_
    exact x_iret C hr dX12_slack_25 hn4 (hQ _ M3 h)
  · replace h := h.2 q
    refine w_iconst C dX12_slack_12 ⟨by decide, by decide⟩ ?_
    exact x_iret C hr dX12_slack_13 hn (hQ _ M h)
set_option maxRecDepth 100000 in
set_option maxHeartbeats 4000000 in
theorem con_X12_slack (l : Launch) (D : va_G) (cy : Nat → ClassId) : Con l D cy yX12_slack cX12_slack 3 (some .int) ({ frames := 1, cells := 0, slots := 0, locals := 25 }) 0 0 SP_X12_slack := by
  refine con_of (by decide) (fun as M Qp h => ?_) ?_
  · obtain ⟨-, o0, x1, rfl, -⟩ := h
    exact Nat.le_of_ble_eq_true rfl
  · intro p e s m args below meth c G as M Qp h C hr hnm
    obtain ⟨hn, o0, x1, rfl, ho1, ho2, Q0, hQ, h⟩ := h
    refine x_pick (L' := [(0, vR (some o0)), (1, vI x1)]) [0, 1] rfl ?_
    exact k_X12_slack_0 C hr hn rfl ⟨ho1, ho2⟩ hQ h
set_option maxRecDepth 100000 in
set_option maxHeartbeats 4000000 in
theorem cl_X12_slack {p : Program} {l : Launch} {e : Env} {R : Room} {s : State} {m : MethodId} {args : Array Value} {below : List Frame} {meth : Method} {c : Code} {Q : State → Prop} {cc : ByteArray} {nL : Nat} {own : String} {D : va_G} {cy : Nat → ClassId} {G : Nat × Nat} {n0 pc : Nat} {L : List (Nat × PV)} {st : List PV} {M : Mm} {op : Instr} (K : CallOK l D cy R own op 0 0 (spV 12 1 SP_X12_slack)) (C : Cx p s m args meth c cc nL own D cy G n0) (hd : decode cc pc = .ok (op, 3)) (hn : M.2.2.2 = n0) (h3 : n0 = 243) (hlen : argN st ≤ 8) {r : Option Nat} {o0 : Nat} (ho : isOn 12 M.2.2.2 r o0) {x1 : Int} {Q0 : Int → Mm → Prop} (h : P_X12_slack o0 x1 M Q0) (k : ∀ x M2, Q0 x M2 → M2.2.2.2 = n0 → WW p l e R s m args below meth c Q nL D cy G n0  (pc + 3) L (vI x :: st) M2) : WW p l e R s m args below meth c Q nL D cy G n0  pc L (vI x1 :: vR r :: st) M := by
  obtain ⟨rfl, ho1, ho2⟩ := ho
  refine x_call0 K C hd (as := [vR (some o0), vI x1]) rfl hn hlen (fun v M2 => ∃ x, v = some (vI x) ∧ Q0 x M2) ⟨⟨o0, [vI x1], rfl, rfl, ho1, ho2⟩, hn.trans h3, o0, x1, rfl, (hn.trans h3) ▸ ho1, ho2, Q0, fun x M2 hx => ⟨x, rfl, hx⟩, h⟩ ?_
  rintro _ _ ⟨x, rfl, hx⟩ hm
  exact k x _ hx hm
end W_X12_slack
theorem dX12_fitsAt_0 : decode cX12_fitsAt 0 = .ok (.bipush 6, 2) := by decide +kernel
theorem dX12_fitsAt_2 : decode cX12_fitsAt 2 = .ok (.iload_n 1, 1) := by decide +kernel
theorem dX12_fitsAt_3 : decode cX12_fitsAt 3 = .ok (.imul, 1) := by decide +kernel
theorem dX12_fitsAt_4 : decode cX12_fitsAt 4 = .ok (.istore 5, 2) := by decide +kernel
theorem dX12_fitsAt_6 : decode cX12_fitsAt 6 = .ok (.bipush 24, 2) := by decide +kernel
theorem dX12_fitsAt_8 : decode cX12_fitsAt 8 = .ok (.iconst 4, 1) := by decide +kernel
theorem dX12_fitsAt_9 : decode cX12_fitsAt 9 = .ok (.iload_n 2, 1) := by decide +kernel
theorem dX12_fitsAt_10 : decode cX12_fitsAt 10 = .ok (.imul, 1) := by decide +kernel
theorem dX12_fitsAt_11 : decode cX12_fitsAt 11 = .ok (.iadd, 1) := by decide +kernel
theorem dX12_fitsAt_12 : decode cX12_fitsAt 12 = .ok (.istore 6, 2) := by decide +kernel
theorem dX12_fitsAt_14 : decode cX12_fitsAt 14 = .ok (.aload_n 0, 1) := by decide +kernel
theorem dX12_fitsAt_15 : decode cX12_fitsAt 15 = .ok (.getfield 28, 3) := by decide +kernel
theorem dX12_fitsAt_18 : decode cX12_fitsAt 18 = .ok (.iload 6, 2) := by decide +kernel
theorem dX12_fitsAt_20 : decode cX12_fitsAt 20 = .ok (.iaload, 1) := by decide +kernel
theorem dX12_fitsAt_21 : decode cX12_fitsAt 21 = .ok (.bipush 20, 2) := by decide +kernel
theorem dX12_fitsAt_23 : decode cX12_fitsAt 23 = .ok (.iload_n 3, 1) := by decide +kernel
theorem dX12_fitsAt_24 : decode cX12_fitsAt 24 = .ok (.imul, 1) := by decide +kernel
theorem dX12_fitsAt_25 : decode cX12_fitsAt 25 = .ok (.iadd, 1) := by decide +kernel
theorem dX12_fitsAt_26 : decode cX12_fitsAt 26 = .ok (.istore 7, 2) := by decide +kernel
theorem dX12_fitsAt_28 : decode cX12_fitsAt 28 = .ok (.aload_n 0, 1) := by decide +kernel
theorem dX12_fitsAt_29 : decode cX12_fitsAt 29 = .ok (.getfield 43, 3) := by decide +kernel
theorem dX12_fitsAt_32 : decode cX12_fitsAt 32 = .ok (.iload 5, 2) := by decide +kernel
theorem dX12_fitsAt_34 : decode cX12_fitsAt 34 = .ok (.iconst 1, 1) := by decide +kernel
theorem dX12_fitsAt_35 : decode cX12_fitsAt 35 = .ok (.iadd, 1) := by decide +kernel
theorem dX12_fitsAt_36 : decode cX12_fitsAt 36 = .ok (.iaload, 1) := by decide +kernel
theorem dX12_fitsAt_37 : decode cX12_fitsAt 37 = .ok (.i2l, 1) := by decide +kernel
theorem dX12_fitsAt_38 : decode cX12_fitsAt 38 = .ok (.iload 7, 2) := by decide +kernel
theorem dX12_fitsAt_40 : decode cX12_fitsAt 40 = .ok (.i2l, 1) := by decide +kernel
theorem dX12_fitsAt_41 : decode cX12_fitsAt 41 = .ok (.iload 7, 2) := by decide +kernel
theorem dX12_fitsAt_43 : decode cX12_fitsAt 43 = .ok (.aload_n 0, 1) := by decide +kernel
theorem dX12_fitsAt_44 : decode cX12_fitsAt 44 = .ok (.getfield 52, 3) := by decide +kernel
theorem dX12_fitsAt_47 : decode cX12_fitsAt 47 = .ok (.iadd, 1) := by decide +kernel
theorem dX12_fitsAt_48 : decode cX12_fitsAt 48 = .ok (.i2l, 1) := by decide +kernel
theorem dX12_fitsAt_49 : decode cX12_fitsAt 49 = .ok (.invokestatic 85, 3) := by decide +kernel
theorem dX12_fitsAt_52 : decode cX12_fitsAt 52 = .ok (.istore 8, 2) := by decide +kernel
theorem dX12_fitsAt_54 : decode cX12_fitsAt 54 = .ok (.aload_n 0, 1) := by decide +kernel
theorem dX12_fitsAt_55 : decode cX12_fitsAt 55 = .ok (.getfield 43, 3) := by decide +kernel
theorem dX12_fitsAt_58 : decode cX12_fitsAt 58 = .ok (.iload 5, 2) := by decide +kernel
theorem dX12_fitsAt_60 : decode cX12_fitsAt 60 = .ok (.iconst 4, 1) := by decide +kernel
theorem dX12_fitsAt_61 : decode cX12_fitsAt 61 = .ok (.iadd, 1) := by decide +kernel
theorem dX12_fitsAt_62 : decode cX12_fitsAt 62 = .ok (.iaload, 1) := by decide +kernel
theorem dX12_fitsAt_63 : decode cX12_fitsAt 63 = .ok (.aload_n 0, 1) := by decide +kernel
theorem dX12_fitsAt_64 : decode cX12_fitsAt 64 = .ok (.getfield 28, 3) := by decide +kernel
theorem dX12_fitsAt_67 : decode cX12_fitsAt 67 = .ok (.iload 6, 2) := by decide +kernel
theorem dX12_fitsAt_69 : decode cX12_fitsAt 69 = .ok (.iconst 3, 1) := by decide +kernel
theorem dX12_fitsAt_70 : decode cX12_fitsAt 70 = .ok (.iadd, 1) := by decide +kernel
theorem dX12_fitsAt_71 : decode cX12_fitsAt 71 = .ok (.iaload, 1) := by decide +kernel
theorem dX12_fitsAt_72 : decode cX12_fitsAt 72 = .ok (.if_icmp .gt 63, 3) := by decide +kernel
theorem dX12_fitsAt_75 : decode cX12_fitsAt 75 = .ok (.iload 8, 2) := by decide +kernel
theorem dX12_fitsAt_77 : decode cX12_fitsAt 77 = .ok (.ifCond .eq 58, 3) := by decide +kernel
theorem dX12_fitsAt_80 : decode cX12_fitsAt 80 = .ok (.aload_n 0, 1) := by decide +kernel
theorem dX12_fitsAt_81 : decode cX12_fitsAt 81 = .ok (.getfield 43, 3) := by decide +kernel
theorem dX12_fitsAt_84 : decode cX12_fitsAt 84 = .ok (.iload 5, 2) := by decide +kernel
theorem dX12_fitsAt_86 : decode cX12_fitsAt 86 = .ok (.iconst 2, 1) := by decide +kernel
theorem dX12_fitsAt_87 : decode cX12_fitsAt 87 = .ok (.iadd, 1) := by decide +kernel
theorem dX12_fitsAt_88 : decode cX12_fitsAt 88 = .ok (.iaload, 1) := by decide +kernel
theorem dX12_fitsAt_89 : decode cX12_fitsAt 89 = .ok (.aload_n 0, 1) := by decide +kernel
theorem dX12_fitsAt_90 : decode cX12_fitsAt 90 = .ok (.getfield 28, 3) := by decide +kernel
theorem dX12_fitsAt_93 : decode cX12_fitsAt 93 = .ok (.iload 6, 2) := by decide +kernel
theorem dX12_fitsAt_95 : decode cX12_fitsAt 95 = .ok (.iconst 1, 1) := by decide +kernel
theorem dX12_fitsAt_96 : decode cX12_fitsAt 96 = .ok (.iadd, 1) := by decide +kernel
theorem dX12_fitsAt_97 : decode cX12_fitsAt 97 = .ok (.iaload, 1) := by decide +kernel
theorem dX12_fitsAt_98 : decode cX12_fitsAt 98 = .ok (.bipush 30, 2) := by decide +kernel
theorem dX12_fitsAt_100 : decode cX12_fitsAt 100 = .ok (.iload 4, 2) := by decide +kernel
theorem dX12_fitsAt_102 : decode cX12_fitsAt 102 = .ok (.imul, 1) := by decide +kernel
theorem dX12_fitsAt_103 : decode cX12_fitsAt 103 = .ok (.iadd, 1) := by decide +kernel
theorem dX12_fitsAt_104 : decode cX12_fitsAt 104 = .ok (.if_icmp .lt 31, 3) := by decide +kernel
theorem dX12_fitsAt_107 : decode cX12_fitsAt 107 = .ok (.aload_n 0, 1) := by decide +kernel
theorem dX12_fitsAt_108 : decode cX12_fitsAt 108 = .ok (.getfield 43, 3) := by decide +kernel
theorem dX12_fitsAt_111 : decode cX12_fitsAt 111 = .ok (.iload 5, 2) := by decide +kernel
theorem dX12_fitsAt_113 : decode cX12_fitsAt 113 = .ok (.iconst 3, 1) := by decide +kernel
theorem dX12_fitsAt_114 : decode cX12_fitsAt 114 = .ok (.iadd, 1) := by decide +kernel
theorem dX12_fitsAt_115 : decode cX12_fitsAt 115 = .ok (.iaload, 1) := by decide +kernel
theorem dX12_fitsAt_116 : decode cX12_fitsAt 116 = .ok (.iload 7, 2) := by decide +kernel
theorem dX12_fitsAt_118 : decode cX12_fitsAt 118 = .ok (.iadd, 1) := by decide +kernel
theorem dX12_fitsAt_119 : decode cX12_fitsAt 119 = .ok (.aload_n 0, 1) := by decide +kernel
theorem dX12_fitsAt_120 : decode cX12_fitsAt 120 = .ok (.getfield 28, 3) := by decide +kernel
theorem dX12_fitsAt_123 : decode cX12_fitsAt 123 = .ok (.iload 6, 2) := by decide +kernel
theorem dX12_fitsAt_125 : decode cX12_fitsAt 125 = .ok (.iconst 2, 1) := by decide +kernel
theorem dX12_fitsAt_126 : decode cX12_fitsAt 126 = .ok (.iadd, 1) := by decide +kernel
theorem dX12_fitsAt_127 : decode cX12_fitsAt 127 = .ok (.iaload, 1) := by decide +kernel
theorem dX12_fitsAt_128 : decode cX12_fitsAt 128 = .ok (.if_icmp .lt 7, 3) := by decide +kernel
theorem dX12_fitsAt_131 : decode cX12_fitsAt 131 = .ok (.iconst 1, 1) := by decide +kernel
theorem dX12_fitsAt_132 : decode cX12_fitsAt 132 = .ok (.goto 4, 3) := by decide +kernel
theorem dX12_fitsAt_135 : decode cX12_fitsAt 135 = .ok (.iconst 0, 1) := by decide +kernel
theorem dX12_fitsAt_136 : decode cX12_fitsAt 136 = .ok (.ireturn, 1) := by decide +kernel
section W_X12_fitsAt
variable {p : Program} {l : Launch} {e : Env} {s : State} {m : MethodId} {args : Array Value} {below : List Frame} {meth : Method} {c : Code} {D : va_G} {cy : Nat → ClassId} {G : Nat × Nat} {n0 : Nat} {Qp : Option PV → Mm → Prop}
set_option maxRecDepth 100000 in
set_option maxHeartbeats 4000000 in
theorem k_X12_fitsAt_0 {o0 : Nat} {x1 : Int} {x2 : Int} {x3 : Int} {x4 : Int} {M : Mm} {Q : Int → Prop} (C : Cx p s m args meth c cX12_fitsAt 9 RX12 D cy G n0) (hr : meth.sig.returnType = some .boolean) (h3 : n0 = 243) (hn : M.2.2.2 = n0) (ho0 : o0 < 243 ∧ (SH o0).1 = 12) (hQ : ∀ x, Q x → Qp (some (vI x)) M) (h : P_X12_fitsAt o0 x1 x2 x3 x4 M Q ) : WW p l e ({ frames := 1, cells := 0, slots := 0, locals := 25 }) s m args below meth c (ZQ below args s D cy G n0 Qp n0) 9 D cy G n0 0 [(0, vR (some o0)), (1, vI x1), (2, vI x2), (3, vI x3), (4, vI x4)] [] M := by
  unfold P_X12_fitsAt at h
  refine w_bipush C dX12_fitsAt_0 (by decide) ?_
  refine w_iload_n C dX12_fitsAt_2 rfl (mem_k 1 rfl) ?_
  refine w_imul C dX12_fitsAt_3 h.1 ?_
  replace h := h.2
  refine x_nmI (fun v1 ev1 => ?_)
  replace h := h v1 ev1
  refine x_istore (L' := [(5, vI v1), (0, vR (some o0)), (1, vI x1), (2, vI x2), (3, vI x3), (4, vI x4)]) C dX12_fitsAt_4 (by decide) rfl ?_
  refine w_bipush C dX12_fitsAt_6 (by decide) ?_
  refine w_iconst C dX12_fitsAt_8 ⟨by decide, by decide⟩ ?_
  refine w_iload_n C dX12_fitsAt_9 rfl (mem_k 3 rfl) ?_
  refine w_imul C dX12_fitsAt_10 h.1 ?_
  replace h := h.2
  refine w_iadd C dX12_fitsAt_11 h.1 ?_
  replace h := h.2
  refine x_nmI (fun v2 ev2 => ?_)
  replace h := h v2 ev2
  refine x_istore (L' := [(6, vI v2), (5, vI v1), (0, vR (some o0)), (1, vI x1), (2, vI x2), (3, vI x3), (4, vI x4)]) C dX12_fitsAt_12 (by decide) rfl ?_
  refine w_aload_n C dX12_fitsAt_14 rfl (mem_k 2 rfl) ?_
  refine x_getR C dX12_fitsAt_15 fw_X12_28 (isO.n (ci := 12) ⟨rfl, ho0⟩ (hn.trans h3)) (fun r3 er3 => ?_)
  replace h := h r3 er3
  refine w_iload C dX12_fitsAt_18 (mem_k 0 rfl) ?_
  obtain ⟨o4, g5, h⟩ := h
  refine x_iald C dX12_fitsAt_20 (isA.n g5 (hn.trans h3)) ?_
  refine w_bipush C dX12_fitsAt_21 (by decide) ?_
  refine w_iload_n C dX12_fitsAt_23 rfl (mem_k 5 rfl) ?_
  refine w_imul C dX12_fitsAt_24 h.1 ?_
  replace h := h.2
  refine w_iadd C dX12_fitsAt_25 h.1 ?_
  replace h := h.2
  refine x_nmI (fun v6 ev6 => ?_)
  replace h := h v6 ev6
  refine x_istore (L' := [(7, vI v6), (6, vI v2), (5, vI v1), (0, vR (some o0)), (1, vI x1), (2, vI x2), (3, vI x3), (4, vI x4)]) C dX12_fitsAt_26 (by decide) rfl ?_
  refine w_aload_n C dX12_fitsAt_28 rfl (mem_k 3 rfl) ?_
  refine x_getR C dX12_fitsAt_29 fw_X12_43 (isO.n (ci := 12) ⟨rfl, ho0⟩ (hn.trans h3)) (fun r7 er7 => ?_)
  replace h := h r7 er7
  refine w_iload C dX12_fitsAt_32 (mem_k 2 rfl) ?_
  refine w_iconst C dX12_fitsAt_34 ⟨by decide, by decide⟩ ?_
  refine w_iadd C dX12_fitsAt_35 h.1 ?_
  replace h := h.2
  obtain ⟨o8, g9, h⟩ := h
  refine x_iald C dX12_fitsAt_36 (isA.n g9 (hn.trans h3)) ?_
  refine w_i2l C dX12_fitsAt_37 ?_
  refine w_iload C dX12_fitsAt_38 (mem_k 0 rfl) ?_
  refine w_i2l C dX12_fitsAt_40 ?_
  refine w_iload C dX12_fitsAt_41 (mem_k 0 rfl) ?_
  refine w_aload_n C dX12_fitsAt_43 rfl (mem_k 3 rfl) ?_
  refine x_getI C dX12_fitsAt_44 fw_X12_52 (isO.n (ci := 12) ⟨rfl, ho0⟩ (hn.trans h3)) ?_
  refine w_iadd C dX12_fitsAt_47 h.1 ?_
  replace h := h.2
  refine w_i2l C dX12_fitsAt_48 ?_
  refine cl_X12_in (ck_X12_85 ⟨by decide, by decide⟩) C dX12_fitsAt_49 hn h3 (Nat.le_of_ble_eq_true rfl) h (fun v10 h => ?_)
  refine x_istore (L' := [(8, vI v10), (7, vI v6), (6, vI v2), (5, vI v1), (0, vR (some o0)), (1, vI x1), (2, vI x2), (3, vI x3), (4, vI x4)]) C dX12_fitsAt_52 (by decide) rfl ?_
  refine w_aload_n C dX12_fitsAt_54 rfl (mem_k 4 rfl) ?_
  refine x_getR C dX12_fitsAt_55 fw_X12_43 (isO.n (ci := 12) ⟨rfl, ho0⟩ (hn.trans h3)) (fun r11 er11 => ?_)
  replace h := h r11 er11
  refine w_iload C dX12_fitsAt_58 (mem_k 3 rfl) ?_
  refine w_iconst C dX12_fitsAt_60 ⟨by decide, by decide⟩ ?_
  refine w_iadd C dX12_fitsAt_61 h.1 ?_
  replace h := h.2
  obtain ⟨o12, g13, h⟩ := h
  refine x_iald C dX12_fitsAt_62 (isA.n g13 (hn.trans h3)) ?_
  refine w_aload_n C dX12_fitsAt_63 rfl (mem_k 4 rfl) ?_
  refine x_getR C dX12_fitsAt_64 fw_X12_28 (isO.n (ci := 12) ⟨rfl, ho0⟩ (hn.trans h3)) (fun r14 er14 => ?_)
  replace h := h r14 er14
  refine w_iload C dX12_fitsAt_67 (mem_k 2 rfl) ?_
  refine w_iconst C dX12_fitsAt_69 ⟨by decide, by decide⟩ ?_
  refine w_iadd C dX12_fitsAt_70 h.1 ?_
  replace h := h.2
  obtain ⟨o15, g16, h⟩ := h
  refine x_iald C dX12_fitsAt_71 (isA.n g16 (hn.trans h3)) ?_
  refine w_icmp_gt (tgt := 135) C dX12_fitsAt_72 (by decide) (fun q => ?_) (fun q => ?_)
  · replace h := h.1 q
    refine w_iconst C dX12_fitsAt_135 ⟨by decide, by decide⟩ ?_
    exact x_zret C hr dX12_fitsAt_136 hn (by decide) (hQ _ h)
  · replace h := h.2 q
    refine w_iload C dX12_fitsAt_75 (mem_k 0 rfl) ?_
    refine w_if_eq (tgt := 135) C dX12_fitsAt_77 (by decide) (fun q => ?_) (fun q => ?_)
    · replace h := h.1 q
      refine w_iconst C dX12_fitsAt_135 ⟨by decide, by decide⟩ ?_
      exact x_zret C hr dX12_fitsAt_136 hn (by decide) (hQ _ h)
    · replace h := h.2 q
      refine w_aload_n C dX12_fitsAt_80 rfl (mem_k 4 rfl) ?_
      refine x_getR C dX12_fitsAt_81 fw_X12_43 (isO.n (ci := 12) ⟨rfl, ho0⟩ (hn.trans h3)) (fun r17 er17 => ?_)
      replace h := h r17 er17
      refine w_iload C dX12_fitsAt_84 (mem_k 3 rfl) ?_
      refine w_iconst C dX12_fitsAt_86 ⟨by decide, by decide⟩ ?_
      refine w_iadd C dX12_fitsAt_87 h.1 ?_
      replace h := h.2
      obtain ⟨o18, g19, h⟩ := h
      refine x_iald C dX12_fitsAt_88 (isA.n g19 (hn.trans h3)) ?_
      refine w_aload_n C dX12_fitsAt_89 rfl (mem_k 4 rfl) ?_
      refine x_getR C dX12_fitsAt_90 fw_X12_28 (isO.n (ci := 12) ⟨rfl, ho0⟩ (hn.trans h3)) (fun r20 er20 => ?_)
      replace h := h r20 er20
      refine w_iload C dX12_fitsAt_93 (mem_k 2 rfl) ?_
      refine w_iconst C dX12_fitsAt_95 ⟨by decide, by decide⟩ ?_
      refine w_iadd C dX12_fitsAt_96 h.1 ?_
      replace h := h.2
      obtain ⟨o21, g22, h⟩ := h
      refine x_iald C dX12_fitsAt_97 (isA.n g22 (hn.trans h3)) ?_
      refine w_bipush C dX12_fitsAt_98 (by decide) ?_
      refine w_iload C dX12_fitsAt_100 (mem_k 8 rfl) ?_
      refine w_imul C dX12_fitsAt_102 h.1 ?_
      replace h := h.2
      refine w_iadd C dX12_fitsAt_103 h.1 ?_
      replace h := h.2
      refine w_icmp_lt (tgt := 135) C dX12_fitsAt_104 (by decide) (fun q => ?_) (fun q => ?_)
      · replace h := h.1 q
        refine w_iconst C dX12_fitsAt_135 ⟨by decide, by decide⟩ ?_
        exact x_zret C hr dX12_fitsAt_136 hn (by decide) (hQ _ h)
      · replace h := h.2 q
        refine w_aload_n C dX12_fitsAt_107 rfl (mem_k 4 rfl) ?_
        refine x_getR C dX12_fitsAt_108 fw_X12_43 (isO.n (ci := 12) ⟨rfl, ho0⟩ (hn.trans h3)) (fun r23 er23 => ?_)
        replace h := h r23 er23
        refine w_iload C dX12_fitsAt_111 (mem_k 3 rfl) ?_
        refine w_iconst C dX12_fitsAt_113 ⟨by decide, by decide⟩ ?_
        refine w_iadd C dX12_fitsAt_114 h.1 ?_
        replace h := h.2
        obtain ⟨o24, g25, h⟩ := h
        refine x_iald C dX12_fitsAt_115 (isA.n g25 (hn.trans h3)) ?_
        refine w_iload C dX12_fitsAt_116 (mem_k 1 rfl) ?_
        refine w_iadd C dX12_fitsAt_118 h.1 ?_
        replace h := h.2
        refine w_aload_n C dX12_fitsAt_119 rfl (mem_k 4 rfl) ?_
        refine x_getR C dX12_fitsAt_120 fw_X12_28 (isO.n (ci := 12) ⟨rfl, ho0⟩ (hn.trans h3)) (fun r26 er26 => ?_)
        replace h := h r26 er26
        refine w_iload C dX12_fitsAt_123 (mem_k 2 rfl) ?_
        refine w_iconst C dX12_fitsAt_125 ⟨by decide, by decide⟩ ?_
        refine w_iadd C dX12_fitsAt_126 h.1 ?_
        replace h := h.2
        obtain ⟨o27, g28, h⟩ := h
        refine x_iald C dX12_fitsAt_127 (isA.n g28 (hn.trans h3)) ?_
        refine w_icmp_lt (tgt := 135) C dX12_fitsAt_128 (by decide) (fun q => ?_) (fun q => ?_)
        · replace h := h.1 q
          refine w_iconst C dX12_fitsAt_135 ⟨by decide, by decide⟩ ?_
          exact x_zret C hr dX12_fitsAt_136 hn (by decide) (hQ _ h)
        · replace h := h.2 q
          refine w_iconst C dX12_fitsAt_131 ⟨by decide, by decide⟩ ?_
          refine w_goto (tgt := 136) C dX12_fitsAt_132 (by decide) ?_
          exact x_zret C hr dX12_fitsAt_136 hn (by decide) (hQ _ h)
set_option maxRecDepth 100000 in
set_option maxHeartbeats 4000000 in
theorem con_X12_fitsAt (l : Launch) (D : va_G) (cy : Nat → ClassId) : Con l D cy yX12_fitsAt cX12_fitsAt 9 (some .boolean) ({ frames := 1, cells := 0, slots := 0, locals := 25 }) 0 0 SP_X12_fitsAt := by
  refine con_of (by decide) (fun as M Qp h => ?_) ?_
  · obtain ⟨-, o0, x1, x2, x3, x4, rfl, -⟩ := h
    exact Nat.le_of_ble_eq_true rfl
  · intro p e s m args below meth c G as M Qp h C hr hnm
    obtain ⟨hn, o0, x1, x2, x3, x4, rfl, ho1, ho2, Q0, hQ, h⟩ := h
    refine x_pick (L' := [(0, vR (some o0)), (1, vI x1), (2, vI x2), (3, vI x3), (4, vI x4)]) [0, 1, 2, 3, 4] rfl ?_
    exact k_X12_fitsAt_0 C hr hn rfl ⟨ho1, ho2⟩ hQ h
set_option maxRecDepth 100000 in
set_option maxHeartbeats 4000000 in
theorem cl_X12_fitsAt {p : Program} {l : Launch} {e : Env} {R : Room} {s : State} {m : MethodId} {args : Array Value} {below : List Frame} {meth : Method} {c : Code} {Q : State → Prop} {cc : ByteArray} {nL : Nat} {own : String} {D : va_G} {cy : Nat → ClassId} {G : Nat × Nat} {n0 pc : Nat} {L : List (Nat × PV)} {st : List PV} {M : Mm} {op : Instr} (K : CallOK l D cy R own op 0 0 (spV 12 4 SP_X12_fitsAt)) (C : Cx p s m args meth c cc nL own D cy G n0) (hd : decode cc pc = .ok (op, 3)) (hn : M.2.2.2 = n0) (h3 : n0 = 243) (hlen : argN st ≤ 8) {r : Option Nat} {o0 : Nat} (ho : isOn 12 M.2.2.2 r o0) {x1 : Int} {x2 : Int} {x3 : Int} {x4 : Int} {Q0 : Int → Prop} (h : P_X12_fitsAt o0 x1 x2 x3 x4 M Q0) (k : ∀ x, Q0 x → WW p l e R s m args below meth c Q nL D cy G n0  (pc + 3) L (vI x :: st) M) : WW p l e R s m args below meth c Q nL D cy G n0  pc L (vI x4 :: vI x3 :: vI x2 :: vI x1 :: vR r :: st) M := by
  obtain ⟨rfl, ho1, ho2⟩ := ho
  refine x_call0 K C hd (as := [vR (some o0), vI x1, vI x2, vI x3, vI x4]) rfl hn hlen (fun v M2 => ∃ x, v = some (vI x) ∧ M2 = M ∧ Q0 x) ⟨⟨o0, [vI x1, vI x2, vI x3, vI x4], rfl, rfl, ho1, ho2⟩, hn.trans h3, o0, x1, x2, x3, x4, rfl, (hn.trans h3) ▸ ho1, ho2, Q0, fun x hx => ⟨x, rfl, rfl, hx⟩, h⟩ ?_
  rintro _ _ ⟨x, rfl, rfl, hx⟩ hm
  exact k x hx
end W_X12_fitsAt
theorem dX12_fitsSome_0 : decode cX12_fitsSome 0 = .ok (.iconst 0, 1) := by decide +kernel
theorem dX12_fitsSome_1 : decode cX12_fitsSome 1 = .ok (.istore_n 3, 1) := by decide +kernel
theorem dX12_fitsSome_2 : decode cX12_fitsSome 2 = .ok (.iconst 0, 1) := by decide +kernel
theorem dX12_fitsSome_3 : decode cX12_fitsSome 3 = .ok (.istore 4, 2) := by decide +kernel
theorem dX12_fitsSome_5 : decode cX12_fitsSome 5 = .ok (.iload 4, 2) := by decide +kernel
theorem dX12_fitsSome_7 : decode cX12_fitsSome 7 = .ok (.bipush 10, 2) := by decide +kernel
theorem dX12_fitsSome_9 : decode cX12_fitsSome 9 = .ok (.if_icmp .ge 48, 3) := by decide +kernel
theorem dX12_fitsSome_12 : decode cX12_fitsSome 12 = .ok (.iconst 0, 1) := by decide +kernel
theorem dX12_fitsSome_13 : decode cX12_fitsSome 13 = .ok (.istore 5, 2) := by decide +kernel
theorem dX12_fitsSome_15 : decode cX12_fitsSome 15 = .ok (.iload 5, 2) := by decide +kernel
theorem dX12_fitsSome_17 : decode cX12_fitsSome 17 = .ok (.bipush 10, 2) := by decide +kernel
theorem dX12_fitsSome_19 : decode cX12_fitsSome 19 = .ok (.if_icmp .ge 32, 3) := by decide +kernel
theorem dX12_fitsSome_22 : decode cX12_fitsSome 22 = .ok (.iload_n 3, 1) := by decide +kernel
theorem dX12_fitsSome_23 : decode cX12_fitsSome 23 = .ok (.ifCond .ne 16, 3) := by decide +kernel
theorem dX12_fitsSome_26 : decode cX12_fitsSome 26 = .ok (.aload_n 0, 1) := by decide +kernel
theorem dX12_fitsSome_27 : decode cX12_fitsSome 27 = .ok (.iload_n 1, 1) := by decide +kernel
theorem dX12_fitsSome_28 : decode cX12_fitsSome 28 = .ok (.iload_n 2, 1) := by decide +kernel
theorem dX12_fitsSome_29 : decode cX12_fitsSome 29 = .ok (.iload 4, 2) := by decide +kernel
theorem dX12_fitsSome_31 : decode cX12_fitsSome 31 = .ok (.iload 5, 2) := by decide +kernel
theorem dX12_fitsSome_33 : decode cX12_fitsSome 33 = .ok (.invokevirtual 212, 3) := by decide +kernel
theorem dX12_fitsSome_36 : decode cX12_fitsSome 36 = .ok (.ifCond .eq 7, 3) := by decide +kernel
theorem dX12_fitsSome_39 : decode cX12_fitsSome 39 = .ok (.iconst 1, 1) := by decide +kernel
theorem dX12_fitsSome_40 : decode cX12_fitsSome 40 = .ok (.goto 4, 3) := by decide +kernel
theorem dX12_fitsSome_43 : decode cX12_fitsSome 43 = .ok (.iconst 0, 1) := by decide +kernel
theorem dX12_fitsSome_44 : decode cX12_fitsSome 44 = .ok (.istore_n 3, 1) := by decide +kernel
theorem dX12_fitsSome_45 : decode cX12_fitsSome 45 = .ok (.iinc 5 1, 3) := by decide +kernel
theorem dX12_fitsSome_48 : decode cX12_fitsSome 48 = .ok (.goto (-33), 3) := by decide +kernel
theorem dX12_fitsSome_51 : decode cX12_fitsSome 51 = .ok (.iinc 4 1, 3) := by decide +kernel
theorem dX12_fitsSome_54 : decode cX12_fitsSome 54 = .ok (.goto (-49), 3) := by decide +kernel
theorem dX12_fitsSome_57 : decode cX12_fitsSome 57 = .ok (.iload_n 3, 1) := by decide +kernel
theorem dX12_fitsSome_58 : decode cX12_fitsSome 58 = .ok (.ireturn, 1) := by decide +kernel
theorem ck_X12_212 {l : Launch} {D : va_G} {cy : Nat → ClassId} {R : Room} (hR : 2 ≤ R.frames ∧ 53 ≤ R.locals) : CallOK l D cy R RX12 (.invokevirtual 212) 0 0 (spV 12 4 SP_X12_fitsAt) := call_V (ci := 12) (con_X12_fitsAt l D cy) (lwG_5 (i := 71) rfl rfl) (lwG_5 (i := 73) rfl rfl) (lwG_p (i := 35) rfl rfl) (lwG_1 (i := 13) rfl rfl) (lwG_5 (i := 74) rfl rfl) (by decide) ⟨rfl, by decide, by decide, rfl⟩ ⟨rfl, rfl⟩ hR
section W_X12_fitsSome
variable {p : Program} {l : Launch} {e : Env} {s : State} {m : MethodId} {args : Array Value} {below : List Frame} {meth : Method} {c : Code} {D : va_G} {cy : Nat → ClassId} {G : Nat × Nat} {n0 : Nat} {Qp : Option PV → Mm → Prop}
set_option maxRecDepth 100000 in
set_option maxHeartbeats 4000000 in
theorem f_X12_fitsSome_15 {o0 : Nat} {x1 : Int} {x2 : Int} {x3 : Int} {x4 : Int} {x5 : Int} {M : Mm} {Q : Int → Prop} {K5 : Int × Int → Prop} {K15 : Int × Int → Prop} (C : Cx p s m args meth c cX12_fitsSome 6 RX12 D cy G n0) (hr : meth.sig.returnType = some .boolean) (h3 : n0 = 243) (hn : M.2.2.2 = n0) (ho0 : o0 < 243 ∧ (SH o0).1 = 12) (hQ : ∀ x, Q x → Qp (some (vI x)) M) (hK5 : ∀ (x3 : Int) (x4 : Int), K5 (x3, x4) → WW p l e ({ frames := 2, cells := 0, slots := 0, locals := 53 }) s m args below meth c (ZQ below args s D cy G n0 Qp n0) 6 D cy G n0 5 [(0, vR (some o0)), (1, vI x1), (2, vI x2), (3, vI x3), (4, vI x4)] [] M) (hK15 : ∀ (x3 : Int) (x5 : Int), K15 (x3, x5) → WW p l e ({ frames := 2, cells := 0, slots := 0, locals := 53 }) s m args below meth c (ZQ below args s D cy G n0 Qp n0) 6 D cy G n0 15 [(0, vR (some o0)), (1, vI x1), (2, vI x2), (3, vI x3), (4, vI x4), (5, vI x5)] [] M) (h : F_X12_fitsSome_15 o0 x1 x2 x4 M Q K5 K15 x3 x5) : WW p l e ({ frames := 2, cells := 0, slots := 0, locals := 53 }) s m args below meth c (ZQ below args s D cy G n0 Qp n0) 6 D cy G n0 15 [(0, vR (some o0)), (1, vI x1), (2, vI x2), (3, vI x3), (4, vI x4), (5, vI x5)] [] M := by
  unfold F_X12_fitsSome_15 at h
  refine w_iload C dX12_fitsSome_15 (mem_k 5 rfl) ?_
  refine w_bipush C dX12_fitsSome_17 (by decide) ?_
  refine w_icmp_ge (tgt := 51) C dX12_fitsSome_19 (by decide) (fun q => ?_) (fun q => ?_)
  · replace h := h.1 q
    obtain ⟨v1, ev1⟩ : ∃ z : Int, z = x4 + 1 := ⟨_, rfl⟩
    refine x_iinc (L' := [(4, vI v1), (0, vR (some o0)), (1, vI x1), (2, vI x2), (3, vI x3), (5, vI x5)]) C dX12_fitsSome_51 (mem_k 4 rfl) (by decide) h.1 ev1 rfl ?_
    replace h := h.2 v1 ev1
    refine w_goto (tgt := 5) C dX12_fitsSome_54 (by decide) ?_
    refine x_pc (pc2 := 5) rfl ?_
    refine x_pick (L' := [(0, vR (some o0)), (1, vI x1), (2, vI x2), (3, vI x3), (4, vI v1)]) [1, 2, 3, 4, 0] rfl ?_
    exact hK5 x3 v1 h
  · replace h := h.2 q
    refine w_iload_n C dX12_fitsSome_22 rfl (mem_k 3 rfl) ?_
    refine w_if_ne (tgt := 39) C dX12_fitsSome_23 (by decide) (fun q => ?_) (fun q => ?_)
    · replace h := h.1 q
      refine w_iconst C dX12_fitsSome_39 ⟨by decide, by decide⟩ ?_
      refine w_goto (tgt := 44) C dX12_fitsSome_40 (by decide) ?_
      refine x_istore_n (L' := [(3, vI 1), (0, vR (some o0)), (1, vI x1), (2, vI x2), (4, vI x4), (5, vI x5)]) C dX12_fitsSome_44 rfl (by decide) rfl ?_
      obtain ⟨v2, ev2⟩ : ∃ z : Int, z = x5 + 1 := ⟨_, rfl⟩
      refine x_iinc (L' := [(5, vI v2), (3, vI 1), (0, vR (some o0)), (1, vI x1), (2, vI x2), (4, vI x4)]) C dX12_fitsSome_45 (mem_k 5 rfl) (by decide) h.1 ev2 rfl ?_
      replace h := h.2 v2 ev2
      refine w_goto (tgt := 15) C dX12_fitsSome_48 (by decide) ?_
      refine x_pc (pc2 := 15) rfl ?_
      refine x_pick (L' := [(0, vR (some o0)), (1, vI x1), (2, vI x2), (3, vI 1), (4, vI x4), (5, vI v2)]) [2, 3, 4, 1, 5, 0] rfl ?_
      exact hK15 1 v2 h
    · replace h := h.2 q
      refine w_aload_n C dX12_fitsSome_26 rfl (mem_k 0 rfl) ?_
      refine w_iload_n C dX12_fitsSome_27 rfl (mem_k 1 rfl) ?_
      refine w_iload_n C dX12_fitsSome_28 rfl (mem_k 2 rfl) ?_
      refine w_iload C dX12_fitsSome_29 (mem_k 4 rfl) ?_
      refine w_iload C dX12_fitsSome_31 (mem_k 5 rfl) ?_
      refine cl_X12_fitsAt (ck_X12_212 ⟨by decide, by decide⟩) C dX12_fitsSome_33 hn h3 (Nat.le_of_ble_eq_true rfl) (isO.n (ci := 12) ⟨rfl, ho0⟩ (hn.trans h3)) h (fun v3 h => ?_)
      refine w_if_eq (tgt := 43) C dX12_fitsSome_36 (by decide) (fun q => ?_) (fun q => ?_)
      · replace h := h.1 q
        refine w_iconst C dX12_fitsSome_43 ⟨by decide, by decide⟩ ?_
        refine x_istore_n (L' := [(3, vI 0), (0, vR (some o0)), (1, vI x1), (2, vI x2), (4, vI x4), (5, vI x5)]) C dX12_fitsSome_44 rfl (by decide) rfl ?_
        obtain ⟨v4, ev4⟩ : ∃ z : Int, z = x5 + 1 := ⟨_, rfl⟩
        refine x_iinc (L' := [(5, vI v4), (3, vI 0), (0, vR (some o0)), (1, vI x1), (2, vI x2), (4, vI x4)]) C dX12_fitsSome_45 (mem_k 5 rfl) (by decide) h.1 ev4 rfl ?_
        replace h := h.2 v4 ev4
        refine w_goto (tgt := 15) C dX12_fitsSome_48 (by decide) ?_
        refine x_pc (pc2 := 15) rfl ?_
        refine x_pick (L' := [(0, vR (some o0)), (1, vI x1), (2, vI x2), (3, vI 0), (4, vI x4), (5, vI v4)]) [2, 3, 4, 1, 5, 0] rfl ?_
        exact hK15 0 v4 h
      · replace h := h.2 q
        refine w_iconst C dX12_fitsSome_39 ⟨by decide, by decide⟩ ?_
        refine w_goto (tgt := 44) C dX12_fitsSome_40 (by decide) ?_
        refine x_istore_n (L' := [(3, vI 1), (0, vR (some o0)), (1, vI x1), (2, vI x2), (4, vI x4), (5, vI x5)]) C dX12_fitsSome_44 rfl (by decide) rfl ?_
        obtain ⟨v5, ev5⟩ : ∃ z : Int, z = x5 + 1 := ⟨_, rfl⟩
        refine x_iinc (L' := [(5, vI v5), (3, vI 1), (0, vR (some o0)), (1, vI x1), (2, vI x2), (4, vI x4)]) C dX12_fitsSome_45 (mem_k 5 rfl) (by decide) h.1 ev5 rfl ?_
        replace h := h.2 v5 ev5
        refine w_goto (tgt := 15) C dX12_fitsSome_48 (by decide) ?_
        refine x_pc (pc2 := 15) rfl ?_
        refine x_pick (L' := [(0, vR (some o0)), (1, vI x1), (2, vI x2), (3, vI 1), (4, vI x4), (5, vI v5)]) [2, 3, 4, 1, 5, 0] rfl ?_
        exact hK15 1 v5 h
set_option maxRecDepth 100000 in
set_option maxHeartbeats 4000000 in
theorem k_X12_fitsSome_15 {o0 : Nat} {x1 : Int} {x2 : Int} {x3 : Int} {x4 : Int} {x5 : Int} {M : Mm} {Q : Int → Prop} {K5 : Int × Int → Prop} (C : Cx p s m args meth c cX12_fitsSome 6 RX12 D cy G n0) (hr : meth.sig.returnType = some .boolean) (h3 : n0 = 243) (hn : M.2.2.2 = n0) (ho0 : o0 < 243 ∧ (SH o0).1 = 12) (hQ : ∀ x, Q x → Qp (some (vI x)) M) (hK5 : ∀ (x3 : Int) (x4 : Int), K5 (x3, x4) → WW p l e ({ frames := 2, cells := 0, slots := 0, locals := 53 }) s m args below meth c (ZQ below args s D cy G n0 Qp n0) 6 D cy G n0 5 [(0, vR (some o0)), (1, vI x1), (2, vI x2), (3, vI x3), (4, vI x4)] [] M) (h : P_X12_fitsSome_15 o0 x1 x2 x3 x4 x5 M Q K5) : WW p l e ({ frames := 2, cells := 0, slots := 0, locals := 53 }) s m args below meth c (ZQ below args s D cy G n0 Qp n0) 6 D cy G n0 15 [(0, vR (some o0)), (1, vI x1), (2, vI x2), (3, vI x3), (4, vI x4), (5, vI x5)] [] M := by
  refine lpW_sound (P := fun y : Int × Int => WW p l e ({ frames := 2, cells := 0, slots := 0, locals := 53 }) s m args below meth c (ZQ below args s D cy G n0 Qp n0) 6 D cy G n0 15 [(0, vR (some o0)), (1, vI x1), (2, vI x2), (3, vI y.1), (4, vI x4), (5, vI y.2)] [] M) ?_ h
  intro K y hK hF
  obtain ⟨x3, x5⟩ := y
  exact f_X12_fitsSome_15 C hr h3 hn ho0 hQ hK5 (fun x3 x5 hk => hK (x3, x5) hk) hF
set_option maxRecDepth 100000 in
set_option maxHeartbeats 4000000 in
theorem f_X12_fitsSome_5 {o0 : Nat} {x1 : Int} {x2 : Int} {x3 : Int} {x4 : Int} {M : Mm} {Q : Int → Prop} {K5 : Int × Int → Prop} (C : Cx p s m args meth c cX12_fitsSome 6 RX12 D cy G n0) (hr : meth.sig.returnType = some .boolean) (h3 : n0 = 243) (hn : M.2.2.2 = n0) (ho0 : o0 < 243 ∧ (SH o0).1 = 12) (hQ : ∀ x, Q x → Qp (some (vI x)) M) (hK5 : ∀ (x3 : Int) (x4 : Int), K5 (x3, x4) → WW p l e ({ frames := 2, cells := 0, slots := 0, locals := 53 }) s m args below meth c (ZQ below args s D cy G n0 Qp n0) 6 D cy G n0 5 [(0, vR (some o0)), (1, vI x1), (2, vI x2), (3, vI x3), (4, vI x4)] [] M) (h : F_X12_fitsSome_5 o0 x1 x2 M Q  K5 x3 x4) : WW p l e ({ frames := 2, cells := 0, slots := 0, locals := 53 }) s m args below meth c (ZQ below args s D cy G n0 Qp n0) 6 D cy G n0 5 [(0, vR (some o0)), (1, vI x1), (2, vI x2), (3, vI x3), (4, vI x4)] [] M := by
  unfold F_X12_fitsSome_5 at h
  refine w_iload C dX12_fitsSome_5 (mem_k 4 rfl) ?_
  refine w_bipush C dX12_fitsSome_7 (by decide) ?_
  refine w_icmp_ge (tgt := 57) C dX12_fitsSome_9 (by decide) (fun q => ?_) (fun q => ?_)
  · replace h := h.1 q
    refine w_iload_n C dX12_fitsSome_57 rfl (mem_k 3 rfl) ?_
    exact x_zret C hr dX12_fitsSome_58 hn h.1 (hQ _ h.2)
  · replace h := h.2 q
    refine w_iconst C dX12_fitsSome_12 ⟨by decide, by decide⟩ ?_
    refine x_istore (L' := [(5, vI 0), (0, vR (some o0)), (1, vI x1), (2, vI x2), (3, vI x3), (4, vI x4)]) C dX12_fitsSome_13 (by decide) rfl ?_
    refine x_pc (pc2 := 15) rfl ?_
    refine x_pick (L' := [(0, vR (some o0)), (1, vI x1), (2, vI x2), (3, vI x3), (4, vI x4), (5, vI 0)]) [1, 2, 3, 4, 5, 0] rfl ?_
    exact k_X12_fitsSome_15 C hr h3 hn ho0 hQ hK5 h
set_option maxRecDepth 100000 in
set_option maxHeartbeats 4000000 in
theorem k_X12_fitsSome_5 {o0 : Nat} {x1 : Int} {x2 : Int} {x3 : Int} {x4 : Int} {M : Mm} {Q : Int → Prop} (C : Cx p s m args meth c cX12_fitsSome 6 RX12 D cy G n0) (hr : meth.sig.returnType = some .boolean) (h3 : n0 = 243) (hn : M.2.2.2 = n0) (ho0 : o0 < 243 ∧ (SH o0).1 = 12) (hQ : ∀ x, Q x → Qp (some (vI x)) M) (h : P_X12_fitsSome_5 o0 x1 x2 x3 x4 M Q ) : WW p l e ({ frames := 2, cells := 0, slots := 0, locals := 53 }) s m args below meth c (ZQ below args s D cy G n0 Qp n0) 6 D cy G n0 5 [(0, vR (some o0)), (1, vI x1), (2, vI x2), (3, vI x3), (4, vI x4)] [] M := by
  refine lpW_sound (P := fun y : Int × Int => WW p l e ({ frames := 2, cells := 0, slots := 0, locals := 53 }) s m args below meth c (ZQ below args s D cy G n0 Qp n0) 6 D cy G n0 5 [(0, vR (some o0)), (1, vI x1), (2, vI x2), (3, vI y.1), (4, vI y.2)] [] M) ?_ h
  intro K y hK hF
  obtain ⟨x3, x4⟩ := y
  exact f_X12_fitsSome_5 C hr h3 hn ho0 hQ  (fun x3 x4 hk => hK (x3, x4) hk) hF
set_option maxRecDepth 100000 in
set_option maxHeartbeats 4000000 in
theorem k_X12_fitsSome_0 {o0 : Nat} {x1 : Int} {x2 : Int} {M : Mm} {Q : Int → Prop} (C : Cx p s m args meth c cX12_fitsSome 6 RX12 D cy G n0) (hr : meth.sig.returnType = some .boolean) (h3 : n0 = 243) (hn : M.2.2.2 = n0) (ho0 : o0 < 243 ∧ (SH o0).1 = 12) (hQ : ∀ x, Q x → Qp (some (vI x)) M) (h : P_X12_fitsSome o0 x1 x2 M Q ) : WW p l e ({ frames := 2, cells := 0, slots := 0, locals := 53 }) s m args below meth c (ZQ below args s D cy G n0 Qp n0) 6 D cy G n0 0 [(0, vR (some o0)), (1, vI x1), (2, vI x2)] [] M := by
  unfold P_X12_fitsSome at h
  refine w_iconst C dX12_fitsSome_0 ⟨by decide, by decide⟩ ?_
  refine x_istore_n (L' := [(3, vI 0), (0, vR (some o0)), (1, vI x1), (2, vI x2)]) C dX12_fitsSome_1 rfl (by decide) rfl ?_
  refine w_iconst C dX12_fitsSome_2 ⟨by decide, by decide⟩ ?_
  refine x_istore (L' := [(4, vI 0), (3, vI 0), (0, vR (some o0)), (1, vI x1), (2, vI x2)]) C dX12_fitsSome_3 (by decide) rfl ?_
  refine x_pc (pc2 := 5) rfl ?_
  refine x_pick (L' := [(0, vR (some o0)), (1, vI x1), (2, vI x2), (3, vI 0), (4, vI 0)]) [2, 3, 4, 1, 0] rfl ?_
  exact k_X12_fitsSome_5 C hr h3 hn ho0 hQ  h
set_option maxRecDepth 100000 in
set_option maxHeartbeats 4000000 in
theorem con_X12_fitsSome (l : Launch) (D : va_G) (cy : Nat → ClassId) : Con l D cy yX12_fitsSome cX12_fitsSome 6 (some .boolean) ({ frames := 2, cells := 0, slots := 0, locals := 53 }) 0 0 SP_X12_fitsSome := by
  refine con_of (by decide) (fun as M Qp h => ?_) ?_
  · obtain ⟨-, o0, x1, x2, rfl, -⟩ := h
    exact Nat.le_of_ble_eq_true rfl
  · intro p e s m args below meth c G as M Qp h C hr hnm
    obtain ⟨hn, o0, x1, x2, rfl, ho1, ho2, Q0, hQ, h⟩ := h
    refine x_pick (L' := [(0, vR (some o0)), (1, vI x1), (2, vI x2)]) [0, 1, 2] rfl ?_
    exact k_X12_fitsSome_0 C hr hn rfl ⟨ho1, ho2⟩ hQ h
set_option maxRecDepth 100000 in
set_option maxHeartbeats 4000000 in
theorem cl_X12_fitsSome {p : Program} {l : Launch} {e : Env} {R : Room} {s : State} {m : MethodId} {args : Array Value} {below : List Frame} {meth : Method} {c : Code} {Q : State → Prop} {cc : ByteArray} {nL : Nat} {own : String} {D : va_G} {cy : Nat → ClassId} {G : Nat × Nat} {n0 pc : Nat} {L : List (Nat × PV)} {st : List PV} {M : Mm} {op : Instr} (K : CallOK l D cy R own op 0 0 (spV 12 2 SP_X12_fitsSome)) (C : Cx p s m args meth c cc nL own D cy G n0) (hd : decode cc pc = .ok (op, 3)) (hn : M.2.2.2 = n0) (h3 : n0 = 243) (hlen : argN st ≤ 8) {r : Option Nat} {o0 : Nat} (ho : isOn 12 M.2.2.2 r o0) {x1 : Int} {x2 : Int} {Q0 : Int → Prop} (h : P_X12_fitsSome o0 x1 x2 M Q0) (k : ∀ x, Q0 x → WW p l e R s m args below meth c Q nL D cy G n0  (pc + 3) L (vI x :: st) M) : WW p l e R s m args below meth c Q nL D cy G n0  pc L (vI x2 :: vI x1 :: vR r :: st) M := by
  obtain ⟨rfl, ho1, ho2⟩ := ho
  refine x_call0 K C hd (as := [vR (some o0), vI x1, vI x2]) rfl hn hlen (fun v M2 => ∃ x, v = some (vI x) ∧ M2 = M ∧ Q0 x) ⟨⟨o0, [vI x1, vI x2], rfl, rfl, ho1, ho2⟩, hn.trans h3, o0, x1, x2, rfl, (hn.trans h3) ▸ ho1, ho2, Q0, fun x hx => ⟨x, rfl, rfl, hx⟩, h⟩ ?_
  rintro _ _ ⟨x, rfl, rfl, hx⟩ hm
  exact k x hx
end W_X12_fitsSome
theorem dX12_fits_0 : decode cX12_fits 0 = .ok (.aload_n 0, 1) := by decide +kernel
theorem dX12_fits_1 : decode cX12_fits 1 = .ok (.iload_n 1, 1) := by decide +kernel
theorem dX12_fits_2 : decode cX12_fits 2 = .ok (.invokevirtual 155, 3) := by decide +kernel
theorem dX12_fits_5 : decode cX12_fits 5 = .ok (.ifCond .eq 42, 3) := by decide +kernel
theorem dX12_fits_8 : decode cX12_fits 8 = .ok (.aload_n 0, 1) := by decide +kernel
theorem dX12_fits_9 : decode cX12_fits 9 = .ok (.iload_n 2, 1) := by decide +kernel
theorem dX12_fits_10 : decode cX12_fits 10 = .ok (.invokevirtual 152, 3) := by decide +kernel
theorem dX12_fits_13 : decode cX12_fits 13 = .ok (.ifCond .eq 34, 3) := by decide +kernel
theorem dX12_fits_16 : decode cX12_fits 16 = .ok (.iload_n 3, 1) := by decide +kernel
theorem dX12_fits_17 : decode cX12_fits 17 = .ok (.i2l, 1) := by decide +kernel
theorem dX12_fits_18 : decode cX12_fits 18 = .ok (.ldc2_w 216, 3) := by decide +kernel
theorem dX12_fits_21 : decode cX12_fits 21 = .ok (.ldc2_w 218, 3) := by decide +kernel
theorem dX12_fits_24 : decode cX12_fits 24 = .ok (.invokestatic 85, 3) := by decide +kernel
theorem dX12_fits_27 : decode cX12_fits 27 = .ok (.ifCond .eq 20, 3) := by decide +kernel
theorem dX12_fits_30 : decode cX12_fits 30 = .ok (.iload_n 3, 1) := by decide +kernel
theorem dX12_fits_31 : decode cX12_fits 31 = .ok (.ifCond .lt 18, 3) := by decide +kernel
theorem dX12_fits_34 : decode cX12_fits 34 = .ok (.iload 4, 2) := by decide +kernel
theorem dX12_fits_36 : decode cX12_fits 36 = .ok (.i2l, 1) := by decide +kernel
theorem dX12_fits_37 : decode cX12_fits 37 = .ok (.lconst 0, 1) := by decide +kernel
theorem dX12_fits_38 : decode cX12_fits 38 = .ok (.ldc2_w 218, 3) := by decide +kernel
theorem dX12_fits_41 : decode cX12_fits 41 = .ok (.invokestatic 85, 3) := by decide +kernel
theorem dX12_fits_44 : decode cX12_fits 44 = .ok (.ifCond .ne 5, 3) := by decide +kernel
theorem dX12_fits_47 : decode cX12_fits 47 = .ok (.iconst (-1), 1) := by decide +kernel
theorem dX12_fits_48 : decode cX12_fits 48 = .ok (.ireturn, 1) := by decide +kernel
theorem dX12_fits_49 : decode cX12_fits 49 = .ok (.iload_n 3, 1) := by decide +kernel
theorem dX12_fits_50 : decode cX12_fits 50 = .ok (.ifCond .ge 15, 3) := by decide +kernel
theorem dX12_fits_53 : decode cX12_fits 53 = .ok (.aload_n 0, 1) := by decide +kernel
theorem dX12_fits_54 : decode cX12_fits 54 = .ok (.iload_n 1, 1) := by decide +kernel
theorem dX12_fits_55 : decode cX12_fits 55 = .ok (.iload_n 2, 1) := by decide +kernel
theorem dX12_fits_56 : decode cX12_fits 56 = .ok (.invokevirtual 220, 3) := by decide +kernel
theorem dX12_fits_59 : decode cX12_fits 59 = .ok (.ifCond .eq 22, 3) := by decide +kernel
theorem dX12_fits_62 : decode cX12_fits 62 = .ok (.goto 15, 3) := by decide +kernel
theorem dX12_fits_65 : decode cX12_fits 65 = .ok (.aload_n 0, 1) := by decide +kernel
theorem dX12_fits_66 : decode cX12_fits 66 = .ok (.iload_n 1, 1) := by decide +kernel
theorem dX12_fits_67 : decode cX12_fits 67 = .ok (.iload_n 2, 1) := by decide +kernel
theorem dX12_fits_68 : decode cX12_fits 68 = .ok (.iload_n 3, 1) := by decide +kernel
theorem dX12_fits_69 : decode cX12_fits 69 = .ok (.iload 4, 2) := by decide +kernel
theorem dX12_fits_71 : decode cX12_fits 71 = .ok (.invokevirtual 212, 3) := by decide +kernel
theorem dX12_fits_74 : decode cX12_fits 74 = .ok (.ifCond .eq 7, 3) := by decide +kernel
theorem dX12_fits_77 : decode cX12_fits 77 = .ok (.iconst 1, 1) := by decide +kernel
theorem dX12_fits_78 : decode cX12_fits 78 = .ok (.goto 4, 3) := by decide +kernel
theorem dX12_fits_81 : decode cX12_fits 81 = .ok (.iconst 0, 1) := by decide +kernel
theorem dX12_fits_82 : decode cX12_fits 82 = .ok (.ireturn, 1) := by decide +kernel
theorem ck_X12_220 {l : Launch} {D : va_G} {cy : Nat → ClassId} {R : Room} (hR : 3 ≤ R.frames ∧ 78 ≤ R.locals) : CallOK l D cy R RX12 (.invokevirtual 220) 0 0 (spV 12 2 SP_X12_fitsSome) := call_V (ci := 12) (con_X12_fitsSome l D cy) (lwG_5 (i := 67) rfl rfl) (lwG_5 (i := 69) rfl rfl) (lwG_p (i := 34) rfl rfl) (lwG_1 (i := 13) rfl rfl) (lwG_5 (i := 70) rfl rfl) (by decide) ⟨rfl, by decide, by decide, rfl⟩ ⟨rfl, rfl⟩ hR
theorem cn_X12_216 : Cond.constantLong RX12 216 (Int64.ofInt (-1)) ∈ lwG := lwG_5 (i := 65) rfl rfl
theorem cn_X12_218 : Cond.constantLong RX12 218 (Int64.ofInt 9) ∈ lwG := lwG_5 (i := 66) rfl rfl
section W_X12_fits
variable {p : Program} {l : Launch} {e : Env} {s : State} {m : MethodId} {args : Array Value} {below : List Frame} {meth : Method} {c : Code} {D : va_G} {cy : Nat → ClassId} {G : Nat × Nat} {n0 : Nat} {Qp : Option PV → Mm → Prop}
set_option maxRecDepth 100000 in
set_option maxHeartbeats 4000000 in
theorem k_X12_fits_49 {o0 : Nat} {x1 : Int} {x2 : Int} {x3 : Int} {x4 : Int} {M : Mm} {Q : Int → Prop} (C : Cx p s m args meth c cX12_fits 5 RX12 D cy G n0) (hr : meth.sig.returnType = some .int) (h3 : n0 = 243) (hn : M.2.2.2 = n0) (ho0 : o0 < 243 ∧ (SH o0).1 = 12) (hQ : ∀ x, Q x → Qp (some (vI x)) M) (h : P_X12_fits_49 o0 x1 x2 x3 x4 M Q ) : WW p l e ({ frames := 3, cells := 0, slots := 0, locals := 78 }) s m args below meth c (ZQ below args s D cy G n0 Qp n0) 5 D cy G n0 49 [(0, vR (some o0)), (1, vI x1), (2, vI x2), (3, vI x3), (4, vI x4)] [] M := by
  unfold P_X12_fits_49 at h
  refine w_iload_n C dX12_fits_49 rfl (mem_k 3 rfl) ?_
  refine w_if_ge (tgt := 65) C dX12_fits_50 (by decide) (fun q => ?_) (fun q => ?_)
  · replace h := h.1 q
    refine w_aload_n C dX12_fits_65 rfl (mem_k 0 rfl) ?_
    refine w_iload_n C dX12_fits_66 rfl (mem_k 1 rfl) ?_
    refine w_iload_n C dX12_fits_67 rfl (mem_k 2 rfl) ?_
    refine w_iload_n C dX12_fits_68 rfl (mem_k 3 rfl) ?_
    refine w_iload C dX12_fits_69 (mem_k 4 rfl) ?_
    refine cl_X12_fitsAt (ck_X12_212 ⟨by decide, by decide⟩) C dX12_fits_71 hn h3 (Nat.le_of_ble_eq_true rfl) (isO.n (ci := 12) ⟨rfl, ho0⟩ (hn.trans h3)) h (fun v1 h => ?_)
    refine w_if_eq (tgt := 81) C dX12_fits_74 (by decide) (fun q => ?_) (fun q => ?_)
    · replace h := h.1 q
      refine w_iconst C dX12_fits_81 ⟨by decide, by decide⟩ ?_
      exact x_iret C hr dX12_fits_82 hn (hQ _ h)
    · replace h := h.2 q
      refine w_iconst C dX12_fits_77 ⟨by decide, by decide⟩ ?_
      refine w_goto (tgt := 82) C dX12_fits_78 (by decide) ?_
      exact x_iret C hr dX12_fits_82 hn (hQ _ h)
  · replace h := h.2 q
    refine w_aload_n C dX12_fits_53 rfl (mem_k 0 rfl) ?_
    refine w_iload_n C dX12_fits_54 rfl (mem_k 1 rfl) ?_
    refine w_iload_n C dX12_fits_55 rfl (mem_k 2 rfl) ?_
    refine cl_X12_fitsSome (ck_X12_220 ⟨by decide, by decide⟩) C dX12_fits_56 hn h3 (Nat.le_of_ble_eq_true rfl) (isO.n (ci := 12) ⟨rfl, ho0⟩ (hn.trans h3)) h (fun v2 h => ?_)
    refine w_if_eq (tgt := 81) C dX12_fits_59 (by decide) (fun q => ?_) (fun q => ?_)
    · replace h := h.1 q
      refine w_iconst C dX12_fits_81 ⟨by decide, by decide⟩ ?_
      exact x_iret C hr dX12_fits_82 hn (hQ _ h)
    · replace h := h.2 q
      refine w_goto (tgt := 77) C dX12_fits_62 (by decide) ?_
      refine w_iconst C dX12_fits_77 ⟨by decide, by decide⟩ ?_
      refine w_goto (tgt := 82) C dX12_fits_78 (by decide) ?_
      exact x_iret C hr dX12_fits_82 hn (hQ _ h)
set_option maxRecDepth 100000 in
set_option maxHeartbeats 4000000 in
theorem k_X12_fits_0 {o0 : Nat} {x1 : Int} {x2 : Int} {x3 : Int} {x4 : Int} {M : Mm} {Q : Int → Prop} (C : Cx p s m args meth c cX12_fits 5 RX12 D cy G n0) (hr : meth.sig.returnType = some .int) (h3 : n0 = 243) (hn : M.2.2.2 = n0) (ho0 : o0 < 243 ∧ (SH o0).1 = 12) (hQ : ∀ x, Q x → Qp (some (vI x)) M) (h : P_X12_fits o0 x1 x2 x3 x4 M Q ) : WW p l e ({ frames := 3, cells := 0, slots := 0, locals := 78 }) s m args below meth c (ZQ below args s D cy G n0 Qp n0) 5 D cy G n0 0 [(0, vR (some o0)), (1, vI x1), (2, vI x2), (3, vI x3), (4, vI x4)] [] M := by
  unfold P_X12_fits at h
  refine w_aload_n C dX12_fits_0 rfl (mem_k 0 rfl) ?_
  refine w_iload_n C dX12_fits_1 rfl (mem_k 1 rfl) ?_
  refine cl_X12_isBody (ck_X12_155 ⟨by decide, by decide⟩) C dX12_fits_2 hn h3 (Nat.le_of_ble_eq_true rfl) (isO.n (ci := 12) ⟨rfl, ho0⟩ (hn.trans h3)) h (fun v3 h => ?_)
  refine w_if_eq (tgt := 47) C dX12_fits_5 (by decide) (fun q => ?_) (fun q => ?_)
  · replace h := h.1 q
    refine w_iconst C dX12_fits_47 ⟨by decide, by decide⟩ ?_
    exact x_iret C hr dX12_fits_48 hn (hQ _ h)
  · replace h := h.2 q
    refine w_aload_n C dX12_fits_8 rfl (mem_k 0 rfl) ?_
    refine w_iload_n C dX12_fits_9 rfl (mem_k 2 rfl) ?_
    refine cl_X12_isSeat (ck_X12_152 ⟨by decide, by decide⟩) C dX12_fits_10 hn h3 (Nat.le_of_ble_eq_true rfl) (isO.n (ci := 12) ⟨rfl, ho0⟩ (hn.trans h3)) h (fun v4 h => ?_)
    refine w_if_eq (tgt := 47) C dX12_fits_13 (by decide) (fun q => ?_) (fun q => ?_)
    · replace h := h.1 q
      refine w_iconst C dX12_fits_47 ⟨by decide, by decide⟩ ?_
      exact x_iret C hr dX12_fits_48 hn (hQ _ h)
    · replace h := h.2 q
      refine w_iload_n C dX12_fits_16 rfl (mem_k 3 rfl) ?_
      refine w_i2l C dX12_fits_17 ?_
      refine w_ldc2 (x := (-1)) C dX12_fits_18 cn_X12_216 ⟨by decide, by decide⟩ ?_
      refine w_ldc2 (x := 9) C dX12_fits_21 cn_X12_218 ⟨by decide, by decide⟩ ?_
      refine cl_X12_in (ck_X12_85 ⟨by decide, by decide⟩) C dX12_fits_24 hn h3 (Nat.le_of_ble_eq_true rfl) h (fun v5 h => ?_)
      refine w_if_eq (tgt := 47) C dX12_fits_27 (by decide) (fun q => ?_) (fun q => ?_)
      · replace h := h.1 q
        refine w_iconst C dX12_fits_47 ⟨by decide, by decide⟩ ?_
        exact x_iret C hr dX12_fits_48 hn (hQ _ h)
      · replace h := h.2 q
        refine w_iload_n C dX12_fits_30 rfl (mem_k 3 rfl) ?_
        refine w_if_lt (tgt := 49) C dX12_fits_31 (by decide) (fun q => ?_) (fun q => ?_)
        · replace h := h.1 q
          refine x_pc (pc2 := 49) rfl ?_
          refine x_pick (L' := [(0, vR (some o0)), (1, vI x1), (2, vI x2), (3, vI x3), (4, vI x4)]) [0, 1, 2, 3, 4] rfl ?_
          exact k_X12_fits_49 C hr h3 hn ho0 hQ  h
        · replace h := h.2 q
          refine w_iload C dX12_fits_34 (mem_k 4 rfl) ?_
          refine w_i2l C dX12_fits_36 ?_
          refine w_lconst C dX12_fits_37 ?_
          refine w_ldc2 (x := 9) C dX12_fits_38 cn_X12_218 ⟨by decide, by decide⟩ ?_
          refine cl_X12_in (ck_X12_85 ⟨by decide, by decide⟩) C dX12_fits_41 hn h3 (Nat.le_of_ble_eq_true rfl) h (fun v6 h => ?_)
          refine w_if_ne (tgt := 49) C dX12_fits_44 (by decide) (fun q => ?_) (fun q => ?_)
          · replace h := h.1 q
            refine x_pc (pc2 := 49) rfl ?_
            refine x_pick (L' := [(0, vR (some o0)), (1, vI x1), (2, vI x2), (3, vI x3), (4, vI x4)]) [0, 1, 2, 3, 4] rfl ?_
            exact k_X12_fits_49 C hr h3 hn ho0 hQ  h
          · replace h := h.2 q
            refine w_iconst C dX12_fits_47 ⟨by decide, by decide⟩ ?_
            exact x_iret C hr dX12_fits_48 hn (hQ _ h)
set_option maxRecDepth 100000 in
set_option maxHeartbeats 4000000 in
theorem con_X12_fits (l : Launch) (D : va_G) (cy : Nat → ClassId) : Con l D cy yX12_fits cX12_fits 5 (some .int) ({ frames := 3, cells := 0, slots := 0, locals := 78 }) 0 0 SP_X12_fits := by
  refine con_of (by decide) (fun as M Qp h => ?_) ?_
  · obtain ⟨-, o0, x1, x2, x3, x4, rfl, -⟩ := h
    exact Nat.le_of_ble_eq_true rfl
  · intro p e s m args below meth c G as M Qp h C hr hnm
    obtain ⟨hn, o0, x1, x2, x3, x4, rfl, ho1, ho2, Q0, hQ, h⟩ := h
    refine x_pick (L' := [(0, vR (some o0)), (1, vI x1), (2, vI x2), (3, vI x3), (4, vI x4)]) [0, 1, 2, 3, 4] rfl ?_
    exact k_X12_fits_0 C hr hn rfl ⟨ho1, ho2⟩ hQ h
set_option maxRecDepth 100000 in
set_option maxHeartbeats 4000000 in
theorem cl_X12_fits {p : Program} {l : Launch} {e : Env} {R : Room} {s : State} {m : MethodId} {args : Array Value} {below : List Frame} {meth : Method} {c : Code} {Q : State → Prop} {cc : ByteArray} {nL : Nat} {own : String} {D : va_G} {cy : Nat → ClassId} {G : Nat × Nat} {n0 pc : Nat} {L : List (Nat × PV)} {st : List PV} {M : Mm} {op : Instr} (K : CallOK l D cy R own op 0 0 (spV 12 4 SP_X12_fits)) (C : Cx p s m args meth c cc nL own D cy G n0) (hd : decode cc pc = .ok (op, 3)) (hn : M.2.2.2 = n0) (h3 : n0 = 243) (hlen : argN st ≤ 8) {r : Option Nat} {o0 : Nat} (ho : isOn 12 M.2.2.2 r o0) {x1 : Int} {x2 : Int} {x3 : Int} {x4 : Int} {Q0 : Int → Prop} (h : P_X12_fits o0 x1 x2 x3 x4 M Q0) (k : ∀ x, Q0 x → WW p l e R s m args below meth c Q nL D cy G n0  (pc + 3) L (vI x :: st) M) : WW p l e R s m args below meth c Q nL D cy G n0  pc L (vI x4 :: vI x3 :: vI x2 :: vI x1 :: vR r :: st) M := by
  obtain ⟨rfl, ho1, ho2⟩ := ho
  refine x_call0 K C hd (as := [vR (some o0), vI x1, vI x2, vI x3, vI x4]) rfl hn hlen (fun v M2 => ∃ x, v = some (vI x) ∧ M2 = M ∧ Q0 x) ⟨⟨o0, [vI x1, vI x2, vI x3, vI x4], rfl, rfl, ho1, ho2⟩, hn.trans h3, o0, x1, x2, x3, x4, rfl, (hn.trans h3) ▸ ho1, ho2, Q0, fun x hx => ⟨x, rfl, rfl, hx⟩, h⟩ ?_
  rintro _ _ ⟨x, rfl, rfl, hx⟩ hm
  exact k x hx
end W_X12_fits
theorem dX12_people_0 : decode cX12_people 0 = .ok (.iconst 0, 1) := by decide +kernel
theorem dX12_people_1 : decode cX12_people 1 = .ok (.istore_n 1, 1) := by decide +kernel
theorem dX12_people_2 : decode cX12_people 2 = .ok (.iconst 0, 1) := by decide +kernel
theorem dX12_people_3 : decode cX12_people 3 = .ok (.istore_n 2, 1) := by decide +kernel
theorem dX12_people_4 : decode cX12_people 4 = .ok (.iload_n 2, 1) := by decide +kernel
theorem dX12_people_5 : decode cX12_people 5 = .ok (.aload_n 0, 1) := by decide +kernel
theorem dX12_people_6 : decode cX12_people 6 = .ok (.getfield 149, 3) := by decide +kernel
theorem dX12_people_9 : decode cX12_people 9 = .ok (.if_icmp .ge 23, 3) := by decide +kernel
theorem dX12_people_12 : decode cX12_people 12 = .ok (.iload_n 1, 1) := by decide +kernel
theorem dX12_people_13 : decode cX12_people 13 = .ok (.aload_n 0, 1) := by decide +kernel
theorem dX12_people_14 : decode cX12_people 14 = .ok (.getfield 43, 3) := by decide +kernel
theorem dX12_people_17 : decode cX12_people 17 = .ok (.bipush 6, 2) := by decide +kernel
theorem dX12_people_19 : decode cX12_people 19 = .ok (.iload_n 2, 1) := by decide +kernel
theorem dX12_people_20 : decode cX12_people 20 = .ok (.imul, 1) := by decide +kernel
theorem dX12_people_21 : decode cX12_people 21 = .ok (.iconst 5, 1) := by decide +kernel
theorem dX12_people_22 : decode cX12_people 22 = .ok (.iadd, 1) := by decide +kernel
theorem dX12_people_23 : decode cX12_people 23 = .ok (.iaload, 1) := by decide +kernel
theorem dX12_people_24 : decode cX12_people 24 = .ok (.iadd, 1) := by decide +kernel
theorem dX12_people_25 : decode cX12_people 25 = .ok (.istore_n 1, 1) := by decide +kernel
theorem dX12_people_26 : decode cX12_people 26 = .ok (.iinc 2 1, 3) := by decide +kernel
theorem dX12_people_29 : decode cX12_people 29 = .ok (.goto (-25), 3) := by decide +kernel
theorem dX12_people_32 : decode cX12_people 32 = .ok (.iload_n 1, 1) := by decide +kernel
theorem dX12_people_33 : decode cX12_people 33 = .ok (.ireturn, 1) := by decide +kernel
section W_X12_people
variable {p : Program} {l : Launch} {e : Env} {s : State} {m : MethodId} {args : Array Value} {below : List Frame} {meth : Method} {c : Code} {D : va_G} {cy : Nat → ClassId} {G : Nat × Nat} {n0 : Nat} {Qp : Option PV → Mm → Prop}
set_option maxRecDepth 100000 in
set_option maxHeartbeats 4000000 in
theorem f_X12_people_4 {o0 : Nat} {x1 : Int} {x2 : Int} {M : Mm} {Q : Int → Prop} {K4 : Int × Int → Prop} (C : Cx p s m args meth c cX12_people 3 RX12 D cy G n0) (hr : meth.sig.returnType = some .int) (h3 : n0 = 243) (hn : M.2.2.2 = n0) (ho0 : o0 < 243 ∧ (SH o0).1 = 12) (hQ : ∀ x, Q x → Qp (some (vI x)) M) (hK4 : ∀ (x1 : Int) (x2 : Int), K4 (x1, x2) → WW p l e ({ frames := 0, cells := 0, slots := 0, locals := 0 }) s m args below meth c (ZQ below args s D cy G n0 Qp n0) 3 D cy G n0 4 [(0, vR (some o0)), (1, vI x1), (2, vI x2)] [] M) (h : F_X12_people_4 o0 M Q  K4 x1 x2) : WW p l e ({ frames := 0, cells := 0, slots := 0, locals := 0 }) s m args below meth c (ZQ below args s D cy G n0 Qp n0) 3 D cy G n0 4 [(0, vR (some o0)), (1, vI x1), (2, vI x2)] [] M := by
  unfold F_X12_people_4 at h
  refine w_iload_n C dX12_people_4 rfl (mem_k 2 rfl) ?_
  refine w_aload_n C dX12_people_5 rfl (mem_k 0 rfl) ?_
  refine x_getI C dX12_people_6 fw_X12_149 (isO.n (ci := 12) ⟨rfl, ho0⟩ (hn.trans h3)) ?_
  refine w_icmp_ge (tgt := 32) C dX12_people_9 (by decide) (fun q => ?_) (fun q => ?_)
  · replace h := h.1 q
    refine w_iload_n C dX12_people_32 rfl (mem_k 1 rfl) ?_
    exact x_iret C hr dX12_people_33 hn (hQ _ h)
  · replace h := h.2 q
    refine w_iload_n C dX12_people_12 rfl (mem_k 1 rfl) ?_
    refine w_aload_n C dX12_people_13 rfl (mem_k 0 rfl) ?_
    refine x_getR C dX12_people_14 fw_X12_43 (isO.n (ci := 12) ⟨rfl, ho0⟩ (hn.trans h3)) (fun r1 er1 => ?_)
    replace h := h r1 er1
    refine w_bipush C dX12_people_17 (by decide) ?_
    refine w_iload_n C dX12_people_19 rfl (mem_k 2 rfl) ?_
    refine w_imul C dX12_people_20 h.1 ?_
    replace h := h.2
    refine w_iconst C dX12_people_21 ⟨by decide, by decide⟩ ?_
    refine w_iadd C dX12_people_22 h.1 ?_
    replace h := h.2
    obtain ⟨o2, g3, h⟩ := h
    refine x_iald C dX12_people_23 (isA.n g3 (hn.trans h3)) ?_
    refine w_iadd C dX12_people_24 h.1 ?_
    replace h := h.2
    refine x_nmI (fun v4 ev4 => ?_)
    replace h := h v4 ev4
    refine x_istore_n (L' := [(1, vI v4), (0, vR (some o0)), (2, vI x2)]) C dX12_people_25 rfl (by decide) rfl ?_
    obtain ⟨v5, ev5⟩ : ∃ z : Int, z = x2 + 1 := ⟨_, rfl⟩
    refine x_iinc (L' := [(2, vI v5), (1, vI v4), (0, vR (some o0))]) C dX12_people_26 (mem_k 2 rfl) (by decide) h.1 ev5 rfl ?_
    replace h := h.2 v5 ev5
    refine w_goto (tgt := 4) C dX12_people_29 (by decide) ?_
    refine x_pc (pc2 := 4) rfl ?_
    refine x_pick (L' := [(0, vR (some o0)), (1, vI v4), (2, vI v5)]) [2, 1, 0] rfl ?_
    exact hK4 v4 v5 h
set_option maxRecDepth 100000 in
set_option maxHeartbeats 4000000 in
theorem k_X12_people_4 {o0 : Nat} {x1 : Int} {x2 : Int} {M : Mm} {Q : Int → Prop} (C : Cx p s m args meth c cX12_people 3 RX12 D cy G n0) (hr : meth.sig.returnType = some .int) (h3 : n0 = 243) (hn : M.2.2.2 = n0) (ho0 : o0 < 243 ∧ (SH o0).1 = 12) (hQ : ∀ x, Q x → Qp (some (vI x)) M) (h : P_X12_people_4 o0 x1 x2 M Q ) : WW p l e ({ frames := 0, cells := 0, slots := 0, locals := 0 }) s m args below meth c (ZQ below args s D cy G n0 Qp n0) 3 D cy G n0 4 [(0, vR (some o0)), (1, vI x1), (2, vI x2)] [] M := by
  refine lpW_sound (P := fun y : Int × Int => WW p l e ({ frames := 0, cells := 0, slots := 0, locals := 0 }) s m args below meth c (ZQ below args s D cy G n0 Qp n0) 3 D cy G n0 4 [(0, vR (some o0)), (1, vI y.1), (2, vI y.2)] [] M) ?_ h
  intro K y hK hF
  obtain ⟨x1, x2⟩ := y
  exact f_X12_people_4 C hr h3 hn ho0 hQ  (fun x1 x2 hk => hK (x1, x2) hk) hF
set_option maxRecDepth 100000 in
set_option maxHeartbeats 4000000 in
theorem k_X12_people_0 {o0 : Nat} {M : Mm} {Q : Int → Prop} (C : Cx p s m args meth c cX12_people 3 RX12 D cy G n0) (hr : meth.sig.returnType = some .int) (h3 : n0 = 243) (hn : M.2.2.2 = n0) (ho0 : o0 < 243 ∧ (SH o0).1 = 12) (hQ : ∀ x, Q x → Qp (some (vI x)) M) (h : P_X12_people o0 M Q ) : WW p l e ({ frames := 0, cells := 0, slots := 0, locals := 0 }) s m args below meth c (ZQ below args s D cy G n0 Qp n0) 3 D cy G n0 0 [(0, vR (some o0))] [] M := by
  unfold P_X12_people at h
  refine w_iconst C dX12_people_0 ⟨by decide, by decide⟩ ?_
  refine x_istore_n (L' := [(1, vI 0), (0, vR (some o0))]) C dX12_people_1 rfl (by decide) rfl ?_
  refine w_iconst C dX12_people_2 ⟨by decide, by decide⟩ ?_
  refine x_istore_n (L' := [(2, vI 0), (1, vI 0), (0, vR (some o0))]) C dX12_people_3 rfl (by decide) rfl ?_
  refine x_pc (pc2 := 4) rfl ?_
  refine x_pick (L' := [(0, vR (some o0)), (1, vI 0), (2, vI 0)]) [2, 1, 0] rfl ?_
  exact k_X12_people_4 C hr h3 hn ho0 hQ  h
set_option maxRecDepth 100000 in
set_option maxHeartbeats 4000000 in
theorem con_X12_people (l : Launch) (D : va_G) (cy : Nat → ClassId) : Con l D cy yX12_people cX12_people 3 (some .int) ({ frames := 0, cells := 0, slots := 0, locals := 0 }) 0 0 SP_X12_people := by
  refine con_of (by decide) (fun as M Qp h => ?_) ?_
  · obtain ⟨-, o0, rfl, -⟩ := h
    exact Nat.le_of_ble_eq_true rfl
  · intro p e s m args below meth c G as M Qp h C hr hnm
    obtain ⟨hn, o0, rfl, ho1, ho2, Q0, hQ, h⟩ := h
    refine x_pick (L' := [(0, vR (some o0))]) [0] rfl ?_
    exact k_X12_people_0 C hr hn rfl ⟨ho1, ho2⟩ hQ h
set_option maxRecDepth 100000 in
set_option maxHeartbeats 4000000 in
theorem cl_X12_people {p : Program} {l : Launch} {e : Env} {R : Room} {s : State} {m : MethodId} {args : Array Value} {below : List Frame} {meth : Method} {c : Code} {Q : State → Prop} {cc : ByteArray} {nL : Nat} {own : String} {D : va_G} {cy : Nat → ClassId} {G : Nat × Nat} {n0 pc : Nat} {L : List (Nat × PV)} {st : List PV} {M : Mm} {op : Instr} (K : CallOK l D cy R own op 0 0 (spV 12 0 SP_X12_people)) (C : Cx p s m args meth c cc nL own D cy G n0) (hd : decode cc pc = .ok (op, 3)) (hn : M.2.2.2 = n0) (h3 : n0 = 243) (hlen : argN st ≤ 8) {r : Option Nat} {o0 : Nat} (ho : isOn 12 M.2.2.2 r o0)  {Q0 : Int → Prop} (h : P_X12_people o0 M Q0) (k : ∀ x, Q0 x → WW p l e R s m args below meth c Q nL D cy G n0  (pc + 3) L (vI x :: st) M) : WW p l e R s m args below meth c Q nL D cy G n0  pc L (vR r :: st) M := by
  obtain ⟨rfl, ho1, ho2⟩ := ho
  refine x_call0 K C hd (as := [vR (some o0)]) rfl hn hlen (fun v M2 => ∃ x, v = some (vI x) ∧ M2 = M ∧ Q0 x) ⟨⟨o0, [], rfl, rfl, ho1, ho2⟩, hn.trans h3, o0, rfl, (hn.trans h3) ▸ ho1, ho2, Q0, fun x hx => ⟨x, rfl, rfl, hx⟩, h⟩ ?_
  rintro _ _ ⟨x, rfl, rfl, hx⟩ hm
  exact k x hx
end W_X12_people
theorem dX12_layFitting_0 : decode cX12_layFitting 0 = .ok (.iconst 0, 1) := by decide +kernel
theorem dX12_layFitting_1 : decode cX12_layFitting 1 = .ok (.istore_n 1, 1) := by decide +kernel
theorem dX12_layFitting_2 : decode cX12_layFitting 2 = .ok (.iload_n 1, 1) := by decide +kernel
theorem dX12_layFitting_3 : decode cX12_layFitting 3 = .ok (.aload_n 0, 1) := by decide +kernel
theorem dX12_layFitting_4 : decode cX12_layFitting 4 = .ok (.getfield 149, 3) := by decide +kernel
theorem dX12_layFitting_7 : decode cX12_layFitting 7 = .ok (.if_icmp .ge 59, 3) := by decide +kernel
theorem dX12_layFitting_10 : decode cX12_layFitting 10 = .ok (.aload_n 0, 1) := by decide +kernel
theorem dX12_layFitting_11 : decode cX12_layFitting 11 = .ok (.getfield 71, 3) := by decide +kernel
theorem dX12_layFitting_14 : decode cX12_layFitting 14 = .ok (.iload_n 1, 1) := by decide +kernel
theorem dX12_layFitting_15 : decode cX12_layFitting 15 = .ok (.iconst 0, 1) := by decide +kernel
theorem dX12_layFitting_16 : decode cX12_layFitting 16 = .ok (.iastore, 1) := by decide +kernel
theorem dX12_layFitting_17 : decode cX12_layFitting 17 = .ok (.iconst 0, 1) := by decide +kernel
theorem dX12_layFitting_18 : decode cX12_layFitting 18 = .ok (.istore_n 2, 1) := by decide +kernel
theorem dX12_layFitting_19 : decode cX12_layFitting 19 = .ok (.iload_n 2, 1) := by decide +kernel
theorem dX12_layFitting_20 : decode cX12_layFitting 20 = .ok (.aload_n 0, 1) := by decide +kernel
theorem dX12_layFitting_21 : decode cX12_layFitting 21 = .ok (.getfield 25, 3) := by decide +kernel
theorem dX12_layFitting_24 : decode cX12_layFitting 24 = .ok (.iconst 1, 1) := by decide +kernel
theorem dX12_layFitting_25 : decode cX12_layFitting 25 = .ok (.iaload, 1) := by decide +kernel
theorem dX12_layFitting_26 : decode cX12_layFitting 26 = .ok (.if_icmp .ge 34, 3) := by decide +kernel
theorem dX12_layFitting_29 : decode cX12_layFitting 29 = .ok (.aload_n 0, 1) := by decide +kernel
theorem dX12_layFitting_30 : decode cX12_layFitting 30 = .ok (.getfield 71, 3) := by decide +kernel
theorem dX12_layFitting_33 : decode cX12_layFitting 33 = .ok (.iload_n 1, 1) := by decide +kernel
theorem dX12_layFitting_34 : decode cX12_layFitting 34 = .ok (.dup2, 1) := by decide +kernel
theorem dX12_layFitting_35 : decode cX12_layFitting 35 = .ok (.iaload, 1) := by decide +kernel
theorem dX12_layFitting_36 : decode cX12_layFitting 36 = .ok (.aload_n 0, 1) := by decide +kernel
theorem dX12_layFitting_37 : decode cX12_layFitting 37 = .ok (.iload_n 1, 1) := by decide +kernel
theorem dX12_layFitting_38 : decode cX12_layFitting 38 = .ok (.iload_n 2, 1) := by decide +kernel
theorem dX12_layFitting_39 : decode cX12_layFitting 39 = .ok (.invokevirtual 220, 3) := by decide +kernel
theorem dX12_layFitting_42 : decode cX12_layFitting 42 = .ok (.ifCond .eq 9, 3) := by decide +kernel
theorem dX12_layFitting_45 : decode cX12_layFitting 45 = .ok (.iconst 1, 1) := by decide +kernel
theorem dX12_layFitting_46 : decode cX12_layFitting 46 = .ok (.iload_n 2, 1) := by decide +kernel
theorem dX12_layFitting_47 : decode cX12_layFitting 47 = .ok (.ishl, 1) := by decide +kernel
theorem dX12_layFitting_48 : decode cX12_layFitting 48 = .ok (.goto 4, 3) := by decide +kernel
theorem dX12_layFitting_51 : decode cX12_layFitting 51 = .ok (.iconst 0, 1) := by decide +kernel
theorem dX12_layFitting_52 : decode cX12_layFitting 52 = .ok (.ior, 1) := by decide +kernel
theorem dX12_layFitting_53 : decode cX12_layFitting 53 = .ok (.iastore, 1) := by decide +kernel
theorem dX12_layFitting_54 : decode cX12_layFitting 54 = .ok (.iinc 2 1, 3) := by decide +kernel
theorem dX12_layFitting_57 : decode cX12_layFitting 57 = .ok (.goto (-38), 3) := by decide +kernel
theorem dX12_layFitting_60 : decode cX12_layFitting 60 = .ok (.iinc 1 1, 3) := by decide +kernel
theorem dX12_layFitting_63 : decode cX12_layFitting 63 = .ok (.goto (-61), 3) := by decide +kernel
theorem dX12_layFitting_66 : decode cX12_layFitting 66 = .ok (.return_, 1) := by decide +kernel
theorem fw_X12_71 : fR RX12 71 12 26 := ⟨⟨lwG_4 (i := 90) rfl rfl, by decide, by decide⟩, fun _ _ => rfl, fun r => ⟨r, rfl⟩⟩
section W_X12_layFitting
variable {p : Program} {l : Launch} {e : Env} {s : State} {m : MethodId} {args : Array Value} {below : List Frame} {meth : Method} {c : Code} {D : va_G} {cy : Nat → ClassId} {G : Nat × Nat} {n0 : Nat} {Qp : Option PV → Mm → Prop}
set_option maxRecDepth 100000 in
set_option maxHeartbeats 4000000 in
theorem f_X12_layFitting_19 {o0 : Nat} {x1 : Int} {x2 : Int} {M : Mm} {Q : Mm → Prop} {K2 : Int × Mm → Prop} {K19 : Int × Mm → Prop} (C : Cx p s m args meth c cX12_layFitting 3 RX12 D cy G n0) (hr : meth.sig.returnType = none) (h3 : n0 = 243) (hn : M.2.2.2 = n0) (ho0 : o0 < 243 ∧ (SH o0).1 = 12) (hQ : ∀ M, Q M → Qp none M) (hK2 : ∀ (x1 : Int) (M : Mm), K2 (x1, M) → M.2.2.2 = n0 → WW p l e ({ frames := 3, cells := 0, slots := 0, locals := 78 }) s m args below meth c (ZQ below args s D cy G n0 Qp n0) 3 D cy G n0 2 [(0, vR (some o0)), (1, vI x1)] [] M) (hK19 : ∀ (x2 : Int) (M : Mm), K19 (x2, M) → M.2.2.2 = n0 → WW p l e ({ frames := 3, cells := 0, slots := 0, locals := 78 }) s m args below meth c (ZQ below args s D cy G n0 Qp n0) 3 D cy G n0 19 [(0, vR (some o0)), (1, vI x1), (2, vI x2)] [] M) (h : F_X12_layFitting_19 o0 x1 Q K2 K19 x2 M) : WW p l e ({ frames := 3, cells := 0, slots := 0, locals := 78 }) s m args below meth c (ZQ below args s D cy G n0 Qp n0) 3 D cy G n0 19 [(0, vR (some o0)), (1, vI x1), (2, vI x2)] [] M := by
  unfold F_X12_layFitting_19 at h
  refine w_iload_n C dX12_layFitting_19 rfl (mem_k 2 rfl) ?_
  refine w_aload_n C dX12_layFitting_20 rfl (mem_k 0 rfl) ?_
  refine x_getR C dX12_layFitting_21 fw_X12_25 (isO.n (ci := 12) ⟨rfl, ho0⟩ (hn.trans h3)) (fun r1 er1 => ?_)
  replace h := h r1 er1
  refine w_iconst C dX12_layFitting_24 ⟨by decide, by decide⟩ ?_
  obtain ⟨o2, g3, h⟩ := h
  refine x_iald C dX12_layFitting_25 (isA.n g3 (hn.trans h3)) ?_
  refine w_icmp_ge (tgt := 60) C dX12_layFitting_26 (by decide) (fun q => ?_) (fun q => ?_)
  · replace h := h.1 q
    obtain ⟨v4, ev4⟩ : ∃ z : Int, z = x1 + 1 := ⟨_, rfl⟩
    refine x_iinc (L' := [(1, vI v4), (0, vR (some o0)), (2, vI x2)]) C dX12_layFitting_60 (mem_k 1 rfl) (by decide) h.1 ev4 rfl ?_
    replace h := h.2 v4 ev4
    refine w_goto (tgt := 2) C dX12_layFitting_63 (by decide) ?_
    refine x_pc (pc2 := 2) rfl ?_
    refine x_pick (L' := [(0, vR (some o0)), (1, vI v4)]) [1, 0] rfl ?_
    exact hK2 v4 M h hn
  · replace h := h.2 q
    refine w_aload_n C dX12_layFitting_29 rfl (mem_k 0 rfl) ?_
    refine x_getR C dX12_layFitting_30 fw_X12_71 (isO.n (ci := 12) ⟨rfl, ho0⟩ (hn.trans h3)) (fun r5 er5 => ?_)
    replace h := h r5 er5
    refine w_iload_n C dX12_layFitting_33 rfl (mem_k 1 rfl) ?_
    refine w_dup2 C dX12_layFitting_34 rfl rfl ?_
    obtain ⟨o6, g7, h⟩ := h
    refine x_iald C dX12_layFitting_35 (isA.n g7 (hn.trans h3)) ?_
    refine w_aload_n C dX12_layFitting_36 rfl (mem_k 0 rfl) ?_
    refine w_iload_n C dX12_layFitting_37 rfl (mem_k 1 rfl) ?_
    refine w_iload_n C dX12_layFitting_38 rfl (mem_k 2 rfl) ?_
    refine cl_X12_fitsSome (ck_X12_220 ⟨by decide, by decide⟩) C dX12_layFitting_39 hn h3 (Nat.le_of_ble_eq_true rfl) (isO.n (ci := 12) ⟨rfl, ho0⟩ (hn.trans h3)) h (fun v8 h => ?_)
    refine w_if_eq (tgt := 51) C dX12_layFitting_42 (by decide) (fun q => ?_) (fun q => ?_)
    · replace h := h.1 q
      refine w_iconst C dX12_layFitting_51 ⟨by decide, by decide⟩ ?_
      refine w_ior C dX12_layFitting_52 ?_
      obtain ⟨o9, g10, h⟩ := h
      refine x_iast C dX12_layFitting_53 (isA.n g10 (hn.trans h3)) (fun M11 eM11 hn12 => ?_)
      replace h := h M11 eM11
      replace hn12 := hn12.trans hn
      obtain ⟨v13, ev13⟩ : ∃ z : Int, z = x2 + 1 := ⟨_, rfl⟩
      refine x_iinc (L' := [(2, vI v13), (0, vR (some o0)), (1, vI x1)]) C dX12_layFitting_54 (mem_k 2 rfl) (by decide) h.1 ev13 rfl ?_
      replace h := h.2 v13 ev13
      refine w_goto (tgt := 19) C dX12_layFitting_57 (by decide) ?_
      refine x_pc (pc2 := 19) rfl ?_
      refine x_pick (L' := [(0, vR (some o0)), (1, vI x1), (2, vI v13)]) [1, 2, 0] rfl ?_
      exact hK19 v13 M11 h hn12
    · replace h := h.2 q
      refine w_iconst C dX12_layFitting_45 ⟨by decide, by decide⟩ ?_
      refine w_iload_n C dX12_layFitting_46 rfl (mem_k 2 rfl) ?_
      refine w_ishl C dX12_layFitting_47 ?_
      refine w_goto (tgt := 52) C dX12_layFitting_48 (by decide) ?_
      refine w_ior C dX12_layFitting_52 ?_
      obtain ⟨o14, g15, h⟩ := h
      refine x_iast C dX12_layFitting_53 (isA.n g15 (hn.trans h3)) (fun M16 eM16 hn17 => ?_)
      replace h := h M16 eM16
      replace hn17 := hn17.trans hn
      obtain ⟨v18, ev18⟩ : ∃ z : Int, z = x2 + 1 := ⟨_, rfl⟩
      refine x_iinc (L' := [(2, vI v18), (0, vR (some o0)), (1, vI x1)]) C dX12_layFitting_54 (mem_k 2 rfl) (by decide) h.1 ev18 rfl ?_
      replace h := h.2 v18 ev18
      refine w_goto (tgt := 19) C dX12_layFitting_57 (by decide) ?_
      refine x_pc (pc2 := 19) rfl ?_
      refine x_pick (L' := [(0, vR (some o0)), (1, vI x1), (2, vI v18)]) [1, 2, 0] rfl ?_
      exact hK19 v18 M16 h hn17
set_option maxRecDepth 100000 in
set_option maxHeartbeats 4000000 in
theorem k_X12_layFitting_19 {o0 : Nat} {x1 : Int} {x2 : Int} {M : Mm} {Q : Mm → Prop} {K2 : Int × Mm → Prop} (C : Cx p s m args meth c cX12_layFitting 3 RX12 D cy G n0) (hr : meth.sig.returnType = none) (h3 : n0 = 243) (hn : M.2.2.2 = n0) (ho0 : o0 < 243 ∧ (SH o0).1 = 12) (hQ : ∀ M, Q M → Qp none M) (hK2 : ∀ (x1 : Int) (M : Mm), K2 (x1, M) → M.2.2.2 = n0 → WW p l e ({ frames := 3, cells := 0, slots := 0, locals := 78 }) s m args below meth c (ZQ below args s D cy G n0 Qp n0) 3 D cy G n0 2 [(0, vR (some o0)), (1, vI x1)] [] M) (h : P_X12_layFitting_19 o0 x1 x2 M Q K2) : WW p l e ({ frames := 3, cells := 0, slots := 0, locals := 78 }) s m args below meth c (ZQ below args s D cy G n0 Qp n0) 3 D cy G n0 19 [(0, vR (some o0)), (1, vI x1), (2, vI x2)] [] M := by
  refine lpW_sound (P := fun y : Int × Mm => y.2.2.2.2 = n0 → WW p l e ({ frames := 3, cells := 0, slots := 0, locals := 78 }) s m args below meth c (ZQ below args s D cy G n0 Qp n0) 3 D cy G n0 19 [(0, vR (some o0)), (1, vI x1), (2, vI y.1)] [] y.2) ?_ h hn
  intro K y hK hF
  obtain ⟨x2, M⟩ := y
  intro hn
  exact f_X12_layFitting_19 C hr h3 hn ho0 hQ hK2 (fun x2 M hk => hK (x2, M) hk) hF
set_option maxRecDepth 100000 in
set_option maxHeartbeats 4000000 in
theorem f_X12_layFitting_2 {o0 : Nat} {x1 : Int} {M : Mm} {Q : Mm → Prop} {K2 : Int × Mm → Prop} (C : Cx p s m args meth c cX12_layFitting 3 RX12 D cy G n0) (hr : meth.sig.returnType = none) (h3 : n0 = 243) (hn : M.2.2.2 = n0) (ho0 : o0 < 243 ∧ (SH o0).1 = 12) (hQ : ∀ M, Q M → Qp none M) (hK2 : ∀ (x1 : Int) (M : Mm), K2 (x1, M) → M.2.2.2 = n0 → WW p l e ({ frames := 3, cells := 0, slots := 0, locals := 78 }) s m args below meth c (ZQ below args s D cy G n0 Qp n0) 3 D cy G n0 2 [(0, vR (some o0)), (1, vI x1)] [] M) (h : F_X12_layFitting_2 o0 Q  K2 x1 M) : WW p l e ({ frames := 3, cells := 0, slots := 0, locals := 78 }) s m args below meth c (ZQ below args s D cy G n0 Qp n0) 3 D cy G n0 2 [(0, vR (some o0)), (1, vI x1)] [] M := by
  unfold F_X12_layFitting_2 at h
  refine w_iload_n C dX12_layFitting_2 rfl (mem_k 1 rfl) ?_
  refine w_aload_n C dX12_layFitting_3 rfl (mem_k 0 rfl) ?_
  refine x_getI C dX12_layFitting_4 fw_X12_149 (isO.n (ci := 12) ⟨rfl, ho0⟩ (hn.trans h3)) ?_
  refine w_icmp_ge (tgt := 66) C dX12_layFitting_7 (by decide) (fun q => ?_) (fun q => ?_)
  · replace h := h.1 q
    exact x_vret C hr dX12_layFitting_66 hn (hQ M h)
  · replace h := h.2 q
    refine w_aload_n C dX12_layFitting_10 rfl (mem_k 0 rfl) ?_
    refine x_getR C dX12_layFitting_11 fw_X12_71 (isO.n (ci := 12) ⟨rfl, ho0⟩ (hn.trans h3)) (fun r19 er19 => ?_)
    replace h := h r19 er19
    refine w_iload_n C dX12_layFitting_14 rfl (mem_k 1 rfl) ?_
    refine w_iconst C dX12_layFitting_15 ⟨by decide, by decide⟩ ?_
    obtain ⟨o20, g21, h⟩ := h
    refine x_iast C dX12_layFitting_16 (isA.n g21 (hn.trans h3)) (fun M22 eM22 hn23 => ?_)
    replace h := h M22 eM22
    replace hn23 := hn23.trans hn
    refine w_iconst C dX12_layFitting_17 ⟨by decide, by decide⟩ ?_
    refine x_istore_n (L' := [(2, vI 0), (0, vR (some o0)), (1, vI x1)]) C dX12_layFitting_18 rfl (by decide) rfl ?_
    refine x_pc (pc2 := 19) rfl ?_
    refine x_pick (L' := [(0, vR (some o0)), (1, vI x1), (2, vI 0)]) [1, 2, 0] rfl ?_
    exact k_X12_layFitting_19 C hr h3 hn23 ho0 hQ hK2 h
set_option maxRecDepth 100000 in
set_option maxHeartbeats 4000000 in
theorem k_X12_layFitting_2 {o0 : Nat} {x1 : Int} {M : Mm} {Q : Mm → Prop} (C : Cx p s m args meth c cX12_layFitting 3 RX12 D cy G n0) (hr : meth.sig.returnType = none) (h3 : n0 = 243) (hn : M.2.2.2 = n0) (ho0 : o0 < 243 ∧ (SH o0).1 = 12) (hQ : ∀ M, Q M → Qp none M) (h : P_X12_layFitting_2 o0 x1 M Q ) : WW p l e ({ frames := 3, cells := 0, slots := 0, locals := 78 }) s m args below meth c (ZQ below args s D cy G n0 Qp n0) 3 D cy G n0 2 [(0, vR (some o0)), (1, vI x1)] [] M := by
  refine lpW_sound (P := fun y : Int × Mm => y.2.2.2.2 = n0 → WW p l e ({ frames := 3, cells := 0, slots := 0, locals := 78 }) s m args below meth c (ZQ below args s D cy G n0 Qp n0) 3 D cy G n0 2 [(0, vR (some o0)), (1, vI y.1)] [] y.2) ?_ h hn
  intro K y hK hF
  obtain ⟨x1, M⟩ := y
  intro hn
  exact f_X12_layFitting_2 C hr h3 hn ho0 hQ  (fun x1 M hk => hK (x1, M) hk) hF
set_option maxRecDepth 100000 in
set_option maxHeartbeats 4000000 in
theorem k_X12_layFitting_0 {o0 : Nat} {M : Mm} {Q : Mm → Prop} (C : Cx p s m args meth c cX12_layFitting 3 RX12 D cy G n0) (hr : meth.sig.returnType = none) (h3 : n0 = 243) (hn : M.2.2.2 = n0) (ho0 : o0 < 243 ∧ (SH o0).1 = 12) (hQ : ∀ M, Q M → Qp none M) (h : P_X12_layFitting o0 M Q ) : WW p l e ({ frames := 3, cells := 0, slots := 0, locals := 78 }) s m args below meth c (ZQ below args s D cy G n0 Qp n0) 3 D cy G n0 0 [(0, vR (some o0))] [] M := by
  unfold P_X12_layFitting at h
  refine w_iconst C dX12_layFitting_0 ⟨by decide, by decide⟩ ?_
  refine x_istore_n (L' := [(1, vI 0), (0, vR (some o0))]) C dX12_layFitting_1 rfl (by decide) rfl ?_
  refine x_pc (pc2 := 2) rfl ?_
  refine x_pick (L' := [(0, vR (some o0)), (1, vI 0)]) [1, 0] rfl ?_
  exact k_X12_layFitting_2 C hr h3 hn ho0 hQ  h
set_option maxRecDepth 100000 in
set_option maxHeartbeats 4000000 in
theorem con_X12_layFitting (l : Launch) (D : va_G) (cy : Nat → ClassId) : Con l D cy yX12_layFitting cX12_layFitting 3 (none) ({ frames := 3, cells := 0, slots := 0, locals := 78 }) 0 0 SP_X12_layFitting := by
  refine con_of (by decide) (fun as M Qp h => ?_) ?_
  · obtain ⟨-, o0, rfl, -⟩ := h
    exact Nat.le_of_ble_eq_true rfl
  · intro p e s m args below meth c G as M Qp h C hr hnm
    obtain ⟨hn, o0, rfl, ho1, ho2, Q0, hQ, h⟩ := h
    refine x_pick (L' := [(0, vR (some o0))]) [0] rfl ?_
    exact k_X12_layFitting_0 C hr hn rfl ⟨ho1, ho2⟩ hQ h
set_option maxRecDepth 100000 in
set_option maxHeartbeats 4000000 in
theorem cl_X12_layFitting {p : Program} {l : Launch} {e : Env} {R : Room} {s : State} {m : MethodId} {args : Array Value} {below : List Frame} {meth : Method} {c : Code} {Q : State → Prop} {cc : ByteArray} {nL : Nat} {own : String} {D : va_G} {cy : Nat → ClassId} {G : Nat × Nat} {n0 pc : Nat} {L : List (Nat × PV)} {st : List PV} {M : Mm} {op : Instr} (K : CallOK l D cy R own op 0 0 (spV 12 0 SP_X12_layFitting)) (C : Cx p s m args meth c cc nL own D cy G n0) (hd : decode cc pc = .ok (op, 3)) (hn : M.2.2.2 = n0) (h3 : n0 = 243) (hlen : argN st ≤ 8) {r : Option Nat} {o0 : Nat} (ho : isOn 12 M.2.2.2 r o0)  {Q0 : Mm → Prop} (h : P_X12_layFitting o0 M Q0) (k : ∀ M2, Q0 M2 → M2.2.2.2 = n0 → WW p l e R s m args below meth c Q nL D cy G n0  (pc + 3) L (st) M2) : WW p l e R s m args below meth c Q nL D cy G n0  pc L (vR r :: st) M := by
  obtain ⟨rfl, ho1, ho2⟩ := ho
  refine x_call0 K C hd (as := [vR (some o0)]) rfl hn hlen (fun v M2 => v = none ∧ Q0 M2) ⟨⟨o0, [], rfl, rfl, ho1, ho2⟩, hn.trans h3, o0, rfl, (hn.trans h3) ▸ ho1, ho2, Q0, fun M2 hx => ⟨rfl, hx⟩, h⟩ ?_
  rintro _ _ ⟨rfl, hx⟩ hm
  exact k _ hx hm
end W_X12_layFitting
theorem dX12_shareOf_0 : decode cX12_shareOf 0 = .ok (.iconst 0, 1) := by decide +kernel
theorem dX12_shareOf_1 : decode cX12_shareOf 1 = .ok (.istore_n 2, 1) := by decide +kernel
theorem dX12_shareOf_2 : decode cX12_shareOf 2 = .ok (.iconst 0, 1) := by decide +kernel
theorem dX12_shareOf_3 : decode cX12_shareOf 3 = .ok (.istore_n 3, 1) := by decide +kernel
theorem dX12_shareOf_4 : decode cX12_shareOf 4 = .ok (.iload_n 3, 1) := by decide +kernel
theorem dX12_shareOf_5 : decode cX12_shareOf 5 = .ok (.aload_n 0, 1) := by decide +kernel
theorem dX12_shareOf_6 : decode cX12_shareOf 6 = .ok (.getfield 149, 3) := by decide +kernel
theorem dX12_shareOf_9 : decode cX12_shareOf 9 = .ok (.if_icmp .ge 38, 3) := by decide +kernel
theorem dX12_shareOf_12 : decode cX12_shareOf 12 = .ok (.iload_n 2, 1) := by decide +kernel
theorem dX12_shareOf_13 : decode cX12_shareOf 13 = .ok (.aload_n 0, 1) := by decide +kernel
theorem dX12_shareOf_14 : decode cX12_shareOf 14 = .ok (.getfield 71, 3) := by decide +kernel
theorem dX12_shareOf_17 : decode cX12_shareOf 17 = .ok (.iload_n 3, 1) := by decide +kernel
theorem dX12_shareOf_18 : decode cX12_shareOf 18 = .ok (.iaload, 1) := by decide +kernel
theorem dX12_shareOf_19 : decode cX12_shareOf 19 = .ok (.iload_n 1, 1) := by decide +kernel
theorem dX12_shareOf_20 : decode cX12_shareOf 20 = .ok (.iand, 1) := by decide +kernel
theorem dX12_shareOf_21 : decode cX12_shareOf 21 = .ok (.ifCond .eq 17, 3) := by decide +kernel
theorem dX12_shareOf_24 : decode cX12_shareOf 24 = .ok (.aload_n 0, 1) := by decide +kernel
theorem dX12_shareOf_25 : decode cX12_shareOf 25 = .ok (.getfield 43, 3) := by decide +kernel
theorem dX12_shareOf_28 : decode cX12_shareOf 28 = .ok (.bipush 6, 2) := by decide +kernel
theorem dX12_shareOf_30 : decode cX12_shareOf 30 = .ok (.iload_n 3, 1) := by decide +kernel
theorem dX12_shareOf_31 : decode cX12_shareOf 31 = .ok (.imul, 1) := by decide +kernel
theorem dX12_shareOf_32 : decode cX12_shareOf 32 = .ok (.iconst 5, 1) := by decide +kernel
theorem dX12_shareOf_33 : decode cX12_shareOf 33 = .ok (.iadd, 1) := by decide +kernel
theorem dX12_shareOf_34 : decode cX12_shareOf 34 = .ok (.iaload, 1) := by decide +kernel
theorem dX12_shareOf_35 : decode cX12_shareOf 35 = .ok (.goto 4, 3) := by decide +kernel
theorem dX12_shareOf_38 : decode cX12_shareOf 38 = .ok (.iconst 0, 1) := by decide +kernel
theorem dX12_shareOf_39 : decode cX12_shareOf 39 = .ok (.iadd, 1) := by decide +kernel
theorem dX12_shareOf_40 : decode cX12_shareOf 40 = .ok (.istore_n 2, 1) := by decide +kernel
theorem dX12_shareOf_41 : decode cX12_shareOf 41 = .ok (.iinc 3 1, 3) := by decide +kernel
theorem dX12_shareOf_44 : decode cX12_shareOf 44 = .ok (.goto (-40), 3) := by decide +kernel
theorem dX12_shareOf_47 : decode cX12_shareOf 47 = .ok (.iload_n 2, 1) := by decide +kernel
theorem dX12_shareOf_48 : decode cX12_shareOf 48 = .ok (.ireturn, 1) := by decide +kernel
section W_X12_shareOf
variable {p : Program} {l : Launch} {e : Env} {s : State} {m : MethodId} {args : Array Value} {below : List Frame} {meth : Method} {c : Code} {D : va_G} {cy : Nat → ClassId} {G : Nat × Nat} {n0 : Nat} {Qp : Option PV → Mm → Prop}
set_option maxRecDepth 100000 in
set_option maxHeartbeats 4000000 in
theorem f_X12_shareOf_4 {o0 : Nat} {x1 : Int} {x2 : Int} {x3 : Int} {M : Mm} {Q : Int → Prop} {K4 : Int × Int → Prop} (C : Cx p s m args meth c cX12_shareOf 4 RX12 D cy G n0) (hr : meth.sig.returnType = some .int) (h3 : n0 = 243) (hn : M.2.2.2 = n0) (ho0 : o0 < 243 ∧ (SH o0).1 = 12) (hQ : ∀ x, Q x → Qp (some (vI x)) M) (hK4 : ∀ (x2 : Int) (x3 : Int), K4 (x2, x3) → WW p l e ({ frames := 0, cells := 0, slots := 0, locals := 0 }) s m args below meth c (ZQ below args s D cy G n0 Qp n0) 4 D cy G n0 4 [(0, vR (some o0)), (1, vI x1), (2, vI x2), (3, vI x3)] [] M) (h : F_X12_shareOf_4 o0 x1 M Q  K4 x2 x3) : WW p l e ({ frames := 0, cells := 0, slots := 0, locals := 0 }) s m args below meth c (ZQ below args s D cy G n0 Qp n0) 4 D cy G n0 4 [(0, vR (some o0)), (1, vI x1), (2, vI x2), (3, vI x3)] [] M := by
  unfold F_X12_shareOf_4 at h
  refine w_iload_n C dX12_shareOf_4 rfl (mem_k 3 rfl) ?_
  refine w_aload_n C dX12_shareOf_5 rfl (mem_k 0 rfl) ?_
  refine x_getI C dX12_shareOf_6 fw_X12_149 (isO.n (ci := 12) ⟨rfl, ho0⟩ (hn.trans h3)) ?_
  refine w_icmp_ge (tgt := 47) C dX12_shareOf_9 (by decide) (fun q => ?_) (fun q => ?_)
  · replace h := h.1 q
    refine w_iload_n C dX12_shareOf_47 rfl (mem_k 2 rfl) ?_
    exact x_iret C hr dX12_shareOf_48 hn (hQ _ h)
  · replace h := h.2 q
    refine w_iload_n C dX12_shareOf_12 rfl (mem_k 2 rfl) ?_
    refine w_aload_n C dX12_shareOf_13 rfl (mem_k 0 rfl) ?_
    refine x_getR C dX12_shareOf_14 fw_X12_71 (isO.n (ci := 12) ⟨rfl, ho0⟩ (hn.trans h3)) (fun r1 er1 => ?_)
    replace h := h r1 er1
    refine w_iload_n C dX12_shareOf_17 rfl (mem_k 3 rfl) ?_
    obtain ⟨o2, g3, h⟩ := h
    refine x_iald C dX12_shareOf_18 (isA.n g3 (hn.trans h3)) ?_
    refine w_iload_n C dX12_shareOf_19 rfl (mem_k 1 rfl) ?_
    refine w_iand C dX12_shareOf_20 ?_
    refine w_if_eq (tgt := 38) C dX12_shareOf_21 (by decide) (fun q => ?_) (fun q => ?_)
    · replace h := h.1 q
      refine w_iconst C dX12_shareOf_38 ⟨by decide, by decide⟩ ?_
      refine w_iadd C dX12_shareOf_39 h.1 ?_
      replace h := h.2
      refine x_nmI (fun v4 ev4 => ?_)
      replace h := h v4 ev4
      refine x_istore_n (L' := [(2, vI v4), (0, vR (some o0)), (1, vI x1), (3, vI x3)]) C dX12_shareOf_40 rfl (by decide) rfl ?_
      obtain ⟨v5, ev5⟩ : ∃ z : Int, z = x3 + 1 := ⟨_, rfl⟩
      refine x_iinc (L' := [(3, vI v5), (2, vI v4), (0, vR (some o0)), (1, vI x1)]) C dX12_shareOf_41 (mem_k 3 rfl) (by decide) h.1 ev5 rfl ?_
      replace h := h.2 v5 ev5
      refine w_goto (tgt := 4) C dX12_shareOf_44 (by decide) ?_
      refine x_pc (pc2 := 4) rfl ?_
      refine x_pick (L' := [(0, vR (some o0)), (1, vI x1), (2, vI v4), (3, vI v5)]) [2, 3, 1, 0] rfl ?_
      exact hK4 v4 v5 h
    · replace h := h.2 q
      refine w_aload_n C dX12_shareOf_24 rfl (mem_k 0 rfl) ?_
      refine x_getR C dX12_shareOf_25 fw_X12_43 (isO.n (ci := 12) ⟨rfl, ho0⟩ (hn.trans h3)) (fun r6 er6 => ?_)
      replace h := h r6 er6
      refine w_bipush C dX12_shareOf_28 (by decide) ?_
      refine w_iload_n C dX12_shareOf_30 rfl (mem_k 3 rfl) ?_
      refine w_imul C dX12_shareOf_31 h.1 ?_
      replace h := h.2
      refine w_iconst C dX12_shareOf_32 ⟨by decide, by decide⟩ ?_
      refine w_iadd C dX12_shareOf_33 h.1 ?_
      replace h := h.2
      obtain ⟨o7, g8, h⟩ := h
      refine x_iald C dX12_shareOf_34 (isA.n g8 (hn.trans h3)) ?_
      refine w_goto (tgt := 39) C dX12_shareOf_35 (by decide) ?_
      refine w_iadd C dX12_shareOf_39 h.1 ?_
      replace h := h.2
      refine x_nmI (fun v9 ev9 => ?_)
      replace h := h v9 ev9
      refine x_istore_n (L' := [(2, vI v9), (0, vR (some o0)), (1, vI x1), (3, vI x3)]) C dX12_shareOf_40 rfl (by decide) rfl ?_
      obtain ⟨v10, ev10⟩ : ∃ z : Int, z = x3 + 1 := ⟨_, rfl⟩
      refine x_iinc (L' := [(3, vI v10), (2, vI v9), (0, vR (some o0)), (1, vI x1)]) C dX12_shareOf_41 (mem_k 3 rfl) (by decide) h.1 ev10 rfl ?_
      replace h := h.2 v10 ev10
      refine w_goto (tgt := 4) C dX12_shareOf_44 (by decide) ?_
      refine x_pc (pc2 := 4) rfl ?_
      refine x_pick (L' := [(0, vR (some o0)), (1, vI x1), (2, vI v9), (3, vI v10)]) [2, 3, 1, 0] rfl ?_
      exact hK4 v9 v10 h
set_option maxRecDepth 100000 in
set_option maxHeartbeats 4000000 in
theorem k_X12_shareOf_4 {o0 : Nat} {x1 : Int} {x2 : Int} {x3 : Int} {M : Mm} {Q : Int → Prop} (C : Cx p s m args meth c cX12_shareOf 4 RX12 D cy G n0) (hr : meth.sig.returnType = some .int) (h3 : n0 = 243) (hn : M.2.2.2 = n0) (ho0 : o0 < 243 ∧ (SH o0).1 = 12) (hQ : ∀ x, Q x → Qp (some (vI x)) M) (h : P_X12_shareOf_4 o0 x1 x2 x3 M Q ) : WW p l e ({ frames := 0, cells := 0, slots := 0, locals := 0 }) s m args below meth c (ZQ below args s D cy G n0 Qp n0) 4 D cy G n0 4 [(0, vR (some o0)), (1, vI x1), (2, vI x2), (3, vI x3)] [] M := by
  refine lpW_sound (P := fun y : Int × Int => WW p l e ({ frames := 0, cells := 0, slots := 0, locals := 0 }) s m args below meth c (ZQ below args s D cy G n0 Qp n0) 4 D cy G n0 4 [(0, vR (some o0)), (1, vI x1), (2, vI y.1), (3, vI y.2)] [] M) ?_ h
  intro K y hK hF
  obtain ⟨x2, x3⟩ := y
  exact f_X12_shareOf_4 C hr h3 hn ho0 hQ  (fun x2 x3 hk => hK (x2, x3) hk) hF
set_option maxRecDepth 100000 in
set_option maxHeartbeats 4000000 in
theorem k_X12_shareOf_0 {o0 : Nat} {x1 : Int} {M : Mm} {Q : Int → Prop} (C : Cx p s m args meth c cX12_shareOf 4 RX12 D cy G n0) (hr : meth.sig.returnType = some .int) (h3 : n0 = 243) (hn : M.2.2.2 = n0) (ho0 : o0 < 243 ∧ (SH o0).1 = 12) (hQ : ∀ x, Q x → Qp (some (vI x)) M) (h : P_X12_shareOf o0 x1 M Q ) : WW p l e ({ frames := 0, cells := 0, slots := 0, locals := 0 }) s m args below meth c (ZQ below args s D cy G n0 Qp n0) 4 D cy G n0 0 [(0, vR (some o0)), (1, vI x1)] [] M := by
  unfold P_X12_shareOf at h
  refine w_iconst C dX12_shareOf_0 ⟨by decide, by decide⟩ ?_
  refine x_istore_n (L' := [(2, vI 0), (0, vR (some o0)), (1, vI x1)]) C dX12_shareOf_1 rfl (by decide) rfl ?_
  refine w_iconst C dX12_shareOf_2 ⟨by decide, by decide⟩ ?_
  refine x_istore_n (L' := [(3, vI 0), (2, vI 0), (0, vR (some o0)), (1, vI x1)]) C dX12_shareOf_3 rfl (by decide) rfl ?_
  refine x_pc (pc2 := 4) rfl ?_
  refine x_pick (L' := [(0, vR (some o0)), (1, vI x1), (2, vI 0), (3, vI 0)]) [2, 3, 1, 0] rfl ?_
  exact k_X12_shareOf_4 C hr h3 hn ho0 hQ  h
set_option maxRecDepth 100000 in
set_option maxHeartbeats 4000000 in
theorem con_X12_shareOf (l : Launch) (D : va_G) (cy : Nat → ClassId) : Con l D cy yX12_shareOf cX12_shareOf 4 (some .int) ({ frames := 0, cells := 0, slots := 0, locals := 0 }) 0 0 SP_X12_shareOf := by
  refine con_of (by decide) (fun as M Qp h => ?_) ?_
  · obtain ⟨-, o0, x1, rfl, -⟩ := h
    exact Nat.le_of_ble_eq_true rfl
  · intro p e s m args below meth c G as M Qp h C hr hnm
    obtain ⟨hn, o0, x1, rfl, ho1, ho2, Q0, hQ, h⟩ := h
    refine x_pick (L' := [(0, vR (some o0)), (1, vI x1)]) [0, 1] rfl ?_
    exact k_X12_shareOf_0 C hr hn rfl ⟨ho1, ho2⟩ hQ h
set_option maxRecDepth 100000 in
set_option maxHeartbeats 4000000 in
theorem cl_X12_shareOf {p : Program} {l : Launch} {e : Env} {R : Room} {s : State} {m : MethodId} {args : Array Value} {below : List Frame} {meth : Method} {c : Code} {Q : State → Prop} {cc : ByteArray} {nL : Nat} {own : String} {D : va_G} {cy : Nat → ClassId} {G : Nat × Nat} {n0 pc : Nat} {L : List (Nat × PV)} {st : List PV} {M : Mm} {op : Instr} (K : CallOK l D cy R own op 0 0 (spV 12 1 SP_X12_shareOf)) (C : Cx p s m args meth c cc nL own D cy G n0) (hd : decode cc pc = .ok (op, 3)) (hn : M.2.2.2 = n0) (h3 : n0 = 243) (hlen : argN st ≤ 8) {r : Option Nat} {o0 : Nat} (ho : isOn 12 M.2.2.2 r o0) {x1 : Int} {Q0 : Int → Prop} (h : P_X12_shareOf o0 x1 M Q0) (k : ∀ x, Q0 x → WW p l e R s m args below meth c Q nL D cy G n0  (pc + 3) L (vI x :: st) M) : WW p l e R s m args below meth c Q nL D cy G n0  pc L (vI x1 :: vR r :: st) M := by
  obtain ⟨rfl, ho1, ho2⟩ := ho
  refine x_call0 K C hd (as := [vR (some o0), vI x1]) rfl hn hlen (fun v M2 => ∃ x, v = some (vI x) ∧ M2 = M ∧ Q0 x) ⟨⟨o0, [vI x1], rfl, rfl, ho1, ho2⟩, hn.trans h3, o0, x1, rfl, (hn.trans h3) ▸ ho1, ho2, Q0, fun x hx => ⟨x, rfl, rfl, hx⟩, h⟩ ?_
  rintro _ _ ⟨x, rfl, rfl, hx⟩ hm
  exact k x hx
end W_X12_shareOf
theorem dX12_share_0 : decode cX12_share 0 = .ok (.iload_n 1, 1) := by decide +kernel
theorem dX12_share_1 : decode cX12_share 1 = .ok (.i2l, 1) := by decide +kernel
theorem dX12_share_2 : decode cX12_share 2 = .ok (.lconst 0, 1) := by decide +kernel
theorem dX12_share_3 : decode cX12_share 3 = .ok (.iconst 1, 1) := by decide +kernel
theorem dX12_share_4 : decode cX12_share 4 = .ok (.aload_n 0, 1) := by decide +kernel
theorem dX12_share_5 : decode cX12_share 5 = .ok (.getfield 25, 3) := by decide +kernel
theorem dX12_share_8 : decode cX12_share 8 = .ok (.iconst 1, 1) := by decide +kernel
theorem dX12_share_9 : decode cX12_share 9 = .ok (.iaload, 1) := by decide +kernel
theorem dX12_share_10 : decode cX12_share 10 = .ok (.ishl, 1) := by decide +kernel
theorem dX12_share_11 : decode cX12_share 11 = .ok (.iconst 1, 1) := by decide +kernel
theorem dX12_share_12 : decode cX12_share 12 = .ok (.isub, 1) := by decide +kernel
theorem dX12_share_13 : decode cX12_share 13 = .ok (.i2l, 1) := by decide +kernel
theorem dX12_share_14 : decode cX12_share 14 = .ok (.invokestatic 85, 3) := by decide +kernel
theorem dX12_share_17 : decode cX12_share 17 = .ok (.ifCond .eq 13, 3) := by decide +kernel
theorem dX12_share_20 : decode cX12_share 20 = .ok (.iload_n 2, 1) := by decide +kernel
theorem dX12_share_21 : decode cX12_share 21 = .ok (.i2l, 1) := by decide +kernel
theorem dX12_share_22 : decode cX12_share 22 = .ok (.lconst 0, 1) := by decide +kernel
theorem dX12_share_23 : decode cX12_share 23 = .ok (.lconst 1, 1) := by decide +kernel
theorem dX12_share_24 : decode cX12_share 24 = .ok (.invokestatic 85, 3) := by decide +kernel
theorem dX12_share_27 : decode cX12_share 27 = .ok (.ifCond .ne 5, 3) := by decide +kernel
theorem dX12_share_30 : decode cX12_share 30 = .ok (.iconst (-1), 1) := by decide +kernel
theorem dX12_share_31 : decode cX12_share 31 = .ok (.ireturn, 1) := by decide +kernel
theorem dX12_share_32 : decode cX12_share 32 = .ok (.aload_n 0, 1) := by decide +kernel
theorem dX12_share_33 : decode cX12_share 33 = .ok (.invokevirtual 223, 3) := by decide +kernel
theorem dX12_share_36 : decode cX12_share 36 = .ok (.iload_n 2, 1) := by decide +kernel
theorem dX12_share_37 : decode cX12_share 37 = .ok (.ifCond .ne 11, 3) := by decide +kernel
theorem dX12_share_40 : decode cX12_share 40 = .ok (.aload_n 0, 1) := by decide +kernel
theorem dX12_share_41 : decode cX12_share 41 = .ok (.iload_n 1, 1) := by decide +kernel
theorem dX12_share_42 : decode cX12_share 42 = .ok (.invokevirtual 226, 3) := by decide +kernel
theorem dX12_share_45 : decode cX12_share 45 = .ok (.goto 7, 3) := by decide +kernel
theorem dX12_share_48 : decode cX12_share 48 = .ok (.aload_n 0, 1) := by decide +kernel
theorem dX12_share_49 : decode cX12_share 49 = .ok (.invokevirtual 229, 3) := by decide +kernel
theorem dX12_share_52 : decode cX12_share 52 = .ok (.ireturn, 1) := by decide +kernel
theorem ck_X12_223 {l : Launch} {D : va_G} {cy : Nat → ClassId} {R : Room} (hR : 4 ≤ R.frames ∧ 100 ≤ R.locals) : CallOK l D cy R RX12 (.invokevirtual 223) 0 0 (spV 12 0 SP_X12_layFitting) := call_V (ci := 12) (con_X12_layFitting l D cy) (lwG_5 (i := 79) rfl rfl) (lwG_5 (i := 81) rfl rfl) (lwG_p (i := 36) rfl rfl) (lwG_1 (i := 13) rfl rfl) (lwG_5 (i := 82) rfl rfl) (by decide) ⟨rfl, by decide, by decide, rfl⟩ ⟨rfl, rfl⟩ hR
theorem ck_X12_229 {l : Launch} {D : va_G} {cy : Nat → ClassId} {R : Room} (hR : 1 ≤ R.frames ∧ 22 ≤ R.locals) : CallOK l D cy R RX12 (.invokevirtual 229) 0 0 (spV 12 0 SP_X12_people) := call_V (ci := 12) (con_X12_people l D cy) (lwG_5 (i := 87) rfl rfl) (lwG_5 (i := 89) rfl rfl) (lwG_p (i := 38) rfl rfl) (lwG_1 (i := 13) rfl rfl) (lwG_5 (i := 90) rfl rfl) (by decide) ⟨rfl, by decide, by decide, rfl⟩ ⟨rfl, rfl⟩ hR
theorem ck_X12_226 {l : Launch} {D : va_G} {cy : Nat → ClassId} {R : Room} (hR : 1 ≤ R.frames ∧ 23 ≤ R.locals) : CallOK l D cy R RX12 (.invokevirtual 226) 0 0 (spV 12 1 SP_X12_shareOf) := call_V (ci := 12) (con_X12_shareOf l D cy) (lwG_5 (i := 83) rfl rfl) (lwG_5 (i := 85) rfl rfl) (lwG_p (i := 37) rfl rfl) (lwG_1 (i := 13) rfl rfl) (lwG_5 (i := 86) rfl rfl) (by decide) ⟨rfl, by decide, by decide, rfl⟩ ⟨rfl, rfl⟩ hR
section W_X12_share
variable {p : Program} {l : Launch} {e : Env} {s : State} {m : MethodId} {args : Array Value} {below : List Frame} {meth : Method} {c : Code} {D : va_G} {cy : Nat → ClassId} {G : Nat × Nat} {n0 : Nat} {Qp : Option PV → Mm → Prop}
set_option maxRecDepth 100000 in
set_option maxHeartbeats 4000000 in
theorem k_X12_share_0 {o0 : Nat} {x1 : Int} {x2 : Int} {M : Mm} {Q : Int → Mm → Prop} (C : Cx p s m args meth c cX12_share 3 RX12 D cy G n0) (hr : meth.sig.returnType = some .int) (h3 : n0 = 243) (hn : M.2.2.2 = n0) (ho0 : o0 < 243 ∧ (SH o0).1 = 12) (hQ : ∀ x M, Q x M → Qp (some (vI x)) M) (h : P_X12_share o0 x1 x2 M Q ) : WW p l e ({ frames := 4, cells := 0, slots := 0, locals := 100 }) s m args below meth c (ZQ below args s D cy G n0 Qp n0) 3 D cy G n0 0 [(0, vR (some o0)), (1, vI x1), (2, vI x2)] [] M := by
  unfold P_X12_share at h
  refine w_iload_n C dX12_share_0 rfl (mem_k 1 rfl) ?_
  refine w_i2l C dX12_share_1 ?_
  refine w_lconst C dX12_share_2 ?_
  refine w_iconst C dX12_share_3 ⟨by decide, by decide⟩ ?_
  refine w_aload_n C dX12_share_4 rfl (mem_k 0 rfl) ?_
  refine x_getR C dX12_share_5 fw_X12_25 (isO.n (ci := 12) ⟨rfl, ho0⟩ (hn.trans h3)) (fun r1 er1 => ?_)
  replace h := h r1 er1
  refine w_iconst C dX12_share_8 ⟨by decide, by decide⟩ ?_
  obtain ⟨o2, g3, h⟩ := h
  refine x_iald C dX12_share_9 (isA.n g3 (hn.trans h3)) ?_
  refine w_ishl C dX12_share_10 ?_
  refine w_iconst C dX12_share_11 ⟨by decide, by decide⟩ ?_
  refine w_isub C dX12_share_12 h.1 ?_
  replace h := h.2
  refine w_i2l C dX12_share_13 ?_
  refine cl_X12_in (ck_X12_85 ⟨by decide, by decide⟩) C dX12_share_14 hn h3 (Nat.le_of_ble_eq_true rfl) h (fun v4 h => ?_)
  refine w_if_eq (tgt := 30) C dX12_share_17 (by decide) (fun q => ?_) (fun q => ?_)
  · replace h := h.1 q
    refine w_iconst C dX12_share_30 ⟨by decide, by decide⟩ ?_
    exact x_iret C hr dX12_share_31 hn (hQ _ M h)
  · replace h := h.2 q
    refine w_iload_n C dX12_share_20 rfl (mem_k 2 rfl) ?_
    refine w_i2l C dX12_share_21 ?_
    refine w_lconst C dX12_share_22 ?_
    refine w_lconst C dX12_share_23 ?_
    refine cl_X12_in (ck_X12_85 ⟨by decide, by decide⟩) C dX12_share_24 hn h3 (Nat.le_of_ble_eq_true rfl) h (fun v5 h => ?_)
    refine w_if_ne (tgt := 32) C dX12_share_27 (by decide) (fun q => ?_) (fun q => ?_)
    · replace h := h.1 q
      refine w_aload_n C dX12_share_32 rfl (mem_k 0 rfl) ?_
      refine cl_X12_layFitting (ck_X12_223 ⟨by decide, by decide⟩) C dX12_share_33 hn h3 (Nat.le_of_ble_eq_true rfl) (isO.n (ci := 12) ⟨rfl, ho0⟩ (hn.trans h3)) h (fun M6 h hn7 => ?_)
      refine w_iload_n C dX12_share_36 rfl (mem_k 2 rfl) ?_
      refine w_if_ne (tgt := 48) C dX12_share_37 (by decide) (fun q => ?_) (fun q => ?_)
      · replace h := h.1 q
        refine w_aload_n C dX12_share_48 rfl (mem_k 0 rfl) ?_
        refine cl_X12_people (ck_X12_229 ⟨by decide, by decide⟩) C dX12_share_49 hn7 h3 (Nat.le_of_ble_eq_true rfl) (isO.n (ci := 12) ⟨rfl, ho0⟩ (hn7.trans h3)) h (fun v8 h => ?_)
        exact x_iret C hr dX12_share_52 hn7 (hQ _ M6 h)
      · replace h := h.2 q
        refine w_aload_n C dX12_share_40 rfl (mem_k 0 rfl) ?_
        refine w_iload_n C dX12_share_41 rfl (mem_k 1 rfl) ?_
        refine cl_X12_shareOf (ck_X12_226 ⟨by decide, by decide⟩) C dX12_share_42 hn7 h3 (Nat.le_of_ble_eq_true rfl) (isO.n (ci := 12) ⟨rfl, ho0⟩ (hn7.trans h3)) h (fun v9 h => ?_)
        refine w_goto (tgt := 52) C dX12_share_45 (by decide) ?_
        exact x_iret C hr dX12_share_52 hn7 (hQ _ M6 h)
    · replace h := h.2 q
      refine w_iconst C dX12_share_30 ⟨by decide, by decide⟩ ?_
      exact x_iret C hr dX12_share_31 hn (hQ _ M h)
set_option maxRecDepth 100000 in
set_option maxHeartbeats 4000000 in
theorem con_X12_share (l : Launch) (D : va_G) (cy : Nat → ClassId) : Con l D cy yX12_share cX12_share 3 (some .int) ({ frames := 4, cells := 0, slots := 0, locals := 100 }) 0 0 SP_X12_share := by
  refine con_of (by decide) (fun as M Qp h => ?_) ?_
  · obtain ⟨-, o0, x1, x2, rfl, -⟩ := h
    exact Nat.le_of_ble_eq_true rfl
  · intro p e s m args below meth c G as M Qp h C hr hnm
    obtain ⟨hn, o0, x1, x2, rfl, ho1, ho2, Q0, hQ, h⟩ := h
    refine x_pick (L' := [(0, vR (some o0)), (1, vI x1), (2, vI x2)]) [0, 1, 2] rfl ?_
    exact k_X12_share_0 C hr hn rfl ⟨ho1, ho2⟩ hQ h
set_option maxRecDepth 100000 in
set_option maxHeartbeats 4000000 in
theorem cl_X12_share {p : Program} {l : Launch} {e : Env} {R : Room} {s : State} {m : MethodId} {args : Array Value} {below : List Frame} {meth : Method} {c : Code} {Q : State → Prop} {cc : ByteArray} {nL : Nat} {own : String} {D : va_G} {cy : Nat → ClassId} {G : Nat × Nat} {n0 pc : Nat} {L : List (Nat × PV)} {st : List PV} {M : Mm} {op : Instr} (K : CallOK l D cy R own op 0 0 (spV 12 2 SP_X12_share)) (C : Cx p s m args meth c cc nL own D cy G n0) (hd : decode cc pc = .ok (op, 3)) (hn : M.2.2.2 = n0) (h3 : n0 = 243) (hlen : argN st ≤ 8) {r : Option Nat} {o0 : Nat} (ho : isOn 12 M.2.2.2 r o0) {x1 : Int} {x2 : Int} {Q0 : Int → Mm → Prop} (h : P_X12_share o0 x1 x2 M Q0) (k : ∀ x M2, Q0 x M2 → M2.2.2.2 = n0 → WW p l e R s m args below meth c Q nL D cy G n0  (pc + 3) L (vI x :: st) M2) : WW p l e R s m args below meth c Q nL D cy G n0  pc L (vI x2 :: vI x1 :: vR r :: st) M := by
  obtain ⟨rfl, ho1, ho2⟩ := ho
  refine x_call0 K C hd (as := [vR (some o0), vI x1, vI x2]) rfl hn hlen (fun v M2 => ∃ x, v = some (vI x) ∧ Q0 x M2) ⟨⟨o0, [vI x1, vI x2], rfl, rfl, ho1, ho2⟩, hn.trans h3, o0, x1, x2, rfl, (hn.trans h3) ▸ ho1, ho2, Q0, fun x M2 hx => ⟨x, rfl, hx⟩, h⟩ ?_
  rintro _ _ ⟨x, rfl, hx⟩ hm
  exact k x _ hx hm
end W_X12_share
theorem dX12_setting_0 : decode cX12_setting 0 = .ok (.aload_n 0, 1) := by decide +kernel
theorem dX12_setting_1 : decode cX12_setting 1 = .ok (.iload_n 1, 1) := by decide +kernel
theorem dX12_setting_2 : decode cX12_setting 2 = .ok (.invokevirtual 152, 3) := by decide +kernel
theorem dX12_setting_5 : decode cX12_setting 5 = .ok (.ifCond .eq 13, 3) := by decide +kernel
theorem dX12_setting_8 : decode cX12_setting 8 = .ok (.iload_n 2, 1) := by decide +kernel
theorem dX12_setting_9 : decode cX12_setting 9 = .ok (.i2l, 1) := by decide +kernel
theorem dX12_setting_10 : decode cX12_setting 10 = .ok (.lconst 0, 1) := by decide +kernel
theorem dX12_setting_11 : decode cX12_setting 11 = .ok (.lconst 1, 1) := by decide +kernel
theorem dX12_setting_12 : decode cX12_setting 12 = .ok (.invokestatic 85, 3) := by decide +kernel
theorem dX12_setting_15 : decode cX12_setting 15 = .ok (.ifCond .ne 5, 3) := by decide +kernel
theorem dX12_setting_18 : decode cX12_setting 18 = .ok (.iconst (-1), 1) := by decide +kernel
theorem dX12_setting_19 : decode cX12_setting 19 = .ok (.ireturn, 1) := by decide +kernel
theorem dX12_setting_20 : decode cX12_setting 20 = .ok (.iconst 0, 1) := by decide +kernel
theorem dX12_setting_21 : decode cX12_setting 21 = .ok (.istore_n 3, 1) := by decide +kernel
theorem dX12_setting_22 : decode cX12_setting 22 = .ok (.iconst (-1), 1) := by decide +kernel
theorem dX12_setting_23 : decode cX12_setting 23 = .ok (.istore 4, 2) := by decide +kernel
theorem dX12_setting_25 : decode cX12_setting 25 = .ok (.iconst 0, 1) := by decide +kernel
theorem dX12_setting_26 : decode cX12_setting 26 = .ok (.istore 5, 2) := by decide +kernel
theorem dX12_setting_28 : decode cX12_setting 28 = .ok (.iload 5, 2) := by decide +kernel
theorem dX12_setting_30 : decode cX12_setting 30 = .ok (.bipush 100, 2) := by decide +kernel
theorem dX12_setting_32 : decode cX12_setting 32 = .ok (.if_icmp .ge 85, 3) := by decide +kernel
theorem dX12_setting_35 : decode cX12_setting 35 = .ok (.iconst 0, 1) := by decide +kernel
theorem dX12_setting_36 : decode cX12_setting 36 = .ok (.istore 6, 2) := by decide +kernel
theorem dX12_setting_38 : decode cX12_setting 38 = .ok (.iconst 0, 1) := by decide +kernel
theorem dX12_setting_39 : decode cX12_setting 39 = .ok (.istore 7, 2) := by decide +kernel
theorem dX12_setting_41 : decode cX12_setting 41 = .ok (.iload 7, 2) := by decide +kernel
theorem dX12_setting_43 : decode cX12_setting 43 = .ok (.aload_n 0, 1) := by decide +kernel
theorem dX12_setting_44 : decode cX12_setting 44 = .ok (.getfield 149, 3) := by decide +kernel
theorem dX12_setting_47 : decode cX12_setting 47 = .ok (.if_icmp .ge 50, 3) := by decide +kernel
theorem dX12_setting_50 : decode cX12_setting 50 = .ok (.iload 6, 2) := by decide +kernel
theorem dX12_setting_52 : decode cX12_setting 52 = .ok (.aload_n 0, 1) := by decide +kernel
theorem dX12_setting_53 : decode cX12_setting 53 = .ok (.iload 7, 2) := by decide +kernel
theorem dX12_setting_55 : decode cX12_setting 55 = .ok (.iload_n 1, 1) := by decide +kernel
theorem dX12_setting_56 : decode cX12_setting 56 = .ok (.iload 5, 2) := by decide +kernel
theorem dX12_setting_58 : decode cX12_setting 58 = .ok (.bipush 10, 2) := by decide +kernel
theorem dX12_setting_60 : decode cX12_setting 60 = .ok (.idiv, 1) := by decide +kernel
theorem dX12_setting_61 : decode cX12_setting 61 = .ok (.iload 5, 2) := by decide +kernel
theorem dX12_setting_63 : decode cX12_setting 63 = .ok (.bipush 10, 2) := by decide +kernel
theorem dX12_setting_65 : decode cX12_setting 65 = .ok (.irem, 1) := by decide +kernel
theorem dX12_setting_66 : decode cX12_setting 66 = .ok (.invokevirtual 212, 3) := by decide +kernel
theorem dX12_setting_69 : decode cX12_setting 69 = .ok (.ifCond .eq 18, 3) := by decide +kernel
theorem dX12_setting_72 : decode cX12_setting 72 = .ok (.aload_n 0, 1) := by decide +kernel
theorem dX12_setting_73 : decode cX12_setting 73 = .ok (.getfield 43, 3) := by decide +kernel
theorem dX12_setting_76 : decode cX12_setting 76 = .ok (.bipush 6, 2) := by decide +kernel
theorem dX12_setting_78 : decode cX12_setting 78 = .ok (.iload 7, 2) := by decide +kernel
theorem dX12_setting_80 : decode cX12_setting 80 = .ok (.imul, 1) := by decide +kernel
theorem dX12_setting_81 : decode cX12_setting 81 = .ok (.iconst 5, 1) := by decide +kernel
theorem dX12_setting_82 : decode cX12_setting 82 = .ok (.iadd, 1) := by decide +kernel
theorem dX12_setting_83 : decode cX12_setting 83 = .ok (.iaload, 1) := by decide +kernel
theorem dX12_setting_84 : decode cX12_setting 84 = .ok (.goto 4, 3) := by decide +kernel
theorem dX12_setting_87 : decode cX12_setting 87 = .ok (.iconst 0, 1) := by decide +kernel
theorem dX12_setting_88 : decode cX12_setting 88 = .ok (.iadd, 1) := by decide +kernel
theorem dX12_setting_89 : decode cX12_setting 89 = .ok (.istore 6, 2) := by decide +kernel
theorem dX12_setting_91 : decode cX12_setting 91 = .ok (.iinc 7 1, 3) := by decide +kernel
theorem dX12_setting_94 : decode cX12_setting 94 = .ok (.goto (-53), 3) := by decide +kernel
theorem dX12_setting_97 : decode cX12_setting 97 = .ok (.iload 6, 2) := by decide +kernel
theorem dX12_setting_99 : decode cX12_setting 99 = .ok (.iload 4, 2) := by decide +kernel
theorem dX12_setting_101 : decode cX12_setting 101 = .ok (.if_icmp .le 10, 3) := by decide +kernel
theorem dX12_setting_104 : decode cX12_setting 104 = .ok (.iload 6, 2) := by decide +kernel
theorem dX12_setting_106 : decode cX12_setting 106 = .ok (.istore 4, 2) := by decide +kernel
theorem dX12_setting_108 : decode cX12_setting 108 = .ok (.iload 5, 2) := by decide +kernel
theorem dX12_setting_110 : decode cX12_setting 110 = .ok (.istore_n 3, 1) := by decide +kernel
theorem dX12_setting_111 : decode cX12_setting 111 = .ok (.iinc 5 1, 3) := by decide +kernel
theorem dX12_setting_114 : decode cX12_setting 114 = .ok (.goto (-86), 3) := by decide +kernel
theorem dX12_setting_117 : decode cX12_setting 117 = .ok (.iload_n 2, 1) := by decide +kernel
theorem dX12_setting_118 : decode cX12_setting 118 = .ok (.ifCond .ne 7, 3) := by decide +kernel
theorem dX12_setting_121 : decode cX12_setting 121 = .ok (.iload_n 3, 1) := by decide +kernel
theorem dX12_setting_122 : decode cX12_setting 122 = .ok (.goto 5, 3) := by decide +kernel
theorem dX12_setting_125 : decode cX12_setting 125 = .ok (.iload 4, 2) := by decide +kernel
theorem dX12_setting_127 : decode cX12_setting 127 = .ok (.ireturn, 1) := by decide +kernel
section W_X12_setting
variable {p : Program} {l : Launch} {e : Env} {s : State} {m : MethodId} {args : Array Value} {below : List Frame} {meth : Method} {c : Code} {D : va_G} {cy : Nat → ClassId} {G : Nat × Nat} {n0 : Nat} {Qp : Option PV → Mm → Prop}
set_option maxRecDepth 100000 in
set_option maxHeartbeats 4000000 in
theorem f_X12_setting_41 {o0 : Nat} {x1 : Int} {x2 : Int} {x3 : Int} {x4 : Int} {x5 : Int} {x6 : Int} {x7 : Int} {M : Mm} {Q : Int → Prop} {K28 : Int × Int × Int → Prop} {K41 : Int × Int → Prop} (C : Cx p s m args meth c cX12_setting 8 RX12 D cy G n0) (hr : meth.sig.returnType = some .int) (h3 : n0 = 243) (hn : M.2.2.2 = n0) (ho0 : o0 < 243 ∧ (SH o0).1 = 12) (hQ : ∀ x, Q x → Qp (some (vI x)) M) (hK28 : ∀ (x3 : Int) (x4 : Int) (x5 : Int), K28 (x3, x4, x5) → WW p l e ({ frames := 2, cells := 0, slots := 0, locals := 53 }) s m args below meth c (ZQ below args s D cy G n0 Qp n0) 8 D cy G n0 28 [(0, vR (some o0)), (1, vI x1), (2, vI x2), (3, vI x3), (4, vI x4), (5, vI x5)] [] M) (hK41 : ∀ (x6 : Int) (x7 : Int), K41 (x6, x7) → WW p l e ({ frames := 2, cells := 0, slots := 0, locals := 53 }) s m args below meth c (ZQ below args s D cy G n0 Qp n0) 8 D cy G n0 41 [(0, vR (some o0)), (1, vI x1), (2, vI x2), (3, vI x3), (4, vI x4), (5, vI x5), (6, vI x6), (7, vI x7)] [] M) (h : F_X12_setting_41 o0 x1 x2 x3 x4 x5 M Q K28 K41 x6 x7) : WW p l e ({ frames := 2, cells := 0, slots := 0, locals := 53 }) s m args below meth c (ZQ below args s D cy G n0 Qp n0) 8 D cy G n0 41 [(0, vR (some o0)), (1, vI x1), (2, vI x2), (3, vI x3), (4, vI x4), (5, vI x5), (6, vI x6), (7, vI x7)] [] M := by
  unfold F_X12_setting_41 at h
  refine w_iload C dX12_setting_41 (mem_k 7 rfl) ?_
  refine w_aload_n C dX12_setting_43 rfl (mem_k 0 rfl) ?_
  refine x_getI C dX12_setting_44 fw_X12_149 (isO.n (ci := 12) ⟨rfl, ho0⟩ (hn.trans h3)) ?_
  refine w_icmp_ge (tgt := 97) C dX12_setting_47 (by decide) (fun q => ?_) (fun q => ?_)
  · replace h := h.1 q
    refine w_iload C dX12_setting_97 (mem_k 6 rfl) ?_
    refine w_iload C dX12_setting_99 (mem_k 4 rfl) ?_
    refine w_icmp_le (tgt := 111) C dX12_setting_101 (by decide) (fun q => ?_) (fun q => ?_)
    · replace h := h.1 q
      obtain ⟨v1, ev1⟩ : ∃ z : Int, z = x5 + 1 := ⟨_, rfl⟩
      refine x_iinc (L' := [(5, vI v1), (0, vR (some o0)), (1, vI x1), (2, vI x2), (3, vI x3), (4, vI x4), (6, vI x6), (7, vI x7)]) C dX12_setting_111 (mem_k 5 rfl) (by decide) h.1 ev1 rfl ?_
      replace h := h.2 v1 ev1
      refine w_goto (tgt := 28) C dX12_setting_114 (by decide) ?_
      refine x_pc (pc2 := 28) rfl ?_
      refine x_pick (L' := [(0, vR (some o0)), (1, vI x1), (2, vI x2), (3, vI x3), (4, vI x4), (5, vI v1)]) [1, 2, 3, 4, 5, 0] rfl ?_
      exact hK28 x3 x4 v1 h
    · replace h := h.2 q
      refine w_iload C dX12_setting_104 (mem_k 6 rfl) ?_
      refine x_istore (L' := [(4, vI x6), (0, vR (some o0)), (1, vI x1), (2, vI x2), (3, vI x3), (5, vI x5), (6, vI x6), (7, vI x7)]) C dX12_setting_106 (by decide) rfl ?_
      refine w_iload C dX12_setting_108 (mem_k 5 rfl) ?_
      refine x_istore_n (L' := [(3, vI x5), (4, vI x6), (0, vR (some o0)), (1, vI x1), (2, vI x2), (5, vI x5), (6, vI x6), (7, vI x7)]) C dX12_setting_110 rfl (by decide) rfl ?_
      obtain ⟨v2, ev2⟩ : ∃ z : Int, z = x5 + 1 := ⟨_, rfl⟩
      refine x_iinc (L' := [(5, vI v2), (3, vI x5), (4, vI x6), (0, vR (some o0)), (1, vI x1), (2, vI x2), (6, vI x6), (7, vI x7)]) C dX12_setting_111 (mem_k 5 rfl) (by decide) h.1 ev2 rfl ?_
      replace h := h.2 v2 ev2
      refine w_goto (tgt := 28) C dX12_setting_114 (by decide) ?_
      refine x_pc (pc2 := 28) rfl ?_
      refine x_pick (L' := [(0, vR (some o0)), (1, vI x1), (2, vI x2), (3, vI x5), (4, vI x6), (5, vI v2)]) [3, 4, 5, 1, 2, 0] rfl ?_
      exact hK28 x5 x6 v2 h
  · replace h := h.2 q
    refine w_iload C dX12_setting_50 (mem_k 6 rfl) ?_
    refine w_aload_n C dX12_setting_52 rfl (mem_k 0 rfl) ?_
    refine w_iload C dX12_setting_53 (mem_k 7 rfl) ?_
    refine w_iload_n C dX12_setting_55 rfl (mem_k 1 rfl) ?_
    refine w_iload C dX12_setting_56 (mem_k 5 rfl) ?_
    refine w_bipush C dX12_setting_58 (by decide) ?_
    refine x_idiv C dX12_setting_60 (by decide) ?_
    refine w_iload C dX12_setting_61 (mem_k 5 rfl) ?_
    refine w_bipush C dX12_setting_63 (by decide) ?_
    refine x_irem C dX12_setting_65 (by decide) ?_
    refine cl_X12_fitsAt (ck_X12_212 ⟨by decide, by decide⟩) C dX12_setting_66 hn h3 (Nat.le_of_ble_eq_true rfl) (isO.n (ci := 12) ⟨rfl, ho0⟩ (hn.trans h3)) h (fun v3 h => ?_)
    refine w_if_eq (tgt := 87) C dX12_setting_69 (by decide) (fun q => ?_) (fun q => ?_)
    · replace h := h.1 q
      refine w_iconst C dX12_setting_87 ⟨by decide, by decide⟩ ?_
      refine w_iadd C dX12_setting_88 h.1 ?_
      replace h := h.2
      refine x_nmI (fun v4 ev4 => ?_)
      replace h := h v4 ev4
      refine x_istore (L' := [(6, vI v4), (0, vR (some o0)), (1, vI x1), (2, vI x2), (3, vI x3), (4, vI x4), (5, vI x5), (7, vI x7)]) C dX12_setting_89 (by decide) rfl ?_
      obtain ⟨v5, ev5⟩ : ∃ z : Int, z = x7 + 1 := ⟨_, rfl⟩
      refine x_iinc (L' := [(7, vI v5), (6, vI v4), (0, vR (some o0)), (1, vI x1), (2, vI x2), (3, vI x3), (4, vI x4), (5, vI x5)]) C dX12_setting_91 (mem_k 7 rfl) (by decide) h.1 ev5 rfl ?_
      replace h := h.2 v5 ev5
      refine w_goto (tgt := 41) C dX12_setting_94 (by decide) ?_
      refine x_pc (pc2 := 41) rfl ?_
      refine x_pick (L' := [(0, vR (some o0)), (1, vI x1), (2, vI x2), (3, vI x3), (4, vI x4), (5, vI x5), (6, vI v4), (7, vI v5)]) [2, 3, 4, 5, 6, 7, 1, 0] rfl ?_
      exact hK41 v4 v5 h
    · replace h := h.2 q
      refine w_aload_n C dX12_setting_72 rfl (mem_k 0 rfl) ?_
      refine x_getR C dX12_setting_73 fw_X12_43 (isO.n (ci := 12) ⟨rfl, ho0⟩ (hn.trans h3)) (fun r6 er6 => ?_)
      replace h := h r6 er6
      refine w_bipush C dX12_setting_76 (by decide) ?_
      refine w_iload C dX12_setting_78 (mem_k 7 rfl) ?_
      refine w_imul C dX12_setting_80 h.1 ?_
      replace h := h.2
      refine w_iconst C dX12_setting_81 ⟨by decide, by decide⟩ ?_
      refine w_iadd C dX12_setting_82 h.1 ?_
      replace h := h.2
      obtain ⟨o7, g8, h⟩ := h
      refine x_iald C dX12_setting_83 (isA.n g8 (hn.trans h3)) ?_
      refine w_goto (tgt := 88) C dX12_setting_84 (by decide) ?_
      refine w_iadd C dX12_setting_88 h.1 ?_
      replace h := h.2
      refine x_nmI (fun v9 ev9 => ?_)
      replace h := h v9 ev9
      refine x_istore (L' := [(6, vI v9), (0, vR (some o0)), (1, vI x1), (2, vI x2), (3, vI x3), (4, vI x4), (5, vI x5), (7, vI x7)]) C dX12_setting_89 (by decide) rfl ?_
      obtain ⟨v10, ev10⟩ : ∃ z : Int, z = x7 + 1 := ⟨_, rfl⟩
      refine x_iinc (L' := [(7, vI v10), (6, vI v9), (0, vR (some o0)), (1, vI x1), (2, vI x2), (3, vI x3), (4, vI x4), (5, vI x5)]) C dX12_setting_91 (mem_k 7 rfl) (by decide) h.1 ev10 rfl ?_
      replace h := h.2 v10 ev10
      refine w_goto (tgt := 41) C dX12_setting_94 (by decide) ?_
      refine x_pc (pc2 := 41) rfl ?_
      refine x_pick (L' := [(0, vR (some o0)), (1, vI x1), (2, vI x2), (3, vI x3), (4, vI x4), (5, vI x5), (6, vI v9), (7, vI v10)]) [2, 3, 4, 5, 6, 7, 1, 0] rfl ?_
      exact hK41 v9 v10 h
set_option maxRecDepth 100000 in
set_option maxHeartbeats 4000000 in
theorem k_X12_setting_41 {o0 : Nat} {x1 : Int} {x2 : Int} {x3 : Int} {x4 : Int} {x5 : Int} {x6 : Int} {x7 : Int} {M : Mm} {Q : Int → Prop} {K28 : Int × Int × Int → Prop} (C : Cx p s m args meth c cX12_setting 8 RX12 D cy G n0) (hr : meth.sig.returnType = some .int) (h3 : n0 = 243) (hn : M.2.2.2 = n0) (ho0 : o0 < 243 ∧ (SH o0).1 = 12) (hQ : ∀ x, Q x → Qp (some (vI x)) M) (hK28 : ∀ (x3 : Int) (x4 : Int) (x5 : Int), K28 (x3, x4, x5) → WW p l e ({ frames := 2, cells := 0, slots := 0, locals := 53 }) s m args below meth c (ZQ below args s D cy G n0 Qp n0) 8 D cy G n0 28 [(0, vR (some o0)), (1, vI x1), (2, vI x2), (3, vI x3), (4, vI x4), (5, vI x5)] [] M) (h : P_X12_setting_41 o0 x1 x2 x3 x4 x5 x6 x7 M Q K28) : WW p l e ({ frames := 2, cells := 0, slots := 0, locals := 53 }) s m args below meth c (ZQ below args s D cy G n0 Qp n0) 8 D cy G n0 41 [(0, vR (some o0)), (1, vI x1), (2, vI x2), (3, vI x3), (4, vI x4), (5, vI x5), (6, vI x6), (7, vI x7)] [] M := by
  refine lpW_sound (P := fun y : Int × Int => WW p l e ({ frames := 2, cells := 0, slots := 0, locals := 53 }) s m args below meth c (ZQ below args s D cy G n0 Qp n0) 8 D cy G n0 41 [(0, vR (some o0)), (1, vI x1), (2, vI x2), (3, vI x3), (4, vI x4), (5, vI x5), (6, vI y.1), (7, vI y.2)] [] M) ?_ h
  intro K y hK hF
  obtain ⟨x6, x7⟩ := y
  exact f_X12_setting_41 C hr h3 hn ho0 hQ hK28 (fun x6 x7 hk => hK (x6, x7) hk) hF
set_option maxRecDepth 100000 in
set_option maxHeartbeats 4000000 in
theorem f_X12_setting_28 {o0 : Nat} {x1 : Int} {x2 : Int} {x3 : Int} {x4 : Int} {x5 : Int} {M : Mm} {Q : Int → Prop} {K28 : Int × Int × Int → Prop} (C : Cx p s m args meth c cX12_setting 8 RX12 D cy G n0) (hr : meth.sig.returnType = some .int) (h3 : n0 = 243) (hn : M.2.2.2 = n0) (ho0 : o0 < 243 ∧ (SH o0).1 = 12) (hQ : ∀ x, Q x → Qp (some (vI x)) M) (hK28 : ∀ (x3 : Int) (x4 : Int) (x5 : Int), K28 (x3, x4, x5) → WW p l e ({ frames := 2, cells := 0, slots := 0, locals := 53 }) s m args below meth c (ZQ below args s D cy G n0 Qp n0) 8 D cy G n0 28 [(0, vR (some o0)), (1, vI x1), (2, vI x2), (3, vI x3), (4, vI x4), (5, vI x5)] [] M) (h : F_X12_setting_28 o0 x1 x2 M Q  K28 x3 x4 x5) : WW p l e ({ frames := 2, cells := 0, slots := 0, locals := 53 }) s m args below meth c (ZQ below args s D cy G n0 Qp n0) 8 D cy G n0 28 [(0, vR (some o0)), (1, vI x1), (2, vI x2), (3, vI x3), (4, vI x4), (5, vI x5)] [] M := by
  unfold F_X12_setting_28 at h
  refine w_iload C dX12_setting_28 (mem_k 5 rfl) ?_
  refine w_bipush C dX12_setting_30 (by decide) ?_
  refine w_icmp_ge (tgt := 117) C dX12_setting_32 (by decide) (fun q => ?_) (fun q => ?_)
  · replace h := h.1 q
    refine w_iload_n C dX12_setting_117 rfl (mem_k 2 rfl) ?_
    refine w_if_ne (tgt := 125) C dX12_setting_118 (by decide) (fun q => ?_) (fun q => ?_)
    · replace h := h.1 q
      refine w_iload C dX12_setting_125 (mem_k 4 rfl) ?_
      exact x_iret C hr dX12_setting_127 hn (hQ _ h)
    · replace h := h.2 q
      refine w_iload_n C dX12_setting_121 rfl (mem_k 3 rfl) ?_
      refine w_goto (tgt := 127) C dX12_setting_122 (by decide) ?_
      exact x_iret C hr dX12_setting_127 hn (hQ _ h)
  · replace h := h.2 q
    refine w_iconst C dX12_setting_35 ⟨by decide, by decide⟩ ?_
    refine x_istore (L' := [(6, vI 0), (0, vR (some o0)), (1, vI x1), (2, vI x2), (3, vI x3), (4, vI x4), (5, vI x5)]) C dX12_setting_36 (by decide) rfl ?_
    refine w_iconst C dX12_setting_38 ⟨by decide, by decide⟩ ?_
    refine x_istore (L' := [(7, vI 0), (6, vI 0), (0, vR (some o0)), (1, vI x1), (2, vI x2), (3, vI x3), (4, vI x4), (5, vI x5)]) C dX12_setting_39 (by decide) rfl ?_
    refine x_pc (pc2 := 41) rfl ?_
    refine x_pick (L' := [(0, vR (some o0)), (1, vI x1), (2, vI x2), (3, vI x3), (4, vI x4), (5, vI x5), (6, vI 0), (7, vI 0)]) [2, 3, 4, 5, 6, 7, 1, 0] rfl ?_
    exact k_X12_setting_41 C hr h3 hn ho0 hQ hK28 h
set_option maxRecDepth 100000 in
set_option maxHeartbeats 4000000 in
theorem k_X12_setting_28 {o0 : Nat} {x1 : Int} {x2 : Int} {x3 : Int} {x4 : Int} {x5 : Int} {M : Mm} {Q : Int → Prop} (C : Cx p s m args meth c cX12_setting 8 RX12 D cy G n0) (hr : meth.sig.returnType = some .int) (h3 : n0 = 243) (hn : M.2.2.2 = n0) (ho0 : o0 < 243 ∧ (SH o0).1 = 12) (hQ : ∀ x, Q x → Qp (some (vI x)) M) (h : P_X12_setting_28 o0 x1 x2 x3 x4 x5 M Q ) : WW p l e ({ frames := 2, cells := 0, slots := 0, locals := 53 }) s m args below meth c (ZQ below args s D cy G n0 Qp n0) 8 D cy G n0 28 [(0, vR (some o0)), (1, vI x1), (2, vI x2), (3, vI x3), (4, vI x4), (5, vI x5)] [] M := by
  refine lpW_sound (P := fun y : Int × Int × Int => WW p l e ({ frames := 2, cells := 0, slots := 0, locals := 53 }) s m args below meth c (ZQ below args s D cy G n0 Qp n0) 8 D cy G n0 28 [(0, vR (some o0)), (1, vI x1), (2, vI x2), (3, vI y.1), (4, vI y.2.1), (5, vI y.2.2)] [] M) ?_ h
  intro K y hK hF
  obtain ⟨x3, x4, x5⟩ := y
  exact f_X12_setting_28 C hr h3 hn ho0 hQ  (fun x3 x4 x5 hk => hK (x3, x4, x5) hk) hF
set_option maxRecDepth 100000 in
set_option maxHeartbeats 4000000 in
theorem k_X12_setting_0 {o0 : Nat} {x1 : Int} {x2 : Int} {M : Mm} {Q : Int → Prop} (C : Cx p s m args meth c cX12_setting 8 RX12 D cy G n0) (hr : meth.sig.returnType = some .int) (h3 : n0 = 243) (hn : M.2.2.2 = n0) (ho0 : o0 < 243 ∧ (SH o0).1 = 12) (hQ : ∀ x, Q x → Qp (some (vI x)) M) (h : P_X12_setting o0 x1 x2 M Q ) : WW p l e ({ frames := 2, cells := 0, slots := 0, locals := 53 }) s m args below meth c (ZQ below args s D cy G n0 Qp n0) 8 D cy G n0 0 [(0, vR (some o0)), (1, vI x1), (2, vI x2)] [] M := by
  unfold P_X12_setting at h
  refine w_aload_n C dX12_setting_0 rfl (mem_k 0 rfl) ?_
  refine w_iload_n C dX12_setting_1 rfl (mem_k 1 rfl) ?_
  refine cl_X12_isSeat (ck_X12_152 ⟨by decide, by decide⟩) C dX12_setting_2 hn h3 (Nat.le_of_ble_eq_true rfl) (isO.n (ci := 12) ⟨rfl, ho0⟩ (hn.trans h3)) h (fun v11 h => ?_)
  refine w_if_eq (tgt := 18) C dX12_setting_5 (by decide) (fun q => ?_) (fun q => ?_)
  · replace h := h.1 q
    refine w_iconst C dX12_setting_18 ⟨by decide, by decide⟩ ?_
    exact x_iret C hr dX12_setting_19 hn (hQ _ h)
  · replace h := h.2 q
    refine w_iload_n C dX12_setting_8 rfl (mem_k 2 rfl) ?_
    refine w_i2l C dX12_setting_9 ?_
    refine w_lconst C dX12_setting_10 ?_
    refine w_lconst C dX12_setting_11 ?_
    refine cl_X12_in (ck_X12_85 ⟨by decide, by decide⟩) C dX12_setting_12 hn h3 (Nat.le_of_ble_eq_true rfl) h (fun v12 h => ?_)
    refine w_if_ne (tgt := 20) C dX12_setting_15 (by decide) (fun q => ?_) (fun q => ?_)
    · replace h := h.1 q
      refine w_iconst C dX12_setting_20 ⟨by decide, by decide⟩ ?_
      refine x_istore_n (L' := [(3, vI 0), (0, vR (some o0)), (1, vI x1), (2, vI x2)]) C dX12_setting_21 rfl (by decide) rfl ?_
      refine w_iconst C dX12_setting_22 ⟨by decide, by decide⟩ ?_
      refine x_istore (L' := [(4, vI (-1)), (3, vI 0), (0, vR (some o0)), (1, vI x1), (2, vI x2)]) C dX12_setting_23 (by decide) rfl ?_
      refine w_iconst C dX12_setting_25 ⟨by decide, by decide⟩ ?_
      refine x_istore (L' := [(5, vI 0), (4, vI (-1)), (3, vI 0), (0, vR (some o0)), (1, vI x1), (2, vI x2)]) C dX12_setting_26 (by decide) rfl ?_
      refine x_pc (pc2 := 28) rfl ?_
      refine x_pick (L' := [(0, vR (some o0)), (1, vI x1), (2, vI x2), (3, vI 0), (4, vI (-1)), (5, vI 0)]) [3, 4, 5, 2, 1, 0] rfl ?_
      exact k_X12_setting_28 C hr h3 hn ho0 hQ  h
    · replace h := h.2 q
      refine w_iconst C dX12_setting_18 ⟨by decide, by decide⟩ ?_
      exact x_iret C hr dX12_setting_19 hn (hQ _ h)
set_option maxRecDepth 100000 in
set_option maxHeartbeats 4000000 in
theorem con_X12_setting (l : Launch) (D : va_G) (cy : Nat → ClassId) : Con l D cy yX12_setting cX12_setting 8 (some .int) ({ frames := 2, cells := 0, slots := 0, locals := 53 }) 0 0 SP_X12_setting := by
  refine con_of (by decide) (fun as M Qp h => ?_) ?_
  · obtain ⟨-, o0, x1, x2, rfl, -⟩ := h
    exact Nat.le_of_ble_eq_true rfl
  · intro p e s m args below meth c G as M Qp h C hr hnm
    obtain ⟨hn, o0, x1, x2, rfl, ho1, ho2, Q0, hQ, h⟩ := h
    refine x_pick (L' := [(0, vR (some o0)), (1, vI x1), (2, vI x2)]) [0, 1, 2] rfl ?_
    exact k_X12_setting_0 C hr hn rfl ⟨ho1, ho2⟩ hQ h
set_option maxRecDepth 100000 in
set_option maxHeartbeats 4000000 in
theorem cl_X12_setting {p : Program} {l : Launch} {e : Env} {R : Room} {s : State} {m : MethodId} {args : Array Value} {below : List Frame} {meth : Method} {c : Code} {Q : State → Prop} {cc : ByteArray} {nL : Nat} {own : String} {D : va_G} {cy : Nat → ClassId} {G : Nat × Nat} {n0 pc : Nat} {L : List (Nat × PV)} {st : List PV} {M : Mm} {op : Instr} (K : CallOK l D cy R own op 0 0 (spV 12 2 SP_X12_setting)) (C : Cx p s m args meth c cc nL own D cy G n0) (hd : decode cc pc = .ok (op, 3)) (hn : M.2.2.2 = n0) (h3 : n0 = 243) (hlen : argN st ≤ 8) {r : Option Nat} {o0 : Nat} (ho : isOn 12 M.2.2.2 r o0) {x1 : Int} {x2 : Int} {Q0 : Int → Prop} (h : P_X12_setting o0 x1 x2 M Q0) (k : ∀ x, Q0 x → WW p l e R s m args below meth c Q nL D cy G n0  (pc + 3) L (vI x :: st) M) : WW p l e R s m args below meth c Q nL D cy G n0  pc L (vI x2 :: vI x1 :: vR r :: st) M := by
  obtain ⟨rfl, ho1, ho2⟩ := ho
  refine x_call0 K C hd (as := [vR (some o0), vI x1, vI x2]) rfl hn hlen (fun v M2 => ∃ x, v = some (vI x) ∧ M2 = M ∧ Q0 x) ⟨⟨o0, [vI x1, vI x2], rfl, rfl, ho1, ho2⟩, hn.trans h3, o0, x1, x2, rfl, (hn.trans h3) ▸ ho1, ho2, Q0, fun x hx => ⟨x, rfl, rfl, hx⟩, h⟩ ?_
  rintro _ _ ⟨x, rfl, rfl, hx⟩ hm
  exact k x hx
end W_X12_setting
theorem dX12_bits_0 : decode cX12_bits 0 = .ok (.iconst 0, 1) := by decide +kernel
theorem dX12_bits_1 : decode cX12_bits 1 = .ok (.istore_n 1, 1) := by decide +kernel
theorem dX12_bits_2 : decode cX12_bits 2 = .ok (.iload_n 0, 1) := by decide +kernel
theorem dX12_bits_3 : decode cX12_bits 3 = .ok (.istore_n 2, 1) := by decide +kernel
theorem dX12_bits_4 : decode cX12_bits 4 = .ok (.iload_n 2, 1) := by decide +kernel
theorem dX12_bits_5 : decode cX12_bits 5 = .ok (.ifCond .eq 15, 3) := by decide +kernel
theorem dX12_bits_8 : decode cX12_bits 8 = .ok (.iinc 1 1, 3) := by decide +kernel
theorem dX12_bits_11 : decode cX12_bits 11 = .ok (.iload_n 2, 1) := by decide +kernel
theorem dX12_bits_12 : decode cX12_bits 12 = .ok (.iload_n 2, 1) := by decide +kernel
theorem dX12_bits_13 : decode cX12_bits 13 = .ok (.iconst 1, 1) := by decide +kernel
theorem dX12_bits_14 : decode cX12_bits 14 = .ok (.isub, 1) := by decide +kernel
theorem dX12_bits_15 : decode cX12_bits 15 = .ok (.iand, 1) := by decide +kernel
theorem dX12_bits_16 : decode cX12_bits 16 = .ok (.istore_n 2, 1) := by decide +kernel
theorem dX12_bits_17 : decode cX12_bits 17 = .ok (.goto (-13), 3) := by decide +kernel
theorem dX12_bits_20 : decode cX12_bits 20 = .ok (.iload_n 1, 1) := by decide +kernel
theorem dX12_bits_21 : decode cX12_bits 21 = .ok (.ireturn, 1) := by decide +kernel
section W_X12_bits
variable {p : Program} {l : Launch} {e : Env} {s : State} {m : MethodId} {args : Array Value} {below : List Frame} {meth : Method} {c : Code} {D : va_G} {cy : Nat → ClassId} {G : Nat × Nat} {n0 : Nat} {Qp : Option PV → Mm → Prop}
set_option maxRecDepth 100000 in
set_option maxHeartbeats 4000000 in
theorem f_X12_bits_4 {x1 : Int} {x2 : Int} {M : Mm} {Q : Int → Prop} {K4 : Int × Int → Prop} (C : Cx p s m args meth c cX12_bits 3 RX12 D cy G n0) (hr : meth.sig.returnType = some .int) (h3 : n0 = 243) (hn : M.2.2.2 = n0) (hQ : ∀ x, Q x → Qp (some (vI x)) M) (hK4 : ∀ (x1 : Int) (x2 : Int), K4 (x1, x2) → WW p l e ({ frames := 0, cells := 0, slots := 0, locals := 0 }) s m args below meth c (ZQ below args s D cy G n0 Qp n0) 3 D cy G n0 4 [(1, vI x1), (2, vI x2)] [] M) (h : F_X12_bits_4  M Q  K4 x1 x2) : WW p l e ({ frames := 0, cells := 0, slots := 0, locals := 0 }) s m args below meth c (ZQ below args s D cy G n0 Qp n0) 3 D cy G n0 4 [(1, vI x1), (2, vI x2)] [] M := by
  unfold F_X12_bits_4 at h
  refine w_iload_n C dX12_bits_4 rfl (mem_k 1 rfl) ?_
  refine w_if_eq (tgt := 20) C dX12_bits_5 (by decide) (fun q => ?_) (fun q => ?_)
  · replace h := h.1 q
    refine w_iload_n C dX12_bits_20 rfl (mem_k 0 rfl) ?_
    exact x_iret C hr dX12_bits_21 hn (hQ _ h)
  · replace h := h.2 q
    obtain ⟨v1, ev1⟩ : ∃ z : Int, z = x1 + 1 := ⟨_, rfl⟩
    refine x_iinc (L' := [(1, vI v1), (2, vI x2)]) C dX12_bits_8 (mem_k 0 rfl) (by decide) h.1 ev1 rfl ?_
    replace h := h.2 v1 ev1
    refine w_iload_n C dX12_bits_11 rfl (mem_k 1 rfl) ?_
    refine w_iload_n C dX12_bits_12 rfl (mem_k 1 rfl) ?_
    refine w_iconst C dX12_bits_13 ⟨by decide, by decide⟩ ?_
    refine w_isub C dX12_bits_14 h.1 ?_
    replace h := h.2
    refine w_iand C dX12_bits_15 ?_
    refine x_nmI (fun v2 ev2 => ?_)
    replace h := h v2 ev2
    refine x_istore_n (L' := [(2, vI v2), (1, vI v1)]) C dX12_bits_16 rfl (by decide) rfl ?_
    refine w_goto (tgt := 4) C dX12_bits_17 (by decide) ?_
    refine x_pc (pc2 := 4) rfl ?_
    refine x_pick (L' := [(1, vI v1), (2, vI v2)]) [1, 0] rfl ?_
    exact hK4 v1 v2 h
set_option maxRecDepth 100000 in
set_option maxHeartbeats 4000000 in
theorem k_X12_bits_4 {x1 : Int} {x2 : Int} {M : Mm} {Q : Int → Prop} (C : Cx p s m args meth c cX12_bits 3 RX12 D cy G n0) (hr : meth.sig.returnType = some .int) (h3 : n0 = 243) (hn : M.2.2.2 = n0) (hQ : ∀ x, Q x → Qp (some (vI x)) M) (h : P_X12_bits_4 x1 x2 M Q ) : WW p l e ({ frames := 0, cells := 0, slots := 0, locals := 0 }) s m args below meth c (ZQ below args s D cy G n0 Qp n0) 3 D cy G n0 4 [(1, vI x1), (2, vI x2)] [] M := by
  refine lpW_sound (P := fun y : Int × Int => WW p l e ({ frames := 0, cells := 0, slots := 0, locals := 0 }) s m args below meth c (ZQ below args s D cy G n0 Qp n0) 3 D cy G n0 4 [(1, vI y.1), (2, vI y.2)] [] M) ?_ h
  intro K y hK hF
  obtain ⟨x1, x2⟩ := y
  exact f_X12_bits_4 C hr h3 hn hQ  (fun x1 x2 hk => hK (x1, x2) hk) hF
set_option maxRecDepth 100000 in
set_option maxHeartbeats 4000000 in
theorem k_X12_bits_0 {x0 : Int} {M : Mm} {Q : Int → Prop} (C : Cx p s m args meth c cX12_bits 3 RX12 D cy G n0) (hr : meth.sig.returnType = some .int) (h3 : n0 = 243) (hn : M.2.2.2 = n0) (hQ : ∀ x, Q x → Qp (some (vI x)) M) (h : P_X12_bits x0 M Q ) : WW p l e ({ frames := 0, cells := 0, slots := 0, locals := 0 }) s m args below meth c (ZQ below args s D cy G n0 Qp n0) 3 D cy G n0 0 [(0, vI x0)] [] M := by
  unfold P_X12_bits at h
  refine w_iconst C dX12_bits_0 ⟨by decide, by decide⟩ ?_
  refine x_istore_n (L' := [(1, vI 0), (0, vI x0)]) C dX12_bits_1 rfl (by decide) rfl ?_
  refine w_iload_n C dX12_bits_2 rfl (mem_k 1 rfl) ?_
  refine x_istore_n (L' := [(2, vI x0), (1, vI 0), (0, vI x0)]) C dX12_bits_3 rfl (by decide) rfl ?_
  refine x_pc (pc2 := 4) rfl ?_
  refine x_pick (L' := [(1, vI 0), (2, vI x0)]) [1, 0] rfl ?_
  exact k_X12_bits_4 C hr h3 hn hQ  h
set_option maxRecDepth 100000 in
set_option maxHeartbeats 4000000 in
theorem con_X12_bits (l : Launch) (D : va_G) (cy : Nat → ClassId) : Con l D cy yX12_bits cX12_bits 3 (some .int) ({ frames := 0, cells := 0, slots := 0, locals := 0 }) 0 0 SP_X12_bits := by
  refine con_of (by decide) (fun as M Qp h => ?_) ?_
  · obtain ⟨-, x0, rfl, -⟩ := h
    exact Nat.le_of_ble_eq_true rfl
  · intro p e s m args below meth c G as M Qp h C hr hnm
    obtain ⟨hn, x0, rfl, Q0, hQ, h⟩ := h
    refine x_pick (L' := [(0, vI x0)]) [0] rfl ?_
    exact k_X12_bits_0 C hr hn rfl hQ h
set_option maxRecDepth 100000 in
set_option maxHeartbeats 4000000 in
theorem cl_X12_bits {p : Program} {l : Launch} {e : Env} {R : Room} {s : State} {m : MethodId} {args : Array Value} {below : List Frame} {meth : Method} {c : Code} {Q : State → Prop} {cc : ByteArray} {nL : Nat} {own : String} {D : va_G} {cy : Nat → ClassId} {G : Nat × Nat} {n0 pc : Nat} {L : List (Nat × PV)} {st : List PV} {M : Mm} {op : Instr} (K : CallOK l D cy R own op 0 0 (spS 1 SP_X12_bits)) (C : Cx p s m args meth c cc nL own D cy G n0) (hd : decode cc pc = .ok (op, 3)) (hn : M.2.2.2 = n0) (h3 : n0 = 243) (hlen : argN st ≤ 8) {x0 : Int} {Q0 : Int → Prop} (h : P_X12_bits x0 M Q0) (k : ∀ x, Q0 x → WW p l e R s m args below meth c Q nL D cy G n0  (pc + 3) L (vI x :: st) M) : WW p l e R s m args below meth c Q nL D cy G n0  pc L (vI x0 :: st) M := by
  refine x_call0 K C hd (as := [vI x0]) rfl hn hlen (fun v M2 => ∃ x, v = some (vI x) ∧ M2 = M ∧ Q0 x) ⟨rfl, hn.trans h3, x0, rfl, Q0, fun x hx => ⟨x, rfl, rfl, hx⟩, h⟩ ?_
  rintro _ _ ⟨x, rfl, rfl, hx⟩ hm
  exact k x hx
end W_X12_bits
theorem dX12_fewest_0 : decode cX12_fewest 0 = .ok (.iload_n 1, 1) := by decide +kernel
theorem dX12_fewest_1 : decode cX12_fewest 1 = .ok (.i2l, 1) := by decide +kernel
theorem dX12_fewest_2 : decode cX12_fewest 2 = .ok (.lconst 1, 1) := by decide +kernel
theorem dX12_fewest_3 : decode cX12_fewest 3 = .ok (.ldc2_w 147, 3) := by decide +kernel
theorem dX12_fewest_6 : decode cX12_fewest 6 = .ok (.invokestatic 85, 3) := by decide +kernel
theorem dX12_fewest_9 : decode cX12_fewest 9 = .ok (.ifCond .ne 5, 3) := by decide +kernel
theorem dX12_fewest_12 : decode cX12_fewest 12 = .ok (.iconst (-1), 1) := by decide +kernel
theorem dX12_fewest_13 : decode cX12_fewest 13 = .ok (.ireturn, 1) := by decide +kernel
theorem dX12_fewest_14 : decode cX12_fewest 14 = .ok (.aload_n 0, 1) := by decide +kernel
theorem dX12_fewest_15 : decode cX12_fewest 15 = .ok (.invokevirtual 223, 3) := by decide +kernel
theorem dX12_fewest_18 : decode cX12_fewest 18 = .ok (.bipush (-4), 2) := by decide +kernel
theorem dX12_fewest_20 : decode cX12_fewest 20 = .ok (.istore_n 2, 1) := by decide +kernel
theorem dX12_fewest_21 : decode cX12_fewest 21 = .ok (.iconst 0, 1) := by decide +kernel
theorem dX12_fewest_22 : decode cX12_fewest 22 = .ok (.istore_n 3, 1) := by decide +kernel
theorem dX12_fewest_23 : decode cX12_fewest 23 = .ok (.iload_n 3, 1) := by decide +kernel
theorem dX12_fewest_24 : decode cX12_fewest 24 = .ok (.iconst 1, 1) := by decide +kernel
theorem dX12_fewest_25 : decode cX12_fewest 25 = .ok (.aload_n 0, 1) := by decide +kernel
theorem dX12_fewest_26 : decode cX12_fewest 26 = .ok (.getfield 25, 3) := by decide +kernel
theorem dX12_fewest_29 : decode cX12_fewest 29 = .ok (.iconst 1, 1) := by decide +kernel
theorem dX12_fewest_30 : decode cX12_fewest 30 = .ok (.iaload, 1) := by decide +kernel
theorem dX12_fewest_31 : decode cX12_fewest 31 = .ok (.ishl, 1) := by decide +kernel
theorem dX12_fewest_32 : decode cX12_fewest 32 = .ok (.if_icmp .ge 46, 3) := by decide +kernel
theorem dX12_fewest_35 : decode cX12_fewest 35 = .ok (.aload_n 0, 1) := by decide +kernel
theorem dX12_fewest_36 : decode cX12_fewest 36 = .ok (.iload_n 3, 1) := by decide +kernel
theorem dX12_fewest_37 : decode cX12_fewest 37 = .ok (.invokevirtual 226, 3) := by decide +kernel
theorem dX12_fewest_40 : decode cX12_fewest 40 = .ok (.sipush 1000, 3) := by decide +kernel
theorem dX12_fewest_43 : decode cX12_fewest 43 = .ok (.imul, 1) := by decide +kernel
theorem dX12_fewest_44 : decode cX12_fewest 44 = .ok (.iload_n 1, 1) := by decide +kernel
theorem dX12_fewest_45 : decode cX12_fewest 45 = .ok (.aload_n 0, 1) := by decide +kernel
theorem dX12_fewest_46 : decode cX12_fewest 46 = .ok (.invokevirtual 229, 3) := by decide +kernel
theorem dX12_fewest_49 : decode cX12_fewest 49 = .ok (.imul, 1) := by decide +kernel
theorem dX12_fewest_50 : decode cX12_fewest 50 = .ok (.if_icmp .lt 22, 3) := by decide +kernel
theorem dX12_fewest_53 : decode cX12_fewest 53 = .ok (.iload_n 2, 1) := by decide +kernel
theorem dX12_fewest_54 : decode cX12_fewest 54 = .ok (.bipush (-4), 2) := by decide +kernel
theorem dX12_fewest_56 : decode cX12_fewest 56 = .ok (.if_icmp .eq 14, 3) := by decide +kernel
theorem dX12_fewest_59 : decode cX12_fewest 59 = .ok (.iload_n 3, 1) := by decide +kernel
theorem dX12_fewest_60 : decode cX12_fewest 60 = .ok (.invokestatic 232, 3) := by decide +kernel
theorem dX12_fewest_63 : decode cX12_fewest 63 = .ok (.iload_n 2, 1) := by decide +kernel
theorem dX12_fewest_64 : decode cX12_fewest 64 = .ok (.invokestatic 232, 3) := by decide +kernel
theorem dX12_fewest_67 : decode cX12_fewest 67 = .ok (.if_icmp .ge 5, 3) := by decide +kernel
theorem dX12_fewest_70 : decode cX12_fewest 70 = .ok (.iload_n 3, 1) := by decide +kernel
theorem dX12_fewest_71 : decode cX12_fewest 71 = .ok (.istore_n 2, 1) := by decide +kernel
theorem dX12_fewest_72 : decode cX12_fewest 72 = .ok (.iinc 3 1, 3) := by decide +kernel
theorem dX12_fewest_75 : decode cX12_fewest 75 = .ok (.goto (-52), 3) := by decide +kernel
theorem dX12_fewest_78 : decode cX12_fewest 78 = .ok (.iload_n 2, 1) := by decide +kernel
theorem dX12_fewest_79 : decode cX12_fewest 79 = .ok (.ireturn, 1) := by decide +kernel
theorem ck_X12_232 {l : Launch} {D : va_G} {cy : Nat → ClassId} {R : Room} (hR : 1 ≤ R.frames ∧ 22 ≤ R.locals) : CallOK l D cy R RX12 (.invokestatic 232) 0 0 (spS 1 SP_X12_bits) := call_S (con_X12_bits l D cy) (lwG_5 (i := 99) rfl rfl) (lwG_5 (i := 100) rfl rfl) (lwG_1 (i := 13) rfl rfl) (lwG_5 (i := 101) rfl rfl) ⟨by decide, by decide, rfl⟩ ⟨rfl, rfl⟩ hR
section W_X12_fewest
variable {p : Program} {l : Launch} {e : Env} {s : State} {m : MethodId} {args : Array Value} {below : List Frame} {meth : Method} {c : Code} {D : va_G} {cy : Nat → ClassId} {G : Nat × Nat} {n0 : Nat} {Qp : Option PV → Mm → Prop}
set_option maxRecDepth 100000 in
set_option maxHeartbeats 4000000 in
theorem f_X12_fewest_23 {o0 : Nat} {x1 : Int} {x2 : Int} {x3 : Int} {M : Mm} {Q : Int → Mm → Prop} {K23 : Int × Int → Prop} (C : Cx p s m args meth c cX12_fewest 4 RX12 D cy G n0) (hr : meth.sig.returnType = some .int) (h3 : n0 = 243) (hn : M.2.2.2 = n0) (ho0 : o0 < 243 ∧ (SH o0).1 = 12) (hQ : ∀ x M, Q x M → Qp (some (vI x)) M) (hK23 : ∀ (x2 : Int) (x3 : Int), K23 (x2, x3) → WW p l e ({ frames := 4, cells := 0, slots := 0, locals := 100 }) s m args below meth c (ZQ below args s D cy G n0 Qp n0) 4 D cy G n0 23 [(0, vR (some o0)), (1, vI x1), (2, vI x2), (3, vI x3)] [] M) (h : F_X12_fewest_23 o0 x1 M Q  K23 x2 x3) : WW p l e ({ frames := 4, cells := 0, slots := 0, locals := 100 }) s m args below meth c (ZQ below args s D cy G n0 Qp n0) 4 D cy G n0 23 [(0, vR (some o0)), (1, vI x1), (2, vI x2), (3, vI x3)] [] M := by
  unfold F_X12_fewest_23 at h
  refine w_iload_n C dX12_fewest_23 rfl (mem_k 3 rfl) ?_
  refine w_iconst C dX12_fewest_24 ⟨by decide, by decide⟩ ?_
  refine w_aload_n C dX12_fewest_25 rfl (mem_k 0 rfl) ?_
  refine x_getR C dX12_fewest_26 fw_X12_25 (isO.n (ci := 12) ⟨rfl, ho0⟩ (hn.trans h3)) (fun r1 er1 => ?_)
  replace h := h r1 er1
  refine w_iconst C dX12_fewest_29 ⟨by decide, by decide⟩ ?_
  obtain ⟨o2, g3, h⟩ := h
  refine x_iald C dX12_fewest_30 (isA.n g3 (hn.trans h3)) ?_
  refine w_ishl C dX12_fewest_31 ?_
  refine w_icmp_ge (tgt := 78) C dX12_fewest_32 (by decide) (fun q => ?_) (fun q => ?_)
  · replace h := h.1 q
    refine w_iload_n C dX12_fewest_78 rfl (mem_k 2 rfl) ?_
    exact x_iret C hr dX12_fewest_79 hn (hQ _ M h)
  · replace h := h.2 q
    refine w_aload_n C dX12_fewest_35 rfl (mem_k 0 rfl) ?_
    refine w_iload_n C dX12_fewest_36 rfl (mem_k 3 rfl) ?_
    refine cl_X12_shareOf (ck_X12_226 ⟨by decide, by decide⟩) C dX12_fewest_37 hn h3 (Nat.le_of_ble_eq_true rfl) (isO.n (ci := 12) ⟨rfl, ho0⟩ (hn.trans h3)) h (fun v4 h => ?_)
    refine w_sipush C dX12_fewest_40 (by decide) ?_
    refine w_imul C dX12_fewest_43 h.1 ?_
    replace h := h.2
    refine w_iload_n C dX12_fewest_44 rfl (mem_k 1 rfl) ?_
    refine w_aload_n C dX12_fewest_45 rfl (mem_k 0 rfl) ?_
    refine cl_X12_people (ck_X12_229 ⟨by decide, by decide⟩) C dX12_fewest_46 hn h3 (Nat.le_of_ble_eq_true rfl) (isO.n (ci := 12) ⟨rfl, ho0⟩ (hn.trans h3)) h (fun v5 h => ?_)
    refine w_imul C dX12_fewest_49 h.1 ?_
    replace h := h.2
    refine w_icmp_lt (tgt := 72) C dX12_fewest_50 (by decide) (fun q => ?_) (fun q => ?_)
    · replace h := h.1 q
      obtain ⟨v6, ev6⟩ : ∃ z : Int, z = x3 + 1 := ⟨_, rfl⟩
      refine x_iinc (L' := [(3, vI v6), (0, vR (some o0)), (1, vI x1), (2, vI x2)]) C dX12_fewest_72 (mem_k 3 rfl) (by decide) h.1 ev6 rfl ?_
      replace h := h.2 v6 ev6
      refine w_goto (tgt := 23) C dX12_fewest_75 (by decide) ?_
      refine x_pc (pc2 := 23) rfl ?_
      refine x_pick (L' := [(0, vR (some o0)), (1, vI x1), (2, vI x2), (3, vI v6)]) [1, 2, 3, 0] rfl ?_
      exact hK23 x2 v6 h
    · replace h := h.2 q
      refine w_iload_n C dX12_fewest_53 rfl (mem_k 2 rfl) ?_
      refine w_bipush C dX12_fewest_54 (by decide) ?_
      refine w_icmp_eq (tgt := 70) C dX12_fewest_56 (by decide) (fun q => ?_) (fun q => ?_)
      · replace h := h.1 q
        refine w_iload_n C dX12_fewest_70 rfl (mem_k 3 rfl) ?_
        refine x_istore_n (L' := [(2, vI x3), (0, vR (some o0)), (1, vI x1), (3, vI x3)]) C dX12_fewest_71 rfl (by decide) rfl ?_
        obtain ⟨v7, ev7⟩ : ∃ z : Int, z = x3 + 1 := ⟨_, rfl⟩
        refine x_iinc (L' := [(3, vI v7), (2, vI x3), (0, vR (some o0)), (1, vI x1)]) C dX12_fewest_72 (mem_k 3 rfl) (by decide) h.1 ev7 rfl ?_
        replace h := h.2 v7 ev7
        refine w_goto (tgt := 23) C dX12_fewest_75 (by decide) ?_
        refine x_pc (pc2 := 23) rfl ?_
        refine x_pick (L' := [(0, vR (some o0)), (1, vI x1), (2, vI x3), (3, vI v7)]) [2, 3, 1, 0] rfl ?_
        exact hK23 x3 v7 h
      · replace h := h.2 q
        refine w_iload_n C dX12_fewest_59 rfl (mem_k 3 rfl) ?_
        refine cl_X12_bits (ck_X12_232 ⟨by decide, by decide⟩) C dX12_fewest_60 hn h3 (Nat.le_of_ble_eq_true rfl) h (fun v8 h => ?_)
        refine w_iload_n C dX12_fewest_63 rfl (mem_k 2 rfl) ?_
        refine cl_X12_bits (ck_X12_232 ⟨by decide, by decide⟩) C dX12_fewest_64 hn h3 (Nat.le_of_ble_eq_true rfl) h (fun v9 h => ?_)
        refine w_icmp_ge (tgt := 72) C dX12_fewest_67 (by decide) (fun q => ?_) (fun q => ?_)
        · replace h := h.1 q
          obtain ⟨v10, ev10⟩ : ∃ z : Int, z = x3 + 1 := ⟨_, rfl⟩
          refine x_iinc (L' := [(3, vI v10), (0, vR (some o0)), (1, vI x1), (2, vI x2)]) C dX12_fewest_72 (mem_k 3 rfl) (by decide) h.1 ev10 rfl ?_
          replace h := h.2 v10 ev10
          refine w_goto (tgt := 23) C dX12_fewest_75 (by decide) ?_
          refine x_pc (pc2 := 23) rfl ?_
          refine x_pick (L' := [(0, vR (some o0)), (1, vI x1), (2, vI x2), (3, vI v10)]) [1, 2, 3, 0] rfl ?_
          exact hK23 x2 v10 h
        · replace h := h.2 q
          refine w_iload_n C dX12_fewest_70 rfl (mem_k 3 rfl) ?_
          refine x_istore_n (L' := [(2, vI x3), (0, vR (some o0)), (1, vI x1), (3, vI x3)]) C dX12_fewest_71 rfl (by decide) rfl ?_
          obtain ⟨v11, ev11⟩ : ∃ z : Int, z = x3 + 1 := ⟨_, rfl⟩
          refine x_iinc (L' := [(3, vI v11), (2, vI x3), (0, vR (some o0)), (1, vI x1)]) C dX12_fewest_72 (mem_k 3 rfl) (by decide) h.1 ev11 rfl ?_
          replace h := h.2 v11 ev11
          refine w_goto (tgt := 23) C dX12_fewest_75 (by decide) ?_
          refine x_pc (pc2 := 23) rfl ?_
          refine x_pick (L' := [(0, vR (some o0)), (1, vI x1), (2, vI x3), (3, vI v11)]) [2, 3, 1, 0] rfl ?_
          exact hK23 x3 v11 h
set_option maxRecDepth 100000 in
set_option maxHeartbeats 4000000 in
theorem k_X12_fewest_23 {o0 : Nat} {x1 : Int} {x2 : Int} {x3 : Int} {M : Mm} {Q : Int → Mm → Prop} (C : Cx p s m args meth c cX12_fewest 4 RX12 D cy G n0) (hr : meth.sig.returnType = some .int) (h3 : n0 = 243) (hn : M.2.2.2 = n0) (ho0 : o0 < 243 ∧ (SH o0).1 = 12) (hQ : ∀ x M, Q x M → Qp (some (vI x)) M) (h : P_X12_fewest_23 o0 x1 x2 x3 M Q ) : WW p l e ({ frames := 4, cells := 0, slots := 0, locals := 100 }) s m args below meth c (ZQ below args s D cy G n0 Qp n0) 4 D cy G n0 23 [(0, vR (some o0)), (1, vI x1), (2, vI x2), (3, vI x3)] [] M := by
  refine lpW_sound (P := fun y : Int × Int => WW p l e ({ frames := 4, cells := 0, slots := 0, locals := 100 }) s m args below meth c (ZQ below args s D cy G n0 Qp n0) 4 D cy G n0 23 [(0, vR (some o0)), (1, vI x1), (2, vI y.1), (3, vI y.2)] [] M) ?_ h
  intro K y hK hF
  obtain ⟨x2, x3⟩ := y
  exact f_X12_fewest_23 C hr h3 hn ho0 hQ  (fun x2 x3 hk => hK (x2, x3) hk) hF
set_option maxRecDepth 100000 in
set_option maxHeartbeats 4000000 in
theorem k_X12_fewest_0 {o0 : Nat} {x1 : Int} {M : Mm} {Q : Int → Mm → Prop} (C : Cx p s m args meth c cX12_fewest 4 RX12 D cy G n0) (hr : meth.sig.returnType = some .int) (h3 : n0 = 243) (hn : M.2.2.2 = n0) (ho0 : o0 < 243 ∧ (SH o0).1 = 12) (hQ : ∀ x M, Q x M → Qp (some (vI x)) M) (h : P_X12_fewest o0 x1 M Q ) : WW p l e ({ frames := 4, cells := 0, slots := 0, locals := 100 }) s m args below meth c (ZQ below args s D cy G n0 Qp n0) 4 D cy G n0 0 [(0, vR (some o0)), (1, vI x1)] [] M := by
  unfold P_X12_fewest at h
  refine w_iload_n C dX12_fewest_0 rfl (mem_k 1 rfl) ?_
  refine w_i2l C dX12_fewest_1 ?_
  refine w_lconst C dX12_fewest_2 ?_
  refine w_ldc2 (x := 1000) C dX12_fewest_3 cn_X12_147 ⟨by decide, by decide⟩ ?_
  refine cl_X12_in (ck_X12_85 ⟨by decide, by decide⟩) C dX12_fewest_6 hn h3 (Nat.le_of_ble_eq_true rfl) h (fun v12 h => ?_)
  refine w_if_ne (tgt := 14) C dX12_fewest_9 (by decide) (fun q => ?_) (fun q => ?_)
  · replace h := h.1 q
    refine w_aload_n C dX12_fewest_14 rfl (mem_k 0 rfl) ?_
    refine cl_X12_layFitting (ck_X12_223 ⟨by decide, by decide⟩) C dX12_fewest_15 hn h3 (Nat.le_of_ble_eq_true rfl) (isO.n (ci := 12) ⟨rfl, ho0⟩ (hn.trans h3)) h (fun M13 h hn14 => ?_)
    refine w_bipush C dX12_fewest_18 (by decide) ?_
    refine x_istore_n (L' := [(2, vI (-4)), (0, vR (some o0)), (1, vI x1)]) C dX12_fewest_20 rfl (by decide) rfl ?_
    refine w_iconst C dX12_fewest_21 ⟨by decide, by decide⟩ ?_
    refine x_istore_n (L' := [(3, vI 0), (2, vI (-4)), (0, vR (some o0)), (1, vI x1)]) C dX12_fewest_22 rfl (by decide) rfl ?_
    refine x_pc (pc2 := 23) rfl ?_
    refine x_pick (L' := [(0, vR (some o0)), (1, vI x1), (2, vI (-4)), (3, vI 0)]) [2, 3, 1, 0] rfl ?_
    exact k_X12_fewest_23 C hr h3 hn14 ho0 hQ  h
  · replace h := h.2 q
    refine w_iconst C dX12_fewest_12 ⟨by decide, by decide⟩ ?_
    exact x_iret C hr dX12_fewest_13 hn (hQ _ M h)
set_option maxRecDepth 100000 in
set_option maxHeartbeats 4000000 in
theorem con_X12_fewest (l : Launch) (D : va_G) (cy : Nat → ClassId) : Con l D cy yX12_fewest cX12_fewest 4 (some .int) ({ frames := 4, cells := 0, slots := 0, locals := 100 }) 0 0 SP_X12_fewest := by
  refine con_of (by decide) (fun as M Qp h => ?_) ?_
  · obtain ⟨-, o0, x1, rfl, -⟩ := h
    exact Nat.le_of_ble_eq_true rfl
  · intro p e s m args below meth c G as M Qp h C hr hnm
    obtain ⟨hn, o0, x1, rfl, ho1, ho2, Q0, hQ, h⟩ := h
    refine x_pick (L' := [(0, vR (some o0)), (1, vI x1)]) [0, 1] rfl ?_
    exact k_X12_fewest_0 C hr hn rfl ⟨ho1, ho2⟩ hQ h
set_option maxRecDepth 100000 in
set_option maxHeartbeats 4000000 in
theorem cl_X12_fewest {p : Program} {l : Launch} {e : Env} {R : Room} {s : State} {m : MethodId} {args : Array Value} {below : List Frame} {meth : Method} {c : Code} {Q : State → Prop} {cc : ByteArray} {nL : Nat} {own : String} {D : va_G} {cy : Nat → ClassId} {G : Nat × Nat} {n0 pc : Nat} {L : List (Nat × PV)} {st : List PV} {M : Mm} {op : Instr} (K : CallOK l D cy R own op 0 0 (spV 12 1 SP_X12_fewest)) (C : Cx p s m args meth c cc nL own D cy G n0) (hd : decode cc pc = .ok (op, 3)) (hn : M.2.2.2 = n0) (h3 : n0 = 243) (hlen : argN st ≤ 8) {r : Option Nat} {o0 : Nat} (ho : isOn 12 M.2.2.2 r o0) {x1 : Int} {Q0 : Int → Mm → Prop} (h : P_X12_fewest o0 x1 M Q0) (k : ∀ x M2, Q0 x M2 → M2.2.2.2 = n0 → WW p l e R s m args below meth c Q nL D cy G n0  (pc + 3) L (vI x :: st) M2) : WW p l e R s m args below meth c Q nL D cy G n0  pc L (vI x1 :: vR r :: st) M := by
  obtain ⟨rfl, ho1, ho2⟩ := ho
  refine x_call0 K C hd (as := [vR (some o0), vI x1]) rfl hn hlen (fun v M2 => ∃ x, v = some (vI x) ∧ Q0 x M2) ⟨⟨o0, [vI x1], rfl, rfl, ho1, ho2⟩, hn.trans h3, o0, x1, rfl, (hn.trans h3) ▸ ho1, ho2, Q0, fun x M2 hx => ⟨x, rfl, hx⟩, h⟩ ?_
  rintro _ _ ⟨x, rfl, hx⟩ hm
  exact k x _ hx hm
end W_X12_fewest
