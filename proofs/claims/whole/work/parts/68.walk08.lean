/-! model: pure predicates, decode rows, walks, contracts; by program (wip/gen/walk.py) -/
theorem dX12_patch_0 : decode cX12_patch 0 = .ok (.aload_n 0, 1) := by decide +kernel
theorem dX12_patch_1 : decode cX12_patch 1 = .ok (.getfield 25, 3) := by decide +kernel
theorem dX12_patch_4 : decode cX12_patch 4 = .ok (.iconst 0, 1) := by decide +kernel
theorem dX12_patch_5 : decode cX12_patch 5 = .ok (.iaload, 1) := by decide +kernel
theorem dX12_patch_6 : decode cX12_patch 6 = .ok (.iconst 1, 1) := by decide +kernel
theorem dX12_patch_7 : decode cX12_patch 7 = .ok (.isub, 1) := by decide +kernel
theorem dX12_patch_8 : decode cX12_patch 8 = .ok (.istore_n 2, 1) := by decide +kernel
theorem dX12_patch_9 : decode cX12_patch 9 = .ok (.iload_n 1, 1) := by decide +kernel
theorem dX12_patch_10 : decode cX12_patch 10 = .ok (.iconst 3, 1) := by decide +kernel
theorem dX12_patch_11 : decode cX12_patch 11 = .ok (.if_icmp .ne 62, 3) := by decide +kernel
theorem dX12_patch_14 : decode cX12_patch 14 = .ok (.iload_n 2, 1) := by decide +kernel
theorem dX12_patch_15 : decode cX12_patch 15 = .ok (.ifCond .lt 58, 3) := by decide +kernel
theorem dX12_patch_18 : decode cX12_patch 18 = .ok (.aload_n 0, 1) := by decide +kernel
theorem dX12_patch_19 : decode cX12_patch 19 = .ok (.getfield 31, 3) := by decide +kernel
theorem dX12_patch_22 : decode cX12_patch 22 = .ok (.iload_n 2, 1) := by decide +kernel
theorem dX12_patch_23 : decode cX12_patch 23 = .ok (.iaload, 1) := by decide +kernel
theorem dX12_patch_24 : decode cX12_patch 24 = .ok (.bipush 6, 2) := by decide +kernel
theorem dX12_patch_26 : decode cX12_patch 26 = .ok (.if_icmp .eq 47, 3) := by decide +kernel
theorem dX12_patch_29 : decode cX12_patch 29 = .ok (.aload_n 0, 1) := by decide +kernel
theorem dX12_patch_30 : decode cX12_patch 30 = .ok (.getfield 65, 3) := by decide +kernel
theorem dX12_patch_33 : decode cX12_patch 33 = .ok (.iconst 0, 1) := by decide +kernel
theorem dX12_patch_34 : decode cX12_patch 34 = .ok (.iaload, 1) := by decide +kernel
theorem dX12_patch_35 : decode cX12_patch 35 = .ok (.aload_n 0, 1) := by decide +kernel
theorem dX12_patch_36 : decode cX12_patch 36 = .ok (.getfield 13, 3) := by decide +kernel
theorem dX12_patch_39 : decode cX12_patch 39 = .ok (.iconst 0, 1) := by decide +kernel
theorem dX12_patch_40 : decode cX12_patch 40 = .ok (.iaload, 1) := by decide +kernel
theorem dX12_patch_41 : decode cX12_patch 41 = .ok (.if_icmp .ge 32, 3) := by decide +kernel
theorem dX12_patch_44 : decode cX12_patch 44 = .ok (.aload_n 0, 1) := by decide +kernel
theorem dX12_patch_45 : decode cX12_patch 45 = .ok (.getfield 65, 3) := by decide +kernel
theorem dX12_patch_48 : decode cX12_patch 48 = .ok (.iconst 1, 1) := by decide +kernel
theorem dX12_patch_49 : decode cX12_patch 49 = .ok (.iaload, 1) := by decide +kernel
theorem dX12_patch_50 : decode cX12_patch 50 = .ok (.sipush 200, 3) := by decide +kernel
theorem dX12_patch_53 : decode cX12_patch 53 = .ok (.if_icmp .gt 20, 3) := by decide +kernel
theorem dX12_patch_56 : decode cX12_patch 56 = .ok (.aload_n 0, 1) := by decide +kernel
theorem dX12_patch_57 : decode cX12_patch 57 = .ok (.getfield 65, 3) := by decide +kernel
theorem dX12_patch_60 : decode cX12_patch 60 = .ok (.iconst 2, 1) := by decide +kernel
theorem dX12_patch_61 : decode cX12_patch 61 = .ok (.iaload, 1) := by decide +kernel
theorem dX12_patch_62 : decode cX12_patch 62 = .ok (.i2l, 1) := by decide +kernel
theorem dX12_patch_63 : decode cX12_patch 63 = .ok (.lconst 1, 1) := by decide +kernel
theorem dX12_patch_64 : decode cX12_patch 64 = .ok (.ldc2_w 117, 3) := by decide +kernel
theorem dX12_patch_67 : decode cX12_patch 67 = .ok (.invokestatic 85, 3) := by decide +kernel
theorem dX12_patch_70 : decode cX12_patch 70 = .ok (.ifCond .ne 5, 3) := by decide +kernel
theorem dX12_patch_73 : decode cX12_patch 73 = .ok (.iconst 0, 1) := by decide +kernel
theorem dX12_patch_74 : decode cX12_patch 74 = .ok (.ireturn, 1) := by decide +kernel
theorem dX12_patch_75 : decode cX12_patch 75 = .ok (.iconst 0, 1) := by decide +kernel
theorem dX12_patch_76 : decode cX12_patch 76 = .ok (.istore_n 3, 1) := by decide +kernel
theorem dX12_patch_77 : decode cX12_patch 77 = .ok (.iload_n 3, 1) := by decide +kernel
theorem dX12_patch_78 : decode cX12_patch 78 = .ok (.iconst 3, 1) := by decide +kernel
theorem dX12_patch_79 : decode cX12_patch 79 = .ok (.if_icmp .ge 35, 3) := by decide +kernel
theorem dX12_patch_82 : decode cX12_patch 82 = .ok (.aload_n 0, 1) := by decide +kernel
theorem dX12_patch_83 : decode cX12_patch 83 = .ok (.getfield 34, 3) := by decide +kernel
theorem dX12_patch_86 : decode cX12_patch 86 = .ok (.bipush 18, 2) := by decide +kernel
theorem dX12_patch_88 : decode cX12_patch 88 = .ok (.iload_n 2, 1) := by decide +kernel
theorem dX12_patch_89 : decode cX12_patch 89 = .ok (.imul, 1) := by decide +kernel
theorem dX12_patch_90 : decode cX12_patch 90 = .ok (.iconst 3, 1) := by decide +kernel
theorem dX12_patch_91 : decode cX12_patch 91 = .ok (.aload_n 0, 1) := by decide +kernel
theorem dX12_patch_92 : decode cX12_patch 92 = .ok (.getfield 31, 3) := by decide +kernel
theorem dX12_patch_95 : decode cX12_patch 95 = .ok (.iload_n 2, 1) := by decide +kernel
theorem dX12_patch_96 : decode cX12_patch 96 = .ok (.iaload, 1) := by decide +kernel
theorem dX12_patch_97 : decode cX12_patch 97 = .ok (.imul, 1) := by decide +kernel
theorem dX12_patch_98 : decode cX12_patch 98 = .ok (.iadd, 1) := by decide +kernel
theorem dX12_patch_99 : decode cX12_patch 99 = .ok (.iload_n 3, 1) := by decide +kernel
theorem dX12_patch_100 : decode cX12_patch 100 = .ok (.iadd, 1) := by decide +kernel
theorem dX12_patch_101 : decode cX12_patch 101 = .ok (.aload_n 0, 1) := by decide +kernel
theorem dX12_patch_102 : decode cX12_patch 102 = .ok (.getfield 65, 3) := by decide +kernel
theorem dX12_patch_105 : decode cX12_patch 105 = .ok (.iload_n 3, 1) := by decide +kernel
theorem dX12_patch_106 : decode cX12_patch 106 = .ok (.iaload, 1) := by decide +kernel
theorem dX12_patch_107 : decode cX12_patch 107 = .ok (.iastore, 1) := by decide +kernel
theorem dX12_patch_108 : decode cX12_patch 108 = .ok (.iinc 3 1, 3) := by decide +kernel
theorem dX12_patch_111 : decode cX12_patch 111 = .ok (.goto (-34), 3) := by decide +kernel
theorem dX12_patch_114 : decode cX12_patch 114 = .ok (.aload_n 0, 1) := by decide +kernel
theorem dX12_patch_115 : decode cX12_patch 115 = .ok (.getfield 31, 3) := by decide +kernel
theorem dX12_patch_118 : decode cX12_patch 118 = .ok (.iload_n 2, 1) := by decide +kernel
theorem dX12_patch_119 : decode cX12_patch 119 = .ok (.dup2, 1) := by decide +kernel
theorem dX12_patch_120 : decode cX12_patch 120 = .ok (.iaload, 1) := by decide +kernel
theorem dX12_patch_121 : decode cX12_patch 121 = .ok (.iconst 1, 1) := by decide +kernel
theorem dX12_patch_122 : decode cX12_patch 122 = .ok (.iadd, 1) := by decide +kernel
theorem dX12_patch_123 : decode cX12_patch 123 = .ok (.iastore, 1) := by decide +kernel
theorem dX12_patch_124 : decode cX12_patch 124 = .ok (.iconst 1, 1) := by decide +kernel
theorem dX12_patch_125 : decode cX12_patch 125 = .ok (.ireturn, 1) := by decide +kernel
theorem fw_X12_34 : fR RX12 34 12 9 := ⟨⟨lwG_4 (i := 73) rfl rfl, by decide, by decide⟩, fun _ _ => rfl, fun r => ⟨r, rfl⟩⟩
theorem cn_X12_117 : Cond.constantLong RX12 117 (Int64.ofInt 400) ∈ lwG := lwG_4 (i := 206) rfl rfl
section W_X12_patch
variable {p : Program} {l : Launch} {e : Env} {s : State} {m : MethodId} {args : Array Value} {below : List Frame} {meth : Method} {c : Code} {D : va_G} {cy : Nat → ClassId} {G : Nat × Nat} {n0 : Nat} {Qp : Option PV → Mm → Prop}
set_option maxRecDepth 100000 in
set_option maxHeartbeats 4000000 in
theorem f_X12_patch_77 {o0 : Nat} {x2 : Int} {x3 : Int} {M : Mm} {Q : Int → Mm → Prop} {K77 : Int × Mm → Prop} (C : Cx p s m args meth c cX12_patch 4 RX12 D cy G n0) (hr : meth.sig.returnType = some .boolean) (h3 : n0 = 243) (hn : M.2.2.2 = n0) (ho0 : o0 < 243 ∧ (SH o0).1 = 12) (hQ : ∀ x M, Q x M → Qp (some (vI x)) M) (hK77 : ∀ (x3 : Int) (M : Mm), K77 (x3, M) → M.2.2.2 = n0 → WW p l e ({ frames := 1, cells := 0, slots := 0, locals := 25 }) s m args below meth c (ZQ below args s D cy G n0 Qp n0) 4 D cy G n0 77 [(0, vR (some o0)), (2, vI x2), (3, vI x3)] [] M) (h : F_X12_patch_77 o0 x2 Q  K77 x3 M) : WW p l e ({ frames := 1, cells := 0, slots := 0, locals := 25 }) s m args below meth c (ZQ below args s D cy G n0 Qp n0) 4 D cy G n0 77 [(0, vR (some o0)), (2, vI x2), (3, vI x3)] [] M := by
  unfold F_X12_patch_77 at h
  refine w_iload_n C dX12_patch_77 rfl (mem_k 2 rfl) ?_
  refine w_iconst C dX12_patch_78 ⟨by decide, by decide⟩ ?_
  refine w_icmp_ge (tgt := 114) C dX12_patch_79 (by decide) (fun q => ?_) (fun q => ?_)
  · replace h := h.1 q
    refine w_aload_n C dX12_patch_114 rfl (mem_k 0 rfl) ?_
    refine x_getR C dX12_patch_115 fw_X12_31 (isO.n (ci := 12) ⟨rfl, ho0⟩ (hn.trans h3)) (fun r1 er1 => ?_)
    replace h := h r1 er1
    refine w_iload_n C dX12_patch_118 rfl (mem_k 1 rfl) ?_
    refine w_dup2 C dX12_patch_119 rfl rfl ?_
    obtain ⟨o2, g3, h⟩ := h
    refine x_iald C dX12_patch_120 (isA.n g3 (hn.trans h3)) ?_
    refine w_iconst C dX12_patch_121 ⟨by decide, by decide⟩ ?_
    refine w_iadd C dX12_patch_122 h.1 ?_
    replace h := h.2
    obtain ⟨o4, g5, h⟩ := h
    refine x_iast C dX12_patch_123 (isA.n g5 (hn.trans h3)) (fun M6 eM6 hn7 => ?_)
    replace h := h M6 eM6
    replace hn7 := hn7.trans hn
    refine w_iconst C dX12_patch_124 ⟨by decide, by decide⟩ ?_
    exact x_zret C hr dX12_patch_125 hn7 (by decide) (hQ _ M6 h)
  · replace h := h.2 q
    refine w_aload_n C dX12_patch_82 rfl (mem_k 0 rfl) ?_
    refine x_getR C dX12_patch_83 fw_X12_34 (isO.n (ci := 12) ⟨rfl, ho0⟩ (hn.trans h3)) (fun r8 er8 => ?_)
    replace h := h r8 er8
    refine w_bipush C dX12_patch_86 (by decide) ?_
    refine w_iload_n C dX12_patch_88 rfl (mem_k 1 rfl) ?_
    refine w_imul C dX12_patch_89 h.1 ?_
    replace h := h.2
    refine w_iconst C dX12_patch_90 ⟨by decide, by decide⟩ ?_
    refine w_aload_n C dX12_patch_91 rfl (mem_k 0 rfl) ?_
    refine x_getR C dX12_patch_92 fw_X12_31 (isO.n (ci := 12) ⟨rfl, ho0⟩ (hn.trans h3)) (fun r9 er9 => ?_)
    replace h := h r9 er9
    refine w_iload_n C dX12_patch_95 rfl (mem_k 1 rfl) ?_
    obtain ⟨o10, g11, h⟩ := h
    refine x_iald C dX12_patch_96 (isA.n g11 (hn.trans h3)) ?_
    refine w_imul C dX12_patch_97 h.1 ?_
    replace h := h.2
    refine w_iadd C dX12_patch_98 h.1 ?_
    replace h := h.2
    refine w_iload_n C dX12_patch_99 rfl (mem_k 2 rfl) ?_
    refine w_iadd C dX12_patch_100 h.1 ?_
    replace h := h.2
    refine w_aload_n C dX12_patch_101 rfl (mem_k 0 rfl) ?_
    refine x_getR C dX12_patch_102 fw_X12_65 (isO.n (ci := 12) ⟨rfl, ho0⟩ (hn.trans h3)) (fun r12 er12 => ?_)
    replace h := h r12 er12
    refine w_iload_n C dX12_patch_105 rfl (mem_k 2 rfl) ?_
    obtain ⟨o13, g14, h⟩ := h
    refine x_iald C dX12_patch_106 (isA.n g14 (hn.trans h3)) ?_
    obtain ⟨o15, g16, h⟩ := h
    refine x_iast C dX12_patch_107 (isA.n g16 (hn.trans h3)) (fun M17 eM17 hn18 => ?_)
    replace h := h M17 eM17
    replace hn18 := hn18.trans hn
    obtain ⟨v19, ev19⟩ : ∃ z : Int, z = x3 + 1 := ⟨_, rfl⟩
    refine x_iinc (L' := [(3, vI v19), (0, vR (some o0)), (2, vI x2)]) C dX12_patch_108 (mem_k 2 rfl) (by decide) h.1 ev19 rfl ?_
    replace h := h.2 v19 ev19
    refine w_goto (tgt := 77) C dX12_patch_111 (by decide) ?_
    refine x_pc (pc2 := 77) rfl ?_
    refine x_pick (L' := [(0, vR (some o0)), (2, vI x2), (3, vI v19)]) [1, 2, 0] rfl ?_
    exact hK77 v19 M17 h hn18
set_option maxRecDepth 100000 in
set_option maxHeartbeats 4000000 in
theorem k_X12_patch_77 {o0 : Nat} {x2 : Int} {x3 : Int} {M : Mm} {Q : Int → Mm → Prop} (C : Cx p s m args meth c cX12_patch 4 RX12 D cy G n0) (hr : meth.sig.returnType = some .boolean) (h3 : n0 = 243) (hn : M.2.2.2 = n0) (ho0 : o0 < 243 ∧ (SH o0).1 = 12) (hQ : ∀ x M, Q x M → Qp (some (vI x)) M) (h : P_X12_patch_77 o0 x2 x3 M Q ) : WW p l e ({ frames := 1, cells := 0, slots := 0, locals := 25 }) s m args below meth c (ZQ below args s D cy G n0 Qp n0) 4 D cy G n0 77 [(0, vR (some o0)), (2, vI x2), (3, vI x3)] [] M := by
  refine lpW_sound (P := fun y : Int × Mm => y.2.2.2.2 = n0 → WW p l e ({ frames := 1, cells := 0, slots := 0, locals := 25 }) s m args below meth c (ZQ below args s D cy G n0 Qp n0) 4 D cy G n0 77 [(0, vR (some o0)), (2, vI x2), (3, vI y.1)] [] y.2) ?_ h hn
  intro K y hK hF
  obtain ⟨x3, M⟩ := y
  intro hn
  exact f_X12_patch_77 C hr h3 hn ho0 hQ  (fun x3 M hk => hK (x3, M) hk) hF
set_option maxRecDepth 100000 in
set_option maxHeartbeats 4000000 in
theorem k_X12_patch_0 {o0 : Nat} {x1 : Int} {M : Mm} {Q : Int → Mm → Prop} (C : Cx p s m args meth c cX12_patch 4 RX12 D cy G n0) (hr : meth.sig.returnType = some .boolean) (h3 : n0 = 243) (hn : M.2.2.2 = n0) (ho0 : o0 < 243 ∧ (SH o0).1 = 12) (hQ : ∀ x M, Q x M → Qp (some (vI x)) M) (h : P_X12_patch o0 x1 M Q ) : WW p l e ({ frames := 1, cells := 0, slots := 0, locals := 25 }) s m args below meth c (ZQ below args s D cy G n0 Qp n0) 4 D cy G n0 0 [(0, vR (some o0)), (1, vI x1)] [] M := by
  unfold P_X12_patch at h
  refine w_aload_n C dX12_patch_0 rfl (mem_k 0 rfl) ?_
  refine x_getR C dX12_patch_1 fw_X12_25 (isO.n (ci := 12) ⟨rfl, ho0⟩ (hn.trans h3)) (fun r20 er20 => ?_)
  replace h := h r20 er20
  refine w_iconst C dX12_patch_4 ⟨by decide, by decide⟩ ?_
  obtain ⟨o21, g22, h⟩ := h
  refine x_iald C dX12_patch_5 (isA.n g22 (hn.trans h3)) ?_
  refine w_iconst C dX12_patch_6 ⟨by decide, by decide⟩ ?_
  refine w_isub C dX12_patch_7 h.1 ?_
  replace h := h.2
  refine x_nmI (fun v23 ev23 => ?_)
  replace h := h v23 ev23
  refine x_istore_n (L' := [(2, vI v23), (0, vR (some o0)), (1, vI x1)]) C dX12_patch_8 rfl (by decide) rfl ?_
  refine w_iload_n C dX12_patch_9 rfl (mem_k 2 rfl) ?_
  refine w_iconst C dX12_patch_10 ⟨by decide, by decide⟩ ?_
  refine w_icmp_ne (tgt := 73) C dX12_patch_11 (by decide) (fun q => ?_) (fun q => ?_)
  · replace h := h.1 q
    refine w_iconst C dX12_patch_73 ⟨by decide, by decide⟩ ?_
    exact x_zret C hr dX12_patch_74 hn (by decide) (hQ _ M h)
  · replace h := h.2 q
    refine w_iload_n C dX12_patch_14 rfl (mem_k 0 rfl) ?_
    refine w_if_lt (tgt := 73) C dX12_patch_15 (by decide) (fun q => ?_) (fun q => ?_)
    · replace h := h.1 q
      refine w_iconst C dX12_patch_73 ⟨by decide, by decide⟩ ?_
      exact x_zret C hr dX12_patch_74 hn (by decide) (hQ _ M h)
    · replace h := h.2 q
      refine w_aload_n C dX12_patch_18 rfl (mem_k 1 rfl) ?_
      refine x_getR C dX12_patch_19 fw_X12_31 (isO.n (ci := 12) ⟨rfl, ho0⟩ (hn.trans h3)) (fun r24 er24 => ?_)
      replace h := h r24 er24
      refine w_iload_n C dX12_patch_22 rfl (mem_k 0 rfl) ?_
      obtain ⟨o25, g26, h⟩ := h
      refine x_iald C dX12_patch_23 (isA.n g26 (hn.trans h3)) ?_
      refine w_bipush C dX12_patch_24 (by decide) ?_
      refine w_icmp_eq (tgt := 73) C dX12_patch_26 (by decide) (fun q => ?_) (fun q => ?_)
      · replace h := h.1 q
        refine w_iconst C dX12_patch_73 ⟨by decide, by decide⟩ ?_
        exact x_zret C hr dX12_patch_74 hn (by decide) (hQ _ M h)
      · replace h := h.2 q
        refine w_aload_n C dX12_patch_29 rfl (mem_k 1 rfl) ?_
        refine x_getR C dX12_patch_30 fw_X12_65 (isO.n (ci := 12) ⟨rfl, ho0⟩ (hn.trans h3)) (fun r27 er27 => ?_)
        replace h := h r27 er27
        refine w_iconst C dX12_patch_33 ⟨by decide, by decide⟩ ?_
        obtain ⟨o28, g29, h⟩ := h
        refine x_iald C dX12_patch_34 (isA.n g29 (hn.trans h3)) ?_
        refine w_aload_n C dX12_patch_35 rfl (mem_k 1 rfl) ?_
        refine x_getR C dX12_patch_36 fw_X12_13 (isO.n (ci := 12) ⟨rfl, ho0⟩ (hn.trans h3)) (fun r30 er30 => ?_)
        replace h := h r30 er30
        refine w_iconst C dX12_patch_39 ⟨by decide, by decide⟩ ?_
        obtain ⟨o31, g32, h⟩ := h
        refine x_iald C dX12_patch_40 (isA.n g32 (hn.trans h3)) ?_
        refine w_icmp_ge (tgt := 73) C dX12_patch_41 (by decide) (fun q => ?_) (fun q => ?_)
        · replace h := h.1 q
          refine w_iconst C dX12_patch_73 ⟨by decide, by decide⟩ ?_
          exact x_zret C hr dX12_patch_74 hn (by decide) (hQ _ M h)
        · replace h := h.2 q
          refine w_aload_n C dX12_patch_44 rfl (mem_k 1 rfl) ?_
          refine x_getR C dX12_patch_45 fw_X12_65 (isO.n (ci := 12) ⟨rfl, ho0⟩ (hn.trans h3)) (fun r33 er33 => ?_)
          replace h := h r33 er33
          refine w_iconst C dX12_patch_48 ⟨by decide, by decide⟩ ?_
          obtain ⟨o34, g35, h⟩ := h
          refine x_iald C dX12_patch_49 (isA.n g35 (hn.trans h3)) ?_
          refine w_sipush C dX12_patch_50 (by decide) ?_
          refine w_icmp_gt (tgt := 73) C dX12_patch_53 (by decide) (fun q => ?_) (fun q => ?_)
          · replace h := h.1 q
            refine w_iconst C dX12_patch_73 ⟨by decide, by decide⟩ ?_
            exact x_zret C hr dX12_patch_74 hn (by decide) (hQ _ M h)
          · replace h := h.2 q
            refine w_aload_n C dX12_patch_56 rfl (mem_k 1 rfl) ?_
            refine x_getR C dX12_patch_57 fw_X12_65 (isO.n (ci := 12) ⟨rfl, ho0⟩ (hn.trans h3)) (fun r36 er36 => ?_)
            replace h := h r36 er36
            refine w_iconst C dX12_patch_60 ⟨by decide, by decide⟩ ?_
            obtain ⟨o37, g38, h⟩ := h
            refine x_iald C dX12_patch_61 (isA.n g38 (hn.trans h3)) ?_
            refine w_i2l C dX12_patch_62 ?_
            refine w_lconst C dX12_patch_63 ?_
            refine w_ldc2 (x := 400) C dX12_patch_64 cn_X12_117 ⟨by decide, by decide⟩ ?_
            refine cl_X12_in (ck_X12_85 ⟨by decide, by decide⟩) C dX12_patch_67 hn h3 (Nat.le_of_ble_eq_true rfl) h (fun v39 h => ?_)
            refine w_if_ne (tgt := 75) C dX12_patch_70 (by decide) (fun q => ?_) (fun q => ?_)
            · replace h := h.1 q
              refine w_iconst C dX12_patch_75 ⟨by decide, by decide⟩ ?_
              refine x_istore_n (L' := [(3, vI 0), (2, vI v23), (0, vR (some o0)), (1, vI x1)]) C dX12_patch_76 rfl (by decide) rfl ?_
              refine x_pc (pc2 := 77) rfl ?_
              refine x_pick (L' := [(0, vR (some o0)), (2, vI v23), (3, vI 0)]) [2, 1, 0] rfl ?_
              exact k_X12_patch_77 C hr h3 hn ho0 hQ  h
            · replace h := h.2 q
              refine w_iconst C dX12_patch_73 ⟨by decide, by decide⟩ ?_
              exact x_zret C hr dX12_patch_74 hn (by decide) (hQ _ M h)
set_option maxRecDepth 100000 in
set_option maxHeartbeats 4000000 in
theorem con_X12_patch (l : Launch) (D : va_G) (cy : Nat → ClassId) : Con l D cy yX12_patch cX12_patch 4 (some .boolean) ({ frames := 1, cells := 0, slots := 0, locals := 25 }) 0 0 SP_X12_patch := by
  refine con_of (by decide) (fun as M Qp h => ?_) ?_
  · obtain ⟨-, o0, x1, rfl, -⟩ := h
    exact Nat.le_of_ble_eq_true rfl
  · intro p e s m args below meth c G as M Qp h C hr hnm
    obtain ⟨hn, o0, x1, rfl, ho1, ho2, Q0, hQ, h⟩ := h
    refine x_pick (L' := [(0, vR (some o0)), (1, vI x1)]) [0, 1] rfl ?_
    exact k_X12_patch_0 C hr hn rfl ⟨ho1, ho2⟩ hQ h
set_option maxRecDepth 100000 in
set_option maxHeartbeats 4000000 in
theorem cl_X12_patch {p : Program} {l : Launch} {e : Env} {R : Room} {s : State} {m : MethodId} {args : Array Value} {below : List Frame} {meth : Method} {c : Code} {Q : State → Prop} {cc : ByteArray} {nL : Nat} {own : String} {D : va_G} {cy : Nat → ClassId} {G : Nat × Nat} {n0 pc : Nat} {L : List (Nat × PV)} {st : List PV} {M : Mm} {op : Instr} (K : CallOK l D cy R own op 0 0 (spV 12 1 SP_X12_patch)) (C : Cx p s m args meth c cc nL own D cy G n0) (hd : decode cc pc = .ok (op, 3)) (hn : M.2.2.2 = n0) (h3 : n0 = 243) (hlen : argN st ≤ 8) {r : Option Nat} {o0 : Nat} (ho : isOn 12 M.2.2.2 r o0) {x1 : Int} {Q0 : Int → Mm → Prop} (h : P_X12_patch o0 x1 M Q0) (k : ∀ x M2, Q0 x M2 → M2.2.2.2 = n0 → WW p l e R s m args below meth c Q nL D cy G n0  (pc + 3) L (vI x :: st) M2) : WW p l e R s m args below meth c Q nL D cy G n0  pc L (vI x1 :: vR r :: st) M := by
  obtain ⟨rfl, ho1, ho2⟩ := ho
  refine x_call0 K C hd (as := [vR (some o0), vI x1]) rfl hn hlen (fun v M2 => ∃ x, v = some (vI x) ∧ Q0 x M2) ⟨⟨o0, [vI x1], rfl, rfl, ho1, ho2⟩, hn.trans h3, o0, x1, rfl, (hn.trans h3) ▸ ho1, ho2, Q0, fun x M2 hx => ⟨x, rfl, hx⟩, h⟩ ?_
  rintro _ _ ⟨x, rfl, hx⟩ hm
  exact k x _ hx hm
end W_X12_patch
theorem dX12_readAll_0 : decode cX12_readAll 0 = .ok (.aload_n 0, 1) := by decide +kernel
theorem dX12_readAll_1 : decode cX12_readAll 1 = .ok (.getfield 13, 3) := by decide +kernel
theorem dX12_readAll_4 : decode cX12_readAll 4 = .ok (.iconst 0, 1) := by decide +kernel
theorem dX12_readAll_5 : decode cX12_readAll 5 = .ok (.iconst 0, 1) := by decide +kernel
theorem dX12_readAll_6 : decode cX12_readAll 6 = .ok (.iastore, 1) := by decide +kernel
theorem dX12_readAll_7 : decode cX12_readAll 7 = .ok (.aload_n 0, 1) := by decide +kernel
theorem dX12_readAll_8 : decode cX12_readAll 8 = .ok (.getfield 25, 3) := by decide +kernel
theorem dX12_readAll_11 : decode cX12_readAll 11 = .ok (.iconst 0, 1) := by decide +kernel
theorem dX12_readAll_12 : decode cX12_readAll 12 = .ok (.iconst 0, 1) := by decide +kernel
theorem dX12_readAll_13 : decode cX12_readAll 13 = .ok (.iastore, 1) := by decide +kernel
theorem dX12_readAll_14 : decode cX12_readAll 14 = .ok (.aload_n 0, 1) := by decide +kernel
theorem dX12_readAll_15 : decode cX12_readAll 15 = .ok (.iconst 0, 1) := by decide +kernel
theorem dX12_readAll_16 : decode cX12_readAll 16 = .ok (.putfield 94, 3) := by decide +kernel
theorem dX12_readAll_19 : decode cX12_readAll 19 = .ok (.aload_n 0, 1) := by decide +kernel
theorem dX12_readAll_20 : decode cX12_readAll 20 = .ok (.getfield 94, 3) := by decide +kernel
theorem dX12_readAll_23 : decode cX12_readAll 23 = .ok (.aload_n 0, 1) := by decide +kernel
theorem dX12_readAll_24 : decode cX12_readAll 24 = .ok (.getfield 89, 3) := by decide +kernel
theorem dX12_readAll_27 : decode cX12_readAll 27 = .ok (.if_icmp .ge 106, 3) := by decide +kernel
theorem dX12_readAll_30 : decode cX12_readAll 30 = .ok (.aload_n 0, 1) := by decide +kernel
theorem dX12_readAll_31 : decode cX12_readAll 31 = .ok (.getfield 94, 3) := by decide +kernel
theorem dX12_readAll_34 : decode cX12_readAll 34 = .ok (.istore_n 1, 1) := by decide +kernel
theorem dX12_readAll_35 : decode cX12_readAll 35 = .ok (.aload_n 0, 1) := by decide +kernel
theorem dX12_readAll_36 : decode cX12_readAll 36 = .ok (.getfield 7, 3) := by decide +kernel
theorem dX12_readAll_39 : decode cX12_readAll 39 = .ok (.aload_n 0, 1) := by decide +kernel
theorem dX12_readAll_40 : decode cX12_readAll 40 = .ok (.getfield 94, 3) := by decide +kernel
theorem dX12_readAll_43 : decode cX12_readAll 43 = .ok (.iaload, 1) := by decide +kernel
theorem dX12_readAll_44 : decode cX12_readAll 44 = .ok (.istore_n 2, 1) := by decide +kernel
theorem dX12_readAll_45 : decode cX12_readAll 45 = .ok (.aload_n 0, 1) := by decide +kernel
theorem dX12_readAll_46 : decode cX12_readAll 46 = .ok (.dup, 1) := by decide +kernel
theorem dX12_readAll_47 : decode cX12_readAll 47 = .ok (.getfield 94, 3) := by decide +kernel
theorem dX12_readAll_50 : decode cX12_readAll 50 = .ok (.iconst 1, 1) := by decide +kernel
theorem dX12_readAll_51 : decode cX12_readAll 51 = .ok (.iadd, 1) := by decide +kernel
theorem dX12_readAll_52 : decode cX12_readAll 52 = .ok (.putfield 94, 3) := by decide +kernel
theorem dX12_readAll_55 : decode cX12_readAll 55 = .ok (.aload_n 0, 1) := by decide +kernel
theorem dX12_readAll_56 : decode cX12_readAll 56 = .ok (.invokevirtual 119, 3) := by decide +kernel
theorem dX12_readAll_59 : decode cX12_readAll 59 = .ok (.istore_n 3, 1) := by decide +kernel
theorem dX12_readAll_60 : decode cX12_readAll 60 = .ok (.iload_n 2, 1) := by decide +kernel
theorem dX12_readAll_61 : decode cX12_readAll 61 = .ok (.bipush 108, 2) := by decide +kernel
theorem dX12_readAll_63 : decode cX12_readAll 63 = .ok (.if_icmp .ne 11, 3) := by decide +kernel
theorem dX12_readAll_66 : decode cX12_readAll 66 = .ok (.aload_n 0, 1) := by decide +kernel
theorem dX12_readAll_67 : decode cX12_readAll 67 = .ok (.iload_n 3, 1) := by decide +kernel
theorem dX12_readAll_68 : decode cX12_readAll 68 = .ok (.invokevirtual 123, 3) := by decide +kernel
theorem dX12_readAll_71 : decode cX12_readAll 71 = .ok (.goto 50, 3) := by decide +kernel
theorem dX12_readAll_74 : decode cX12_readAll 74 = .ok (.iload_n 2, 1) := by decide +kernel
theorem dX12_readAll_75 : decode cX12_readAll 75 = .ok (.bipush 116, 2) := by decide +kernel
theorem dX12_readAll_77 : decode cX12_readAll 77 = .ok (.if_icmp .ne 11, 3) := by decide +kernel
theorem dX12_readAll_80 : decode cX12_readAll 80 = .ok (.aload_n 0, 1) := by decide +kernel
theorem dX12_readAll_81 : decode cX12_readAll 81 = .ok (.iload_n 3, 1) := by decide +kernel
theorem dX12_readAll_82 : decode cX12_readAll 82 = .ok (.invokevirtual 127, 3) := by decide +kernel
theorem dX12_readAll_85 : decode cX12_readAll 85 = .ok (.goto 36, 3) := by decide +kernel
theorem dX12_readAll_88 : decode cX12_readAll 88 = .ok (.iload_n 2, 1) := by decide +kernel
theorem dX12_readAll_89 : decode cX12_readAll 89 = .ok (.bipush 115, 2) := by decide +kernel
theorem dX12_readAll_91 : decode cX12_readAll 91 = .ok (.if_icmp .ne 11, 3) := by decide +kernel
theorem dX12_readAll_94 : decode cX12_readAll 94 = .ok (.aload_n 0, 1) := by decide +kernel
theorem dX12_readAll_95 : decode cX12_readAll 95 = .ok (.iload_n 3, 1) := by decide +kernel
theorem dX12_readAll_96 : decode cX12_readAll 96 = .ok (.invokevirtual 130, 3) := by decide +kernel
theorem dX12_readAll_99 : decode cX12_readAll 99 = .ok (.goto 22, 3) := by decide +kernel
theorem dX12_readAll_102 : decode cX12_readAll 102 = .ok (.iload_n 2, 1) := by decide +kernel
theorem dX12_readAll_103 : decode cX12_readAll 103 = .ok (.bipush 112, 2) := by decide +kernel
theorem dX12_readAll_105 : decode cX12_readAll 105 = .ok (.if_icmp .ne 15, 3) := by decide +kernel
theorem dX12_readAll_108 : decode cX12_readAll 108 = .ok (.aload_n 0, 1) := by decide +kernel
theorem dX12_readAll_109 : decode cX12_readAll 109 = .ok (.iload_n 3, 1) := by decide +kernel
theorem dX12_readAll_110 : decode cX12_readAll 110 = .ok (.invokevirtual 133, 3) := by decide +kernel
theorem dX12_readAll_113 : decode cX12_readAll 113 = .ok (.ifCond .eq 7, 3) := by decide +kernel
theorem dX12_readAll_116 : decode cX12_readAll 116 = .ok (.iconst 1, 1) := by decide +kernel
theorem dX12_readAll_117 : decode cX12_readAll 117 = .ok (.goto 4, 3) := by decide +kernel
theorem dX12_readAll_120 : decode cX12_readAll 120 = .ok (.iconst 0, 1) := by decide +kernel
theorem dX12_readAll_121 : decode cX12_readAll 121 = .ok (.istore 4, 2) := by decide +kernel
theorem dX12_readAll_123 : decode cX12_readAll 123 = .ok (.iload 4, 2) := by decide +kernel
theorem dX12_readAll_125 : decode cX12_readAll 125 = .ok (.ifCond .ne 5, 3) := by decide +kernel
theorem dX12_readAll_128 : decode cX12_readAll 128 = .ok (.iload_n 1, 1) := by decide +kernel
theorem dX12_readAll_129 : decode cX12_readAll 129 = .ok (.ireturn, 1) := by decide +kernel
theorem dX12_readAll_130 : decode cX12_readAll 130 = .ok (.goto (-111), 3) := by decide +kernel
theorem dX12_readAll_133 : decode cX12_readAll 133 = .ok (.bipush (-4), 2) := by decide +kernel
theorem dX12_readAll_135 : decode cX12_readAll 135 = .ok (.ireturn, 1) := by decide +kernel
theorem ck_X12_119 {l : Launch} {D : va_G} {cy : Nat → ClassId} {R : Room} (hR : 2 ≤ R.frames ∧ 48 ≤ R.locals) : CallOK l D cy R RX12 (.invokevirtual 119) 0 0 (spV 12 0 SP_X12_numbers) := call_V (ci := 12) (con_X12_numbers l D cy) (lwG_4 (i := 176) rfl rfl) (lwG_4 (i := 178) rfl rfl) (lwG_p (i := 16) rfl rfl) (lwG_1 (i := 13) rfl rfl) (lwG_4 (i := 179) rfl rfl) (by decide) ⟨rfl, by decide, by decide, rfl⟩ ⟨rfl, rfl⟩ hR
theorem ck_X12_133 {l : Launch} {D : va_G} {cy : Nat → ClassId} {R : Room} (hR : 2 ≤ R.frames ∧ 48 ≤ R.locals) : CallOK l D cy R RX12 (.invokevirtual 133) 0 0 (spV 12 1 SP_X12_patch) := call_V (ci := 12) (con_X12_patch l D cy) (lwG_4 (i := 202) rfl rfl) (lwG_4 (i := 204) rfl rfl) (lwG_p (i := 20) rfl rfl) (lwG_1 (i := 13) rfl rfl) (lwG_4 (i := 205) rfl rfl) (by decide) ⟨rfl, by decide, by decide, rfl⟩ ⟨rfl, rfl⟩ hR
theorem ck_X12_130 {l : Launch} {D : va_G} {cy : Nat → ClassId} {R : Room} (hR : 2 ≤ R.frames ∧ 47 ≤ R.locals) : CallOK l D cy R RX12 (.invokevirtual 130) 0 0 (spV 12 1 SP_X12_seat) := call_V (ci := 12) (con_X12_seat l D cy) (lwG_4 (i := 193) rfl rfl) (lwG_4 (i := 195) rfl rfl) (lwG_p (i := 19) rfl rfl) (lwG_1 (i := 13) rfl rfl) (lwG_4 (i := 196) rfl rfl) (by decide) ⟨rfl, by decide, by decide, rfl⟩ ⟨rfl, rfl⟩ hR
theorem ck_X12_127 {l : Launch} {D : va_G} {cy : Nat → ClassId} {R : Room} (hR : 1 ≤ R.frames ∧ 22 ≤ R.locals) : CallOK l D cy R RX12 (.invokevirtual 127) 0 0 (spV 12 1 SP_X12_letting) := call_V (ci := 12) (con_X12_letting l D cy) (lwG_4 (i := 189) rfl rfl) (lwG_4 (i := 191) rfl rfl) (lwG_p (i := 18) rfl rfl) (lwG_1 (i := 13) rfl rfl) (lwG_4 (i := 192) rfl rfl) (by decide) ⟨rfl, by decide, by decide, rfl⟩ ⟨rfl, rfl⟩ hR
theorem ck_X12_123 {l : Launch} {D : va_G} {cy : Nat → ClassId} {R : Room} (hR : 2 ≤ R.frames ∧ 49 ≤ R.locals) : CallOK l D cy R RX12 (.invokevirtual 123) 0 0 (spV 12 1 SP_X12_layer) := call_V (ci := 12) (con_X12_layer l D cy) (lwG_4 (i := 183) rfl rfl) (lwG_4 (i := 185) rfl rfl) (lwG_p (i := 17) rfl rfl) (lwG_1 (i := 13) rfl rfl) (lwG_4 (i := 186) rfl rfl) (by decide) ⟨rfl, by decide, by decide, rfl⟩ ⟨rfl, rfl⟩ hR
section W_X12_readAll
variable {p : Program} {l : Launch} {e : Env} {s : State} {m : MethodId} {args : Array Value} {below : List Frame} {meth : Method} {c : Code} {D : va_G} {cy : Nat → ClassId} {G : Nat × Nat} {n0 : Nat} {Qp : Option PV → Mm → Prop}
set_option maxRecDepth 100000 in
set_option maxHeartbeats 4000000 in
theorem k_X12_readAll_121 {o0 : Nat} {x1 : Int} {s0 : Int} {M : Mm} {Q : Int → Mm → Prop} {K19 : Mm → Prop} (C : Cx p s m args meth c cX12_readAll 5 RX12 D cy G n0) (hr : meth.sig.returnType = some .int) (h3 : n0 = 243) (hn : M.2.2.2 = n0) (ho0 : o0 < 243 ∧ (SH o0).1 = 12) (hQ : ∀ x M, Q x M → Qp (some (vI x)) M) (hK19 : ∀ (M : Mm), K19 (M) → M.2.2.2 = n0 → WW p l e ({ frames := 2, cells := 0, slots := 0, locals := 49 }) s m args below meth c (ZQ below args s D cy G n0 Qp n0) 5 D cy G n0 19 [(0, vR (some o0))] [] M) (h : P_X12_readAll_121 o0 x1 s0 M Q K19) : WW p l e ({ frames := 2, cells := 0, slots := 0, locals := 49 }) s m args below meth c (ZQ below args s D cy G n0 Qp n0) 5 D cy G n0 121 [(0, vR (some o0)), (1, vI x1)] [vI s0] M := by
  unfold P_X12_readAll_121 at h
  refine x_istore (L' := [(4, vI s0), (0, vR (some o0)), (1, vI x1)]) C dX12_readAll_121 (by decide) rfl ?_
  refine w_iload C dX12_readAll_123 (mem_k 0 rfl) ?_
  refine w_if_ne (tgt := 130) C dX12_readAll_125 (by decide) (fun q => ?_) (fun q => ?_)
  · replace h := h.1 q
    refine w_goto (tgt := 19) C dX12_readAll_130 (by decide) ?_
    refine x_pc (pc2 := 19) rfl ?_
    refine x_pick (L' := [(0, vR (some o0))]) [1] rfl ?_
    exact hK19 M h hn
  · replace h := h.2 q
    refine w_iload_n C dX12_readAll_128 rfl (mem_k 2 rfl) ?_
    exact x_iret C hr dX12_readAll_129 hn (hQ _ M h)
set_option maxRecDepth 100000 in
set_option maxHeartbeats 4000000 in
theorem f_X12_readAll_19 {o0 : Nat} {M : Mm} {Q : Int → Mm → Prop} {K19 : Mm → Prop} (C : Cx p s m args meth c cX12_readAll 5 RX12 D cy G n0) (hr : meth.sig.returnType = some .int) (h3 : n0 = 243) (hn : M.2.2.2 = n0) (ho0 : o0 < 243 ∧ (SH o0).1 = 12) (hQ : ∀ x M, Q x M → Qp (some (vI x)) M) (hK19 : ∀ (M : Mm), K19 (M) → M.2.2.2 = n0 → WW p l e ({ frames := 2, cells := 0, slots := 0, locals := 49 }) s m args below meth c (ZQ below args s D cy G n0 Qp n0) 5 D cy G n0 19 [(0, vR (some o0))] [] M) (h : F_X12_readAll_19 o0 Q  K19 M) : WW p l e ({ frames := 2, cells := 0, slots := 0, locals := 49 }) s m args below meth c (ZQ below args s D cy G n0 Qp n0) 5 D cy G n0 19 [(0, vR (some o0))] [] M := by
  unfold F_X12_readAll_19 at h
  refine w_aload_n C dX12_readAll_19 rfl (mem_k 0 rfl) ?_
  refine x_getI C dX12_readAll_20 fw_X12_94 (isO.n (ci := 12) ⟨rfl, ho0⟩ (hn.trans h3)) ?_
  refine w_aload_n C dX12_readAll_23 rfl (mem_k 0 rfl) ?_
  refine x_getI C dX12_readAll_24 fw_X12_89 (isO.n (ci := 12) ⟨rfl, ho0⟩ (hn.trans h3)) ?_
  refine w_icmp_ge (tgt := 133) C dX12_readAll_27 (by decide) (fun q => ?_) (fun q => ?_)
  · replace h := h.1 q
    refine w_bipush C dX12_readAll_133 (by decide) ?_
    exact x_iret C hr dX12_readAll_135 hn (hQ _ M h)
  · replace h := h.2 q
    refine w_aload_n C dX12_readAll_30 rfl (mem_k 0 rfl) ?_
    refine x_getI C dX12_readAll_31 fw_X12_94 (isO.n (ci := 12) ⟨rfl, ho0⟩ (hn.trans h3)) ?_
    refine x_nmI (fun v1 ev1 => ?_)
    replace h := h v1 ev1
    refine x_istore_n (L' := [(1, vI v1), (0, vR (some o0))]) C dX12_readAll_34 rfl (by decide) rfl ?_
    refine w_aload_n C dX12_readAll_35 rfl (mem_k 1 rfl) ?_
    refine x_getR C dX12_readAll_36 fw_X12_7 (isO.n (ci := 12) ⟨rfl, ho0⟩ (hn.trans h3)) (fun r2 er2 => ?_)
    replace h := h r2 er2
    refine w_aload_n C dX12_readAll_39 rfl (mem_k 1 rfl) ?_
    refine x_getI C dX12_readAll_40 fw_X12_94 (isO.n (ci := 12) ⟨rfl, ho0⟩ (hn.trans h3)) ?_
    obtain ⟨o3, g4, h⟩ := h
    refine x_iald C dX12_readAll_43 (isA.n g4 (hn.trans h3)) ?_
    refine x_nmI (fun v5 ev5 => ?_)
    replace h := h v5 ev5
    refine x_istore_n (L' := [(2, vI v5), (1, vI v1), (0, vR (some o0))]) C dX12_readAll_44 rfl (by decide) rfl ?_
    refine w_aload_n C dX12_readAll_45 rfl (mem_k 2 rfl) ?_
    refine w_dup C dX12_readAll_46 rfl ?_
    refine x_getI C dX12_readAll_47 fw_X12_94 (isO.n (ci := 12) ⟨rfl, ho0⟩ (hn.trans h3)) ?_
    refine w_iconst C dX12_readAll_50 ⟨by decide, by decide⟩ ?_
    refine w_iadd C dX12_readAll_51 h.1 ?_
    replace h := h.2
    refine x_putI C dX12_readAll_52 fw_X12_94 (isO.n (ci := 12) ⟨rfl, ho0⟩ (hn.trans h3)) (Or.inl rfl) (fun M6 eM6 hn7 => ?_)
    replace h := h M6 eM6
    replace hn7 := hn7.trans hn
    refine w_aload_n C dX12_readAll_55 rfl (mem_k 2 rfl) ?_
    refine cl_X12_numbers (ck_X12_119 ⟨by decide, by decide⟩) C dX12_readAll_56 hn7 h3 (Nat.le_of_ble_eq_true rfl) (isO.n (ci := 12) ⟨rfl, ho0⟩ (hn7.trans h3)) h (fun v8 M9 h hn10 => ?_)
    refine x_istore_n (L' := [(3, vI v8), (2, vI v5), (1, vI v1), (0, vR (some o0))]) C dX12_readAll_59 rfl (by decide) rfl ?_
    refine w_iload_n C dX12_readAll_60 rfl (mem_k 1 rfl) ?_
    refine w_bipush C dX12_readAll_61 (by decide) ?_
    refine w_icmp_ne (tgt := 74) C dX12_readAll_63 (by decide) (fun q => ?_) (fun q => ?_)
    · replace h := h.1 q
      refine w_iload_n C dX12_readAll_74 rfl (mem_k 1 rfl) ?_
      refine w_bipush C dX12_readAll_75 (by decide) ?_
      refine w_icmp_ne (tgt := 88) C dX12_readAll_77 (by decide) (fun q => ?_) (fun q => ?_)
      · replace h := h.1 q
        refine w_iload_n C dX12_readAll_88 rfl (mem_k 1 rfl) ?_
        refine w_bipush C dX12_readAll_89 (by decide) ?_
        refine w_icmp_ne (tgt := 102) C dX12_readAll_91 (by decide) (fun q => ?_) (fun q => ?_)
        · replace h := h.1 q
          refine w_iload_n C dX12_readAll_102 rfl (mem_k 1 rfl) ?_
          refine w_bipush C dX12_readAll_103 (by decide) ?_
          refine w_icmp_ne (tgt := 120) C dX12_readAll_105 (by decide) (fun q => ?_) (fun q => ?_)
          · replace h := h.1 q
            refine w_iconst C dX12_readAll_120 ⟨by decide, by decide⟩ ?_
            refine x_pc (pc2 := 121) rfl ?_
            refine x_pick (L' := [(0, vR (some o0)), (1, vI v1)]) [3, 2] rfl ?_
            exact k_X12_readAll_121 C hr h3 hn10 ho0 hQ hK19 h
          · replace h := h.2 q
            refine w_aload_n C dX12_readAll_108 rfl (mem_k 3 rfl) ?_
            refine w_iload_n C dX12_readAll_109 rfl (mem_k 0 rfl) ?_
            refine cl_X12_patch (ck_X12_133 ⟨by decide, by decide⟩) C dX12_readAll_110 hn10 h3 (Nat.le_of_ble_eq_true rfl) (isO.n (ci := 12) ⟨rfl, ho0⟩ (hn10.trans h3)) h (fun v11 M12 h hn13 => ?_)
            refine w_if_eq (tgt := 120) C dX12_readAll_113 (by decide) (fun q => ?_) (fun q => ?_)
            · replace h := h.1 q
              refine w_iconst C dX12_readAll_120 ⟨by decide, by decide⟩ ?_
              refine x_pc (pc2 := 121) rfl ?_
              refine x_pick (L' := [(0, vR (some o0)), (1, vI v1)]) [3, 2] rfl ?_
              exact k_X12_readAll_121 C hr h3 hn13 ho0 hQ hK19 h
            · replace h := h.2 q
              refine w_iconst C dX12_readAll_116 ⟨by decide, by decide⟩ ?_
              refine w_goto (tgt := 121) C dX12_readAll_117 (by decide) ?_
              refine x_pc (pc2 := 121) rfl ?_
              refine x_pick (L' := [(0, vR (some o0)), (1, vI v1)]) [3, 2] rfl ?_
              exact k_X12_readAll_121 C hr h3 hn13 ho0 hQ hK19 h
        · replace h := h.2 q
          refine w_aload_n C dX12_readAll_94 rfl (mem_k 3 rfl) ?_
          refine w_iload_n C dX12_readAll_95 rfl (mem_k 0 rfl) ?_
          refine cl_X12_seat (ck_X12_130 ⟨by decide, by decide⟩) C dX12_readAll_96 hn10 h3 (Nat.le_of_ble_eq_true rfl) (isO.n (ci := 12) ⟨rfl, ho0⟩ (hn10.trans h3)) h (fun v14 M15 h hn16 => ?_)
          refine w_goto (tgt := 121) C dX12_readAll_99 (by decide) ?_
          refine x_pc (pc2 := 121) rfl ?_
          refine x_pick (L' := [(0, vR (some o0)), (1, vI v1)]) [3, 2] rfl ?_
          exact k_X12_readAll_121 C hr h3 hn16 ho0 hQ hK19 h
      · replace h := h.2 q
        refine w_aload_n C dX12_readAll_80 rfl (mem_k 3 rfl) ?_
        refine w_iload_n C dX12_readAll_81 rfl (mem_k 0 rfl) ?_
        refine cl_X12_letting (ck_X12_127 ⟨by decide, by decide⟩) C dX12_readAll_82 hn10 h3 (Nat.le_of_ble_eq_true rfl) (isO.n (ci := 12) ⟨rfl, ho0⟩ (hn10.trans h3)) h (fun v17 M18 h hn19 => ?_)
        refine w_goto (tgt := 121) C dX12_readAll_85 (by decide) ?_
        refine x_pc (pc2 := 121) rfl ?_
        refine x_pick (L' := [(0, vR (some o0)), (1, vI v1)]) [3, 2] rfl ?_
        exact k_X12_readAll_121 C hr h3 hn19 ho0 hQ hK19 h
    · replace h := h.2 q
      refine w_aload_n C dX12_readAll_66 rfl (mem_k 3 rfl) ?_
      refine w_iload_n C dX12_readAll_67 rfl (mem_k 0 rfl) ?_
      refine cl_X12_layer (ck_X12_123 ⟨by decide, by decide⟩) C dX12_readAll_68 hn10 h3 (Nat.le_of_ble_eq_true rfl) (isO.n (ci := 12) ⟨rfl, ho0⟩ (hn10.trans h3)) h (fun v20 M21 h hn22 => ?_)
      refine w_goto (tgt := 121) C dX12_readAll_71 (by decide) ?_
      refine x_pc (pc2 := 121) rfl ?_
      refine x_pick (L' := [(0, vR (some o0)), (1, vI v1)]) [3, 2] rfl ?_
      exact k_X12_readAll_121 C hr h3 hn22 ho0 hQ hK19 h
set_option maxRecDepth 100000 in
set_option maxHeartbeats 4000000 in
theorem k_X12_readAll_19 {o0 : Nat} {M : Mm} {Q : Int → Mm → Prop} (C : Cx p s m args meth c cX12_readAll 5 RX12 D cy G n0) (hr : meth.sig.returnType = some .int) (h3 : n0 = 243) (hn : M.2.2.2 = n0) (ho0 : o0 < 243 ∧ (SH o0).1 = 12) (hQ : ∀ x M, Q x M → Qp (some (vI x)) M) (h : P_X12_readAll_19 o0 M Q ) : WW p l e ({ frames := 2, cells := 0, slots := 0, locals := 49 }) s m args below meth c (ZQ below args s D cy G n0 Qp n0) 5 D cy G n0 19 [(0, vR (some o0))] [] M := by
  refine lpW_sound (P := fun y : Mm => y.2.2.2 = n0 → WW p l e ({ frames := 2, cells := 0, slots := 0, locals := 49 }) s m args below meth c (ZQ below args s D cy G n0 Qp n0) 5 D cy G n0 19 [(0, vR (some o0))] [] y) ?_ h hn
  intro K y hK hF
  intro hn
  exact f_X12_readAll_19 C hr h3 hn ho0 hQ  (fun M hk => hK M hk) hF
set_option maxRecDepth 100000 in
set_option maxHeartbeats 4000000 in
theorem k_X12_readAll_0 {o0 : Nat} {M : Mm} {Q : Int → Mm → Prop} (C : Cx p s m args meth c cX12_readAll 5 RX12 D cy G n0) (hr : meth.sig.returnType = some .int) (h3 : n0 = 243) (hn : M.2.2.2 = n0) (ho0 : o0 < 243 ∧ (SH o0).1 = 12) (hQ : ∀ x M, Q x M → Qp (some (vI x)) M) (h : P_X12_readAll o0 M Q ) : WW p l e ({ frames := 2, cells := 0, slots := 0, locals := 49 }) s m args below meth c (ZQ below args s D cy G n0 Qp n0) 5 D cy G n0 0 [(0, vR (some o0))] [] M := by
  unfold P_X12_readAll at h
  refine w_aload_n C dX12_readAll_0 rfl (mem_k 0 rfl) ?_
  refine x_getR C dX12_readAll_1 fw_X12_13 (isO.n (ci := 12) ⟨rfl, ho0⟩ (hn.trans h3)) (fun r23 er23 => ?_)
  replace h := h r23 er23
  refine w_iconst C dX12_readAll_4 ⟨by decide, by decide⟩ ?_
  refine w_iconst C dX12_readAll_5 ⟨by decide, by decide⟩ ?_
  obtain ⟨o24, g25, h⟩ := h
  refine x_iast C dX12_readAll_6 (isA.n g25 (hn.trans h3)) (fun M26 eM26 hn27 => ?_)
  replace h := h M26 eM26
  replace hn27 := hn27.trans hn
  refine w_aload_n C dX12_readAll_7 rfl (mem_k 0 rfl) ?_
  refine x_getR C dX12_readAll_8 fw_X12_25 (isO.n (ci := 12) ⟨rfl, ho0⟩ (hn27.trans h3)) (fun r28 er28 => ?_)
  replace h := h r28 er28
  refine w_iconst C dX12_readAll_11 ⟨by decide, by decide⟩ ?_
  refine w_iconst C dX12_readAll_12 ⟨by decide, by decide⟩ ?_
  obtain ⟨o29, g30, h⟩ := h
  refine x_iast C dX12_readAll_13 (isA.n g30 (hn27.trans h3)) (fun M31 eM31 hn32 => ?_)
  replace h := h M31 eM31
  replace hn32 := hn32.trans hn27
  refine w_aload_n C dX12_readAll_14 rfl (mem_k 0 rfl) ?_
  refine w_iconst C dX12_readAll_15 ⟨by decide, by decide⟩ ?_
  refine x_putI C dX12_readAll_16 fw_X12_94 (isO.n (ci := 12) ⟨rfl, ho0⟩ (hn32.trans h3)) (Or.inl rfl) (fun M33 eM33 hn34 => ?_)
  replace h := h M33 eM33
  replace hn34 := hn34.trans hn32
  refine x_pc (pc2 := 19) rfl ?_
  refine x_pick (L' := [(0, vR (some o0))]) [0] rfl ?_
  exact k_X12_readAll_19 C hr h3 hn34 ho0 hQ  h
set_option maxRecDepth 100000 in
set_option maxHeartbeats 4000000 in
theorem con_X12_readAll (l : Launch) (D : va_G) (cy : Nat → ClassId) : Con l D cy yX12_readAll cX12_readAll 5 (some .int) ({ frames := 2, cells := 0, slots := 0, locals := 49 }) 0 0 SP_X12_readAll := by
  refine con_of (by decide) (fun as M Qp h => ?_) ?_
  · obtain ⟨-, o0, rfl, -⟩ := h
    exact Nat.le_of_ble_eq_true rfl
  · intro p e s m args below meth c G as M Qp h C hr hnm
    obtain ⟨hn, o0, rfl, ho1, ho2, Q0, hQ, h⟩ := h
    refine x_pick (L' := [(0, vR (some o0))]) [0] rfl ?_
    exact k_X12_readAll_0 C hr hn rfl ⟨ho1, ho2⟩ hQ h
set_option maxRecDepth 100000 in
set_option maxHeartbeats 4000000 in
theorem cl_X12_readAll {p : Program} {l : Launch} {e : Env} {R : Room} {s : State} {m : MethodId} {args : Array Value} {below : List Frame} {meth : Method} {c : Code} {Q : State → Prop} {cc : ByteArray} {nL : Nat} {own : String} {D : va_G} {cy : Nat → ClassId} {G : Nat × Nat} {n0 pc : Nat} {L : List (Nat × PV)} {st : List PV} {M : Mm} {op : Instr} (K : CallOK l D cy R own op 0 0 (spV 12 0 SP_X12_readAll)) (C : Cx p s m args meth c cc nL own D cy G n0) (hd : decode cc pc = .ok (op, 3)) (hn : M.2.2.2 = n0) (h3 : n0 = 243) (hlen : argN st ≤ 8) {r : Option Nat} {o0 : Nat} (ho : isOn 12 M.2.2.2 r o0)  {Q0 : Int → Mm → Prop} (h : P_X12_readAll o0 M Q0) (k : ∀ x M2, Q0 x M2 → M2.2.2.2 = n0 → WW p l e R s m args below meth c Q nL D cy G n0  (pc + 3) L (vI x :: st) M2) : WW p l e R s m args below meth c Q nL D cy G n0  pc L (vR r :: st) M := by
  obtain ⟨rfl, ho1, ho2⟩ := ho
  refine x_call0 K C hd (as := [vR (some o0)]) rfl hn hlen (fun v M2 => ∃ x, v = some (vI x) ∧ Q0 x M2) ⟨⟨o0, [], rfl, rfl, ho1, ho2⟩, hn.trans h3, o0, rfl, (hn.trans h3) ▸ ho1, ho2, Q0, fun x M2 hx => ⟨x, rfl, hx⟩, h⟩ ?_
  rintro _ _ ⟨x, rfl, hx⟩ hm
  exact k x _ hx hm
end W_X12_readAll
theorem dX12_fault_0 : decode cX12_fault 0 = .ok (.aload_n 0, 1) := by decide +kernel
theorem dX12_fault_1 : decode cX12_fault 1 = .ok (.invokevirtual 136, 3) := by decide +kernel
theorem dX12_fault_4 : decode cX12_fault 4 = .ok (.ireturn, 1) := by decide +kernel
theorem ck_X12_136 {l : Launch} {D : va_G} {cy : Nat → ClassId} {R : Room} (hR : 3 ≤ R.frames ∧ 73 ≤ R.locals) : CallOK l D cy R RX12 (.invokevirtual 136) 0 0 (spV 12 0 SP_X12_readAll) := call_V (ci := 12) (con_X12_readAll l D cy) (lwG_4 (i := 172) rfl rfl) (lwG_4 (i := 174) rfl rfl) (lwG_p (i := 15) rfl rfl) (lwG_1 (i := 13) rfl rfl) (lwG_4 (i := 175) rfl rfl) (by decide) ⟨rfl, by decide, by decide, rfl⟩ ⟨rfl, rfl⟩ hR
section W_X12_fault
variable {p : Program} {l : Launch} {e : Env} {s : State} {m : MethodId} {args : Array Value} {below : List Frame} {meth : Method} {c : Code} {D : va_G} {cy : Nat → ClassId} {G : Nat × Nat} {n0 : Nat} {Qp : Option PV → Mm → Prop}
set_option maxRecDepth 100000 in
set_option maxHeartbeats 4000000 in
theorem k_X12_fault_0 {o0 : Nat} {M : Mm} {Q : Int → Mm → Prop} (C : Cx p s m args meth c cX12_fault 1 RX12 D cy G n0) (hr : meth.sig.returnType = some .int) (h3 : n0 = 243) (hn : M.2.2.2 = n0) (ho0 : o0 < 243 ∧ (SH o0).1 = 12) (hQ : ∀ x M, Q x M → Qp (some (vI x)) M) (h : P_X12_fault o0 M Q ) : WW p l e ({ frames := 3, cells := 0, slots := 0, locals := 73 }) s m args below meth c (ZQ below args s D cy G n0 Qp n0) 1 D cy G n0 0 [(0, vR (some o0))] [] M := by
  unfold P_X12_fault at h
  refine w_aload_n C dX12_fault_0 rfl (mem_k 0 rfl) ?_
  refine cl_X12_readAll (ck_X12_136 ⟨by decide, by decide⟩) C dX12_fault_1 hn h3 (Nat.le_of_ble_eq_true rfl) (isO.n (ci := 12) ⟨rfl, ho0⟩ (hn.trans h3)) h (fun v1 M2 h hn3 => ?_)
  exact x_iret C hr dX12_fault_4 hn3 (hQ _ M2 h)
set_option maxRecDepth 100000 in
set_option maxHeartbeats 4000000 in
theorem con_X12_fault (l : Launch) (D : va_G) (cy : Nat → ClassId) : Con l D cy yX12_fault cX12_fault 1 (some .int) ({ frames := 3, cells := 0, slots := 0, locals := 73 }) 0 0 SP_X12_fault := by
  refine con_of (by decide) (fun as M Qp h => ?_) ?_
  · obtain ⟨-, o0, rfl, -⟩ := h
    exact Nat.le_of_ble_eq_true rfl
  · intro p e s m args below meth c G as M Qp h C hr hnm
    obtain ⟨hn, o0, rfl, ho1, ho2, Q0, hQ, h⟩ := h
    refine x_pick (L' := [(0, vR (some o0))]) [0] rfl ?_
    exact k_X12_fault_0 C hr hn rfl ⟨ho1, ho2⟩ hQ h
set_option maxRecDepth 100000 in
set_option maxHeartbeats 4000000 in
theorem cl_X12_fault {p : Program} {l : Launch} {e : Env} {R : Room} {s : State} {m : MethodId} {args : Array Value} {below : List Frame} {meth : Method} {c : Code} {Q : State → Prop} {cc : ByteArray} {nL : Nat} {own : String} {D : va_G} {cy : Nat → ClassId} {G : Nat × Nat} {n0 pc : Nat} {L : List (Nat × PV)} {st : List PV} {M : Mm} {op : Instr} (K : CallOK l D cy R own op 0 0 (spV 12 0 SP_X12_fault)) (C : Cx p s m args meth c cc nL own D cy G n0) (hd : decode cc pc = .ok (op, 3)) (hn : M.2.2.2 = n0) (h3 : n0 = 243) (hlen : argN st ≤ 8) {r : Option Nat} {o0 : Nat} (ho : isOn 12 M.2.2.2 r o0)  {Q0 : Int → Mm → Prop} (h : P_X12_fault o0 M Q0) (k : ∀ x M2, Q0 x M2 → M2.2.2.2 = n0 → WW p l e R s m args below meth c Q nL D cy G n0  (pc + 3) L (vI x :: st) M2) : WW p l e R s m args below meth c Q nL D cy G n0  pc L (vR r :: st) M := by
  obtain ⟨rfl, ho1, ho2⟩ := ho
  refine x_call0 K C hd (as := [vR (some o0)]) rfl hn hlen (fun v M2 => ∃ x, v = some (vI x) ∧ Q0 x M2) ⟨⟨o0, [], rfl, rfl, ho1, ho2⟩, hn.trans h3, o0, rfl, (hn.trans h3) ▸ ho1, ho2, Q0, fun x M2 hx => ⟨x, rfl, hx⟩, h⟩ ?_
  rintro _ _ ⟨x, rfl, hx⟩ hm
  exact k x _ hx hm
end W_X12_fault
theorem dX12_lay_0 : decode cX12_lay 0 = .ok (.aload_n 0, 1) := by decide +kernel
theorem dX12_lay_1 : decode cX12_lay 1 = .ok (.invokevirtual 136, 3) := by decide +kernel
theorem dX12_lay_4 : decode cX12_lay 4 = .ok (.bipush (-4), 2) := by decide +kernel
theorem dX12_lay_6 : decode cX12_lay 6 = .ok (.if_icmp .eq 6, 3) := by decide +kernel
theorem dX12_lay_9 : decode cX12_lay 9 = .ok (.bipush (-2), 2) := by decide +kernel
theorem dX12_lay_11 : decode cX12_lay 11 = .ok (.ireturn, 1) := by decide +kernel
theorem dX12_lay_12 : decode cX12_lay 12 = .ok (.iconst 0, 1) := by decide +kernel
theorem dX12_lay_13 : decode cX12_lay 13 = .ok (.istore_n 1, 1) := by decide +kernel
theorem dX12_lay_14 : decode cX12_lay 14 = .ok (.iload_n 1, 1) := by decide +kernel
theorem dX12_lay_15 : decode cX12_lay 15 = .ok (.aload_n 0, 1) := by decide +kernel
theorem dX12_lay_16 : decode cX12_lay 16 = .ok (.getfield 25, 3) := by decide +kernel
theorem dX12_lay_19 : decode cX12_lay 19 = .ok (.iconst 0, 1) := by decide +kernel
theorem dX12_lay_20 : decode cX12_lay 20 = .ok (.iaload, 1) := by decide +kernel
theorem dX12_lay_21 : decode cX12_lay 21 = .ok (.if_icmp .ge 21, 3) := by decide +kernel
theorem dX12_lay_24 : decode cX12_lay 24 = .ok (.aload_n 0, 1) := by decide +kernel
theorem dX12_lay_25 : decode cX12_lay 25 = .ok (.getfield 31, 3) := by decide +kernel
theorem dX12_lay_28 : decode cX12_lay 28 = .ok (.iload_n 1, 1) := by decide +kernel
theorem dX12_lay_29 : decode cX12_lay 29 = .ok (.iaload, 1) := by decide +kernel
theorem dX12_lay_30 : decode cX12_lay 30 = .ok (.ifCond .ne 6, 3) := by decide +kernel
theorem dX12_lay_33 : decode cX12_lay 33 = .ok (.bipush (-2), 2) := by decide +kernel
theorem dX12_lay_35 : decode cX12_lay 35 = .ok (.ireturn, 1) := by decide +kernel
theorem dX12_lay_36 : decode cX12_lay 36 = .ok (.iinc 1 1, 3) := by decide +kernel
theorem dX12_lay_39 : decode cX12_lay 39 = .ok (.goto (-25), 3) := by decide +kernel
theorem dX12_lay_42 : decode cX12_lay 42 = .ok (.aload_n 0, 1) := by decide +kernel
theorem dX12_lay_43 : decode cX12_lay 43 = .ok (.getfield 13, 3) := by decide +kernel
theorem dX12_lay_46 : decode cX12_lay 46 = .ok (.iconst 1, 1) := by decide +kernel
theorem dX12_lay_47 : decode cX12_lay 47 = .ok (.aload_n 0, 1) := by decide +kernel
theorem dX12_lay_48 : decode cX12_lay 48 = .ok (.getfield 13, 3) := by decide +kernel
theorem dX12_lay_51 : decode cX12_lay 51 = .ok (.iconst 0, 1) := by decide +kernel
theorem dX12_lay_52 : decode cX12_lay 52 = .ok (.iaload, 1) := by decide +kernel
theorem dX12_lay_53 : decode cX12_lay 53 = .ok (.iastore, 1) := by decide +kernel
theorem dX12_lay_54 : decode cX12_lay 54 = .ok (.aload_n 0, 1) := by decide +kernel
theorem dX12_lay_55 : decode cX12_lay 55 = .ok (.getfield 25, 3) := by decide +kernel
theorem dX12_lay_58 : decode cX12_lay 58 = .ok (.iconst 1, 1) := by decide +kernel
theorem dX12_lay_59 : decode cX12_lay 59 = .ok (.aload_n 0, 1) := by decide +kernel
theorem dX12_lay_60 : decode cX12_lay 60 = .ok (.getfield 25, 3) := by decide +kernel
theorem dX12_lay_63 : decode cX12_lay 63 = .ok (.iconst 0, 1) := by decide +kernel
theorem dX12_lay_64 : decode cX12_lay 64 = .ok (.iaload, 1) := by decide +kernel
theorem dX12_lay_65 : decode cX12_lay 65 = .ok (.iastore, 1) := by decide +kernel
theorem dX12_lay_66 : decode cX12_lay 66 = .ok (.iconst 0, 1) := by decide +kernel
theorem dX12_lay_67 : decode cX12_lay 67 = .ok (.istore_n 1, 1) := by decide +kernel
theorem dX12_lay_68 : decode cX12_lay 68 = .ok (.iload_n 1, 1) := by decide +kernel
theorem dX12_lay_69 : decode cX12_lay 69 = .ok (.bipush 8, 2) := by decide +kernel
theorem dX12_lay_71 : decode cX12_lay 71 = .ok (.if_icmp .ge 24, 3) := by decide +kernel
theorem dX12_lay_74 : decode cX12_lay 74 = .ok (.aload_n 0, 1) := by decide +kernel
theorem dX12_lay_75 : decode cX12_lay 75 = .ok (.getfield 16, 3) := by decide +kernel
theorem dX12_lay_78 : decode cX12_lay 78 = .ok (.bipush 8, 2) := by decide +kernel
theorem dX12_lay_80 : decode cX12_lay 80 = .ok (.iload_n 1, 1) := by decide +kernel
theorem dX12_lay_81 : decode cX12_lay 81 = .ok (.iadd, 1) := by decide +kernel
theorem dX12_lay_82 : decode cX12_lay 82 = .ok (.aload_n 0, 1) := by decide +kernel
theorem dX12_lay_83 : decode cX12_lay 83 = .ok (.getfield 16, 3) := by decide +kernel
theorem dX12_lay_86 : decode cX12_lay 86 = .ok (.iload_n 1, 1) := by decide +kernel
theorem dX12_lay_87 : decode cX12_lay 87 = .ok (.iaload, 1) := by decide +kernel
theorem dX12_lay_88 : decode cX12_lay 88 = .ok (.iastore, 1) := by decide +kernel
theorem dX12_lay_89 : decode cX12_lay 89 = .ok (.iinc 1 1, 3) := by decide +kernel
theorem dX12_lay_92 : decode cX12_lay 92 = .ok (.goto (-24), 3) := by decide +kernel
theorem dX12_lay_95 : decode cX12_lay 95 = .ok (.iconst 0, 1) := by decide +kernel
theorem dX12_lay_96 : decode cX12_lay 96 = .ok (.istore_n 1, 1) := by decide +kernel
theorem dX12_lay_97 : decode cX12_lay 97 = .ok (.iload_n 1, 1) := by decide +kernel
theorem dX12_lay_98 : decode cX12_lay 98 = .ok (.bipush 64, 2) := by decide +kernel
theorem dX12_lay_100 : decode cX12_lay 100 = .ok (.if_icmp .ge 24, 3) := by decide +kernel
theorem dX12_lay_103 : decode cX12_lay 103 = .ok (.aload_n 0, 1) := by decide +kernel
theorem dX12_lay_104 : decode cX12_lay 104 = .ok (.getfield 19, 3) := by decide +kernel
theorem dX12_lay_107 : decode cX12_lay 107 = .ok (.bipush 64, 2) := by decide +kernel
theorem dX12_lay_109 : decode cX12_lay 109 = .ok (.iload_n 1, 1) := by decide +kernel
theorem dX12_lay_110 : decode cX12_lay 110 = .ok (.iadd, 1) := by decide +kernel
theorem dX12_lay_111 : decode cX12_lay 111 = .ok (.aload_n 0, 1) := by decide +kernel
theorem dX12_lay_112 : decode cX12_lay 112 = .ok (.getfield 19, 3) := by decide +kernel
theorem dX12_lay_115 : decode cX12_lay 115 = .ok (.iload_n 1, 1) := by decide +kernel
theorem dX12_lay_116 : decode cX12_lay 116 = .ok (.iaload, 1) := by decide +kernel
theorem dX12_lay_117 : decode cX12_lay 117 = .ok (.iastore, 1) := by decide +kernel
theorem dX12_lay_118 : decode cX12_lay 118 = .ok (.iinc 1 1, 3) := by decide +kernel
theorem dX12_lay_121 : decode cX12_lay 121 = .ok (.goto (-24), 3) := by decide +kernel
theorem dX12_lay_124 : decode cX12_lay 124 = .ok (.iconst 0, 1) := by decide +kernel
theorem dX12_lay_125 : decode cX12_lay 125 = .ok (.istore_n 1, 1) := by decide +kernel
theorem dX12_lay_126 : decode cX12_lay 126 = .ok (.iload_n 1, 1) := by decide +kernel
theorem dX12_lay_127 : decode cX12_lay 127 = .ok (.bipush 32, 2) := by decide +kernel
theorem dX12_lay_129 : decode cX12_lay 129 = .ok (.if_icmp .ge 24, 3) := by decide +kernel
theorem dX12_lay_132 : decode cX12_lay 132 = .ok (.aload_n 0, 1) := by decide +kernel
theorem dX12_lay_133 : decode cX12_lay 133 = .ok (.getfield 22, 3) := by decide +kernel
theorem dX12_lay_136 : decode cX12_lay 136 = .ok (.bipush 32, 2) := by decide +kernel
theorem dX12_lay_138 : decode cX12_lay 138 = .ok (.iload_n 1, 1) := by decide +kernel
theorem dX12_lay_139 : decode cX12_lay 139 = .ok (.iadd, 1) := by decide +kernel
theorem dX12_lay_140 : decode cX12_lay 140 = .ok (.aload_n 0, 1) := by decide +kernel
theorem dX12_lay_141 : decode cX12_lay 141 = .ok (.getfield 22, 3) := by decide +kernel
theorem dX12_lay_144 : decode cX12_lay 144 = .ok (.iload_n 1, 1) := by decide +kernel
theorem dX12_lay_145 : decode cX12_lay 145 = .ok (.iaload, 1) := by decide +kernel
theorem dX12_lay_146 : decode cX12_lay 146 = .ok (.iastore, 1) := by decide +kernel
theorem dX12_lay_147 : decode cX12_lay 147 = .ok (.iinc 1 1, 3) := by decide +kernel
theorem dX12_lay_150 : decode cX12_lay 150 = .ok (.goto (-24), 3) := by decide +kernel
theorem dX12_lay_153 : decode cX12_lay 153 = .ok (.iconst 0, 1) := by decide +kernel
theorem dX12_lay_154 : decode cX12_lay 154 = .ok (.istore_n 1, 1) := by decide +kernel
theorem dX12_lay_155 : decode cX12_lay 155 = .ok (.iload_n 1, 1) := by decide +kernel
theorem dX12_lay_156 : decode cX12_lay 156 = .ok (.bipush 24, 2) := by decide +kernel
theorem dX12_lay_158 : decode cX12_lay 158 = .ok (.if_icmp .ge 24, 3) := by decide +kernel
theorem dX12_lay_161 : decode cX12_lay 161 = .ok (.aload_n 0, 1) := by decide +kernel
theorem dX12_lay_162 : decode cX12_lay 162 = .ok (.getfield 28, 3) := by decide +kernel
theorem dX12_lay_165 : decode cX12_lay 165 = .ok (.bipush 24, 2) := by decide +kernel
theorem dX12_lay_167 : decode cX12_lay 167 = .ok (.iload_n 1, 1) := by decide +kernel
theorem dX12_lay_168 : decode cX12_lay 168 = .ok (.iadd, 1) := by decide +kernel
theorem dX12_lay_169 : decode cX12_lay 169 = .ok (.aload_n 0, 1) := by decide +kernel
theorem dX12_lay_170 : decode cX12_lay 170 = .ok (.getfield 28, 3) := by decide +kernel
theorem dX12_lay_173 : decode cX12_lay 173 = .ok (.iload_n 1, 1) := by decide +kernel
theorem dX12_lay_174 : decode cX12_lay 174 = .ok (.iaload, 1) := by decide +kernel
theorem dX12_lay_175 : decode cX12_lay 175 = .ok (.iastore, 1) := by decide +kernel
theorem dX12_lay_176 : decode cX12_lay 176 = .ok (.iinc 1 1, 3) := by decide +kernel
theorem dX12_lay_179 : decode cX12_lay 179 = .ok (.goto (-24), 3) := by decide +kernel
theorem dX12_lay_182 : decode cX12_lay 182 = .ok (.iconst 0, 1) := by decide +kernel
theorem dX12_lay_183 : decode cX12_lay 183 = .ok (.istore_n 1, 1) := by decide +kernel
theorem dX12_lay_184 : decode cX12_lay 184 = .ok (.iload_n 1, 1) := by decide +kernel
theorem dX12_lay_185 : decode cX12_lay 185 = .ok (.bipush 6, 2) := by decide +kernel
theorem dX12_lay_187 : decode cX12_lay 187 = .ok (.if_icmp .ge 31, 3) := by decide +kernel
theorem dX12_lay_190 : decode cX12_lay 190 = .ok (.aload_n 0, 1) := by decide +kernel
theorem dX12_lay_191 : decode cX12_lay 191 = .ok (.getfield 31, 3) := by decide +kernel
theorem dX12_lay_194 : decode cX12_lay 194 = .ok (.bipush 6, 2) := by decide +kernel
theorem dX12_lay_196 : decode cX12_lay 196 = .ok (.iload_n 1, 1) := by decide +kernel
theorem dX12_lay_197 : decode cX12_lay 197 = .ok (.iadd, 1) := by decide +kernel
theorem dX12_lay_198 : decode cX12_lay 198 = .ok (.aload_n 0, 1) := by decide +kernel
theorem dX12_lay_199 : decode cX12_lay 199 = .ok (.getfield 31, 3) := by decide +kernel
theorem dX12_lay_202 : decode cX12_lay 202 = .ok (.iload_n 1, 1) := by decide +kernel
theorem dX12_lay_203 : decode cX12_lay 203 = .ok (.iaload, 1) := by decide +kernel
theorem dX12_lay_204 : decode cX12_lay 204 = .ok (.iastore, 1) := by decide +kernel
theorem dX12_lay_205 : decode cX12_lay 205 = .ok (.aload_n 0, 1) := by decide +kernel
theorem dX12_lay_206 : decode cX12_lay 206 = .ok (.getfield 40, 3) := by decide +kernel
theorem dX12_lay_209 : decode cX12_lay 209 = .ok (.iload_n 1, 1) := by decide +kernel
theorem dX12_lay_210 : decode cX12_lay 210 = .ok (.iconst 0, 1) := by decide +kernel
theorem dX12_lay_211 : decode cX12_lay 211 = .ok (.iastore, 1) := by decide +kernel
theorem dX12_lay_212 : decode cX12_lay 212 = .ok (.iinc 1 1, 3) := by decide +kernel
theorem dX12_lay_215 : decode cX12_lay 215 = .ok (.goto (-31), 3) := by decide +kernel
theorem dX12_lay_218 : decode cX12_lay 218 = .ok (.iconst 0, 1) := by decide +kernel
theorem dX12_lay_219 : decode cX12_lay 219 = .ok (.istore_n 1, 1) := by decide +kernel
theorem dX12_lay_220 : decode cX12_lay 220 = .ok (.iload_n 1, 1) := by decide +kernel
theorem dX12_lay_221 : decode cX12_lay 221 = .ok (.bipush 108, 2) := by decide +kernel
theorem dX12_lay_223 : decode cX12_lay 223 = .ok (.if_icmp .ge 24, 3) := by decide +kernel
theorem dX12_lay_226 : decode cX12_lay 226 = .ok (.aload_n 0, 1) := by decide +kernel
theorem dX12_lay_227 : decode cX12_lay 227 = .ok (.getfield 34, 3) := by decide +kernel
theorem dX12_lay_230 : decode cX12_lay 230 = .ok (.bipush 108, 2) := by decide +kernel
theorem dX12_lay_232 : decode cX12_lay 232 = .ok (.iload_n 1, 1) := by decide +kernel
theorem dX12_lay_233 : decode cX12_lay 233 = .ok (.iadd, 1) := by decide +kernel
theorem dX12_lay_234 : decode cX12_lay 234 = .ok (.aload_n 0, 1) := by decide +kernel
theorem dX12_lay_235 : decode cX12_lay 235 = .ok (.getfield 34, 3) := by decide +kernel
theorem dX12_lay_238 : decode cX12_lay 238 = .ok (.iload_n 1, 1) := by decide +kernel
theorem dX12_lay_239 : decode cX12_lay 239 = .ok (.iaload, 1) := by decide +kernel
theorem dX12_lay_240 : decode cX12_lay 240 = .ok (.iastore, 1) := by decide +kernel
theorem dX12_lay_241 : decode cX12_lay 241 = .ok (.iinc 1 1, 3) := by decide +kernel
theorem dX12_lay_244 : decode cX12_lay 244 = .ok (.goto (-24), 3) := by decide +kernel
theorem dX12_lay_247 : decode cX12_lay 247 = .ok (.iconst 0, 1) := by decide +kernel
theorem dX12_lay_248 : decode cX12_lay 248 = .ok (.istore_n 1, 1) := by decide +kernel
theorem dX12_lay_249 : decode cX12_lay 249 = .ok (.iload_n 1, 1) := by decide +kernel
theorem dX12_lay_250 : decode cX12_lay 250 = .ok (.bipush 36, 2) := by decide +kernel
theorem dX12_lay_252 : decode cX12_lay 252 = .ok (.if_icmp .ge 16, 3) := by decide +kernel
theorem dX12_lay_255 : decode cX12_lay 255 = .ok (.aload_n 0, 1) := by decide +kernel
theorem dX12_lay_256 : decode cX12_lay 256 = .ok (.getfield 37, 3) := by decide +kernel
theorem dX12_lay_259 : decode cX12_lay 259 = .ok (.iload_n 1, 1) := by decide +kernel
theorem dX12_lay_260 : decode cX12_lay 260 = .ok (.iconst 0, 1) := by decide +kernel
theorem dX12_lay_261 : decode cX12_lay 261 = .ok (.iastore, 1) := by decide +kernel
theorem dX12_lay_262 : decode cX12_lay 262 = .ok (.iinc 1 1, 3) := by decide +kernel
theorem dX12_lay_265 : decode cX12_lay 265 = .ok (.goto (-16), 3) := by decide +kernel
theorem dX12_lay_268 : decode cX12_lay 268 = .ok (.aload_n 0, 1) := by decide +kernel
theorem dX12_lay_269 : decode cX12_lay 269 = .ok (.getfield 25, 3) := by decide +kernel
theorem dX12_lay_272 : decode cX12_lay 272 = .ok (.iconst 1, 1) := by decide +kernel
theorem dX12_lay_273 : decode cX12_lay 273 = .ok (.iaload, 1) := by decide +kernel
theorem dX12_lay_274 : decode cX12_lay 274 = .ok (.ireturn, 1) := by decide +kernel
theorem fw_X12_37 : fR RX12 37 12 10 := ⟨⟨lwG_4 (i := 74) rfl rfl, by decide, by decide⟩, fun _ _ => rfl, fun r => ⟨r, rfl⟩⟩
theorem fw_X12_40 : fR RX12 40 12 11 := ⟨⟨lwG_4 (i := 75) rfl rfl, by decide, by decide⟩, fun _ _ => rfl, fun r => ⟨r, rfl⟩⟩
section W_X12_lay
variable {p : Program} {l : Launch} {e : Env} {s : State} {m : MethodId} {args : Array Value} {below : List Frame} {meth : Method} {c : Code} {D : va_G} {cy : Nat → ClassId} {G : Nat × Nat} {n0 : Nat} {Qp : Option PV → Mm → Prop}
set_option maxRecDepth 100000 in
set_option maxHeartbeats 4000000 in
theorem f_X12_lay_249 {o0 : Nat} {x1 : Int} {M : Mm} {Q : Int → Mm → Prop} {K249 : Int × Mm → Prop} (C : Cx p s m args meth c cX12_lay 2 RX12 D cy G n0) (hr : meth.sig.returnType = some .int) (h3 : n0 = 243) (hn : M.2.2.2 = n0) (ho0 : o0 < 243 ∧ (SH o0).1 = 12) (hQ : ∀ x M, Q x M → Qp (some (vI x)) M) (hK249 : ∀ (x1 : Int) (M : Mm), K249 (x1, M) → M.2.2.2 = n0 → WW p l e ({ frames := 3, cells := 0, slots := 0, locals := 73 }) s m args below meth c (ZQ below args s D cy G n0 Qp n0) 2 D cy G n0 249 [(0, vR (some o0)), (1, vI x1)] [] M) (h : F_X12_lay_249 o0 Q  K249 x1 M) : WW p l e ({ frames := 3, cells := 0, slots := 0, locals := 73 }) s m args below meth c (ZQ below args s D cy G n0 Qp n0) 2 D cy G n0 249 [(0, vR (some o0)), (1, vI x1)] [] M := by
  unfold F_X12_lay_249 at h
  refine w_iload_n C dX12_lay_249 rfl (mem_k 1 rfl) ?_
  refine w_bipush C dX12_lay_250 (by decide) ?_
  refine w_icmp_ge (tgt := 268) C dX12_lay_252 (by decide) (fun q => ?_) (fun q => ?_)
  · replace h := h.1 q
    refine w_aload_n C dX12_lay_268 rfl (mem_k 0 rfl) ?_
    refine x_getR C dX12_lay_269 fw_X12_25 (isO.n (ci := 12) ⟨rfl, ho0⟩ (hn.trans h3)) (fun r1 er1 => ?_)
    replace h := h r1 er1
    refine w_iconst C dX12_lay_272 ⟨by decide, by decide⟩ ?_
    obtain ⟨o2, g3, h⟩ := h
    refine x_iald C dX12_lay_273 (isA.n g3 (hn.trans h3)) ?_
    exact x_iret C hr dX12_lay_274 hn (hQ _ M h)
  · replace h := h.2 q
    refine w_aload_n C dX12_lay_255 rfl (mem_k 0 rfl) ?_
    refine x_getR C dX12_lay_256 fw_X12_37 (isO.n (ci := 12) ⟨rfl, ho0⟩ (hn.trans h3)) (fun r4 er4 => ?_)
    replace h := h r4 er4
    refine w_iload_n C dX12_lay_259 rfl (mem_k 1 rfl) ?_
    refine w_iconst C dX12_lay_260 ⟨by decide, by decide⟩ ?_
    obtain ⟨o5, g6, h⟩ := h
    refine x_iast C dX12_lay_261 (isA.n g6 (hn.trans h3)) (fun M7 eM7 hn8 => ?_)
    replace h := h M7 eM7
    replace hn8 := hn8.trans hn
    obtain ⟨v9, ev9⟩ : ∃ z : Int, z = x1 + 1 := ⟨_, rfl⟩
    refine x_iinc (L' := [(1, vI v9), (0, vR (some o0))]) C dX12_lay_262 (mem_k 1 rfl) (by decide) h.1 ev9 rfl ?_
    replace h := h.2 v9 ev9
    refine w_goto (tgt := 249) C dX12_lay_265 (by decide) ?_
    refine x_pc (pc2 := 249) rfl ?_
    refine x_pick (L' := [(0, vR (some o0)), (1, vI v9)]) [1, 0] rfl ?_
    exact hK249 v9 M7 h hn8
set_option maxRecDepth 100000 in
set_option maxHeartbeats 4000000 in
theorem k_X12_lay_249 {o0 : Nat} {x1 : Int} {M : Mm} {Q : Int → Mm → Prop} (C : Cx p s m args meth c cX12_lay 2 RX12 D cy G n0) (hr : meth.sig.returnType = some .int) (h3 : n0 = 243) (hn : M.2.2.2 = n0) (ho0 : o0 < 243 ∧ (SH o0).1 = 12) (hQ : ∀ x M, Q x M → Qp (some (vI x)) M) (h : P_X12_lay_249 o0 x1 M Q ) : WW p l e ({ frames := 3, cells := 0, slots := 0, locals := 73 }) s m args below meth c (ZQ below args s D cy G n0 Qp n0) 2 D cy G n0 249 [(0, vR (some o0)), (1, vI x1)] [] M := by
  refine lpW_sound (P := fun y : Int × Mm => y.2.2.2.2 = n0 → WW p l e ({ frames := 3, cells := 0, slots := 0, locals := 73 }) s m args below meth c (ZQ below args s D cy G n0 Qp n0) 2 D cy G n0 249 [(0, vR (some o0)), (1, vI y.1)] [] y.2) ?_ h hn
  intro K y hK hF
  obtain ⟨x1, M⟩ := y
  intro hn
  exact f_X12_lay_249 C hr h3 hn ho0 hQ  (fun x1 M hk => hK (x1, M) hk) hF
set_option maxRecDepth 100000 in
set_option maxHeartbeats 4000000 in
theorem f_X12_lay_220 {o0 : Nat} {x1 : Int} {M : Mm} {Q : Int → Mm → Prop} {K220 : Int × Mm → Prop} (C : Cx p s m args meth c cX12_lay 2 RX12 D cy G n0) (hr : meth.sig.returnType = some .int) (h3 : n0 = 243) (hn : M.2.2.2 = n0) (ho0 : o0 < 243 ∧ (SH o0).1 = 12) (hQ : ∀ x M, Q x M → Qp (some (vI x)) M) (hK220 : ∀ (x1 : Int) (M : Mm), K220 (x1, M) → M.2.2.2 = n0 → WW p l e ({ frames := 3, cells := 0, slots := 0, locals := 73 }) s m args below meth c (ZQ below args s D cy G n0 Qp n0) 2 D cy G n0 220 [(0, vR (some o0)), (1, vI x1)] [] M) (h : F_X12_lay_220 o0 Q  K220 x1 M) : WW p l e ({ frames := 3, cells := 0, slots := 0, locals := 73 }) s m args below meth c (ZQ below args s D cy G n0 Qp n0) 2 D cy G n0 220 [(0, vR (some o0)), (1, vI x1)] [] M := by
  unfold F_X12_lay_220 at h
  refine w_iload_n C dX12_lay_220 rfl (mem_k 1 rfl) ?_
  refine w_bipush C dX12_lay_221 (by decide) ?_
  refine w_icmp_ge (tgt := 247) C dX12_lay_223 (by decide) (fun q => ?_) (fun q => ?_)
  · replace h := h.1 q
    refine w_iconst C dX12_lay_247 ⟨by decide, by decide⟩ ?_
    refine x_istore_n (L' := [(1, vI 0), (0, vR (some o0))]) C dX12_lay_248 rfl (by decide) rfl ?_
    refine x_pc (pc2 := 249) rfl ?_
    refine x_pick (L' := [(0, vR (some o0)), (1, vI 0)]) [1, 0] rfl ?_
    exact k_X12_lay_249 C hr h3 hn ho0 hQ  h
  · replace h := h.2 q
    refine w_aload_n C dX12_lay_226 rfl (mem_k 0 rfl) ?_
    refine x_getR C dX12_lay_227 fw_X12_34 (isO.n (ci := 12) ⟨rfl, ho0⟩ (hn.trans h3)) (fun r10 er10 => ?_)
    replace h := h r10 er10
    refine w_bipush C dX12_lay_230 (by decide) ?_
    refine w_iload_n C dX12_lay_232 rfl (mem_k 1 rfl) ?_
    refine w_iadd C dX12_lay_233 h.1 ?_
    replace h := h.2
    refine w_aload_n C dX12_lay_234 rfl (mem_k 0 rfl) ?_
    refine x_getR C dX12_lay_235 fw_X12_34 (isO.n (ci := 12) ⟨rfl, ho0⟩ (hn.trans h3)) (fun r11 er11 => ?_)
    replace h := h r11 er11
    refine w_iload_n C dX12_lay_238 rfl (mem_k 1 rfl) ?_
    obtain ⟨o12, g13, h⟩ := h
    refine x_iald C dX12_lay_239 (isA.n g13 (hn.trans h3)) ?_
    obtain ⟨o14, g15, h⟩ := h
    refine x_iast C dX12_lay_240 (isA.n g15 (hn.trans h3)) (fun M16 eM16 hn17 => ?_)
    replace h := h M16 eM16
    replace hn17 := hn17.trans hn
    obtain ⟨v18, ev18⟩ : ∃ z : Int, z = x1 + 1 := ⟨_, rfl⟩
    refine x_iinc (L' := [(1, vI v18), (0, vR (some o0))]) C dX12_lay_241 (mem_k 1 rfl) (by decide) h.1 ev18 rfl ?_
    replace h := h.2 v18 ev18
    refine w_goto (tgt := 220) C dX12_lay_244 (by decide) ?_
    refine x_pc (pc2 := 220) rfl ?_
    refine x_pick (L' := [(0, vR (some o0)), (1, vI v18)]) [1, 0] rfl ?_
    exact hK220 v18 M16 h hn17
set_option maxRecDepth 100000 in
set_option maxHeartbeats 4000000 in
theorem k_X12_lay_220 {o0 : Nat} {x1 : Int} {M : Mm} {Q : Int → Mm → Prop} (C : Cx p s m args meth c cX12_lay 2 RX12 D cy G n0) (hr : meth.sig.returnType = some .int) (h3 : n0 = 243) (hn : M.2.2.2 = n0) (ho0 : o0 < 243 ∧ (SH o0).1 = 12) (hQ : ∀ x M, Q x M → Qp (some (vI x)) M) (h : P_X12_lay_220 o0 x1 M Q ) : WW p l e ({ frames := 3, cells := 0, slots := 0, locals := 73 }) s m args below meth c (ZQ below args s D cy G n0 Qp n0) 2 D cy G n0 220 [(0, vR (some o0)), (1, vI x1)] [] M := by
  refine lpW_sound (P := fun y : Int × Mm => y.2.2.2.2 = n0 → WW p l e ({ frames := 3, cells := 0, slots := 0, locals := 73 }) s m args below meth c (ZQ below args s D cy G n0 Qp n0) 2 D cy G n0 220 [(0, vR (some o0)), (1, vI y.1)] [] y.2) ?_ h hn
  intro K y hK hF
  obtain ⟨x1, M⟩ := y
  intro hn
  exact f_X12_lay_220 C hr h3 hn ho0 hQ  (fun x1 M hk => hK (x1, M) hk) hF
set_option maxRecDepth 100000 in
set_option maxHeartbeats 4000000 in
theorem f_X12_lay_184 {o0 : Nat} {x1 : Int} {M : Mm} {Q : Int → Mm → Prop} {K184 : Int × Mm → Prop} (C : Cx p s m args meth c cX12_lay 2 RX12 D cy G n0) (hr : meth.sig.returnType = some .int) (h3 : n0 = 243) (hn : M.2.2.2 = n0) (ho0 : o0 < 243 ∧ (SH o0).1 = 12) (hQ : ∀ x M, Q x M → Qp (some (vI x)) M) (hK184 : ∀ (x1 : Int) (M : Mm), K184 (x1, M) → M.2.2.2 = n0 → WW p l e ({ frames := 3, cells := 0, slots := 0, locals := 73 }) s m args below meth c (ZQ below args s D cy G n0 Qp n0) 2 D cy G n0 184 [(0, vR (some o0)), (1, vI x1)] [] M) (h : F_X12_lay_184 o0 Q  K184 x1 M) : WW p l e ({ frames := 3, cells := 0, slots := 0, locals := 73 }) s m args below meth c (ZQ below args s D cy G n0 Qp n0) 2 D cy G n0 184 [(0, vR (some o0)), (1, vI x1)] [] M := by
  unfold F_X12_lay_184 at h
  refine w_iload_n C dX12_lay_184 rfl (mem_k 1 rfl) ?_
  refine w_bipush C dX12_lay_185 (by decide) ?_
  refine w_icmp_ge (tgt := 218) C dX12_lay_187 (by decide) (fun q => ?_) (fun q => ?_)
  · replace h := h.1 q
    refine w_iconst C dX12_lay_218 ⟨by decide, by decide⟩ ?_
    refine x_istore_n (L' := [(1, vI 0), (0, vR (some o0))]) C dX12_lay_219 rfl (by decide) rfl ?_
    refine x_pc (pc2 := 220) rfl ?_
    refine x_pick (L' := [(0, vR (some o0)), (1, vI 0)]) [1, 0] rfl ?_
    exact k_X12_lay_220 C hr h3 hn ho0 hQ  h
  · replace h := h.2 q
    refine w_aload_n C dX12_lay_190 rfl (mem_k 0 rfl) ?_
    refine x_getR C dX12_lay_191 fw_X12_31 (isO.n (ci := 12) ⟨rfl, ho0⟩ (hn.trans h3)) (fun r19 er19 => ?_)
    replace h := h r19 er19
    refine w_bipush C dX12_lay_194 (by decide) ?_
    refine w_iload_n C dX12_lay_196 rfl (mem_k 1 rfl) ?_
    refine w_iadd C dX12_lay_197 h.1 ?_
    replace h := h.2
    refine w_aload_n C dX12_lay_198 rfl (mem_k 0 rfl) ?_
    refine x_getR C dX12_lay_199 fw_X12_31 (isO.n (ci := 12) ⟨rfl, ho0⟩ (hn.trans h3)) (fun r20 er20 => ?_)
    replace h := h r20 er20
    refine w_iload_n C dX12_lay_202 rfl (mem_k 1 rfl) ?_
    obtain ⟨o21, g22, h⟩ := h
    refine x_iald C dX12_lay_203 (isA.n g22 (hn.trans h3)) ?_
    obtain ⟨o23, g24, h⟩ := h
    refine x_iast C dX12_lay_204 (isA.n g24 (hn.trans h3)) (fun M25 eM25 hn26 => ?_)
    replace h := h M25 eM25
    replace hn26 := hn26.trans hn
    refine w_aload_n C dX12_lay_205 rfl (mem_k 0 rfl) ?_
    refine x_getR C dX12_lay_206 fw_X12_40 (isO.n (ci := 12) ⟨rfl, ho0⟩ (hn26.trans h3)) (fun r27 er27 => ?_)
    replace h := h r27 er27
    refine w_iload_n C dX12_lay_209 rfl (mem_k 1 rfl) ?_
    refine w_iconst C dX12_lay_210 ⟨by decide, by decide⟩ ?_
    obtain ⟨o28, g29, h⟩ := h
    refine x_iast C dX12_lay_211 (isA.n g29 (hn26.trans h3)) (fun M30 eM30 hn31 => ?_)
    replace h := h M30 eM30
    replace hn31 := hn31.trans hn26
    obtain ⟨v32, ev32⟩ : ∃ z : Int, z = x1 + 1 := ⟨_, rfl⟩
    refine x_iinc (L' := [(1, vI v32), (0, vR (some o0))]) C dX12_lay_212 (mem_k 1 rfl) (by decide) h.1 ev32 rfl ?_
    replace h := h.2 v32 ev32
    refine w_goto (tgt := 184) C dX12_lay_215 (by decide) ?_
    refine x_pc (pc2 := 184) rfl ?_
    refine x_pick (L' := [(0, vR (some o0)), (1, vI v32)]) [1, 0] rfl ?_
    exact hK184 v32 M30 h hn31
set_option maxRecDepth 100000 in
set_option maxHeartbeats 4000000 in
theorem k_X12_lay_184 {o0 : Nat} {x1 : Int} {M : Mm} {Q : Int → Mm → Prop} (C : Cx p s m args meth c cX12_lay 2 RX12 D cy G n0) (hr : meth.sig.returnType = some .int) (h3 : n0 = 243) (hn : M.2.2.2 = n0) (ho0 : o0 < 243 ∧ (SH o0).1 = 12) (hQ : ∀ x M, Q x M → Qp (some (vI x)) M) (h : P_X12_lay_184 o0 x1 M Q ) : WW p l e ({ frames := 3, cells := 0, slots := 0, locals := 73 }) s m args below meth c (ZQ below args s D cy G n0 Qp n0) 2 D cy G n0 184 [(0, vR (some o0)), (1, vI x1)] [] M := by
  refine lpW_sound (P := fun y : Int × Mm => y.2.2.2.2 = n0 → WW p l e ({ frames := 3, cells := 0, slots := 0, locals := 73 }) s m args below meth c (ZQ below args s D cy G n0 Qp n0) 2 D cy G n0 184 [(0, vR (some o0)), (1, vI y.1)] [] y.2) ?_ h hn
  intro K y hK hF
  obtain ⟨x1, M⟩ := y
  intro hn
  exact f_X12_lay_184 C hr h3 hn ho0 hQ  (fun x1 M hk => hK (x1, M) hk) hF
set_option maxRecDepth 100000 in
set_option maxHeartbeats 4000000 in
theorem f_X12_lay_155 {o0 : Nat} {x1 : Int} {M : Mm} {Q : Int → Mm → Prop} {K155 : Int × Mm → Prop} (C : Cx p s m args meth c cX12_lay 2 RX12 D cy G n0) (hr : meth.sig.returnType = some .int) (h3 : n0 = 243) (hn : M.2.2.2 = n0) (ho0 : o0 < 243 ∧ (SH o0).1 = 12) (hQ : ∀ x M, Q x M → Qp (some (vI x)) M) (hK155 : ∀ (x1 : Int) (M : Mm), K155 (x1, M) → M.2.2.2 = n0 → WW p l e ({ frames := 3, cells := 0, slots := 0, locals := 73 }) s m args below meth c (ZQ below args s D cy G n0 Qp n0) 2 D cy G n0 155 [(0, vR (some o0)), (1, vI x1)] [] M) (h : F_X12_lay_155 o0 Q  K155 x1 M) : WW p l e ({ frames := 3, cells := 0, slots := 0, locals := 73 }) s m args below meth c (ZQ below args s D cy G n0 Qp n0) 2 D cy G n0 155 [(0, vR (some o0)), (1, vI x1)] [] M := by
  unfold F_X12_lay_155 at h
  refine w_iload_n C dX12_lay_155 rfl (mem_k 1 rfl) ?_
  refine w_bipush C dX12_lay_156 (by decide) ?_
  refine w_icmp_ge (tgt := 182) C dX12_lay_158 (by decide) (fun q => ?_) (fun q => ?_)
  · replace h := h.1 q
    refine w_iconst C dX12_lay_182 ⟨by decide, by decide⟩ ?_
    refine x_istore_n (L' := [(1, vI 0), (0, vR (some o0))]) C dX12_lay_183 rfl (by decide) rfl ?_
    refine x_pc (pc2 := 184) rfl ?_
    refine x_pick (L' := [(0, vR (some o0)), (1, vI 0)]) [1, 0] rfl ?_
    exact k_X12_lay_184 C hr h3 hn ho0 hQ  h
  · replace h := h.2 q
    refine w_aload_n C dX12_lay_161 rfl (mem_k 0 rfl) ?_
    refine x_getR C dX12_lay_162 fw_X12_28 (isO.n (ci := 12) ⟨rfl, ho0⟩ (hn.trans h3)) (fun r33 er33 => ?_)
    replace h := h r33 er33
    refine w_bipush C dX12_lay_165 (by decide) ?_
    refine w_iload_n C dX12_lay_167 rfl (mem_k 1 rfl) ?_
    refine w_iadd C dX12_lay_168 h.1 ?_
    replace h := h.2
    refine w_aload_n C dX12_lay_169 rfl (mem_k 0 rfl) ?_
    refine x_getR C dX12_lay_170 fw_X12_28 (isO.n (ci := 12) ⟨rfl, ho0⟩ (hn.trans h3)) (fun r34 er34 => ?_)
    replace h := h r34 er34
    refine w_iload_n C dX12_lay_173 rfl (mem_k 1 rfl) ?_
    obtain ⟨o35, g36, h⟩ := h
    refine x_iald C dX12_lay_174 (isA.n g36 (hn.trans h3)) ?_
    obtain ⟨o37, g38, h⟩ := h
    refine x_iast C dX12_lay_175 (isA.n g38 (hn.trans h3)) (fun M39 eM39 hn40 => ?_)
    replace h := h M39 eM39
    replace hn40 := hn40.trans hn
    obtain ⟨v41, ev41⟩ : ∃ z : Int, z = x1 + 1 := ⟨_, rfl⟩
    refine x_iinc (L' := [(1, vI v41), (0, vR (some o0))]) C dX12_lay_176 (mem_k 1 rfl) (by decide) h.1 ev41 rfl ?_
    replace h := h.2 v41 ev41
    refine w_goto (tgt := 155) C dX12_lay_179 (by decide) ?_
    refine x_pc (pc2 := 155) rfl ?_
    refine x_pick (L' := [(0, vR (some o0)), (1, vI v41)]) [1, 0] rfl ?_
    exact hK155 v41 M39 h hn40
set_option maxRecDepth 100000 in
set_option maxHeartbeats 4000000 in
theorem k_X12_lay_155 {o0 : Nat} {x1 : Int} {M : Mm} {Q : Int → Mm → Prop} (C : Cx p s m args meth c cX12_lay 2 RX12 D cy G n0) (hr : meth.sig.returnType = some .int) (h3 : n0 = 243) (hn : M.2.2.2 = n0) (ho0 : o0 < 243 ∧ (SH o0).1 = 12) (hQ : ∀ x M, Q x M → Qp (some (vI x)) M) (h : P_X12_lay_155 o0 x1 M Q ) : WW p l e ({ frames := 3, cells := 0, slots := 0, locals := 73 }) s m args below meth c (ZQ below args s D cy G n0 Qp n0) 2 D cy G n0 155 [(0, vR (some o0)), (1, vI x1)] [] M := by
  refine lpW_sound (P := fun y : Int × Mm => y.2.2.2.2 = n0 → WW p l e ({ frames := 3, cells := 0, slots := 0, locals := 73 }) s m args below meth c (ZQ below args s D cy G n0 Qp n0) 2 D cy G n0 155 [(0, vR (some o0)), (1, vI y.1)] [] y.2) ?_ h hn
  intro K y hK hF
  obtain ⟨x1, M⟩ := y
  intro hn
  exact f_X12_lay_155 C hr h3 hn ho0 hQ  (fun x1 M hk => hK (x1, M) hk) hF
set_option maxRecDepth 100000 in
set_option maxHeartbeats 4000000 in
theorem f_X12_lay_126 {o0 : Nat} {x1 : Int} {M : Mm} {Q : Int → Mm → Prop} {K126 : Int × Mm → Prop} (C : Cx p s m args meth c cX12_lay 2 RX12 D cy G n0) (hr : meth.sig.returnType = some .int) (h3 : n0 = 243) (hn : M.2.2.2 = n0) (ho0 : o0 < 243 ∧ (SH o0).1 = 12) (hQ : ∀ x M, Q x M → Qp (some (vI x)) M) (hK126 : ∀ (x1 : Int) (M : Mm), K126 (x1, M) → M.2.2.2 = n0 → WW p l e ({ frames := 3, cells := 0, slots := 0, locals := 73 }) s m args below meth c (ZQ below args s D cy G n0 Qp n0) 2 D cy G n0 126 [(0, vR (some o0)), (1, vI x1)] [] M) (h : F_X12_lay_126 o0 Q  K126 x1 M) : WW p l e ({ frames := 3, cells := 0, slots := 0, locals := 73 }) s m args below meth c (ZQ below args s D cy G n0 Qp n0) 2 D cy G n0 126 [(0, vR (some o0)), (1, vI x1)] [] M := by
  unfold F_X12_lay_126 at h
  refine w_iload_n C dX12_lay_126 rfl (mem_k 1 rfl) ?_
  refine w_bipush C dX12_lay_127 (by decide) ?_
  refine w_icmp_ge (tgt := 153) C dX12_lay_129 (by decide) (fun q => ?_) (fun q => ?_)
  · replace h := h.1 q
    refine w_iconst C dX12_lay_153 ⟨by decide, by decide⟩ ?_
    refine x_istore_n (L' := [(1, vI 0), (0, vR (some o0))]) C dX12_lay_154 rfl (by decide) rfl ?_
    refine x_pc (pc2 := 155) rfl ?_
    refine x_pick (L' := [(0, vR (some o0)), (1, vI 0)]) [1, 0] rfl ?_
    exact k_X12_lay_155 C hr h3 hn ho0 hQ  h
  · replace h := h.2 q
    refine w_aload_n C dX12_lay_132 rfl (mem_k 0 rfl) ?_
    refine x_getR C dX12_lay_133 fw_X12_22 (isO.n (ci := 12) ⟨rfl, ho0⟩ (hn.trans h3)) (fun r42 er42 => ?_)
    replace h := h r42 er42
    refine w_bipush C dX12_lay_136 (by decide) ?_
    refine w_iload_n C dX12_lay_138 rfl (mem_k 1 rfl) ?_
    refine w_iadd C dX12_lay_139 h.1 ?_
    replace h := h.2
    refine w_aload_n C dX12_lay_140 rfl (mem_k 0 rfl) ?_
    refine x_getR C dX12_lay_141 fw_X12_22 (isO.n (ci := 12) ⟨rfl, ho0⟩ (hn.trans h3)) (fun r43 er43 => ?_)
    replace h := h r43 er43
    refine w_iload_n C dX12_lay_144 rfl (mem_k 1 rfl) ?_
    obtain ⟨o44, g45, h⟩ := h
    refine x_iald C dX12_lay_145 (isA.n g45 (hn.trans h3)) ?_
    obtain ⟨o46, g47, h⟩ := h
    refine x_iast C dX12_lay_146 (isA.n g47 (hn.trans h3)) (fun M48 eM48 hn49 => ?_)
    replace h := h M48 eM48
    replace hn49 := hn49.trans hn
    obtain ⟨v50, ev50⟩ : ∃ z : Int, z = x1 + 1 := ⟨_, rfl⟩
    refine x_iinc (L' := [(1, vI v50), (0, vR (some o0))]) C dX12_lay_147 (mem_k 1 rfl) (by decide) h.1 ev50 rfl ?_
    replace h := h.2 v50 ev50
    refine w_goto (tgt := 126) C dX12_lay_150 (by decide) ?_
    refine x_pc (pc2 := 126) rfl ?_
    refine x_pick (L' := [(0, vR (some o0)), (1, vI v50)]) [1, 0] rfl ?_
    exact hK126 v50 M48 h hn49
set_option maxRecDepth 100000 in
set_option maxHeartbeats 4000000 in
theorem k_X12_lay_126 {o0 : Nat} {x1 : Int} {M : Mm} {Q : Int → Mm → Prop} (C : Cx p s m args meth c cX12_lay 2 RX12 D cy G n0) (hr : meth.sig.returnType = some .int) (h3 : n0 = 243) (hn : M.2.2.2 = n0) (ho0 : o0 < 243 ∧ (SH o0).1 = 12) (hQ : ∀ x M, Q x M → Qp (some (vI x)) M) (h : P_X12_lay_126 o0 x1 M Q ) : WW p l e ({ frames := 3, cells := 0, slots := 0, locals := 73 }) s m args below meth c (ZQ below args s D cy G n0 Qp n0) 2 D cy G n0 126 [(0, vR (some o0)), (1, vI x1)] [] M := by
  refine lpW_sound (P := fun y : Int × Mm => y.2.2.2.2 = n0 → WW p l e ({ frames := 3, cells := 0, slots := 0, locals := 73 }) s m args below meth c (ZQ below args s D cy G n0 Qp n0) 2 D cy G n0 126 [(0, vR (some o0)), (1, vI y.1)] [] y.2) ?_ h hn
  intro K y hK hF
  obtain ⟨x1, M⟩ := y
  intro hn
  exact f_X12_lay_126 C hr h3 hn ho0 hQ  (fun x1 M hk => hK (x1, M) hk) hF
set_option maxRecDepth 100000 in
set_option maxHeartbeats 4000000 in
theorem f_X12_lay_97 {o0 : Nat} {x1 : Int} {M : Mm} {Q : Int → Mm → Prop} {K97 : Int × Mm → Prop} (C : Cx p s m args meth c cX12_lay 2 RX12 D cy G n0) (hr : meth.sig.returnType = some .int) (h3 : n0 = 243) (hn : M.2.2.2 = n0) (ho0 : o0 < 243 ∧ (SH o0).1 = 12) (hQ : ∀ x M, Q x M → Qp (some (vI x)) M) (hK97 : ∀ (x1 : Int) (M : Mm), K97 (x1, M) → M.2.2.2 = n0 → WW p l e ({ frames := 3, cells := 0, slots := 0, locals := 73 }) s m args below meth c (ZQ below args s D cy G n0 Qp n0) 2 D cy G n0 97 [(0, vR (some o0)), (1, vI x1)] [] M) (h : F_X12_lay_97 o0 Q  K97 x1 M) : WW p l e ({ frames := 3, cells := 0, slots := 0, locals := 73 }) s m args below meth c (ZQ below args s D cy G n0 Qp n0) 2 D cy G n0 97 [(0, vR (some o0)), (1, vI x1)] [] M := by
  unfold F_X12_lay_97 at h
  refine w_iload_n C dX12_lay_97 rfl (mem_k 1 rfl) ?_
  refine w_bipush C dX12_lay_98 (by decide) ?_
  refine w_icmp_ge (tgt := 124) C dX12_lay_100 (by decide) (fun q => ?_) (fun q => ?_)
  · replace h := h.1 q
    refine w_iconst C dX12_lay_124 ⟨by decide, by decide⟩ ?_
    refine x_istore_n (L' := [(1, vI 0), (0, vR (some o0))]) C dX12_lay_125 rfl (by decide) rfl ?_
    refine x_pc (pc2 := 126) rfl ?_
    refine x_pick (L' := [(0, vR (some o0)), (1, vI 0)]) [1, 0] rfl ?_
    exact k_X12_lay_126 C hr h3 hn ho0 hQ  h
  · replace h := h.2 q
    refine w_aload_n C dX12_lay_103 rfl (mem_k 0 rfl) ?_
    refine x_getR C dX12_lay_104 fw_X12_19 (isO.n (ci := 12) ⟨rfl, ho0⟩ (hn.trans h3)) (fun r51 er51 => ?_)
    replace h := h r51 er51
    refine w_bipush C dX12_lay_107 (by decide) ?_
    refine w_iload_n C dX12_lay_109 rfl (mem_k 1 rfl) ?_
    refine w_iadd C dX12_lay_110 h.1 ?_
    replace h := h.2
    refine w_aload_n C dX12_lay_111 rfl (mem_k 0 rfl) ?_
    refine x_getR C dX12_lay_112 fw_X12_19 (isO.n (ci := 12) ⟨rfl, ho0⟩ (hn.trans h3)) (fun r52 er52 => ?_)
    replace h := h r52 er52
    refine w_iload_n C dX12_lay_115 rfl (mem_k 1 rfl) ?_
    obtain ⟨o53, g54, h⟩ := h
    refine x_iald C dX12_lay_116 (isA.n g54 (hn.trans h3)) ?_
    obtain ⟨o55, g56, h⟩ := h
    refine x_iast C dX12_lay_117 (isA.n g56 (hn.trans h3)) (fun M57 eM57 hn58 => ?_)
    replace h := h M57 eM57
    replace hn58 := hn58.trans hn
    obtain ⟨v59, ev59⟩ : ∃ z : Int, z = x1 + 1 := ⟨_, rfl⟩
    refine x_iinc (L' := [(1, vI v59), (0, vR (some o0))]) C dX12_lay_118 (mem_k 1 rfl) (by decide) h.1 ev59 rfl ?_
    replace h := h.2 v59 ev59
    refine w_goto (tgt := 97) C dX12_lay_121 (by decide) ?_
    refine x_pc (pc2 := 97) rfl ?_
    refine x_pick (L' := [(0, vR (some o0)), (1, vI v59)]) [1, 0] rfl ?_
    exact hK97 v59 M57 h hn58
set_option maxRecDepth 100000 in
set_option maxHeartbeats 4000000 in
theorem k_X12_lay_97 {o0 : Nat} {x1 : Int} {M : Mm} {Q : Int → Mm → Prop} (C : Cx p s m args meth c cX12_lay 2 RX12 D cy G n0) (hr : meth.sig.returnType = some .int) (h3 : n0 = 243) (hn : M.2.2.2 = n0) (ho0 : o0 < 243 ∧ (SH o0).1 = 12) (hQ : ∀ x M, Q x M → Qp (some (vI x)) M) (h : P_X12_lay_97 o0 x1 M Q ) : WW p l e ({ frames := 3, cells := 0, slots := 0, locals := 73 }) s m args below meth c (ZQ below args s D cy G n0 Qp n0) 2 D cy G n0 97 [(0, vR (some o0)), (1, vI x1)] [] M := by
  refine lpW_sound (P := fun y : Int × Mm => y.2.2.2.2 = n0 → WW p l e ({ frames := 3, cells := 0, slots := 0, locals := 73 }) s m args below meth c (ZQ below args s D cy G n0 Qp n0) 2 D cy G n0 97 [(0, vR (some o0)), (1, vI y.1)] [] y.2) ?_ h hn
  intro K y hK hF
  obtain ⟨x1, M⟩ := y
  intro hn
  exact f_X12_lay_97 C hr h3 hn ho0 hQ  (fun x1 M hk => hK (x1, M) hk) hF
set_option maxRecDepth 100000 in
set_option maxHeartbeats 4000000 in
theorem f_X12_lay_68 {o0 : Nat} {x1 : Int} {M : Mm} {Q : Int → Mm → Prop} {K68 : Int × Mm → Prop} (C : Cx p s m args meth c cX12_lay 2 RX12 D cy G n0) (hr : meth.sig.returnType = some .int) (h3 : n0 = 243) (hn : M.2.2.2 = n0) (ho0 : o0 < 243 ∧ (SH o0).1 = 12) (hQ : ∀ x M, Q x M → Qp (some (vI x)) M) (hK68 : ∀ (x1 : Int) (M : Mm), K68 (x1, M) → M.2.2.2 = n0 → WW p l e ({ frames := 3, cells := 0, slots := 0, locals := 73 }) s m args below meth c (ZQ below args s D cy G n0 Qp n0) 2 D cy G n0 68 [(0, vR (some o0)), (1, vI x1)] [] M) (h : F_X12_lay_68 o0 Q  K68 x1 M) : WW p l e ({ frames := 3, cells := 0, slots := 0, locals := 73 }) s m args below meth c (ZQ below args s D cy G n0 Qp n0) 2 D cy G n0 68 [(0, vR (some o0)), (1, vI x1)] [] M := by
  unfold F_X12_lay_68 at h
  refine w_iload_n C dX12_lay_68 rfl (mem_k 1 rfl) ?_
  refine w_bipush C dX12_lay_69 (by decide) ?_
  refine w_icmp_ge (tgt := 95) C dX12_lay_71 (by decide) (fun q => ?_) (fun q => ?_)
  · replace h := h.1 q
    refine w_iconst C dX12_lay_95 ⟨by decide, by decide⟩ ?_
    refine x_istore_n (L' := [(1, vI 0), (0, vR (some o0))]) C dX12_lay_96 rfl (by decide) rfl ?_
    refine x_pc (pc2 := 97) rfl ?_
    refine x_pick (L' := [(0, vR (some o0)), (1, vI 0)]) [1, 0] rfl ?_
    exact k_X12_lay_97 C hr h3 hn ho0 hQ  h
  · replace h := h.2 q
    refine w_aload_n C dX12_lay_74 rfl (mem_k 0 rfl) ?_
    refine x_getR C dX12_lay_75 fw_X12_16 (isO.n (ci := 12) ⟨rfl, ho0⟩ (hn.trans h3)) (fun r60 er60 => ?_)
    replace h := h r60 er60
    refine w_bipush C dX12_lay_78 (by decide) ?_
    refine w_iload_n C dX12_lay_80 rfl (mem_k 1 rfl) ?_
    refine w_iadd C dX12_lay_81 h.1 ?_
    replace h := h.2
    refine w_aload_n C dX12_lay_82 rfl (mem_k 0 rfl) ?_
    refine x_getR C dX12_lay_83 fw_X12_16 (isO.n (ci := 12) ⟨rfl, ho0⟩ (hn.trans h3)) (fun r61 er61 => ?_)
    replace h := h r61 er61
    refine w_iload_n C dX12_lay_86 rfl (mem_k 1 rfl) ?_
    obtain ⟨o62, g63, h⟩ := h
    refine x_iald C dX12_lay_87 (isA.n g63 (hn.trans h3)) ?_
    obtain ⟨o64, g65, h⟩ := h
    refine x_iast C dX12_lay_88 (isA.n g65 (hn.trans h3)) (fun M66 eM66 hn67 => ?_)
    replace h := h M66 eM66
    replace hn67 := hn67.trans hn
    obtain ⟨v68, ev68⟩ : ∃ z : Int, z = x1 + 1 := ⟨_, rfl⟩
    refine x_iinc (L' := [(1, vI v68), (0, vR (some o0))]) C dX12_lay_89 (mem_k 1 rfl) (by decide) h.1 ev68 rfl ?_
    replace h := h.2 v68 ev68
    refine w_goto (tgt := 68) C dX12_lay_92 (by decide) ?_
    refine x_pc (pc2 := 68) rfl ?_
    refine x_pick (L' := [(0, vR (some o0)), (1, vI v68)]) [1, 0] rfl ?_
    exact hK68 v68 M66 h hn67
set_option maxRecDepth 100000 in
set_option maxHeartbeats 4000000 in
theorem k_X12_lay_68 {o0 : Nat} {x1 : Int} {M : Mm} {Q : Int → Mm → Prop} (C : Cx p s m args meth c cX12_lay 2 RX12 D cy G n0) (hr : meth.sig.returnType = some .int) (h3 : n0 = 243) (hn : M.2.2.2 = n0) (ho0 : o0 < 243 ∧ (SH o0).1 = 12) (hQ : ∀ x M, Q x M → Qp (some (vI x)) M) (h : P_X12_lay_68 o0 x1 M Q ) : WW p l e ({ frames := 3, cells := 0, slots := 0, locals := 73 }) s m args below meth c (ZQ below args s D cy G n0 Qp n0) 2 D cy G n0 68 [(0, vR (some o0)), (1, vI x1)] [] M := by
  refine lpW_sound (P := fun y : Int × Mm => y.2.2.2.2 = n0 → WW p l e ({ frames := 3, cells := 0, slots := 0, locals := 73 }) s m args below meth c (ZQ below args s D cy G n0 Qp n0) 2 D cy G n0 68 [(0, vR (some o0)), (1, vI y.1)] [] y.2) ?_ h hn
  intro K y hK hF
  obtain ⟨x1, M⟩ := y
  intro hn
  exact f_X12_lay_68 C hr h3 hn ho0 hQ  (fun x1 M hk => hK (x1, M) hk) hF
set_option maxRecDepth 100000 in
set_option maxHeartbeats 4000000 in
theorem f_X12_lay_14 {o0 : Nat} {x1 : Int} {M : Mm} {Q : Int → Mm → Prop} {K14 : Int → Prop} (C : Cx p s m args meth c cX12_lay 2 RX12 D cy G n0) (hr : meth.sig.returnType = some .int) (h3 : n0 = 243) (hn : M.2.2.2 = n0) (ho0 : o0 < 243 ∧ (SH o0).1 = 12) (hQ : ∀ x M, Q x M → Qp (some (vI x)) M) (hK14 : ∀ (x1 : Int), K14 (x1) → WW p l e ({ frames := 3, cells := 0, slots := 0, locals := 73 }) s m args below meth c (ZQ below args s D cy G n0 Qp n0) 2 D cy G n0 14 [(0, vR (some o0)), (1, vI x1)] [] M) (h : F_X12_lay_14 o0 M Q  K14 x1) : WW p l e ({ frames := 3, cells := 0, slots := 0, locals := 73 }) s m args below meth c (ZQ below args s D cy G n0 Qp n0) 2 D cy G n0 14 [(0, vR (some o0)), (1, vI x1)] [] M := by
  unfold F_X12_lay_14 at h
  refine w_iload_n C dX12_lay_14 rfl (mem_k 1 rfl) ?_
  refine w_aload_n C dX12_lay_15 rfl (mem_k 0 rfl) ?_
  refine x_getR C dX12_lay_16 fw_X12_25 (isO.n (ci := 12) ⟨rfl, ho0⟩ (hn.trans h3)) (fun r69 er69 => ?_)
  replace h := h r69 er69
  refine w_iconst C dX12_lay_19 ⟨by decide, by decide⟩ ?_
  obtain ⟨o70, g71, h⟩ := h
  refine x_iald C dX12_lay_20 (isA.n g71 (hn.trans h3)) ?_
  refine w_icmp_ge (tgt := 42) C dX12_lay_21 (by decide) (fun q => ?_) (fun q => ?_)
  · replace h := h.1 q
    refine w_aload_n C dX12_lay_42 rfl (mem_k 0 rfl) ?_
    refine x_getR C dX12_lay_43 fw_X12_13 (isO.n (ci := 12) ⟨rfl, ho0⟩ (hn.trans h3)) (fun r72 er72 => ?_)
    replace h := h r72 er72
    refine w_iconst C dX12_lay_46 ⟨by decide, by decide⟩ ?_
    refine w_aload_n C dX12_lay_47 rfl (mem_k 0 rfl) ?_
    refine x_getR C dX12_lay_48 fw_X12_13 (isO.n (ci := 12) ⟨rfl, ho0⟩ (hn.trans h3)) (fun r73 er73 => ?_)
    replace h := h r73 er73
    refine w_iconst C dX12_lay_51 ⟨by decide, by decide⟩ ?_
    obtain ⟨o74, g75, h⟩ := h
    refine x_iald C dX12_lay_52 (isA.n g75 (hn.trans h3)) ?_
    obtain ⟨o76, g77, h⟩ := h
    refine x_iast C dX12_lay_53 (isA.n g77 (hn.trans h3)) (fun M78 eM78 hn79 => ?_)
    replace h := h M78 eM78
    replace hn79 := hn79.trans hn
    refine w_aload_n C dX12_lay_54 rfl (mem_k 0 rfl) ?_
    refine x_getR C dX12_lay_55 fw_X12_25 (isO.n (ci := 12) ⟨rfl, ho0⟩ (hn79.trans h3)) (fun r80 er80 => ?_)
    replace h := h r80 er80
    refine w_iconst C dX12_lay_58 ⟨by decide, by decide⟩ ?_
    refine w_aload_n C dX12_lay_59 rfl (mem_k 0 rfl) ?_
    refine x_getR C dX12_lay_60 fw_X12_25 (isO.n (ci := 12) ⟨rfl, ho0⟩ (hn79.trans h3)) (fun r81 er81 => ?_)
    replace h := h r81 er81
    refine w_iconst C dX12_lay_63 ⟨by decide, by decide⟩ ?_
    obtain ⟨o82, g83, h⟩ := h
    refine x_iald C dX12_lay_64 (isA.n g83 (hn79.trans h3)) ?_
    obtain ⟨o84, g85, h⟩ := h
    refine x_iast C dX12_lay_65 (isA.n g85 (hn79.trans h3)) (fun M86 eM86 hn87 => ?_)
    replace h := h M86 eM86
    replace hn87 := hn87.trans hn79
    refine w_iconst C dX12_lay_66 ⟨by decide, by decide⟩ ?_
    refine x_istore_n (L' := [(1, vI 0), (0, vR (some o0))]) C dX12_lay_67 rfl (by decide) rfl ?_
    refine x_pc (pc2 := 68) rfl ?_
    refine x_pick (L' := [(0, vR (some o0)), (1, vI 0)]) [1, 0] rfl ?_
    exact k_X12_lay_68 C hr h3 hn87 ho0 hQ  h
  · replace h := h.2 q
    refine w_aload_n C dX12_lay_24 rfl (mem_k 0 rfl) ?_
    refine x_getR C dX12_lay_25 fw_X12_31 (isO.n (ci := 12) ⟨rfl, ho0⟩ (hn.trans h3)) (fun r88 er88 => ?_)
    replace h := h r88 er88
    refine w_iload_n C dX12_lay_28 rfl (mem_k 1 rfl) ?_
    obtain ⟨o89, g90, h⟩ := h
    refine x_iald C dX12_lay_29 (isA.n g90 (hn.trans h3)) ?_
    refine w_if_ne (tgt := 36) C dX12_lay_30 (by decide) (fun q => ?_) (fun q => ?_)
    · replace h := h.1 q
      obtain ⟨v91, ev91⟩ : ∃ z : Int, z = x1 + 1 := ⟨_, rfl⟩
      refine x_iinc (L' := [(1, vI v91), (0, vR (some o0))]) C dX12_lay_36 (mem_k 1 rfl) (by decide) h.1 ev91 rfl ?_
      replace h := h.2 v91 ev91
      refine w_goto (tgt := 14) C dX12_lay_39 (by decide) ?_
      refine x_pc (pc2 := 14) rfl ?_
      refine x_pick (L' := [(0, vR (some o0)), (1, vI v91)]) [1, 0] rfl ?_
      exact hK14 v91 h
    · replace h := h.2 q
      refine w_bipush C dX12_lay_33 (by decide) ?_
      exact x_iret C hr dX12_lay_35 hn (hQ _ M h)
set_option maxRecDepth 100000 in
set_option maxHeartbeats 4000000 in
theorem k_X12_lay_14 {o0 : Nat} {x1 : Int} {M : Mm} {Q : Int → Mm → Prop} (C : Cx p s m args meth c cX12_lay 2 RX12 D cy G n0) (hr : meth.sig.returnType = some .int) (h3 : n0 = 243) (hn : M.2.2.2 = n0) (ho0 : o0 < 243 ∧ (SH o0).1 = 12) (hQ : ∀ x M, Q x M → Qp (some (vI x)) M) (h : P_X12_lay_14 o0 x1 M Q ) : WW p l e ({ frames := 3, cells := 0, slots := 0, locals := 73 }) s m args below meth c (ZQ below args s D cy G n0 Qp n0) 2 D cy G n0 14 [(0, vR (some o0)), (1, vI x1)] [] M := by
  refine lpW_sound (P := fun y : Int => WW p l e ({ frames := 3, cells := 0, slots := 0, locals := 73 }) s m args below meth c (ZQ below args s D cy G n0 Qp n0) 2 D cy G n0 14 [(0, vR (some o0)), (1, vI y)] [] M) ?_ h
  intro K y hK hF
  exact f_X12_lay_14 C hr h3 hn ho0 hQ  (fun x1 hk => hK x1 hk) hF
set_option maxRecDepth 100000 in
set_option maxHeartbeats 4000000 in
theorem k_X12_lay_0 {o0 : Nat} {M : Mm} {Q : Int → Mm → Prop} (C : Cx p s m args meth c cX12_lay 2 RX12 D cy G n0) (hr : meth.sig.returnType = some .int) (h3 : n0 = 243) (hn : M.2.2.2 = n0) (ho0 : o0 < 243 ∧ (SH o0).1 = 12) (hQ : ∀ x M, Q x M → Qp (some (vI x)) M) (h : P_X12_lay o0 M Q ) : WW p l e ({ frames := 3, cells := 0, slots := 0, locals := 73 }) s m args below meth c (ZQ below args s D cy G n0 Qp n0) 2 D cy G n0 0 [(0, vR (some o0))] [] M := by
  unfold P_X12_lay at h
  refine w_aload_n C dX12_lay_0 rfl (mem_k 0 rfl) ?_
  refine cl_X12_readAll (ck_X12_136 ⟨by decide, by decide⟩) C dX12_lay_1 hn h3 (Nat.le_of_ble_eq_true rfl) (isO.n (ci := 12) ⟨rfl, ho0⟩ (hn.trans h3)) h (fun v92 M93 h hn94 => ?_)
  refine w_bipush C dX12_lay_4 (by decide) ?_
  refine w_icmp_eq (tgt := 12) C dX12_lay_6 (by decide) (fun q => ?_) (fun q => ?_)
  · replace h := h.1 q
    refine w_iconst C dX12_lay_12 ⟨by decide, by decide⟩ ?_
    refine x_istore_n (L' := [(1, vI 0), (0, vR (some o0))]) C dX12_lay_13 rfl (by decide) rfl ?_
    refine x_pc (pc2 := 14) rfl ?_
    refine x_pick (L' := [(0, vR (some o0)), (1, vI 0)]) [1, 0] rfl ?_
    exact k_X12_lay_14 C hr h3 hn94 ho0 hQ  h
  · replace h := h.2 q
    refine w_bipush C dX12_lay_9 (by decide) ?_
    exact x_iret C hr dX12_lay_11 hn94 (hQ _ M93 h)
set_option maxRecDepth 100000 in
set_option maxHeartbeats 4000000 in
theorem con_X12_lay (l : Launch) (D : va_G) (cy : Nat → ClassId) : Con l D cy yX12_lay cX12_lay 2 (some .int) ({ frames := 3, cells := 0, slots := 0, locals := 73 }) 0 0 SP_X12_lay := by
  refine con_of (by decide) (fun as M Qp h => ?_) ?_
  · obtain ⟨-, o0, rfl, -⟩ := h
    exact Nat.le_of_ble_eq_true rfl
  · intro p e s m args below meth c G as M Qp h C hr hnm
    obtain ⟨hn, o0, rfl, ho1, ho2, Q0, hQ, h⟩ := h
    refine x_pick (L' := [(0, vR (some o0))]) [0] rfl ?_
    exact k_X12_lay_0 C hr hn rfl ⟨ho1, ho2⟩ hQ h
set_option maxRecDepth 100000 in
set_option maxHeartbeats 4000000 in
theorem cl_X12_lay {p : Program} {l : Launch} {e : Env} {R : Room} {s : State} {m : MethodId} {args : Array Value} {below : List Frame} {meth : Method} {c : Code} {Q : State → Prop} {cc : ByteArray} {nL : Nat} {own : String} {D : va_G} {cy : Nat → ClassId} {G : Nat × Nat} {n0 pc : Nat} {L : List (Nat × PV)} {st : List PV} {M : Mm} {op : Instr} (K : CallOK l D cy R own op 0 0 (spV 12 0 SP_X12_lay)) (C : Cx p s m args meth c cc nL own D cy G n0) (hd : decode cc pc = .ok (op, 3)) (hn : M.2.2.2 = n0) (h3 : n0 = 243) (hlen : argN st ≤ 8) {r : Option Nat} {o0 : Nat} (ho : isOn 12 M.2.2.2 r o0)  {Q0 : Int → Mm → Prop} (h : P_X12_lay o0 M Q0) (k : ∀ x M2, Q0 x M2 → M2.2.2.2 = n0 → WW p l e R s m args below meth c Q nL D cy G n0  (pc + 3) L (vI x :: st) M2) : WW p l e R s m args below meth c Q nL D cy G n0  pc L (vR r :: st) M := by
  obtain ⟨rfl, ho1, ho2⟩ := ho
  refine x_call0 K C hd (as := [vR (some o0)]) rfl hn hlen (fun v M2 => ∃ x, v = some (vI x) ∧ Q0 x M2) ⟨⟨o0, [], rfl, rfl, ho1, ho2⟩, hn.trans h3, o0, rfl, (hn.trans h3) ▸ ho1, ho2, Q0, fun x M2 hx => ⟨x, rfl, hx⟩, h⟩ ?_
  rintro _ _ ⟨x, rfl, hx⟩ hm
  exact k x _ hx hm
end W_X12_lay
theorem dX12_body_0 : decode cX12_body 0 = .ok (.iload_n 1, 1) := by decide +kernel
theorem dX12_body_1 : decode cX12_body 1 = .ok (.i2l, 1) := by decide +kernel
theorem dX12_body_2 : decode cX12_body 2 = .ok (.ldc2_w 103, 3) := by decide +kernel
theorem dX12_body_5 : decode cX12_body 5 = .ok (.ldc2_w 139, 3) := by decide +kernel
theorem dX12_body_8 : decode cX12_body 8 = .ok (.invokestatic 85, 3) := by decide +kernel
theorem dX12_body_11 : decode cX12_body 11 = .ok (.ifCond .eq 78, 3) := by decide +kernel
theorem dX12_body_14 : decode cX12_body 14 = .ok (.iload_n 2, 1) := by decide +kernel
theorem dX12_body_15 : decode cX12_body 15 = .ok (.i2l, 1) := by decide +kernel
theorem dX12_body_16 : decode cX12_body 16 = .ok (.ldc2_w 141, 3) := by decide +kernel
theorem dX12_body_19 : decode cX12_body 19 = .ok (.ldc2_w 115, 3) := by decide +kernel
theorem dX12_body_22 : decode cX12_body 22 = .ok (.invokestatic 85, 3) := by decide +kernel
theorem dX12_body_25 : decode cX12_body 25 = .ok (.ifCond .eq 64, 3) := by decide +kernel
theorem dX12_body_28 : decode cX12_body 28 = .ok (.iload_n 3, 1) := by decide +kernel
theorem dX12_body_29 : decode cX12_body 29 = .ok (.i2l, 1) := by decide +kernel
theorem dX12_body_30 : decode cX12_body 30 = .ok (.ldc2_w 117, 3) := by decide +kernel
theorem dX12_body_33 : decode cX12_body 33 = .ok (.ldc2_w 143, 3) := by decide +kernel
theorem dX12_body_36 : decode cX12_body 36 = .ok (.invokestatic 85, 3) := by decide +kernel
theorem dX12_body_39 : decode cX12_body 39 = .ok (.ifCond .eq 50, 3) := by decide +kernel
theorem dX12_body_42 : decode cX12_body 42 = .ok (.iload 4, 2) := by decide +kernel
theorem dX12_body_44 : decode cX12_body 44 = .ok (.i2l, 1) := by decide +kernel
theorem dX12_body_45 : decode cX12_body 45 = .ok (.ldc2_w 117, 3) := by decide +kernel
theorem dX12_body_48 : decode cX12_body 48 = .ok (.ldc2_w 145, 3) := by decide +kernel
theorem dX12_body_51 : decode cX12_body 51 = .ok (.invokestatic 85, 3) := by decide +kernel
theorem dX12_body_54 : decode cX12_body 54 = .ok (.ifCond .eq 35, 3) := by decide +kernel
theorem dX12_body_57 : decode cX12_body 57 = .ok (.iload 5, 2) := by decide +kernel
theorem dX12_body_59 : decode cX12_body 59 = .ok (.i2l, 1) := by decide +kernel
theorem dX12_body_60 : decode cX12_body 60 = .ok (.ldc2_w 105, 3) := by decide +kernel
theorem dX12_body_63 : decode cX12_body 63 = .ok (.ldc2_w 115, 3) := by decide +kernel
theorem dX12_body_66 : decode cX12_body 66 = .ok (.invokestatic 85, 3) := by decide +kernel
theorem dX12_body_69 : decode cX12_body 69 = .ok (.ifCond .eq 20, 3) := by decide +kernel
theorem dX12_body_72 : decode cX12_body 72 = .ok (.iload 6, 2) := by decide +kernel
theorem dX12_body_74 : decode cX12_body 74 = .ok (.i2l, 1) := by decide +kernel
theorem dX12_body_75 : decode cX12_body 75 = .ok (.lconst 1, 1) := by decide +kernel
theorem dX12_body_76 : decode cX12_body 76 = .ok (.ldc2_w 147, 3) := by decide +kernel
theorem dX12_body_79 : decode cX12_body 79 = .ok (.invokestatic 85, 3) := by decide +kernel
theorem dX12_body_82 : decode cX12_body 82 = .ok (.ifCond .eq 7, 3) := by decide +kernel
theorem dX12_body_85 : decode cX12_body 85 = .ok (.iconst 1, 1) := by decide +kernel
theorem dX12_body_86 : decode cX12_body 86 = .ok (.goto 4, 3) := by decide +kernel
theorem dX12_body_89 : decode cX12_body 89 = .ok (.iconst 0, 1) := by decide +kernel
theorem dX12_body_90 : decode cX12_body 90 = .ok (.istore 7, 2) := by decide +kernel
theorem dX12_body_92 : decode cX12_body 92 = .ok (.iload 7, 2) := by decide +kernel
theorem dX12_body_94 : decode cX12_body 94 = .ok (.ifCond .ne 5, 3) := by decide +kernel
theorem dX12_body_97 : decode cX12_body 97 = .ok (.iconst (-1), 1) := by decide +kernel
theorem dX12_body_98 : decode cX12_body 98 = .ok (.ireturn, 1) := by decide +kernel
theorem dX12_body_99 : decode cX12_body 99 = .ok (.aload_n 0, 1) := by decide +kernel
theorem dX12_body_100 : decode cX12_body 100 = .ok (.getfield 149, 3) := by decide +kernel
theorem dX12_body_103 : decode cX12_body 103 = .ok (.bipush 12, 2) := by decide +kernel
theorem dX12_body_105 : decode cX12_body 105 = .ok (.if_icmp .ne 6, 3) := by decide +kernel
theorem dX12_body_108 : decode cX12_body 108 = .ok (.bipush (-3), 2) := by decide +kernel
theorem dX12_body_110 : decode cX12_body 110 = .ok (.ireturn, 1) := by decide +kernel
theorem dX12_body_111 : decode cX12_body 111 = .ok (.bipush 6, 2) := by decide +kernel
theorem dX12_body_113 : decode cX12_body 113 = .ok (.aload_n 0, 1) := by decide +kernel
theorem dX12_body_114 : decode cX12_body 114 = .ok (.getfield 149, 3) := by decide +kernel
theorem dX12_body_117 : decode cX12_body 117 = .ok (.imul, 1) := by decide +kernel
theorem dX12_body_118 : decode cX12_body 118 = .ok (.istore 8, 2) := by decide +kernel
theorem dX12_body_120 : decode cX12_body 120 = .ok (.aload_n 0, 1) := by decide +kernel
theorem dX12_body_121 : decode cX12_body 121 = .ok (.getfield 43, 3) := by decide +kernel
theorem dX12_body_124 : decode cX12_body 124 = .ok (.iload 8, 2) := by decide +kernel
theorem dX12_body_126 : decode cX12_body 126 = .ok (.iload_n 1, 1) := by decide +kernel
theorem dX12_body_127 : decode cX12_body 127 = .ok (.iastore, 1) := by decide +kernel
theorem dX12_body_128 : decode cX12_body 128 = .ok (.aload_n 0, 1) := by decide +kernel
theorem dX12_body_129 : decode cX12_body 129 = .ok (.getfield 43, 3) := by decide +kernel
theorem dX12_body_132 : decode cX12_body 132 = .ok (.iload 8, 2) := by decide +kernel
theorem dX12_body_134 : decode cX12_body 134 = .ok (.iconst 1, 1) := by decide +kernel
theorem dX12_body_135 : decode cX12_body 135 = .ok (.iadd, 1) := by decide +kernel
theorem dX12_body_136 : decode cX12_body 136 = .ok (.iload_n 2, 1) := by decide +kernel
theorem dX12_body_137 : decode cX12_body 137 = .ok (.iastore, 1) := by decide +kernel
theorem dX12_body_138 : decode cX12_body 138 = .ok (.aload_n 0, 1) := by decide +kernel
theorem dX12_body_139 : decode cX12_body 139 = .ok (.getfield 43, 3) := by decide +kernel
theorem dX12_body_142 : decode cX12_body 142 = .ok (.iload 8, 2) := by decide +kernel
theorem dX12_body_144 : decode cX12_body 144 = .ok (.iconst 2, 1) := by decide +kernel
theorem dX12_body_145 : decode cX12_body 145 = .ok (.iadd, 1) := by decide +kernel
theorem dX12_body_146 : decode cX12_body 146 = .ok (.iload_n 3, 1) := by decide +kernel
theorem dX12_body_147 : decode cX12_body 147 = .ok (.iastore, 1) := by decide +kernel
theorem dX12_body_148 : decode cX12_body 148 = .ok (.aload_n 0, 1) := by decide +kernel
theorem dX12_body_149 : decode cX12_body 149 = .ok (.getfield 43, 3) := by decide +kernel
theorem dX12_body_152 : decode cX12_body 152 = .ok (.iload 8, 2) := by decide +kernel
theorem dX12_body_154 : decode cX12_body 154 = .ok (.iconst 3, 1) := by decide +kernel
theorem dX12_body_155 : decode cX12_body 155 = .ok (.iadd, 1) := by decide +kernel
theorem dX12_body_156 : decode cX12_body 156 = .ok (.iload 4, 2) := by decide +kernel
theorem dX12_body_158 : decode cX12_body 158 = .ok (.iastore, 1) := by decide +kernel
theorem dX12_body_159 : decode cX12_body 159 = .ok (.aload_n 0, 1) := by decide +kernel
theorem dX12_body_160 : decode cX12_body 160 = .ok (.getfield 43, 3) := by decide +kernel
theorem dX12_body_163 : decode cX12_body 163 = .ok (.iload 8, 2) := by decide +kernel
theorem dX12_body_165 : decode cX12_body 165 = .ok (.iconst 4, 1) := by decide +kernel
theorem dX12_body_166 : decode cX12_body 166 = .ok (.iadd, 1) := by decide +kernel
theorem dX12_body_167 : decode cX12_body 167 = .ok (.iload 5, 2) := by decide +kernel
theorem dX12_body_169 : decode cX12_body 169 = .ok (.iastore, 1) := by decide +kernel
theorem dX12_body_170 : decode cX12_body 170 = .ok (.aload_n 0, 1) := by decide +kernel
theorem dX12_body_171 : decode cX12_body 171 = .ok (.getfield 43, 3) := by decide +kernel
theorem dX12_body_174 : decode cX12_body 174 = .ok (.iload 8, 2) := by decide +kernel
theorem dX12_body_176 : decode cX12_body 176 = .ok (.iconst 5, 1) := by decide +kernel
theorem dX12_body_177 : decode cX12_body 177 = .ok (.iadd, 1) := by decide +kernel
theorem dX12_body_178 : decode cX12_body 178 = .ok (.iload 6, 2) := by decide +kernel
theorem dX12_body_180 : decode cX12_body 180 = .ok (.iastore, 1) := by decide +kernel
theorem dX12_body_181 : decode cX12_body 181 = .ok (.aload_n 0, 1) := by decide +kernel
theorem dX12_body_182 : decode cX12_body 182 = .ok (.dup, 1) := by decide +kernel
theorem dX12_body_183 : decode cX12_body 183 = .ok (.getfield 149, 3) := by decide +kernel
theorem dX12_body_186 : decode cX12_body 186 = .ok (.iconst 1, 1) := by decide +kernel
theorem dX12_body_187 : decode cX12_body 187 = .ok (.iadd, 1) := by decide +kernel
theorem dX12_body_188 : decode cX12_body 188 = .ok (.putfield 149, 3) := by decide +kernel
theorem dX12_body_191 : decode cX12_body 191 = .ok (.aload_n 0, 1) := by decide +kernel
theorem dX12_body_192 : decode cX12_body 192 = .ok (.getfield 149, 3) := by decide +kernel
theorem dX12_body_195 : decode cX12_body 195 = .ok (.iconst 1, 1) := by decide +kernel
theorem dX12_body_196 : decode cX12_body 196 = .ok (.isub, 1) := by decide +kernel
theorem dX12_body_197 : decode cX12_body 197 = .ok (.ireturn, 1) := by decide +kernel
theorem fw_X12_149 : fI RX12 149 12 12 := ⟨⟨lwG_4 (i := 76) rfl rfl, by decide, by decide⟩, rfl⟩
theorem fw_X12_43 : fR RX12 43 12 13 := ⟨⟨lwG_4 (i := 77) rfl rfl, by decide, by decide⟩, fun _ _ => rfl, fun r => ⟨r, rfl⟩⟩
theorem cn_X12_139 : Cond.constantLong RX12 139 (Int64.ofInt 2000) ∈ lwG := lwG_4 (i := 215) rfl rfl
theorem cn_X12_141 : Cond.constantLong RX12 141 (Int64.ofInt 250) ∈ lwG := lwG_4 (i := 216) rfl rfl
theorem cn_X12_143 : Cond.constantLong RX12 143 (Int64.ofInt 1200) ∈ lwG := lwG_4 (i := 217) rfl rfl
theorem cn_X12_145 : Cond.constantLong RX12 145 (Int64.ofInt 1100) ∈ lwG := lwG_4 (i := 218) rfl rfl
theorem cn_X12_147 : Cond.constantLong RX12 147 (Int64.ofInt 1000) ∈ lwG := lwG_4 (i := 219) rfl rfl
section W_X12_body
variable {p : Program} {l : Launch} {e : Env} {s : State} {m : MethodId} {args : Array Value} {below : List Frame} {meth : Method} {c : Code} {D : va_G} {cy : Nat → ClassId} {G : Nat × Nat} {n0 : Nat} {Qp : Option PV → Mm → Prop}
set_option maxRecDepth 100000 in
set_option maxHeartbeats 4000000 in
theorem k_X12_body_90 {o0 : Nat} {x1 : Int} {x2 : Int} {x3 : Int} {x4 : Int} {x5 : Int} {x6 : Int} {s0 : Int} {M : Mm} {Q : Int → Mm → Prop} (C : Cx p s m args meth c cX12_body 9 RX12 D cy G n0) (hr : meth.sig.returnType = some .int) (h3 : n0 = 243) (hn : M.2.2.2 = n0) (ho0 : o0 < 243 ∧ (SH o0).1 = 12) (hQ : ∀ x M, Q x M → Qp (some (vI x)) M) (h : P_X12_body_90 o0 x1 x2 x3 x4 x5 x6 s0 M Q ) : WW p l e ({ frames := 1, cells := 0, slots := 0, locals := 25 }) s m args below meth c (ZQ below args s D cy G n0 Qp n0) 9 D cy G n0 90 [(0, vR (some o0)), (1, vI x1), (2, vI x2), (3, vI x3), (4, vI x4), (5, vI x5), (6, vI x6)] [vI s0] M := by
  unfold P_X12_body_90 at h
  refine x_istore (L' := [(7, vI s0), (0, vR (some o0)), (1, vI x1), (2, vI x2), (3, vI x3), (4, vI x4), (5, vI x5), (6, vI x6)]) C dX12_body_90 (by decide) rfl ?_
  refine w_iload C dX12_body_92 (mem_k 0 rfl) ?_
  refine w_if_ne (tgt := 99) C dX12_body_94 (by decide) (fun q => ?_) (fun q => ?_)
  · replace h := h.1 q
    refine w_aload_n C dX12_body_99 rfl (mem_k 1 rfl) ?_
    refine x_getI C dX12_body_100 fw_X12_149 (isO.n (ci := 12) ⟨rfl, ho0⟩ (hn.trans h3)) ?_
    refine w_bipush C dX12_body_103 (by decide) ?_
    refine w_icmp_ne (tgt := 111) C dX12_body_105 (by decide) (fun q => ?_) (fun q => ?_)
    · replace h := h.1 q
      refine w_bipush C dX12_body_111 (by decide) ?_
      refine w_aload_n C dX12_body_113 rfl (mem_k 1 rfl) ?_
      refine x_getI C dX12_body_114 fw_X12_149 (isO.n (ci := 12) ⟨rfl, ho0⟩ (hn.trans h3)) ?_
      refine w_imul C dX12_body_117 h.1 ?_
      replace h := h.2
      refine x_nmI (fun v1 ev1 => ?_)
      replace h := h v1 ev1
      refine x_istore (L' := [(8, vI v1), (7, vI s0), (0, vR (some o0)), (1, vI x1), (2, vI x2), (3, vI x3), (4, vI x4), (5, vI x5), (6, vI x6)]) C dX12_body_118 (by decide) rfl ?_
      refine w_aload_n C dX12_body_120 rfl (mem_k 2 rfl) ?_
      refine x_getR C dX12_body_121 fw_X12_43 (isO.n (ci := 12) ⟨rfl, ho0⟩ (hn.trans h3)) (fun r2 er2 => ?_)
      replace h := h r2 er2
      refine w_iload C dX12_body_124 (mem_k 0 rfl) ?_
      refine w_iload_n C dX12_body_126 rfl (mem_k 3 rfl) ?_
      obtain ⟨o3, g4, h⟩ := h
      refine x_iast C dX12_body_127 (isA.n g4 (hn.trans h3)) (fun M5 eM5 hn6 => ?_)
      replace h := h M5 eM5
      replace hn6 := hn6.trans hn
      refine w_aload_n C dX12_body_128 rfl (mem_k 2 rfl) ?_
      refine x_getR C dX12_body_129 fw_X12_43 (isO.n (ci := 12) ⟨rfl, ho0⟩ (hn6.trans h3)) (fun r7 er7 => ?_)
      replace h := h r7 er7
      refine w_iload C dX12_body_132 (mem_k 0 rfl) ?_
      refine w_iconst C dX12_body_134 ⟨by decide, by decide⟩ ?_
      refine w_iadd C dX12_body_135 h.1 ?_
      replace h := h.2
      refine w_iload_n C dX12_body_136 rfl (mem_k 4 rfl) ?_
      obtain ⟨o8, g9, h⟩ := h
      refine x_iast C dX12_body_137 (isA.n g9 (hn6.trans h3)) (fun M10 eM10 hn11 => ?_)
      replace h := h M10 eM10
      replace hn11 := hn11.trans hn6
      refine w_aload_n C dX12_body_138 rfl (mem_k 2 rfl) ?_
      refine x_getR C dX12_body_139 fw_X12_43 (isO.n (ci := 12) ⟨rfl, ho0⟩ (hn11.trans h3)) (fun r12 er12 => ?_)
      replace h := h r12 er12
      refine w_iload C dX12_body_142 (mem_k 0 rfl) ?_
      refine w_iconst C dX12_body_144 ⟨by decide, by decide⟩ ?_
      refine w_iadd C dX12_body_145 h.1 ?_
      replace h := h.2
      refine w_iload_n C dX12_body_146 rfl (mem_k 5 rfl) ?_
      obtain ⟨o13, g14, h⟩ := h
      refine x_iast C dX12_body_147 (isA.n g14 (hn11.trans h3)) (fun M15 eM15 hn16 => ?_)
      replace h := h M15 eM15
      replace hn16 := hn16.trans hn11
      refine w_aload_n C dX12_body_148 rfl (mem_k 2 rfl) ?_
      refine x_getR C dX12_body_149 fw_X12_43 (isO.n (ci := 12) ⟨rfl, ho0⟩ (hn16.trans h3)) (fun r17 er17 => ?_)
      replace h := h r17 er17
      refine w_iload C dX12_body_152 (mem_k 0 rfl) ?_
      refine w_iconst C dX12_body_154 ⟨by decide, by decide⟩ ?_
      refine w_iadd C dX12_body_155 h.1 ?_
      replace h := h.2
      refine w_iload C dX12_body_156 (mem_k 6 rfl) ?_
      obtain ⟨o18, g19, h⟩ := h
      refine x_iast C dX12_body_158 (isA.n g19 (hn16.trans h3)) (fun M20 eM20 hn21 => ?_)
      replace h := h M20 eM20
      replace hn21 := hn21.trans hn16
      refine w_aload_n C dX12_body_159 rfl (mem_k 2 rfl) ?_
      refine x_getR C dX12_body_160 fw_X12_43 (isO.n (ci := 12) ⟨rfl, ho0⟩ (hn21.trans h3)) (fun r22 er22 => ?_)
      replace h := h r22 er22
      refine w_iload C dX12_body_163 (mem_k 0 rfl) ?_
      refine w_iconst C dX12_body_165 ⟨by decide, by decide⟩ ?_
      refine w_iadd C dX12_body_166 h.1 ?_
      replace h := h.2
      refine w_iload C dX12_body_167 (mem_k 7 rfl) ?_
      obtain ⟨o23, g24, h⟩ := h
      refine x_iast C dX12_body_169 (isA.n g24 (hn21.trans h3)) (fun M25 eM25 hn26 => ?_)
      replace h := h M25 eM25
      replace hn26 := hn26.trans hn21
      refine w_aload_n C dX12_body_170 rfl (mem_k 2 rfl) ?_
      refine x_getR C dX12_body_171 fw_X12_43 (isO.n (ci := 12) ⟨rfl, ho0⟩ (hn26.trans h3)) (fun r27 er27 => ?_)
      replace h := h r27 er27
      refine w_iload C dX12_body_174 (mem_k 0 rfl) ?_
      refine w_iconst C dX12_body_176 ⟨by decide, by decide⟩ ?_
      refine w_iadd C dX12_body_177 h.1 ?_
      replace h := h.2
      refine w_iload C dX12_body_178 (mem_k 8 rfl) ?_
      obtain ⟨o28, g29, h⟩ := h
      refine x_iast C dX12_body_180 (isA.n g29 (hn26.trans h3)) (fun M30 eM30 hn31 => ?_)
      replace h := h M30 eM30
      replace hn31 := hn31.trans hn26
      refine w_aload_n C dX12_body_181 rfl (mem_k 2 rfl) ?_
      refine w_dup C dX12_body_182 rfl ?_
      refine x_getI C dX12_body_183 fw_X12_149 (isO.n (ci := 12) ⟨rfl, ho0⟩ (hn31.trans h3)) ?_
      refine w_iconst C dX12_body_186 ⟨by decide, by decide⟩ ?_
      refine w_iadd C dX12_body_187 h.1 ?_
      replace h := h.2
      refine x_putI C dX12_body_188 fw_X12_149 (isO.n (ci := 12) ⟨rfl, ho0⟩ (hn31.trans h3)) (Or.inl rfl) (fun M32 eM32 hn33 => ?_)
      replace h := h M32 eM32
      replace hn33 := hn33.trans hn31
      refine w_aload_n C dX12_body_191 rfl (mem_k 2 rfl) ?_
      refine x_getI C dX12_body_192 fw_X12_149 (isO.n (ci := 12) ⟨rfl, ho0⟩ (hn33.trans h3)) ?_
      refine w_iconst C dX12_body_195 ⟨by decide, by decide⟩ ?_
      refine w_isub C dX12_body_196 h.1 ?_
      replace h := h.2
      exact x_iret C hr dX12_body_197 hn33 (hQ _ M32 h)
    · replace h := h.2 q
      refine w_bipush C dX12_body_108 (by decide) ?_
      exact x_iret C hr dX12_body_110 hn (hQ _ M h)
  · replace h := h.2 q
    refine w_iconst C dX12_body_97 ⟨by decide, by decide⟩ ?_
    exact x_iret C hr dX12_body_98 hn (hQ _ M h)
set_option maxRecDepth 100000 in
set_option maxHeartbeats 4000000 in
theorem k_X12_body_0 {o0 : Nat} {x1 : Int} {x2 : Int} {x3 : Int} {x4 : Int} {x5 : Int} {x6 : Int} {M : Mm} {Q : Int → Mm → Prop} (C : Cx p s m args meth c cX12_body 9 RX12 D cy G n0) (hr : meth.sig.returnType = some .int) (h3 : n0 = 243) (hn : M.2.2.2 = n0) (ho0 : o0 < 243 ∧ (SH o0).1 = 12) (hQ : ∀ x M, Q x M → Qp (some (vI x)) M) (h : P_X12_body o0 x1 x2 x3 x4 x5 x6 M Q ) : WW p l e ({ frames := 1, cells := 0, slots := 0, locals := 25 }) s m args below meth c (ZQ below args s D cy G n0 Qp n0) 9 D cy G n0 0 [(0, vR (some o0)), (1, vI x1), (2, vI x2), (3, vI x3), (4, vI x4), (5, vI x5), (6, vI x6)] [] M := by
  unfold P_X12_body at h
  refine w_iload_n C dX12_body_0 rfl (mem_k 1 rfl) ?_
  refine w_i2l C dX12_body_1 ?_
  refine w_ldc2 (x := 100) C dX12_body_2 cn_X12_103 ⟨by decide, by decide⟩ ?_
  refine w_ldc2 (x := 2000) C dX12_body_5 cn_X12_139 ⟨by decide, by decide⟩ ?_
  refine cl_X12_in (ck_X12_85 ⟨by decide, by decide⟩) C dX12_body_8 hn h3 (Nat.le_of_ble_eq_true rfl) h (fun v34 h => ?_)
  refine w_if_eq (tgt := 89) C dX12_body_11 (by decide) (fun q => ?_) (fun q => ?_)
  · replace h := h.1 q
    refine w_iconst C dX12_body_89 ⟨by decide, by decide⟩ ?_
    refine x_pc (pc2 := 90) rfl ?_
    refine x_pick (L' := [(0, vR (some o0)), (1, vI x1), (2, vI x2), (3, vI x3), (4, vI x4), (5, vI x5), (6, vI x6)]) [0, 1, 2, 3, 4, 5, 6] rfl ?_
    exact k_X12_body_90 C hr h3 hn ho0 hQ  h
  · replace h := h.2 q
    refine w_iload_n C dX12_body_14 rfl (mem_k 2 rfl) ?_
    refine w_i2l C dX12_body_15 ?_
    refine w_ldc2 (x := 250) C dX12_body_16 cn_X12_141 ⟨by decide, by decide⟩ ?_
    refine w_ldc2 (x := 700) C dX12_body_19 cn_X12_115 ⟨by decide, by decide⟩ ?_
    refine cl_X12_in (ck_X12_85 ⟨by decide, by decide⟩) C dX12_body_22 hn h3 (Nat.le_of_ble_eq_true rfl) h (fun v35 h => ?_)
    refine w_if_eq (tgt := 89) C dX12_body_25 (by decide) (fun q => ?_) (fun q => ?_)
    · replace h := h.1 q
      refine w_iconst C dX12_body_89 ⟨by decide, by decide⟩ ?_
      refine x_pc (pc2 := 90) rfl ?_
      refine x_pick (L' := [(0, vR (some o0)), (1, vI x1), (2, vI x2), (3, vI x3), (4, vI x4), (5, vI x5), (6, vI x6)]) [0, 1, 2, 3, 4, 5, 6] rfl ?_
      exact k_X12_body_90 C hr h3 hn ho0 hQ  h
    · replace h := h.2 q
      refine w_iload_n C dX12_body_28 rfl (mem_k 3 rfl) ?_
      refine w_i2l C dX12_body_29 ?_
      refine w_ldc2 (x := 400) C dX12_body_30 cn_X12_117 ⟨by decide, by decide⟩ ?_
      refine w_ldc2 (x := 1200) C dX12_body_33 cn_X12_143 ⟨by decide, by decide⟩ ?_
      refine cl_X12_in (ck_X12_85 ⟨by decide, by decide⟩) C dX12_body_36 hn h3 (Nat.le_of_ble_eq_true rfl) h (fun v36 h => ?_)
      refine w_if_eq (tgt := 89) C dX12_body_39 (by decide) (fun q => ?_) (fun q => ?_)
      · replace h := h.1 q
        refine w_iconst C dX12_body_89 ⟨by decide, by decide⟩ ?_
        refine x_pc (pc2 := 90) rfl ?_
        refine x_pick (L' := [(0, vR (some o0)), (1, vI x1), (2, vI x2), (3, vI x3), (4, vI x4), (5, vI x5), (6, vI x6)]) [0, 1, 2, 3, 4, 5, 6] rfl ?_
        exact k_X12_body_90 C hr h3 hn ho0 hQ  h
      · replace h := h.2 q
        refine w_iload C dX12_body_42 (mem_k 4 rfl) ?_
        refine w_i2l C dX12_body_44 ?_
        refine w_ldc2 (x := 400) C dX12_body_45 cn_X12_117 ⟨by decide, by decide⟩ ?_
        refine w_ldc2 (x := 1100) C dX12_body_48 cn_X12_145 ⟨by decide, by decide⟩ ?_
        refine cl_X12_in (ck_X12_85 ⟨by decide, by decide⟩) C dX12_body_51 hn h3 (Nat.le_of_ble_eq_true rfl) h (fun v37 h => ?_)
        refine w_if_eq (tgt := 89) C dX12_body_54 (by decide) (fun q => ?_) (fun q => ?_)
        · replace h := h.1 q
          refine w_iconst C dX12_body_89 ⟨by decide, by decide⟩ ?_
          refine x_pc (pc2 := 90) rfl ?_
          refine x_pick (L' := [(0, vR (some o0)), (1, vI x1), (2, vI x2), (3, vI x3), (4, vI x4), (5, vI x5), (6, vI x6)]) [0, 1, 2, 3, 4, 5, 6] rfl ?_
          exact k_X12_body_90 C hr h3 hn ho0 hQ  h
        · replace h := h.2 q
          refine w_iload C dX12_body_57 (mem_k 5 rfl) ?_
          refine w_i2l C dX12_body_59 ?_
          refine w_ldc2 (x := 200) C dX12_body_60 cn_X12_105 ⟨by decide, by decide⟩ ?_
          refine w_ldc2 (x := 700) C dX12_body_63 cn_X12_115 ⟨by decide, by decide⟩ ?_
          refine cl_X12_in (ck_X12_85 ⟨by decide, by decide⟩) C dX12_body_66 hn h3 (Nat.le_of_ble_eq_true rfl) h (fun v38 h => ?_)
          refine w_if_eq (tgt := 89) C dX12_body_69 (by decide) (fun q => ?_) (fun q => ?_)
          · replace h := h.1 q
            refine w_iconst C dX12_body_89 ⟨by decide, by decide⟩ ?_
            refine x_pc (pc2 := 90) rfl ?_
            refine x_pick (L' := [(0, vR (some o0)), (1, vI x1), (2, vI x2), (3, vI x3), (4, vI x4), (5, vI x5), (6, vI x6)]) [0, 1, 2, 3, 4, 5, 6] rfl ?_
            exact k_X12_body_90 C hr h3 hn ho0 hQ  h
          · replace h := h.2 q
            refine w_iload C dX12_body_72 (mem_k 6 rfl) ?_
            refine w_i2l C dX12_body_74 ?_
            refine w_lconst C dX12_body_75 ?_
            refine w_ldc2 (x := 1000) C dX12_body_76 cn_X12_147 ⟨by decide, by decide⟩ ?_
            refine cl_X12_in (ck_X12_85 ⟨by decide, by decide⟩) C dX12_body_79 hn h3 (Nat.le_of_ble_eq_true rfl) h (fun v39 h => ?_)
            refine w_if_eq (tgt := 89) C dX12_body_82 (by decide) (fun q => ?_) (fun q => ?_)
            · replace h := h.1 q
              refine w_iconst C dX12_body_89 ⟨by decide, by decide⟩ ?_
              refine x_pc (pc2 := 90) rfl ?_
              refine x_pick (L' := [(0, vR (some o0)), (1, vI x1), (2, vI x2), (3, vI x3), (4, vI x4), (5, vI x5), (6, vI x6)]) [0, 1, 2, 3, 4, 5, 6] rfl ?_
              exact k_X12_body_90 C hr h3 hn ho0 hQ  h
            · replace h := h.2 q
              refine w_iconst C dX12_body_85 ⟨by decide, by decide⟩ ?_
              refine w_goto (tgt := 90) C dX12_body_86 (by decide) ?_
              refine x_pc (pc2 := 90) rfl ?_
              refine x_pick (L' := [(0, vR (some o0)), (1, vI x1), (2, vI x2), (3, vI x3), (4, vI x4), (5, vI x5), (6, vI x6)]) [0, 1, 2, 3, 4, 5, 6] rfl ?_
              exact k_X12_body_90 C hr h3 hn ho0 hQ  h
set_option maxRecDepth 100000 in
set_option maxHeartbeats 4000000 in
theorem con_X12_body (l : Launch) (D : va_G) (cy : Nat → ClassId) : Con l D cy yX12_body cX12_body 9 (some .int) ({ frames := 1, cells := 0, slots := 0, locals := 25 }) 0 0 SP_X12_body := by
  refine con_of (by decide) (fun as M Qp h => ?_) ?_
  · obtain ⟨-, o0, x1, x2, x3, x4, x5, x6, rfl, -⟩ := h
    exact Nat.le_of_ble_eq_true rfl
  · intro p e s m args below meth c G as M Qp h C hr hnm
    obtain ⟨hn, o0, x1, x2, x3, x4, x5, x6, rfl, ho1, ho2, Q0, hQ, h⟩ := h
    refine x_pick (L' := [(0, vR (some o0)), (1, vI x1), (2, vI x2), (3, vI x3), (4, vI x4), (5, vI x5), (6, vI x6)]) [0, 1, 2, 3, 4, 5, 6] rfl ?_
    exact k_X12_body_0 C hr hn rfl ⟨ho1, ho2⟩ hQ h
set_option maxRecDepth 100000 in
set_option maxHeartbeats 4000000 in
theorem cl_X12_body {p : Program} {l : Launch} {e : Env} {R : Room} {s : State} {m : MethodId} {args : Array Value} {below : List Frame} {meth : Method} {c : Code} {Q : State → Prop} {cc : ByteArray} {nL : Nat} {own : String} {D : va_G} {cy : Nat → ClassId} {G : Nat × Nat} {n0 pc : Nat} {L : List (Nat × PV)} {st : List PV} {M : Mm} {op : Instr} (K : CallOK l D cy R own op 0 0 (spV 12 6 SP_X12_body)) (C : Cx p s m args meth c cc nL own D cy G n0) (hd : decode cc pc = .ok (op, 3)) (hn : M.2.2.2 = n0) (h3 : n0 = 243) (hlen : argN st ≤ 8) {r : Option Nat} {o0 : Nat} (ho : isOn 12 M.2.2.2 r o0) {x1 : Int} {x2 : Int} {x3 : Int} {x4 : Int} {x5 : Int} {x6 : Int} {Q0 : Int → Mm → Prop} (h : P_X12_body o0 x1 x2 x3 x4 x5 x6 M Q0) (k : ∀ x M2, Q0 x M2 → M2.2.2.2 = n0 → WW p l e R s m args below meth c Q nL D cy G n0  (pc + 3) L (vI x :: st) M2) : WW p l e R s m args below meth c Q nL D cy G n0  pc L (vI x6 :: vI x5 :: vI x4 :: vI x3 :: vI x2 :: vI x1 :: vR r :: st) M := by
  obtain ⟨rfl, ho1, ho2⟩ := ho
  refine x_call0 K C hd (as := [vR (some o0), vI x1, vI x2, vI x3, vI x4, vI x5, vI x6]) rfl hn hlen (fun v M2 => ∃ x, v = some (vI x) ∧ Q0 x M2) ⟨⟨o0, [vI x1, vI x2, vI x3, vI x4, vI x5, vI x6], rfl, rfl, ho1, ho2⟩, hn.trans h3, o0, x1, x2, x3, x4, x5, x6, rfl, (hn.trans h3) ▸ ho1, ho2, Q0, fun x M2 hx => ⟨x, rfl, hx⟩, h⟩ ?_
  rintro _ _ ⟨x, rfl, hx⟩ hm
  exact k x _ hx hm
end W_X12_body
theorem dX12_isBody_0 : decode cX12_isBody 0 = .ok (.iload_n 1, 1) := by decide +kernel
theorem dX12_isBody_1 : decode cX12_isBody 1 = .ok (.i2l, 1) := by decide +kernel
theorem dX12_isBody_2 : decode cX12_isBody 2 = .ok (.lconst 0, 1) := by decide +kernel
theorem dX12_isBody_3 : decode cX12_isBody 3 = .ok (.aload_n 0, 1) := by decide +kernel
theorem dX12_isBody_4 : decode cX12_isBody 4 = .ok (.getfield 149, 3) := by decide +kernel
theorem dX12_isBody_7 : decode cX12_isBody 7 = .ok (.iconst 1, 1) := by decide +kernel
theorem dX12_isBody_8 : decode cX12_isBody 8 = .ok (.isub, 1) := by decide +kernel
theorem dX12_isBody_9 : decode cX12_isBody 9 = .ok (.i2l, 1) := by decide +kernel
theorem dX12_isBody_10 : decode cX12_isBody 10 = .ok (.invokestatic 85, 3) := by decide +kernel
theorem dX12_isBody_13 : decode cX12_isBody 13 = .ok (.ireturn, 1) := by decide +kernel
section W_X12_isBody
variable {p : Program} {l : Launch} {e : Env} {s : State} {m : MethodId} {args : Array Value} {below : List Frame} {meth : Method} {c : Code} {D : va_G} {cy : Nat → ClassId} {G : Nat × Nat} {n0 : Nat} {Qp : Option PV → Mm → Prop}
set_option maxRecDepth 100000 in
set_option maxHeartbeats 4000000 in
theorem k_X12_isBody_0 {o0 : Nat} {x1 : Int} {M : Mm} {Q : Int → Prop} (C : Cx p s m args meth c cX12_isBody 2 RX12 D cy G n0) (hr : meth.sig.returnType = some .boolean) (h3 : n0 = 243) (hn : M.2.2.2 = n0) (ho0 : o0 < 243 ∧ (SH o0).1 = 12) (hQ : ∀ x, Q x → Qp (some (vI x)) M) (h : P_X12_isBody o0 x1 M Q ) : WW p l e ({ frames := 1, cells := 0, slots := 0, locals := 25 }) s m args below meth c (ZQ below args s D cy G n0 Qp n0) 2 D cy G n0 0 [(0, vR (some o0)), (1, vI x1)] [] M := by
  unfold P_X12_isBody at h
  refine w_iload_n C dX12_isBody_0 rfl (mem_k 1 rfl) ?_
  refine w_i2l C dX12_isBody_1 ?_
  refine w_lconst C dX12_isBody_2 ?_
  refine w_aload_n C dX12_isBody_3 rfl (mem_k 0 rfl) ?_
  refine x_getI C dX12_isBody_4 fw_X12_149 (isO.n (ci := 12) ⟨rfl, ho0⟩ (hn.trans h3)) ?_
  refine w_iconst C dX12_isBody_7 ⟨by decide, by decide⟩ ?_
  refine w_isub C dX12_isBody_8 h.1 ?_
  replace h := h.2
  refine w_i2l C dX12_isBody_9 ?_
  refine cl_X12_in (ck_X12_85 ⟨by decide, by decide⟩) C dX12_isBody_10 hn h3 (Nat.le_of_ble_eq_true rfl) h (fun v1 h => ?_)
  exact x_zret C hr dX12_isBody_13 hn h.1 (hQ _ h.2)
set_option maxRecDepth 100000 in
set_option maxHeartbeats 4000000 in
theorem con_X12_isBody (l : Launch) (D : va_G) (cy : Nat → ClassId) : Con l D cy yX12_isBody cX12_isBody 2 (some .boolean) ({ frames := 1, cells := 0, slots := 0, locals := 25 }) 0 0 SP_X12_isBody := by
  refine con_of (by decide) (fun as M Qp h => ?_) ?_
  · obtain ⟨-, o0, x1, rfl, -⟩ := h
    exact Nat.le_of_ble_eq_true rfl
  · intro p e s m args below meth c G as M Qp h C hr hnm
    obtain ⟨hn, o0, x1, rfl, ho1, ho2, Q0, hQ, h⟩ := h
    refine x_pick (L' := [(0, vR (some o0)), (1, vI x1)]) [0, 1] rfl ?_
    exact k_X12_isBody_0 C hr hn rfl ⟨ho1, ho2⟩ hQ h
set_option maxRecDepth 100000 in
set_option maxHeartbeats 4000000 in
theorem cl_X12_isBody {p : Program} {l : Launch} {e : Env} {R : Room} {s : State} {m : MethodId} {args : Array Value} {below : List Frame} {meth : Method} {c : Code} {Q : State → Prop} {cc : ByteArray} {nL : Nat} {own : String} {D : va_G} {cy : Nat → ClassId} {G : Nat × Nat} {n0 pc : Nat} {L : List (Nat × PV)} {st : List PV} {M : Mm} {op : Instr} (K : CallOK l D cy R own op 0 0 (spV 12 1 SP_X12_isBody)) (C : Cx p s m args meth c cc nL own D cy G n0) (hd : decode cc pc = .ok (op, 3)) (hn : M.2.2.2 = n0) (h3 : n0 = 243) (hlen : argN st ≤ 8) {r : Option Nat} {o0 : Nat} (ho : isOn 12 M.2.2.2 r o0) {x1 : Int} {Q0 : Int → Prop} (h : P_X12_isBody o0 x1 M Q0) (k : ∀ x, Q0 x → WW p l e R s m args below meth c Q nL D cy G n0  (pc + 3) L (vI x :: st) M) : WW p l e R s m args below meth c Q nL D cy G n0  pc L (vI x1 :: vR r :: st) M := by
  obtain ⟨rfl, ho1, ho2⟩ := ho
  refine x_call0 K C hd (as := [vR (some o0), vI x1]) rfl hn hlen (fun v M2 => ∃ x, v = some (vI x) ∧ M2 = M ∧ Q0 x) ⟨⟨o0, [vI x1], rfl, rfl, ho1, ho2⟩, hn.trans h3, o0, x1, rfl, (hn.trans h3) ▸ ho1, ho2, Q0, fun x hx => ⟨x, rfl, rfl, hx⟩, h⟩ ?_
  rintro _ _ ⟨x, rfl, rfl, hx⟩ hm
  exact k x hx
end W_X12_isBody
theorem dX12_isSeat_0 : decode cX12_isSeat 0 = .ok (.iload_n 1, 1) := by decide +kernel
theorem dX12_isSeat_1 : decode cX12_isSeat 1 = .ok (.i2l, 1) := by decide +kernel
theorem dX12_isSeat_2 : decode cX12_isSeat 2 = .ok (.lconst 0, 1) := by decide +kernel
theorem dX12_isSeat_3 : decode cX12_isSeat 3 = .ok (.aload_n 0, 1) := by decide +kernel
theorem dX12_isSeat_4 : decode cX12_isSeat 4 = .ok (.getfield 25, 3) := by decide +kernel
theorem dX12_isSeat_7 : decode cX12_isSeat 7 = .ok (.iconst 1, 1) := by decide +kernel
theorem dX12_isSeat_8 : decode cX12_isSeat 8 = .ok (.iaload, 1) := by decide +kernel
theorem dX12_isSeat_9 : decode cX12_isSeat 9 = .ok (.iconst 1, 1) := by decide +kernel
theorem dX12_isSeat_10 : decode cX12_isSeat 10 = .ok (.isub, 1) := by decide +kernel
theorem dX12_isSeat_11 : decode cX12_isSeat 11 = .ok (.i2l, 1) := by decide +kernel
theorem dX12_isSeat_12 : decode cX12_isSeat 12 = .ok (.invokestatic 85, 3) := by decide +kernel
theorem dX12_isSeat_15 : decode cX12_isSeat 15 = .ok (.ireturn, 1) := by decide +kernel
section W_X12_isSeat
variable {p : Program} {l : Launch} {e : Env} {s : State} {m : MethodId} {args : Array Value} {below : List Frame} {meth : Method} {c : Code} {D : va_G} {cy : Nat → ClassId} {G : Nat × Nat} {n0 : Nat} {Qp : Option PV → Mm → Prop}
set_option maxRecDepth 100000 in
set_option maxHeartbeats 4000000 in
theorem k_X12_isSeat_0 {o0 : Nat} {x1 : Int} {M : Mm} {Q : Int → Prop} (C : Cx p s m args meth c cX12_isSeat 2 RX12 D cy G n0) (hr : meth.sig.returnType = some .boolean) (h3 : n0 = 243) (hn : M.2.2.2 = n0) (ho0 : o0 < 243 ∧ (SH o0).1 = 12) (hQ : ∀ x, Q x → Qp (some (vI x)) M) (h : P_X12_isSeat o0 x1 M Q ) : WW p l e ({ frames := 1, cells := 0, slots := 0, locals := 25 }) s m args below meth c (ZQ below args s D cy G n0 Qp n0) 2 D cy G n0 0 [(0, vR (some o0)), (1, vI x1)] [] M := by
  unfold P_X12_isSeat at h
  refine w_iload_n C dX12_isSeat_0 rfl (mem_k 1 rfl) ?_
  refine w_i2l C dX12_isSeat_1 ?_
  refine w_lconst C dX12_isSeat_2 ?_
  refine w_aload_n C dX12_isSeat_3 rfl (mem_k 0 rfl) ?_
  refine x_getR C dX12_isSeat_4 fw_X12_25 (isO.n (ci := 12) ⟨rfl, ho0⟩ (hn.trans h3)) (fun r1 er1 => ?_)
  replace h := h r1 er1
  refine w_iconst C dX12_isSeat_7 ⟨by decide, by decide⟩ ?_
  obtain ⟨o2, g3, h⟩ := h
  refine x_iald C dX12_isSeat_8 (isA.n g3 (hn.trans h3)) ?_
  refine w_iconst C dX12_isSeat_9 ⟨by decide, by decide⟩ ?_
  refine w_isub C dX12_isSeat_10 h.1 ?_
  replace h := h.2
  refine w_i2l C dX12_isSeat_11 ?_
  refine cl_X12_in (ck_X12_85 ⟨by decide, by decide⟩) C dX12_isSeat_12 hn h3 (Nat.le_of_ble_eq_true rfl) h (fun v4 h => ?_)
  exact x_zret C hr dX12_isSeat_15 hn h.1 (hQ _ h.2)
set_option maxRecDepth 100000 in
set_option maxHeartbeats 4000000 in
theorem con_X12_isSeat (l : Launch) (D : va_G) (cy : Nat → ClassId) : Con l D cy yX12_isSeat cX12_isSeat 2 (some .boolean) ({ frames := 1, cells := 0, slots := 0, locals := 25 }) 0 0 SP_X12_isSeat := by
  refine con_of (by decide) (fun as M Qp h => ?_) ?_
  · obtain ⟨-, o0, x1, rfl, -⟩ := h
    exact Nat.le_of_ble_eq_true rfl
  · intro p e s m args below meth c G as M Qp h C hr hnm
    obtain ⟨hn, o0, x1, rfl, ho1, ho2, Q0, hQ, h⟩ := h
    refine x_pick (L' := [(0, vR (some o0)), (1, vI x1)]) [0, 1] rfl ?_
    exact k_X12_isSeat_0 C hr hn rfl ⟨ho1, ho2⟩ hQ h
set_option maxRecDepth 100000 in
set_option maxHeartbeats 4000000 in
theorem cl_X12_isSeat {p : Program} {l : Launch} {e : Env} {R : Room} {s : State} {m : MethodId} {args : Array Value} {below : List Frame} {meth : Method} {c : Code} {Q : State → Prop} {cc : ByteArray} {nL : Nat} {own : String} {D : va_G} {cy : Nat → ClassId} {G : Nat × Nat} {n0 pc : Nat} {L : List (Nat × PV)} {st : List PV} {M : Mm} {op : Instr} (K : CallOK l D cy R own op 0 0 (spV 12 1 SP_X12_isSeat)) (C : Cx p s m args meth c cc nL own D cy G n0) (hd : decode cc pc = .ok (op, 3)) (hn : M.2.2.2 = n0) (h3 : n0 = 243) (hlen : argN st ≤ 8) {r : Option Nat} {o0 : Nat} (ho : isOn 12 M.2.2.2 r o0) {x1 : Int} {Q0 : Int → Prop} (h : P_X12_isSeat o0 x1 M Q0) (k : ∀ x, Q0 x → WW p l e R s m args below meth c Q nL D cy G n0  (pc + 3) L (vI x :: st) M) : WW p l e R s m args below meth c Q nL D cy G n0  pc L (vI x1 :: vR r :: st) M := by
  obtain ⟨rfl, ho1, ho2⟩ := ho
  refine x_call0 K C hd (as := [vR (some o0), vI x1]) rfl hn hlen (fun v M2 => ∃ x, v = some (vI x) ∧ M2 = M ∧ Q0 x) ⟨⟨o0, [vI x1], rfl, rfl, ho1, ho2⟩, hn.trans h3, o0, x1, rfl, (hn.trans h3) ▸ ho1, ho2, Q0, fun x hx => ⟨x, rfl, rfl, hx⟩, h⟩ ?_
  rintro _ _ ⟨x, rfl, rfl, hx⟩ hm
  exact k x hx
end W_X12_isSeat
theorem dX12_isPatch_0 : decode cX12_isPatch 0 = .ok (.aload_n 0, 1) := by decide +kernel
theorem dX12_isPatch_1 : decode cX12_isPatch 1 = .ok (.iload_n 1, 1) := by decide +kernel
theorem dX12_isPatch_2 : decode cX12_isPatch 2 = .ok (.invokevirtual 152, 3) := by decide +kernel
theorem dX12_isPatch_5 : decode cX12_isPatch 5 = .ok (.ifCond .eq 28, 3) := by decide +kernel
theorem dX12_isPatch_8 : decode cX12_isPatch 8 = .ok (.iload_n 2, 1) := by decide +kernel
theorem dX12_isPatch_9 : decode cX12_isPatch 9 = .ok (.i2l, 1) := by decide +kernel
theorem dX12_isPatch_10 : decode cX12_isPatch 10 = .ok (.lconst 0, 1) := by decide +kernel
theorem dX12_isPatch_11 : decode cX12_isPatch 11 = .ok (.aload_n 0, 1) := by decide +kernel
theorem dX12_isPatch_12 : decode cX12_isPatch 12 = .ok (.getfield 31, 3) := by decide +kernel
theorem dX12_isPatch_15 : decode cX12_isPatch 15 = .ok (.bipush 6, 2) := by decide +kernel
theorem dX12_isPatch_17 : decode cX12_isPatch 17 = .ok (.iload_n 1, 1) := by decide +kernel
theorem dX12_isPatch_18 : decode cX12_isPatch 18 = .ok (.iadd, 1) := by decide +kernel
theorem dX12_isPatch_19 : decode cX12_isPatch 19 = .ok (.iaload, 1) := by decide +kernel
theorem dX12_isPatch_20 : decode cX12_isPatch 20 = .ok (.iconst 1, 1) := by decide +kernel
theorem dX12_isPatch_21 : decode cX12_isPatch 21 = .ok (.isub, 1) := by decide +kernel
theorem dX12_isPatch_22 : decode cX12_isPatch 22 = .ok (.i2l, 1) := by decide +kernel
theorem dX12_isPatch_23 : decode cX12_isPatch 23 = .ok (.invokestatic 85, 3) := by decide +kernel
theorem dX12_isPatch_26 : decode cX12_isPatch 26 = .ok (.ifCond .eq 7, 3) := by decide +kernel
theorem dX12_isPatch_29 : decode cX12_isPatch 29 = .ok (.iconst 1, 1) := by decide +kernel
theorem dX12_isPatch_30 : decode cX12_isPatch 30 = .ok (.goto 4, 3) := by decide +kernel
theorem dX12_isPatch_33 : decode cX12_isPatch 33 = .ok (.iconst 0, 1) := by decide +kernel
theorem dX12_isPatch_34 : decode cX12_isPatch 34 = .ok (.ireturn, 1) := by decide +kernel
theorem ck_X12_152 {l : Launch} {D : va_G} {cy : Nat → ClassId} {R : Room} (hR : 2 ≤ R.frames ∧ 46 ≤ R.locals) : CallOK l D cy R RX12 (.invokevirtual 152) 0 0 (spV 12 1 SP_X12_isSeat) := call_V (ci := 12) (con_X12_isSeat l D cy) (lwG_4 (i := 233) rfl rfl) (lwG_4 (i := 235) rfl rfl) (lwG_p (i := 22) rfl rfl) (lwG_1 (i := 13) rfl rfl) (lwG_4 (i := 236) rfl rfl) (by decide) ⟨rfl, by decide, by decide, rfl⟩ ⟨rfl, rfl⟩ hR
section W_X12_isPatch
variable {p : Program} {l : Launch} {e : Env} {s : State} {m : MethodId} {args : Array Value} {below : List Frame} {meth : Method} {c : Code} {D : va_G} {cy : Nat → ClassId} {G : Nat × Nat} {n0 : Nat} {Qp : Option PV → Mm → Prop}
set_option maxRecDepth 100000 in
set_option maxHeartbeats 4000000 in
theorem k_X12_isPatch_0 {o0 : Nat} {x1 : Int} {x2 : Int} {M : Mm} {Q : Int → Prop} (C : Cx p s m args meth c cX12_isPatch 3 RX12 D cy G n0) (hr : meth.sig.returnType = some .boolean) (h3 : n0 = 243) (hn : M.2.2.2 = n0) (ho0 : o0 < 243 ∧ (SH o0).1 = 12) (hQ : ∀ x, Q x → Qp (some (vI x)) M) (h : P_X12_isPatch o0 x1 x2 M Q ) : WW p l e ({ frames := 2, cells := 0, slots := 0, locals := 46 }) s m args below meth c (ZQ below args s D cy G n0 Qp n0) 3 D cy G n0 0 [(0, vR (some o0)), (1, vI x1), (2, vI x2)] [] M := by
  unfold P_X12_isPatch at h
  refine w_aload_n C dX12_isPatch_0 rfl (mem_k 0 rfl) ?_
  refine w_iload_n C dX12_isPatch_1 rfl (mem_k 1 rfl) ?_
  refine cl_X12_isSeat (ck_X12_152 ⟨by decide, by decide⟩) C dX12_isPatch_2 hn h3 (Nat.le_of_ble_eq_true rfl) (isO.n (ci := 12) ⟨rfl, ho0⟩ (hn.trans h3)) h (fun v1 h => ?_)
  refine w_if_eq (tgt := 33) C dX12_isPatch_5 (by decide) (fun q => ?_) (fun q => ?_)
  · replace h := h.1 q
    refine w_iconst C dX12_isPatch_33 ⟨by decide, by decide⟩ ?_
    exact x_zret C hr dX12_isPatch_34 hn (by decide) (hQ _ h)
  · replace h := h.2 q
    refine w_iload_n C dX12_isPatch_8 rfl (mem_k 2 rfl) ?_
    refine w_i2l C dX12_isPatch_9 ?_
    refine w_lconst C dX12_isPatch_10 ?_
    refine w_aload_n C dX12_isPatch_11 rfl (mem_k 0 rfl) ?_
    refine x_getR C dX12_isPatch_12 fw_X12_31 (isO.n (ci := 12) ⟨rfl, ho0⟩ (hn.trans h3)) (fun r2 er2 => ?_)
    replace h := h r2 er2
    refine w_bipush C dX12_isPatch_15 (by decide) ?_
    refine w_iload_n C dX12_isPatch_17 rfl (mem_k 1 rfl) ?_
    refine w_iadd C dX12_isPatch_18 h.1 ?_
    replace h := h.2
    obtain ⟨o3, g4, h⟩ := h
    refine x_iald C dX12_isPatch_19 (isA.n g4 (hn.trans h3)) ?_
    refine w_iconst C dX12_isPatch_20 ⟨by decide, by decide⟩ ?_
    refine w_isub C dX12_isPatch_21 h.1 ?_
    replace h := h.2
    refine w_i2l C dX12_isPatch_22 ?_
    refine cl_X12_in (ck_X12_85 ⟨by decide, by decide⟩) C dX12_isPatch_23 hn h3 (Nat.le_of_ble_eq_true rfl) h (fun v5 h => ?_)
    refine w_if_eq (tgt := 33) C dX12_isPatch_26 (by decide) (fun q => ?_) (fun q => ?_)
    · replace h := h.1 q
      refine w_iconst C dX12_isPatch_33 ⟨by decide, by decide⟩ ?_
      exact x_zret C hr dX12_isPatch_34 hn (by decide) (hQ _ h)
    · replace h := h.2 q
      refine w_iconst C dX12_isPatch_29 ⟨by decide, by decide⟩ ?_
      refine w_goto (tgt := 34) C dX12_isPatch_30 (by decide) ?_
      exact x_zret C hr dX12_isPatch_34 hn (by decide) (hQ _ h)
set_option maxRecDepth 100000 in
set_option maxHeartbeats 4000000 in
theorem con_X12_isPatch (l : Launch) (D : va_G) (cy : Nat → ClassId) : Con l D cy yX12_isPatch cX12_isPatch 3 (some .boolean) ({ frames := 2, cells := 0, slots := 0, locals := 46 }) 0 0 SP_X12_isPatch := by
  refine con_of (by decide) (fun as M Qp h => ?_) ?_
  · obtain ⟨-, o0, x1, x2, rfl, -⟩ := h
    exact Nat.le_of_ble_eq_true rfl
  · intro p e s m args below meth c G as M Qp h C hr hnm
    obtain ⟨hn, o0, x1, x2, rfl, ho1, ho2, Q0, hQ, h⟩ := h
    refine x_pick (L' := [(0, vR (some o0)), (1, vI x1), (2, vI x2)]) [0, 1, 2] rfl ?_
    exact k_X12_isPatch_0 C hr hn rfl ⟨ho1, ho2⟩ hQ h
set_option maxRecDepth 100000 in
set_option maxHeartbeats 4000000 in
theorem cl_X12_isPatch {p : Program} {l : Launch} {e : Env} {R : Room} {s : State} {m : MethodId} {args : Array Value} {below : List Frame} {meth : Method} {c : Code} {Q : State → Prop} {cc : ByteArray} {nL : Nat} {own : String} {D : va_G} {cy : Nat → ClassId} {G : Nat × Nat} {n0 pc : Nat} {L : List (Nat × PV)} {st : List PV} {M : Mm} {op : Instr} (K : CallOK l D cy R own op 0 0 (spV 12 2 SP_X12_isPatch)) (C : Cx p s m args meth c cc nL own D cy G n0) (hd : decode cc pc = .ok (op, 3)) (hn : M.2.2.2 = n0) (h3 : n0 = 243) (hlen : argN st ≤ 8) {r : Option Nat} {o0 : Nat} (ho : isOn 12 M.2.2.2 r o0) {x1 : Int} {x2 : Int} {Q0 : Int → Prop} (h : P_X12_isPatch o0 x1 x2 M Q0) (k : ∀ x, Q0 x → WW p l e R s m args below meth c Q nL D cy G n0  (pc + 3) L (vI x :: st) M) : WW p l e R s m args below meth c Q nL D cy G n0  pc L (vI x2 :: vI x1 :: vR r :: st) M := by
  obtain ⟨rfl, ho1, ho2⟩ := ho
  refine x_call0 K C hd (as := [vR (some o0), vI x1, vI x2]) rfl hn hlen (fun v M2 => ∃ x, v = some (vI x) ∧ M2 = M ∧ Q0 x) ⟨⟨o0, [vI x1, vI x2], rfl, rfl, ho1, ho2⟩, hn.trans h3, o0, x1, x2, rfl, (hn.trans h3) ▸ ho1, ho2, Q0, fun x hx => ⟨x, rfl, rfl, hx⟩, h⟩ ?_
  rintro _ _ ⟨x, rfl, rfl, hx⟩ hm
  exact k x hx
end W_X12_isPatch
