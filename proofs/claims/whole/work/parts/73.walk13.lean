/-! model: pure predicates, decode rows, walks, contracts; by program (wip/gen/walk.py) -/
theorem dX12_score_0 : decode cX12_score 0 = .ok (.aload_n 0, 1) := by decide +kernel
theorem dX12_score_1 : decode cX12_score 1 = .ok (.iload_n 1, 1) := by decide +kernel
theorem dX12_score_2 : decode cX12_score 2 = .ok (.invokevirtual 152, 3) := by decide +kernel
theorem dX12_score_5 : decode cX12_score 5 = .ok (.ifCond .eq 13, 3) := by decide +kernel
theorem dX12_score_8 : decode cX12_score 8 = .ok (.iload_n 2, 1) := by decide +kernel
theorem dX12_score_9 : decode cX12_score 9 = .ok (.i2l, 1) := by decide +kernel
theorem dX12_score_10 : decode cX12_score 10 = .ok (.lconst 0, 1) := by decide +kernel
theorem dX12_score_11 : decode cX12_score 11 = .ok (.lconst 1, 1) := by decide +kernel
theorem dX12_score_12 : decode cX12_score 12 = .ok (.invokestatic 85, 3) := by decide +kernel
theorem dX12_score_15 : decode cX12_score 15 = .ok (.ifCond .ne 6, 3) := by decide +kernel
theorem dX12_score_18 : decode cX12_score 18 = .ok (.ldc 187, 2) := by decide +kernel
theorem dX12_score_20 : decode cX12_score 20 = .ok (.ireturn, 1) := by decide +kernel
theorem dX12_score_21 : decode cX12_score 21 = .ok (.iconst 0, 1) := by decide +kernel
theorem dX12_score_22 : decode cX12_score 22 = .ok (.istore_n 3, 1) := by decide +kernel
theorem dX12_score_23 : decode cX12_score 23 = .ok (.iconst 0, 1) := by decide +kernel
theorem dX12_score_24 : decode cX12_score 24 = .ok (.istore 4, 2) := by decide +kernel
theorem dX12_score_26 : decode cX12_score 26 = .ok (.iload 4, 2) := by decide +kernel
theorem dX12_score_28 : decode cX12_score 28 = .ok (.aload_n 0, 1) := by decide +kernel
theorem dX12_score_29 : decode cX12_score 29 = .ok (.getfield 149, 3) := by decide +kernel
theorem dX12_score_32 : decode cX12_score 32 = .ok (.if_icmp .ge 141, 3) := by decide +kernel
theorem dX12_score_35 : decode cX12_score 35 = .ok (.iconst 0, 1) := by decide +kernel
theorem dX12_score_36 : decode cX12_score 36 = .ok (.istore 5, 2) := by decide +kernel
theorem dX12_score_38 : decode cX12_score 38 = .ok (.iconst 0, 1) := by decide +kernel
theorem dX12_score_39 : decode cX12_score 39 = .ok (.istore 6, 2) := by decide +kernel
theorem dX12_score_41 : decode cX12_score 41 = .ok (.iconst 0, 1) := by decide +kernel
theorem dX12_score_42 : decode cX12_score 42 = .ok (.istore 7, 2) := by decide +kernel
theorem dX12_score_44 : decode cX12_score 44 = .ok (.iload 7, 2) := by decide +kernel
theorem dX12_score_46 : decode cX12_score 46 = .ok (.bipush 6, 2) := by decide +kernel
theorem dX12_score_48 : decode cX12_score 48 = .ok (.if_icmp .ge 73, 3) := by decide +kernel
theorem dX12_score_51 : decode cX12_score 51 = .ok (.iload 5, 2) := by decide +kernel
theorem dX12_score_53 : decode cX12_score 53 = .ok (.aload_n 0, 1) := by decide +kernel
theorem dX12_score_54 : decode cX12_score 54 = .ok (.getfield 49, 3) := by decide +kernel
theorem dX12_score_57 : decode cX12_score 57 = .ok (.bipush 6, 2) := by decide +kernel
theorem dX12_score_59 : decode cX12_score 59 = .ok (.iload 4, 2) := by decide +kernel
theorem dX12_score_61 : decode cX12_score 61 = .ok (.imul, 1) := by decide +kernel
theorem dX12_score_62 : decode cX12_score 62 = .ok (.iload 7, 2) := by decide +kernel
theorem dX12_score_64 : decode cX12_score 64 = .ok (.iadd, 1) := by decide +kernel
theorem dX12_score_65 : decode cX12_score 65 = .ok (.iaload, 1) := by decide +kernel
theorem dX12_score_66 : decode cX12_score 66 = .ok (.ifCond .ge 7, 3) := by decide +kernel
theorem dX12_score_69 : decode cX12_score 69 = .ok (.iconst 0, 1) := by decide +kernel
theorem dX12_score_70 : decode cX12_score 70 = .ok (.goto 16, 3) := by decide +kernel
theorem dX12_score_73 : decode cX12_score 73 = .ok (.aload_n 0, 1) := by decide +kernel
theorem dX12_score_74 : decode cX12_score 74 = .ok (.getfield 49, 3) := by decide +kernel
theorem dX12_score_77 : decode cX12_score 77 = .ok (.bipush 6, 2) := by decide +kernel
theorem dX12_score_79 : decode cX12_score 79 = .ok (.iload 4, 2) := by decide +kernel
theorem dX12_score_81 : decode cX12_score 81 = .ok (.imul, 1) := by decide +kernel
theorem dX12_score_82 : decode cX12_score 82 = .ok (.iload 7, 2) := by decide +kernel
theorem dX12_score_84 : decode cX12_score 84 = .ok (.iadd, 1) := by decide +kernel
theorem dX12_score_85 : decode cX12_score 85 = .ok (.iaload, 1) := by decide +kernel
theorem dX12_score_86 : decode cX12_score 86 = .ok (.iadd, 1) := by decide +kernel
theorem dX12_score_87 : decode cX12_score 87 = .ok (.istore 5, 2) := by decide +kernel
theorem dX12_score_89 : decode cX12_score 89 = .ok (.iload 6, 2) := by decide +kernel
theorem dX12_score_91 : decode cX12_score 91 = .ok (.aload_n 0, 1) := by decide +kernel
theorem dX12_score_92 : decode cX12_score 92 = .ok (.getfield 49, 3) := by decide +kernel
theorem dX12_score_95 : decode cX12_score 95 = .ok (.bipush 6, 2) := by decide +kernel
theorem dX12_score_97 : decode cX12_score 97 = .ok (.iload 4, 2) := by decide +kernel
theorem dX12_score_99 : decode cX12_score 99 = .ok (.imul, 1) := by decide +kernel
theorem dX12_score_100 : decode cX12_score 100 = .ok (.iload 7, 2) := by decide +kernel
theorem dX12_score_102 : decode cX12_score 102 = .ok (.iadd, 1) := by decide +kernel
theorem dX12_score_103 : decode cX12_score 103 = .ok (.iaload, 1) := by decide +kernel
theorem dX12_score_104 : decode cX12_score 104 = .ok (.ifCond .ge 7, 3) := by decide +kernel
theorem dX12_score_107 : decode cX12_score 107 = .ok (.iconst 0, 1) := by decide +kernel
theorem dX12_score_108 : decode cX12_score 108 = .ok (.goto 4, 3) := by decide +kernel
theorem dX12_score_111 : decode cX12_score 111 = .ok (.iconst 1, 1) := by decide +kernel
theorem dX12_score_112 : decode cX12_score 112 = .ok (.iadd, 1) := by decide +kernel
theorem dX12_score_113 : decode cX12_score 113 = .ok (.istore 6, 2) := by decide +kernel
theorem dX12_score_115 : decode cX12_score 115 = .ok (.iinc 7 1, 3) := by decide +kernel
theorem dX12_score_118 : decode cX12_score 118 = .ok (.goto (-74), 3) := by decide +kernel
theorem dX12_score_121 : decode cX12_score 121 = .ok (.iload_n 3, 1) := by decide +kernel
theorem dX12_score_122 : decode cX12_score 122 = .ok (.aload_n 0, 1) := by decide +kernel
theorem dX12_score_123 : decode cX12_score 123 = .ok (.getfield 49, 3) := by decide +kernel
theorem dX12_score_126 : decode cX12_score 126 = .ok (.bipush 6, 2) := by decide +kernel
theorem dX12_score_128 : decode cX12_score 128 = .ok (.iload 4, 2) := by decide +kernel
theorem dX12_score_130 : decode cX12_score 130 = .ok (.imul, 1) := by decide +kernel
theorem dX12_score_131 : decode cX12_score 131 = .ok (.iload_n 1, 1) := by decide +kernel
theorem dX12_score_132 : decode cX12_score 132 = .ok (.iadd, 1) := by decide +kernel
theorem dX12_score_133 : decode cX12_score 133 = .ok (.iaload, 1) := by decide +kernel
theorem dX12_score_134 : decode cX12_score 134 = .ok (.ifCond .ge 7, 3) := by decide +kernel
theorem dX12_score_137 : decode cX12_score 137 = .ok (.iconst 0, 1) := by decide +kernel
theorem dX12_score_138 : decode cX12_score 138 = .ok (.goto 27, 3) := by decide +kernel
theorem dX12_score_141 : decode cX12_score 141 = .ok (.bipush 60, 2) := by decide +kernel
theorem dX12_score_143 : decode cX12_score 143 = .ok (.aload_n 0, 1) := by decide +kernel
theorem dX12_score_144 : decode cX12_score 144 = .ok (.getfield 49, 3) := by decide +kernel
theorem dX12_score_147 : decode cX12_score 147 = .ok (.bipush 6, 2) := by decide +kernel
theorem dX12_score_149 : decode cX12_score 149 = .ok (.iload 4, 2) := by decide +kernel
theorem dX12_score_151 : decode cX12_score 151 = .ok (.imul, 1) := by decide +kernel
theorem dX12_score_152 : decode cX12_score 152 = .ok (.iload_n 1, 1) := by decide +kernel
theorem dX12_score_153 : decode cX12_score 153 = .ok (.iadd, 1) := by decide +kernel
theorem dX12_score_154 : decode cX12_score 154 = .ok (.iaload, 1) := by decide +kernel
theorem dX12_score_155 : decode cX12_score 155 = .ok (.imul, 1) := by decide +kernel
theorem dX12_score_156 : decode cX12_score 156 = .ok (.bipush 60, 2) := by decide +kernel
theorem dX12_score_158 : decode cX12_score 158 = .ok (.iload 6, 2) := by decide +kernel
theorem dX12_score_160 : decode cX12_score 160 = .ok (.idiv, 1) := by decide +kernel
theorem dX12_score_161 : decode cX12_score 161 = .ok (.iload 5, 2) := by decide +kernel
theorem dX12_score_163 : decode cX12_score 163 = .ok (.imul, 1) := by decide +kernel
theorem dX12_score_164 : decode cX12_score 164 = .ok (.isub, 1) := by decide +kernel
theorem dX12_score_165 : decode cX12_score 165 = .ok (.iadd, 1) := by decide +kernel
theorem dX12_score_166 : decode cX12_score 166 = .ok (.istore_n 3, 1) := by decide +kernel
theorem dX12_score_167 : decode cX12_score 167 = .ok (.iinc 4 1, 3) := by decide +kernel
theorem dX12_score_170 : decode cX12_score 170 = .ok (.goto (-144), 3) := by decide +kernel
theorem dX12_score_173 : decode cX12_score 173 = .ok (.iload_n 3, 1) := by decide +kernel
theorem dX12_score_174 : decode cX12_score 174 = .ok (.i2l, 1) := by decide +kernel
theorem dX12_score_175 : decode cX12_score 175 = .ok (.ldc2_w 277, 3) := by decide +kernel
theorem dX12_score_178 : decode cX12_score 178 = .ok (.invokestatic 176, 3) := by decide +kernel
theorem dX12_score_181 : decode cX12_score 181 = .ok (.l2i, 1) := by decide +kernel
theorem dX12_score_182 : decode cX12_score 182 = .ok (.istore 4, 2) := by decide +kernel
theorem dX12_score_184 : decode cX12_score 184 = .ok (.iload_n 2, 1) := by decide +kernel
theorem dX12_score_185 : decode cX12_score 185 = .ok (.ifCond .ne 10, 3) := by decide +kernel
theorem dX12_score_188 : decode cX12_score 188 = .ok (.iload_n 3, 1) := by decide +kernel
theorem dX12_score_189 : decode cX12_score 189 = .ok (.iload 4, 2) := by decide +kernel
theorem dX12_score_191 : decode cX12_score 191 = .ok (.idiv, 1) := by decide +kernel
theorem dX12_score_192 : decode cX12_score 192 = .ok (.goto 8, 3) := by decide +kernel
theorem dX12_score_195 : decode cX12_score 195 = .ok (.bipush 60, 2) := by decide +kernel
theorem dX12_score_197 : decode cX12_score 197 = .ok (.iload 4, 2) := by decide +kernel
theorem dX12_score_199 : decode cX12_score 199 = .ok (.idiv, 1) := by decide +kernel
theorem dX12_score_200 : decode cX12_score 200 = .ok (.ireturn, 1) := by decide +kernel
theorem cn_X12_277 : Cond.constantLong RX12 277 (Int64.ofInt 60) ∈ lwG := lwG_5 (i := 185) rfl rfl
section W_X12_score
variable {p : Program} {l : Launch} {e : Env} {s : State} {m : MethodId} {args : Array Value} {below : List Frame} {meth : Method} {c : Code} {D : va_G} {cy : Nat → ClassId} {G : Nat × Nat} {n0 : Nat} {Qp : Option PV → Mm → Prop}
set_option maxRecDepth 100000 in
set_option maxHeartbeats 4000000 in
theorem k_X12_score_86 {o0 : Nat} {x1 : Int} {x2 : Int} {x3 : Int} {x4 : Int} {x6 : Int} {x7 : Int} {s0 : Int} {s1 : Int} {M : Mm} {Q : Int → Prop} {K26 : Int × Int → Prop} {K44 : Int × Int × Int → Prop} (C : Cx p s m args meth c cX12_score 8 RX12 D cy G n0) (hr : meth.sig.returnType = some .int) (h3 : n0 = 243) (hn : M.2.2.2 = n0) (ho0 : o0 < 243 ∧ (SH o0).1 = 12) (hQ : ∀ x, Q x → Qp (some (vI x)) M) (hK26 : ∀ (x3 : Int) (x4 : Int), K26 (x3, x4) → WW p l e ({ frames := 2, cells := 0, slots := 0, locals := 46 }) s m args below meth c (ZQ below args s D cy G n0 Qp n0) 8 D cy G n0 26 [(0, vR (some o0)), (1, vI x1), (2, vI x2), (3, vI x3), (4, vI x4)] [] M) (hK44 : ∀ (x5 : Int) (x6 : Int) (x7 : Int), K44 (x5, x6, x7) → WW p l e ({ frames := 2, cells := 0, slots := 0, locals := 46 }) s m args below meth c (ZQ below args s D cy G n0 Qp n0) 8 D cy G n0 44 [(0, vR (some o0)), (1, vI x1), (2, vI x2), (3, vI x3), (4, vI x4), (5, vI x5), (6, vI x6), (7, vI x7)] [] M) (h : P_X12_score_86 o0 x1 x2 x3 x4 x6 x7 s0 s1 M Q K26 K44) : WW p l e ({ frames := 2, cells := 0, slots := 0, locals := 46 }) s m args below meth c (ZQ below args s D cy G n0 Qp n0) 8 D cy G n0 86 [(0, vR (some o0)), (1, vI x1), (2, vI x2), (3, vI x3), (4, vI x4), (6, vI x6), (7, vI x7)] [vI s1, vI s0] M := by
  unfold P_X12_score_86 at h
  refine w_iadd C dX12_score_86 h.1 ?_
  replace h := h.2
  refine x_nmI (fun v1 ev1 => ?_)
  replace h := h v1 ev1
  refine x_istore (L' := [(5, vI v1), (0, vR (some o0)), (1, vI x1), (2, vI x2), (3, vI x3), (4, vI x4), (6, vI x6), (7, vI x7)]) C dX12_score_87 (by decide) rfl ?_
  refine w_iload C dX12_score_89 (mem_k 6 rfl) ?_
  refine w_aload_n C dX12_score_91 rfl (mem_k 1 rfl) ?_
  refine x_getR C dX12_score_92 fw_X12_49 (isO.n (ci := 12) ⟨rfl, ho0⟩ (hn.trans h3)) (fun r2 er2 => ?_)
  replace h := h r2 er2
  refine w_bipush C dX12_score_95 (by decide) ?_
  refine w_iload C dX12_score_97 (mem_k 5 rfl) ?_
  refine w_imul C dX12_score_99 h.1 ?_
  replace h := h.2
  refine w_iload C dX12_score_100 (mem_k 7 rfl) ?_
  refine w_iadd C dX12_score_102 h.1 ?_
  replace h := h.2
  obtain ⟨o3, g4, h⟩ := h
  refine x_iald C dX12_score_103 (isA.n g4 (hn.trans h3)) ?_
  refine w_if_ge (tgt := 111) C dX12_score_104 (by decide) (fun q => ?_) (fun q => ?_)
  · replace h := h.1 q
    refine w_iconst C dX12_score_111 ⟨by decide, by decide⟩ ?_
    refine w_iadd C dX12_score_112 h.1 ?_
    replace h := h.2
    refine x_nmI (fun v5 ev5 => ?_)
    replace h := h v5 ev5
    refine x_istore (L' := [(6, vI v5), (5, vI v1), (0, vR (some o0)), (1, vI x1), (2, vI x2), (3, vI x3), (4, vI x4), (7, vI x7)]) C dX12_score_113 (by decide) rfl ?_
    obtain ⟨v6, ev6⟩ : ∃ z : Int, z = x7 + 1 := ⟨_, rfl⟩
    refine x_iinc (L' := [(7, vI v6), (6, vI v5), (5, vI v1), (0, vR (some o0)), (1, vI x1), (2, vI x2), (3, vI x3), (4, vI x4)]) C dX12_score_115 (mem_k 7 rfl) (by decide) h.1 ev6 rfl ?_
    replace h := h.2 v6 ev6
    refine w_goto (tgt := 44) C dX12_score_118 (by decide) ?_
    refine x_pc (pc2 := 44) rfl ?_
    refine x_pick (L' := [(0, vR (some o0)), (1, vI x1), (2, vI x2), (3, vI x3), (4, vI x4), (5, vI v1), (6, vI v5), (7, vI v6)]) [3, 4, 5, 6, 7, 2, 1, 0] rfl ?_
    exact hK44 v1 v5 v6 h
  · replace h := h.2 q
    refine w_iconst C dX12_score_107 ⟨by decide, by decide⟩ ?_
    refine w_goto (tgt := 112) C dX12_score_108 (by decide) ?_
    refine w_iadd C dX12_score_112 h.1 ?_
    replace h := h.2
    refine x_nmI (fun v7 ev7 => ?_)
    replace h := h v7 ev7
    refine x_istore (L' := [(6, vI v7), (5, vI v1), (0, vR (some o0)), (1, vI x1), (2, vI x2), (3, vI x3), (4, vI x4), (7, vI x7)]) C dX12_score_113 (by decide) rfl ?_
    obtain ⟨v8, ev8⟩ : ∃ z : Int, z = x7 + 1 := ⟨_, rfl⟩
    refine x_iinc (L' := [(7, vI v8), (6, vI v7), (5, vI v1), (0, vR (some o0)), (1, vI x1), (2, vI x2), (3, vI x3), (4, vI x4)]) C dX12_score_115 (mem_k 7 rfl) (by decide) h.1 ev8 rfl ?_
    replace h := h.2 v8 ev8
    refine w_goto (tgt := 44) C dX12_score_118 (by decide) ?_
    refine x_pc (pc2 := 44) rfl ?_
    refine x_pick (L' := [(0, vR (some o0)), (1, vI x1), (2, vI x2), (3, vI x3), (4, vI x4), (5, vI v1), (6, vI v7), (7, vI v8)]) [3, 4, 5, 6, 7, 2, 1, 0] rfl ?_
    exact hK44 v1 v7 v8 h
set_option maxRecDepth 100000 in
set_option maxHeartbeats 4000000 in
theorem f_X12_score_44 {o0 : Nat} {x1 : Int} {x2 : Int} {x3 : Int} {x4 : Int} {x5 : Int} {x6 : Int} {x7 : Int} {M : Mm} {Q : Int → Prop} {K26 : Int × Int → Prop} {K44 : Int × Int × Int → Prop} (C : Cx p s m args meth c cX12_score 8 RX12 D cy G n0) (hr : meth.sig.returnType = some .int) (h3 : n0 = 243) (hn : M.2.2.2 = n0) (ho0 : o0 < 243 ∧ (SH o0).1 = 12) (hQ : ∀ x, Q x → Qp (some (vI x)) M) (hK26 : ∀ (x3 : Int) (x4 : Int), K26 (x3, x4) → WW p l e ({ frames := 2, cells := 0, slots := 0, locals := 46 }) s m args below meth c (ZQ below args s D cy G n0 Qp n0) 8 D cy G n0 26 [(0, vR (some o0)), (1, vI x1), (2, vI x2), (3, vI x3), (4, vI x4)] [] M) (hK44 : ∀ (x5 : Int) (x6 : Int) (x7 : Int), K44 (x5, x6, x7) → WW p l e ({ frames := 2, cells := 0, slots := 0, locals := 46 }) s m args below meth c (ZQ below args s D cy G n0 Qp n0) 8 D cy G n0 44 [(0, vR (some o0)), (1, vI x1), (2, vI x2), (3, vI x3), (4, vI x4), (5, vI x5), (6, vI x6), (7, vI x7)] [] M) (h : F_X12_score_44 o0 x1 x2 x3 x4 M Q K26 K44 x5 x6 x7) : WW p l e ({ frames := 2, cells := 0, slots := 0, locals := 46 }) s m args below meth c (ZQ below args s D cy G n0 Qp n0) 8 D cy G n0 44 [(0, vR (some o0)), (1, vI x1), (2, vI x2), (3, vI x3), (4, vI x4), (5, vI x5), (6, vI x6), (7, vI x7)] [] M := by
  unfold F_X12_score_44 at h
  refine w_iload C dX12_score_44 (mem_k 7 rfl) ?_
  refine w_bipush C dX12_score_46 (by decide) ?_
  refine w_icmp_ge (tgt := 121) C dX12_score_48 (by decide) (fun q => ?_) (fun q => ?_)
  · replace h := h.1 q
    refine w_iload_n C dX12_score_121 rfl (mem_k 3 rfl) ?_
    refine w_aload_n C dX12_score_122 rfl (mem_k 0 rfl) ?_
    refine x_getR C dX12_score_123 fw_X12_49 (isO.n (ci := 12) ⟨rfl, ho0⟩ (hn.trans h3)) (fun r9 er9 => ?_)
    replace h := h r9 er9
    refine w_bipush C dX12_score_126 (by decide) ?_
    refine w_iload C dX12_score_128 (mem_k 4 rfl) ?_
    refine w_imul C dX12_score_130 h.1 ?_
    replace h := h.2
    refine w_iload_n C dX12_score_131 rfl (mem_k 1 rfl) ?_
    refine w_iadd C dX12_score_132 h.1 ?_
    replace h := h.2
    obtain ⟨o10, g11, h⟩ := h
    refine x_iald C dX12_score_133 (isA.n g11 (hn.trans h3)) ?_
    refine w_if_ge (tgt := 141) C dX12_score_134 (by decide) (fun q => ?_) (fun q => ?_)
    · replace h := h.1 q
      refine w_bipush C dX12_score_141 (by decide) ?_
      refine w_aload_n C dX12_score_143 rfl (mem_k 0 rfl) ?_
      refine x_getR C dX12_score_144 fw_X12_49 (isO.n (ci := 12) ⟨rfl, ho0⟩ (hn.trans h3)) (fun r12 er12 => ?_)
      replace h := h r12 er12
      refine w_bipush C dX12_score_147 (by decide) ?_
      refine w_iload C dX12_score_149 (mem_k 4 rfl) ?_
      refine w_imul C dX12_score_151 h.1 ?_
      replace h := h.2
      refine w_iload_n C dX12_score_152 rfl (mem_k 1 rfl) ?_
      refine w_iadd C dX12_score_153 h.1 ?_
      replace h := h.2
      obtain ⟨o13, g14, h⟩ := h
      refine x_iald C dX12_score_154 (isA.n g14 (hn.trans h3)) ?_
      refine w_imul C dX12_score_155 h.1 ?_
      replace h := h.2
      refine w_bipush C dX12_score_156 (by decide) ?_
      refine w_iload C dX12_score_158 (mem_k 6 rfl) ?_
      refine x_idiv C dX12_score_160 h.1 ?_
      replace h := h.2
      refine w_iload C dX12_score_161 (mem_k 5 rfl) ?_
      refine w_imul C dX12_score_163 h.1 ?_
      replace h := h.2
      refine w_isub C dX12_score_164 h.1 ?_
      replace h := h.2
      refine w_iadd C dX12_score_165 h.1 ?_
      replace h := h.2
      refine x_nmI (fun v15 ev15 => ?_)
      replace h := h v15 ev15
      refine x_istore_n (L' := [(3, vI v15), (0, vR (some o0)), (1, vI x1), (2, vI x2), (4, vI x4), (5, vI x5), (6, vI x6), (7, vI x7)]) C dX12_score_166 rfl (by decide) rfl ?_
      obtain ⟨v16, ev16⟩ : ∃ z : Int, z = x4 + 1 := ⟨_, rfl⟩
      refine x_iinc (L' := [(4, vI v16), (3, vI v15), (0, vR (some o0)), (1, vI x1), (2, vI x2), (5, vI x5), (6, vI x6), (7, vI x7)]) C dX12_score_167 (mem_k 4 rfl) (by decide) h.1 ev16 rfl ?_
      replace h := h.2 v16 ev16
      refine w_goto (tgt := 26) C dX12_score_170 (by decide) ?_
      refine x_pc (pc2 := 26) rfl ?_
      refine x_pick (L' := [(0, vR (some o0)), (1, vI x1), (2, vI x2), (3, vI v15), (4, vI v16)]) [2, 3, 4, 1, 0] rfl ?_
      exact hK26 v15 v16 h
    · replace h := h.2 q
      refine w_iconst C dX12_score_137 ⟨by decide, by decide⟩ ?_
      refine w_goto (tgt := 165) C dX12_score_138 (by decide) ?_
      refine w_iadd C dX12_score_165 h.1 ?_
      replace h := h.2
      refine x_nmI (fun v17 ev17 => ?_)
      replace h := h v17 ev17
      refine x_istore_n (L' := [(3, vI v17), (0, vR (some o0)), (1, vI x1), (2, vI x2), (4, vI x4), (5, vI x5), (6, vI x6), (7, vI x7)]) C dX12_score_166 rfl (by decide) rfl ?_
      obtain ⟨v18, ev18⟩ : ∃ z : Int, z = x4 + 1 := ⟨_, rfl⟩
      refine x_iinc (L' := [(4, vI v18), (3, vI v17), (0, vR (some o0)), (1, vI x1), (2, vI x2), (5, vI x5), (6, vI x6), (7, vI x7)]) C dX12_score_167 (mem_k 4 rfl) (by decide) h.1 ev18 rfl ?_
      replace h := h.2 v18 ev18
      refine w_goto (tgt := 26) C dX12_score_170 (by decide) ?_
      refine x_pc (pc2 := 26) rfl ?_
      refine x_pick (L' := [(0, vR (some o0)), (1, vI x1), (2, vI x2), (3, vI v17), (4, vI v18)]) [2, 3, 4, 1, 0] rfl ?_
      exact hK26 v17 v18 h
  · replace h := h.2 q
    refine w_iload C dX12_score_51 (mem_k 5 rfl) ?_
    refine w_aload_n C dX12_score_53 rfl (mem_k 0 rfl) ?_
    refine x_getR C dX12_score_54 fw_X12_49 (isO.n (ci := 12) ⟨rfl, ho0⟩ (hn.trans h3)) (fun r19 er19 => ?_)
    replace h := h r19 er19
    refine w_bipush C dX12_score_57 (by decide) ?_
    refine w_iload C dX12_score_59 (mem_k 4 rfl) ?_
    refine w_imul C dX12_score_61 h.1 ?_
    replace h := h.2
    refine w_iload C dX12_score_62 (mem_k 7 rfl) ?_
    refine w_iadd C dX12_score_64 h.1 ?_
    replace h := h.2
    obtain ⟨o20, g21, h⟩ := h
    refine x_iald C dX12_score_65 (isA.n g21 (hn.trans h3)) ?_
    refine w_if_ge (tgt := 73) C dX12_score_66 (by decide) (fun q => ?_) (fun q => ?_)
    · replace h := h.1 q
      refine w_aload_n C dX12_score_73 rfl (mem_k 0 rfl) ?_
      refine x_getR C dX12_score_74 fw_X12_49 (isO.n (ci := 12) ⟨rfl, ho0⟩ (hn.trans h3)) (fun r22 er22 => ?_)
      replace h := h r22 er22
      refine w_bipush C dX12_score_77 (by decide) ?_
      refine w_iload C dX12_score_79 (mem_k 4 rfl) ?_
      refine w_imul C dX12_score_81 h.1 ?_
      replace h := h.2
      refine w_iload C dX12_score_82 (mem_k 7 rfl) ?_
      refine w_iadd C dX12_score_84 h.1 ?_
      replace h := h.2
      obtain ⟨o23, g24, h⟩ := h
      refine x_iald C dX12_score_85 (isA.n g24 (hn.trans h3)) ?_
      refine x_pc (pc2 := 86) rfl ?_
      refine x_pick (L' := [(0, vR (some o0)), (1, vI x1), (2, vI x2), (3, vI x3), (4, vI x4), (6, vI x6), (7, vI x7)]) [0, 1, 2, 3, 4, 6, 7] rfl ?_
      exact k_X12_score_86 C hr h3 hn ho0 hQ hK26 hK44 h
    · replace h := h.2 q
      refine w_iconst C dX12_score_69 ⟨by decide, by decide⟩ ?_
      refine w_goto (tgt := 86) C dX12_score_70 (by decide) ?_
      refine x_pc (pc2 := 86) rfl ?_
      refine x_pick (L' := [(0, vR (some o0)), (1, vI x1), (2, vI x2), (3, vI x3), (4, vI x4), (6, vI x6), (7, vI x7)]) [0, 1, 2, 3, 4, 6, 7] rfl ?_
      exact k_X12_score_86 C hr h3 hn ho0 hQ hK26 hK44 h
set_option maxRecDepth 100000 in
set_option maxHeartbeats 4000000 in
theorem k_X12_score_44 {o0 : Nat} {x1 : Int} {x2 : Int} {x3 : Int} {x4 : Int} {x5 : Int} {x6 : Int} {x7 : Int} {M : Mm} {Q : Int → Prop} {K26 : Int × Int → Prop} (C : Cx p s m args meth c cX12_score 8 RX12 D cy G n0) (hr : meth.sig.returnType = some .int) (h3 : n0 = 243) (hn : M.2.2.2 = n0) (ho0 : o0 < 243 ∧ (SH o0).1 = 12) (hQ : ∀ x, Q x → Qp (some (vI x)) M) (hK26 : ∀ (x3 : Int) (x4 : Int), K26 (x3, x4) → WW p l e ({ frames := 2, cells := 0, slots := 0, locals := 46 }) s m args below meth c (ZQ below args s D cy G n0 Qp n0) 8 D cy G n0 26 [(0, vR (some o0)), (1, vI x1), (2, vI x2), (3, vI x3), (4, vI x4)] [] M) (h : P_X12_score_44 o0 x1 x2 x3 x4 x5 x6 x7 M Q K26) : WW p l e ({ frames := 2, cells := 0, slots := 0, locals := 46 }) s m args below meth c (ZQ below args s D cy G n0 Qp n0) 8 D cy G n0 44 [(0, vR (some o0)), (1, vI x1), (2, vI x2), (3, vI x3), (4, vI x4), (5, vI x5), (6, vI x6), (7, vI x7)] [] M := by
  refine lpW_sound (P := fun y : Int × Int × Int => WW p l e ({ frames := 2, cells := 0, slots := 0, locals := 46 }) s m args below meth c (ZQ below args s D cy G n0 Qp n0) 8 D cy G n0 44 [(0, vR (some o0)), (1, vI x1), (2, vI x2), (3, vI x3), (4, vI x4), (5, vI y.1), (6, vI y.2.1), (7, vI y.2.2)] [] M) ?_ h
  intro K y hK hF
  obtain ⟨x5, x6, x7⟩ := y
  exact f_X12_score_44 C hr h3 hn ho0 hQ hK26 (fun x5 x6 x7 hk => hK (x5, x6, x7) hk) hF
set_option maxRecDepth 100000 in
set_option maxHeartbeats 4000000 in
theorem f_X12_score_26 {o0 : Nat} {x1 : Int} {x2 : Int} {x3 : Int} {x4 : Int} {M : Mm} {Q : Int → Prop} {K26 : Int × Int → Prop} (C : Cx p s m args meth c cX12_score 8 RX12 D cy G n0) (hr : meth.sig.returnType = some .int) (h3 : n0 = 243) (hn : M.2.2.2 = n0) (ho0 : o0 < 243 ∧ (SH o0).1 = 12) (hQ : ∀ x, Q x → Qp (some (vI x)) M) (hK26 : ∀ (x3 : Int) (x4 : Int), K26 (x3, x4) → WW p l e ({ frames := 2, cells := 0, slots := 0, locals := 46 }) s m args below meth c (ZQ below args s D cy G n0 Qp n0) 8 D cy G n0 26 [(0, vR (some o0)), (1, vI x1), (2, vI x2), (3, vI x3), (4, vI x4)] [] M) (h : F_X12_score_26 o0 x1 x2 M Q  K26 x3 x4) : WW p l e ({ frames := 2, cells := 0, slots := 0, locals := 46 }) s m args below meth c (ZQ below args s D cy G n0 Qp n0) 8 D cy G n0 26 [(0, vR (some o0)), (1, vI x1), (2, vI x2), (3, vI x3), (4, vI x4)] [] M := by
  unfold F_X12_score_26 at h
  refine w_iload C dX12_score_26 (mem_k 4 rfl) ?_
  refine w_aload_n C dX12_score_28 rfl (mem_k 0 rfl) ?_
  refine x_getI C dX12_score_29 fw_X12_149 (isO.n (ci := 12) ⟨rfl, ho0⟩ (hn.trans h3)) ?_
  refine w_icmp_ge (tgt := 173) C dX12_score_32 (by decide) (fun q => ?_) (fun q => ?_)
  · replace h := h.1 q
    refine w_iload_n C dX12_score_173 rfl (mem_k 3 rfl) ?_
    refine w_i2l C dX12_score_174 ?_
    refine w_ldc2 (x := 60) C dX12_score_175 cn_X12_277 ⟨by decide, by decide⟩ ?_
    refine cl_X12_common (ck_X12_176 ⟨by decide, by decide⟩) C dX12_score_178 hn h3 (Nat.le_of_ble_eq_true rfl) h (fun v25 h => ?_)
    refine w_l2i C dX12_score_181 ?_
    refine x_nmI (fun v26 ev26 => ?_)
    replace h := h v26 ev26
    refine x_istore (L' := [(4, vI v26), (0, vR (some o0)), (1, vI x1), (2, vI x2), (3, vI x3)]) C dX12_score_182 (by decide) rfl ?_
    refine w_iload_n C dX12_score_184 rfl (mem_k 3 rfl) ?_
    refine w_if_ne (tgt := 195) C dX12_score_185 (by decide) (fun q => ?_) (fun q => ?_)
    · replace h := h.1 q
      refine w_bipush C dX12_score_195 (by decide) ?_
      refine w_iload C dX12_score_197 (mem_k 0 rfl) ?_
      refine x_idiv C dX12_score_199 h.1 ?_
      replace h := h.2
      exact x_iret C hr dX12_score_200 hn (hQ _ h)
    · replace h := h.2 q
      refine w_iload_n C dX12_score_188 rfl (mem_k 4 rfl) ?_
      refine w_iload C dX12_score_189 (mem_k 0 rfl) ?_
      refine x_idiv C dX12_score_191 h.1 ?_
      replace h := h.2
      refine w_goto (tgt := 200) C dX12_score_192 (by decide) ?_
      exact x_iret C hr dX12_score_200 hn (hQ _ h)
  · replace h := h.2 q
    refine w_iconst C dX12_score_35 ⟨by decide, by decide⟩ ?_
    refine x_istore (L' := [(5, vI 0), (0, vR (some o0)), (1, vI x1), (2, vI x2), (3, vI x3), (4, vI x4)]) C dX12_score_36 (by decide) rfl ?_
    refine w_iconst C dX12_score_38 ⟨by decide, by decide⟩ ?_
    refine x_istore (L' := [(6, vI 0), (5, vI 0), (0, vR (some o0)), (1, vI x1), (2, vI x2), (3, vI x3), (4, vI x4)]) C dX12_score_39 (by decide) rfl ?_
    refine w_iconst C dX12_score_41 ⟨by decide, by decide⟩ ?_
    refine x_istore (L' := [(7, vI 0), (6, vI 0), (5, vI 0), (0, vR (some o0)), (1, vI x1), (2, vI x2), (3, vI x3), (4, vI x4)]) C dX12_score_42 (by decide) rfl ?_
    refine x_pc (pc2 := 44) rfl ?_
    refine x_pick (L' := [(0, vR (some o0)), (1, vI x1), (2, vI x2), (3, vI x3), (4, vI x4), (5, vI 0), (6, vI 0), (7, vI 0)]) [3, 4, 5, 6, 7, 2, 1, 0] rfl ?_
    exact k_X12_score_44 C hr h3 hn ho0 hQ hK26 h
set_option maxRecDepth 100000 in
set_option maxHeartbeats 4000000 in
theorem k_X12_score_26 {o0 : Nat} {x1 : Int} {x2 : Int} {x3 : Int} {x4 : Int} {M : Mm} {Q : Int → Prop} (C : Cx p s m args meth c cX12_score 8 RX12 D cy G n0) (hr : meth.sig.returnType = some .int) (h3 : n0 = 243) (hn : M.2.2.2 = n0) (ho0 : o0 < 243 ∧ (SH o0).1 = 12) (hQ : ∀ x, Q x → Qp (some (vI x)) M) (h : P_X12_score_26 o0 x1 x2 x3 x4 M Q ) : WW p l e ({ frames := 2, cells := 0, slots := 0, locals := 46 }) s m args below meth c (ZQ below args s D cy G n0 Qp n0) 8 D cy G n0 26 [(0, vR (some o0)), (1, vI x1), (2, vI x2), (3, vI x3), (4, vI x4)] [] M := by
  refine lpW_sound (P := fun y : Int × Int => WW p l e ({ frames := 2, cells := 0, slots := 0, locals := 46 }) s m args below meth c (ZQ below args s D cy G n0 Qp n0) 8 D cy G n0 26 [(0, vR (some o0)), (1, vI x1), (2, vI x2), (3, vI y.1), (4, vI y.2)] [] M) ?_ h
  intro K y hK hF
  obtain ⟨x3, x4⟩ := y
  exact f_X12_score_26 C hr h3 hn ho0 hQ  (fun x3 x4 hk => hK (x3, x4) hk) hF
set_option maxRecDepth 100000 in
set_option maxHeartbeats 4000000 in
theorem k_X12_score_0 {o0 : Nat} {x1 : Int} {x2 : Int} {M : Mm} {Q : Int → Prop} (C : Cx p s m args meth c cX12_score 8 RX12 D cy G n0) (hr : meth.sig.returnType = some .int) (h3 : n0 = 243) (hn : M.2.2.2 = n0) (ho0 : o0 < 243 ∧ (SH o0).1 = 12) (hQ : ∀ x, Q x → Qp (some (vI x)) M) (h : P_X12_score o0 x1 x2 M Q ) : WW p l e ({ frames := 2, cells := 0, slots := 0, locals := 46 }) s m args below meth c (ZQ below args s D cy G n0 Qp n0) 8 D cy G n0 0 [(0, vR (some o0)), (1, vI x1), (2, vI x2)] [] M := by
  unfold P_X12_score at h
  refine w_aload_n C dX12_score_0 rfl (mem_k 0 rfl) ?_
  refine w_iload_n C dX12_score_1 rfl (mem_k 1 rfl) ?_
  refine cl_X12_isSeat (ck_X12_152 ⟨by decide, by decide⟩) C dX12_score_2 hn h3 (Nat.le_of_ble_eq_true rfl) (isO.n (ci := 12) ⟨rfl, ho0⟩ (hn.trans h3)) h (fun v27 h => ?_)
  refine w_if_eq (tgt := 18) C dX12_score_5 (by decide) (fun q => ?_) (fun q => ?_)
  · replace h := h.1 q
    refine w_ldc (x := (-1000000000)) C dX12_score_18 cn_X12_187 ⟨by decide, by decide⟩ ?_
    exact x_iret C hr dX12_score_20 hn (hQ _ h)
  · replace h := h.2 q
    refine w_iload_n C dX12_score_8 rfl (mem_k 2 rfl) ?_
    refine w_i2l C dX12_score_9 ?_
    refine w_lconst C dX12_score_10 ?_
    refine w_lconst C dX12_score_11 ?_
    refine cl_X12_in (ck_X12_85 ⟨by decide, by decide⟩) C dX12_score_12 hn h3 (Nat.le_of_ble_eq_true rfl) h (fun v28 h => ?_)
    refine w_if_ne (tgt := 21) C dX12_score_15 (by decide) (fun q => ?_) (fun q => ?_)
    · replace h := h.1 q
      refine w_iconst C dX12_score_21 ⟨by decide, by decide⟩ ?_
      refine x_istore_n (L' := [(3, vI 0), (0, vR (some o0)), (1, vI x1), (2, vI x2)]) C dX12_score_22 rfl (by decide) rfl ?_
      refine w_iconst C dX12_score_23 ⟨by decide, by decide⟩ ?_
      refine x_istore (L' := [(4, vI 0), (3, vI 0), (0, vR (some o0)), (1, vI x1), (2, vI x2)]) C dX12_score_24 (by decide) rfl ?_
      refine x_pc (pc2 := 26) rfl ?_
      refine x_pick (L' := [(0, vR (some o0)), (1, vI x1), (2, vI x2), (3, vI 0), (4, vI 0)]) [2, 3, 4, 1, 0] rfl ?_
      exact k_X12_score_26 C hr h3 hn ho0 hQ  h
    · replace h := h.2 q
      refine w_ldc (x := (-1000000000)) C dX12_score_18 cn_X12_187 ⟨by decide, by decide⟩ ?_
      exact x_iret C hr dX12_score_20 hn (hQ _ h)
set_option maxRecDepth 100000 in
set_option maxHeartbeats 4000000 in
theorem con_X12_score (l : Launch) (D : va_G) (cy : Nat → ClassId) : Con l D cy yX12_score cX12_score 8 (some .int) ({ frames := 2, cells := 0, slots := 0, locals := 46 }) 0 0 SP_X12_score := by
  refine con_of (by decide) (fun as M Qp h => ?_) ?_
  · obtain ⟨-, o0, x1, x2, rfl, -⟩ := h
    exact Nat.le_of_ble_eq_true rfl
  · intro p e s m args below meth c G as M Qp h C hr hnm
    obtain ⟨hn, o0, x1, x2, rfl, ho1, ho2, Q0, hQ, h⟩ := h
    refine x_pick (L' := [(0, vR (some o0)), (1, vI x1), (2, vI x2)]) [0, 1, 2] rfl ?_
    exact k_X12_score_0 C hr hn rfl ⟨ho1, ho2⟩ hQ h
set_option maxRecDepth 100000 in
set_option maxHeartbeats 4000000 in
theorem cl_X12_score {p : Program} {l : Launch} {e : Env} {R : Room} {s : State} {m : MethodId} {args : Array Value} {below : List Frame} {meth : Method} {c : Code} {Q : State → Prop} {cc : ByteArray} {nL : Nat} {own : String} {D : va_G} {cy : Nat → ClassId} {G : Nat × Nat} {n0 pc : Nat} {L : List (Nat × PV)} {st : List PV} {M : Mm} {op : Instr} (K : CallOK l D cy R own op 0 0 (spV 12 2 SP_X12_score)) (C : Cx p s m args meth c cc nL own D cy G n0) (hd : decode cc pc = .ok (op, 3)) (hn : M.2.2.2 = n0) (h3 : n0 = 243) (hlen : argN st ≤ 8) {r : Option Nat} {o0 : Nat} (ho : isOn 12 M.2.2.2 r o0) {x1 : Int} {x2 : Int} {Q0 : Int → Prop} (h : P_X12_score o0 x1 x2 M Q0) (k : ∀ x, Q0 x → WW p l e R s m args below meth c Q nL D cy G n0  (pc + 3) L (vI x :: st) M) : WW p l e R s m args below meth c Q nL D cy G n0  pc L (vI x2 :: vI x1 :: vR r :: st) M := by
  obtain ⟨rfl, ho1, ho2⟩ := ho
  refine x_call0 K C hd (as := [vR (some o0), vI x1, vI x2]) rfl hn hlen (fun v M2 => ∃ x, v = some (vI x) ∧ M2 = M ∧ Q0 x) ⟨⟨o0, [vI x1, vI x2], rfl, rfl, ho1, ho2⟩, hn.trans h3, o0, x1, x2, rfl, (hn.trans h3) ▸ ho1, ho2, Q0, fun x hx => ⟨x, rfl, rfl, hx⟩, h⟩ ?_
  rintro _ _ ⟨x, rfl, rfl, hx⟩ hm
  exact k x hx
end W_X12_score
theorem dX12_count_0 : decode cX12_count 0 = .ok (.iconst 0, 1) := by decide +kernel
theorem dX12_count_1 : decode cX12_count 1 = .ok (.istore_n 2, 1) := by decide +kernel
theorem dX12_count_2 : decode cX12_count 2 = .ok (.iload_n 1, 1) := by decide +kernel
theorem dX12_count_3 : decode cX12_count 3 = .ok (.tableswitch 107 0 6 #[41, 46, 53, 60, 92, 97, 102], 41) := by decide +kernel
theorem dX12_count_44 : decode cX12_count 44 = .ok (.aload_n 0, 1) := by decide +kernel
theorem dX12_count_45 : decode cX12_count 45 = .ok (.getfield 89, 3) := by decide +kernel
theorem dX12_count_48 : decode cX12_count 48 = .ok (.ireturn, 1) := by decide +kernel
theorem dX12_count_49 : decode cX12_count 49 = .ok (.aload_n 0, 1) := by decide +kernel
theorem dX12_count_50 : decode cX12_count 50 = .ok (.getfield 13, 3) := by decide +kernel
theorem dX12_count_53 : decode cX12_count 53 = .ok (.iconst 1, 1) := by decide +kernel
theorem dX12_count_54 : decode cX12_count 54 = .ok (.iaload, 1) := by decide +kernel
theorem dX12_count_55 : decode cX12_count 55 = .ok (.ireturn, 1) := by decide +kernel
theorem dX12_count_56 : decode cX12_count 56 = .ok (.aload_n 0, 1) := by decide +kernel
theorem dX12_count_57 : decode cX12_count 57 = .ok (.getfield 25, 3) := by decide +kernel
theorem dX12_count_60 : decode cX12_count 60 = .ok (.iconst 1, 1) := by decide +kernel
theorem dX12_count_61 : decode cX12_count 61 = .ok (.iaload, 1) := by decide +kernel
theorem dX12_count_62 : decode cX12_count 62 = .ok (.ireturn, 1) := by decide +kernel
theorem dX12_count_63 : decode cX12_count 63 = .ok (.iconst 0, 1) := by decide +kernel
theorem dX12_count_64 : decode cX12_count 64 = .ok (.istore_n 3, 1) := by decide +kernel
theorem dX12_count_65 : decode cX12_count 65 = .ok (.iload_n 3, 1) := by decide +kernel
theorem dX12_count_66 : decode cX12_count 66 = .ok (.aload_n 0, 1) := by decide +kernel
theorem dX12_count_67 : decode cX12_count 67 = .ok (.getfield 25, 3) := by decide +kernel
theorem dX12_count_70 : decode cX12_count 70 = .ok (.iconst 1, 1) := by decide +kernel
theorem dX12_count_71 : decode cX12_count 71 = .ok (.iaload, 1) := by decide +kernel
theorem dX12_count_72 : decode cX12_count 72 = .ok (.if_icmp .ge 21, 3) := by decide +kernel
theorem dX12_count_75 : decode cX12_count 75 = .ok (.iload_n 2, 1) := by decide +kernel
theorem dX12_count_76 : decode cX12_count 76 = .ok (.aload_n 0, 1) := by decide +kernel
theorem dX12_count_77 : decode cX12_count 77 = .ok (.getfield 31, 3) := by decide +kernel
theorem dX12_count_80 : decode cX12_count 80 = .ok (.bipush 6, 2) := by decide +kernel
theorem dX12_count_82 : decode cX12_count 82 = .ok (.iload_n 3, 1) := by decide +kernel
theorem dX12_count_83 : decode cX12_count 83 = .ok (.iadd, 1) := by decide +kernel
theorem dX12_count_84 : decode cX12_count 84 = .ok (.iaload, 1) := by decide +kernel
theorem dX12_count_85 : decode cX12_count 85 = .ok (.iadd, 1) := by decide +kernel
theorem dX12_count_86 : decode cX12_count 86 = .ok (.istore_n 2, 1) := by decide +kernel
theorem dX12_count_87 : decode cX12_count 87 = .ok (.iinc 3 1, 3) := by decide +kernel
theorem dX12_count_90 : decode cX12_count 90 = .ok (.goto (-25), 3) := by decide +kernel
theorem dX12_count_93 : decode cX12_count 93 = .ok (.iload_n 2, 1) := by decide +kernel
theorem dX12_count_94 : decode cX12_count 94 = .ok (.ireturn, 1) := by decide +kernel
theorem dX12_count_95 : decode cX12_count 95 = .ok (.aload_n 0, 1) := by decide +kernel
theorem dX12_count_96 : decode cX12_count 96 = .ok (.getfield 149, 3) := by decide +kernel
theorem dX12_count_99 : decode cX12_count 99 = .ok (.ireturn, 1) := by decide +kernel
theorem dX12_count_100 : decode cX12_count 100 = .ok (.aload_n 0, 1) := by decide +kernel
theorem dX12_count_101 : decode cX12_count 101 = .ok (.invokevirtual 229, 3) := by decide +kernel
theorem dX12_count_104 : decode cX12_count 104 = .ok (.ireturn, 1) := by decide +kernel
theorem dX12_count_105 : decode cX12_count 105 = .ok (.aload_n 0, 1) := by decide +kernel
theorem dX12_count_106 : decode cX12_count 106 = .ok (.getfield 274, 3) := by decide +kernel
theorem dX12_count_109 : decode cX12_count 109 = .ok (.ireturn, 1) := by decide +kernel
theorem dX12_count_110 : decode cX12_count 110 = .ok (.iconst (-1), 1) := by decide +kernel
theorem dX12_count_111 : decode cX12_count 111 = .ok (.ireturn, 1) := by decide +kernel
section W_X12_count
variable {p : Program} {l : Launch} {e : Env} {s : State} {m : MethodId} {args : Array Value} {below : List Frame} {meth : Method} {c : Code} {D : va_G} {cy : Nat → ClassId} {G : Nat × Nat} {n0 : Nat} {Qp : Option PV → Mm → Prop}
set_option maxRecDepth 100000 in
set_option maxHeartbeats 4000000 in
theorem f_X12_count_65 {o0 : Nat} {x2 : Int} {x3 : Int} {M : Mm} {Q : Int → Prop} {K65 : Int × Int → Prop} (C : Cx p s m args meth c cX12_count 4 RX12 D cy G n0) (hr : meth.sig.returnType = some .int) (h3 : n0 = 243) (hn : M.2.2.2 = n0) (ho0 : o0 < 243 ∧ (SH o0).1 = 12) (hQ : ∀ x, Q x → Qp (some (vI x)) M) (hK65 : ∀ (x2 : Int) (x3 : Int), K65 (x2, x3) → WW p l e ({ frames := 1, cells := 0, slots := 0, locals := 22 }) s m args below meth c (ZQ below args s D cy G n0 Qp n0) 4 D cy G n0 65 [(0, vR (some o0)), (2, vI x2), (3, vI x3)] [] M) (h : F_X12_count_65 o0 M Q  K65 x2 x3) : WW p l e ({ frames := 1, cells := 0, slots := 0, locals := 22 }) s m args below meth c (ZQ below args s D cy G n0 Qp n0) 4 D cy G n0 65 [(0, vR (some o0)), (2, vI x2), (3, vI x3)] [] M := by
  unfold F_X12_count_65 at h
  refine w_iload_n C dX12_count_65 rfl (mem_k 2 rfl) ?_
  refine w_aload_n C dX12_count_66 rfl (mem_k 0 rfl) ?_
  refine x_getR C dX12_count_67 fw_X12_25 (isO.n (ci := 12) ⟨rfl, ho0⟩ (hn.trans h3)) (fun r1 er1 => ?_)
  replace h := h r1 er1
  refine w_iconst C dX12_count_70 ⟨by decide, by decide⟩ ?_
  obtain ⟨o2, g3, h⟩ := h
  refine x_iald C dX12_count_71 (isA.n g3 (hn.trans h3)) ?_
  refine w_icmp_ge (tgt := 93) C dX12_count_72 (by decide) (fun q => ?_) (fun q => ?_)
  · replace h := h.1 q
    refine w_iload_n C dX12_count_93 rfl (mem_k 1 rfl) ?_
    exact x_iret C hr dX12_count_94 hn (hQ _ h)
  · replace h := h.2 q
    refine w_iload_n C dX12_count_75 rfl (mem_k 1 rfl) ?_
    refine w_aload_n C dX12_count_76 rfl (mem_k 0 rfl) ?_
    refine x_getR C dX12_count_77 fw_X12_31 (isO.n (ci := 12) ⟨rfl, ho0⟩ (hn.trans h3)) (fun r4 er4 => ?_)
    replace h := h r4 er4
    refine w_bipush C dX12_count_80 (by decide) ?_
    refine w_iload_n C dX12_count_82 rfl (mem_k 2 rfl) ?_
    refine w_iadd C dX12_count_83 h.1 ?_
    replace h := h.2
    obtain ⟨o5, g6, h⟩ := h
    refine x_iald C dX12_count_84 (isA.n g6 (hn.trans h3)) ?_
    refine w_iadd C dX12_count_85 h.1 ?_
    replace h := h.2
    refine x_nmI (fun v7 ev7 => ?_)
    replace h := h v7 ev7
    refine x_istore_n (L' := [(2, vI v7), (0, vR (some o0)), (3, vI x3)]) C dX12_count_86 rfl (by decide) rfl ?_
    obtain ⟨v8, ev8⟩ : ∃ z : Int, z = x3 + 1 := ⟨_, rfl⟩
    refine x_iinc (L' := [(3, vI v8), (2, vI v7), (0, vR (some o0))]) C dX12_count_87 (mem_k 2 rfl) (by decide) h.1 ev8 rfl ?_
    replace h := h.2 v8 ev8
    refine w_goto (tgt := 65) C dX12_count_90 (by decide) ?_
    refine x_pc (pc2 := 65) rfl ?_
    refine x_pick (L' := [(0, vR (some o0)), (2, vI v7), (3, vI v8)]) [2, 1, 0] rfl ?_
    exact hK65 v7 v8 h
set_option maxRecDepth 100000 in
set_option maxHeartbeats 4000000 in
theorem k_X12_count_65 {o0 : Nat} {x2 : Int} {x3 : Int} {M : Mm} {Q : Int → Prop} (C : Cx p s m args meth c cX12_count 4 RX12 D cy G n0) (hr : meth.sig.returnType = some .int) (h3 : n0 = 243) (hn : M.2.2.2 = n0) (ho0 : o0 < 243 ∧ (SH o0).1 = 12) (hQ : ∀ x, Q x → Qp (some (vI x)) M) (h : P_X12_count_65 o0 x2 x3 M Q ) : WW p l e ({ frames := 1, cells := 0, slots := 0, locals := 22 }) s m args below meth c (ZQ below args s D cy G n0 Qp n0) 4 D cy G n0 65 [(0, vR (some o0)), (2, vI x2), (3, vI x3)] [] M := by
  refine lpW_sound (P := fun y : Int × Int => WW p l e ({ frames := 1, cells := 0, slots := 0, locals := 22 }) s m args below meth c (ZQ below args s D cy G n0 Qp n0) 4 D cy G n0 65 [(0, vR (some o0)), (2, vI y.1), (3, vI y.2)] [] M) ?_ h
  intro K y hK hF
  obtain ⟨x2, x3⟩ := y
  exact f_X12_count_65 C hr h3 hn ho0 hQ  (fun x2 x3 hk => hK (x2, x3) hk) hF
set_option maxRecDepth 100000 in
set_option maxHeartbeats 4000000 in
theorem k_X12_count_0 {o0 : Nat} {x1 : Int} {M : Mm} {Q : Int → Prop} (C : Cx p s m args meth c cX12_count 4 RX12 D cy G n0) (hr : meth.sig.returnType = some .int) (h3 : n0 = 243) (hn : M.2.2.2 = n0) (ho0 : o0 < 243 ∧ (SH o0).1 = 12) (hQ : ∀ x, Q x → Qp (some (vI x)) M) (h : P_X12_count o0 x1 M Q ) : WW p l e ({ frames := 1, cells := 0, slots := 0, locals := 22 }) s m args below meth c (ZQ below args s D cy G n0 Qp n0) 4 D cy G n0 0 [(0, vR (some o0)), (1, vI x1)] [] M := by
  unfold P_X12_count at h
  refine w_iconst C dX12_count_0 ⟨by decide, by decide⟩ ?_
  refine x_istore_n (L' := [(2, vI 0), (0, vR (some o0)), (1, vI x1)]) C dX12_count_1 rfl (by decide) rfl ?_
  refine w_iload_n C dX12_count_2 rfl (mem_k 2 rfl) ?_
  refine w_table C dX12_count_3 110 (by decide) (fun z hz1 hz2 => ?_) (fun q => ?_)
  · have hz : z = 0 ∨ z = 1 ∨ z = 2 ∨ z = 3 ∨ z = 4 ∨ z = 5 ∨ z = 6 := by omega
    rcases hz with rfl | rfl | rfl | rfl | rfl | rfl | rfl
    · refine ⟨_, 44, rfl, by decide, fun q => ?_⟩
      replace h := h.1 q
      refine w_aload_n C dX12_count_44 rfl (mem_k 1 rfl) ?_
      refine x_getI C dX12_count_45 fw_X12_89 (isO.n (ci := 12) ⟨rfl, ho0⟩ (hn.trans h3)) ?_
      exact x_iret C hr dX12_count_48 hn (hQ _ h)
    · refine ⟨_, 49, rfl, by decide, fun q => ?_⟩
      replace h := h.2.1 q
      refine w_aload_n C dX12_count_49 rfl (mem_k 1 rfl) ?_
      refine x_getR C dX12_count_50 fw_X12_13 (isO.n (ci := 12) ⟨rfl, ho0⟩ (hn.trans h3)) (fun r9 er9 => ?_)
      replace h := h r9 er9
      refine w_iconst C dX12_count_53 ⟨by decide, by decide⟩ ?_
      obtain ⟨o10, g11, h⟩ := h
      refine x_iald C dX12_count_54 (isA.n g11 (hn.trans h3)) ?_
      exact x_iret C hr dX12_count_55 hn (hQ _ h)
    · refine ⟨_, 56, rfl, by decide, fun q => ?_⟩
      replace h := h.2.2.1 q
      refine w_aload_n C dX12_count_56 rfl (mem_k 1 rfl) ?_
      refine x_getR C dX12_count_57 fw_X12_25 (isO.n (ci := 12) ⟨rfl, ho0⟩ (hn.trans h3)) (fun r12 er12 => ?_)
      replace h := h r12 er12
      refine w_iconst C dX12_count_60 ⟨by decide, by decide⟩ ?_
      obtain ⟨o13, g14, h⟩ := h
      refine x_iald C dX12_count_61 (isA.n g14 (hn.trans h3)) ?_
      exact x_iret C hr dX12_count_62 hn (hQ _ h)
    · refine ⟨_, 63, rfl, by decide, fun q => ?_⟩
      replace h := h.2.2.2.1 q
      refine w_iconst C dX12_count_63 ⟨by decide, by decide⟩ ?_
      refine x_istore_n (L' := [(3, vI 0), (2, vI 0), (0, vR (some o0)), (1, vI x1)]) C dX12_count_64 rfl (by decide) rfl ?_
      refine x_pc (pc2 := 65) rfl ?_
      refine x_pick (L' := [(0, vR (some o0)), (2, vI 0), (3, vI 0)]) [2, 1, 0] rfl ?_
      exact k_X12_count_65 C hr h3 hn ho0 hQ  h
    · refine ⟨_, 95, rfl, by decide, fun q => ?_⟩
      replace h := h.2.2.2.2.1 q
      refine w_aload_n C dX12_count_95 rfl (mem_k 1 rfl) ?_
      refine x_getI C dX12_count_96 fw_X12_149 (isO.n (ci := 12) ⟨rfl, ho0⟩ (hn.trans h3)) ?_
      exact x_iret C hr dX12_count_99 hn (hQ _ h)
    · refine ⟨_, 100, rfl, by decide, fun q => ?_⟩
      replace h := h.2.2.2.2.2.1 q
      refine w_aload_n C dX12_count_100 rfl (mem_k 1 rfl) ?_
      refine cl_X12_people (ck_X12_229 ⟨by decide, by decide⟩) C dX12_count_101 hn h3 (Nat.le_of_ble_eq_true rfl) (isO.n (ci := 12) ⟨rfl, ho0⟩ (hn.trans h3)) h (fun v15 h => ?_)
      exact x_iret C hr dX12_count_104 hn (hQ _ h)
    · refine ⟨_, 105, rfl, by decide, fun q => ?_⟩
      replace h := h.2.2.2.2.2.2.1 q
      refine w_aload_n C dX12_count_105 rfl (mem_k 1 rfl) ?_
      refine x_getI C dX12_count_106 fw_X12_274 (isO.n (ci := 12) ⟨rfl, ho0⟩ (hn.trans h3)) ?_
      exact x_iret C hr dX12_count_109 hn (hQ _ h)
  · replace h := h.2.2.2.2.2.2.2 q
    refine w_iconst C dX12_count_110 ⟨by decide, by decide⟩ ?_
    exact x_iret C hr dX12_count_111 hn (hQ _ h)
set_option maxRecDepth 100000 in
set_option maxHeartbeats 4000000 in
theorem con_X12_count (l : Launch) (D : va_G) (cy : Nat → ClassId) : Con l D cy yX12_count cX12_count 4 (some .int) ({ frames := 1, cells := 0, slots := 0, locals := 22 }) 0 0 SP_X12_count := by
  refine con_of (by decide) (fun as M Qp h => ?_) ?_
  · obtain ⟨-, o0, x1, rfl, -⟩ := h
    exact Nat.le_of_ble_eq_true rfl
  · intro p e s m args below meth c G as M Qp h C hr hnm
    obtain ⟨hn, o0, x1, rfl, ho1, ho2, Q0, hQ, h⟩ := h
    refine x_pick (L' := [(0, vR (some o0)), (1, vI x1)]) [0, 1] rfl ?_
    exact k_X12_count_0 C hr hn rfl ⟨ho1, ho2⟩ hQ h
set_option maxRecDepth 100000 in
set_option maxHeartbeats 4000000 in
theorem cl_X12_count {p : Program} {l : Launch} {e : Env} {R : Room} {s : State} {m : MethodId} {args : Array Value} {below : List Frame} {meth : Method} {c : Code} {Q : State → Prop} {cc : ByteArray} {nL : Nat} {own : String} {D : va_G} {cy : Nat → ClassId} {G : Nat × Nat} {n0 pc : Nat} {L : List (Nat × PV)} {st : List PV} {M : Mm} {op : Instr} (K : CallOK l D cy R own op 0 0 (spV 12 1 SP_X12_count)) (C : Cx p s m args meth c cc nL own D cy G n0) (hd : decode cc pc = .ok (op, 3)) (hn : M.2.2.2 = n0) (h3 : n0 = 243) (hlen : argN st ≤ 8) {r : Option Nat} {o0 : Nat} (ho : isOn 12 M.2.2.2 r o0) {x1 : Int} {Q0 : Int → Prop} (h : P_X12_count o0 x1 M Q0) (k : ∀ x, Q0 x → WW p l e R s m args below meth c Q nL D cy G n0  (pc + 3) L (vI x :: st) M) : WW p l e R s m args below meth c Q nL D cy G n0  pc L (vI x1 :: vR r :: st) M := by
  obtain ⟨rfl, ho1, ho2⟩ := ho
  refine x_call0 K C hd (as := [vR (some o0), vI x1]) rfl hn hlen (fun v M2 => ∃ x, v = some (vI x) ∧ M2 = M ∧ Q0 x) ⟨⟨o0, [vI x1], rfl, rfl, ho1, ho2⟩, hn.trans h3, o0, x1, rfl, (hn.trans h3) ▸ ho1, ho2, Q0, fun x hx => ⟨x, rfl, rfl, hx⟩, h⟩ ?_
  rintro _ _ ⟨x, rfl, rfl, hx⟩ hm
  exact k x hx
end W_X12_count
