/-! seats: pure predicates, decode rows, walks, contracts; by program (wip/gen/walk.py) -/
theorem dX5_takeItem_0 : decode cX5_takeItem 0 = .ok (.aload_n 2, 1) := by decide +kernel
theorem dX5_takeItem_1 : decode cX5_takeItem 1 = .ok (.arraylength, 1) := by decide +kernel
theorem dX5_takeItem_2 : decode cX5_takeItem 2 = .ok (.bipush 8, 2) := by decide +kernel
theorem dX5_takeItem_4 : decode cX5_takeItem 4 = .ok (.if_icmp .lt 9, 3) := by decide +kernel
theorem dX5_takeItem_7 : decode cX5_takeItem 7 = .ok (.iload_n 3, 1) := by decide +kernel
theorem dX5_takeItem_8 : decode cX5_takeItem 8 = .ok (.bipush 8, 2) := by decide +kernel
theorem dX5_takeItem_10 : decode cX5_takeItem 10 = .ok (.if_icmp .le 5, 3) := by decide +kernel
theorem dX5_takeItem_13 : decode cX5_takeItem 13 = .ok (.iconst 0, 1) := by decide +kernel
theorem dX5_takeItem_14 : decode cX5_takeItem 14 = .ok (.ireturn, 1) := by decide +kernel
theorem dX5_takeItem_15 : decode cX5_takeItem 15 = .ok (.iload_n 1, 1) := by decide +kernel
theorem dX5_takeItem_16 : decode cX5_takeItem 16 = .ok (.tableswitch 140 108 116 #[52, 140, 140, 140, 104, 140, 140, 85, 59], 52) := by decide +kernel
theorem dX5_takeItem_68 : decode cX5_takeItem 68 = .ok (.aload_n 0, 1) := by decide +kernel
theorem dX5_takeItem_69 : decode cX5_takeItem 69 = .ok (.aload_n 2, 1) := by decide +kernel
theorem dX5_takeItem_70 : decode cX5_takeItem 70 = .ok (.iload_n 3, 1) := by decide +kernel
theorem dX5_takeItem_71 : decode cX5_takeItem 71 = .ok (.invokevirtual 38, 3) := by decide +kernel
theorem dX5_takeItem_74 : decode cX5_takeItem 74 = .ok (.ireturn, 1) := by decide +kernel
theorem dX5_takeItem_75 : decode cX5_takeItem 75 = .ok (.iload_n 3, 1) := by decide +kernel
theorem dX5_takeItem_76 : decode cX5_takeItem 76 = .ok (.iconst 5, 1) := by decide +kernel
theorem dX5_takeItem_77 : decode cX5_takeItem 77 = .ok (.if_icmp .ne 22, 3) := by decide +kernel
theorem dX5_takeItem_80 : decode cX5_takeItem 80 = .ok (.aload_n 0, 1) := by decide +kernel
theorem dX5_takeItem_81 : decode cX5_takeItem 81 = .ok (.aload_n 0, 1) := by decide +kernel
theorem dX5_takeItem_82 : decode cX5_takeItem 82 = .ok (.aload_n 2, 1) := by decide +kernel
theorem dX5_takeItem_83 : decode cX5_takeItem 83 = .ok (.iconst 0, 1) := by decide +kernel
theorem dX5_takeItem_84 : decode cX5_takeItem 84 = .ok (.iaload, 1) := by decide +kernel
theorem dX5_takeItem_85 : decode cX5_takeItem 85 = .ok (.invokevirtual 42, 3) := by decide +kernel
theorem dX5_takeItem_88 : decode cX5_takeItem 88 = .ok (.aload_n 2, 1) := by decide +kernel
theorem dX5_takeItem_89 : decode cX5_takeItem 89 = .ok (.invokevirtual 46, 3) := by decide +kernel
theorem dX5_takeItem_92 : decode cX5_takeItem 92 = .ok (.ifCond .eq 7, 3) := by decide +kernel
theorem dX5_takeItem_95 : decode cX5_takeItem 95 = .ok (.iconst 1, 1) := by decide +kernel
theorem dX5_takeItem_96 : decode cX5_takeItem 96 = .ok (.goto 4, 3) := by decide +kernel
theorem dX5_takeItem_99 : decode cX5_takeItem 99 = .ok (.iconst 0, 1) := by decide +kernel
theorem dX5_takeItem_100 : decode cX5_takeItem 100 = .ok (.ireturn, 1) := by decide +kernel
theorem dX5_takeItem_101 : decode cX5_takeItem 101 = .ok (.iload_n 3, 1) := by decide +kernel
theorem dX5_takeItem_102 : decode cX5_takeItem 102 = .ok (.iconst 4, 1) := by decide +kernel
theorem dX5_takeItem_103 : decode cX5_takeItem 103 = .ok (.if_icmp .ne 15, 3) := by decide +kernel
theorem dX5_takeItem_106 : decode cX5_takeItem 106 = .ok (.aload_n 0, 1) := by decide +kernel
theorem dX5_takeItem_107 : decode cX5_takeItem 107 = .ok (.aload_n 2, 1) := by decide +kernel
theorem dX5_takeItem_108 : decode cX5_takeItem 108 = .ok (.invokevirtual 50, 3) := by decide +kernel
theorem dX5_takeItem_111 : decode cX5_takeItem 111 = .ok (.ifCond .eq 7, 3) := by decide +kernel
theorem dX5_takeItem_114 : decode cX5_takeItem 114 = .ok (.iconst 1, 1) := by decide +kernel
theorem dX5_takeItem_115 : decode cX5_takeItem 115 = .ok (.goto 4, 3) := by decide +kernel
theorem dX5_takeItem_118 : decode cX5_takeItem 118 = .ok (.iconst 0, 1) := by decide +kernel
theorem dX5_takeItem_119 : decode cX5_takeItem 119 = .ok (.ireturn, 1) := by decide +kernel
theorem dX5_takeItem_120 : decode cX5_takeItem 120 = .ok (.iload_n 3, 1) := by decide +kernel
theorem dX5_takeItem_121 : decode cX5_takeItem 121 = .ok (.iconst 3, 1) := by decide +kernel
theorem dX5_takeItem_122 : decode cX5_takeItem 122 = .ok (.if_icmp .ne 32, 3) := by decide +kernel
theorem dX5_takeItem_125 : decode cX5_takeItem 125 = .ok (.aload_n 0, 1) := by decide +kernel
theorem dX5_takeItem_126 : decode cX5_takeItem 126 = .ok (.aload_n 0, 1) := by decide +kernel
theorem dX5_takeItem_127 : decode cX5_takeItem 127 = .ok (.aload_n 0, 1) := by decide +kernel
theorem dX5_takeItem_128 : decode cX5_takeItem 128 = .ok (.getfield 31, 3) := by decide +kernel
theorem dX5_takeItem_131 : decode cX5_takeItem 131 = .ok (.iconst 1, 1) := by decide +kernel
theorem dX5_takeItem_132 : decode cX5_takeItem 132 = .ok (.isub, 1) := by decide +kernel
theorem dX5_takeItem_133 : decode cX5_takeItem 133 = .ok (.invokevirtual 54, 3) := by decide +kernel
theorem dX5_takeItem_136 : decode cX5_takeItem 136 = .ok (.aload_n 0, 1) := by decide +kernel
theorem dX5_takeItem_137 : decode cX5_takeItem 137 = .ok (.aload_n 2, 1) := by decide +kernel
theorem dX5_takeItem_138 : decode cX5_takeItem 138 = .ok (.iconst 0, 1) := by decide +kernel
theorem dX5_takeItem_139 : decode cX5_takeItem 139 = .ok (.iaload, 1) := by decide +kernel
theorem dX5_takeItem_140 : decode cX5_takeItem 140 = .ok (.invokevirtual 42, 3) := by decide +kernel
theorem dX5_takeItem_143 : decode cX5_takeItem 143 = .ok (.aload_n 2, 1) := by decide +kernel
theorem dX5_takeItem_144 : decode cX5_takeItem 144 = .ok (.invokevirtual 58, 3) := by decide +kernel
theorem dX5_takeItem_147 : decode cX5_takeItem 147 = .ok (.ifCond .eq 7, 3) := by decide +kernel
theorem dX5_takeItem_150 : decode cX5_takeItem 150 = .ok (.iconst 1, 1) := by decide +kernel
theorem dX5_takeItem_151 : decode cX5_takeItem 151 = .ok (.goto 4, 3) := by decide +kernel
theorem dX5_takeItem_154 : decode cX5_takeItem 154 = .ok (.iconst 0, 1) := by decide +kernel
theorem dX5_takeItem_155 : decode cX5_takeItem 155 = .ok (.ireturn, 1) := by decide +kernel
theorem dX5_takeItem_156 : decode cX5_takeItem 156 = .ok (.iconst 0, 1) := by decide +kernel
theorem dX5_takeItem_157 : decode cX5_takeItem 157 = .ok (.ireturn, 1) := by decide +kernel
theorem ck_X5_38 {l : Launch} {D : va_G} {cy : Nat → ClassId} {R : Room} (hR : 2 ≤ R.frames ∧ 46 ≤ R.locals) : CallOK l D cy R RX5 (.invokevirtual 38) 0 0 (spV 5 2 SP_X5_takeLayer) := call_V (ci := 5) (con_X5_takeLayer l D cy) (lwG_2 (i := 122) rfl rfl) (lwG_2 (i := 124) rfl rfl) (lwG_p (i := 1) rfl rfl) (lwG_1 (i := 3) rfl rfl) (lwG_2 (i := 125) rfl rfl) (by decide) ⟨rfl, by decide, by decide, rfl⟩ ⟨rfl, rfl⟩ hR
theorem ck_X5_54 {l : Launch} {D : va_G} {cy : Nat → ClassId} {R : Room} (hR : 2 ≤ R.frames ∧ 43 ≤ R.locals) : CallOK l D cy R RX5 (.invokevirtual 54) 0 0 (spV 5 1 SP_X5_seatAt) := call_V (ci := 5) (con_X5_seatAt l D cy) (lwG_2 (i := 147) rfl rfl) (lwG_2 (i := 148) rfl rfl) (lwG_2 (i := 149) rfl rfl) (lwG_1 (i := 3) rfl rfl) (lwG_2 (i := 150) rfl rfl) (by decide) ⟨rfl, by decide, by decide, rfl⟩ ⟨rfl, rfl⟩ hR
theorem ck_X5_42 {l : Launch} {D : va_G} {cy : Nat → ClassId} {R : Room} (hR : 2 ≤ R.frames ∧ 43 ≤ R.locals) : CallOK l D cy R RX5 (.invokevirtual 42) 0 0 (spV 5 1 SP_X5_layerAt) := call_V (ci := 5) (con_X5_layerAt l D cy) (lwG_2 (i := 131) rfl rfl) (lwG_2 (i := 132) rfl rfl) (lwG_2 (i := 133) rfl rfl) (lwG_1 (i := 3) rfl rfl) (lwG_2 (i := 134) rfl rfl) (by decide) ⟨rfl, by decide, by decide, rfl⟩ ⟨rfl, rfl⟩ hR
theorem ck_X5_58 {l : Launch} {D : va_G} {cy : Nat → ClassId} {R : Room} (hR : 2 ≤ R.frames ∧ 47 ≤ R.locals) : CallOK l D cy R RX5 (.invokevirtual 58) 0 0 (spV 5 3 SP_X5_takePatch) := call_V (ci := 5) (con_X5_takePatch l D cy) (lwG_2 (i := 151) rfl rfl) (lwG_2 (i := 153) rfl rfl) (lwG_p (i := 4) rfl rfl) (lwG_1 (i := 3) rfl rfl) (lwG_2 (i := 154) rfl rfl) (by decide) ⟨rfl, by decide, by decide, rfl⟩ ⟨rfl, rfl⟩ hR
theorem ck_X5_50 {l : Launch} {D : va_G} {cy : Nat → ClassId} {R : Room} (hR : 2 ≤ R.frames ∧ 43 ≤ R.locals) : CallOK l D cy R RX5 (.invokevirtual 50) 0 0 (spV 5 1 SP_X5_takeSeat) := call_V (ci := 5) (con_X5_takeSeat l D cy) (lwG_2 (i := 139) rfl rfl) (lwG_2 (i := 141) rfl rfl) (lwG_p (i := 3) rfl rfl) (lwG_1 (i := 3) rfl rfl) (lwG_2 (i := 142) rfl rfl) (by decide) ⟨rfl, by decide, by decide, rfl⟩ ⟨rfl, rfl⟩ hR
theorem ck_X5_46 {l : Launch} {D : va_G} {cy : Nat → ClassId} {R : Room} (hR : 2 ≤ R.frames ∧ 45 ≤ R.locals) : CallOK l D cy R RX5 (.invokevirtual 46) 0 0 (spV 5 2 SP_X5_takeLets) := call_V (ci := 5) (con_X5_takeLets l D cy) (lwG_2 (i := 135) rfl rfl) (lwG_2 (i := 137) rfl rfl) (lwG_p (i := 2) rfl rfl) (lwG_1 (i := 3) rfl rfl) (lwG_2 (i := 138) rfl rfl) (by decide) ⟨rfl, by decide, by decide, rfl⟩ ⟨rfl, rfl⟩ hR
section W_X5_takeItem
variable {p : Program} {l : Launch} {e : Env} {s : State} {m : MethodId} {args : Array Value} {below : List Frame} {meth : Method} {c : Code} {D : va_G} {cy : Nat → ClassId} {G : Nat × Nat} {n0 : Nat} {Qp : Option PV → Mm → Prop}
set_option maxRecDepth 100000 in
set_option maxHeartbeats 4000000 in
theorem k_X5_takeItem_0 {o0 : Nat} {x1 : Int} {a2 : Option Nat} {x3 : Int} {M : Mm} {Q : Int → Mm → Prop} (C : Cx p s m args meth c cX5_takeItem 4 RX5 D cy G n0) (hr : meth.sig.returnType = some .boolean) (h3 : n0 = 243) (hn : M.2.2.2 = n0) (ho0 : o0 < 243 ∧ (SH o0).1 = 5) (hQ : ∀ x M, Q x M → Qp (some (vI x)) M) (h : P_X5_takeItem o0 x1 a2 x3 M Q ) : WW p l e ({ frames := 2, cells := 0, slots := 0, locals := 47 }) s m args below meth c (ZQ below args s D cy G n0 Qp n0) 4 D cy G n0 0 [(0, vR (some o0)), (1, vI x1), (2, vR a2), (3, vI x3)] [] M := by
  unfold P_X5_takeItem at h
  refine w_aload_n C dX5_takeItem_0 rfl (mem_k 2 rfl) ?_
  obtain ⟨o1, g2, h⟩ := h
  refine x_alen C dX5_takeItem_1 (isO.n g2 (hn.trans h3)) (Nat.le_of_eq (hn.trans h3)) ?_
  refine w_bipush C dX5_takeItem_2 (by decide) ?_
  refine w_icmp_lt (tgt := 13) C dX5_takeItem_4 (by decide) (fun q => ?_) (fun q => ?_)
  · replace h := h.1 q
    refine w_iconst C dX5_takeItem_13 ⟨by decide, by decide⟩ ?_
    exact x_zret C hr dX5_takeItem_14 hn (by decide) (hQ _ M h)
  · replace h := h.2 q
    refine w_iload_n C dX5_takeItem_7 rfl (mem_k 3 rfl) ?_
    refine w_bipush C dX5_takeItem_8 (by decide) ?_
    refine w_icmp_le (tgt := 15) C dX5_takeItem_10 (by decide) (fun q => ?_) (fun q => ?_)
    · replace h := h.1 q
      refine w_iload_n C dX5_takeItem_15 rfl (mem_k 1 rfl) ?_
      refine w_table C dX5_takeItem_16 156 (by decide) (fun z hz1 hz2 => ?_) (fun q => ?_)
      · have hz : z = 108 ∨ z = 109 ∨ z = 110 ∨ z = 111 ∨ z = 112 ∨ z = 113 ∨ z = 114 ∨ z = 115 ∨ z = 116 := by omega
        rcases hz with rfl | rfl | rfl | rfl | rfl | rfl | rfl | rfl | rfl
        · refine ⟨_, 68, rfl, by decide, fun q => ?_⟩
          replace h := h.1 q
          refine w_aload_n C dX5_takeItem_68 rfl (mem_k 0 rfl) ?_
          refine w_aload_n C dX5_takeItem_69 rfl (mem_k 2 rfl) ?_
          refine w_iload_n C dX5_takeItem_70 rfl (mem_k 3 rfl) ?_
          refine cl_X5_takeLayer (ck_X5_38 ⟨by decide, by decide⟩) C dX5_takeItem_71 hn h3 (Nat.le_of_ble_eq_true rfl) (isO.n (ci := 5) ⟨rfl, ho0⟩ (hn.trans h3)) h (fun v3 M4 h hn5 => ?_)
          exact x_zret C hr dX5_takeItem_74 hn5 h.1 (hQ _ M4 h.2)
        · refine ⟨_, 156, rfl, by decide, fun q => ?_⟩
          replace h := h.2.1 q
          refine w_iconst C dX5_takeItem_156 ⟨by decide, by decide⟩ ?_
          exact x_zret C hr dX5_takeItem_157 hn (by decide) (hQ _ M h)
        · refine ⟨_, 156, rfl, by decide, fun q => ?_⟩
          replace h := h.2.2.1 q
          refine w_iconst C dX5_takeItem_156 ⟨by decide, by decide⟩ ?_
          exact x_zret C hr dX5_takeItem_157 hn (by decide) (hQ _ M h)
        · refine ⟨_, 156, rfl, by decide, fun q => ?_⟩
          replace h := h.2.2.2.1 q
          refine w_iconst C dX5_takeItem_156 ⟨by decide, by decide⟩ ?_
          exact x_zret C hr dX5_takeItem_157 hn (by decide) (hQ _ M h)
        · refine ⟨_, 120, rfl, by decide, fun q => ?_⟩
          replace h := h.2.2.2.2.1 q
          refine w_iload_n C dX5_takeItem_120 rfl (mem_k 3 rfl) ?_
          refine w_iconst C dX5_takeItem_121 ⟨by decide, by decide⟩ ?_
          refine w_icmp_ne (tgt := 154) C dX5_takeItem_122 (by decide) (fun q => ?_) (fun q => ?_)
          · replace h := h.1 q
            refine w_iconst C dX5_takeItem_154 ⟨by decide, by decide⟩ ?_
            exact x_zret C hr dX5_takeItem_155 hn (by decide) (hQ _ M h)
          · replace h := h.2 q
            refine w_aload_n C dX5_takeItem_125 rfl (mem_k 0 rfl) ?_
            refine w_aload_n C dX5_takeItem_126 rfl (mem_k 0 rfl) ?_
            refine w_aload_n C dX5_takeItem_127 rfl (mem_k 0 rfl) ?_
            refine x_getI C dX5_takeItem_128 fw_X5_31 (isO.n (ci := 5) ⟨rfl, ho0⟩ (hn.trans h3)) ?_
            refine w_iconst C dX5_takeItem_131 ⟨by decide, by decide⟩ ?_
            refine w_isub C dX5_takeItem_132 h.1 ?_
            replace h := h.2
            refine cl_X5_seatAt (ck_X5_54 ⟨by decide, by decide⟩) C dX5_takeItem_133 hn h3 (Nat.le_of_ble_eq_true rfl) (isO.n (ci := 5) ⟨rfl, ho0⟩ (hn.trans h3)) h (fun r6 h => ?_)
            refine w_aload_n C dX5_takeItem_136 rfl (mem_k 0 rfl) ?_
            refine w_aload_n C dX5_takeItem_137 rfl (mem_k 2 rfl) ?_
            refine w_iconst C dX5_takeItem_138 ⟨by decide, by decide⟩ ?_
            obtain ⟨o7, g8, h⟩ := h
            refine x_iald C dX5_takeItem_139 (isA.n g8 (hn.trans h3)) ?_
            refine cl_X5_layerAt (ck_X5_42 ⟨by decide, by decide⟩) C dX5_takeItem_140 hn h3 (Nat.le_of_ble_eq_true rfl) (isO.n (ci := 5) ⟨rfl, ho0⟩ (hn.trans h3)) h (fun r9 h => ?_)
            refine w_aload_n C dX5_takeItem_143 rfl (mem_k 2 rfl) ?_
            refine cl_X5_takePatch (ck_X5_58 ⟨by decide, by decide⟩) C dX5_takeItem_144 hn h3 (Nat.le_of_ble_eq_true rfl) (isO.n (ci := 5) ⟨rfl, ho0⟩ (hn.trans h3)) h (fun v10 M11 h hn12 => ?_)
            refine w_if_eq (tgt := 154) C dX5_takeItem_147 (by decide) (fun q => ?_) (fun q => ?_)
            · replace h := h.1 q
              refine w_iconst C dX5_takeItem_154 ⟨by decide, by decide⟩ ?_
              exact x_zret C hr dX5_takeItem_155 hn12 (by decide) (hQ _ M11 h)
            · replace h := h.2 q
              refine w_iconst C dX5_takeItem_150 ⟨by decide, by decide⟩ ?_
              refine w_goto (tgt := 155) C dX5_takeItem_151 (by decide) ?_
              exact x_zret C hr dX5_takeItem_155 hn12 (by decide) (hQ _ M11 h)
        · refine ⟨_, 156, rfl, by decide, fun q => ?_⟩
          replace h := h.2.2.2.2.2.1 q
          refine w_iconst C dX5_takeItem_156 ⟨by decide, by decide⟩ ?_
          exact x_zret C hr dX5_takeItem_157 hn (by decide) (hQ _ M h)
        · refine ⟨_, 156, rfl, by decide, fun q => ?_⟩
          replace h := h.2.2.2.2.2.2.1 q
          refine w_iconst C dX5_takeItem_156 ⟨by decide, by decide⟩ ?_
          exact x_zret C hr dX5_takeItem_157 hn (by decide) (hQ _ M h)
        · refine ⟨_, 101, rfl, by decide, fun q => ?_⟩
          replace h := h.2.2.2.2.2.2.2.1 q
          refine w_iload_n C dX5_takeItem_101 rfl (mem_k 3 rfl) ?_
          refine w_iconst C dX5_takeItem_102 ⟨by decide, by decide⟩ ?_
          refine w_icmp_ne (tgt := 118) C dX5_takeItem_103 (by decide) (fun q => ?_) (fun q => ?_)
          · replace h := h.1 q
            refine w_iconst C dX5_takeItem_118 ⟨by decide, by decide⟩ ?_
            exact x_zret C hr dX5_takeItem_119 hn (by decide) (hQ _ M h)
          · replace h := h.2 q
            refine w_aload_n C dX5_takeItem_106 rfl (mem_k 0 rfl) ?_
            refine w_aload_n C dX5_takeItem_107 rfl (mem_k 2 rfl) ?_
            refine cl_X5_takeSeat (ck_X5_50 ⟨by decide, by decide⟩) C dX5_takeItem_108 hn h3 (Nat.le_of_ble_eq_true rfl) (isO.n (ci := 5) ⟨rfl, ho0⟩ (hn.trans h3)) h (fun v13 M14 h hn15 => ?_)
            refine w_if_eq (tgt := 118) C dX5_takeItem_111 (by decide) (fun q => ?_) (fun q => ?_)
            · replace h := h.1 q
              refine w_iconst C dX5_takeItem_118 ⟨by decide, by decide⟩ ?_
              exact x_zret C hr dX5_takeItem_119 hn15 (by decide) (hQ _ M14 h)
            · replace h := h.2 q
              refine w_iconst C dX5_takeItem_114 ⟨by decide, by decide⟩ ?_
              refine w_goto (tgt := 119) C dX5_takeItem_115 (by decide) ?_
              exact x_zret C hr dX5_takeItem_119 hn15 (by decide) (hQ _ M14 h)
        · refine ⟨_, 75, rfl, by decide, fun q => ?_⟩
          replace h := h.2.2.2.2.2.2.2.2.1 q
          refine w_iload_n C dX5_takeItem_75 rfl (mem_k 3 rfl) ?_
          refine w_iconst C dX5_takeItem_76 ⟨by decide, by decide⟩ ?_
          refine w_icmp_ne (tgt := 99) C dX5_takeItem_77 (by decide) (fun q => ?_) (fun q => ?_)
          · replace h := h.1 q
            refine w_iconst C dX5_takeItem_99 ⟨by decide, by decide⟩ ?_
            exact x_zret C hr dX5_takeItem_100 hn (by decide) (hQ _ M h)
          · replace h := h.2 q
            refine w_aload_n C dX5_takeItem_80 rfl (mem_k 0 rfl) ?_
            refine w_aload_n C dX5_takeItem_81 rfl (mem_k 0 rfl) ?_
            refine w_aload_n C dX5_takeItem_82 rfl (mem_k 2 rfl) ?_
            refine w_iconst C dX5_takeItem_83 ⟨by decide, by decide⟩ ?_
            obtain ⟨o16, g17, h⟩ := h
            refine x_iald C dX5_takeItem_84 (isA.n g17 (hn.trans h3)) ?_
            refine cl_X5_layerAt (ck_X5_42 ⟨by decide, by decide⟩) C dX5_takeItem_85 hn h3 (Nat.le_of_ble_eq_true rfl) (isO.n (ci := 5) ⟨rfl, ho0⟩ (hn.trans h3)) h (fun r18 h => ?_)
            refine w_aload_n C dX5_takeItem_88 rfl (mem_k 2 rfl) ?_
            refine cl_X5_takeLets (ck_X5_46 ⟨by decide, by decide⟩) C dX5_takeItem_89 hn h3 (Nat.le_of_ble_eq_true rfl) (isO.n (ci := 5) ⟨rfl, ho0⟩ (hn.trans h3)) h (fun v19 M20 h hn21 => ?_)
            refine w_if_eq (tgt := 99) C dX5_takeItem_92 (by decide) (fun q => ?_) (fun q => ?_)
            · replace h := h.1 q
              refine w_iconst C dX5_takeItem_99 ⟨by decide, by decide⟩ ?_
              exact x_zret C hr dX5_takeItem_100 hn21 (by decide) (hQ _ M20 h)
            · replace h := h.2 q
              refine w_iconst C dX5_takeItem_95 ⟨by decide, by decide⟩ ?_
              refine w_goto (tgt := 100) C dX5_takeItem_96 (by decide) ?_
              exact x_zret C hr dX5_takeItem_100 hn21 (by decide) (hQ _ M20 h)
      · replace h := h.2.2.2.2.2.2.2.2.2 q
        refine w_iconst C dX5_takeItem_156 ⟨by decide, by decide⟩ ?_
        exact x_zret C hr dX5_takeItem_157 hn (by decide) (hQ _ M h)
    · replace h := h.2 q
      refine w_iconst C dX5_takeItem_13 ⟨by decide, by decide⟩ ?_
      exact x_zret C hr dX5_takeItem_14 hn (by decide) (hQ _ M h)
set_option maxRecDepth 100000 in
set_option maxHeartbeats 4000000 in
theorem con_X5_takeItem (l : Launch) (D : va_G) (cy : Nat → ClassId) : Con l D cy yX5_takeItem cX5_takeItem 4 (some .boolean) ({ frames := 2, cells := 0, slots := 0, locals := 47 }) 0 0 SP_X5_takeItem := by
  refine con_of (by decide) (fun as M Qp h => ?_) ?_
  · obtain ⟨-, o0, x1, a2, x3, rfl, -⟩ := h
    exact Nat.le_of_ble_eq_true rfl
  · intro p e s m args below meth c G as M Qp h C hr hnm
    obtain ⟨hn, o0, x1, a2, x3, rfl, ho1, ho2, Q0, hQ, h⟩ := h
    refine x_pick (L' := [(0, vR (some o0)), (1, vI x1), (2, vR a2), (3, vI x3)]) [0, 1, 2, 3] rfl ?_
    exact k_X5_takeItem_0 C hr hn rfl ⟨ho1, ho2⟩ hQ h
set_option maxRecDepth 100000 in
set_option maxHeartbeats 4000000 in
theorem cl_X5_takeItem {p : Program} {l : Launch} {e : Env} {R : Room} {s : State} {m : MethodId} {args : Array Value} {below : List Frame} {meth : Method} {c : Code} {Q : State → Prop} {cc : ByteArray} {nL : Nat} {own : String} {D : va_G} {cy : Nat → ClassId} {G : Nat × Nat} {n0 pc : Nat} {L : List (Nat × PV)} {st : List PV} {M : Mm} {op : Instr} (K : CallOK l D cy R own op 0 0 (spV 5 3 SP_X5_takeItem)) (C : Cx p s m args meth c cc nL own D cy G n0) (hd : decode cc pc = .ok (op, 3)) (hn : M.2.2.2 = n0) (h3 : n0 = 243) (hlen : argN st ≤ 8) {r : Option Nat} {o0 : Nat} (ho : isOn 5 M.2.2.2 r o0) {x1 : Int} {a2 : Option Nat} {x3 : Int} {Q0 : Int → Mm → Prop} (h : P_X5_takeItem o0 x1 a2 x3 M Q0) (k : ∀ x M2, Q0 x M2 → M2.2.2.2 = n0 → WW p l e R s m args below meth c Q nL D cy G n0  (pc + 3) L (vI x :: st) M2) : WW p l e R s m args below meth c Q nL D cy G n0  pc L (vI x3 :: vR a2 :: vI x1 :: vR r :: st) M := by
  obtain ⟨rfl, ho1, ho2⟩ := ho
  refine x_call0 K C hd (as := [vR (some o0), vI x1, vR a2, vI x3]) rfl hn hlen (fun v M2 => ∃ x, v = some (vI x) ∧ Q0 x M2) ⟨⟨o0, [vI x1, vR a2, vI x3], rfl, rfl, ho1, ho2⟩, hn.trans h3, o0, x1, a2, x3, rfl, (hn.trans h3) ▸ ho1, ho2, Q0, fun x M2 hx => ⟨x, rfl, hx⟩, h⟩ ?_
  rintro _ _ ⟨x, rfl, hx⟩ hm
  exact k x _ hx hm
end W_X5_takeItem
theorem dX5_allSeatsHavePatches_0 : decode cX5_allSeatsHavePatches 0 = .ok (.iconst 0, 1) := by decide +kernel
theorem dX5_allSeatsHavePatches_1 : decode cX5_allSeatsHavePatches 1 = .ok (.istore_n 1, 1) := by decide +kernel
theorem dX5_allSeatsHavePatches_2 : decode cX5_allSeatsHavePatches 2 = .ok (.iload_n 1, 1) := by decide +kernel
theorem dX5_allSeatsHavePatches_3 : decode cX5_allSeatsHavePatches 3 = .ok (.aload_n 0, 1) := by decide +kernel
theorem dX5_allSeatsHavePatches_4 : decode cX5_allSeatsHavePatches 4 = .ok (.getfield 31, 3) := by decide +kernel
theorem dX5_allSeatsHavePatches_7 : decode cX5_allSeatsHavePatches 7 = .ok (.if_icmp .ge 23, 3) := by decide +kernel
theorem dX5_allSeatsHavePatches_10 : decode cX5_allSeatsHavePatches 10 = .ok (.aload_n 0, 1) := by decide +kernel
theorem dX5_allSeatsHavePatches_11 : decode cX5_allSeatsHavePatches 11 = .ok (.getfield 19, 3) := by decide +kernel
theorem dX5_allSeatsHavePatches_14 : decode cX5_allSeatsHavePatches 14 = .ok (.iload_n 1, 1) := by decide +kernel
theorem dX5_allSeatsHavePatches_15 : decode cX5_allSeatsHavePatches 15 = .ok (.aaload, 1) := by decide +kernel
theorem dX5_allSeatsHavePatches_16 : decode cX5_allSeatsHavePatches 16 = .ok (.getfield 77, 3) := by decide +kernel
theorem dX5_allSeatsHavePatches_19 : decode cX5_allSeatsHavePatches 19 = .ok (.ifCond .ne 5, 3) := by decide +kernel
theorem dX5_allSeatsHavePatches_22 : decode cX5_allSeatsHavePatches 22 = .ok (.iconst 0, 1) := by decide +kernel
theorem dX5_allSeatsHavePatches_23 : decode cX5_allSeatsHavePatches 23 = .ok (.ireturn, 1) := by decide +kernel
theorem dX5_allSeatsHavePatches_24 : decode cX5_allSeatsHavePatches 24 = .ok (.iinc 1 1, 3) := by decide +kernel
theorem dX5_allSeatsHavePatches_27 : decode cX5_allSeatsHavePatches 27 = .ok (.goto (-25), 3) := by decide +kernel
theorem dX5_allSeatsHavePatches_30 : decode cX5_allSeatsHavePatches 30 = .ok (.iconst 1, 1) := by decide +kernel
theorem dX5_allSeatsHavePatches_31 : decode cX5_allSeatsHavePatches 31 = .ok (.ireturn, 1) := by decide +kernel
theorem fw_X5_77 : fI RX5 77 8 6 := ⟨⟨lwG_1 (i := 120) rfl rfl, by decide, by decide⟩, rfl⟩
section W_X5_allSeatsHavePatches
variable {p : Program} {l : Launch} {e : Env} {s : State} {m : MethodId} {args : Array Value} {below : List Frame} {meth : Method} {c : Code} {D : va_G} {cy : Nat → ClassId} {G : Nat × Nat} {n0 : Nat} {Qp : Option PV → Mm → Prop}
set_option maxRecDepth 100000 in
set_option maxHeartbeats 4000000 in
theorem f_X5_allSeatsHavePatches_2 {o0 : Nat} {x1 : Int} {M : Mm} {Q : Int → Prop} {K2 : Int → Prop} (C : Cx p s m args meth c cX5_allSeatsHavePatches 2 RX5 D cy G n0) (hr : meth.sig.returnType = some .boolean) (h3 : n0 = 243) (hn : M.2.2.2 = n0) (ho0 : o0 < 243 ∧ (SH o0).1 = 5) (hQ : ∀ x, Q x → Qp (some (vI x)) M) (hK2 : ∀ (x1 : Int), K2 (x1) → WW p l e ({ frames := 0, cells := 0, slots := 0, locals := 0 }) s m args below meth c (ZQ below args s D cy G n0 Qp n0) 2 D cy G n0 2 [(0, vR (some o0)), (1, vI x1)] [] M) (h : F_X5_allSeatsHavePatches_2 o0 M Q  K2 x1) : WW p l e ({ frames := 0, cells := 0, slots := 0, locals := 0 }) s m args below meth c (ZQ below args s D cy G n0 Qp n0) 2 D cy G n0 2 [(0, vR (some o0)), (1, vI x1)] [] M := by
  unfold F_X5_allSeatsHavePatches_2 at h
  refine w_iload_n C dX5_allSeatsHavePatches_2 rfl (mem_k 1 rfl) ?_
  refine w_aload_n C dX5_allSeatsHavePatches_3 rfl (mem_k 0 rfl) ?_
  refine x_getI C dX5_allSeatsHavePatches_4 fw_X5_31 (isO.n (ci := 5) ⟨rfl, ho0⟩ (hn.trans h3)) ?_
  refine w_icmp_ge (tgt := 30) C dX5_allSeatsHavePatches_7 (by decide) (fun q => ?_) (fun q => ?_)
  · replace h := h.1 q
    refine w_iconst C dX5_allSeatsHavePatches_30 ⟨by decide, by decide⟩ ?_
    exact x_zret C hr dX5_allSeatsHavePatches_31 hn (by decide) (hQ _ h)
  · replace h := h.2 q
    refine w_aload_n C dX5_allSeatsHavePatches_10 rfl (mem_k 0 rfl) ?_
    refine x_getR C dX5_allSeatsHavePatches_11 fw_X5_19 (isO.n (ci := 5) ⟨rfl, ho0⟩ (hn.trans h3)) (fun r1 er1 => ?_)
    replace h := h r1 er1
    refine w_iload_n C dX5_allSeatsHavePatches_14 rfl (mem_k 1 rfl) ?_
    obtain ⟨o2, g3, h⟩ := h
    refine x_aald C dX5_allSeatsHavePatches_15 (isA.n g3 (hn.trans h3)) (by decide) (fun r4 er4 => ?_)
    replace h := h r4 er4
    obtain ⟨o5, g6, h⟩ := h
    refine x_getI C dX5_allSeatsHavePatches_16 fw_X5_77 (isO.n g6 (hn.trans h3)) ?_
    refine w_if_ne (tgt := 24) C dX5_allSeatsHavePatches_19 (by decide) (fun q => ?_) (fun q => ?_)
    · replace h := h.1 q
      obtain ⟨v7, ev7⟩ : ∃ z : Int, z = x1 + 1 := ⟨_, rfl⟩
      refine x_iinc (L' := [(1, vI v7), (0, vR (some o0))]) C dX5_allSeatsHavePatches_24 (mem_k 1 rfl) (by decide) h.1 ev7 rfl ?_
      replace h := h.2 v7 ev7
      refine w_goto (tgt := 2) C dX5_allSeatsHavePatches_27 (by decide) ?_
      refine x_pc (pc2 := 2) rfl ?_
      refine x_pick (L' := [(0, vR (some o0)), (1, vI v7)]) [1, 0] rfl ?_
      exact hK2 v7 h
    · replace h := h.2 q
      refine w_iconst C dX5_allSeatsHavePatches_22 ⟨by decide, by decide⟩ ?_
      exact x_zret C hr dX5_allSeatsHavePatches_23 hn (by decide) (hQ _ h)
set_option maxRecDepth 100000 in
set_option maxHeartbeats 4000000 in
theorem k_X5_allSeatsHavePatches_2 {o0 : Nat} {x1 : Int} {M : Mm} {Q : Int → Prop} (C : Cx p s m args meth c cX5_allSeatsHavePatches 2 RX5 D cy G n0) (hr : meth.sig.returnType = some .boolean) (h3 : n0 = 243) (hn : M.2.2.2 = n0) (ho0 : o0 < 243 ∧ (SH o0).1 = 5) (hQ : ∀ x, Q x → Qp (some (vI x)) M) (h : P_X5_allSeatsHavePatches_2 o0 x1 M Q ) : WW p l e ({ frames := 0, cells := 0, slots := 0, locals := 0 }) s m args below meth c (ZQ below args s D cy G n0 Qp n0) 2 D cy G n0 2 [(0, vR (some o0)), (1, vI x1)] [] M := by
  refine lpW_sound (P := fun y : Int => WW p l e ({ frames := 0, cells := 0, slots := 0, locals := 0 }) s m args below meth c (ZQ below args s D cy G n0 Qp n0) 2 D cy G n0 2 [(0, vR (some o0)), (1, vI y)] [] M) ?_ h
  intro K y hK hF
  exact f_X5_allSeatsHavePatches_2 C hr h3 hn ho0 hQ  (fun x1 hk => hK x1 hk) hF
set_option maxRecDepth 100000 in
set_option maxHeartbeats 4000000 in
theorem k_X5_allSeatsHavePatches_0 {o0 : Nat} {M : Mm} {Q : Int → Prop} (C : Cx p s m args meth c cX5_allSeatsHavePatches 2 RX5 D cy G n0) (hr : meth.sig.returnType = some .boolean) (h3 : n0 = 243) (hn : M.2.2.2 = n0) (ho0 : o0 < 243 ∧ (SH o0).1 = 5) (hQ : ∀ x, Q x → Qp (some (vI x)) M) (h : P_X5_allSeatsHavePatches o0 M Q ) : WW p l e ({ frames := 0, cells := 0, slots := 0, locals := 0 }) s m args below meth c (ZQ below args s D cy G n0 Qp n0) 2 D cy G n0 0 [(0, vR (some o0))] [] M := by
  unfold P_X5_allSeatsHavePatches at h
  refine w_iconst C dX5_allSeatsHavePatches_0 ⟨by decide, by decide⟩ ?_
  refine x_istore_n (L' := [(1, vI 0), (0, vR (some o0))]) C dX5_allSeatsHavePatches_1 rfl (by decide) rfl ?_
  refine x_pc (pc2 := 2) rfl ?_
  refine x_pick (L' := [(0, vR (some o0)), (1, vI 0)]) [1, 0] rfl ?_
  exact k_X5_allSeatsHavePatches_2 C hr h3 hn ho0 hQ  h
set_option maxRecDepth 100000 in
set_option maxHeartbeats 4000000 in
theorem con_X5_allSeatsHavePatches (l : Launch) (D : va_G) (cy : Nat → ClassId) : Con l D cy yX5_allSeatsHavePatches cX5_allSeatsHavePatches 2 (some .boolean) ({ frames := 0, cells := 0, slots := 0, locals := 0 }) 0 0 SP_X5_allSeatsHavePatches := by
  refine con_of (by decide) (fun as M Qp h => ?_) ?_
  · obtain ⟨-, o0, rfl, -⟩ := h
    exact Nat.le_of_ble_eq_true rfl
  · intro p e s m args below meth c G as M Qp h C hr hnm
    obtain ⟨hn, o0, rfl, ho1, ho2, Q0, hQ, h⟩ := h
    refine x_pick (L' := [(0, vR (some o0))]) [0] rfl ?_
    exact k_X5_allSeatsHavePatches_0 C hr hn rfl ⟨ho1, ho2⟩ hQ h
set_option maxRecDepth 100000 in
set_option maxHeartbeats 4000000 in
theorem cl_X5_allSeatsHavePatches {p : Program} {l : Launch} {e : Env} {R : Room} {s : State} {m : MethodId} {args : Array Value} {below : List Frame} {meth : Method} {c : Code} {Q : State → Prop} {cc : ByteArray} {nL : Nat} {own : String} {D : va_G} {cy : Nat → ClassId} {G : Nat × Nat} {n0 pc : Nat} {L : List (Nat × PV)} {st : List PV} {M : Mm} {op : Instr} (K : CallOK l D cy R own op 0 0 (spV 5 0 SP_X5_allSeatsHavePatches)) (C : Cx p s m args meth c cc nL own D cy G n0) (hd : decode cc pc = .ok (op, 3)) (hn : M.2.2.2 = n0) (h3 : n0 = 243) (hlen : argN st ≤ 8) {r : Option Nat} {o0 : Nat} (ho : isOn 5 M.2.2.2 r o0)  {Q0 : Int → Prop} (h : P_X5_allSeatsHavePatches o0 M Q0) (k : ∀ x, Q0 x → WW p l e R s m args below meth c Q nL D cy G n0  (pc + 3) L (vI x :: st) M) : WW p l e R s m args below meth c Q nL D cy G n0  pc L (vR r :: st) M := by
  obtain ⟨rfl, ho1, ho2⟩ := ho
  refine x_call0 K C hd (as := [vR (some o0)]) rfl hn hlen (fun v M2 => ∃ x, v = some (vI x) ∧ M2 = M ∧ Q0 x) ⟨⟨o0, [], rfl, rfl, ho1, ho2⟩, hn.trans h3, o0, rfl, (hn.trans h3) ▸ ho1, ho2, Q0, fun x hx => ⟨x, rfl, rfl, hx⟩, h⟩ ?_
  rintro _ _ ⟨x, rfl, rfl, hx⟩ hm
  exact k x hx
end W_X5_allSeatsHavePatches
theorem dX5_patchesOfAll_0 : decode cX5_patchesOfAll 0 = .ok (.iconst 0, 1) := by decide +kernel
theorem dX5_patchesOfAll_1 : decode cX5_patchesOfAll 1 = .ok (.istore_n 1, 1) := by decide +kernel
theorem dX5_patchesOfAll_2 : decode cX5_patchesOfAll 2 = .ok (.iconst 0, 1) := by decide +kernel
theorem dX5_patchesOfAll_3 : decode cX5_patchesOfAll 3 = .ok (.istore_n 2, 1) := by decide +kernel
theorem dX5_patchesOfAll_4 : decode cX5_patchesOfAll 4 = .ok (.iload_n 2, 1) := by decide +kernel
theorem dX5_patchesOfAll_5 : decode cX5_patchesOfAll 5 = .ok (.aload_n 0, 1) := by decide +kernel
theorem dX5_patchesOfAll_6 : decode cX5_patchesOfAll 6 = .ok (.getfield 31, 3) := by decide +kernel
theorem dX5_patchesOfAll_9 : decode cX5_patchesOfAll 9 = .ok (.if_icmp .ge 21, 3) := by decide +kernel
theorem dX5_patchesOfAll_12 : decode cX5_patchesOfAll 12 = .ok (.iload_n 1, 1) := by decide +kernel
theorem dX5_patchesOfAll_13 : decode cX5_patchesOfAll 13 = .ok (.aload_n 0, 1) := by decide +kernel
theorem dX5_patchesOfAll_14 : decode cX5_patchesOfAll 14 = .ok (.getfield 19, 3) := by decide +kernel
theorem dX5_patchesOfAll_17 : decode cX5_patchesOfAll 17 = .ok (.iload_n 2, 1) := by decide +kernel
theorem dX5_patchesOfAll_18 : decode cX5_patchesOfAll 18 = .ok (.aaload, 1) := by decide +kernel
theorem dX5_patchesOfAll_19 : decode cX5_patchesOfAll 19 = .ok (.getfield 77, 3) := by decide +kernel
theorem dX5_patchesOfAll_22 : decode cX5_patchesOfAll 22 = .ok (.iadd, 1) := by decide +kernel
theorem dX5_patchesOfAll_23 : decode cX5_patchesOfAll 23 = .ok (.istore_n 1, 1) := by decide +kernel
theorem dX5_patchesOfAll_24 : decode cX5_patchesOfAll 24 = .ok (.iinc 2 1, 3) := by decide +kernel
theorem dX5_patchesOfAll_27 : decode cX5_patchesOfAll 27 = .ok (.goto (-23), 3) := by decide +kernel
theorem dX5_patchesOfAll_30 : decode cX5_patchesOfAll 30 = .ok (.iload_n 1, 1) := by decide +kernel
theorem dX5_patchesOfAll_31 : decode cX5_patchesOfAll 31 = .ok (.ireturn, 1) := by decide +kernel
section W_X5_patchesOfAll
variable {p : Program} {l : Launch} {e : Env} {s : State} {m : MethodId} {args : Array Value} {below : List Frame} {meth : Method} {c : Code} {D : va_G} {cy : Nat → ClassId} {G : Nat × Nat} {n0 : Nat} {Qp : Option PV → Mm → Prop}
set_option maxRecDepth 100000 in
set_option maxHeartbeats 4000000 in
theorem f_X5_patchesOfAll_4 {o0 : Nat} {x1 : Int} {x2 : Int} {M : Mm} {Q : Int → Prop} {K4 : Int × Int → Prop} (C : Cx p s m args meth c cX5_patchesOfAll 3 RX5 D cy G n0) (hr : meth.sig.returnType = some .int) (h3 : n0 = 243) (hn : M.2.2.2 = n0) (ho0 : o0 < 243 ∧ (SH o0).1 = 5) (hQ : ∀ x, Q x → Qp (some (vI x)) M) (hK4 : ∀ (x1 : Int) (x2 : Int), K4 (x1, x2) → WW p l e ({ frames := 0, cells := 0, slots := 0, locals := 0 }) s m args below meth c (ZQ below args s D cy G n0 Qp n0) 3 D cy G n0 4 [(0, vR (some o0)), (1, vI x1), (2, vI x2)] [] M) (h : F_X5_patchesOfAll_4 o0 M Q  K4 x1 x2) : WW p l e ({ frames := 0, cells := 0, slots := 0, locals := 0 }) s m args below meth c (ZQ below args s D cy G n0 Qp n0) 3 D cy G n0 4 [(0, vR (some o0)), (1, vI x1), (2, vI x2)] [] M := by
  unfold F_X5_patchesOfAll_4 at h
  refine w_iload_n C dX5_patchesOfAll_4 rfl (mem_k 2 rfl) ?_
  refine w_aload_n C dX5_patchesOfAll_5 rfl (mem_k 0 rfl) ?_
  refine x_getI C dX5_patchesOfAll_6 fw_X5_31 (isO.n (ci := 5) ⟨rfl, ho0⟩ (hn.trans h3)) ?_
  refine w_icmp_ge (tgt := 30) C dX5_patchesOfAll_9 (by decide) (fun q => ?_) (fun q => ?_)
  · replace h := h.1 q
    refine w_iload_n C dX5_patchesOfAll_30 rfl (mem_k 1 rfl) ?_
    exact x_iret C hr dX5_patchesOfAll_31 hn (hQ _ h)
  · replace h := h.2 q
    refine w_iload_n C dX5_patchesOfAll_12 rfl (mem_k 1 rfl) ?_
    refine w_aload_n C dX5_patchesOfAll_13 rfl (mem_k 0 rfl) ?_
    refine x_getR C dX5_patchesOfAll_14 fw_X5_19 (isO.n (ci := 5) ⟨rfl, ho0⟩ (hn.trans h3)) (fun r1 er1 => ?_)
    replace h := h r1 er1
    refine w_iload_n C dX5_patchesOfAll_17 rfl (mem_k 2 rfl) ?_
    obtain ⟨o2, g3, h⟩ := h
    refine x_aald C dX5_patchesOfAll_18 (isA.n g3 (hn.trans h3)) (by decide) (fun r4 er4 => ?_)
    replace h := h r4 er4
    obtain ⟨o5, g6, h⟩ := h
    refine x_getI C dX5_patchesOfAll_19 fw_X5_77 (isO.n g6 (hn.trans h3)) ?_
    refine w_iadd C dX5_patchesOfAll_22 h.1 ?_
    replace h := h.2
    refine x_nmI (fun v7 ev7 => ?_)
    replace h := h v7 ev7
    refine x_istore_n (L' := [(1, vI v7), (0, vR (some o0)), (2, vI x2)]) C dX5_patchesOfAll_23 rfl (by decide) rfl ?_
    obtain ⟨v8, ev8⟩ : ∃ z : Int, z = x2 + 1 := ⟨_, rfl⟩
    refine x_iinc (L' := [(2, vI v8), (1, vI v7), (0, vR (some o0))]) C dX5_patchesOfAll_24 (mem_k 2 rfl) (by decide) h.1 ev8 rfl ?_
    replace h := h.2 v8 ev8
    refine w_goto (tgt := 4) C dX5_patchesOfAll_27 (by decide) ?_
    refine x_pc (pc2 := 4) rfl ?_
    refine x_pick (L' := [(0, vR (some o0)), (1, vI v7), (2, vI v8)]) [2, 1, 0] rfl ?_
    exact hK4 v7 v8 h
set_option maxRecDepth 100000 in
set_option maxHeartbeats 4000000 in
theorem k_X5_patchesOfAll_4 {o0 : Nat} {x1 : Int} {x2 : Int} {M : Mm} {Q : Int → Prop} (C : Cx p s m args meth c cX5_patchesOfAll 3 RX5 D cy G n0) (hr : meth.sig.returnType = some .int) (h3 : n0 = 243) (hn : M.2.2.2 = n0) (ho0 : o0 < 243 ∧ (SH o0).1 = 5) (hQ : ∀ x, Q x → Qp (some (vI x)) M) (h : P_X5_patchesOfAll_4 o0 x1 x2 M Q ) : WW p l e ({ frames := 0, cells := 0, slots := 0, locals := 0 }) s m args below meth c (ZQ below args s D cy G n0 Qp n0) 3 D cy G n0 4 [(0, vR (some o0)), (1, vI x1), (2, vI x2)] [] M := by
  refine lpW_sound (P := fun y : Int × Int => WW p l e ({ frames := 0, cells := 0, slots := 0, locals := 0 }) s m args below meth c (ZQ below args s D cy G n0 Qp n0) 3 D cy G n0 4 [(0, vR (some o0)), (1, vI y.1), (2, vI y.2)] [] M) ?_ h
  intro K y hK hF
  obtain ⟨x1, x2⟩ := y
  exact f_X5_patchesOfAll_4 C hr h3 hn ho0 hQ  (fun x1 x2 hk => hK (x1, x2) hk) hF
set_option maxRecDepth 100000 in
set_option maxHeartbeats 4000000 in
theorem k_X5_patchesOfAll_0 {o0 : Nat} {M : Mm} {Q : Int → Prop} (C : Cx p s m args meth c cX5_patchesOfAll 3 RX5 D cy G n0) (hr : meth.sig.returnType = some .int) (h3 : n0 = 243) (hn : M.2.2.2 = n0) (ho0 : o0 < 243 ∧ (SH o0).1 = 5) (hQ : ∀ x, Q x → Qp (some (vI x)) M) (h : P_X5_patchesOfAll o0 M Q ) : WW p l e ({ frames := 0, cells := 0, slots := 0, locals := 0 }) s m args below meth c (ZQ below args s D cy G n0 Qp n0) 3 D cy G n0 0 [(0, vR (some o0))] [] M := by
  unfold P_X5_patchesOfAll at h
  refine w_iconst C dX5_patchesOfAll_0 ⟨by decide, by decide⟩ ?_
  refine x_istore_n (L' := [(1, vI 0), (0, vR (some o0))]) C dX5_patchesOfAll_1 rfl (by decide) rfl ?_
  refine w_iconst C dX5_patchesOfAll_2 ⟨by decide, by decide⟩ ?_
  refine x_istore_n (L' := [(2, vI 0), (1, vI 0), (0, vR (some o0))]) C dX5_patchesOfAll_3 rfl (by decide) rfl ?_
  refine x_pc (pc2 := 4) rfl ?_
  refine x_pick (L' := [(0, vR (some o0)), (1, vI 0), (2, vI 0)]) [2, 1, 0] rfl ?_
  exact k_X5_patchesOfAll_4 C hr h3 hn ho0 hQ  h
set_option maxRecDepth 100000 in
set_option maxHeartbeats 4000000 in
theorem con_X5_patchesOfAll (l : Launch) (D : va_G) (cy : Nat → ClassId) : Con l D cy yX5_patchesOfAll cX5_patchesOfAll 3 (some .int) ({ frames := 0, cells := 0, slots := 0, locals := 0 }) 0 0 SP_X5_patchesOfAll := by
  refine con_of (by decide) (fun as M Qp h => ?_) ?_
  · obtain ⟨-, o0, rfl, -⟩ := h
    exact Nat.le_of_ble_eq_true rfl
  · intro p e s m args below meth c G as M Qp h C hr hnm
    obtain ⟨hn, o0, rfl, ho1, ho2, Q0, hQ, h⟩ := h
    refine x_pick (L' := [(0, vR (some o0))]) [0] rfl ?_
    exact k_X5_patchesOfAll_0 C hr hn rfl ⟨ho1, ho2⟩ hQ h
set_option maxRecDepth 100000 in
set_option maxHeartbeats 4000000 in
theorem cl_X5_patchesOfAll {p : Program} {l : Launch} {e : Env} {R : Room} {s : State} {m : MethodId} {args : Array Value} {below : List Frame} {meth : Method} {c : Code} {Q : State → Prop} {cc : ByteArray} {nL : Nat} {own : String} {D : va_G} {cy : Nat → ClassId} {G : Nat × Nat} {n0 pc : Nat} {L : List (Nat × PV)} {st : List PV} {M : Mm} {op : Instr} (K : CallOK l D cy R own op 0 0 (spV 5 0 SP_X5_patchesOfAll)) (C : Cx p s m args meth c cc nL own D cy G n0) (hd : decode cc pc = .ok (op, 3)) (hn : M.2.2.2 = n0) (h3 : n0 = 243) (hlen : argN st ≤ 8) {r : Option Nat} {o0 : Nat} (ho : isOn 5 M.2.2.2 r o0)  {Q0 : Int → Prop} (h : P_X5_patchesOfAll o0 M Q0) (k : ∀ x, Q0 x → WW p l e R s m args below meth c Q nL D cy G n0  (pc + 3) L (vI x :: st) M) : WW p l e R s m args below meth c Q nL D cy G n0  pc L (vR r :: st) M := by
  obtain ⟨rfl, ho1, ho2⟩ := ho
  refine x_call0 K C hd (as := [vR (some o0)]) rfl hn hlen (fun v M2 => ∃ x, v = some (vI x) ∧ M2 = M ∧ Q0 x) ⟨⟨o0, [], rfl, rfl, ho1, ho2⟩, hn.trans h3, o0, rfl, (hn.trans h3) ▸ ho1, ho2, Q0, fun x hx => ⟨x, rfl, rfl, hx⟩, h⟩ ?_
  rintro _ _ ⟨x, rfl, rfl, hx⟩ hm
  exact k x hx
end W_X5_patchesOfAll
theorem dX6_takeWorn_0 : decode cX6_takeWorn 0 = .ok (.iconst 0, 1) := by decide +kernel
theorem dX6_takeWorn_1 : decode cX6_takeWorn 1 = .ok (.istore_n 2, 1) := by decide +kernel
theorem dX6_takeWorn_2 : decode cX6_takeWorn 2 = .ok (.iload_n 2, 1) := by decide +kernel
theorem dX6_takeWorn_3 : decode cX6_takeWorn 3 = .ok (.aload_n 1, 1) := by decide +kernel
theorem dX6_takeWorn_4 : decode cX6_takeWorn 4 = .ok (.getfield 31, 3) := by decide +kernel
theorem dX6_takeWorn_7 : decode cX6_takeWorn 7 = .ok (.if_icmp .ge 24, 3) := by decide +kernel
theorem dX6_takeWorn_10 : decode cX6_takeWorn 10 = .ok (.aload_n 0, 1) := by decide +kernel
theorem dX6_takeWorn_11 : decode cX6_takeWorn 11 = .ok (.getfield 15, 3) := by decide +kernel
theorem dX6_takeWorn_14 : decode cX6_takeWorn 14 = .ok (.iload_n 2, 1) := by decide +kernel
theorem dX6_takeWorn_15 : decode cX6_takeWorn 15 = .ok (.aload_n 1, 1) := by decide +kernel
theorem dX6_takeWorn_16 : decode cX6_takeWorn 16 = .ok (.getfield 36, 3) := by decide +kernel
theorem dX6_takeWorn_19 : decode cX6_takeWorn 19 = .ok (.iload_n 2, 1) := by decide +kernel
theorem dX6_takeWorn_20 : decode cX6_takeWorn 20 = .ok (.aaload, 1) := by decide +kernel
theorem dX6_takeWorn_21 : decode cX6_takeWorn 21 = .ok (.getfield 40, 3) := by decide +kernel
theorem dX6_takeWorn_24 : decode cX6_takeWorn 24 = .ok (.iastore, 1) := by decide +kernel
theorem dX6_takeWorn_25 : decode cX6_takeWorn 25 = .ok (.iinc 2 1, 3) := by decide +kernel
theorem dX6_takeWorn_28 : decode cX6_takeWorn 28 = .ok (.goto (-26), 3) := by decide +kernel
theorem dX6_takeWorn_31 : decode cX6_takeWorn 31 = .ok (.return_, 1) := by decide +kernel
theorem fw_X6_31 : fI RX6 31 8 6 := ⟨⟨lwG_1 (i := 118) rfl rfl, by decide, by decide⟩, rfl⟩
theorem fw_X6_15 : fR RX6 15 6 3 := ⟨⟨lwG_1 (i := 227) rfl rfl, by decide, by decide⟩, fun _ _ => rfl, fun r => ⟨r, rfl⟩⟩
theorem fw_X6_36 : fR RX6 36 8 5 := ⟨⟨lwG_1 (i := 117) rfl rfl, by decide, by decide⟩, fun _ _ => rfl, fun r => ⟨r, rfl⟩⟩
theorem fw_X6_40 : fI RX6 40 4 3 := ⟨⟨lwG_1 (i := 96) rfl rfl, by decide, by decide⟩, rfl⟩
section W_X6_takeWorn
variable {p : Program} {l : Launch} {e : Env} {s : State} {m : MethodId} {args : Array Value} {below : List Frame} {meth : Method} {c : Code} {D : va_G} {cy : Nat → ClassId} {G : Nat × Nat} {n0 : Nat} {Qp : Option PV → Mm → Prop}
set_option maxRecDepth 100000 in
set_option maxHeartbeats 4000000 in
theorem f_X6_takeWorn_2 {o0 : Nat} {a1 : Option Nat} {x2 : Int} {M : Mm} {Q : Mm → Prop} {K2 : Int × Mm → Prop} (C : Cx p s m args meth c cX6_takeWorn 3 RX6 D cy G n0) (hr : meth.sig.returnType = none) (h3 : n0 = 243) (hn : M.2.2.2 = n0) (ho0 : o0 < 243 ∧ (SH o0).1 = 6) (hQ : ∀ M, Q M → Qp none M) (hK2 : ∀ (x2 : Int) (M : Mm), K2 (x2, M) → M.2.2.2 = n0 → WW p l e ({ frames := 0, cells := 0, slots := 0, locals := 0 }) s m args below meth c (ZQ below args s D cy G n0 Qp n0) 3 D cy G n0 2 [(0, vR (some o0)), (1, vR a1), (2, vI x2)] [] M) (h : F_X6_takeWorn_2 o0 a1 Q  K2 x2 M) : WW p l e ({ frames := 0, cells := 0, slots := 0, locals := 0 }) s m args below meth c (ZQ below args s D cy G n0 Qp n0) 3 D cy G n0 2 [(0, vR (some o0)), (1, vR a1), (2, vI x2)] [] M := by
  unfold F_X6_takeWorn_2 at h
  refine w_iload_n C dX6_takeWorn_2 rfl (mem_k 2 rfl) ?_
  refine w_aload_n C dX6_takeWorn_3 rfl (mem_k 1 rfl) ?_
  obtain ⟨o1, g2, h⟩ := h
  refine x_getI C dX6_takeWorn_4 fw_X6_31 (isO.n g2 (hn.trans h3)) ?_
  refine w_icmp_ge (tgt := 31) C dX6_takeWorn_7 (by decide) (fun q => ?_) (fun q => ?_)
  · replace h := h.1 q
    exact x_vret C hr dX6_takeWorn_31 hn (hQ M h)
  · replace h := h.2 q
    refine w_aload_n C dX6_takeWorn_10 rfl (mem_k 0 rfl) ?_
    refine x_getR C dX6_takeWorn_11 fw_X6_15 (isO.n (ci := 6) ⟨rfl, ho0⟩ (hn.trans h3)) (fun r3 er3 => ?_)
    replace h := h r3 er3
    refine w_iload_n C dX6_takeWorn_14 rfl (mem_k 2 rfl) ?_
    refine w_aload_n C dX6_takeWorn_15 rfl (mem_k 1 rfl) ?_
    refine x_getR C dX6_takeWorn_16 fw_X6_36 (isO.n g2 (hn.trans h3)) (fun r4 er4 => ?_)
    replace h := h r4 er4
    refine w_iload_n C dX6_takeWorn_19 rfl (mem_k 2 rfl) ?_
    obtain ⟨o5, g6, h⟩ := h
    refine x_aald C dX6_takeWorn_20 (isA.n g6 (hn.trans h3)) (by decide) (fun r7 er7 => ?_)
    replace h := h r7 er7
    obtain ⟨o8, g9, h⟩ := h
    refine x_getI C dX6_takeWorn_21 fw_X6_40 (isO.n g9 (hn.trans h3)) ?_
    obtain ⟨o10, g11, h⟩ := h
    refine x_iast C dX6_takeWorn_24 (isA.n g11 (hn.trans h3)) (fun M12 eM12 hn13 => ?_)
    replace h := h M12 eM12
    replace hn13 := hn13.trans hn
    obtain ⟨v14, ev14⟩ : ∃ z : Int, z = x2 + 1 := ⟨_, rfl⟩
    refine x_iinc (L' := [(2, vI v14), (0, vR (some o0)), (1, vR a1)]) C dX6_takeWorn_25 (mem_k 2 rfl) (by decide) h.1 ev14 rfl ?_
    replace h := h.2 v14 ev14
    refine w_goto (tgt := 2) C dX6_takeWorn_28 (by decide) ?_
    refine x_pc (pc2 := 2) rfl ?_
    refine x_pick (L' := [(0, vR (some o0)), (1, vR a1), (2, vI v14)]) [1, 2, 0] rfl ?_
    exact hK2 v14 M12 h hn13
set_option maxRecDepth 100000 in
set_option maxHeartbeats 4000000 in
theorem k_X6_takeWorn_2 {o0 : Nat} {a1 : Option Nat} {x2 : Int} {M : Mm} {Q : Mm → Prop} (C : Cx p s m args meth c cX6_takeWorn 3 RX6 D cy G n0) (hr : meth.sig.returnType = none) (h3 : n0 = 243) (hn : M.2.2.2 = n0) (ho0 : o0 < 243 ∧ (SH o0).1 = 6) (hQ : ∀ M, Q M → Qp none M) (h : P_X6_takeWorn_2 o0 a1 x2 M Q ) : WW p l e ({ frames := 0, cells := 0, slots := 0, locals := 0 }) s m args below meth c (ZQ below args s D cy G n0 Qp n0) 3 D cy G n0 2 [(0, vR (some o0)), (1, vR a1), (2, vI x2)] [] M := by
  refine lpW_sound (P := fun y : Int × Mm => y.2.2.2.2 = n0 → WW p l e ({ frames := 0, cells := 0, slots := 0, locals := 0 }) s m args below meth c (ZQ below args s D cy G n0 Qp n0) 3 D cy G n0 2 [(0, vR (some o0)), (1, vR a1), (2, vI y.1)] [] y.2) ?_ h hn
  intro K y hK hF
  obtain ⟨x2, M⟩ := y
  intro hn
  exact f_X6_takeWorn_2 C hr h3 hn ho0 hQ  (fun x2 M hk => hK (x2, M) hk) hF
set_option maxRecDepth 100000 in
set_option maxHeartbeats 4000000 in
theorem k_X6_takeWorn_0 {o0 : Nat} {a1 : Option Nat} {M : Mm} {Q : Mm → Prop} (C : Cx p s m args meth c cX6_takeWorn 3 RX6 D cy G n0) (hr : meth.sig.returnType = none) (h3 : n0 = 243) (hn : M.2.2.2 = n0) (ho0 : o0 < 243 ∧ (SH o0).1 = 6) (hQ : ∀ M, Q M → Qp none M) (h : P_X6_takeWorn o0 a1 M Q ) : WW p l e ({ frames := 0, cells := 0, slots := 0, locals := 0 }) s m args below meth c (ZQ below args s D cy G n0 Qp n0) 3 D cy G n0 0 [(0, vR (some o0)), (1, vR a1)] [] M := by
  unfold P_X6_takeWorn at h
  refine w_iconst C dX6_takeWorn_0 ⟨by decide, by decide⟩ ?_
  refine x_istore_n (L' := [(2, vI 0), (0, vR (some o0)), (1, vR a1)]) C dX6_takeWorn_1 rfl (by decide) rfl ?_
  refine x_pc (pc2 := 2) rfl ?_
  refine x_pick (L' := [(0, vR (some o0)), (1, vR a1), (2, vI 0)]) [1, 2, 0] rfl ?_
  exact k_X6_takeWorn_2 C hr h3 hn ho0 hQ  h
set_option maxRecDepth 100000 in
set_option maxHeartbeats 4000000 in
theorem con_X6_takeWorn (l : Launch) (D : va_G) (cy : Nat → ClassId) : Con l D cy yX6_takeWorn cX6_takeWorn 3 (none) ({ frames := 0, cells := 0, slots := 0, locals := 0 }) 0 0 SP_X6_takeWorn := by
  refine con_of (by decide) (fun as M Qp h => ?_) ?_
  · obtain ⟨-, o0, a1, rfl, -⟩ := h
    exact Nat.le_of_ble_eq_true rfl
  · intro p e s m args below meth c G as M Qp h C hr hnm
    obtain ⟨hn, o0, a1, rfl, ho1, ho2, Q0, hQ, h⟩ := h
    refine x_pick (L' := [(0, vR (some o0)), (1, vR a1)]) [0, 1] rfl ?_
    exact k_X6_takeWorn_0 C hr hn rfl ⟨ho1, ho2⟩ hQ h
set_option maxRecDepth 100000 in
set_option maxHeartbeats 4000000 in
theorem cl_X6_takeWorn {p : Program} {l : Launch} {e : Env} {R : Room} {s : State} {m : MethodId} {args : Array Value} {below : List Frame} {meth : Method} {c : Code} {Q : State → Prop} {cc : ByteArray} {nL : Nat} {own : String} {D : va_G} {cy : Nat → ClassId} {G : Nat × Nat} {n0 pc : Nat} {L : List (Nat × PV)} {st : List PV} {M : Mm} {op : Instr} (K : CallOK l D cy R own op 0 0 (spV 6 1 SP_X6_takeWorn)) (C : Cx p s m args meth c cc nL own D cy G n0) (hd : decode cc pc = .ok (op, 3)) (hn : M.2.2.2 = n0) (h3 : n0 = 243) (hlen : argN st ≤ 8) {r : Option Nat} {o0 : Nat} (ho : isOn 6 M.2.2.2 r o0) {a1 : Option Nat} {Q0 : Mm → Prop} (h : P_X6_takeWorn o0 a1 M Q0) (k : ∀ M2, Q0 M2 → M2.2.2.2 = n0 → WW p l e R s m args below meth c Q nL D cy G n0  (pc + 3) L (st) M2) : WW p l e R s m args below meth c Q nL D cy G n0  pc L (vR a1 :: vR r :: st) M := by
  obtain ⟨rfl, ho1, ho2⟩ := ho
  refine x_call0 K C hd (as := [vR (some o0), vR a1]) rfl hn hlen (fun v M2 => v = none ∧ Q0 M2) ⟨⟨o0, [vR a1], rfl, rfl, ho1, ho2⟩, hn.trans h3, o0, a1, rfl, (hn.trans h3) ▸ ho1, ho2, Q0, fun M2 hx => ⟨rfl, hx⟩, h⟩ ?_
  rintro _ _ ⟨rfl, hx⟩ hm
  exact k _ hx hm
end W_X6_takeWorn
theorem dX6_giveWorn_0 : decode cX6_giveWorn 0 = .ok (.iconst 0, 1) := by decide +kernel
theorem dX6_giveWorn_1 : decode cX6_giveWorn 1 = .ok (.istore_n 2, 1) := by decide +kernel
theorem dX6_giveWorn_2 : decode cX6_giveWorn 2 = .ok (.iload_n 2, 1) := by decide +kernel
theorem dX6_giveWorn_3 : decode cX6_giveWorn 3 = .ok (.aload_n 1, 1) := by decide +kernel
theorem dX6_giveWorn_4 : decode cX6_giveWorn 4 = .ok (.getfield 31, 3) := by decide +kernel
theorem dX6_giveWorn_7 : decode cX6_giveWorn 7 = .ok (.if_icmp .ge 24, 3) := by decide +kernel
theorem dX6_giveWorn_10 : decode cX6_giveWorn 10 = .ok (.aload_n 1, 1) := by decide +kernel
theorem dX6_giveWorn_11 : decode cX6_giveWorn 11 = .ok (.getfield 36, 3) := by decide +kernel
theorem dX6_giveWorn_14 : decode cX6_giveWorn 14 = .ok (.iload_n 2, 1) := by decide +kernel
theorem dX6_giveWorn_15 : decode cX6_giveWorn 15 = .ok (.aaload, 1) := by decide +kernel
theorem dX6_giveWorn_16 : decode cX6_giveWorn 16 = .ok (.aload_n 0, 1) := by decide +kernel
theorem dX6_giveWorn_17 : decode cX6_giveWorn 17 = .ok (.getfield 15, 3) := by decide +kernel
theorem dX6_giveWorn_20 : decode cX6_giveWorn 20 = .ok (.iload_n 2, 1) := by decide +kernel
theorem dX6_giveWorn_21 : decode cX6_giveWorn 21 = .ok (.iaload, 1) := by decide +kernel
theorem dX6_giveWorn_22 : decode cX6_giveWorn 22 = .ok (.putfield 40, 3) := by decide +kernel
theorem dX6_giveWorn_25 : decode cX6_giveWorn 25 = .ok (.iinc 2 1, 3) := by decide +kernel
theorem dX6_giveWorn_28 : decode cX6_giveWorn 28 = .ok (.goto (-26), 3) := by decide +kernel
theorem dX6_giveWorn_31 : decode cX6_giveWorn 31 = .ok (.return_, 1) := by decide +kernel
section W_X6_giveWorn
variable {p : Program} {l : Launch} {e : Env} {s : State} {m : MethodId} {args : Array Value} {below : List Frame} {meth : Method} {c : Code} {D : va_G} {cy : Nat → ClassId} {G : Nat × Nat} {n0 : Nat} {Qp : Option PV → Mm → Prop}
set_option maxRecDepth 100000 in
set_option maxHeartbeats 4000000 in
theorem f_X6_giveWorn_2 {o0 : Nat} {a1 : Option Nat} {x2 : Int} {M : Mm} {Q : Mm → Prop} {K2 : Int × Mm → Prop} (C : Cx p s m args meth c cX6_giveWorn 3 RX6 D cy G n0) (hr : meth.sig.returnType = none) (h3 : n0 = 243) (hn : M.2.2.2 = n0) (ho0 : o0 < 243 ∧ (SH o0).1 = 6) (hQ : ∀ M, Q M → Qp none M) (hK2 : ∀ (x2 : Int) (M : Mm), K2 (x2, M) → M.2.2.2 = n0 → WW p l e ({ frames := 0, cells := 0, slots := 0, locals := 0 }) s m args below meth c (ZQ below args s D cy G n0 Qp n0) 3 D cy G n0 2 [(0, vR (some o0)), (1, vR a1), (2, vI x2)] [] M) (h : F_X6_giveWorn_2 o0 a1 Q  K2 x2 M) : WW p l e ({ frames := 0, cells := 0, slots := 0, locals := 0 }) s m args below meth c (ZQ below args s D cy G n0 Qp n0) 3 D cy G n0 2 [(0, vR (some o0)), (1, vR a1), (2, vI x2)] [] M := by
  unfold F_X6_giveWorn_2 at h
  refine w_iload_n C dX6_giveWorn_2 rfl (mem_k 2 rfl) ?_
  refine w_aload_n C dX6_giveWorn_3 rfl (mem_k 1 rfl) ?_
  obtain ⟨o1, g2, h⟩ := h
  refine x_getI C dX6_giveWorn_4 fw_X6_31 (isO.n g2 (hn.trans h3)) ?_
  refine w_icmp_ge (tgt := 31) C dX6_giveWorn_7 (by decide) (fun q => ?_) (fun q => ?_)
  · replace h := h.1 q
    exact x_vret C hr dX6_giveWorn_31 hn (hQ M h)
  · replace h := h.2 q
    refine w_aload_n C dX6_giveWorn_10 rfl (mem_k 1 rfl) ?_
    refine x_getR C dX6_giveWorn_11 fw_X6_36 (isO.n g2 (hn.trans h3)) (fun r3 er3 => ?_)
    replace h := h r3 er3
    refine w_iload_n C dX6_giveWorn_14 rfl (mem_k 2 rfl) ?_
    obtain ⟨o4, g5, h⟩ := h
    refine x_aald C dX6_giveWorn_15 (isA.n g5 (hn.trans h3)) (by decide) (fun r6 er6 => ?_)
    replace h := h r6 er6
    refine w_aload_n C dX6_giveWorn_16 rfl (mem_k 0 rfl) ?_
    refine x_getR C dX6_giveWorn_17 fw_X6_15 (isO.n (ci := 6) ⟨rfl, ho0⟩ (hn.trans h3)) (fun r7 er7 => ?_)
    replace h := h r7 er7
    refine w_iload_n C dX6_giveWorn_20 rfl (mem_k 2 rfl) ?_
    obtain ⟨o8, g9, h⟩ := h
    refine x_iald C dX6_giveWorn_21 (isA.n g9 (hn.trans h3)) ?_
    obtain ⟨o10, g11, h⟩ := h
    refine x_putI C dX6_giveWorn_22 fw_X6_40 (isO.n g11 (hn.trans h3)) (Or.inl rfl) (fun M12 eM12 hn13 => ?_)
    replace h := h M12 eM12
    replace hn13 := hn13.trans hn
    obtain ⟨v14, ev14⟩ : ∃ z : Int, z = x2 + 1 := ⟨_, rfl⟩
    refine x_iinc (L' := [(2, vI v14), (0, vR (some o0)), (1, vR a1)]) C dX6_giveWorn_25 (mem_k 2 rfl) (by decide) h.1 ev14 rfl ?_
    replace h := h.2 v14 ev14
    refine w_goto (tgt := 2) C dX6_giveWorn_28 (by decide) ?_
    refine x_pc (pc2 := 2) rfl ?_
    refine x_pick (L' := [(0, vR (some o0)), (1, vR a1), (2, vI v14)]) [1, 2, 0] rfl ?_
    exact hK2 v14 M12 h hn13
set_option maxRecDepth 100000 in
set_option maxHeartbeats 4000000 in
theorem k_X6_giveWorn_2 {o0 : Nat} {a1 : Option Nat} {x2 : Int} {M : Mm} {Q : Mm → Prop} (C : Cx p s m args meth c cX6_giveWorn 3 RX6 D cy G n0) (hr : meth.sig.returnType = none) (h3 : n0 = 243) (hn : M.2.2.2 = n0) (ho0 : o0 < 243 ∧ (SH o0).1 = 6) (hQ : ∀ M, Q M → Qp none M) (h : P_X6_giveWorn_2 o0 a1 x2 M Q ) : WW p l e ({ frames := 0, cells := 0, slots := 0, locals := 0 }) s m args below meth c (ZQ below args s D cy G n0 Qp n0) 3 D cy G n0 2 [(0, vR (some o0)), (1, vR a1), (2, vI x2)] [] M := by
  refine lpW_sound (P := fun y : Int × Mm => y.2.2.2.2 = n0 → WW p l e ({ frames := 0, cells := 0, slots := 0, locals := 0 }) s m args below meth c (ZQ below args s D cy G n0 Qp n0) 3 D cy G n0 2 [(0, vR (some o0)), (1, vR a1), (2, vI y.1)] [] y.2) ?_ h hn
  intro K y hK hF
  obtain ⟨x2, M⟩ := y
  intro hn
  exact f_X6_giveWorn_2 C hr h3 hn ho0 hQ  (fun x2 M hk => hK (x2, M) hk) hF
set_option maxRecDepth 100000 in
set_option maxHeartbeats 4000000 in
theorem k_X6_giveWorn_0 {o0 : Nat} {a1 : Option Nat} {M : Mm} {Q : Mm → Prop} (C : Cx p s m args meth c cX6_giveWorn 3 RX6 D cy G n0) (hr : meth.sig.returnType = none) (h3 : n0 = 243) (hn : M.2.2.2 = n0) (ho0 : o0 < 243 ∧ (SH o0).1 = 6) (hQ : ∀ M, Q M → Qp none M) (h : P_X6_giveWorn o0 a1 M Q ) : WW p l e ({ frames := 0, cells := 0, slots := 0, locals := 0 }) s m args below meth c (ZQ below args s D cy G n0 Qp n0) 3 D cy G n0 0 [(0, vR (some o0)), (1, vR a1)] [] M := by
  unfold P_X6_giveWorn at h
  refine w_iconst C dX6_giveWorn_0 ⟨by decide, by decide⟩ ?_
  refine x_istore_n (L' := [(2, vI 0), (0, vR (some o0)), (1, vR a1)]) C dX6_giveWorn_1 rfl (by decide) rfl ?_
  refine x_pc (pc2 := 2) rfl ?_
  refine x_pick (L' := [(0, vR (some o0)), (1, vR a1), (2, vI 0)]) [1, 2, 0] rfl ?_
  exact k_X6_giveWorn_2 C hr h3 hn ho0 hQ  h
set_option maxRecDepth 100000 in
set_option maxHeartbeats 4000000 in
theorem con_X6_giveWorn (l : Launch) (D : va_G) (cy : Nat → ClassId) : Con l D cy yX6_giveWorn cX6_giveWorn 3 (none) ({ frames := 0, cells := 0, slots := 0, locals := 0 }) 0 0 SP_X6_giveWorn := by
  refine con_of (by decide) (fun as M Qp h => ?_) ?_
  · obtain ⟨-, o0, a1, rfl, -⟩ := h
    exact Nat.le_of_ble_eq_true rfl
  · intro p e s m args below meth c G as M Qp h C hr hnm
    obtain ⟨hn, o0, a1, rfl, ho1, ho2, Q0, hQ, h⟩ := h
    refine x_pick (L' := [(0, vR (some o0)), (1, vR a1)]) [0, 1] rfl ?_
    exact k_X6_giveWorn_0 C hr hn rfl ⟨ho1, ho2⟩ hQ h
set_option maxRecDepth 100000 in
set_option maxHeartbeats 4000000 in
theorem cl_X6_giveWorn {p : Program} {l : Launch} {e : Env} {R : Room} {s : State} {m : MethodId} {args : Array Value} {below : List Frame} {meth : Method} {c : Code} {Q : State → Prop} {cc : ByteArray} {nL : Nat} {own : String} {D : va_G} {cy : Nat → ClassId} {G : Nat × Nat} {n0 pc : Nat} {L : List (Nat × PV)} {st : List PV} {M : Mm} {op : Instr} (K : CallOK l D cy R own op 0 0 (spV 6 1 SP_X6_giveWorn)) (C : Cx p s m args meth c cc nL own D cy G n0) (hd : decode cc pc = .ok (op, 3)) (hn : M.2.2.2 = n0) (h3 : n0 = 243) (hlen : argN st ≤ 8) {r : Option Nat} {o0 : Nat} (ho : isOn 6 M.2.2.2 r o0) {a1 : Option Nat} {Q0 : Mm → Prop} (h : P_X6_giveWorn o0 a1 M Q0) (k : ∀ M2, Q0 M2 → M2.2.2.2 = n0 → WW p l e R s m args below meth c Q nL D cy G n0  (pc + 3) L (st) M2) : WW p l e R s m args below meth c Q nL D cy G n0  pc L (vR a1 :: vR r :: st) M := by
  obtain ⟨rfl, ho1, ho2⟩ := ho
  refine x_call0 K C hd (as := [vR (some o0), vR a1]) rfl hn hlen (fun v M2 => v = none ∧ Q0 M2) ⟨⟨o0, [vR a1], rfl, rfl, ho1, ho2⟩, hn.trans h3, o0, a1, rfl, (hn.trans h3) ▸ ho1, ho2, Q0, fun M2 hx => ⟨rfl, hx⟩, h⟩ ?_
  rintro _ _ ⟨rfl, hx⟩ hm
  exact k _ hx hm
end W_X6_giveWorn
theorem dX6_squeezeAt_0 : decode cX6_squeezeAt 0 = .ok (.iload_n 1, 1) := by decide +kernel
theorem dX6_squeezeAt_1 : decode cX6_squeezeAt 1 = .ok (.iconst 0, 1) := by decide +kernel
theorem dX6_squeezeAt_2 : decode cX6_squeezeAt 2 = .ok (.iconst 5, 1) := by decide +kernel
theorem dX6_squeezeAt_3 : decode cX6_squeezeAt 3 = .ok (.invokestatic 94, 3) := by decide +kernel
theorem dX6_squeezeAt_6 : decode cX6_squeezeAt 6 = .ok (.ifCond .ne 5, 3) := by decide +kernel
theorem dX6_squeezeAt_9 : decode cX6_squeezeAt 9 = .ok (.iconst 0, 1) := by decide +kernel
theorem dX6_squeezeAt_10 : decode cX6_squeezeAt 10 = .ok (.ireturn, 1) := by decide +kernel
theorem dX6_squeezeAt_11 : decode cX6_squeezeAt 11 = .ok (.aload_n 2, 1) := by decide +kernel
theorem dX6_squeezeAt_12 : decode cX6_squeezeAt 12 = .ok (.getfield 98, 3) := by decide +kernel
theorem dX6_squeezeAt_15 : decode cX6_squeezeAt 15 = .ok (.aload_n 0, 1) := by decide +kernel
theorem dX6_squeezeAt_16 : decode cX6_squeezeAt 16 = .ok (.getfield 15, 3) := by decide +kernel
theorem dX6_squeezeAt_19 : decode cX6_squeezeAt 19 = .ok (.iload_n 1, 1) := by decide +kernel
theorem dX6_squeezeAt_20 : decode cX6_squeezeAt 20 = .ok (.iaload, 1) := by decide +kernel
theorem dX6_squeezeAt_21 : decode cX6_squeezeAt 21 = .ok (.isub, 1) := by decide +kernel
theorem dX6_squeezeAt_22 : decode cX6_squeezeAt 22 = .ok (.aload_n 3, 1) := by decide +kernel
theorem dX6_squeezeAt_23 : decode cX6_squeezeAt 23 = .ok (.getfield 101, 3) := by decide +kernel
theorem dX6_squeezeAt_26 : decode cX6_squeezeAt 26 = .ok (.iload_n 1, 1) := by decide +kernel
theorem dX6_squeezeAt_27 : decode cX6_squeezeAt 27 = .ok (.iaload, 1) := by decide +kernel
theorem dX6_squeezeAt_28 : decode cX6_squeezeAt 28 = .ok (.iadd, 1) := by decide +kernel
theorem dX6_squeezeAt_29 : decode cX6_squeezeAt 29 = .ok (.iload 5, 2) := by decide +kernel
theorem dX6_squeezeAt_31 : decode cX6_squeezeAt 31 = .ok (.imul, 1) := by decide +kernel
theorem dX6_squeezeAt_32 : decode cX6_squeezeAt 32 = .ok (.iload 4, 2) := by decide +kernel
theorem dX6_squeezeAt_34 : decode cX6_squeezeAt 34 = .ok (.isub, 1) := by decide +kernel
theorem dX6_squeezeAt_35 : decode cX6_squeezeAt 35 = .ok (.ireturn, 1) := by decide +kernel
theorem fw_X6_98 : fI RX6 98 4 1 := ⟨⟨lwG_1 (i := 92) rfl rfl, by decide, by decide⟩, rfl⟩
theorem fw_X6_101 : fR RX6 101 0 6 := ⟨⟨lwG_1 (i := 179) rfl rfl, by decide, by decide⟩, fun _ _ => rfl, fun r => ⟨r, rfl⟩⟩
section W_X6_squeezeAt
variable {p : Program} {l : Launch} {e : Env} {s : State} {m : MethodId} {args : Array Value} {below : List Frame} {meth : Method} {c : Code} {D : va_G} {cy : Nat → ClassId} {G : Nat × Nat} {n0 : Nat} {Qp : Option PV → Mm → Prop}
set_option maxRecDepth 100000 in
set_option maxHeartbeats 4000000 in
theorem k_X6_squeezeAt_0 {o0 : Nat} {x1 : Int} {a2 : Option Nat} {a3 : Option Nat} {x4 : Int} {x5 : Int} {M : Mm} {Q : Int → Prop} (C : Cx p s m args meth c cX6_squeezeAt 6 RX6 D cy G n0) (hr : meth.sig.returnType = some .int) (h3 : n0 = 243) (hn : M.2.2.2 = n0) (ho0 : o0 < 243 ∧ (SH o0).1 = 6) (hQ : ∀ x, Q x → Qp (some (vI x)) M) (h : P_X6_squeezeAt o0 x1 a2 a3 x4 x5 M Q ) : WW p l e ({ frames := 1, cells := 0, slots := 0, locals := 22 }) s m args below meth c (ZQ below args s D cy G n0 Qp n0) 6 D cy G n0 0 [(0, vR (some o0)), (1, vI x1), (2, vR a2), (3, vR a3), (4, vI x4), (5, vI x5)] [] M := by
  unfold P_X6_squeezeAt at h
  refine w_iload_n C dX6_squeezeAt_0 rfl (mem_k 1 rfl) ?_
  refine w_iconst C dX6_squeezeAt_1 ⟨by decide, by decide⟩ ?_
  refine w_iconst C dX6_squeezeAt_2 ⟨by decide, by decide⟩ ?_
  refine cl_X11_isWithin (ck_X6_94 ⟨by decide, by decide⟩) C dX6_squeezeAt_3 hn h3 (Nat.le_of_ble_eq_true rfl) h (fun v1 h => ?_)
  refine w_if_ne (tgt := 11) C dX6_squeezeAt_6 (by decide) (fun q => ?_) (fun q => ?_)
  · replace h := h.1 q
    refine w_aload_n C dX6_squeezeAt_11 rfl (mem_k 2 rfl) ?_
    obtain ⟨o2, g3, h⟩ := h
    refine x_getI C dX6_squeezeAt_12 fw_X6_98 (isO.n g3 (hn.trans h3)) ?_
    refine w_aload_n C dX6_squeezeAt_15 rfl (mem_k 0 rfl) ?_
    refine x_getR C dX6_squeezeAt_16 fw_X6_15 (isO.n (ci := 6) ⟨rfl, ho0⟩ (hn.trans h3)) (fun r4 er4 => ?_)
    replace h := h r4 er4
    refine w_iload_n C dX6_squeezeAt_19 rfl (mem_k 1 rfl) ?_
    obtain ⟨o5, g6, h⟩ := h
    refine x_iald C dX6_squeezeAt_20 (isA.n g6 (hn.trans h3)) ?_
    refine w_isub C dX6_squeezeAt_21 h.1 ?_
    replace h := h.2
    refine w_aload_n C dX6_squeezeAt_22 rfl (mem_k 3 rfl) ?_
    obtain ⟨o7, g8, h⟩ := h
    refine x_getR C dX6_squeezeAt_23 fw_X6_101 (isO.n g8 (hn.trans h3)) (fun r9 er9 => ?_)
    replace h := h r9 er9
    refine w_iload_n C dX6_squeezeAt_26 rfl (mem_k 1 rfl) ?_
    obtain ⟨o10, g11, h⟩ := h
    refine x_iald C dX6_squeezeAt_27 (isA.n g11 (hn.trans h3)) ?_
    refine w_iadd C dX6_squeezeAt_28 h.1 ?_
    replace h := h.2
    refine w_iload C dX6_squeezeAt_29 (mem_k 5 rfl) ?_
    refine w_imul C dX6_squeezeAt_31 h.1 ?_
    replace h := h.2
    refine w_iload C dX6_squeezeAt_32 (mem_k 4 rfl) ?_
    refine w_isub C dX6_squeezeAt_34 h.1 ?_
    replace h := h.2
    exact x_iret C hr dX6_squeezeAt_35 hn (hQ _ h)
  · replace h := h.2 q
    refine w_iconst C dX6_squeezeAt_9 ⟨by decide, by decide⟩ ?_
    exact x_iret C hr dX6_squeezeAt_10 hn (hQ _ h)
set_option maxRecDepth 100000 in
set_option maxHeartbeats 4000000 in
theorem con_X6_squeezeAt (l : Launch) (D : va_G) (cy : Nat → ClassId) : Con l D cy yX6_squeezeAt cX6_squeezeAt 6 (some .int) ({ frames := 1, cells := 0, slots := 0, locals := 22 }) 0 0 SP_X6_squeezeAt := by
  refine con_of (by decide) (fun as M Qp h => ?_) ?_
  · obtain ⟨-, o0, x1, a2, a3, x4, x5, rfl, -⟩ := h
    exact Nat.le_of_ble_eq_true rfl
  · intro p e s m args below meth c G as M Qp h C hr hnm
    obtain ⟨hn, o0, x1, a2, a3, x4, x5, rfl, ho1, ho2, Q0, hQ, h⟩ := h
    refine x_pick (L' := [(0, vR (some o0)), (1, vI x1), (2, vR a2), (3, vR a3), (4, vI x4), (5, vI x5)]) [0, 1, 2, 3, 4, 5] rfl ?_
    exact k_X6_squeezeAt_0 C hr hn rfl ⟨ho1, ho2⟩ hQ h
set_option maxRecDepth 100000 in
set_option maxHeartbeats 4000000 in
theorem cl_X6_squeezeAt {p : Program} {l : Launch} {e : Env} {R : Room} {s : State} {m : MethodId} {args : Array Value} {below : List Frame} {meth : Method} {c : Code} {Q : State → Prop} {cc : ByteArray} {nL : Nat} {own : String} {D : va_G} {cy : Nat → ClassId} {G : Nat × Nat} {n0 pc : Nat} {L : List (Nat × PV)} {st : List PV} {M : Mm} {op : Instr} (K : CallOK l D cy R own op 0 0 (spV 6 5 SP_X6_squeezeAt)) (C : Cx p s m args meth c cc nL own D cy G n0) (hd : decode cc pc = .ok (op, 3)) (hn : M.2.2.2 = n0) (h3 : n0 = 243) (hlen : argN st ≤ 8) {r : Option Nat} {o0 : Nat} (ho : isOn 6 M.2.2.2 r o0) {x1 : Int} {a2 : Option Nat} {a3 : Option Nat} {x4 : Int} {x5 : Int} {Q0 : Int → Prop} (h : P_X6_squeezeAt o0 x1 a2 a3 x4 x5 M Q0) (k : ∀ x, Q0 x → WW p l e R s m args below meth c Q nL D cy G n0  (pc + 3) L (vI x :: st) M) : WW p l e R s m args below meth c Q nL D cy G n0  pc L (vI x5 :: vI x4 :: vR a3 :: vR a2 :: vI x1 :: vR r :: st) M := by
  obtain ⟨rfl, ho1, ho2⟩ := ho
  refine x_call0 K C hd (as := [vR (some o0), vI x1, vR a2, vR a3, vI x4, vI x5]) rfl hn hlen (fun v M2 => ∃ x, v = some (vI x) ∧ M2 = M ∧ Q0 x) ⟨⟨o0, [vI x1, vR a2, vR a3, vI x4, vI x5], rfl, rfl, ho1, ho2⟩, hn.trans h3, o0, x1, a2, a3, x4, x5, rfl, (hn.trans h3) ▸ ho1, ho2, Q0, fun x hx => ⟨x, rfl, rfl, hx⟩, h⟩ ?_
  rintro _ _ ⟨x, rfl, rfl, hx⟩ hm
  exact k x hx
end W_X6_squeezeAt
theorem dX6_pushTogether_0 : decode cX6_pushTogether 0 = .ok (.iconst 0, 1) := by decide +kernel
theorem dX6_pushTogether_1 : decode cX6_pushTogether 1 = .ok (.istore 4, 2) := by decide +kernel
theorem dX6_pushTogether_3 : decode cX6_pushTogether 3 = .ok (.iconst 0, 1) := by decide +kernel
theorem dX6_pushTogether_4 : decode cX6_pushTogether 4 = .ok (.istore 5, 2) := by decide +kernel
theorem dX6_pushTogether_6 : decode cX6_pushTogether 6 = .ok (.iload 5, 2) := by decide +kernel
theorem dX6_pushTogether_8 : decode cX6_pushTogether 8 = .ok (.aload_n 2, 1) := by decide +kernel
theorem dX6_pushTogether_9 : decode cX6_pushTogether 9 = .ok (.getfield 31, 3) := by decide +kernel
theorem dX6_pushTogether_12 : decode cX6_pushTogether 12 = .ok (.if_icmp .ge 43, 3) := by decide +kernel
theorem dX6_pushTogether_15 : decode cX6_pushTogether 15 = .ok (.aload_n 2, 1) := by decide +kernel
theorem dX6_pushTogether_16 : decode cX6_pushTogether 16 = .ok (.getfield 36, 3) := by decide +kernel
theorem dX6_pushTogether_19 : decode cX6_pushTogether 19 = .ok (.iload 5, 2) := by decide +kernel
theorem dX6_pushTogether_21 : decode cX6_pushTogether 21 = .ok (.aaload, 1) := by decide +kernel
theorem dX6_pushTogether_22 : decode cX6_pushTogether 22 = .ok (.astore 6, 2) := by decide +kernel
theorem dX6_pushTogether_24 : decode cX6_pushTogether 24 = .ok (.iload 4, 2) := by decide +kernel
theorem dX6_pushTogether_26 : decode cX6_pushTogether 26 = .ok (.aload 6, 2) := by decide +kernel
theorem dX6_pushTogether_28 : decode cX6_pushTogether 28 = .ok (.getfield 57, 3) := by decide +kernel
theorem dX6_pushTogether_31 : decode cX6_pushTogether 31 = .ok (.aload_n 0, 1) := by decide +kernel
theorem dX6_pushTogether_32 : decode cX6_pushTogether 32 = .ok (.iload 5, 2) := by decide +kernel
theorem dX6_pushTogether_34 : decode cX6_pushTogether 34 = .ok (.aload 6, 2) := by decide +kernel
theorem dX6_pushTogether_36 : decode cX6_pushTogether 36 = .ok (.aload_n 1, 1) := by decide +kernel
theorem dX6_pushTogether_37 : decode cX6_pushTogether 37 = .ok (.iload_n 3, 1) := by decide +kernel
theorem dX6_pushTogether_38 : decode cX6_pushTogether 38 = .ok (.iconst 1, 1) := by decide +kernel
theorem dX6_pushTogether_39 : decode cX6_pushTogether 39 = .ok (.invokevirtual 53, 3) := by decide +kernel
theorem dX6_pushTogether_42 : decode cX6_pushTogether 42 = .ok (.iconst 1, 1) := by decide +kernel
theorem dX6_pushTogether_43 : decode cX6_pushTogether 43 = .ok (.invokevirtual 61, 3) := by decide +kernel
theorem dX6_pushTogether_46 : decode cX6_pushTogether 46 = .ok (.iadd, 1) := by decide +kernel
theorem dX6_pushTogether_47 : decode cX6_pushTogether 47 = .ok (.istore 4, 2) := by decide +kernel
theorem dX6_pushTogether_49 : decode cX6_pushTogether 49 = .ok (.iinc 5 1, 3) := by decide +kernel
theorem dX6_pushTogether_52 : decode cX6_pushTogether 52 = .ok (.goto (-46), 3) := by decide +kernel
theorem dX6_pushTogether_55 : decode cX6_pushTogether 55 = .ok (.iload 4, 2) := by decide +kernel
theorem dX6_pushTogether_57 : decode cX6_pushTogether 57 = .ok (.ireturn, 1) := by decide +kernel
theorem fw_X6_57 : fR RX6 57 4 0 := ⟨⟨lwG_1 (i := 90) rfl rfl, by decide, by decide⟩, fun _ _ => rfl, fun r => ⟨r, rfl⟩⟩
theorem ck_X6_53 {l : Launch} {D : va_G} {cy : Nat → ClassId} {R : Room} (hR : 2 ≤ R.frames ∧ 47 ≤ R.locals) : CallOK l D cy R RX6 (.invokevirtual 53) 0 0 (spV 6 5 SP_X6_squeezeAt) := call_V (ci := 6) (con_X6_squeezeAt l D cy) (lwG_2 (i := 209) rfl rfl) (lwG_2 (i := 211) rfl rfl) (lwG_p (i := 8) rfl rfl) (lwG_1 (i := 9) rfl rfl) (lwG_2 (i := 212) rfl rfl) (by decide) ⟨rfl, by decide, by decide, rfl⟩ ⟨rfl, rfl⟩ hR
theorem ck_X6_61 {l : Launch} {D : va_G} {cy : Nat → ClassId} {R : Room} (hR : 2 ≤ R.frames ∧ 47 ≤ R.locals) : CallOK l D cy R RX6 (.invokevirtual 61) 0 0 (spV 3 2 SP_X3_pushOf) := call_V (ci := 3) (con_X3_pushOf l D cy) (lwG_2 (i := 214) rfl rfl) (lwG_2 (i := 215) rfl rfl) (lwG_2 (i := 216) rfl rfl) (lwG_1 (i := 4) rfl rfl) (lwG_2 (i := 217) rfl rfl) (by decide) ⟨rfl, by decide, by decide, rfl⟩ ⟨rfl, rfl⟩ hR
section W_X6_pushTogether
variable {p : Program} {l : Launch} {e : Env} {s : State} {m : MethodId} {args : Array Value} {below : List Frame} {meth : Method} {c : Code} {D : va_G} {cy : Nat → ClassId} {G : Nat × Nat} {n0 : Nat} {Qp : Option PV → Mm → Prop}
set_option maxRecDepth 100000 in
set_option maxHeartbeats 4000000 in
theorem f_X6_pushTogether_6 {o0 : Nat} {a1 : Option Nat} {a2 : Option Nat} {x3 : Int} {x4 : Int} {x5 : Int} {M : Mm} {Q : Int → Prop} {K6 : Int × Int → Prop} (C : Cx p s m args meth c cX6_pushTogether 7 RX6 D cy G n0) (hr : meth.sig.returnType = some .int) (h3 : n0 = 243) (hn : M.2.2.2 = n0) (ho0 : o0 < 243 ∧ (SH o0).1 = 6) (hQ : ∀ x, Q x → Qp (some (vI x)) M) (hK6 : ∀ (x4 : Int) (x5 : Int), K6 (x4, x5) → WW p l e ({ frames := 2, cells := 0, slots := 0, locals := 47 }) s m args below meth c (ZQ below args s D cy G n0 Qp n0) 7 D cy G n0 6 [(0, vR (some o0)), (1, vR a1), (2, vR a2), (3, vI x3), (4, vI x4), (5, vI x5)] [] M) (h : F_X6_pushTogether_6 o0 a1 a2 x3 M Q  K6 x4 x5) : WW p l e ({ frames := 2, cells := 0, slots := 0, locals := 47 }) s m args below meth c (ZQ below args s D cy G n0 Qp n0) 7 D cy G n0 6 [(0, vR (some o0)), (1, vR a1), (2, vR a2), (3, vI x3), (4, vI x4), (5, vI x5)] [] M := by
  unfold F_X6_pushTogether_6 at h
  refine w_iload C dX6_pushTogether_6 (mem_k 5 rfl) ?_
  refine w_aload_n C dX6_pushTogether_8 rfl (mem_k 2 rfl) ?_
  obtain ⟨o1, g2, h⟩ := h
  refine x_getI C dX6_pushTogether_9 fw_X6_31 (isO.n g2 (hn.trans h3)) ?_
  refine w_icmp_ge (tgt := 55) C dX6_pushTogether_12 (by decide) (fun q => ?_) (fun q => ?_)
  · replace h := h.1 q
    refine w_iload C dX6_pushTogether_55 (mem_k 4 rfl) ?_
    exact x_iret C hr dX6_pushTogether_57 hn (hQ _ h)
  · replace h := h.2 q
    refine w_aload_n C dX6_pushTogether_15 rfl (mem_k 2 rfl) ?_
    refine x_getR C dX6_pushTogether_16 fw_X6_36 (isO.n g2 (hn.trans h3)) (fun r3 er3 => ?_)
    replace h := h r3 er3
    refine w_iload C dX6_pushTogether_19 (mem_k 5 rfl) ?_
    obtain ⟨o4, g5, h⟩ := h
    refine x_aald C dX6_pushTogether_21 (isA.n g5 (hn.trans h3)) (by decide) (fun r6 er6 => ?_)
    replace h := h r6 er6
    refine x_astore (L' := [(6, vR r6), (0, vR (some o0)), (1, vR a1), (2, vR a2), (3, vI x3), (4, vI x4), (5, vI x5)]) C dX6_pushTogether_22 (by decide) rfl ?_
    refine w_iload C dX6_pushTogether_24 (mem_k 5 rfl) ?_
    refine w_aload C dX6_pushTogether_26 (mem_k 0 rfl) ?_
    obtain ⟨o7, g8, h⟩ := h
    refine x_getR C dX6_pushTogether_28 fw_X6_57 (isO.n g8 (hn.trans h3)) (fun r9 er9 => ?_)
    replace h := h r9 er9
    refine w_aload_n C dX6_pushTogether_31 rfl (mem_k 1 rfl) ?_
    refine w_iload C dX6_pushTogether_32 (mem_k 6 rfl) ?_
    refine w_aload C dX6_pushTogether_34 (mem_k 0 rfl) ?_
    refine w_aload_n C dX6_pushTogether_36 rfl (mem_k 2 rfl) ?_
    refine w_iload_n C dX6_pushTogether_37 rfl (mem_k 4 rfl) ?_
    refine w_iconst C dX6_pushTogether_38 ⟨by decide, by decide⟩ ?_
    refine cl_X6_squeezeAt (ck_X6_53 ⟨by decide, by decide⟩) C dX6_pushTogether_39 hn h3 (Nat.le_of_ble_eq_true rfl) (isO.n (ci := 6) ⟨rfl, ho0⟩ (hn.trans h3)) h (fun v10 h => ?_)
    refine w_iconst C dX6_pushTogether_42 ⟨by decide, by decide⟩ ?_
    obtain ⟨o11, g12, h⟩ := h
    refine cl_X3_pushOf (ck_X6_61 ⟨by decide, by decide⟩) C dX6_pushTogether_43 hn h3 (Nat.le_of_ble_eq_true rfl) (isO.n g12 (hn.trans h3)) h (fun v13 h => ?_)
    refine w_iadd C dX6_pushTogether_46 h.1 ?_
    replace h := h.2
    refine x_nmI (fun v14 ev14 => ?_)
    replace h := h v14 ev14
    refine x_istore (L' := [(4, vI v14), (6, vR r6), (0, vR (some o0)), (1, vR a1), (2, vR a2), (3, vI x3), (5, vI x5)]) C dX6_pushTogether_47 (by decide) rfl ?_
    obtain ⟨v15, ev15⟩ : ∃ z : Int, z = x5 + 1 := ⟨_, rfl⟩
    refine x_iinc (L' := [(5, vI v15), (4, vI v14), (6, vR r6), (0, vR (some o0)), (1, vR a1), (2, vR a2), (3, vI x3)]) C dX6_pushTogether_49 (mem_k 6 rfl) (by decide) h.1 ev15 rfl ?_
    replace h := h.2 v15 ev15
    refine w_goto (tgt := 6) C dX6_pushTogether_52 (by decide) ?_
    refine x_pc (pc2 := 6) rfl ?_
    refine x_pick (L' := [(0, vR (some o0)), (1, vR a1), (2, vR a2), (3, vI x3), (4, vI v14), (5, vI v15)]) [3, 4, 5, 6, 1, 0] rfl ?_
    exact hK6 v14 v15 h
set_option maxRecDepth 100000 in
set_option maxHeartbeats 4000000 in
theorem k_X6_pushTogether_6 {o0 : Nat} {a1 : Option Nat} {a2 : Option Nat} {x3 : Int} {x4 : Int} {x5 : Int} {M : Mm} {Q : Int → Prop} (C : Cx p s m args meth c cX6_pushTogether 7 RX6 D cy G n0) (hr : meth.sig.returnType = some .int) (h3 : n0 = 243) (hn : M.2.2.2 = n0) (ho0 : o0 < 243 ∧ (SH o0).1 = 6) (hQ : ∀ x, Q x → Qp (some (vI x)) M) (h : P_X6_pushTogether_6 o0 a1 a2 x3 x4 x5 M Q ) : WW p l e ({ frames := 2, cells := 0, slots := 0, locals := 47 }) s m args below meth c (ZQ below args s D cy G n0 Qp n0) 7 D cy G n0 6 [(0, vR (some o0)), (1, vR a1), (2, vR a2), (3, vI x3), (4, vI x4), (5, vI x5)] [] M := by
  refine lpW_sound (P := fun y : Int × Int => WW p l e ({ frames := 2, cells := 0, slots := 0, locals := 47 }) s m args below meth c (ZQ below args s D cy G n0 Qp n0) 7 D cy G n0 6 [(0, vR (some o0)), (1, vR a1), (2, vR a2), (3, vI x3), (4, vI y.1), (5, vI y.2)] [] M) ?_ h
  intro K y hK hF
  obtain ⟨x4, x5⟩ := y
  exact f_X6_pushTogether_6 C hr h3 hn ho0 hQ  (fun x4 x5 hk => hK (x4, x5) hk) hF
set_option maxRecDepth 100000 in
set_option maxHeartbeats 4000000 in
theorem k_X6_pushTogether_0 {o0 : Nat} {a1 : Option Nat} {a2 : Option Nat} {x3 : Int} {M : Mm} {Q : Int → Prop} (C : Cx p s m args meth c cX6_pushTogether 7 RX6 D cy G n0) (hr : meth.sig.returnType = some .int) (h3 : n0 = 243) (hn : M.2.2.2 = n0) (ho0 : o0 < 243 ∧ (SH o0).1 = 6) (hQ : ∀ x, Q x → Qp (some (vI x)) M) (h : P_X6_pushTogether o0 a1 a2 x3 M Q ) : WW p l e ({ frames := 2, cells := 0, slots := 0, locals := 47 }) s m args below meth c (ZQ below args s D cy G n0 Qp n0) 7 D cy G n0 0 [(0, vR (some o0)), (1, vR a1), (2, vR a2), (3, vI x3)] [] M := by
  unfold P_X6_pushTogether at h
  refine w_iconst C dX6_pushTogether_0 ⟨by decide, by decide⟩ ?_
  refine x_istore (L' := [(4, vI 0), (0, vR (some o0)), (1, vR a1), (2, vR a2), (3, vI x3)]) C dX6_pushTogether_1 (by decide) rfl ?_
  refine w_iconst C dX6_pushTogether_3 ⟨by decide, by decide⟩ ?_
  refine x_istore (L' := [(5, vI 0), (4, vI 0), (0, vR (some o0)), (1, vR a1), (2, vR a2), (3, vI x3)]) C dX6_pushTogether_4 (by decide) rfl ?_
  refine x_pc (pc2 := 6) rfl ?_
  refine x_pick (L' := [(0, vR (some o0)), (1, vR a1), (2, vR a2), (3, vI x3), (4, vI 0), (5, vI 0)]) [2, 3, 4, 5, 1, 0] rfl ?_
  exact k_X6_pushTogether_6 C hr h3 hn ho0 hQ  h
set_option maxRecDepth 100000 in
set_option maxHeartbeats 4000000 in
theorem con_X6_pushTogether (l : Launch) (D : va_G) (cy : Nat → ClassId) : Con l D cy yX6_pushTogether cX6_pushTogether 7 (some .int) ({ frames := 2, cells := 0, slots := 0, locals := 47 }) 0 0 SP_X6_pushTogether := by
  refine con_of (by decide) (fun as M Qp h => ?_) ?_
  · obtain ⟨-, o0, a1, a2, x3, rfl, -⟩ := h
    exact Nat.le_of_ble_eq_true rfl
  · intro p e s m args below meth c G as M Qp h C hr hnm
    obtain ⟨hn, o0, a1, a2, x3, rfl, ho1, ho2, Q0, hQ, h⟩ := h
    refine x_pick (L' := [(0, vR (some o0)), (1, vR a1), (2, vR a2), (3, vI x3)]) [0, 1, 2, 3] rfl ?_
    exact k_X6_pushTogether_0 C hr hn rfl ⟨ho1, ho2⟩ hQ h
set_option maxRecDepth 100000 in
set_option maxHeartbeats 4000000 in
theorem cl_X6_pushTogether {p : Program} {l : Launch} {e : Env} {R : Room} {s : State} {m : MethodId} {args : Array Value} {below : List Frame} {meth : Method} {c : Code} {Q : State → Prop} {cc : ByteArray} {nL : Nat} {own : String} {D : va_G} {cy : Nat → ClassId} {G : Nat × Nat} {n0 pc : Nat} {L : List (Nat × PV)} {st : List PV} {M : Mm} {op : Instr} (K : CallOK l D cy R own op 0 0 (spV 6 3 SP_X6_pushTogether)) (C : Cx p s m args meth c cc nL own D cy G n0) (hd : decode cc pc = .ok (op, 3)) (hn : M.2.2.2 = n0) (h3 : n0 = 243) (hlen : argN st ≤ 8) {r : Option Nat} {o0 : Nat} (ho : isOn 6 M.2.2.2 r o0) {a1 : Option Nat} {a2 : Option Nat} {x3 : Int} {Q0 : Int → Prop} (h : P_X6_pushTogether o0 a1 a2 x3 M Q0) (k : ∀ x, Q0 x → WW p l e R s m args below meth c Q nL D cy G n0  (pc + 3) L (vI x :: st) M) : WW p l e R s m args below meth c Q nL D cy G n0  pc L (vI x3 :: vR a2 :: vR a1 :: vR r :: st) M := by
  obtain ⟨rfl, ho1, ho2⟩ := ho
  refine x_call0 K C hd (as := [vR (some o0), vR a1, vR a2, vI x3]) rfl hn hlen (fun v M2 => ∃ x, v = some (vI x) ∧ M2 = M ∧ Q0 x) ⟨⟨o0, [vR a1, vR a2, vI x3], rfl, rfl, ho1, ho2⟩, hn.trans h3, o0, a1, a2, x3, rfl, (hn.trans h3) ▸ ho1, ho2, Q0, fun x hx => ⟨x, rfl, rfl, hx⟩, h⟩ ?_
  rintro _ _ ⟨x, rfl, rfl, hx⟩ hm
  exact k x hx
end W_X6_pushTogether
theorem dX6_findLevel_0 : decode cX6_findLevel 0 = .ok (.sipush (-600), 3) := by decide +kernel
theorem dX6_findLevel_3 : decode cX6_findLevel 3 = .ok (.istore_n 3, 1) := by decide +kernel
theorem dX6_findLevel_4 : decode cX6_findLevel 4 = .ok (.sipush 301, 3) := by decide +kernel
theorem dX6_findLevel_7 : decode cX6_findLevel 7 = .ok (.istore 4, 2) := by decide +kernel
theorem dX6_findLevel_9 : decode cX6_findLevel 9 = .ok (.iconst 0, 1) := by decide +kernel
theorem dX6_findLevel_10 : decode cX6_findLevel 10 = .ok (.istore 5, 2) := by decide +kernel
theorem dX6_findLevel_12 : decode cX6_findLevel 12 = .ok (.iload 5, 2) := by decide +kernel
theorem dX6_findLevel_14 : decode cX6_findLevel 14 = .ok (.bipush 20, 2) := by decide +kernel
theorem dX6_findLevel_16 : decode cX6_findLevel 16 = .ok (.if_icmp .ge 52, 3) := by decide +kernel
theorem dX6_findLevel_19 : decode cX6_findLevel 19 = .ok (.iload 4, 2) := by decide +kernel
theorem dX6_findLevel_21 : decode cX6_findLevel 21 = .ok (.iload_n 3, 1) := by decide +kernel
theorem dX6_findLevel_22 : decode cX6_findLevel 22 = .ok (.isub, 1) := by decide +kernel
theorem dX6_findLevel_23 : decode cX6_findLevel 23 = .ok (.iconst 1, 1) := by decide +kernel
theorem dX6_findLevel_24 : decode cX6_findLevel 24 = .ok (.if_icmp .le 44, 3) := by decide +kernel
theorem dX6_findLevel_27 : decode cX6_findLevel 27 = .ok (.iload_n 3, 1) := by decide +kernel
theorem dX6_findLevel_28 : decode cX6_findLevel 28 = .ok (.iload 4, 2) := by decide +kernel
theorem dX6_findLevel_30 : decode cX6_findLevel 30 = .ok (.iload_n 3, 1) := by decide +kernel
theorem dX6_findLevel_31 : decode cX6_findLevel 31 = .ok (.isub, 1) := by decide +kernel
theorem dX6_findLevel_32 : decode cX6_findLevel 32 = .ok (.iconst 2, 1) := by decide +kernel
theorem dX6_findLevel_33 : decode cX6_findLevel 33 = .ok (.idiv, 1) := by decide +kernel
theorem dX6_findLevel_34 : decode cX6_findLevel 34 = .ok (.iadd, 1) := by decide +kernel
theorem dX6_findLevel_35 : decode cX6_findLevel 35 = .ok (.istore 6, 2) := by decide +kernel
theorem dX6_findLevel_37 : decode cX6_findLevel 37 = .ok (.aload_n 0, 1) := by decide +kernel
theorem dX6_findLevel_38 : decode cX6_findLevel 38 = .ok (.aload_n 1, 1) := by decide +kernel
theorem dX6_findLevel_39 : decode cX6_findLevel 39 = .ok (.aload_n 2, 1) := by decide +kernel
theorem dX6_findLevel_40 : decode cX6_findLevel 40 = .ok (.iload 6, 2) := by decide +kernel
theorem dX6_findLevel_42 : decode cX6_findLevel 42 = .ok (.invokevirtual 77, 3) := by decide +kernel
theorem dX6_findLevel_45 : decode cX6_findLevel 45 = .ok (.aload_n 1, 1) := by decide +kernel
theorem dX6_findLevel_46 : decode cX6_findLevel 46 = .ok (.getfield 81, 3) := by decide +kernel
theorem dX6_findLevel_49 : decode cX6_findLevel 49 = .ok (.if_icmp .lt 9, 3) := by decide +kernel
theorem dX6_findLevel_52 : decode cX6_findLevel 52 = .ok (.iload 6, 2) := by decide +kernel
theorem dX6_findLevel_54 : decode cX6_findLevel 54 = .ok (.istore_n 3, 1) := by decide +kernel
theorem dX6_findLevel_55 : decode cX6_findLevel 55 = .ok (.goto 7, 3) := by decide +kernel
theorem dX6_findLevel_58 : decode cX6_findLevel 58 = .ok (.iload 6, 2) := by decide +kernel
theorem dX6_findLevel_60 : decode cX6_findLevel 60 = .ok (.istore 4, 2) := by decide +kernel
theorem dX6_findLevel_62 : decode cX6_findLevel 62 = .ok (.iinc 5 1, 3) := by decide +kernel
theorem dX6_findLevel_65 : decode cX6_findLevel 65 = .ok (.goto (-53), 3) := by decide +kernel
theorem dX6_findLevel_68 : decode cX6_findLevel 68 = .ok (.aload_n 0, 1) := by decide +kernel
theorem dX6_findLevel_69 : decode cX6_findLevel 69 = .ok (.aload_n 1, 1) := by decide +kernel
theorem dX6_findLevel_70 : decode cX6_findLevel 70 = .ok (.aload_n 2, 1) := by decide +kernel
theorem dX6_findLevel_71 : decode cX6_findLevel 71 = .ok (.iload_n 3, 1) := by decide +kernel
theorem dX6_findLevel_72 : decode cX6_findLevel 72 = .ok (.invokevirtual 77, 3) := by decide +kernel
theorem dX6_findLevel_75 : decode cX6_findLevel 75 = .ok (.istore 5, 2) := by decide +kernel
theorem dX6_findLevel_77 : decode cX6_findLevel 77 = .ok (.iconst 1, 1) := by decide +kernel
theorem dX6_findLevel_78 : decode cX6_findLevel 78 = .ok (.iload 5, 2) := by decide +kernel
theorem dX6_findLevel_80 : decode cX6_findLevel 80 = .ok (.aload_n 0, 1) := by decide +kernel
theorem dX6_findLevel_81 : decode cX6_findLevel 81 = .ok (.aload_n 1, 1) := by decide +kernel
theorem dX6_findLevel_82 : decode cX6_findLevel 82 = .ok (.aload_n 2, 1) := by decide +kernel
theorem dX6_findLevel_83 : decode cX6_findLevel 83 = .ok (.iload_n 3, 1) := by decide +kernel
theorem dX6_findLevel_84 : decode cX6_findLevel 84 = .ok (.iconst 1, 1) := by decide +kernel
theorem dX6_findLevel_85 : decode cX6_findLevel 85 = .ok (.iadd, 1) := by decide +kernel
theorem dX6_findLevel_86 : decode cX6_findLevel 86 = .ok (.invokevirtual 77, 3) := by decide +kernel
theorem dX6_findLevel_89 : decode cX6_findLevel 89 = .ok (.isub, 1) := by decide +kernel
theorem dX6_findLevel_90 : decode cX6_findLevel 90 = .ok (.invokestatic 86, 3) := by decide +kernel
theorem dX6_findLevel_93 : decode cX6_findLevel 93 = .ok (.istore 6, 2) := by decide +kernel
theorem dX6_findLevel_95 : decode cX6_findLevel 95 = .ok (.iload_n 3, 1) := by decide +kernel
theorem dX6_findLevel_96 : decode cX6_findLevel 96 = .ok (.iload 6, 2) := by decide +kernel
theorem dX6_findLevel_98 : decode cX6_findLevel 98 = .ok (.imul, 1) := by decide +kernel
theorem dX6_findLevel_99 : decode cX6_findLevel 99 = .ok (.iload 5, 2) := by decide +kernel
theorem dX6_findLevel_101 : decode cX6_findLevel 101 = .ok (.iadd, 1) := by decide +kernel
theorem dX6_findLevel_102 : decode cX6_findLevel 102 = .ok (.aload_n 1, 1) := by decide +kernel
theorem dX6_findLevel_103 : decode cX6_findLevel 103 = .ok (.getfield 81, 3) := by decide +kernel
theorem dX6_findLevel_106 : decode cX6_findLevel 106 = .ok (.isub, 1) := by decide +kernel
theorem dX6_findLevel_107 : decode cX6_findLevel 107 = .ok (.istore 7, 2) := by decide +kernel
theorem dX6_findLevel_109 : decode cX6_findLevel 109 = .ok (.iload 7, 2) := by decide +kernel
theorem dX6_findLevel_111 : decode cX6_findLevel 111 = .ok (.iload 6, 2) := by decide +kernel
theorem dX6_findLevel_113 : decode cX6_findLevel 113 = .ok (.invokestatic 91, 3) := by decide +kernel
theorem dX6_findLevel_116 : decode cX6_findLevel 116 = .ok (.istore 8, 2) := by decide +kernel
theorem dX6_findLevel_118 : decode cX6_findLevel 118 = .ok (.aload_n 0, 1) := by decide +kernel
theorem dX6_findLevel_119 : decode cX6_findLevel 119 = .ok (.iload 7, 2) := by decide +kernel
theorem dX6_findLevel_121 : decode cX6_findLevel 121 = .ok (.iload 8, 2) := by decide +kernel
theorem dX6_findLevel_123 : decode cX6_findLevel 123 = .ok (.idiv, 1) := by decide +kernel
theorem dX6_findLevel_124 : decode cX6_findLevel 124 = .ok (.putfield 50, 3) := by decide +kernel
theorem dX6_findLevel_127 : decode cX6_findLevel 127 = .ok (.aload_n 0, 1) := by decide +kernel
theorem dX6_findLevel_128 : decode cX6_findLevel 128 = .ok (.iload 6, 2) := by decide +kernel
theorem dX6_findLevel_130 : decode cX6_findLevel 130 = .ok (.iload 8, 2) := by decide +kernel
theorem dX6_findLevel_132 : decode cX6_findLevel 132 = .ok (.idiv, 1) := by decide +kernel
theorem dX6_findLevel_133 : decode cX6_findLevel 133 = .ok (.putfield 9, 3) := by decide +kernel
theorem dX6_findLevel_136 : decode cX6_findLevel 136 = .ok (.return_, 1) := by decide +kernel
theorem ck_X6_77 {l : Launch} {D : va_G} {cy : Nat → ClassId} {R : Room} (hR : 3 ≤ R.frames ∧ 73 ≤ R.locals) : CallOK l D cy R RX6 (.invokevirtual 77) 0 0 (spV 6 3 SP_X6_pushTogether) := call_V (ci := 6) (con_X6_pushTogether l D cy) (lwG_2 (i := 205) rfl rfl) (lwG_2 (i := 207) rfl rfl) (lwG_p (i := 7) rfl rfl) (lwG_1 (i := 9) rfl rfl) (lwG_2 (i := 208) rfl rfl) (by decide) ⟨rfl, by decide, by decide, rfl⟩ ⟨rfl, rfl⟩ hR
theorem mt_X6_86 : mtOK RX6 86 Lib.Math.max.name := lwG_2 (i := 224) rfl rfl
theorem fw_X6_81 : fI RX6 81 0 0 := ⟨⟨lwG_1 (i := 166) rfl rfl, by decide, by decide⟩, rfl⟩
theorem ck_X6_91 {l : Launch} {D : va_G} {cy : Nat → ClassId} {R : Room} (hR : 2 ≤ R.frames ∧ 46 ≤ R.locals) : CallOK l D cy R RX6 (.invokestatic 91) 0 0 (spS 2 SP_X11_commonDivisor) := call_SN (con_X11_commonDivisor l D cy) (List.mem_append_right _ (List.mem_append_right _ (List.mem_append_left _ (List.mem_of_getElem? (i := 225) rfl)))) (lwG_2 (i := 226) rfl rfl) (lwG_1 (i := 1) rfl rfl) (lwG_2 (i := 227) rfl rfl) ⟨by decide, by decide, rfl⟩ ⟨rfl, rfl⟩ hR
theorem fw_X6_50 : fI RX6 50 6 0 := ⟨⟨lwG_1 (i := 222) rfl rfl, by decide, by decide⟩, rfl⟩
theorem fw_X6_9 : fI RX6 9 6 1 := ⟨⟨lwG_1 (i := 224) rfl rfl, by decide, by decide⟩, rfl⟩
section W_X6_findLevel
variable {p : Program} {l : Launch} {e : Env} {s : State} {m : MethodId} {args : Array Value} {below : List Frame} {meth : Method} {c : Code} {D : va_G} {cy : Nat → ClassId} {G : Nat × Nat} {n0 : Nat} {Qp : Option PV → Mm → Prop}
set_option maxRecDepth 100000 in
set_option maxHeartbeats 4000000 in
theorem k_X6_findLevel_68 {o0 : Nat} {a1 : Option Nat} {a2 : Option Nat} {x3 : Int} {M : Mm} {Q : Mm → Prop} (C : Cx p s m args meth c cX6_findLevel 9 RX6 D cy G n0) (hr : meth.sig.returnType = none) (h3 : n0 = 243) (hn : M.2.2.2 = n0) (ho0 : o0 < 243 ∧ (SH o0).1 = 6) (hQ : ∀ M, Q M → Qp none M) (h : P_X6_findLevel_68 o0 a1 a2 x3 M Q ) : WW p l e ({ frames := 3, cells := 0, slots := 0, locals := 73 }) s m args below meth c (ZQ below args s D cy G n0 Qp n0) 9 D cy G n0 68 [(0, vR (some o0)), (1, vR a1), (2, vR a2), (3, vI x3)] [] M := by
  unfold P_X6_findLevel_68 at h
  refine w_aload_n C dX6_findLevel_68 rfl (mem_k 0 rfl) ?_
  refine w_aload_n C dX6_findLevel_69 rfl (mem_k 1 rfl) ?_
  refine w_aload_n C dX6_findLevel_70 rfl (mem_k 2 rfl) ?_
  refine w_iload_n C dX6_findLevel_71 rfl (mem_k 3 rfl) ?_
  refine cl_X6_pushTogether (ck_X6_77 ⟨by decide, by decide⟩) C dX6_findLevel_72 hn h3 (Nat.le_of_ble_eq_true rfl) (isO.n (ci := 6) ⟨rfl, ho0⟩ (hn.trans h3)) h (fun v1 h => ?_)
  refine x_istore (L' := [(5, vI v1), (0, vR (some o0)), (1, vR a1), (2, vR a2), (3, vI x3)]) C dX6_findLevel_75 (by decide) rfl ?_
  refine w_iconst C dX6_findLevel_77 ⟨by decide, by decide⟩ ?_
  refine w_iload C dX6_findLevel_78 (mem_k 0 rfl) ?_
  refine w_aload_n C dX6_findLevel_80 rfl (mem_k 1 rfl) ?_
  refine w_aload_n C dX6_findLevel_81 rfl (mem_k 2 rfl) ?_
  refine w_aload_n C dX6_findLevel_82 rfl (mem_k 3 rfl) ?_
  refine w_iload_n C dX6_findLevel_83 rfl (mem_k 4 rfl) ?_
  refine w_iconst C dX6_findLevel_84 ⟨by decide, by decide⟩ ?_
  refine w_iadd C dX6_findLevel_85 h.1 ?_
  replace h := h.2
  refine cl_X6_pushTogether (ck_X6_77 ⟨by decide, by decide⟩) C dX6_findLevel_86 hn h3 (Nat.le_of_ble_eq_true rfl) (isO.n (ci := 6) ⟨rfl, ho0⟩ (hn.trans h3)) h (fun v2 h => ?_)
  refine w_isub C dX6_findLevel_89 h.1 ?_
  replace h := h.2
  refine x_max C dX6_findLevel_90 hn mt_X6_86 (Nat.le_of_ble_eq_true rfl) ⟨by decide, by decide⟩ ?_
  refine x_nmI (fun v3 ev3 => ?_)
  replace h := h v3 ev3
  refine x_istore (L' := [(6, vI v3), (5, vI v1), (0, vR (some o0)), (1, vR a1), (2, vR a2), (3, vI x3)]) C dX6_findLevel_93 (by decide) rfl ?_
  refine w_iload_n C dX6_findLevel_95 rfl (mem_k 5 rfl) ?_
  refine w_iload C dX6_findLevel_96 (mem_k 0 rfl) ?_
  refine w_imul C dX6_findLevel_98 h.1 ?_
  replace h := h.2
  refine w_iload C dX6_findLevel_99 (mem_k 1 rfl) ?_
  refine w_iadd C dX6_findLevel_101 h.1 ?_
  replace h := h.2
  refine w_aload_n C dX6_findLevel_102 rfl (mem_k 3 rfl) ?_
  obtain ⟨o4, g5, h⟩ := h
  refine x_getI C dX6_findLevel_103 fw_X6_81 (isO.n g5 (hn.trans h3)) ?_
  refine w_isub C dX6_findLevel_106 h.1 ?_
  replace h := h.2
  refine x_nmI (fun v6 ev6 => ?_)
  replace h := h v6 ev6
  refine x_istore (L' := [(7, vI v6), (6, vI v3), (5, vI v1), (0, vR (some o0)), (1, vR a1), (2, vR a2), (3, vI x3)]) C dX6_findLevel_107 (by decide) rfl ?_
  refine w_iload C dX6_findLevel_109 (mem_k 0 rfl) ?_
  refine w_iload C dX6_findLevel_111 (mem_k 1 rfl) ?_
  refine cl_X11_commonDivisor (ck_X6_91 ⟨by decide, by decide⟩) C dX6_findLevel_113 hn h3 (Nat.le_of_ble_eq_true rfl) h (fun v7 h => ?_)
  refine x_istore (L' := [(8, vI v7), (7, vI v6), (6, vI v3), (5, vI v1), (0, vR (some o0)), (1, vR a1), (2, vR a2), (3, vI x3)]) C dX6_findLevel_116 (by decide) rfl ?_
  refine w_aload_n C dX6_findLevel_118 rfl (mem_k 4 rfl) ?_
  refine w_iload C dX6_findLevel_119 (mem_k 1 rfl) ?_
  refine w_iload C dX6_findLevel_121 (mem_k 0 rfl) ?_
  refine x_idiv C dX6_findLevel_123 h.1 ?_
  replace h := h.2
  refine x_putI C dX6_findLevel_124 fw_X6_50 (isO.n (ci := 6) ⟨rfl, ho0⟩ (hn.trans h3)) (Or.inl rfl) (fun M8 eM8 hn9 => ?_)
  replace h := h M8 eM8
  replace hn9 := hn9.trans hn
  refine w_aload_n C dX6_findLevel_127 rfl (mem_k 4 rfl) ?_
  refine w_iload C dX6_findLevel_128 (mem_k 2 rfl) ?_
  refine w_iload C dX6_findLevel_130 (mem_k 0 rfl) ?_
  refine x_idiv C dX6_findLevel_132 h.1 ?_
  replace h := h.2
  refine x_putI C dX6_findLevel_133 fw_X6_9 (isO.n (ci := 6) ⟨rfl, ho0⟩ (hn9.trans h3)) (Or.inl rfl) (fun M10 eM10 hn11 => ?_)
  replace h := h M10 eM10
  replace hn11 := hn11.trans hn9
  exact x_vret C hr dX6_findLevel_136 hn11 (hQ M10 h)
set_option maxRecDepth 100000 in
set_option maxHeartbeats 4000000 in
theorem f_X6_findLevel_12 {o0 : Nat} {a1 : Option Nat} {a2 : Option Nat} {x3 : Int} {x4 : Int} {x5 : Int} {M : Mm} {Q : Mm → Prop} {K12 : Int × Int × Int → Prop} (C : Cx p s m args meth c cX6_findLevel 9 RX6 D cy G n0) (hr : meth.sig.returnType = none) (h3 : n0 = 243) (hn : M.2.2.2 = n0) (ho0 : o0 < 243 ∧ (SH o0).1 = 6) (hQ : ∀ M, Q M → Qp none M) (hK12 : ∀ (x3 : Int) (x4 : Int) (x5 : Int), K12 (x3, x4, x5) → WW p l e ({ frames := 3, cells := 0, slots := 0, locals := 73 }) s m args below meth c (ZQ below args s D cy G n0 Qp n0) 9 D cy G n0 12 [(0, vR (some o0)), (1, vR a1), (2, vR a2), (3, vI x3), (4, vI x4), (5, vI x5)] [] M) (h : F_X6_findLevel_12 o0 a1 a2 M Q  K12 x3 x4 x5) : WW p l e ({ frames := 3, cells := 0, slots := 0, locals := 73 }) s m args below meth c (ZQ below args s D cy G n0 Qp n0) 9 D cy G n0 12 [(0, vR (some o0)), (1, vR a1), (2, vR a2), (3, vI x3), (4, vI x4), (5, vI x5)] [] M := by
  unfold F_X6_findLevel_12 at h
  refine w_iload C dX6_findLevel_12 (mem_k 5 rfl) ?_
  refine w_bipush C dX6_findLevel_14 (by decide) ?_
  refine w_icmp_ge (tgt := 68) C dX6_findLevel_16 (by decide) (fun q => ?_) (fun q => ?_)
  · replace h := h.1 q
    refine x_pc (pc2 := 68) rfl ?_
    refine x_pick (L' := [(0, vR (some o0)), (1, vR a1), (2, vR a2), (3, vI x3)]) [0, 1, 2, 3] rfl ?_
    exact k_X6_findLevel_68 C hr h3 hn ho0 hQ  h
  · replace h := h.2 q
    refine w_iload C dX6_findLevel_19 (mem_k 4 rfl) ?_
    refine w_iload_n C dX6_findLevel_21 rfl (mem_k 3 rfl) ?_
    refine w_isub C dX6_findLevel_22 h.1 ?_
    replace h := h.2
    refine w_iconst C dX6_findLevel_23 ⟨by decide, by decide⟩ ?_
    refine w_icmp_le (tgt := 68) C dX6_findLevel_24 (by decide) (fun q => ?_) (fun q => ?_)
    · replace h := h.1 q
      refine x_pc (pc2 := 68) rfl ?_
      refine x_pick (L' := [(0, vR (some o0)), (1, vR a1), (2, vR a2), (3, vI x3)]) [0, 1, 2, 3] rfl ?_
      exact k_X6_findLevel_68 C hr h3 hn ho0 hQ  h
    · replace h := h.2 q
      refine w_iload_n C dX6_findLevel_27 rfl (mem_k 3 rfl) ?_
      refine w_iload C dX6_findLevel_28 (mem_k 4 rfl) ?_
      refine w_iload_n C dX6_findLevel_30 rfl (mem_k 3 rfl) ?_
      refine w_isub C dX6_findLevel_31 h.1 ?_
      replace h := h.2
      refine w_iconst C dX6_findLevel_32 ⟨by decide, by decide⟩ ?_
      refine x_idiv C dX6_findLevel_33 (by decide) ?_
      refine w_iadd C dX6_findLevel_34 h.1 ?_
      replace h := h.2
      refine x_nmI (fun v12 ev12 => ?_)
      replace h := h v12 ev12
      refine x_istore (L' := [(6, vI v12), (0, vR (some o0)), (1, vR a1), (2, vR a2), (3, vI x3), (4, vI x4), (5, vI x5)]) C dX6_findLevel_35 (by decide) rfl ?_
      refine w_aload_n C dX6_findLevel_37 rfl (mem_k 1 rfl) ?_
      refine w_aload_n C dX6_findLevel_38 rfl (mem_k 2 rfl) ?_
      refine w_aload_n C dX6_findLevel_39 rfl (mem_k 3 rfl) ?_
      refine w_iload C dX6_findLevel_40 (mem_k 0 rfl) ?_
      refine cl_X6_pushTogether (ck_X6_77 ⟨by decide, by decide⟩) C dX6_findLevel_42 hn h3 (Nat.le_of_ble_eq_true rfl) (isO.n (ci := 6) ⟨rfl, ho0⟩ (hn.trans h3)) h (fun v13 h => ?_)
      refine w_aload_n C dX6_findLevel_45 rfl (mem_k 2 rfl) ?_
      obtain ⟨o14, g15, h⟩ := h
      refine x_getI C dX6_findLevel_46 fw_X6_81 (isO.n g15 (hn.trans h3)) ?_
      refine w_icmp_lt (tgt := 58) C dX6_findLevel_49 (by decide) (fun q => ?_) (fun q => ?_)
      · replace h := h.1 q
        refine w_iload C dX6_findLevel_58 (mem_k 0 rfl) ?_
        refine x_istore (L' := [(4, vI v12), (6, vI v12), (0, vR (some o0)), (1, vR a1), (2, vR a2), (3, vI x3), (5, vI x5)]) C dX6_findLevel_60 (by decide) rfl ?_
        obtain ⟨v16, ev16⟩ : ∃ z : Int, z = x5 + 1 := ⟨_, rfl⟩
        refine x_iinc (L' := [(5, vI v16), (4, vI v12), (6, vI v12), (0, vR (some o0)), (1, vR a1), (2, vR a2), (3, vI x3)]) C dX6_findLevel_62 (mem_k 6 rfl) (by decide) h.1 ev16 rfl ?_
        replace h := h.2 v16 ev16
        refine w_goto (tgt := 12) C dX6_findLevel_65 (by decide) ?_
        refine x_pc (pc2 := 12) rfl ?_
        refine x_pick (L' := [(0, vR (some o0)), (1, vR a1), (2, vR a2), (3, vI x3), (4, vI v12), (5, vI v16)]) [3, 4, 5, 6, 1, 0] rfl ?_
        exact hK12 x3 v12 v16 h
      · replace h := h.2 q
        refine w_iload C dX6_findLevel_52 (mem_k 0 rfl) ?_
        refine x_istore_n (L' := [(3, vI v12), (6, vI v12), (0, vR (some o0)), (1, vR a1), (2, vR a2), (4, vI x4), (5, vI x5)]) C dX6_findLevel_54 rfl (by decide) rfl ?_
        refine w_goto (tgt := 62) C dX6_findLevel_55 (by decide) ?_
        obtain ⟨v17, ev17⟩ : ∃ z : Int, z = x5 + 1 := ⟨_, rfl⟩
        refine x_iinc (L' := [(5, vI v17), (3, vI v12), (6, vI v12), (0, vR (some o0)), (1, vR a1), (2, vR a2), (4, vI x4)]) C dX6_findLevel_62 (mem_k 6 rfl) (by decide) h.1 ev17 rfl ?_
        replace h := h.2 v17 ev17
        refine w_goto (tgt := 12) C dX6_findLevel_65 (by decide) ?_
        refine x_pc (pc2 := 12) rfl ?_
        refine x_pick (L' := [(0, vR (some o0)), (1, vR a1), (2, vR a2), (3, vI v12), (4, vI x4), (5, vI v17)]) [3, 4, 5, 1, 6, 0] rfl ?_
        exact hK12 v12 x4 v17 h
set_option maxRecDepth 100000 in
set_option maxHeartbeats 4000000 in
theorem k_X6_findLevel_12 {o0 : Nat} {a1 : Option Nat} {a2 : Option Nat} {x3 : Int} {x4 : Int} {x5 : Int} {M : Mm} {Q : Mm → Prop} (C : Cx p s m args meth c cX6_findLevel 9 RX6 D cy G n0) (hr : meth.sig.returnType = none) (h3 : n0 = 243) (hn : M.2.2.2 = n0) (ho0 : o0 < 243 ∧ (SH o0).1 = 6) (hQ : ∀ M, Q M → Qp none M) (h : P_X6_findLevel_12 o0 a1 a2 x3 x4 x5 M Q ) : WW p l e ({ frames := 3, cells := 0, slots := 0, locals := 73 }) s m args below meth c (ZQ below args s D cy G n0 Qp n0) 9 D cy G n0 12 [(0, vR (some o0)), (1, vR a1), (2, vR a2), (3, vI x3), (4, vI x4), (5, vI x5)] [] M := by
  refine lpW_sound (P := fun y : Int × Int × Int => WW p l e ({ frames := 3, cells := 0, slots := 0, locals := 73 }) s m args below meth c (ZQ below args s D cy G n0 Qp n0) 9 D cy G n0 12 [(0, vR (some o0)), (1, vR a1), (2, vR a2), (3, vI y.1), (4, vI y.2.1), (5, vI y.2.2)] [] M) ?_ h
  intro K y hK hF
  obtain ⟨x3, x4, x5⟩ := y
  exact f_X6_findLevel_12 C hr h3 hn ho0 hQ  (fun x3 x4 x5 hk => hK (x3, x4, x5) hk) hF
set_option maxRecDepth 100000 in
set_option maxHeartbeats 4000000 in
theorem k_X6_findLevel_0 {o0 : Nat} {a1 : Option Nat} {a2 : Option Nat} {M : Mm} {Q : Mm → Prop} (C : Cx p s m args meth c cX6_findLevel 9 RX6 D cy G n0) (hr : meth.sig.returnType = none) (h3 : n0 = 243) (hn : M.2.2.2 = n0) (ho0 : o0 < 243 ∧ (SH o0).1 = 6) (hQ : ∀ M, Q M → Qp none M) (h : P_X6_findLevel o0 a1 a2 M Q ) : WW p l e ({ frames := 3, cells := 0, slots := 0, locals := 73 }) s m args below meth c (ZQ below args s D cy G n0 Qp n0) 9 D cy G n0 0 [(0, vR (some o0)), (1, vR a1), (2, vR a2)] [] M := by
  unfold P_X6_findLevel at h
  refine w_sipush C dX6_findLevel_0 (by decide) ?_
  refine x_istore_n (L' := [(3, vI (-600)), (0, vR (some o0)), (1, vR a1), (2, vR a2)]) C dX6_findLevel_3 rfl (by decide) rfl ?_
  refine w_sipush C dX6_findLevel_4 (by decide) ?_
  refine x_istore (L' := [(4, vI 301), (3, vI (-600)), (0, vR (some o0)), (1, vR a1), (2, vR a2)]) C dX6_findLevel_7 (by decide) rfl ?_
  refine w_iconst C dX6_findLevel_9 ⟨by decide, by decide⟩ ?_
  refine x_istore (L' := [(5, vI 0), (4, vI 301), (3, vI (-600)), (0, vR (some o0)), (1, vR a1), (2, vR a2)]) C dX6_findLevel_10 (by decide) rfl ?_
  refine x_pc (pc2 := 12) rfl ?_
  refine x_pick (L' := [(0, vR (some o0)), (1, vR a1), (2, vR a2), (3, vI (-600)), (4, vI 301), (5, vI 0)]) [3, 4, 5, 2, 1, 0] rfl ?_
  exact k_X6_findLevel_12 C hr h3 hn ho0 hQ  h
set_option maxRecDepth 100000 in
set_option maxHeartbeats 4000000 in
theorem con_X6_findLevel (l : Launch) (D : va_G) (cy : Nat → ClassId) : Con l D cy yX6_findLevel cX6_findLevel 9 (none) ({ frames := 3, cells := 0, slots := 0, locals := 73 }) 0 0 SP_X6_findLevel := by
  refine con_of (by decide) (fun as M Qp h => ?_) ?_
  · obtain ⟨-, o0, a1, a2, rfl, -⟩ := h
    exact Nat.le_of_ble_eq_true rfl
  · intro p e s m args below meth c G as M Qp h C hr hnm
    obtain ⟨hn, o0, a1, a2, rfl, ho1, ho2, Q0, hQ, h⟩ := h
    refine x_pick (L' := [(0, vR (some o0)), (1, vR a1), (2, vR a2)]) [0, 1, 2] rfl ?_
    exact k_X6_findLevel_0 C hr hn rfl ⟨ho1, ho2⟩ hQ h
set_option maxRecDepth 100000 in
set_option maxHeartbeats 4000000 in
theorem cl_X6_findLevel {p : Program} {l : Launch} {e : Env} {R : Room} {s : State} {m : MethodId} {args : Array Value} {below : List Frame} {meth : Method} {c : Code} {Q : State → Prop} {cc : ByteArray} {nL : Nat} {own : String} {D : va_G} {cy : Nat → ClassId} {G : Nat × Nat} {n0 pc : Nat} {L : List (Nat × PV)} {st : List PV} {M : Mm} {op : Instr} (K : CallOK l D cy R own op 0 0 (spV 6 2 SP_X6_findLevel)) (C : Cx p s m args meth c cc nL own D cy G n0) (hd : decode cc pc = .ok (op, 3)) (hn : M.2.2.2 = n0) (h3 : n0 = 243) (hlen : argN st ≤ 8) {r : Option Nat} {o0 : Nat} (ho : isOn 6 M.2.2.2 r o0) {a1 : Option Nat} {a2 : Option Nat} {Q0 : Mm → Prop} (h : P_X6_findLevel o0 a1 a2 M Q0) (k : ∀ M2, Q0 M2 → M2.2.2.2 = n0 → WW p l e R s m args below meth c Q nL D cy G n0  (pc + 3) L (st) M2) : WW p l e R s m args below meth c Q nL D cy G n0  pc L (vR a2 :: vR a1 :: vR r :: st) M := by
  obtain ⟨rfl, ho1, ho2⟩ := ho
  refine x_call0 K C hd (as := [vR (some o0), vR a1, vR a2]) rfl hn hlen (fun v M2 => v = none ∧ Q0 M2) ⟨⟨o0, [vR a1, vR a2], rfl, rfl, ho1, ho2⟩, hn.trans h3, o0, a1, a2, rfl, (hn.trans h3) ▸ ho1, ho2, Q0, fun M2 hx => ⟨rfl, hx⟩, h⟩ ?_
  rintro _ _ ⟨rfl, hx⟩ hm
  exact k _ hx hm
end W_X6_findLevel
theorem dX6_settle_0 : decode cX6_settle 0 = .ok (.aload_n 0, 1) := by decide +kernel
theorem dX6_settle_1 : decode cX6_settle 1 = .ok (.aload_n 1, 1) := by decide +kernel
theorem dX6_settle_2 : decode cX6_settle 2 = .ok (.aload_n 2, 1) := by decide +kernel
theorem dX6_settle_3 : decode cX6_settle 3 = .ok (.invokevirtual 45, 3) := by decide +kernel
theorem dX6_settle_6 : decode cX6_settle 6 = .ok (.aload_n 0, 1) := by decide +kernel
theorem dX6_settle_7 : decode cX6_settle 7 = .ok (.aload_n 2, 1) := by decide +kernel
theorem dX6_settle_8 : decode cX6_settle 8 = .ok (.getfield 31, 3) := by decide +kernel
theorem dX6_settle_11 : decode cX6_settle 11 = .ok (.putfield 49, 3) := by decide +kernel
theorem dX6_settle_14 : decode cX6_settle 14 = .ok (.iconst 0, 1) := by decide +kernel
theorem dX6_settle_15 : decode cX6_settle 15 = .ok (.istore_n 3, 1) := by decide +kernel
theorem dX6_settle_16 : decode cX6_settle 16 = .ok (.iload_n 3, 1) := by decide +kernel
theorem dX6_settle_17 : decode cX6_settle 17 = .ok (.aload_n 0, 1) := by decide +kernel
theorem dX6_settle_18 : decode cX6_settle 18 = .ok (.getfield 49, 3) := by decide +kernel
theorem dX6_settle_21 : decode cX6_settle 21 = .ok (.if_icmp .ge 176, 3) := by decide +kernel
theorem dX6_settle_24 : decode cX6_settle 24 = .ok (.aload_n 2, 1) := by decide +kernel
theorem dX6_settle_25 : decode cX6_settle 25 = .ok (.getfield 36, 3) := by decide +kernel
theorem dX6_settle_28 : decode cX6_settle 28 = .ok (.iload_n 3, 1) := by decide +kernel
theorem dX6_settle_29 : decode cX6_settle 29 = .ok (.aaload, 1) := by decide +kernel
theorem dX6_settle_30 : decode cX6_settle 30 = .ok (.astore 4, 2) := by decide +kernel
theorem dX6_settle_32 : decode cX6_settle 32 = .ok (.aload_n 0, 1) := by decide +kernel
theorem dX6_settle_33 : decode cX6_settle 33 = .ok (.iload_n 3, 1) := by decide +kernel
theorem dX6_settle_34 : decode cX6_settle 34 = .ok (.aload 4, 2) := by decide +kernel
theorem dX6_settle_36 : decode cX6_settle 36 = .ok (.aload_n 1, 1) := by decide +kernel
theorem dX6_settle_37 : decode cX6_settle 37 = .ok (.aload_n 0, 1) := by decide +kernel
theorem dX6_settle_38 : decode cX6_settle 38 = .ok (.getfield 50, 3) := by decide +kernel
theorem dX6_settle_41 : decode cX6_settle 41 = .ok (.aload_n 0, 1) := by decide +kernel
theorem dX6_settle_42 : decode cX6_settle 42 = .ok (.getfield 9, 3) := by decide +kernel
theorem dX6_settle_45 : decode cX6_settle 45 = .ok (.invokevirtual 53, 3) := by decide +kernel
theorem dX6_settle_48 : decode cX6_settle 48 = .ok (.istore 5, 2) := by decide +kernel
theorem dX6_settle_50 : decode cX6_settle 50 = .ok (.aload_n 0, 1) := by decide +kernel
theorem dX6_settle_51 : decode cX6_settle 51 = .ok (.getfield 25, 3) := by decide +kernel
theorem dX6_settle_54 : decode cX6_settle 54 = .ok (.iload_n 3, 1) := by decide +kernel
theorem dX6_settle_55 : decode cX6_settle 55 = .ok (.aload 4, 2) := by decide +kernel
theorem dX6_settle_57 : decode cX6_settle 57 = .ok (.getfield 57, 3) := by decide +kernel
theorem dX6_settle_60 : decode cX6_settle 60 = .ok (.iload 5, 2) := by decide +kernel
theorem dX6_settle_62 : decode cX6_settle 62 = .ok (.aload_n 0, 1) := by decide +kernel
theorem dX6_settle_63 : decode cX6_settle 63 = .ok (.getfield 9, 3) := by decide +kernel
theorem dX6_settle_66 : decode cX6_settle 66 = .ok (.invokevirtual 61, 3) := by decide +kernel
theorem dX6_settle_69 : decode cX6_settle 69 = .ok (.iastore, 1) := by decide +kernel
theorem dX6_settle_70 : decode cX6_settle 70 = .ok (.aload_n 0, 1) := by decide +kernel
theorem dX6_settle_71 : decode cX6_settle 71 = .ok (.getfield 22, 3) := by decide +kernel
theorem dX6_settle_74 : decode cX6_settle 74 = .ok (.iload_n 3, 1) := by decide +kernel
theorem dX6_settle_75 : decode cX6_settle 75 = .ok (.iload 5, 2) := by decide +kernel
theorem dX6_settle_77 : decode cX6_settle 77 = .ok (.ifCond .gt 7, 3) := by decide +kernel
theorem dX6_settle_80 : decode cX6_settle 80 = .ok (.iconst 0, 1) := by decide +kernel
theorem dX6_settle_81 : decode cX6_settle 81 = .ok (.goto 26, 3) := by decide +kernel
theorem dX6_settle_84 : decode cX6_settle 84 = .ok (.iload 5, 2) := by decide +kernel
theorem dX6_settle_86 : decode cX6_settle 86 = .ok (.aload 4, 2) := by decide +kernel
theorem dX6_settle_88 : decode cX6_settle 88 = .ok (.getfield 57, 3) := by decide +kernel
theorem dX6_settle_91 : decode cX6_settle 91 = .ok (.invokevirtual 67, 3) := by decide +kernel
theorem dX6_settle_94 : decode cX6_settle 94 = .ok (.aload_n 0, 1) := by decide +kernel
theorem dX6_settle_95 : decode cX6_settle 95 = .ok (.getfield 9, 3) := by decide +kernel
theorem dX6_settle_98 : decode cX6_settle 98 = .ok (.imul, 1) := by decide +kernel
theorem dX6_settle_99 : decode cX6_settle 99 = .ok (.if_icmp .ge 7, 3) := by decide +kernel
theorem dX6_settle_102 : decode cX6_settle 102 = .ok (.iconst 1, 1) := by decide +kernel
theorem dX6_settle_103 : decode cX6_settle 103 = .ok (.goto 4, 3) := by decide +kernel
theorem dX6_settle_106 : decode cX6_settle 106 = .ok (.iconst 2, 1) := by decide +kernel
theorem dX6_settle_107 : decode cX6_settle 107 = .ok (.iastore, 1) := by decide +kernel
theorem dX6_settle_108 : decode cX6_settle 108 = .ok (.aload_n 0, 1) := by decide +kernel
theorem dX6_settle_109 : decode cX6_settle 109 = .ok (.getfield 9, 3) := by decide +kernel
theorem dX6_settle_112 : decode cX6_settle 112 = .ok (.i2l, 1) := by decide +kernel
theorem dX6_settle_113 : decode cX6_settle 113 = .ok (.aload 4, 2) := by decide +kernel
theorem dX6_settle_115 : decode cX6_settle 115 = .ok (.getfield 71, 3) := by decide +kernel
theorem dX6_settle_118 : decode cX6_settle 118 = .ok (.i2l, 1) := by decide +kernel
theorem dX6_settle_119 : decode cX6_settle 119 = .ok (.lmul, 1) := by decide +kernel
theorem dX6_settle_120 : decode cX6_settle 120 = .ok (.lstore 6, 2) := by decide +kernel
theorem dX6_settle_122 : decode cX6_settle 122 = .ok (.aload_n 0, 1) := by decide +kernel
theorem dX6_settle_123 : decode cX6_settle 123 = .ok (.getfield 19, 3) := by decide +kernel
theorem dX6_settle_126 : decode cX6_settle 126 = .ok (.iload_n 3, 1) := by decide +kernel
theorem dX6_settle_127 : decode cX6_settle 127 = .ok (.lload 6, 2) := by decide +kernel
theorem dX6_settle_129 : decode cX6_settle 129 = .ok (.lconst 1, 1) := by decide +kernel
theorem dX6_settle_130 : decode cX6_settle 130 = .ok (.lcmp, 1) := by decide +kernel
theorem dX6_settle_131 : decode cX6_settle 131 = .ok (.ifCond .ge 7, 3) := by decide +kernel
theorem dX6_settle_134 : decode cX6_settle 134 = .ok (.iconst 0, 1) := by decide +kernel
theorem dX6_settle_135 : decode cX6_settle 135 = .ok (.goto 18, 3) := by decide +kernel
theorem dX6_settle_138 : decode cX6_settle 138 = .ok (.ldc2_w 74, 3) := by decide +kernel
theorem dX6_settle_141 : decode cX6_settle 141 = .ok (.aload_n 0, 1) := by decide +kernel
theorem dX6_settle_142 : decode cX6_settle 142 = .ok (.getfield 25, 3) := by decide +kernel
theorem dX6_settle_145 : decode cX6_settle 145 = .ok (.iload_n 3, 1) := by decide +kernel
theorem dX6_settle_146 : decode cX6_settle 146 = .ok (.iaload, 1) := by decide +kernel
theorem dX6_settle_147 : decode cX6_settle 147 = .ok (.i2l, 1) := by decide +kernel
theorem dX6_settle_148 : decode cX6_settle 148 = .ok (.lmul, 1) := by decide +kernel
theorem dX6_settle_149 : decode cX6_settle 149 = .ok (.lload 6, 2) := by decide +kernel
theorem dX6_settle_151 : decode cX6_settle 151 = .ok (.ldiv, 1) := by decide +kernel
theorem dX6_settle_152 : decode cX6_settle 152 = .ok (.l2i, 1) := by decide +kernel
theorem dX6_settle_153 : decode cX6_settle 153 = .ok (.iastore, 1) := by decide +kernel
theorem dX6_settle_154 : decode cX6_settle 154 = .ok (.iconst 0, 1) := by decide +kernel
theorem dX6_settle_155 : decode cX6_settle 155 = .ok (.istore 8, 2) := by decide +kernel
theorem dX6_settle_157 : decode cX6_settle 157 = .ok (.iload 8, 2) := by decide +kernel
theorem dX6_settle_159 : decode cX6_settle 159 = .ok (.iconst 4, 1) := by decide +kernel
theorem dX6_settle_160 : decode cX6_settle 160 = .ok (.if_icmp .ge 31, 3) := by decide +kernel
theorem dX6_settle_163 : decode cX6_settle 163 = .ok (.aload_n 0, 1) := by decide +kernel
theorem dX6_settle_164 : decode cX6_settle 164 = .ok (.getfield 28, 3) := by decide +kernel
theorem dX6_settle_167 : decode cX6_settle 167 = .ok (.iload_n 3, 1) := by decide +kernel
theorem dX6_settle_168 : decode cX6_settle 168 = .ok (.iconst 4, 1) := by decide +kernel
theorem dX6_settle_169 : decode cX6_settle 169 = .ok (.imul, 1) := by decide +kernel
theorem dX6_settle_170 : decode cX6_settle 170 = .ok (.iload 8, 2) := by decide +kernel
theorem dX6_settle_172 : decode cX6_settle 172 = .ok (.iadd, 1) := by decide +kernel
theorem dX6_settle_173 : decode cX6_settle 173 = .ok (.aload 4, 2) := by decide +kernel
theorem dX6_settle_175 : decode cX6_settle 175 = .ok (.getfield 57, 3) := by decide +kernel
theorem dX6_settle_178 : decode cX6_settle 178 = .ok (.getfield 76, 3) := by decide +kernel
theorem dX6_settle_181 : decode cX6_settle 181 = .ok (.iload 8, 2) := by decide +kernel
theorem dX6_settle_183 : decode cX6_settle 183 = .ok (.iaload, 1) := by decide +kernel
theorem dX6_settle_184 : decode cX6_settle 184 = .ok (.iastore, 1) := by decide +kernel
theorem dX6_settle_185 : decode cX6_settle 185 = .ok (.iinc 8 1, 3) := by decide +kernel
theorem dX6_settle_188 : decode cX6_settle 188 = .ok (.goto (-31), 3) := by decide +kernel
theorem dX6_settle_191 : decode cX6_settle 191 = .ok (.iinc 3 1, 3) := by decide +kernel
theorem dX6_settle_194 : decode cX6_settle 194 = .ok (.goto (-178), 3) := by decide +kernel
theorem dX6_settle_197 : decode cX6_settle 197 = .ok (.return_, 1) := by decide +kernel
theorem fw_X6_28 : fR RX6 28 6 7 := ⟨⟨lwG_1 (i := 231) rfl rfl, by decide, by decide⟩, fun _ _ => rfl, fun r => ⟨r, rfl⟩⟩
theorem fw_X6_76 : fR RX6 76 3 3 := ⟨⟨lwG_1 (i := 65) rfl rfl, by decide, by decide⟩, fun _ _ => rfl, fun r => ⟨r, rfl⟩⟩
theorem fw_X6_71 : fI RX6 71 4 2 := ⟨⟨lwG_1 (i := 95) rfl rfl, by decide, by decide⟩, rfl⟩
theorem cn_X6_74 : Cond.constantLong RX6 74 (Int64.ofInt 100) ∈ lwG := lwG_2 (i := 236) rfl rfl
theorem fw_X6_25 : fR RX6 25 6 6 := ⟨⟨lwG_1 (i := 230) rfl rfl, by decide, by decide⟩, fun _ _ => rfl, fun r => ⟨r, rfl⟩⟩
theorem fw_X6_22 : fR RX6 22 6 5 := ⟨⟨lwG_1 (i := 229) rfl rfl, by decide, by decide⟩, fun _ _ => rfl, fun r => ⟨r, rfl⟩⟩
theorem ck_X6_67 {l : Launch} {D : va_G} {cy : Nat → ClassId} {R : Room} (hR : 1 ≤ R.frames ∧ 22 ≤ R.locals) : CallOK l D cy R RX6 (.invokevirtual 67) 0 0 (spV 3 0 SP_X3_wholeLength) := call_V (ci := 3) (con_X3_wholeLength l D cy) (lwG_2 (i := 232) rfl rfl) (lwG_2 (i := 233) rfl rfl) (lwG_2 (i := 234) rfl rfl) (lwG_1 (i := 4) rfl rfl) (lwG_2 (i := 235) rfl rfl) (by decide) ⟨rfl, by decide, by decide, rfl⟩ ⟨rfl, rfl⟩ hR
theorem ck_X6_45 {l : Launch} {D : va_G} {cy : Nat → ClassId} {R : Room} (hR : 4 ≤ R.frames ∧ 101 ≤ R.locals) : CallOK l D cy R RX6 (.invokevirtual 45) 0 0 (spV 6 2 SP_X6_findLevel) := call_V (ci := 6) (con_X6_findLevel l D cy) (lwG_2 (i := 201) rfl rfl) (lwG_2 (i := 203) rfl rfl) (lwG_p (i := 6) rfl rfl) (lwG_1 (i := 9) rfl rfl) (lwG_2 (i := 204) rfl rfl) (by decide) ⟨rfl, by decide, by decide, rfl⟩ ⟨rfl, rfl⟩ hR
section W_X6_settle
variable {p : Program} {l : Launch} {e : Env} {s : State} {m : MethodId} {args : Array Value} {below : List Frame} {meth : Method} {c : Code} {D : va_G} {cy : Nat → ClassId} {G : Nat × Nat} {n0 : Nat} {Qp : Option PV → Mm → Prop}
set_option maxRecDepth 100000 in
set_option maxHeartbeats 4000000 in
theorem f_X6_settle_157 {o0 : Nat} {a1 : Option Nat} {a2 : Option Nat} {x3 : Int} {a4 : Option Nat} {x8 : Int} {M : Mm} {Q : Mm → Prop} {K16 : Int × Mm → Prop} {K157 : Int × Mm → Prop} (C : Cx p s m args meth c cX6_settle 9 RX6 D cy G n0) (hr : meth.sig.returnType = none) (h3 : n0 = 243) (hn : M.2.2.2 = n0) (ho0 : o0 < 243 ∧ (SH o0).1 = 6) (hQ : ∀ M, Q M → Qp none M) (hK16 : ∀ (x3 : Int) (M : Mm), K16 (x3, M) → M.2.2.2 = n0 → WW p l e ({ frames := 4, cells := 0, slots := 0, locals := 101 }) s m args below meth c (ZQ below args s D cy G n0 Qp n0) 9 D cy G n0 16 [(0, vR (some o0)), (1, vR a1), (2, vR a2), (3, vI x3)] [] M) (hK157 : ∀ (x8 : Int) (M : Mm), K157 (x8, M) → M.2.2.2 = n0 → WW p l e ({ frames := 4, cells := 0, slots := 0, locals := 101 }) s m args below meth c (ZQ below args s D cy G n0 Qp n0) 9 D cy G n0 157 [(0, vR (some o0)), (1, vR a1), (2, vR a2), (3, vI x3), (4, vR a4), (8, vI x8)] [] M) (h : F_X6_settle_157 o0 a1 a2 x3 a4 Q K16 K157 x8 M) : WW p l e ({ frames := 4, cells := 0, slots := 0, locals := 101 }) s m args below meth c (ZQ below args s D cy G n0 Qp n0) 9 D cy G n0 157 [(0, vR (some o0)), (1, vR a1), (2, vR a2), (3, vI x3), (4, vR a4), (8, vI x8)] [] M := by
  unfold F_X6_settle_157 at h
  refine w_iload C dX6_settle_157 (mem_k 5 rfl) ?_
  refine w_iconst C dX6_settle_159 ⟨by decide, by decide⟩ ?_
  refine w_icmp_ge (tgt := 191) C dX6_settle_160 (by decide) (fun q => ?_) (fun q => ?_)
  · replace h := h.1 q
    obtain ⟨v1, ev1⟩ : ∃ z : Int, z = x3 + 1 := ⟨_, rfl⟩
    refine x_iinc (L' := [(3, vI v1), (0, vR (some o0)), (1, vR a1), (2, vR a2), (4, vR a4), (8, vI x8)]) C dX6_settle_191 (mem_k 3 rfl) (by decide) h.1 ev1 rfl ?_
    replace h := h.2 v1 ev1
    refine w_goto (tgt := 16) C dX6_settle_194 (by decide) ?_
    refine x_pc (pc2 := 16) rfl ?_
    refine x_pick (L' := [(0, vR (some o0)), (1, vR a1), (2, vR a2), (3, vI v1)]) [1, 2, 3, 0] rfl ?_
    exact hK16 v1 M h hn
  · replace h := h.2 q
    refine w_aload_n C dX6_settle_163 rfl (mem_k 0 rfl) ?_
    refine x_getR C dX6_settle_164 fw_X6_28 (isO.n (ci := 6) ⟨rfl, ho0⟩ (hn.trans h3)) (fun r2 er2 => ?_)
    replace h := h r2 er2
    refine w_iload_n C dX6_settle_167 rfl (mem_k 3 rfl) ?_
    refine w_iconst C dX6_settle_168 ⟨by decide, by decide⟩ ?_
    refine w_imul C dX6_settle_169 h.1 ?_
    replace h := h.2
    refine w_iload C dX6_settle_170 (mem_k 5 rfl) ?_
    refine w_iadd C dX6_settle_172 h.1 ?_
    replace h := h.2
    refine w_aload C dX6_settle_173 (mem_k 4 rfl) ?_
    obtain ⟨o3, g4, h⟩ := h
    refine x_getR C dX6_settle_175 fw_X6_57 (isO.n g4 (hn.trans h3)) (fun r5 er5 => ?_)
    replace h := h r5 er5
    obtain ⟨o6, g7, h⟩ := h
    refine x_getR C dX6_settle_178 fw_X6_76 (isO.n g7 (hn.trans h3)) (fun r8 er8 => ?_)
    replace h := h r8 er8
    refine w_iload C dX6_settle_181 (mem_k 5 rfl) ?_
    obtain ⟨o9, g10, h⟩ := h
    refine x_iald C dX6_settle_183 (isA.n g10 (hn.trans h3)) ?_
    obtain ⟨o11, g12, h⟩ := h
    refine x_iast C dX6_settle_184 (isA.n g12 (hn.trans h3)) (fun M13 eM13 hn14 => ?_)
    replace h := h M13 eM13
    replace hn14 := hn14.trans hn
    obtain ⟨v15, ev15⟩ : ∃ z : Int, z = x8 + 1 := ⟨_, rfl⟩
    refine x_iinc (L' := [(8, vI v15), (0, vR (some o0)), (1, vR a1), (2, vR a2), (3, vI x3), (4, vR a4)]) C dX6_settle_185 (mem_k 5 rfl) (by decide) h.1 ev15 rfl ?_
    replace h := h.2 v15 ev15
    refine w_goto (tgt := 157) C dX6_settle_188 (by decide) ?_
    refine x_pc (pc2 := 157) rfl ?_
    refine x_pick (L' := [(0, vR (some o0)), (1, vR a1), (2, vR a2), (3, vI x3), (4, vR a4), (8, vI v15)]) [1, 2, 3, 4, 5, 0] rfl ?_
    exact hK157 v15 M13 h hn14
set_option maxRecDepth 100000 in
set_option maxHeartbeats 4000000 in
theorem k_X6_settle_157 {o0 : Nat} {a1 : Option Nat} {a2 : Option Nat} {x3 : Int} {a4 : Option Nat} {x8 : Int} {M : Mm} {Q : Mm → Prop} {K16 : Int × Mm → Prop} (C : Cx p s m args meth c cX6_settle 9 RX6 D cy G n0) (hr : meth.sig.returnType = none) (h3 : n0 = 243) (hn : M.2.2.2 = n0) (ho0 : o0 < 243 ∧ (SH o0).1 = 6) (hQ : ∀ M, Q M → Qp none M) (hK16 : ∀ (x3 : Int) (M : Mm), K16 (x3, M) → M.2.2.2 = n0 → WW p l e ({ frames := 4, cells := 0, slots := 0, locals := 101 }) s m args below meth c (ZQ below args s D cy G n0 Qp n0) 9 D cy G n0 16 [(0, vR (some o0)), (1, vR a1), (2, vR a2), (3, vI x3)] [] M) (h : P_X6_settle_157 o0 a1 a2 x3 a4 x8 M Q K16) : WW p l e ({ frames := 4, cells := 0, slots := 0, locals := 101 }) s m args below meth c (ZQ below args s D cy G n0 Qp n0) 9 D cy G n0 157 [(0, vR (some o0)), (1, vR a1), (2, vR a2), (3, vI x3), (4, vR a4), (8, vI x8)] [] M := by
  refine lpW_sound (P := fun y : Int × Mm => y.2.2.2.2 = n0 → WW p l e ({ frames := 4, cells := 0, slots := 0, locals := 101 }) s m args below meth c (ZQ below args s D cy G n0 Qp n0) 9 D cy G n0 157 [(0, vR (some o0)), (1, vR a1), (2, vR a2), (3, vI x3), (4, vR a4), (8, vI y.1)] [] y.2) ?_ h hn
  intro K y hK hF
  obtain ⟨x8, M⟩ := y
  intro hn
  exact f_X6_settle_157 C hr h3 hn ho0 hQ hK16 (fun x8 M hk => hK (x8, M) hk) hF
set_option maxRecDepth 100000 in
set_option maxHeartbeats 4000000 in
theorem k_X6_settle_107 {o0 : Nat} {a1 : Option Nat} {a2 : Option Nat} {x3 : Int} {a4 : Option Nat} {as0 : Option Nat} {s1 : Int} {s2 : Int} {M : Mm} {Q : Mm → Prop} {K16 : Int × Mm → Prop} (C : Cx p s m args meth c cX6_settle 9 RX6 D cy G n0) (hr : meth.sig.returnType = none) (h3 : n0 = 243) (hn : M.2.2.2 = n0) (ho0 : o0 < 243 ∧ (SH o0).1 = 6) (hQ : ∀ M, Q M → Qp none M) (hK16 : ∀ (x3 : Int) (M : Mm), K16 (x3, M) → M.2.2.2 = n0 → WW p l e ({ frames := 4, cells := 0, slots := 0, locals := 101 }) s m args below meth c (ZQ below args s D cy G n0 Qp n0) 9 D cy G n0 16 [(0, vR (some o0)), (1, vR a1), (2, vR a2), (3, vI x3)] [] M) (h : P_X6_settle_107 o0 a1 a2 x3 a4 as0 s1 s2 M Q K16) : WW p l e ({ frames := 4, cells := 0, slots := 0, locals := 101 }) s m args below meth c (ZQ below args s D cy G n0 Qp n0) 9 D cy G n0 107 [(0, vR (some o0)), (1, vR a1), (2, vR a2), (3, vI x3), (4, vR a4)] [vI s2, vI s1, vR as0] M := by
  unfold P_X6_settle_107 at h
  obtain ⟨o16, g17, h⟩ := h
  refine x_iast C dX6_settle_107 (isA.n g17 (hn.trans h3)) (fun M18 eM18 hn19 => ?_)
  replace h := h M18 eM18
  replace hn19 := hn19.trans hn
  refine w_aload_n C dX6_settle_108 rfl (mem_k 0 rfl) ?_
  refine x_getI C dX6_settle_109 fw_X6_9 (isO.n (ci := 6) ⟨rfl, ho0⟩ (hn19.trans h3)) ?_
  refine w_i2l C dX6_settle_112 ?_
  refine w_aload C dX6_settle_113 (mem_k 4 rfl) ?_
  obtain ⟨o20, g21, h⟩ := h
  refine x_getI C dX6_settle_115 fw_X6_71 (isO.n g21 (hn19.trans h3)) ?_
  refine w_i2l C dX6_settle_118 ?_
  refine w_lmul C dX6_settle_119 h.1 ?_
  replace h := h.2
  refine x_nmL (fun v22 ev22 => ?_)
  replace h := h v22 ev22
  refine x_lstore (L' := [(6, vL v22), (0, vR (some o0)), (1, vR a1), (2, vR a2), (3, vI x3), (4, vR a4)]) C dX6_settle_120 (by decide) rfl ?_
  refine w_aload_n C dX6_settle_122 rfl (mem_k 1 rfl) ?_
  refine x_getR C dX6_settle_123 fw_X6_19 (isO.n (ci := 6) ⟨rfl, ho0⟩ (hn19.trans h3)) (fun r23 er23 => ?_)
  replace h := h r23 er23
  refine w_iload_n C dX6_settle_126 rfl (mem_k 4 rfl) ?_
  refine w_lload C dX6_settle_127 (mem_k 0 rfl) ?_
  refine w_lconst C dX6_settle_129 ?_
  refine x_lif_ge (tgt := 138) C dX6_settle_130 dX6_settle_131 (by decide) (fun q => ?_) (fun q => ?_)
  · replace h := h.1 q
    refine w_ldc2 (x := 100) C dX6_settle_138 cn_X6_74 ⟨by decide, by decide⟩ ?_
    refine w_aload_n C dX6_settle_141 rfl (mem_k 1 rfl) ?_
    refine x_getR C dX6_settle_142 fw_X6_25 (isO.n (ci := 6) ⟨rfl, ho0⟩ (hn19.trans h3)) (fun r24 er24 => ?_)
    replace h := h r24 er24
    refine w_iload_n C dX6_settle_145 rfl (mem_k 4 rfl) ?_
    obtain ⟨o25, g26, h⟩ := h
    refine x_iald C dX6_settle_146 (isA.n g26 (hn19.trans h3)) ?_
    refine w_i2l C dX6_settle_147 ?_
    refine w_lmul C dX6_settle_148 h.1 ?_
    replace h := h.2
    refine w_lload C dX6_settle_149 (mem_k 0 rfl) ?_
    refine x_ldiv C dX6_settle_151 h.1 ?_
    replace h := h.2
    refine w_l2i C dX6_settle_152 ?_
    obtain ⟨o27, g28, h⟩ := h
    refine x_iast C dX6_settle_153 (isA.n g28 (hn19.trans h3)) (fun M29 eM29 hn30 => ?_)
    replace h := h M29 eM29
    replace hn30 := hn30.trans hn19
    refine w_iconst C dX6_settle_154 ⟨by decide, by decide⟩ ?_
    refine x_istore (L' := [(8, vI 0), (6, vL v22), (0, vR (some o0)), (1, vR a1), (2, vR a2), (3, vI x3), (4, vR a4)]) C dX6_settle_155 (by decide) rfl ?_
    refine x_pc (pc2 := 157) rfl ?_
    refine x_pick (L' := [(0, vR (some o0)), (1, vR a1), (2, vR a2), (3, vI x3), (4, vR a4), (8, vI 0)]) [2, 3, 4, 5, 6, 0] rfl ?_
    exact k_X6_settle_157 C hr h3 hn30 ho0 hQ hK16 h
  · replace h := h.2 q
    refine w_iconst C dX6_settle_134 ⟨by decide, by decide⟩ ?_
    refine w_goto (tgt := 153) C dX6_settle_135 (by decide) ?_
    obtain ⟨o31, g32, h⟩ := h
    refine x_iast C dX6_settle_153 (isA.n g32 (hn19.trans h3)) (fun M33 eM33 hn34 => ?_)
    replace h := h M33 eM33
    replace hn34 := hn34.trans hn19
    refine w_iconst C dX6_settle_154 ⟨by decide, by decide⟩ ?_
    refine x_istore (L' := [(8, vI 0), (6, vL v22), (0, vR (some o0)), (1, vR a1), (2, vR a2), (3, vI x3), (4, vR a4)]) C dX6_settle_155 (by decide) rfl ?_
    refine x_pc (pc2 := 157) rfl ?_
    refine x_pick (L' := [(0, vR (some o0)), (1, vR a1), (2, vR a2), (3, vI x3), (4, vR a4), (8, vI 0)]) [2, 3, 4, 5, 6, 0] rfl ?_
    exact k_X6_settle_157 C hr h3 hn34 ho0 hQ hK16 h
set_option maxRecDepth 100000 in
set_option maxHeartbeats 4000000 in
theorem f_X6_settle_16 {o0 : Nat} {a1 : Option Nat} {a2 : Option Nat} {x3 : Int} {M : Mm} {Q : Mm → Prop} {K16 : Int × Mm → Prop} (C : Cx p s m args meth c cX6_settle 9 RX6 D cy G n0) (hr : meth.sig.returnType = none) (h3 : n0 = 243) (hn : M.2.2.2 = n0) (ho0 : o0 < 243 ∧ (SH o0).1 = 6) (hQ : ∀ M, Q M → Qp none M) (hK16 : ∀ (x3 : Int) (M : Mm), K16 (x3, M) → M.2.2.2 = n0 → WW p l e ({ frames := 4, cells := 0, slots := 0, locals := 101 }) s m args below meth c (ZQ below args s D cy G n0 Qp n0) 9 D cy G n0 16 [(0, vR (some o0)), (1, vR a1), (2, vR a2), (3, vI x3)] [] M) (h : F_X6_settle_16 o0 a1 a2 Q  K16 x3 M) : WW p l e ({ frames := 4, cells := 0, slots := 0, locals := 101 }) s m args below meth c (ZQ below args s D cy G n0 Qp n0) 9 D cy G n0 16 [(0, vR (some o0)), (1, vR a1), (2, vR a2), (3, vI x3)] [] M := by
  unfold F_X6_settle_16 at h
  refine w_iload_n C dX6_settle_16 rfl (mem_k 3 rfl) ?_
  refine w_aload_n C dX6_settle_17 rfl (mem_k 0 rfl) ?_
  refine x_getI C dX6_settle_18 fw_X6_49 (isO.n (ci := 6) ⟨rfl, ho0⟩ (hn.trans h3)) ?_
  refine w_icmp_ge (tgt := 197) C dX6_settle_21 (by decide) (fun q => ?_) (fun q => ?_)
  · replace h := h.1 q
    exact x_vret C hr dX6_settle_197 hn (hQ M h)
  · replace h := h.2 q
    refine w_aload_n C dX6_settle_24 rfl (mem_k 2 rfl) ?_
    obtain ⟨o35, g36, h⟩ := h
    refine x_getR C dX6_settle_25 fw_X6_36 (isO.n g36 (hn.trans h3)) (fun r37 er37 => ?_)
    replace h := h r37 er37
    refine w_iload_n C dX6_settle_28 rfl (mem_k 3 rfl) ?_
    obtain ⟨o38, g39, h⟩ := h
    refine x_aald C dX6_settle_29 (isA.n g39 (hn.trans h3)) (by decide) (fun r40 er40 => ?_)
    replace h := h r40 er40
    refine x_astore (L' := [(4, vR r40), (0, vR (some o0)), (1, vR a1), (2, vR a2), (3, vI x3)]) C dX6_settle_30 (by decide) rfl ?_
    refine w_aload_n C dX6_settle_32 rfl (mem_k 1 rfl) ?_
    refine w_iload_n C dX6_settle_33 rfl (mem_k 4 rfl) ?_
    refine w_aload C dX6_settle_34 (mem_k 0 rfl) ?_
    refine w_aload_n C dX6_settle_36 rfl (mem_k 2 rfl) ?_
    refine w_aload_n C dX6_settle_37 rfl (mem_k 1 rfl) ?_
    refine x_getI C dX6_settle_38 fw_X6_50 (isO.n (ci := 6) ⟨rfl, ho0⟩ (hn.trans h3)) ?_
    refine w_aload_n C dX6_settle_41 rfl (mem_k 1 rfl) ?_
    refine x_getI C dX6_settle_42 fw_X6_9 (isO.n (ci := 6) ⟨rfl, ho0⟩ (hn.trans h3)) ?_
    refine cl_X6_squeezeAt (ck_X6_53 ⟨by decide, by decide⟩) C dX6_settle_45 hn h3 (Nat.le_of_ble_eq_true rfl) (isO.n (ci := 6) ⟨rfl, ho0⟩ (hn.trans h3)) h (fun v41 h => ?_)
    refine x_istore (L' := [(5, vI v41), (4, vR r40), (0, vR (some o0)), (1, vR a1), (2, vR a2), (3, vI x3)]) C dX6_settle_48 (by decide) rfl ?_
    refine w_aload_n C dX6_settle_50 rfl (mem_k 2 rfl) ?_
    refine x_getR C dX6_settle_51 fw_X6_25 (isO.n (ci := 6) ⟨rfl, ho0⟩ (hn.trans h3)) (fun r42 er42 => ?_)
    replace h := h r42 er42
    refine w_iload_n C dX6_settle_54 rfl (mem_k 5 rfl) ?_
    refine w_aload C dX6_settle_55 (mem_k 1 rfl) ?_
    obtain ⟨o43, g44, h⟩ := h
    refine x_getR C dX6_settle_57 fw_X6_57 (isO.n g44 (hn.trans h3)) (fun r45 er45 => ?_)
    replace h := h r45 er45
    refine w_iload C dX6_settle_60 (mem_k 0 rfl) ?_
    refine w_aload_n C dX6_settle_62 rfl (mem_k 2 rfl) ?_
    refine x_getI C dX6_settle_63 fw_X6_9 (isO.n (ci := 6) ⟨rfl, ho0⟩ (hn.trans h3)) ?_
    obtain ⟨o46, g47, h⟩ := h
    refine cl_X3_pushOf (ck_X6_61 ⟨by decide, by decide⟩) C dX6_settle_66 hn h3 (Nat.le_of_ble_eq_true rfl) (isO.n g47 (hn.trans h3)) h (fun v48 h => ?_)
    obtain ⟨o49, g50, h⟩ := h
    refine x_iast C dX6_settle_69 (isA.n g50 (hn.trans h3)) (fun M51 eM51 hn52 => ?_)
    replace h := h M51 eM51
    replace hn52 := hn52.trans hn
    refine w_aload_n C dX6_settle_70 rfl (mem_k 2 rfl) ?_
    refine x_getR C dX6_settle_71 fw_X6_22 (isO.n (ci := 6) ⟨rfl, ho0⟩ (hn52.trans h3)) (fun r53 er53 => ?_)
    replace h := h r53 er53
    refine w_iload_n C dX6_settle_74 rfl (mem_k 5 rfl) ?_
    refine w_iload C dX6_settle_75 (mem_k 0 rfl) ?_
    refine w_if_gt (tgt := 84) C dX6_settle_77 (by decide) (fun q => ?_) (fun q => ?_)
    · replace h := h.1 q
      refine w_iload C dX6_settle_84 (mem_k 0 rfl) ?_
      refine w_aload C dX6_settle_86 (mem_k 1 rfl) ?_
      refine x_getR C dX6_settle_88 fw_X6_57 (isO.n g44 (hn52.trans h3)) (fun r54 er54 => ?_)
      replace h := h r54 er54
      obtain ⟨o55, g56, h⟩ := h
      refine cl_X3_wholeLength (ck_X6_67 ⟨by decide, by decide⟩) C dX6_settle_91 hn52 h3 (Nat.le_of_ble_eq_true rfl) (isO.n g56 (hn52.trans h3)) h (fun v57 h => ?_)
      refine w_aload_n C dX6_settle_94 rfl (mem_k 2 rfl) ?_
      refine x_getI C dX6_settle_95 fw_X6_9 (isO.n (ci := 6) ⟨rfl, ho0⟩ (hn52.trans h3)) ?_
      refine w_imul C dX6_settle_98 h.1 ?_
      replace h := h.2
      refine w_icmp_ge (tgt := 106) C dX6_settle_99 (by decide) (fun q => ?_) (fun q => ?_)
      · replace h := h.1 q
        refine w_iconst C dX6_settle_106 ⟨by decide, by decide⟩ ?_
        refine x_pc (pc2 := 107) rfl ?_
        refine x_pick (L' := [(0, vR (some o0)), (1, vR a1), (2, vR a2), (3, vI x3), (4, vR r40)]) [2, 3, 4, 5, 1] rfl ?_
        exact k_X6_settle_107 C hr h3 hn52 ho0 hQ hK16 h
      · replace h := h.2 q
        refine w_iconst C dX6_settle_102 ⟨by decide, by decide⟩ ?_
        refine w_goto (tgt := 107) C dX6_settle_103 (by decide) ?_
        refine x_pc (pc2 := 107) rfl ?_
        refine x_pick (L' := [(0, vR (some o0)), (1, vR a1), (2, vR a2), (3, vI x3), (4, vR r40)]) [2, 3, 4, 5, 1] rfl ?_
        exact k_X6_settle_107 C hr h3 hn52 ho0 hQ hK16 h
    · replace h := h.2 q
      refine w_iconst C dX6_settle_80 ⟨by decide, by decide⟩ ?_
      refine w_goto (tgt := 107) C dX6_settle_81 (by decide) ?_
      refine x_pc (pc2 := 107) rfl ?_
      refine x_pick (L' := [(0, vR (some o0)), (1, vR a1), (2, vR a2), (3, vI x3), (4, vR r40)]) [2, 3, 4, 5, 1] rfl ?_
      exact k_X6_settle_107 C hr h3 hn52 ho0 hQ hK16 h
set_option maxRecDepth 100000 in
set_option maxHeartbeats 4000000 in
theorem k_X6_settle_16 {o0 : Nat} {a1 : Option Nat} {a2 : Option Nat} {x3 : Int} {M : Mm} {Q : Mm → Prop} (C : Cx p s m args meth c cX6_settle 9 RX6 D cy G n0) (hr : meth.sig.returnType = none) (h3 : n0 = 243) (hn : M.2.2.2 = n0) (ho0 : o0 < 243 ∧ (SH o0).1 = 6) (hQ : ∀ M, Q M → Qp none M) (h : P_X6_settle_16 o0 a1 a2 x3 M Q ) : WW p l e ({ frames := 4, cells := 0, slots := 0, locals := 101 }) s m args below meth c (ZQ below args s D cy G n0 Qp n0) 9 D cy G n0 16 [(0, vR (some o0)), (1, vR a1), (2, vR a2), (3, vI x3)] [] M := by
  refine lpW_sound (P := fun y : Int × Mm => y.2.2.2.2 = n0 → WW p l e ({ frames := 4, cells := 0, slots := 0, locals := 101 }) s m args below meth c (ZQ below args s D cy G n0 Qp n0) 9 D cy G n0 16 [(0, vR (some o0)), (1, vR a1), (2, vR a2), (3, vI y.1)] [] y.2) ?_ h hn
  intro K y hK hF
  obtain ⟨x3, M⟩ := y
  intro hn
  exact f_X6_settle_16 C hr h3 hn ho0 hQ  (fun x3 M hk => hK (x3, M) hk) hF
set_option maxRecDepth 100000 in
set_option maxHeartbeats 4000000 in
theorem k_X6_settle_0 {o0 : Nat} {a1 : Option Nat} {a2 : Option Nat} {M : Mm} {Q : Mm → Prop} (C : Cx p s m args meth c cX6_settle 9 RX6 D cy G n0) (hr : meth.sig.returnType = none) (h3 : n0 = 243) (hn : M.2.2.2 = n0) (ho0 : o0 < 243 ∧ (SH o0).1 = 6) (hQ : ∀ M, Q M → Qp none M) (h : P_X6_settle o0 a1 a2 M Q ) : WW p l e ({ frames := 4, cells := 0, slots := 0, locals := 101 }) s m args below meth c (ZQ below args s D cy G n0 Qp n0) 9 D cy G n0 0 [(0, vR (some o0)), (1, vR a1), (2, vR a2)] [] M := by
  unfold P_X6_settle at h
  refine w_aload_n C dX6_settle_0 rfl (mem_k 0 rfl) ?_
  refine w_aload_n C dX6_settle_1 rfl (mem_k 1 rfl) ?_
  refine w_aload_n C dX6_settle_2 rfl (mem_k 2 rfl) ?_
  refine cl_X6_findLevel (ck_X6_45 ⟨by decide, by decide⟩) C dX6_settle_3 hn h3 (Nat.le_of_ble_eq_true rfl) (isO.n (ci := 6) ⟨rfl, ho0⟩ (hn.trans h3)) h (fun M58 h hn59 => ?_)
  refine w_aload_n C dX6_settle_6 rfl (mem_k 0 rfl) ?_
  refine w_aload_n C dX6_settle_7 rfl (mem_k 2 rfl) ?_
  obtain ⟨o60, g61, h⟩ := h
  refine x_getI C dX6_settle_8 fw_X6_31 (isO.n g61 (hn59.trans h3)) ?_
  refine x_putI C dX6_settle_11 fw_X6_49 (isO.n (ci := 6) ⟨rfl, ho0⟩ (hn59.trans h3)) (Or.inl rfl) (fun M62 eM62 hn63 => ?_)
  replace h := h M62 eM62
  replace hn63 := hn63.trans hn59
  refine w_iconst C dX6_settle_14 ⟨by decide, by decide⟩ ?_
  refine x_istore_n (L' := [(3, vI 0), (0, vR (some o0)), (1, vR a1), (2, vR a2)]) C dX6_settle_15 rfl (by decide) rfl ?_
  refine x_pc (pc2 := 16) rfl ?_
  refine x_pick (L' := [(0, vR (some o0)), (1, vR a1), (2, vR a2), (3, vI 0)]) [1, 2, 3, 0] rfl ?_
  exact k_X6_settle_16 C hr h3 hn63 ho0 hQ  h
set_option maxRecDepth 100000 in
set_option maxHeartbeats 4000000 in
theorem con_X6_settle (l : Launch) (D : va_G) (cy : Nat → ClassId) : Con l D cy yX6_settle cX6_settle 9 (none) ({ frames := 4, cells := 0, slots := 0, locals := 101 }) 0 0 SP_X6_settle := by
  refine con_of (by decide) (fun as M Qp h => ?_) ?_
  · obtain ⟨-, o0, a1, a2, rfl, -⟩ := h
    exact Nat.le_of_ble_eq_true rfl
  · intro p e s m args below meth c G as M Qp h C hr hnm
    obtain ⟨hn, o0, a1, a2, rfl, ho1, ho2, Q0, hQ, h⟩ := h
    refine x_pick (L' := [(0, vR (some o0)), (1, vR a1), (2, vR a2)]) [0, 1, 2] rfl ?_
    exact k_X6_settle_0 C hr hn rfl ⟨ho1, ho2⟩ hQ h
set_option maxRecDepth 100000 in
set_option maxHeartbeats 4000000 in
theorem cl_X6_settle {p : Program} {l : Launch} {e : Env} {R : Room} {s : State} {m : MethodId} {args : Array Value} {below : List Frame} {meth : Method} {c : Code} {Q : State → Prop} {cc : ByteArray} {nL : Nat} {own : String} {D : va_G} {cy : Nat → ClassId} {G : Nat × Nat} {n0 pc : Nat} {L : List (Nat × PV)} {st : List PV} {M : Mm} {op : Instr} (K : CallOK l D cy R own op 0 0 (spV 6 2 SP_X6_settle)) (C : Cx p s m args meth c cc nL own D cy G n0) (hd : decode cc pc = .ok (op, 3)) (hn : M.2.2.2 = n0) (h3 : n0 = 243) (hlen : argN st ≤ 8) {r : Option Nat} {o0 : Nat} (ho : isOn 6 M.2.2.2 r o0) {a1 : Option Nat} {a2 : Option Nat} {Q0 : Mm → Prop} (h : P_X6_settle o0 a1 a2 M Q0) (k : ∀ M2, Q0 M2 → M2.2.2.2 = n0 → WW p l e R s m args below meth c Q nL D cy G n0  (pc + 3) L (st) M2) : WW p l e R s m args below meth c Q nL D cy G n0  pc L (vR a2 :: vR a1 :: vR r :: st) M := by
  obtain ⟨rfl, ho1, ho2⟩ := ho
  refine x_call0 K C hd (as := [vR (some o0), vR a1, vR a2]) rfl hn hlen (fun v M2 => v = none ∧ Q0 M2) ⟨⟨o0, [vR a1, vR a2], rfl, rfl, ho1, ho2⟩, hn.trans h3, o0, a1, a2, rfl, (hn.trans h3) ▸ ho1, ho2, Q0, fun M2 hx => ⟨rfl, hx⟩, h⟩ ?_
  rintro _ _ ⟨rfl, hx⟩ hm
  exact k _ hx hm
end W_X6_settle
theorem dX6_patches_0 : decode cX6_patches 0 = .ok (.aload_n 0, 1) := by decide +kernel
theorem dX6_patches_1 : decode cX6_patches 1 = .ok (.getfield 49, 3) := by decide +kernel
theorem dX6_patches_4 : decode cX6_patches 4 = .ok (.ireturn, 1) := by decide +kernel
section W_X6_patches
variable {p : Program} {l : Launch} {e : Env} {s : State} {m : MethodId} {args : Array Value} {below : List Frame} {meth : Method} {c : Code} {D : va_G} {cy : Nat → ClassId} {G : Nat × Nat} {n0 : Nat} {Qp : Option PV → Mm → Prop}
set_option maxRecDepth 100000 in
set_option maxHeartbeats 4000000 in
theorem k_X6_patches_0 {o0 : Nat} {M : Mm} {Q : Int → Prop} (C : Cx p s m args meth c cX6_patches 1 RX6 D cy G n0) (hr : meth.sig.returnType = some .int) (h3 : n0 = 243) (hn : M.2.2.2 = n0) (ho0 : o0 < 243 ∧ (SH o0).1 = 6) (hQ : ∀ x, Q x → Qp (some (vI x)) M) (h : P_X6_patches o0 M Q ) : WW p l e ({ frames := 0, cells := 0, slots := 0, locals := 0 }) s m args below meth c (ZQ below args s D cy G n0 Qp n0) 1 D cy G n0 0 [(0, vR (some o0))] [] M := by
  unfold P_X6_patches at h
  refine w_aload_n C dX6_patches_0 rfl (mem_k 0 rfl) ?_
  refine x_getI C dX6_patches_1 fw_X6_49 (isO.n (ci := 6) ⟨rfl, ho0⟩ (hn.trans h3)) ?_
  exact x_iret C hr dX6_patches_4 hn (hQ _ h)
set_option maxRecDepth 100000 in
set_option maxHeartbeats 4000000 in
theorem con_X6_patches (l : Launch) (D : va_G) (cy : Nat → ClassId) : Con l D cy yX6_patches cX6_patches 1 (some .int) ({ frames := 0, cells := 0, slots := 0, locals := 0 }) 0 0 SP_X6_patches := by
  refine con_of (by decide) (fun as M Qp h => ?_) ?_
  · obtain ⟨-, o0, rfl, -⟩ := h
    exact Nat.le_of_ble_eq_true rfl
  · intro p e s m args below meth c G as M Qp h C hr hnm
    obtain ⟨hn, o0, rfl, ho1, ho2, Q0, hQ, h⟩ := h
    refine x_pick (L' := [(0, vR (some o0))]) [0] rfl ?_
    exact k_X6_patches_0 C hr hn rfl ⟨ho1, ho2⟩ hQ h
set_option maxRecDepth 100000 in
set_option maxHeartbeats 4000000 in
theorem cl_X6_patches {p : Program} {l : Launch} {e : Env} {R : Room} {s : State} {m : MethodId} {args : Array Value} {below : List Frame} {meth : Method} {c : Code} {Q : State → Prop} {cc : ByteArray} {nL : Nat} {own : String} {D : va_G} {cy : Nat → ClassId} {G : Nat × Nat} {n0 pc : Nat} {L : List (Nat × PV)} {st : List PV} {M : Mm} {op : Instr} (K : CallOK l D cy R own op 0 0 (spV 6 0 SP_X6_patches)) (C : Cx p s m args meth c cc nL own D cy G n0) (hd : decode cc pc = .ok (op, 3)) (hn : M.2.2.2 = n0) (h3 : n0 = 243) (hlen : argN st ≤ 8) {r : Option Nat} {o0 : Nat} (ho : isOn 6 M.2.2.2 r o0)  {Q0 : Int → Prop} (h : P_X6_patches o0 M Q0) (k : ∀ x, Q0 x → WW p l e R s m args below meth c Q nL D cy G n0  (pc + 3) L (vI x :: st) M) : WW p l e R s m args below meth c Q nL D cy G n0  pc L (vR r :: st) M := by
  obtain ⟨rfl, ho1, ho2⟩ := ho
  refine x_call0 K C hd (as := [vR (some o0)]) rfl hn hlen (fun v M2 => ∃ x, v = some (vI x) ∧ M2 = M ∧ Q0 x) ⟨⟨o0, [], rfl, rfl, ho1, ho2⟩, hn.trans h3, o0, rfl, (hn.trans h3) ▸ ho1, ho2, Q0, fun x hx => ⟨x, rfl, rfl, hx⟩, h⟩ ?_
  rintro _ _ ⟨x, rfl, rfl, hx⟩ hm
  exact k x hx
end W_X6_patches
theorem dX6_pushAt_0 : decode cX6_pushAt 0 = .ok (.aload_n 0, 1) := by decide +kernel
theorem dX6_pushAt_1 : decode cX6_pushAt 1 = .ok (.iload_n 1, 1) := by decide +kernel
theorem dX6_pushAt_2 : decode cX6_pushAt 2 = .ok (.invokevirtual 104, 3) := by decide +kernel
theorem dX6_pushAt_5 : decode cX6_pushAt 5 = .ok (.ifCond .eq 12, 3) := by decide +kernel
theorem dX6_pushAt_8 : decode cX6_pushAt 8 = .ok (.aload_n 0, 1) := by decide +kernel
theorem dX6_pushAt_9 : decode cX6_pushAt 9 = .ok (.getfield 25, 3) := by decide +kernel
theorem dX6_pushAt_12 : decode cX6_pushAt 12 = .ok (.iload_n 1, 1) := by decide +kernel
theorem dX6_pushAt_13 : decode cX6_pushAt 13 = .ok (.iaload, 1) := by decide +kernel
theorem dX6_pushAt_14 : decode cX6_pushAt 14 = .ok (.goto 4, 3) := by decide +kernel
theorem dX6_pushAt_17 : decode cX6_pushAt 17 = .ok (.iconst 0, 1) := by decide +kernel
theorem dX6_pushAt_18 : decode cX6_pushAt 18 = .ok (.ireturn, 1) := by decide +kernel
section W_X6_pushAt
variable {p : Program} {l : Launch} {e : Env} {s : State} {m : MethodId} {args : Array Value} {below : List Frame} {meth : Method} {c : Code} {D : va_G} {cy : Nat → ClassId} {G : Nat × Nat} {n0 : Nat} {Qp : Option PV → Mm → Prop}
set_option maxRecDepth 100000 in
set_option maxHeartbeats 4000000 in
theorem k_X6_pushAt_0 {o0 : Nat} {x1 : Int} {M : Mm} {Q : Int → Prop} (C : Cx p s m args meth c cX6_pushAt 2 RX6 D cy G n0) (hr : meth.sig.returnType = some .int) (h3 : n0 = 243) (hn : M.2.2.2 = n0) (ho0 : o0 < 243 ∧ (SH o0).1 = 6) (hQ : ∀ x, Q x → Qp (some (vI x)) M) (h : P_X6_pushAt o0 x1 M Q ) : WW p l e ({ frames := 2, cells := 0, slots := 0, locals := 43 }) s m args below meth c (ZQ below args s D cy G n0 Qp n0) 2 D cy G n0 0 [(0, vR (some o0)), (1, vI x1)] [] M := by
  unfold P_X6_pushAt at h
  refine w_aload_n C dX6_pushAt_0 rfl (mem_k 0 rfl) ?_
  refine w_iload_n C dX6_pushAt_1 rfl (mem_k 1 rfl) ?_
  refine cl_X6_isHere (ck_X6_104 ⟨by decide, by decide⟩) C dX6_pushAt_2 hn h3 (Nat.le_of_ble_eq_true rfl) (isO.n (ci := 6) ⟨rfl, ho0⟩ (hn.trans h3)) h (fun v1 h => ?_)
  refine w_if_eq (tgt := 17) C dX6_pushAt_5 (by decide) (fun q => ?_) (fun q => ?_)
  · replace h := h.1 q
    refine w_iconst C dX6_pushAt_17 ⟨by decide, by decide⟩ ?_
    exact x_iret C hr dX6_pushAt_18 hn (hQ _ h)
  · replace h := h.2 q
    refine w_aload_n C dX6_pushAt_8 rfl (mem_k 0 rfl) ?_
    refine x_getR C dX6_pushAt_9 fw_X6_25 (isO.n (ci := 6) ⟨rfl, ho0⟩ (hn.trans h3)) (fun r2 er2 => ?_)
    replace h := h r2 er2
    refine w_iload_n C dX6_pushAt_12 rfl (mem_k 1 rfl) ?_
    obtain ⟨o3, g4, h⟩ := h
    refine x_iald C dX6_pushAt_13 (isA.n g4 (hn.trans h3)) ?_
    refine w_goto (tgt := 18) C dX6_pushAt_14 (by decide) ?_
    exact x_iret C hr dX6_pushAt_18 hn (hQ _ h)
set_option maxRecDepth 100000 in
set_option maxHeartbeats 4000000 in
theorem con_X6_pushAt (l : Launch) (D : va_G) (cy : Nat → ClassId) : Con l D cy yX6_pushAt cX6_pushAt 2 (some .int) ({ frames := 2, cells := 0, slots := 0, locals := 43 }) 0 0 SP_X6_pushAt := by
  refine con_of (by decide) (fun as M Qp h => ?_) ?_
  · obtain ⟨-, o0, x1, rfl, -⟩ := h
    exact Nat.le_of_ble_eq_true rfl
  · intro p e s m args below meth c G as M Qp h C hr hnm
    obtain ⟨hn, o0, x1, rfl, ho1, ho2, Q0, hQ, h⟩ := h
    refine x_pick (L' := [(0, vR (some o0)), (1, vI x1)]) [0, 1] rfl ?_
    exact k_X6_pushAt_0 C hr hn rfl ⟨ho1, ho2⟩ hQ h
set_option maxRecDepth 100000 in
set_option maxHeartbeats 4000000 in
theorem cl_X6_pushAt {p : Program} {l : Launch} {e : Env} {R : Room} {s : State} {m : MethodId} {args : Array Value} {below : List Frame} {meth : Method} {c : Code} {Q : State → Prop} {cc : ByteArray} {nL : Nat} {own : String} {D : va_G} {cy : Nat → ClassId} {G : Nat × Nat} {n0 pc : Nat} {L : List (Nat × PV)} {st : List PV} {M : Mm} {op : Instr} (K : CallOK l D cy R own op 0 0 (spV 6 1 SP_X6_pushAt)) (C : Cx p s m args meth c cc nL own D cy G n0) (hd : decode cc pc = .ok (op, 3)) (hn : M.2.2.2 = n0) (h3 : n0 = 243) (hlen : argN st ≤ 8) {r : Option Nat} {o0 : Nat} (ho : isOn 6 M.2.2.2 r o0) {x1 : Int} {Q0 : Int → Prop} (h : P_X6_pushAt o0 x1 M Q0) (k : ∀ x, Q0 x → WW p l e R s m args below meth c Q nL D cy G n0  (pc + 3) L (vI x :: st) M) : WW p l e R s m args below meth c Q nL D cy G n0  pc L (vI x1 :: vR r :: st) M := by
  obtain ⟨rfl, ho1, ho2⟩ := ho
  refine x_call0 K C hd (as := [vR (some o0), vI x1]) rfl hn hlen (fun v M2 => ∃ x, v = some (vI x) ∧ M2 = M ∧ Q0 x) ⟨⟨o0, [vI x1], rfl, rfl, ho1, ho2⟩, hn.trans h3, o0, x1, rfl, (hn.trans h3) ▸ ho1, ho2, Q0, fun x hx => ⟨x, rfl, rfl, hx⟩, h⟩ ?_
  rintro _ _ ⟨x, rfl, rfl, hx⟩ hm
  exact k x hx
end W_X6_pushAt
theorem dX6_pushCutAt_0 : decode cX6_pushCutAt 0 = .ok (.aload_n 0, 1) := by decide +kernel
theorem dX6_pushCutAt_1 : decode cX6_pushCutAt 1 = .ok (.getfield 9, 3) := by decide +kernel
theorem dX6_pushCutAt_4 : decode cX6_pushCutAt 4 = .ok (.iconst 1, 1) := by decide +kernel
theorem dX6_pushCutAt_5 : decode cX6_pushCutAt 5 = .ok (.if_icmp .ge 7, 3) := by decide +kernel
theorem dX6_pushCutAt_8 : decode cX6_pushCutAt 8 = .ok (.iconst 0, 1) := by decide +kernel
theorem dX6_pushCutAt_9 : decode cX6_pushCutAt 9 = .ok (.goto 13, 3) := by decide +kernel
theorem dX6_pushCutAt_12 : decode cX6_pushCutAt 12 = .ok (.aload_n 0, 1) := by decide +kernel
theorem dX6_pushCutAt_13 : decode cX6_pushCutAt 13 = .ok (.iload_n 1, 1) := by decide +kernel
theorem dX6_pushCutAt_14 : decode cX6_pushCutAt 14 = .ok (.invokevirtual 108, 3) := by decide +kernel
theorem dX6_pushCutAt_17 : decode cX6_pushCutAt 17 = .ok (.aload_n 0, 1) := by decide +kernel
theorem dX6_pushCutAt_18 : decode cX6_pushCutAt 18 = .ok (.getfield 9, 3) := by decide +kernel
theorem dX6_pushCutAt_21 : decode cX6_pushCutAt 21 = .ok (.idiv, 1) := by decide +kernel
theorem dX6_pushCutAt_22 : decode cX6_pushCutAt 22 = .ok (.ireturn, 1) := by decide +kernel
theorem ck_X6_108 {l : Launch} {D : va_G} {cy : Nat → ClassId} {R : Room} (hR : 3 ≤ R.frames ∧ 64 ≤ R.locals) : CallOK l D cy R RX6 (.invokevirtual 108) 0 0 (spV 6 1 SP_X6_pushAt) := call_V (ci := 6) (con_X6_pushAt l D cy) (lwG_3 (i := 193) rfl rfl) (lwG_3 (i := 12) rfl rfl) (lwG_3 (i := 13) rfl rfl) (lwG_1 (i := 9) rfl rfl) (lwG_3 (i := 14) rfl rfl) (by decide) ⟨rfl, by decide, by decide, rfl⟩ ⟨rfl, rfl⟩ hR
section W_X6_pushCutAt
variable {p : Program} {l : Launch} {e : Env} {s : State} {m : MethodId} {args : Array Value} {below : List Frame} {meth : Method} {c : Code} {D : va_G} {cy : Nat → ClassId} {G : Nat × Nat} {n0 : Nat} {Qp : Option PV → Mm → Prop}
set_option maxRecDepth 100000 in
set_option maxHeartbeats 4000000 in
theorem k_X6_pushCutAt_0 {o0 : Nat} {x1 : Int} {M : Mm} {Q : Int → Prop} (C : Cx p s m args meth c cX6_pushCutAt 2 RX6 D cy G n0) (hr : meth.sig.returnType = some .int) (h3 : n0 = 243) (hn : M.2.2.2 = n0) (ho0 : o0 < 243 ∧ (SH o0).1 = 6) (hQ : ∀ x, Q x → Qp (some (vI x)) M) (h : P_X6_pushCutAt o0 x1 M Q ) : WW p l e ({ frames := 3, cells := 0, slots := 0, locals := 64 }) s m args below meth c (ZQ below args s D cy G n0 Qp n0) 2 D cy G n0 0 [(0, vR (some o0)), (1, vI x1)] [] M := by
  unfold P_X6_pushCutAt at h
  refine w_aload_n C dX6_pushCutAt_0 rfl (mem_k 0 rfl) ?_
  refine x_getI C dX6_pushCutAt_1 fw_X6_9 (isO.n (ci := 6) ⟨rfl, ho0⟩ (hn.trans h3)) ?_
  refine w_iconst C dX6_pushCutAt_4 ⟨by decide, by decide⟩ ?_
  refine w_icmp_ge (tgt := 12) C dX6_pushCutAt_5 (by decide) (fun q => ?_) (fun q => ?_)
  · replace h := h.1 q
    refine w_aload_n C dX6_pushCutAt_12 rfl (mem_k 0 rfl) ?_
    refine w_iload_n C dX6_pushCutAt_13 rfl (mem_k 1 rfl) ?_
    refine cl_X6_pushAt (ck_X6_108 ⟨by decide, by decide⟩) C dX6_pushCutAt_14 hn h3 (Nat.le_of_ble_eq_true rfl) (isO.n (ci := 6) ⟨rfl, ho0⟩ (hn.trans h3)) h (fun v1 h => ?_)
    refine w_aload_n C dX6_pushCutAt_17 rfl (mem_k 0 rfl) ?_
    refine x_getI C dX6_pushCutAt_18 fw_X6_9 (isO.n (ci := 6) ⟨rfl, ho0⟩ (hn.trans h3)) ?_
    refine x_idiv C dX6_pushCutAt_21 h.1 ?_
    replace h := h.2
    exact x_iret C hr dX6_pushCutAt_22 hn (hQ _ h)
  · replace h := h.2 q
    refine w_iconst C dX6_pushCutAt_8 ⟨by decide, by decide⟩ ?_
    refine w_goto (tgt := 22) C dX6_pushCutAt_9 (by decide) ?_
    exact x_iret C hr dX6_pushCutAt_22 hn (hQ _ h)
set_option maxRecDepth 100000 in
set_option maxHeartbeats 4000000 in
theorem con_X6_pushCutAt (l : Launch) (D : va_G) (cy : Nat → ClassId) : Con l D cy yX6_pushCutAt cX6_pushCutAt 2 (some .int) ({ frames := 3, cells := 0, slots := 0, locals := 64 }) 0 0 SP_X6_pushCutAt := by
  refine con_of (by decide) (fun as M Qp h => ?_) ?_
  · obtain ⟨-, o0, x1, rfl, -⟩ := h
    exact Nat.le_of_ble_eq_true rfl
  · intro p e s m args below meth c G as M Qp h C hr hnm
    obtain ⟨hn, o0, x1, rfl, ho1, ho2, Q0, hQ, h⟩ := h
    refine x_pick (L' := [(0, vR (some o0)), (1, vI x1)]) [0, 1] rfl ?_
    exact k_X6_pushCutAt_0 C hr hn rfl ⟨ho1, ho2⟩ hQ h
set_option maxRecDepth 100000 in
set_option maxHeartbeats 4000000 in
theorem cl_X6_pushCutAt {p : Program} {l : Launch} {e : Env} {R : Room} {s : State} {m : MethodId} {args : Array Value} {below : List Frame} {meth : Method} {c : Code} {Q : State → Prop} {cc : ByteArray} {nL : Nat} {own : String} {D : va_G} {cy : Nat → ClassId} {G : Nat × Nat} {n0 pc : Nat} {L : List (Nat × PV)} {st : List PV} {M : Mm} {op : Instr} (K : CallOK l D cy R own op 0 0 (spV 6 1 SP_X6_pushCutAt)) (C : Cx p s m args meth c cc nL own D cy G n0) (hd : decode cc pc = .ok (op, 3)) (hn : M.2.2.2 = n0) (h3 : n0 = 243) (hlen : argN st ≤ 8) {r : Option Nat} {o0 : Nat} (ho : isOn 6 M.2.2.2 r o0) {x1 : Int} {Q0 : Int → Prop} (h : P_X6_pushCutAt o0 x1 M Q0) (k : ∀ x, Q0 x → WW p l e R s m args below meth c Q nL D cy G n0  (pc + 3) L (vI x :: st) M) : WW p l e R s m args below meth c Q nL D cy G n0  pc L (vI x1 :: vR r :: st) M := by
  obtain ⟨rfl, ho1, ho2⟩ := ho
  refine x_call0 K C hd (as := [vR (some o0), vI x1]) rfl hn hlen (fun v M2 => ∃ x, v = some (vI x) ∧ M2 = M ∧ Q0 x) ⟨⟨o0, [vI x1], rfl, rfl, ho1, ho2⟩, hn.trans h3, o0, x1, rfl, (hn.trans h3) ▸ ho1, ho2, Q0, fun x hx => ⟨x, rfl, rfl, hx⟩, h⟩ ?_
  rintro _ _ ⟨x, rfl, rfl, hx⟩ hm
  exact k x hx
end W_X6_pushCutAt
theorem dX6_stateAt_0 : decode cX6_stateAt 0 = .ok (.aload_n 0, 1) := by decide +kernel
theorem dX6_stateAt_1 : decode cX6_stateAt 1 = .ok (.iload_n 1, 1) := by decide +kernel
theorem dX6_stateAt_2 : decode cX6_stateAt 2 = .ok (.invokevirtual 104, 3) := by decide +kernel
theorem dX6_stateAt_5 : decode cX6_stateAt 5 = .ok (.ifCond .eq 12, 3) := by decide +kernel
theorem dX6_stateAt_8 : decode cX6_stateAt 8 = .ok (.aload_n 0, 1) := by decide +kernel
theorem dX6_stateAt_9 : decode cX6_stateAt 9 = .ok (.getfield 22, 3) := by decide +kernel
theorem dX6_stateAt_12 : decode cX6_stateAt 12 = .ok (.iload_n 1, 1) := by decide +kernel
theorem dX6_stateAt_13 : decode cX6_stateAt 13 = .ok (.iaload, 1) := by decide +kernel
theorem dX6_stateAt_14 : decode cX6_stateAt 14 = .ok (.goto 4, 3) := by decide +kernel
theorem dX6_stateAt_17 : decode cX6_stateAt 17 = .ok (.iconst 0, 1) := by decide +kernel
theorem dX6_stateAt_18 : decode cX6_stateAt 18 = .ok (.ireturn, 1) := by decide +kernel
section W_X6_stateAt
variable {p : Program} {l : Launch} {e : Env} {s : State} {m : MethodId} {args : Array Value} {below : List Frame} {meth : Method} {c : Code} {D : va_G} {cy : Nat → ClassId} {G : Nat × Nat} {n0 : Nat} {Qp : Option PV → Mm → Prop}
set_option maxRecDepth 100000 in
set_option maxHeartbeats 4000000 in
theorem k_X6_stateAt_0 {o0 : Nat} {x1 : Int} {M : Mm} {Q : Int → Prop} (C : Cx p s m args meth c cX6_stateAt 2 RX6 D cy G n0) (hr : meth.sig.returnType = some .int) (h3 : n0 = 243) (hn : M.2.2.2 = n0) (ho0 : o0 < 243 ∧ (SH o0).1 = 6) (hQ : ∀ x, Q x → Qp (some (vI x)) M) (h : P_X6_stateAt o0 x1 M Q ) : WW p l e ({ frames := 2, cells := 0, slots := 0, locals := 43 }) s m args below meth c (ZQ below args s D cy G n0 Qp n0) 2 D cy G n0 0 [(0, vR (some o0)), (1, vI x1)] [] M := by
  unfold P_X6_stateAt at h
  refine w_aload_n C dX6_stateAt_0 rfl (mem_k 0 rfl) ?_
  refine w_iload_n C dX6_stateAt_1 rfl (mem_k 1 rfl) ?_
  refine cl_X6_isHere (ck_X6_104 ⟨by decide, by decide⟩) C dX6_stateAt_2 hn h3 (Nat.le_of_ble_eq_true rfl) (isO.n (ci := 6) ⟨rfl, ho0⟩ (hn.trans h3)) h (fun v1 h => ?_)
  refine w_if_eq (tgt := 17) C dX6_stateAt_5 (by decide) (fun q => ?_) (fun q => ?_)
  · replace h := h.1 q
    refine w_iconst C dX6_stateAt_17 ⟨by decide, by decide⟩ ?_
    exact x_iret C hr dX6_stateAt_18 hn (hQ _ h)
  · replace h := h.2 q
    refine w_aload_n C dX6_stateAt_8 rfl (mem_k 0 rfl) ?_
    refine x_getR C dX6_stateAt_9 fw_X6_22 (isO.n (ci := 6) ⟨rfl, ho0⟩ (hn.trans h3)) (fun r2 er2 => ?_)
    replace h := h r2 er2
    refine w_iload_n C dX6_stateAt_12 rfl (mem_k 1 rfl) ?_
    obtain ⟨o3, g4, h⟩ := h
    refine x_iald C dX6_stateAt_13 (isA.n g4 (hn.trans h3)) ?_
    refine w_goto (tgt := 18) C dX6_stateAt_14 (by decide) ?_
    exact x_iret C hr dX6_stateAt_18 hn (hQ _ h)
set_option maxRecDepth 100000 in
set_option maxHeartbeats 4000000 in
theorem con_X6_stateAt (l : Launch) (D : va_G) (cy : Nat → ClassId) : Con l D cy yX6_stateAt cX6_stateAt 2 (some .int) ({ frames := 2, cells := 0, slots := 0, locals := 43 }) 0 0 SP_X6_stateAt := by
  refine con_of (by decide) (fun as M Qp h => ?_) ?_
  · obtain ⟨-, o0, x1, rfl, -⟩ := h
    exact Nat.le_of_ble_eq_true rfl
  · intro p e s m args below meth c G as M Qp h C hr hnm
    obtain ⟨hn, o0, x1, rfl, ho1, ho2, Q0, hQ, h⟩ := h
    refine x_pick (L' := [(0, vR (some o0)), (1, vI x1)]) [0, 1] rfl ?_
    exact k_X6_stateAt_0 C hr hn rfl ⟨ho1, ho2⟩ hQ h
set_option maxRecDepth 100000 in
set_option maxHeartbeats 4000000 in
theorem cl_X6_stateAt {p : Program} {l : Launch} {e : Env} {R : Room} {s : State} {m : MethodId} {args : Array Value} {below : List Frame} {meth : Method} {c : Code} {Q : State → Prop} {cc : ByteArray} {nL : Nat} {own : String} {D : va_G} {cy : Nat → ClassId} {G : Nat × Nat} {n0 pc : Nat} {L : List (Nat × PV)} {st : List PV} {M : Mm} {op : Instr} (K : CallOK l D cy R own op 0 0 (spV 6 1 SP_X6_stateAt)) (C : Cx p s m args meth c cc nL own D cy G n0) (hd : decode cc pc = .ok (op, 3)) (hn : M.2.2.2 = n0) (h3 : n0 = 243) (hlen : argN st ≤ 8) {r : Option Nat} {o0 : Nat} (ho : isOn 6 M.2.2.2 r o0) {x1 : Int} {Q0 : Int → Prop} (h : P_X6_stateAt o0 x1 M Q0) (k : ∀ x, Q0 x → WW p l e R s m args below meth c Q nL D cy G n0  (pc + 3) L (vI x :: st) M) : WW p l e R s m args below meth c Q nL D cy G n0  pc L (vI x1 :: vR r :: st) M := by
  obtain ⟨rfl, ho1, ho2⟩ := ho
  refine x_call0 K C hd (as := [vR (some o0), vI x1]) rfl hn hlen (fun v M2 => ∃ x, v = some (vI x) ∧ M2 = M ∧ Q0 x) ⟨⟨o0, [vI x1], rfl, rfl, ho1, ho2⟩, hn.trans h3, o0, x1, rfl, (hn.trans h3) ▸ ho1, ho2, Q0, fun x hx => ⟨x, rfl, rfl, hx⟩, h⟩ ?_
  rintro _ _ ⟨x, rfl, rfl, hx⟩ hm
  exact k x hx
end W_X6_stateAt
theorem dX11_isTone_0 : decode cX11_isTone 0 = .ok (.iload_n 0, 1) := by decide +kernel
theorem dX11_isTone_1 : decode cX11_isTone 1 = .ok (.iconst 0, 1) := by decide +kernel
theorem dX11_isTone_2 : decode cX11_isTone 2 = .ok (.iconst 3, 1) := by decide +kernel
theorem dX11_isTone_3 : decode cX11_isTone 3 = .ok (.invokestatic 61, 3) := by decide +kernel
theorem dX11_isTone_6 : decode cX11_isTone 6 = .ok (.ireturn, 1) := by decide +kernel
theorem ck_X11_61 {l : Launch} {D : va_G} {cy : Nat → ClassId} {R : Room} (hR : 1 ≤ R.frames ∧ 22 ≤ R.locals) : CallOK l D cy R RX11 (.invokestatic 61) 0 0 (spS 3 SP_X11_isWithin) := call_S (con_X11_isWithin l D cy) (lwG_2 (i := 91) rfl rfl) (lwG_2 (i := 92) rfl rfl) (lwG_1 (i := 1) rfl rfl) (lwG_2 (i := 93) rfl rfl) ⟨by decide, by decide, rfl⟩ ⟨rfl, rfl⟩ hR
section W_X11_isTone
variable {p : Program} {l : Launch} {e : Env} {s : State} {m : MethodId} {args : Array Value} {below : List Frame} {meth : Method} {c : Code} {D : va_G} {cy : Nat → ClassId} {G : Nat × Nat} {n0 : Nat} {Qp : Option PV → Mm → Prop}
set_option maxRecDepth 100000 in
set_option maxHeartbeats 4000000 in
theorem k_X11_isTone_0 {x0 : Int} {M : Mm} {Q : Int → Prop} (C : Cx p s m args meth c cX11_isTone 1 RX11 D cy G n0) (hr : meth.sig.returnType = some .boolean) (h3 : n0 = 243) (hn : M.2.2.2 = n0) (hQ : ∀ x, Q x → Qp (some (vI x)) M) (h : P_X11_isTone x0 M Q ) : WW p l e ({ frames := 1, cells := 0, slots := 0, locals := 22 }) s m args below meth c (ZQ below args s D cy G n0 Qp n0) 1 D cy G n0 0 [(0, vI x0)] [] M := by
  unfold P_X11_isTone at h
  refine w_iload_n C dX11_isTone_0 rfl (mem_k 0 rfl) ?_
  refine w_iconst C dX11_isTone_1 ⟨by decide, by decide⟩ ?_
  refine w_iconst C dX11_isTone_2 ⟨by decide, by decide⟩ ?_
  refine cl_X11_isWithin (ck_X11_61 ⟨by decide, by decide⟩) C dX11_isTone_3 hn h3 (Nat.le_of_ble_eq_true rfl) h (fun v1 h => ?_)
  exact x_zret C hr dX11_isTone_6 hn h.1 (hQ _ h.2)
set_option maxRecDepth 100000 in
set_option maxHeartbeats 4000000 in
theorem con_X11_isTone (l : Launch) (D : va_G) (cy : Nat → ClassId) : Con l D cy yX11_isTone cX11_isTone 1 (some .boolean) ({ frames := 1, cells := 0, slots := 0, locals := 22 }) 0 0 SP_X11_isTone := by
  refine con_of (by decide) (fun as M Qp h => ?_) ?_
  · obtain ⟨-, x0, rfl, -⟩ := h
    exact Nat.le_of_ble_eq_true rfl
  · intro p e s m args below meth c G as M Qp h C hr hnm
    obtain ⟨hn, x0, rfl, Q0, hQ, h⟩ := h
    refine x_pick (L' := [(0, vI x0)]) [0] rfl ?_
    exact k_X11_isTone_0 C hr hn rfl hQ h
set_option maxRecDepth 100000 in
set_option maxHeartbeats 4000000 in
theorem cl_X11_isTone {p : Program} {l : Launch} {e : Env} {R : Room} {s : State} {m : MethodId} {args : Array Value} {below : List Frame} {meth : Method} {c : Code} {Q : State → Prop} {cc : ByteArray} {nL : Nat} {own : String} {D : va_G} {cy : Nat → ClassId} {G : Nat × Nat} {n0 pc : Nat} {L : List (Nat × PV)} {st : List PV} {M : Mm} {op : Instr} (K : CallOK l D cy R own op 0 0 (spS 1 SP_X11_isTone)) (C : Cx p s m args meth c cc nL own D cy G n0) (hd : decode cc pc = .ok (op, 3)) (hn : M.2.2.2 = n0) (h3 : n0 = 243) (hlen : argN st ≤ 8) {x0 : Int} {Q0 : Int → Prop} (h : P_X11_isTone x0 M Q0) (k : ∀ x, Q0 x → WW p l e R s m args below meth c Q nL D cy G n0  (pc + 3) L (vI x :: st) M) : WW p l e R s m args below meth c Q nL D cy G n0  pc L (vI x0 :: st) M := by
  refine x_call0 K C hd (as := [vI x0]) rfl hn hlen (fun v M2 => ∃ x, v = some (vI x) ∧ M2 = M ∧ Q0 x) ⟨rfl, hn.trans h3, x0, rfl, Q0, fun x hx => ⟨x, rfl, rfl, hx⟩, h⟩ ?_
  rintro _ _ ⟨x, rfl, rfl, hx⟩ hm
  exact k x hx
end W_X11_isTone
theorem dX6_letAt_0 : decode cX6_letAt 0 = .ok (.aload_n 0, 1) := by decide +kernel
theorem dX6_letAt_1 : decode cX6_letAt 1 = .ok (.iload_n 1, 1) := by decide +kernel
theorem dX6_letAt_2 : decode cX6_letAt 2 = .ok (.invokevirtual 104, 3) := by decide +kernel
theorem dX6_letAt_5 : decode cX6_letAt 5 = .ok (.ifCond .eq 23, 3) := by decide +kernel
theorem dX6_letAt_8 : decode cX6_letAt 8 = .ok (.iload_n 2, 1) := by decide +kernel
theorem dX6_letAt_9 : decode cX6_letAt 9 = .ok (.invokestatic 112, 3) := by decide +kernel
theorem dX6_letAt_12 : decode cX6_letAt 12 = .ok (.ifCond .eq 16, 3) := by decide +kernel
theorem dX6_letAt_15 : decode cX6_letAt 15 = .ok (.aload_n 0, 1) := by decide +kernel
theorem dX6_letAt_16 : decode cX6_letAt 16 = .ok (.getfield 28, 3) := by decide +kernel
theorem dX6_letAt_19 : decode cX6_letAt 19 = .ok (.iload_n 1, 1) := by decide +kernel
theorem dX6_letAt_20 : decode cX6_letAt 20 = .ok (.iconst 4, 1) := by decide +kernel
theorem dX6_letAt_21 : decode cX6_letAt 21 = .ok (.imul, 1) := by decide +kernel
theorem dX6_letAt_22 : decode cX6_letAt 22 = .ok (.iload_n 2, 1) := by decide +kernel
theorem dX6_letAt_23 : decode cX6_letAt 23 = .ok (.iadd, 1) := by decide +kernel
theorem dX6_letAt_24 : decode cX6_letAt 24 = .ok (.iaload, 1) := by decide +kernel
theorem dX6_letAt_25 : decode cX6_letAt 25 = .ok (.goto 4, 3) := by decide +kernel
theorem dX6_letAt_28 : decode cX6_letAt 28 = .ok (.iconst 0, 1) := by decide +kernel
theorem dX6_letAt_29 : decode cX6_letAt 29 = .ok (.ireturn, 1) := by decide +kernel
theorem ck_X6_112 {l : Launch} {D : va_G} {cy : Nat → ClassId} {R : Room} (hR : 2 ≤ R.frames ∧ 42 ≤ R.locals) : CallOK l D cy R RX6 (.invokestatic 112) 0 0 (spS 1 SP_X11_isTone) := call_SN (con_X11_isTone l D cy) (List.mem_append_right _ (List.mem_append_right _ (List.mem_append_right _ (List.mem_append_left _ (List.mem_of_getElem? (i := 198) rfl))))) (lwG_3 (i := 165) rfl rfl) (lwG_1 (i := 1) rfl rfl) (lwG_3 (i := 166) rfl rfl) ⟨by decide, by decide, rfl⟩ ⟨rfl, rfl⟩ hR
section W_X6_letAt
variable {p : Program} {l : Launch} {e : Env} {s : State} {m : MethodId} {args : Array Value} {below : List Frame} {meth : Method} {c : Code} {D : va_G} {cy : Nat → ClassId} {G : Nat × Nat} {n0 : Nat} {Qp : Option PV → Mm → Prop}
set_option maxRecDepth 100000 in
set_option maxHeartbeats 4000000 in
theorem k_X6_letAt_0 {o0 : Nat} {x1 : Int} {x2 : Int} {M : Mm} {Q : Int → Prop} (C : Cx p s m args meth c cX6_letAt 3 RX6 D cy G n0) (hr : meth.sig.returnType = some .int) (h3 : n0 = 243) (hn : M.2.2.2 = n0) (ho0 : o0 < 243 ∧ (SH o0).1 = 6) (hQ : ∀ x, Q x → Qp (some (vI x)) M) (h : P_X6_letAt o0 x1 x2 M Q ) : WW p l e ({ frames := 2, cells := 0, slots := 0, locals := 43 }) s m args below meth c (ZQ below args s D cy G n0 Qp n0) 3 D cy G n0 0 [(0, vR (some o0)), (1, vI x1), (2, vI x2)] [] M := by
  unfold P_X6_letAt at h
  refine w_aload_n C dX6_letAt_0 rfl (mem_k 0 rfl) ?_
  refine w_iload_n C dX6_letAt_1 rfl (mem_k 1 rfl) ?_
  refine cl_X6_isHere (ck_X6_104 ⟨by decide, by decide⟩) C dX6_letAt_2 hn h3 (Nat.le_of_ble_eq_true rfl) (isO.n (ci := 6) ⟨rfl, ho0⟩ (hn.trans h3)) h (fun v1 h => ?_)
  refine w_if_eq (tgt := 28) C dX6_letAt_5 (by decide) (fun q => ?_) (fun q => ?_)
  · replace h := h.1 q
    refine w_iconst C dX6_letAt_28 ⟨by decide, by decide⟩ ?_
    exact x_iret C hr dX6_letAt_29 hn (hQ _ h)
  · replace h := h.2 q
    refine w_iload_n C dX6_letAt_8 rfl (mem_k 2 rfl) ?_
    refine cl_X11_isTone (ck_X6_112 ⟨by decide, by decide⟩) C dX6_letAt_9 hn h3 (Nat.le_of_ble_eq_true rfl) h (fun v2 h => ?_)
    refine w_if_eq (tgt := 28) C dX6_letAt_12 (by decide) (fun q => ?_) (fun q => ?_)
    · replace h := h.1 q
      refine w_iconst C dX6_letAt_28 ⟨by decide, by decide⟩ ?_
      exact x_iret C hr dX6_letAt_29 hn (hQ _ h)
    · replace h := h.2 q
      refine w_aload_n C dX6_letAt_15 rfl (mem_k 0 rfl) ?_
      refine x_getR C dX6_letAt_16 fw_X6_28 (isO.n (ci := 6) ⟨rfl, ho0⟩ (hn.trans h3)) (fun r3 er3 => ?_)
      replace h := h r3 er3
      refine w_iload_n C dX6_letAt_19 rfl (mem_k 1 rfl) ?_
      refine w_iconst C dX6_letAt_20 ⟨by decide, by decide⟩ ?_
      refine w_imul C dX6_letAt_21 h.1 ?_
      replace h := h.2
      refine w_iload_n C dX6_letAt_22 rfl (mem_k 2 rfl) ?_
      refine w_iadd C dX6_letAt_23 h.1 ?_
      replace h := h.2
      obtain ⟨o4, g5, h⟩ := h
      refine x_iald C dX6_letAt_24 (isA.n g5 (hn.trans h3)) ?_
      refine w_goto (tgt := 29) C dX6_letAt_25 (by decide) ?_
      exact x_iret C hr dX6_letAt_29 hn (hQ _ h)
set_option maxRecDepth 100000 in
set_option maxHeartbeats 4000000 in
theorem con_X6_letAt (l : Launch) (D : va_G) (cy : Nat → ClassId) : Con l D cy yX6_letAt cX6_letAt 3 (some .int) ({ frames := 2, cells := 0, slots := 0, locals := 43 }) 0 0 SP_X6_letAt := by
  refine con_of (by decide) (fun as M Qp h => ?_) ?_
  · obtain ⟨-, o0, x1, x2, rfl, -⟩ := h
    exact Nat.le_of_ble_eq_true rfl
  · intro p e s m args below meth c G as M Qp h C hr hnm
    obtain ⟨hn, o0, x1, x2, rfl, ho1, ho2, Q0, hQ, h⟩ := h
    refine x_pick (L' := [(0, vR (some o0)), (1, vI x1), (2, vI x2)]) [0, 1, 2] rfl ?_
    exact k_X6_letAt_0 C hr hn rfl ⟨ho1, ho2⟩ hQ h
set_option maxRecDepth 100000 in
set_option maxHeartbeats 4000000 in
theorem cl_X6_letAt {p : Program} {l : Launch} {e : Env} {R : Room} {s : State} {m : MethodId} {args : Array Value} {below : List Frame} {meth : Method} {c : Code} {Q : State → Prop} {cc : ByteArray} {nL : Nat} {own : String} {D : va_G} {cy : Nat → ClassId} {G : Nat × Nat} {n0 pc : Nat} {L : List (Nat × PV)} {st : List PV} {M : Mm} {op : Instr} (K : CallOK l D cy R own op 0 0 (spV 6 2 SP_X6_letAt)) (C : Cx p s m args meth c cc nL own D cy G n0) (hd : decode cc pc = .ok (op, 3)) (hn : M.2.2.2 = n0) (h3 : n0 = 243) (hlen : argN st ≤ 8) {r : Option Nat} {o0 : Nat} (ho : isOn 6 M.2.2.2 r o0) {x1 : Int} {x2 : Int} {Q0 : Int → Prop} (h : P_X6_letAt o0 x1 x2 M Q0) (k : ∀ x, Q0 x → WW p l e R s m args below meth c Q nL D cy G n0  (pc + 3) L (vI x :: st) M) : WW p l e R s m args below meth c Q nL D cy G n0  pc L (vI x2 :: vI x1 :: vR r :: st) M := by
  obtain ⟨rfl, ho1, ho2⟩ := ho
  refine x_call0 K C hd (as := [vR (some o0), vI x1, vI x2]) rfl hn hlen (fun v M2 => ∃ x, v = some (vI x) ∧ M2 = M ∧ Q0 x) ⟨⟨o0, [vI x1, vI x2], rfl, rfl, ho1, ho2⟩, hn.trans h3, o0, x1, x2, rfl, (hn.trans h3) ▸ ho1, ho2, Q0, fun x hx => ⟨x, rfl, rfl, hx⟩, h⟩ ?_
  rintro _ _ ⟨x, rfl, rfl, hx⟩ hm
  exact k x hx
end W_X6_letAt
theorem dX6_wearOneYear_0 : decode cX6_wearOneYear 0 = .ok (.iconst 0, 1) := by decide +kernel
theorem dX6_wearOneYear_1 : decode cX6_wearOneYear 1 = .ok (.istore_n 2, 1) := by decide +kernel
theorem dX6_wearOneYear_2 : decode cX6_wearOneYear 2 = .ok (.iload_n 2, 1) := by decide +kernel
theorem dX6_wearOneYear_3 : decode cX6_wearOneYear 3 = .ok (.aload_n 0, 1) := by decide +kernel
theorem dX6_wearOneYear_4 : decode cX6_wearOneYear 4 = .ok (.getfield 49, 3) := by decide +kernel
theorem dX6_wearOneYear_7 : decode cX6_wearOneYear 7 = .ok (.if_icmp .ge 37, 3) := by decide +kernel
theorem dX6_wearOneYear_10 : decode cX6_wearOneYear 10 = .ok (.aload_n 0, 1) := by decide +kernel
theorem dX6_wearOneYear_11 : decode cX6_wearOneYear 11 = .ok (.getfield 15, 3) := by decide +kernel
theorem dX6_wearOneYear_14 : decode cX6_wearOneYear 14 = .ok (.iload_n 2, 1) := by decide +kernel
theorem dX6_wearOneYear_15 : decode cX6_wearOneYear 15 = .ok (.bipush 100, 2) := by decide +kernel
theorem dX6_wearOneYear_17 : decode cX6_wearOneYear 17 = .ok (.aload_n 0, 1) := by decide +kernel
theorem dX6_wearOneYear_18 : decode cX6_wearOneYear 18 = .ok (.getfield 15, 3) := by decide +kernel
theorem dX6_wearOneYear_21 : decode cX6_wearOneYear 21 = .ok (.iload_n 2, 1) := by decide +kernel
theorem dX6_wearOneYear_22 : decode cX6_wearOneYear 22 = .ok (.iaload, 1) := by decide +kernel
theorem dX6_wearOneYear_23 : decode cX6_wearOneYear 23 = .ok (.aload_n 0, 1) := by decide +kernel
theorem dX6_wearOneYear_24 : decode cX6_wearOneYear 24 = .ok (.iload_n 2, 1) := by decide +kernel
theorem dX6_wearOneYear_25 : decode cX6_wearOneYear 25 = .ok (.invokevirtual 115, 3) := by decide +kernel
theorem dX6_wearOneYear_28 : decode cX6_wearOneYear 28 = .ok (.iload_n 1, 1) := by decide +kernel
theorem dX6_wearOneYear_29 : decode cX6_wearOneYear 29 = .ok (.imul, 1) := by decide +kernel
theorem dX6_wearOneYear_30 : decode cX6_wearOneYear 30 = .ok (.ldc 118, 2) := by decide +kernel
theorem dX6_wearOneYear_32 : decode cX6_wearOneYear 32 = .ok (.idiv, 1) := by decide +kernel
theorem dX6_wearOneYear_33 : decode cX6_wearOneYear 33 = .ok (.iadd, 1) := by decide +kernel
theorem dX6_wearOneYear_34 : decode cX6_wearOneYear 34 = .ok (.invokestatic 119, 3) := by decide +kernel
theorem dX6_wearOneYear_37 : decode cX6_wearOneYear 37 = .ok (.iastore, 1) := by decide +kernel
theorem dX6_wearOneYear_38 : decode cX6_wearOneYear 38 = .ok (.iinc 2 1, 3) := by decide +kernel
theorem dX6_wearOneYear_41 : decode cX6_wearOneYear 41 = .ok (.goto (-39), 3) := by decide +kernel
theorem dX6_wearOneYear_44 : decode cX6_wearOneYear 44 = .ok (.return_, 1) := by decide +kernel
theorem ck_X6_115 {l : Launch} {D : va_G} {cy : Nat → ClassId} {R : Room} (hR : 4 ≤ R.frames ∧ 85 ≤ R.locals) : CallOK l D cy R RX6 (.invokevirtual 115) 0 0 (spV 6 1 SP_X6_pushCutAt) := call_V (ci := 6) (con_X6_pushCutAt l D cy) (lwG_3 (i := 221) rfl rfl) (lwG_3 (i := 190) rfl rfl) (lwG_3 (i := 191) rfl rfl) (lwG_1 (i := 9) rfl rfl) (lwG_3 (i := 192) rfl rfl) (by decide) ⟨rfl, by decide, by decide, rfl⟩ ⟨rfl, rfl⟩ hR
theorem cn_X6_118 : Cond.constant RX6 118 (Int32.ofInt 1000000) ∈ lwG := lwG_3 (i := 222) rfl rfl
theorem mt_X6_119 : mtOK RX6 119 Lib.Math.min.name := lwG_3 (i := 223) rfl rfl
section W_X6_wearOneYear
variable {p : Program} {l : Launch} {e : Env} {s : State} {m : MethodId} {args : Array Value} {below : List Frame} {meth : Method} {c : Code} {D : va_G} {cy : Nat → ClassId} {G : Nat × Nat} {n0 : Nat} {Qp : Option PV → Mm → Prop}
set_option maxRecDepth 100000 in
set_option maxHeartbeats 4000000 in
theorem f_X6_wearOneYear_2 {o0 : Nat} {x1 : Int} {x2 : Int} {M : Mm} {Q : Mm → Prop} {K2 : Int × Mm → Prop} (C : Cx p s m args meth c cX6_wearOneYear 3 RX6 D cy G n0) (hr : meth.sig.returnType = none) (h3 : n0 = 243) (hn : M.2.2.2 = n0) (ho0 : o0 < 243 ∧ (SH o0).1 = 6) (hQ : ∀ M, Q M → Qp none M) (hK2 : ∀ (x2 : Int) (M : Mm), K2 (x2, M) → M.2.2.2 = n0 → WW p l e ({ frames := 4, cells := 0, slots := 0, locals := 85 }) s m args below meth c (ZQ below args s D cy G n0 Qp n0) 3 D cy G n0 2 [(0, vR (some o0)), (1, vI x1), (2, vI x2)] [] M) (h : F_X6_wearOneYear_2 o0 x1 Q  K2 x2 M) : WW p l e ({ frames := 4, cells := 0, slots := 0, locals := 85 }) s m args below meth c (ZQ below args s D cy G n0 Qp n0) 3 D cy G n0 2 [(0, vR (some o0)), (1, vI x1), (2, vI x2)] [] M := by
  unfold F_X6_wearOneYear_2 at h
  refine w_iload_n C dX6_wearOneYear_2 rfl (mem_k 2 rfl) ?_
  refine w_aload_n C dX6_wearOneYear_3 rfl (mem_k 0 rfl) ?_
  refine x_getI C dX6_wearOneYear_4 fw_X6_49 (isO.n (ci := 6) ⟨rfl, ho0⟩ (hn.trans h3)) ?_
  refine w_icmp_ge (tgt := 44) C dX6_wearOneYear_7 (by decide) (fun q => ?_) (fun q => ?_)
  · replace h := h.1 q
    exact x_vret C hr dX6_wearOneYear_44 hn (hQ M h)
  · replace h := h.2 q
    refine w_aload_n C dX6_wearOneYear_10 rfl (mem_k 0 rfl) ?_
    refine x_getR C dX6_wearOneYear_11 fw_X6_15 (isO.n (ci := 6) ⟨rfl, ho0⟩ (hn.trans h3)) (fun r1 er1 => ?_)
    replace h := h r1 er1
    refine w_iload_n C dX6_wearOneYear_14 rfl (mem_k 2 rfl) ?_
    refine w_bipush C dX6_wearOneYear_15 (by decide) ?_
    refine w_aload_n C dX6_wearOneYear_17 rfl (mem_k 0 rfl) ?_
    refine x_getR C dX6_wearOneYear_18 fw_X6_15 (isO.n (ci := 6) ⟨rfl, ho0⟩ (hn.trans h3)) (fun r2 er2 => ?_)
    replace h := h r2 er2
    refine w_iload_n C dX6_wearOneYear_21 rfl (mem_k 2 rfl) ?_
    obtain ⟨o3, g4, h⟩ := h
    refine x_iald C dX6_wearOneYear_22 (isA.n g4 (hn.trans h3)) ?_
    refine w_aload_n C dX6_wearOneYear_23 rfl (mem_k 0 rfl) ?_
    refine w_iload_n C dX6_wearOneYear_24 rfl (mem_k 2 rfl) ?_
    refine cl_X6_pushCutAt (ck_X6_115 ⟨by decide, by decide⟩) C dX6_wearOneYear_25 hn h3 (Nat.le_of_ble_eq_true rfl) (isO.n (ci := 6) ⟨rfl, ho0⟩ (hn.trans h3)) h (fun v5 h => ?_)
    refine w_iload_n C dX6_wearOneYear_28 rfl (mem_k 1 rfl) ?_
    refine w_imul C dX6_wearOneYear_29 h.1 ?_
    replace h := h.2
    refine w_ldc (x := 1000000) C dX6_wearOneYear_30 cn_X6_118 ⟨by decide, by decide⟩ ?_
    refine x_idiv C dX6_wearOneYear_32 (by decide) ?_
    refine w_iadd C dX6_wearOneYear_33 h.1 ?_
    replace h := h.2
    refine x_min C dX6_wearOneYear_34 hn mt_X6_119 (Nat.le_of_ble_eq_true rfl) ⟨by decide, by decide⟩ ?_
    obtain ⟨o6, g7, h⟩ := h
    refine x_iast C dX6_wearOneYear_37 (isA.n g7 (hn.trans h3)) (fun M8 eM8 hn9 => ?_)
    replace h := h M8 eM8
    replace hn9 := hn9.trans hn
    obtain ⟨v10, ev10⟩ : ∃ z : Int, z = x2 + 1 := ⟨_, rfl⟩
    refine x_iinc (L' := [(2, vI v10), (0, vR (some o0)), (1, vI x1)]) C dX6_wearOneYear_38 (mem_k 2 rfl) (by decide) h.1 ev10 rfl ?_
    replace h := h.2 v10 ev10
    refine w_goto (tgt := 2) C dX6_wearOneYear_41 (by decide) ?_
    refine x_pc (pc2 := 2) rfl ?_
    refine x_pick (L' := [(0, vR (some o0)), (1, vI x1), (2, vI v10)]) [1, 2, 0] rfl ?_
    exact hK2 v10 M8 h hn9
set_option maxRecDepth 100000 in
set_option maxHeartbeats 4000000 in
theorem k_X6_wearOneYear_2 {o0 : Nat} {x1 : Int} {x2 : Int} {M : Mm} {Q : Mm → Prop} (C : Cx p s m args meth c cX6_wearOneYear 3 RX6 D cy G n0) (hr : meth.sig.returnType = none) (h3 : n0 = 243) (hn : M.2.2.2 = n0) (ho0 : o0 < 243 ∧ (SH o0).1 = 6) (hQ : ∀ M, Q M → Qp none M) (h : P_X6_wearOneYear_2 o0 x1 x2 M Q ) : WW p l e ({ frames := 4, cells := 0, slots := 0, locals := 85 }) s m args below meth c (ZQ below args s D cy G n0 Qp n0) 3 D cy G n0 2 [(0, vR (some o0)), (1, vI x1), (2, vI x2)] [] M := by
  refine lpW_sound (P := fun y : Int × Mm => y.2.2.2.2 = n0 → WW p l e ({ frames := 4, cells := 0, slots := 0, locals := 85 }) s m args below meth c (ZQ below args s D cy G n0 Qp n0) 3 D cy G n0 2 [(0, vR (some o0)), (1, vI x1), (2, vI y.1)] [] y.2) ?_ h hn
  intro K y hK hF
  obtain ⟨x2, M⟩ := y
  intro hn
  exact f_X6_wearOneYear_2 C hr h3 hn ho0 hQ  (fun x2 M hk => hK (x2, M) hk) hF
set_option maxRecDepth 100000 in
set_option maxHeartbeats 4000000 in
theorem k_X6_wearOneYear_0 {o0 : Nat} {x1 : Int} {M : Mm} {Q : Mm → Prop} (C : Cx p s m args meth c cX6_wearOneYear 3 RX6 D cy G n0) (hr : meth.sig.returnType = none) (h3 : n0 = 243) (hn : M.2.2.2 = n0) (ho0 : o0 < 243 ∧ (SH o0).1 = 6) (hQ : ∀ M, Q M → Qp none M) (h : P_X6_wearOneYear o0 x1 M Q ) : WW p l e ({ frames := 4, cells := 0, slots := 0, locals := 85 }) s m args below meth c (ZQ below args s D cy G n0 Qp n0) 3 D cy G n0 0 [(0, vR (some o0)), (1, vI x1)] [] M := by
  unfold P_X6_wearOneYear at h
  refine w_iconst C dX6_wearOneYear_0 ⟨by decide, by decide⟩ ?_
  refine x_istore_n (L' := [(2, vI 0), (0, vR (some o0)), (1, vI x1)]) C dX6_wearOneYear_1 rfl (by decide) rfl ?_
  refine x_pc (pc2 := 2) rfl ?_
  refine x_pick (L' := [(0, vR (some o0)), (1, vI x1), (2, vI 0)]) [1, 2, 0] rfl ?_
  exact k_X6_wearOneYear_2 C hr h3 hn ho0 hQ  h
set_option maxRecDepth 100000 in
set_option maxHeartbeats 4000000 in
theorem con_X6_wearOneYear (l : Launch) (D : va_G) (cy : Nat → ClassId) : Con l D cy yX6_wearOneYear cX6_wearOneYear 3 (none) ({ frames := 4, cells := 0, slots := 0, locals := 85 }) 0 0 SP_X6_wearOneYear := by
  refine con_of (by decide) (fun as M Qp h => ?_) ?_
  · obtain ⟨-, o0, x1, rfl, -⟩ := h
    exact Nat.le_of_ble_eq_true rfl
  · intro p e s m args below meth c G as M Qp h C hr hnm
    obtain ⟨hn, o0, x1, rfl, ho1, ho2, Q0, hQ, h⟩ := h
    refine x_pick (L' := [(0, vR (some o0)), (1, vI x1)]) [0, 1] rfl ?_
    exact k_X6_wearOneYear_0 C hr hn rfl ⟨ho1, ho2⟩ hQ h
set_option maxRecDepth 100000 in
set_option maxHeartbeats 4000000 in
theorem cl_X6_wearOneYear {p : Program} {l : Launch} {e : Env} {R : Room} {s : State} {m : MethodId} {args : Array Value} {below : List Frame} {meth : Method} {c : Code} {Q : State → Prop} {cc : ByteArray} {nL : Nat} {own : String} {D : va_G} {cy : Nat → ClassId} {G : Nat × Nat} {n0 pc : Nat} {L : List (Nat × PV)} {st : List PV} {M : Mm} {op : Instr} (K : CallOK l D cy R own op 0 0 (spV 6 1 SP_X6_wearOneYear)) (C : Cx p s m args meth c cc nL own D cy G n0) (hd : decode cc pc = .ok (op, 3)) (hn : M.2.2.2 = n0) (h3 : n0 = 243) (hlen : argN st ≤ 8) {r : Option Nat} {o0 : Nat} (ho : isOn 6 M.2.2.2 r o0) {x1 : Int} {Q0 : Mm → Prop} (h : P_X6_wearOneYear o0 x1 M Q0) (k : ∀ M2, Q0 M2 → M2.2.2.2 = n0 → WW p l e R s m args below meth c Q nL D cy G n0  (pc + 3) L (st) M2) : WW p l e R s m args below meth c Q nL D cy G n0  pc L (vI x1 :: vR r :: st) M := by
  obtain ⟨rfl, ho1, ho2⟩ := ho
  refine x_call0 K C hd (as := [vR (some o0), vI x1]) rfl hn hlen (fun v M2 => v = none ∧ Q0 M2) ⟨⟨o0, [vI x1], rfl, rfl, ho1, ho2⟩, hn.trans h3, o0, x1, rfl, (hn.trans h3) ▸ ho1, ho2, Q0, fun M2 hx => ⟨rfl, hx⟩, h⟩ ?_
  rintro _ _ ⟨rfl, hx⟩ hm
  exact k _ hx hm
end W_X6_wearOneYear
theorem dX6_mostWorn_0 : decode cX6_mostWorn 0 = .ok (.iconst 0, 1) := by decide +kernel
theorem dX6_mostWorn_1 : decode cX6_mostWorn 1 = .ok (.istore_n 1, 1) := by decide +kernel
theorem dX6_mostWorn_2 : decode cX6_mostWorn 2 = .ok (.iconst 0, 1) := by decide +kernel
theorem dX6_mostWorn_3 : decode cX6_mostWorn 3 = .ok (.istore_n 2, 1) := by decide +kernel
theorem dX6_mostWorn_4 : decode cX6_mostWorn 4 = .ok (.iload_n 2, 1) := by decide +kernel
theorem dX6_mostWorn_5 : decode cX6_mostWorn 5 = .ok (.aload_n 0, 1) := by decide +kernel
theorem dX6_mostWorn_6 : decode cX6_mostWorn 6 = .ok (.getfield 49, 3) := by decide +kernel
theorem dX6_mostWorn_9 : decode cX6_mostWorn 9 = .ok (.if_icmp .ge 20, 3) := by decide +kernel
theorem dX6_mostWorn_12 : decode cX6_mostWorn 12 = .ok (.iload_n 1, 1) := by decide +kernel
theorem dX6_mostWorn_13 : decode cX6_mostWorn 13 = .ok (.aload_n 0, 1) := by decide +kernel
theorem dX6_mostWorn_14 : decode cX6_mostWorn 14 = .ok (.getfield 15, 3) := by decide +kernel
theorem dX6_mostWorn_17 : decode cX6_mostWorn 17 = .ok (.iload_n 2, 1) := by decide +kernel
theorem dX6_mostWorn_18 : decode cX6_mostWorn 18 = .ok (.iaload, 1) := by decide +kernel
theorem dX6_mostWorn_19 : decode cX6_mostWorn 19 = .ok (.invokestatic 86, 3) := by decide +kernel
theorem dX6_mostWorn_22 : decode cX6_mostWorn 22 = .ok (.istore_n 1, 1) := by decide +kernel
theorem dX6_mostWorn_23 : decode cX6_mostWorn 23 = .ok (.iinc 2 1, 3) := by decide +kernel
theorem dX6_mostWorn_26 : decode cX6_mostWorn 26 = .ok (.goto (-22), 3) := by decide +kernel
theorem dX6_mostWorn_29 : decode cX6_mostWorn 29 = .ok (.iload_n 1, 1) := by decide +kernel
theorem dX6_mostWorn_30 : decode cX6_mostWorn 30 = .ok (.ireturn, 1) := by decide +kernel
section W_X6_mostWorn
variable {p : Program} {l : Launch} {e : Env} {s : State} {m : MethodId} {args : Array Value} {below : List Frame} {meth : Method} {c : Code} {D : va_G} {cy : Nat → ClassId} {G : Nat × Nat} {n0 : Nat} {Qp : Option PV → Mm → Prop}
set_option maxRecDepth 100000 in
set_option maxHeartbeats 4000000 in
theorem f_X6_mostWorn_4 {o0 : Nat} {x1 : Int} {x2 : Int} {M : Mm} {Q : Int → Prop} {K4 : Int × Int → Prop} (C : Cx p s m args meth c cX6_mostWorn 3 RX6 D cy G n0) (hr : meth.sig.returnType = some .int) (h3 : n0 = 243) (hn : M.2.2.2 = n0) (ho0 : o0 < 243 ∧ (SH o0).1 = 6) (hQ : ∀ x, Q x → Qp (some (vI x)) M) (hK4 : ∀ (x1 : Int) (x2 : Int), K4 (x1, x2) → WW p l e ({ frames := 1, cells := 0, slots := 0, locals := 21 }) s m args below meth c (ZQ below args s D cy G n0 Qp n0) 3 D cy G n0 4 [(0, vR (some o0)), (1, vI x1), (2, vI x2)] [] M) (h : F_X6_mostWorn_4 o0 M Q  K4 x1 x2) : WW p l e ({ frames := 1, cells := 0, slots := 0, locals := 21 }) s m args below meth c (ZQ below args s D cy G n0 Qp n0) 3 D cy G n0 4 [(0, vR (some o0)), (1, vI x1), (2, vI x2)] [] M := by
  unfold F_X6_mostWorn_4 at h
  refine w_iload_n C dX6_mostWorn_4 rfl (mem_k 2 rfl) ?_
  refine w_aload_n C dX6_mostWorn_5 rfl (mem_k 0 rfl) ?_
  refine x_getI C dX6_mostWorn_6 fw_X6_49 (isO.n (ci := 6) ⟨rfl, ho0⟩ (hn.trans h3)) ?_
  refine w_icmp_ge (tgt := 29) C dX6_mostWorn_9 (by decide) (fun q => ?_) (fun q => ?_)
  · replace h := h.1 q
    refine w_iload_n C dX6_mostWorn_29 rfl (mem_k 1 rfl) ?_
    exact x_iret C hr dX6_mostWorn_30 hn (hQ _ h)
  · replace h := h.2 q
    refine w_iload_n C dX6_mostWorn_12 rfl (mem_k 1 rfl) ?_
    refine w_aload_n C dX6_mostWorn_13 rfl (mem_k 0 rfl) ?_
    refine x_getR C dX6_mostWorn_14 fw_X6_15 (isO.n (ci := 6) ⟨rfl, ho0⟩ (hn.trans h3)) (fun r1 er1 => ?_)
    replace h := h r1 er1
    refine w_iload_n C dX6_mostWorn_17 rfl (mem_k 2 rfl) ?_
    obtain ⟨o2, g3, h⟩ := h
    refine x_iald C dX6_mostWorn_18 (isA.n g3 (hn.trans h3)) ?_
    refine x_max C dX6_mostWorn_19 hn mt_X6_86 (Nat.le_of_ble_eq_true rfl) ⟨by decide, by decide⟩ ?_
    refine x_nmI (fun v4 ev4 => ?_)
    replace h := h v4 ev4
    refine x_istore_n (L' := [(1, vI v4), (0, vR (some o0)), (2, vI x2)]) C dX6_mostWorn_22 rfl (by decide) rfl ?_
    obtain ⟨v5, ev5⟩ : ∃ z : Int, z = x2 + 1 := ⟨_, rfl⟩
    refine x_iinc (L' := [(2, vI v5), (1, vI v4), (0, vR (some o0))]) C dX6_mostWorn_23 (mem_k 2 rfl) (by decide) h.1 ev5 rfl ?_
    replace h := h.2 v5 ev5
    refine w_goto (tgt := 4) C dX6_mostWorn_26 (by decide) ?_
    refine x_pc (pc2 := 4) rfl ?_
    refine x_pick (L' := [(0, vR (some o0)), (1, vI v4), (2, vI v5)]) [2, 1, 0] rfl ?_
    exact hK4 v4 v5 h
set_option maxRecDepth 100000 in
set_option maxHeartbeats 4000000 in
theorem k_X6_mostWorn_4 {o0 : Nat} {x1 : Int} {x2 : Int} {M : Mm} {Q : Int → Prop} (C : Cx p s m args meth c cX6_mostWorn 3 RX6 D cy G n0) (hr : meth.sig.returnType = some .int) (h3 : n0 = 243) (hn : M.2.2.2 = n0) (ho0 : o0 < 243 ∧ (SH o0).1 = 6) (hQ : ∀ x, Q x → Qp (some (vI x)) M) (h : P_X6_mostWorn_4 o0 x1 x2 M Q ) : WW p l e ({ frames := 1, cells := 0, slots := 0, locals := 21 }) s m args below meth c (ZQ below args s D cy G n0 Qp n0) 3 D cy G n0 4 [(0, vR (some o0)), (1, vI x1), (2, vI x2)] [] M := by
  refine lpW_sound (P := fun y : Int × Int => WW p l e ({ frames := 1, cells := 0, slots := 0, locals := 21 }) s m args below meth c (ZQ below args s D cy G n0 Qp n0) 3 D cy G n0 4 [(0, vR (some o0)), (1, vI y.1), (2, vI y.2)] [] M) ?_ h
  intro K y hK hF
  obtain ⟨x1, x2⟩ := y
  exact f_X6_mostWorn_4 C hr h3 hn ho0 hQ  (fun x1 x2 hk => hK (x1, x2) hk) hF
set_option maxRecDepth 100000 in
set_option maxHeartbeats 4000000 in
theorem k_X6_mostWorn_0 {o0 : Nat} {M : Mm} {Q : Int → Prop} (C : Cx p s m args meth c cX6_mostWorn 3 RX6 D cy G n0) (hr : meth.sig.returnType = some .int) (h3 : n0 = 243) (hn : M.2.2.2 = n0) (ho0 : o0 < 243 ∧ (SH o0).1 = 6) (hQ : ∀ x, Q x → Qp (some (vI x)) M) (h : P_X6_mostWorn o0 M Q ) : WW p l e ({ frames := 1, cells := 0, slots := 0, locals := 21 }) s m args below meth c (ZQ below args s D cy G n0 Qp n0) 3 D cy G n0 0 [(0, vR (some o0))] [] M := by
  unfold P_X6_mostWorn at h
  refine w_iconst C dX6_mostWorn_0 ⟨by decide, by decide⟩ ?_
  refine x_istore_n (L' := [(1, vI 0), (0, vR (some o0))]) C dX6_mostWorn_1 rfl (by decide) rfl ?_
  refine w_iconst C dX6_mostWorn_2 ⟨by decide, by decide⟩ ?_
  refine x_istore_n (L' := [(2, vI 0), (1, vI 0), (0, vR (some o0))]) C dX6_mostWorn_3 rfl (by decide) rfl ?_
  refine x_pc (pc2 := 4) rfl ?_
  refine x_pick (L' := [(0, vR (some o0)), (1, vI 0), (2, vI 0)]) [2, 1, 0] rfl ?_
  exact k_X6_mostWorn_4 C hr h3 hn ho0 hQ  h
set_option maxRecDepth 100000 in
set_option maxHeartbeats 4000000 in
theorem con_X6_mostWorn (l : Launch) (D : va_G) (cy : Nat → ClassId) : Con l D cy yX6_mostWorn cX6_mostWorn 3 (some .int) ({ frames := 1, cells := 0, slots := 0, locals := 21 }) 0 0 SP_X6_mostWorn := by
  refine con_of (by decide) (fun as M Qp h => ?_) ?_
  · obtain ⟨-, o0, rfl, -⟩ := h
    exact Nat.le_of_ble_eq_true rfl
  · intro p e s m args below meth c G as M Qp h C hr hnm
    obtain ⟨hn, o0, rfl, ho1, ho2, Q0, hQ, h⟩ := h
    refine x_pick (L' := [(0, vR (some o0))]) [0] rfl ?_
    exact k_X6_mostWorn_0 C hr hn rfl ⟨ho1, ho2⟩ hQ h
set_option maxRecDepth 100000 in
set_option maxHeartbeats 4000000 in
theorem cl_X6_mostWorn {p : Program} {l : Launch} {e : Env} {R : Room} {s : State} {m : MethodId} {args : Array Value} {below : List Frame} {meth : Method} {c : Code} {Q : State → Prop} {cc : ByteArray} {nL : Nat} {own : String} {D : va_G} {cy : Nat → ClassId} {G : Nat × Nat} {n0 pc : Nat} {L : List (Nat × PV)} {st : List PV} {M : Mm} {op : Instr} (K : CallOK l D cy R own op 0 0 (spV 6 0 SP_X6_mostWorn)) (C : Cx p s m args meth c cc nL own D cy G n0) (hd : decode cc pc = .ok (op, 3)) (hn : M.2.2.2 = n0) (h3 : n0 = 243) (hlen : argN st ≤ 8) {r : Option Nat} {o0 : Nat} (ho : isOn 6 M.2.2.2 r o0)  {Q0 : Int → Prop} (h : P_X6_mostWorn o0 M Q0) (k : ∀ x, Q0 x → WW p l e R s m args below meth c Q nL D cy G n0  (pc + 3) L (vI x :: st) M) : WW p l e R s m args below meth c Q nL D cy G n0  pc L (vR r :: st) M := by
  obtain ⟨rfl, ho1, ho2⟩ := ho
  refine x_call0 K C hd (as := [vR (some o0)]) rfl hn hlen (fun v M2 => ∃ x, v = some (vI x) ∧ M2 = M ∧ Q0 x) ⟨⟨o0, [], rfl, rfl, ho1, ho2⟩, hn.trans h3, o0, rfl, (hn.trans h3) ▸ ho1, ho2, Q0, fun x hx => ⟨x, rfl, rfl, hx⟩, h⟩ ?_
  rintro _ _ ⟨x, rfl, rfl, hx⟩ hm
  exact k x hx
end W_X6_mostWorn
theorem dX11_isRoad_0 : decode cX11_isRoad 0 = .ok (.iload_n 0, 1) := by decide +kernel
theorem dX11_isRoad_1 : decode cX11_isRoad 1 = .ok (.iconst 0, 1) := by decide +kernel
theorem dX11_isRoad_2 : decode cX11_isRoad 2 = .ok (.iconst 3, 1) := by decide +kernel
theorem dX11_isRoad_3 : decode cX11_isRoad 3 = .ok (.invokestatic 61, 3) := by decide +kernel
theorem dX11_isRoad_6 : decode cX11_isRoad 6 = .ok (.ireturn, 1) := by decide +kernel
section W_X11_isRoad
variable {p : Program} {l : Launch} {e : Env} {s : State} {m : MethodId} {args : Array Value} {below : List Frame} {meth : Method} {c : Code} {D : va_G} {cy : Nat → ClassId} {G : Nat × Nat} {n0 : Nat} {Qp : Option PV → Mm → Prop}
set_option maxRecDepth 100000 in
set_option maxHeartbeats 4000000 in
theorem k_X11_isRoad_0 {x0 : Int} {M : Mm} {Q : Int → Prop} (C : Cx p s m args meth c cX11_isRoad 1 RX11 D cy G n0) (hr : meth.sig.returnType = some .boolean) (h3 : n0 = 243) (hn : M.2.2.2 = n0) (hQ : ∀ x, Q x → Qp (some (vI x)) M) (h : P_X11_isRoad x0 M Q ) : WW p l e ({ frames := 1, cells := 0, slots := 0, locals := 22 }) s m args below meth c (ZQ below args s D cy G n0 Qp n0) 1 D cy G n0 0 [(0, vI x0)] [] M := by
  unfold P_X11_isRoad at h
  refine w_iload_n C dX11_isRoad_0 rfl (mem_k 0 rfl) ?_
  refine w_iconst C dX11_isRoad_1 ⟨by decide, by decide⟩ ?_
  refine w_iconst C dX11_isRoad_2 ⟨by decide, by decide⟩ ?_
  refine cl_X11_isWithin (ck_X11_61 ⟨by decide, by decide⟩) C dX11_isRoad_3 hn h3 (Nat.le_of_ble_eq_true rfl) h (fun v1 h => ?_)
  exact x_zret C hr dX11_isRoad_6 hn h.1 (hQ _ h.2)
set_option maxRecDepth 100000 in
set_option maxHeartbeats 4000000 in
theorem con_X11_isRoad (l : Launch) (D : va_G) (cy : Nat → ClassId) : Con l D cy yX11_isRoad cX11_isRoad 1 (some .boolean) ({ frames := 1, cells := 0, slots := 0, locals := 22 }) 0 0 SP_X11_isRoad := by
  refine con_of (by decide) (fun as M Qp h => ?_) ?_
  · obtain ⟨-, x0, rfl, -⟩ := h
    exact Nat.le_of_ble_eq_true rfl
  · intro p e s m args below meth c G as M Qp h C hr hnm
    obtain ⟨hn, x0, rfl, Q0, hQ, h⟩ := h
    refine x_pick (L' := [(0, vI x0)]) [0] rfl ?_
    exact k_X11_isRoad_0 C hr hn rfl hQ h
set_option maxRecDepth 100000 in
set_option maxHeartbeats 4000000 in
theorem cl_X11_isRoad {p : Program} {l : Launch} {e : Env} {R : Room} {s : State} {m : MethodId} {args : Array Value} {below : List Frame} {meth : Method} {c : Code} {Q : State → Prop} {cc : ByteArray} {nL : Nat} {own : String} {D : va_G} {cy : Nat → ClassId} {G : Nat × Nat} {n0 pc : Nat} {L : List (Nat × PV)} {st : List PV} {M : Mm} {op : Instr} (K : CallOK l D cy R own op 0 0 (spS 1 SP_X11_isRoad)) (C : Cx p s m args meth c cc nL own D cy G n0) (hd : decode cc pc = .ok (op, 3)) (hn : M.2.2.2 = n0) (h3 : n0 = 243) (hlen : argN st ≤ 8) {x0 : Int} {Q0 : Int → Prop} (h : P_X11_isRoad x0 M Q0) (k : ∀ x, Q0 x → WW p l e R s m args below meth c Q nL D cy G n0  (pc + 3) L (vI x :: st) M) : WW p l e R s m args below meth c Q nL D cy G n0  pc L (vI x0 :: st) M := by
  refine x_call0 K C hd (as := [vI x0]) rfl hn hlen (fun v M2 => ∃ x, v = some (vI x) ∧ M2 = M ∧ Q0 x) ⟨rfl, hn.trans h3, x0, rfl, Q0, fun x hx => ⟨x, rfl, rfl, hx⟩, h⟩ ?_
  rintro _ _ ⟨x, rfl, rfl, hx⟩ hm
  exact k x hx
end W_X11_isRoad
