/-! model: pure predicates, decode rows, walks, contracts; by program (wip/gen/walk.py) -/
theorem dX12_dose_0 : decode cX12_dose 0 = .ok (.aload_n 0, 1) := by decide +kernel
theorem dX12_dose_1 : decode cX12_dose 1 = .ok (.iload_n 1, 1) := by decide +kernel
theorem dX12_dose_2 : decode cX12_dose 2 = .ok (.invokevirtual 155, 3) := by decide +kernel
theorem dX12_dose_5 : decode cX12_dose 5 = .ok (.ifCond .eq 62, 3) := by decide +kernel
theorem dX12_dose_8 : decode cX12_dose 8 = .ok (.aload_n 0, 1) := by decide +kernel
theorem dX12_dose_9 : decode cX12_dose 9 = .ok (.iload_n 2, 1) := by decide +kernel
theorem dX12_dose_10 : decode cX12_dose 10 = .ok (.invokevirtual 152, 3) := by decide +kernel
theorem dX12_dose_13 : decode cX12_dose 13 = .ok (.ifCond .eq 54, 3) := by decide +kernel
theorem dX12_dose_16 : decode cX12_dose 16 = .ok (.iload_n 3, 1) := by decide +kernel
theorem dX12_dose_17 : decode cX12_dose 17 = .ok (.i2l, 1) := by decide +kernel
theorem dX12_dose_18 : decode cX12_dose 18 = .ok (.lconst 0, 1) := by decide +kernel
theorem dX12_dose_19 : decode cX12_dose 19 = .ok (.ldc2_w 256, 3) := by decide +kernel
theorem dX12_dose_22 : decode cX12_dose 22 = .ok (.invokestatic 85, 3) := by decide +kernel
theorem dX12_dose_25 : decode cX12_dose 25 = .ok (.ifCond .eq 42, 3) := by decide +kernel
theorem dX12_dose_28 : decode cX12_dose 28 = .ok (.iload 4, 2) := by decide +kernel
theorem dX12_dose_30 : decode cX12_dose 30 = .ok (.i2l, 1) := by decide +kernel
theorem dX12_dose_31 : decode cX12_dose 31 = .ok (.lconst 0, 1) := by decide +kernel
theorem dX12_dose_32 : decode cX12_dose 32 = .ok (.ldc2_w 256, 3) := by decide +kernel
theorem dX12_dose_35 : decode cX12_dose 35 = .ok (.invokestatic 85, 3) := by decide +kernel
theorem dX12_dose_38 : decode cX12_dose 38 = .ok (.ifCond .eq 29, 3) := by decide +kernel
theorem dX12_dose_41 : decode cX12_dose 41 = .ok (.iload 5, 2) := by decide +kernel
theorem dX12_dose_43 : decode cX12_dose 43 = .ok (.i2l, 1) := by decide +kernel
theorem dX12_dose_44 : decode cX12_dose 44 = .ok (.lconst 0, 1) := by decide +kernel
theorem dX12_dose_45 : decode cX12_dose 45 = .ok (.ldc2_w 256, 3) := by decide +kernel
theorem dX12_dose_48 : decode cX12_dose 48 = .ok (.invokestatic 85, 3) := by decide +kernel
theorem dX12_dose_51 : decode cX12_dose 51 = .ok (.ifCond .eq 16, 3) := by decide +kernel
theorem dX12_dose_54 : decode cX12_dose 54 = .ok (.iload 6, 2) := by decide +kernel
theorem dX12_dose_56 : decode cX12_dose 56 = .ok (.i2l, 1) := by decide +kernel
theorem dX12_dose_57 : decode cX12_dose 57 = .ok (.lconst 0, 1) := by decide +kernel
theorem dX12_dose_58 : decode cX12_dose 58 = .ok (.ldc2_w 256, 3) := by decide +kernel
theorem dX12_dose_61 : decode cX12_dose 61 = .ok (.invokestatic 85, 3) := by decide +kernel
theorem dX12_dose_64 : decode cX12_dose 64 = .ok (.ifCond .ne 7, 3) := by decide +kernel
theorem dX12_dose_67 : decode cX12_dose 67 = .ok (.ldc2_w 216, 3) := by decide +kernel
theorem dX12_dose_70 : decode cX12_dose 70 = .ok (.lreturn, 1) := by decide +kernel
theorem dX12_dose_71 : decode cX12_dose 71 = .ok (.aload_n 0, 1) := by decide +kernel
theorem dX12_dose_72 : decode cX12_dose 72 = .ok (.iload_n 1, 1) := by decide +kernel
theorem dX12_dose_73 : decode cX12_dose 73 = .ok (.iload_n 2, 1) := by decide +kernel
theorem dX12_dose_74 : decode cX12_dose 74 = .ok (.invokevirtual 188, 3) := by decide +kernel
theorem dX12_dose_77 : decode cX12_dose 77 = .ok (.aload_n 0, 1) := by decide +kernel
theorem dX12_dose_78 : decode cX12_dose 78 = .ok (.iload_n 1, 1) := by decide +kernel
theorem dX12_dose_79 : decode cX12_dose 79 = .ok (.iload_n 2, 1) := by decide +kernel
theorem dX12_dose_80 : decode cX12_dose 80 = .ok (.iconst 0, 1) := by decide +kernel
theorem dX12_dose_81 : decode cX12_dose 81 = .ok (.iload_n 3, 1) := by decide +kernel
theorem dX12_dose_82 : decode cX12_dose 82 = .ok (.invokevirtual 258, 3) := by decide +kernel
theorem dX12_dose_85 : decode cX12_dose 85 = .ok (.aload_n 0, 1) := by decide +kernel
theorem dX12_dose_86 : decode cX12_dose 86 = .ok (.iload_n 1, 1) := by decide +kernel
theorem dX12_dose_87 : decode cX12_dose 87 = .ok (.iload_n 2, 1) := by decide +kernel
theorem dX12_dose_88 : decode cX12_dose 88 = .ok (.iconst 1, 1) := by decide +kernel
theorem dX12_dose_89 : decode cX12_dose 89 = .ok (.iload 4, 2) := by decide +kernel
theorem dX12_dose_91 : decode cX12_dose 91 = .ok (.invokevirtual 258, 3) := by decide +kernel
theorem dX12_dose_94 : decode cX12_dose 94 = .ok (.ladd, 1) := by decide +kernel
theorem dX12_dose_95 : decode cX12_dose 95 = .ok (.aload_n 0, 1) := by decide +kernel
theorem dX12_dose_96 : decode cX12_dose 96 = .ok (.iload_n 1, 1) := by decide +kernel
theorem dX12_dose_97 : decode cX12_dose 97 = .ok (.iload_n 2, 1) := by decide +kernel
theorem dX12_dose_98 : decode cX12_dose 98 = .ok (.iconst 2, 1) := by decide +kernel
theorem dX12_dose_99 : decode cX12_dose 99 = .ok (.iload 5, 2) := by decide +kernel
theorem dX12_dose_101 : decode cX12_dose 101 = .ok (.invokevirtual 258, 3) := by decide +kernel
theorem dX12_dose_104 : decode cX12_dose 104 = .ok (.ladd, 1) := by decide +kernel
theorem dX12_dose_105 : decode cX12_dose 105 = .ok (.aload_n 0, 1) := by decide +kernel
theorem dX12_dose_106 : decode cX12_dose 106 = .ok (.iload_n 1, 1) := by decide +kernel
theorem dX12_dose_107 : decode cX12_dose 107 = .ok (.iload_n 2, 1) := by decide +kernel
theorem dX12_dose_108 : decode cX12_dose 108 = .ok (.iconst 3, 1) := by decide +kernel
theorem dX12_dose_109 : decode cX12_dose 109 = .ok (.iload 6, 2) := by decide +kernel
theorem dX12_dose_111 : decode cX12_dose 111 = .ok (.invokevirtual 258, 3) := by decide +kernel
theorem dX12_dose_114 : decode cX12_dose 114 = .ok (.ladd, 1) := by decide +kernel
theorem dX12_dose_115 : decode cX12_dose 115 = .ok (.lreturn, 1) := by decide +kernel
theorem cn_X12_256 : Cond.constantLong RX12 256 (Int64.ofInt 24) ∈ lwG := lwG_5 (i := 145) rfl rfl
theorem ck_X12_258 {l : Launch} {D : va_G} {cy : Nat → ClassId} {R : Room} (hR : 5 ≤ R.frames ∧ 131 ≤ R.locals) : CallOK l D cy R RX12 (.invokevirtual 258) 0 0 (spV 12 4 SP_X12_doseOf) := call_V (ci := 12) (con_X12_doseOf l D cy) (lwG_5 (i := 146) rfl rfl) (lwG_5 (i := 148) rfl rfl) (lwG_p (i := 42) rfl rfl) (lwG_1 (i := 13) rfl rfl) (lwG_5 (i := 149) rfl rfl) (by decide) ⟨rfl, by decide, by decide, rfl⟩ ⟨rfl, rfl⟩ hR
section W_X12_dose
variable {p : Program} {l : Launch} {e : Env} {s : State} {m : MethodId} {args : Array Value} {below : List Frame} {meth : Method} {c : Code} {D : va_G} {cy : Nat → ClassId} {G : Nat × Nat} {n0 : Nat} {Qp : Option PV → Mm → Prop}
set_option maxRecDepth 100000 in
set_option maxHeartbeats 4000000 in
theorem k_X12_dose_0 {o0 : Nat} {x1 : Int} {x2 : Int} {x3 : Int} {x4 : Int} {x5 : Int} {x6 : Int} {M : Mm} {Q : Int → Mm → Prop} (C : Cx p s m args meth c cX12_dose 7 RX12 D cy G n0) (hr : meth.sig.returnType = some .long) (h3 : n0 = 243) (hn : M.2.2.2 = n0) (ho0 : o0 < 243 ∧ (SH o0).1 = 12) (hQ : ∀ x M, Q x M → Qp (some (vL x)) M) (h : P_X12_dose o0 x1 x2 x3 x4 x5 x6 M Q ) : WW p l e ({ frames := 5, cells := 0, slots := 0, locals := 131 }) s m args below meth c (ZQ below args s D cy G n0 Qp n0) 7 D cy G n0 0 [(0, vR (some o0)), (1, vI x1), (2, vI x2), (3, vI x3), (4, vI x4), (5, vI x5), (6, vI x6)] [] M := by
  unfold P_X12_dose at h
  refine w_aload_n C dX12_dose_0 rfl (mem_k 0 rfl) ?_
  refine w_iload_n C dX12_dose_1 rfl (mem_k 1 rfl) ?_
  refine cl_X12_isBody (ck_X12_155 ⟨by decide, by decide⟩) C dX12_dose_2 hn h3 (Nat.le_of_ble_eq_true rfl) (isO.n (ci := 12) ⟨rfl, ho0⟩ (hn.trans h3)) h (fun v1 h => ?_)
  refine w_if_eq (tgt := 67) C dX12_dose_5 (by decide) (fun q => ?_) (fun q => ?_)
  · replace h := h.1 q
    refine w_ldc2 (x := (-1)) C dX12_dose_67 cn_X12_216 ⟨by decide, by decide⟩ ?_
    exact x_lret C hr dX12_dose_70 hn (hQ _ M h)
  · replace h := h.2 q
    refine w_aload_n C dX12_dose_8 rfl (mem_k 0 rfl) ?_
    refine w_iload_n C dX12_dose_9 rfl (mem_k 2 rfl) ?_
    refine cl_X12_isSeat (ck_X12_152 ⟨by decide, by decide⟩) C dX12_dose_10 hn h3 (Nat.le_of_ble_eq_true rfl) (isO.n (ci := 12) ⟨rfl, ho0⟩ (hn.trans h3)) h (fun v2 h => ?_)
    refine w_if_eq (tgt := 67) C dX12_dose_13 (by decide) (fun q => ?_) (fun q => ?_)
    · replace h := h.1 q
      refine w_ldc2 (x := (-1)) C dX12_dose_67 cn_X12_216 ⟨by decide, by decide⟩ ?_
      exact x_lret C hr dX12_dose_70 hn (hQ _ M h)
    · replace h := h.2 q
      refine w_iload_n C dX12_dose_16 rfl (mem_k 3 rfl) ?_
      refine w_i2l C dX12_dose_17 ?_
      refine w_lconst C dX12_dose_18 ?_
      refine w_ldc2 (x := 24) C dX12_dose_19 cn_X12_256 ⟨by decide, by decide⟩ ?_
      refine cl_X12_in (ck_X12_85 ⟨by decide, by decide⟩) C dX12_dose_22 hn h3 (Nat.le_of_ble_eq_true rfl) h (fun v3 h => ?_)
      refine w_if_eq (tgt := 67) C dX12_dose_25 (by decide) (fun q => ?_) (fun q => ?_)
      · replace h := h.1 q
        refine w_ldc2 (x := (-1)) C dX12_dose_67 cn_X12_216 ⟨by decide, by decide⟩ ?_
        exact x_lret C hr dX12_dose_70 hn (hQ _ M h)
      · replace h := h.2 q
        refine w_iload C dX12_dose_28 (mem_k 4 rfl) ?_
        refine w_i2l C dX12_dose_30 ?_
        refine w_lconst C dX12_dose_31 ?_
        refine w_ldc2 (x := 24) C dX12_dose_32 cn_X12_256 ⟨by decide, by decide⟩ ?_
        refine cl_X12_in (ck_X12_85 ⟨by decide, by decide⟩) C dX12_dose_35 hn h3 (Nat.le_of_ble_eq_true rfl) h (fun v4 h => ?_)
        refine w_if_eq (tgt := 67) C dX12_dose_38 (by decide) (fun q => ?_) (fun q => ?_)
        · replace h := h.1 q
          refine w_ldc2 (x := (-1)) C dX12_dose_67 cn_X12_216 ⟨by decide, by decide⟩ ?_
          exact x_lret C hr dX12_dose_70 hn (hQ _ M h)
        · replace h := h.2 q
          refine w_iload C dX12_dose_41 (mem_k 5 rfl) ?_
          refine w_i2l C dX12_dose_43 ?_
          refine w_lconst C dX12_dose_44 ?_
          refine w_ldc2 (x := 24) C dX12_dose_45 cn_X12_256 ⟨by decide, by decide⟩ ?_
          refine cl_X12_in (ck_X12_85 ⟨by decide, by decide⟩) C dX12_dose_48 hn h3 (Nat.le_of_ble_eq_true rfl) h (fun v5 h => ?_)
          refine w_if_eq (tgt := 67) C dX12_dose_51 (by decide) (fun q => ?_) (fun q => ?_)
          · replace h := h.1 q
            refine w_ldc2 (x := (-1)) C dX12_dose_67 cn_X12_216 ⟨by decide, by decide⟩ ?_
            exact x_lret C hr dX12_dose_70 hn (hQ _ M h)
          · replace h := h.2 q
            refine w_iload C dX12_dose_54 (mem_k 6 rfl) ?_
            refine w_i2l C dX12_dose_56 ?_
            refine w_lconst C dX12_dose_57 ?_
            refine w_ldc2 (x := 24) C dX12_dose_58 cn_X12_256 ⟨by decide, by decide⟩ ?_
            refine cl_X12_in (ck_X12_85 ⟨by decide, by decide⟩) C dX12_dose_61 hn h3 (Nat.le_of_ble_eq_true rfl) h (fun v6 h => ?_)
            refine w_if_ne (tgt := 71) C dX12_dose_64 (by decide) (fun q => ?_) (fun q => ?_)
            · replace h := h.1 q
              refine w_aload_n C dX12_dose_71 rfl (mem_k 0 rfl) ?_
              refine w_iload_n C dX12_dose_72 rfl (mem_k 1 rfl) ?_
              refine w_iload_n C dX12_dose_73 rfl (mem_k 2 rfl) ?_
              refine cl_X12_layLevel (ck_X12_188 ⟨by decide, by decide⟩) C dX12_dose_74 hn h3 (Nat.le_of_ble_eq_true rfl) (isO.n (ci := 12) ⟨rfl, ho0⟩ (hn.trans h3)) h (fun M7 h hn8 => ?_)
              refine w_aload_n C dX12_dose_77 rfl (mem_k 0 rfl) ?_
              refine w_iload_n C dX12_dose_78 rfl (mem_k 1 rfl) ?_
              refine w_iload_n C dX12_dose_79 rfl (mem_k 2 rfl) ?_
              refine w_iconst C dX12_dose_80 ⟨by decide, by decide⟩ ?_
              refine w_iload_n C dX12_dose_81 rfl (mem_k 3 rfl) ?_
              refine cl_X12_doseOf (ck_X12_258 ⟨by decide, by decide⟩) C dX12_dose_82 hn8 h3 (Nat.le_of_ble_eq_true rfl) (isO.n (ci := 12) ⟨rfl, ho0⟩ (hn8.trans h3)) h (fun v9 h => ?_)
              refine w_aload_n C dX12_dose_85 rfl (mem_k 0 rfl) ?_
              refine w_iload_n C dX12_dose_86 rfl (mem_k 1 rfl) ?_
              refine w_iload_n C dX12_dose_87 rfl (mem_k 2 rfl) ?_
              refine w_iconst C dX12_dose_88 ⟨by decide, by decide⟩ ?_
              refine w_iload C dX12_dose_89 (mem_k 4 rfl) ?_
              refine cl_X12_doseOf (ck_X12_258 ⟨by decide, by decide⟩) C dX12_dose_91 hn8 h3 (Nat.le_of_ble_eq_true rfl) (isO.n (ci := 12) ⟨rfl, ho0⟩ (hn8.trans h3)) h (fun v10 h => ?_)
              refine w_ladd C dX12_dose_94 h.1 ?_
              replace h := h.2
              refine w_aload_n C dX12_dose_95 rfl (mem_k 0 rfl) ?_
              refine w_iload_n C dX12_dose_96 rfl (mem_k 1 rfl) ?_
              refine w_iload_n C dX12_dose_97 rfl (mem_k 2 rfl) ?_
              refine w_iconst C dX12_dose_98 ⟨by decide, by decide⟩ ?_
              refine w_iload C dX12_dose_99 (mem_k 5 rfl) ?_
              refine cl_X12_doseOf (ck_X12_258 ⟨by decide, by decide⟩) C dX12_dose_101 hn8 h3 (Nat.le_of_ble_eq_true rfl) (isO.n (ci := 12) ⟨rfl, ho0⟩ (hn8.trans h3)) h (fun v11 h => ?_)
              refine w_ladd C dX12_dose_104 h.1 ?_
              replace h := h.2
              refine w_aload_n C dX12_dose_105 rfl (mem_k 0 rfl) ?_
              refine w_iload_n C dX12_dose_106 rfl (mem_k 1 rfl) ?_
              refine w_iload_n C dX12_dose_107 rfl (mem_k 2 rfl) ?_
              refine w_iconst C dX12_dose_108 ⟨by decide, by decide⟩ ?_
              refine w_iload C dX12_dose_109 (mem_k 6 rfl) ?_
              refine cl_X12_doseOf (ck_X12_258 ⟨by decide, by decide⟩) C dX12_dose_111 hn8 h3 (Nat.le_of_ble_eq_true rfl) (isO.n (ci := 12) ⟨rfl, ho0⟩ (hn8.trans h3)) h (fun v12 h => ?_)
              refine w_ladd C dX12_dose_114 h.1 ?_
              replace h := h.2
              exact x_lret C hr dX12_dose_115 hn8 (hQ _ M7 h)
            · replace h := h.2 q
              refine w_ldc2 (x := (-1)) C dX12_dose_67 cn_X12_216 ⟨by decide, by decide⟩ ?_
              exact x_lret C hr dX12_dose_70 hn (hQ _ M h)
set_option maxRecDepth 100000 in
set_option maxHeartbeats 4000000 in
theorem con_X12_dose (l : Launch) (D : va_G) (cy : Nat → ClassId) : Con l D cy yX12_dose cX12_dose 7 (some .long) ({ frames := 5, cells := 0, slots := 0, locals := 131 }) 0 0 SP_X12_dose := by
  refine con_of (by decide) (fun as M Qp h => ?_) ?_
  · obtain ⟨-, o0, x1, x2, x3, x4, x5, x6, rfl, -⟩ := h
    exact Nat.le_of_ble_eq_true rfl
  · intro p e s m args below meth c G as M Qp h C hr hnm
    obtain ⟨hn, o0, x1, x2, x3, x4, x5, x6, rfl, ho1, ho2, Q0, hQ, h⟩ := h
    refine x_pick (L' := [(0, vR (some o0)), (1, vI x1), (2, vI x2), (3, vI x3), (4, vI x4), (5, vI x5), (6, vI x6)]) [0, 1, 2, 3, 4, 5, 6] rfl ?_
    exact k_X12_dose_0 C hr hn rfl ⟨ho1, ho2⟩ hQ h
set_option maxRecDepth 100000 in
set_option maxHeartbeats 4000000 in
theorem cl_X12_dose {p : Program} {l : Launch} {e : Env} {R : Room} {s : State} {m : MethodId} {args : Array Value} {below : List Frame} {meth : Method} {c : Code} {Q : State → Prop} {cc : ByteArray} {nL : Nat} {own : String} {D : va_G} {cy : Nat → ClassId} {G : Nat × Nat} {n0 pc : Nat} {L : List (Nat × PV)} {st : List PV} {M : Mm} {op : Instr} (K : CallOK l D cy R own op 0 0 (spV 12 6 SP_X12_dose)) (C : Cx p s m args meth c cc nL own D cy G n0) (hd : decode cc pc = .ok (op, 3)) (hn : M.2.2.2 = n0) (h3 : n0 = 243) (hlen : argN st ≤ 8) {r : Option Nat} {o0 : Nat} (ho : isOn 12 M.2.2.2 r o0) {x1 : Int} {x2 : Int} {x3 : Int} {x4 : Int} {x5 : Int} {x6 : Int} {Q0 : Int → Mm → Prop} (h : P_X12_dose o0 x1 x2 x3 x4 x5 x6 M Q0) (k : ∀ x M2, Q0 x M2 → M2.2.2.2 = n0 → WW p l e R s m args below meth c Q nL D cy G n0  (pc + 3) L (vL x :: st) M2) : WW p l e R s m args below meth c Q nL D cy G n0  pc L (vI x6 :: vI x5 :: vI x4 :: vI x3 :: vI x2 :: vI x1 :: vR r :: st) M := by
  obtain ⟨rfl, ho1, ho2⟩ := ho
  refine x_call0 K C hd (as := [vR (some o0), vI x1, vI x2, vI x3, vI x4, vI x5, vI x6]) rfl hn hlen (fun v M2 => ∃ x, v = some (vL x) ∧ Q0 x M2) ⟨⟨o0, [vI x1, vI x2, vI x3, vI x4, vI x5, vI x6], rfl, rfl, ho1, ho2⟩, hn.trans h3, o0, x1, x2, x3, x4, x5, x6, rfl, (hn.trans h3) ▸ ho1, ho2, Q0, fun x M2 hx => ⟨x, rfl, hx⟩, h⟩ ?_
  rintro _ _ ⟨x, rfl, hx⟩ hm
  exact k x _ hx hm
end W_X12_dose
theorem dX12_wear_0 : decode cX12_wear 0 = .ok (.aload_n 0, 1) := by decide +kernel
theorem dX12_wear_1 : decode cX12_wear 1 = .ok (.iload_n 2, 1) := by decide +kernel
theorem dX12_wear_2 : decode cX12_wear 2 = .ok (.iload_n 1, 1) := by decide +kernel
theorem dX12_wear_3 : decode cX12_wear 3 = .ok (.invokevirtual 188, 3) := by decide +kernel
theorem dX12_wear_6 : decode cX12_wear 6 = .ok (.iconst 0, 1) := by decide +kernel
theorem dX12_wear_7 : decode cX12_wear 7 = .ok (.istore 4, 2) := by decide +kernel
theorem dX12_wear_9 : decode cX12_wear 9 = .ok (.iload 4, 2) := by decide +kernel
theorem dX12_wear_11 : decode cX12_wear 11 = .ok (.aload_n 0, 1) := by decide +kernel
theorem dX12_wear_12 : decode cX12_wear 12 = .ok (.getfield 31, 3) := by decide +kernel
theorem dX12_wear_15 : decode cX12_wear 15 = .ok (.bipush 6, 2) := by decide +kernel
theorem dX12_wear_17 : decode cX12_wear 17 = .ok (.iload_n 1, 1) := by decide +kernel
theorem dX12_wear_18 : decode cX12_wear 18 = .ok (.iadd, 1) := by decide +kernel
theorem dX12_wear_19 : decode cX12_wear 19 = .ok (.iaload, 1) := by decide +kernel
theorem dX12_wear_20 : decode cX12_wear 20 = .ok (.if_icmp .ge 30, 3) := by decide +kernel
theorem dX12_wear_23 : decode cX12_wear 23 = .ok (.aload_n 0, 1) := by decide +kernel
theorem dX12_wear_24 : decode cX12_wear 24 = .ok (.getfield 68, 3) := by decide +kernel
theorem dX12_wear_27 : decode cX12_wear 27 = .ok (.iload 4, 2) := by decide +kernel
theorem dX12_wear_29 : decode cX12_wear 29 = .ok (.aload_n 0, 1) := by decide +kernel
theorem dX12_wear_30 : decode cX12_wear 30 = .ok (.iload_n 2, 1) := by decide +kernel
theorem dX12_wear_31 : decode cX12_wear 31 = .ok (.iload_n 1, 1) := by decide +kernel
theorem dX12_wear_32 : decode cX12_wear 32 = .ok (.iload 4, 2) := by decide +kernel
theorem dX12_wear_34 : decode cX12_wear 34 = .ok (.invokevirtual 199, 3) := by decide +kernel
theorem dX12_wear_37 : decode cX12_wear 37 = .ok (.aload_n 0, 1) := by decide +kernel
theorem dX12_wear_38 : decode cX12_wear 38 = .ok (.getfield 184, 3) := by decide +kernel
theorem dX12_wear_41 : decode cX12_wear 41 = .ok (.ldiv, 1) := by decide +kernel
theorem dX12_wear_42 : decode cX12_wear 42 = .ok (.l2i, 1) := by decide +kernel
theorem dX12_wear_43 : decode cX12_wear 43 = .ok (.iastore, 1) := by decide +kernel
theorem dX12_wear_44 : decode cX12_wear 44 = .ok (.iinc 4 1, 3) := by decide +kernel
theorem dX12_wear_47 : decode cX12_wear 47 = .ok (.goto (-38), 3) := by decide +kernel
theorem dX12_wear_50 : decode cX12_wear 50 = .ok (.iconst 0, 1) := by decide +kernel
theorem dX12_wear_51 : decode cX12_wear 51 = .ok (.istore 4, 2) := by decide +kernel
theorem dX12_wear_53 : decode cX12_wear 53 = .ok (.iload 4, 2) := by decide +kernel
theorem dX12_wear_55 : decode cX12_wear 55 = .ok (.aload_n 0, 1) := by decide +kernel
theorem dX12_wear_56 : decode cX12_wear 56 = .ok (.getfield 31, 3) := by decide +kernel
theorem dX12_wear_59 : decode cX12_wear 59 = .ok (.bipush 6, 2) := by decide +kernel
theorem dX12_wear_61 : decode cX12_wear 61 = .ok (.iload_n 1, 1) := by decide +kernel
theorem dX12_wear_62 : decode cX12_wear 62 = .ok (.iadd, 1) := by decide +kernel
theorem dX12_wear_63 : decode cX12_wear 63 = .ok (.iaload, 1) := by decide +kernel
theorem dX12_wear_64 : decode cX12_wear 64 = .ok (.if_icmp .ge 63, 3) := by decide +kernel
theorem dX12_wear_67 : decode cX12_wear 67 = .ok (.aload_n 0, 1) := by decide +kernel
theorem dX12_wear_68 : decode cX12_wear 68 = .ok (.getfield 37, 3) := by decide +kernel
theorem dX12_wear_71 : decode cX12_wear 71 = .ok (.bipush 6, 2) := by decide +kernel
theorem dX12_wear_73 : decode cX12_wear 73 = .ok (.iload_n 1, 1) := by decide +kernel
theorem dX12_wear_74 : decode cX12_wear 74 = .ok (.imul, 1) := by decide +kernel
theorem dX12_wear_75 : decode cX12_wear 75 = .ok (.iload 4, 2) := by decide +kernel
theorem dX12_wear_77 : decode cX12_wear 77 = .ok (.iadd, 1) := by decide +kernel
theorem dX12_wear_78 : decode cX12_wear 78 = .ok (.iaload, 1) := by decide +kernel
theorem dX12_wear_79 : decode cX12_wear 79 = .ok (.aload_n 0, 1) := by decide +kernel
theorem dX12_wear_80 : decode cX12_wear 80 = .ok (.getfield 68, 3) := by decide +kernel
theorem dX12_wear_83 : decode cX12_wear 83 = .ok (.iload 4, 2) := by decide +kernel
theorem dX12_wear_85 : decode cX12_wear 85 = .ok (.iaload, 1) := by decide +kernel
theorem dX12_wear_86 : decode cX12_wear 86 = .ok (.iload_n 3, 1) := by decide +kernel
theorem dX12_wear_87 : decode cX12_wear 87 = .ok (.imul, 1) := by decide +kernel
theorem dX12_wear_88 : decode cX12_wear 88 = .ok (.ldc_w 262, 3) := by decide +kernel
theorem dX12_wear_91 : decode cX12_wear 91 = .ok (.idiv, 1) := by decide +kernel
theorem dX12_wear_92 : decode cX12_wear 92 = .ok (.iadd, 1) := by decide +kernel
theorem dX12_wear_93 : decode cX12_wear 93 = .ok (.istore 5, 2) := by decide +kernel
theorem dX12_wear_95 : decode cX12_wear 95 = .ok (.aload_n 0, 1) := by decide +kernel
theorem dX12_wear_96 : decode cX12_wear 96 = .ok (.getfield 37, 3) := by decide +kernel
theorem dX12_wear_99 : decode cX12_wear 99 = .ok (.bipush 6, 2) := by decide +kernel
theorem dX12_wear_101 : decode cX12_wear 101 = .ok (.iload_n 1, 1) := by decide +kernel
theorem dX12_wear_102 : decode cX12_wear 102 = .ok (.imul, 1) := by decide +kernel
theorem dX12_wear_103 : decode cX12_wear 103 = .ok (.iload 4, 2) := by decide +kernel
theorem dX12_wear_105 : decode cX12_wear 105 = .ok (.iadd, 1) := by decide +kernel
theorem dX12_wear_106 : decode cX12_wear 106 = .ok (.iload 5, 2) := by decide +kernel
theorem dX12_wear_108 : decode cX12_wear 108 = .ok (.bipush 100, 2) := by decide +kernel
theorem dX12_wear_110 : decode cX12_wear 110 = .ok (.if_icmp .le 8, 3) := by decide +kernel
theorem dX12_wear_113 : decode cX12_wear 113 = .ok (.bipush 100, 2) := by decide +kernel
theorem dX12_wear_115 : decode cX12_wear 115 = .ok (.goto 5, 3) := by decide +kernel
theorem dX12_wear_118 : decode cX12_wear 118 = .ok (.iload 5, 2) := by decide +kernel
theorem dX12_wear_120 : decode cX12_wear 120 = .ok (.iastore, 1) := by decide +kernel
theorem dX12_wear_121 : decode cX12_wear 121 = .ok (.iinc 4 1, 3) := by decide +kernel
theorem dX12_wear_124 : decode cX12_wear 124 = .ok (.goto (-71), 3) := by decide +kernel
theorem dX12_wear_127 : decode cX12_wear 127 = .ok (.return_, 1) := by decide +kernel
theorem cn_X12_262 : Cond.constant RX12 262 (Int32.ofInt 1000000) ∈ lwG := lwG_5 (i := 160) rfl rfl
section W_X12_wear
variable {p : Program} {l : Launch} {e : Env} {s : State} {m : MethodId} {args : Array Value} {below : List Frame} {meth : Method} {c : Code} {D : va_G} {cy : Nat → ClassId} {G : Nat × Nat} {n0 : Nat} {Qp : Option PV → Mm → Prop}
set_option maxRecDepth 100000 in
set_option maxHeartbeats 4000000 in
theorem f_X12_wear_53 {o0 : Nat} {x1 : Int} {x3 : Int} {x4 : Int} {M : Mm} {Q : Mm → Prop} {K53 : Int × Mm → Prop} (C : Cx p s m args meth c cX12_wear 6 RX12 D cy G n0) (hr : meth.sig.returnType = none) (h3 : n0 = 243) (hn : M.2.2.2 = n0) (ho0 : o0 < 243 ∧ (SH o0).1 = 12) (hQ : ∀ M, Q M → Qp none M) (hK53 : ∀ (x4 : Int) (M : Mm), K53 (x4, M) → M.2.2.2 = n0 → WW p l e ({ frames := 3, cells := 0, slots := 0, locals := 92 }) s m args below meth c (ZQ below args s D cy G n0 Qp n0) 6 D cy G n0 53 [(0, vR (some o0)), (1, vI x1), (3, vI x3), (4, vI x4)] [] M) (h : F_X12_wear_53 o0 x1 x3 Q  K53 x4 M) : WW p l e ({ frames := 3, cells := 0, slots := 0, locals := 92 }) s m args below meth c (ZQ below args s D cy G n0 Qp n0) 6 D cy G n0 53 [(0, vR (some o0)), (1, vI x1), (3, vI x3), (4, vI x4)] [] M := by
  unfold F_X12_wear_53 at h
  refine w_iload C dX12_wear_53 (mem_k 3 rfl) ?_
  refine w_aload_n C dX12_wear_55 rfl (mem_k 0 rfl) ?_
  refine x_getR C dX12_wear_56 fw_X12_31 (isO.n (ci := 12) ⟨rfl, ho0⟩ (hn.trans h3)) (fun r1 er1 => ?_)
  replace h := h r1 er1
  refine w_bipush C dX12_wear_59 (by decide) ?_
  refine w_iload_n C dX12_wear_61 rfl (mem_k 1 rfl) ?_
  refine w_iadd C dX12_wear_62 h.1 ?_
  replace h := h.2
  obtain ⟨o2, g3, h⟩ := h
  refine x_iald C dX12_wear_63 (isA.n g3 (hn.trans h3)) ?_
  refine w_icmp_ge (tgt := 127) C dX12_wear_64 (by decide) (fun q => ?_) (fun q => ?_)
  · replace h := h.1 q
    exact x_vret C hr dX12_wear_127 hn (hQ M h)
  · replace h := h.2 q
    refine w_aload_n C dX12_wear_67 rfl (mem_k 0 rfl) ?_
    refine x_getR C dX12_wear_68 fw_X12_37 (isO.n (ci := 12) ⟨rfl, ho0⟩ (hn.trans h3)) (fun r4 er4 => ?_)
    replace h := h r4 er4
    refine w_bipush C dX12_wear_71 (by decide) ?_
    refine w_iload_n C dX12_wear_73 rfl (mem_k 1 rfl) ?_
    refine w_imul C dX12_wear_74 h.1 ?_
    replace h := h.2
    refine w_iload C dX12_wear_75 (mem_k 3 rfl) ?_
    refine w_iadd C dX12_wear_77 h.1 ?_
    replace h := h.2
    obtain ⟨o5, g6, h⟩ := h
    refine x_iald C dX12_wear_78 (isA.n g6 (hn.trans h3)) ?_
    refine w_aload_n C dX12_wear_79 rfl (mem_k 0 rfl) ?_
    refine x_getR C dX12_wear_80 fw_X12_68 (isO.n (ci := 12) ⟨rfl, ho0⟩ (hn.trans h3)) (fun r7 er7 => ?_)
    replace h := h r7 er7
    refine w_iload C dX12_wear_83 (mem_k 3 rfl) ?_
    obtain ⟨o8, g9, h⟩ := h
    refine x_iald C dX12_wear_85 (isA.n g9 (hn.trans h3)) ?_
    refine w_iload_n C dX12_wear_86 rfl (mem_k 2 rfl) ?_
    refine w_imul C dX12_wear_87 h.1 ?_
    replace h := h.2
    refine w_ldcw (x := 1000000) C dX12_wear_88 cn_X12_262 ⟨by decide, by decide⟩ ?_
    refine x_idiv C dX12_wear_91 (by decide) ?_
    refine w_iadd C dX12_wear_92 h.1 ?_
    replace h := h.2
    refine x_nmI (fun v10 ev10 => ?_)
    replace h := h v10 ev10
    refine x_istore (L' := [(5, vI v10), (0, vR (some o0)), (1, vI x1), (3, vI x3), (4, vI x4)]) C dX12_wear_93 (by decide) rfl ?_
    refine w_aload_n C dX12_wear_95 rfl (mem_k 1 rfl) ?_
    refine x_getR C dX12_wear_96 fw_X12_37 (isO.n (ci := 12) ⟨rfl, ho0⟩ (hn.trans h3)) (fun r11 er11 => ?_)
    replace h := h r11 er11
    refine w_bipush C dX12_wear_99 (by decide) ?_
    refine w_iload_n C dX12_wear_101 rfl (mem_k 2 rfl) ?_
    refine w_imul C dX12_wear_102 h.1 ?_
    replace h := h.2
    refine w_iload C dX12_wear_103 (mem_k 4 rfl) ?_
    refine w_iadd C dX12_wear_105 h.1 ?_
    replace h := h.2
    refine w_iload C dX12_wear_106 (mem_k 0 rfl) ?_
    refine w_bipush C dX12_wear_108 (by decide) ?_
    refine w_icmp_le (tgt := 118) C dX12_wear_110 (by decide) (fun q => ?_) (fun q => ?_)
    · replace h := h.1 q
      refine w_iload C dX12_wear_118 (mem_k 0 rfl) ?_
      obtain ⟨o12, g13, h⟩ := h
      refine x_iast C dX12_wear_120 (isA.n g13 (hn.trans h3)) (fun M14 eM14 hn15 => ?_)
      replace h := h M14 eM14
      replace hn15 := hn15.trans hn
      obtain ⟨v16, ev16⟩ : ∃ z : Int, z = x4 + 1 := ⟨_, rfl⟩
      refine x_iinc (L' := [(4, vI v16), (5, vI v10), (0, vR (some o0)), (1, vI x1), (3, vI x3)]) C dX12_wear_121 (mem_k 4 rfl) (by decide) h.1 ev16 rfl ?_
      replace h := h.2 v16 ev16
      refine w_goto (tgt := 53) C dX12_wear_124 (by decide) ?_
      refine x_pc (pc2 := 53) rfl ?_
      refine x_pick (L' := [(0, vR (some o0)), (1, vI x1), (3, vI x3), (4, vI v16)]) [2, 3, 4, 0] rfl ?_
      exact hK53 v16 M14 h hn15
    · replace h := h.2 q
      refine w_bipush C dX12_wear_113 (by decide) ?_
      refine w_goto (tgt := 120) C dX12_wear_115 (by decide) ?_
      obtain ⟨o17, g18, h⟩ := h
      refine x_iast C dX12_wear_120 (isA.n g18 (hn.trans h3)) (fun M19 eM19 hn20 => ?_)
      replace h := h M19 eM19
      replace hn20 := hn20.trans hn
      obtain ⟨v21, ev21⟩ : ∃ z : Int, z = x4 + 1 := ⟨_, rfl⟩
      refine x_iinc (L' := [(4, vI v21), (5, vI v10), (0, vR (some o0)), (1, vI x1), (3, vI x3)]) C dX12_wear_121 (mem_k 4 rfl) (by decide) h.1 ev21 rfl ?_
      replace h := h.2 v21 ev21
      refine w_goto (tgt := 53) C dX12_wear_124 (by decide) ?_
      refine x_pc (pc2 := 53) rfl ?_
      refine x_pick (L' := [(0, vR (some o0)), (1, vI x1), (3, vI x3), (4, vI v21)]) [2, 3, 4, 0] rfl ?_
      exact hK53 v21 M19 h hn20
set_option maxRecDepth 100000 in
set_option maxHeartbeats 4000000 in
theorem k_X12_wear_53 {o0 : Nat} {x1 : Int} {x3 : Int} {x4 : Int} {M : Mm} {Q : Mm → Prop} (C : Cx p s m args meth c cX12_wear 6 RX12 D cy G n0) (hr : meth.sig.returnType = none) (h3 : n0 = 243) (hn : M.2.2.2 = n0) (ho0 : o0 < 243 ∧ (SH o0).1 = 12) (hQ : ∀ M, Q M → Qp none M) (h : P_X12_wear_53 o0 x1 x3 x4 M Q ) : WW p l e ({ frames := 3, cells := 0, slots := 0, locals := 92 }) s m args below meth c (ZQ below args s D cy G n0 Qp n0) 6 D cy G n0 53 [(0, vR (some o0)), (1, vI x1), (3, vI x3), (4, vI x4)] [] M := by
  refine lpW_sound (P := fun y : Int × Mm => y.2.2.2.2 = n0 → WW p l e ({ frames := 3, cells := 0, slots := 0, locals := 92 }) s m args below meth c (ZQ below args s D cy G n0 Qp n0) 6 D cy G n0 53 [(0, vR (some o0)), (1, vI x1), (3, vI x3), (4, vI y.1)] [] y.2) ?_ h hn
  intro K y hK hF
  obtain ⟨x4, M⟩ := y
  intro hn
  exact f_X12_wear_53 C hr h3 hn ho0 hQ  (fun x4 M hk => hK (x4, M) hk) hF
set_option maxRecDepth 100000 in
set_option maxHeartbeats 4000000 in
theorem f_X12_wear_9 {o0 : Nat} {x1 : Int} {x2 : Int} {x3 : Int} {x4 : Int} {M : Mm} {Q : Mm → Prop} {K9 : Int × Mm → Prop} (C : Cx p s m args meth c cX12_wear 6 RX12 D cy G n0) (hr : meth.sig.returnType = none) (h3 : n0 = 243) (hn : M.2.2.2 = n0) (ho0 : o0 < 243 ∧ (SH o0).1 = 12) (hQ : ∀ M, Q M → Qp none M) (hK9 : ∀ (x4 : Int) (M : Mm), K9 (x4, M) → M.2.2.2 = n0 → WW p l e ({ frames := 3, cells := 0, slots := 0, locals := 92 }) s m args below meth c (ZQ below args s D cy G n0 Qp n0) 6 D cy G n0 9 [(0, vR (some o0)), (1, vI x1), (2, vI x2), (3, vI x3), (4, vI x4)] [] M) (h : F_X12_wear_9 o0 x1 x2 x3 Q  K9 x4 M) : WW p l e ({ frames := 3, cells := 0, slots := 0, locals := 92 }) s m args below meth c (ZQ below args s D cy G n0 Qp n0) 6 D cy G n0 9 [(0, vR (some o0)), (1, vI x1), (2, vI x2), (3, vI x3), (4, vI x4)] [] M := by
  unfold F_X12_wear_9 at h
  refine w_iload C dX12_wear_9 (mem_k 4 rfl) ?_
  refine w_aload_n C dX12_wear_11 rfl (mem_k 0 rfl) ?_
  refine x_getR C dX12_wear_12 fw_X12_31 (isO.n (ci := 12) ⟨rfl, ho0⟩ (hn.trans h3)) (fun r22 er22 => ?_)
  replace h := h r22 er22
  refine w_bipush C dX12_wear_15 (by decide) ?_
  refine w_iload_n C dX12_wear_17 rfl (mem_k 1 rfl) ?_
  refine w_iadd C dX12_wear_18 h.1 ?_
  replace h := h.2
  obtain ⟨o23, g24, h⟩ := h
  refine x_iald C dX12_wear_19 (isA.n g24 (hn.trans h3)) ?_
  refine w_icmp_ge (tgt := 50) C dX12_wear_20 (by decide) (fun q => ?_) (fun q => ?_)
  · replace h := h.1 q
    refine w_iconst C dX12_wear_50 ⟨by decide, by decide⟩ ?_
    refine x_istore (L' := [(4, vI 0), (0, vR (some o0)), (1, vI x1), (2, vI x2), (3, vI x3)]) C dX12_wear_51 (by decide) rfl ?_
    refine x_pc (pc2 := 53) rfl ?_
    refine x_pick (L' := [(0, vR (some o0)), (1, vI x1), (3, vI x3), (4, vI 0)]) [1, 2, 4, 0] rfl ?_
    exact k_X12_wear_53 C hr h3 hn ho0 hQ  h
  · replace h := h.2 q
    refine w_aload_n C dX12_wear_23 rfl (mem_k 0 rfl) ?_
    refine x_getR C dX12_wear_24 fw_X12_68 (isO.n (ci := 12) ⟨rfl, ho0⟩ (hn.trans h3)) (fun r25 er25 => ?_)
    replace h := h r25 er25
    refine w_iload C dX12_wear_27 (mem_k 4 rfl) ?_
    refine w_aload_n C dX12_wear_29 rfl (mem_k 0 rfl) ?_
    refine w_iload_n C dX12_wear_30 rfl (mem_k 2 rfl) ?_
    refine w_iload_n C dX12_wear_31 rfl (mem_k 1 rfl) ?_
    refine w_iload C dX12_wear_32 (mem_k 4 rfl) ?_
    refine cl_X12_pushOf (ck_X12_199 ⟨by decide, by decide⟩) C dX12_wear_34 hn h3 (Nat.le_of_ble_eq_true rfl) (isO.n (ci := 12) ⟨rfl, ho0⟩ (hn.trans h3)) h (fun v26 h => ?_)
    refine w_aload_n C dX12_wear_37 rfl (mem_k 0 rfl) ?_
    refine x_getJ C dX12_wear_38 fw_X12_184 (isO.n (ci := 12) ⟨rfl, ho0⟩ (hn.trans h3)) ?_
    refine x_ldiv C dX12_wear_41 h.1 ?_
    replace h := h.2
    refine w_l2i C dX12_wear_42 ?_
    obtain ⟨o27, g28, h⟩ := h
    refine x_iast C dX12_wear_43 (isA.n g28 (hn.trans h3)) (fun M29 eM29 hn30 => ?_)
    replace h := h M29 eM29
    replace hn30 := hn30.trans hn
    obtain ⟨v31, ev31⟩ : ∃ z : Int, z = x4 + 1 := ⟨_, rfl⟩
    refine x_iinc (L' := [(4, vI v31), (0, vR (some o0)), (1, vI x1), (2, vI x2), (3, vI x3)]) C dX12_wear_44 (mem_k 4 rfl) (by decide) h.1 ev31 rfl ?_
    replace h := h.2 v31 ev31
    refine w_goto (tgt := 9) C dX12_wear_47 (by decide) ?_
    refine x_pc (pc2 := 9) rfl ?_
    refine x_pick (L' := [(0, vR (some o0)), (1, vI x1), (2, vI x2), (3, vI x3), (4, vI v31)]) [1, 2, 3, 4, 0] rfl ?_
    exact hK9 v31 M29 h hn30
set_option maxRecDepth 100000 in
set_option maxHeartbeats 4000000 in
theorem k_X12_wear_9 {o0 : Nat} {x1 : Int} {x2 : Int} {x3 : Int} {x4 : Int} {M : Mm} {Q : Mm → Prop} (C : Cx p s m args meth c cX12_wear 6 RX12 D cy G n0) (hr : meth.sig.returnType = none) (h3 : n0 = 243) (hn : M.2.2.2 = n0) (ho0 : o0 < 243 ∧ (SH o0).1 = 12) (hQ : ∀ M, Q M → Qp none M) (h : P_X12_wear_9 o0 x1 x2 x3 x4 M Q ) : WW p l e ({ frames := 3, cells := 0, slots := 0, locals := 92 }) s m args below meth c (ZQ below args s D cy G n0 Qp n0) 6 D cy G n0 9 [(0, vR (some o0)), (1, vI x1), (2, vI x2), (3, vI x3), (4, vI x4)] [] M := by
  refine lpW_sound (P := fun y : Int × Mm => y.2.2.2.2 = n0 → WW p l e ({ frames := 3, cells := 0, slots := 0, locals := 92 }) s m args below meth c (ZQ below args s D cy G n0 Qp n0) 6 D cy G n0 9 [(0, vR (some o0)), (1, vI x1), (2, vI x2), (3, vI x3), (4, vI y.1)] [] y.2) ?_ h hn
  intro K y hK hF
  obtain ⟨x4, M⟩ := y
  intro hn
  exact f_X12_wear_9 C hr h3 hn ho0 hQ  (fun x4 M hk => hK (x4, M) hk) hF
set_option maxRecDepth 100000 in
set_option maxHeartbeats 4000000 in
theorem k_X12_wear_0 {o0 : Nat} {x1 : Int} {x2 : Int} {x3 : Int} {M : Mm} {Q : Mm → Prop} (C : Cx p s m args meth c cX12_wear 6 RX12 D cy G n0) (hr : meth.sig.returnType = none) (h3 : n0 = 243) (hn : M.2.2.2 = n0) (ho0 : o0 < 243 ∧ (SH o0).1 = 12) (hQ : ∀ M, Q M → Qp none M) (h : P_X12_wear o0 x1 x2 x3 M Q ) : WW p l e ({ frames := 3, cells := 0, slots := 0, locals := 92 }) s m args below meth c (ZQ below args s D cy G n0 Qp n0) 6 D cy G n0 0 [(0, vR (some o0)), (1, vI x1), (2, vI x2), (3, vI x3)] [] M := by
  unfold P_X12_wear at h
  refine w_aload_n C dX12_wear_0 rfl (mem_k 0 rfl) ?_
  refine w_iload_n C dX12_wear_1 rfl (mem_k 2 rfl) ?_
  refine w_iload_n C dX12_wear_2 rfl (mem_k 1 rfl) ?_
  refine cl_X12_layLevel (ck_X12_188 ⟨by decide, by decide⟩) C dX12_wear_3 hn h3 (Nat.le_of_ble_eq_true rfl) (isO.n (ci := 12) ⟨rfl, ho0⟩ (hn.trans h3)) h (fun M32 h hn33 => ?_)
  refine w_iconst C dX12_wear_6 ⟨by decide, by decide⟩ ?_
  refine x_istore (L' := [(4, vI 0), (0, vR (some o0)), (1, vI x1), (2, vI x2), (3, vI x3)]) C dX12_wear_7 (by decide) rfl ?_
  refine x_pc (pc2 := 9) rfl ?_
  refine x_pick (L' := [(0, vR (some o0)), (1, vI x1), (2, vI x2), (3, vI x3), (4, vI 0)]) [1, 2, 3, 4, 0] rfl ?_
  exact k_X12_wear_9 C hr h3 hn33 ho0 hQ  h
set_option maxRecDepth 100000 in
set_option maxHeartbeats 4000000 in
theorem con_X12_wear (l : Launch) (D : va_G) (cy : Nat → ClassId) : Con l D cy yX12_wear cX12_wear 6 (none) ({ frames := 3, cells := 0, slots := 0, locals := 92 }) 0 0 SP_X12_wear := by
  refine con_of (by decide) (fun as M Qp h => ?_) ?_
  · obtain ⟨-, o0, x1, x2, x3, rfl, -⟩ := h
    exact Nat.le_of_ble_eq_true rfl
  · intro p e s m args below meth c G as M Qp h C hr hnm
    obtain ⟨hn, o0, x1, x2, x3, rfl, ho1, ho2, Q0, hQ, h⟩ := h
    refine x_pick (L' := [(0, vR (some o0)), (1, vI x1), (2, vI x2), (3, vI x3)]) [0, 1, 2, 3] rfl ?_
    exact k_X12_wear_0 C hr hn rfl ⟨ho1, ho2⟩ hQ h
set_option maxRecDepth 100000 in
set_option maxHeartbeats 4000000 in
theorem cl_X12_wear {p : Program} {l : Launch} {e : Env} {R : Room} {s : State} {m : MethodId} {args : Array Value} {below : List Frame} {meth : Method} {c : Code} {Q : State → Prop} {cc : ByteArray} {nL : Nat} {own : String} {D : va_G} {cy : Nat → ClassId} {G : Nat × Nat} {n0 pc : Nat} {L : List (Nat × PV)} {st : List PV} {M : Mm} {op : Instr} (K : CallOK l D cy R own op 0 0 (spV 12 3 SP_X12_wear)) (C : Cx p s m args meth c cc nL own D cy G n0) (hd : decode cc pc = .ok (op, 3)) (hn : M.2.2.2 = n0) (h3 : n0 = 243) (hlen : argN st ≤ 8) {r : Option Nat} {o0 : Nat} (ho : isOn 12 M.2.2.2 r o0) {x1 : Int} {x2 : Int} {x3 : Int} {Q0 : Mm → Prop} (h : P_X12_wear o0 x1 x2 x3 M Q0) (k : ∀ M2, Q0 M2 → M2.2.2.2 = n0 → WW p l e R s m args below meth c Q nL D cy G n0  (pc + 3) L (st) M2) : WW p l e R s m args below meth c Q nL D cy G n0  pc L (vI x3 :: vI x2 :: vI x1 :: vR r :: st) M := by
  obtain ⟨rfl, ho1, ho2⟩ := ho
  refine x_call0 K C hd (as := [vR (some o0), vI x1, vI x2, vI x3]) rfl hn hlen (fun v M2 => v = none ∧ Q0 M2) ⟨⟨o0, [vI x1, vI x2, vI x3], rfl, rfl, ho1, ho2⟩, hn.trans h3, o0, x1, x2, x3, rfl, (hn.trans h3) ▸ ho1, ho2, Q0, fun M2 hx => ⟨rfl, hx⟩, h⟩ ?_
  rintro _ _ ⟨rfl, hx⟩ hm
  exact k _ hx hm
end W_X12_wear
theorem dX12_years_0 : decode cX12_years 0 = .ok (.aload_n 0, 1) := by decide +kernel
theorem dX12_years_1 : decode cX12_years 1 = .ok (.iload_n 1, 1) := by decide +kernel
theorem dX12_years_2 : decode cX12_years 2 = .ok (.invokevirtual 152, 3) := by decide +kernel
theorem dX12_years_5 : decode cX12_years 5 = .ok (.ifCond .eq 36, 3) := by decide +kernel
theorem dX12_years_8 : decode cX12_years 8 = .ok (.aload_n 0, 1) := by decide +kernel
theorem dX12_years_9 : decode cX12_years 9 = .ok (.iload_n 2, 1) := by decide +kernel
theorem dX12_years_10 : decode cX12_years 10 = .ok (.invokevirtual 155, 3) := by decide +kernel
theorem dX12_years_13 : decode cX12_years 13 = .ok (.ifCond .eq 28, 3) := by decide +kernel
theorem dX12_years_16 : decode cX12_years 16 = .ok (.iload_n 3, 1) := by decide +kernel
theorem dX12_years_17 : decode cX12_years 17 = .ok (.i2l, 1) := by decide +kernel
theorem dX12_years_18 : decode cX12_years 18 = .ok (.lconst 1, 1) := by decide +kernel
theorem dX12_years_19 : decode cX12_years 19 = .ok (.ldc2_w 263, 3) := by decide +kernel
theorem dX12_years_22 : decode cX12_years 22 = .ok (.invokestatic 85, 3) := by decide +kernel
theorem dX12_years_25 : decode cX12_years 25 = .ok (.ifCond .eq 16, 3) := by decide +kernel
theorem dX12_years_28 : decode cX12_years 28 = .ok (.iload 4, 2) := by decide +kernel
theorem dX12_years_30 : decode cX12_years 30 = .ok (.i2l, 1) := by decide +kernel
theorem dX12_years_31 : decode cX12_years 31 = .ok (.lconst 1, 1) := by decide +kernel
theorem dX12_years_32 : decode cX12_years 32 = .ok (.ldc2_w 265, 3) := by decide +kernel
theorem dX12_years_35 : decode cX12_years 35 = .ok (.invokestatic 85, 3) := by decide +kernel
theorem dX12_years_38 : decode cX12_years 38 = .ok (.ifCond .ne 5, 3) := by decide +kernel
theorem dX12_years_41 : decode cX12_years 41 = .ok (.iconst (-1), 1) := by decide +kernel
theorem dX12_years_42 : decode cX12_years 42 = .ok (.ireturn, 1) := by decide +kernel
theorem dX12_years_43 : decode cX12_years 43 = .ok (.aload_n 0, 1) := by decide +kernel
theorem dX12_years_44 : decode cX12_years 44 = .ok (.getfield 40, 3) := by decide +kernel
theorem dX12_years_47 : decode cX12_years 47 = .ok (.iload_n 1, 1) := by decide +kernel
theorem dX12_years_48 : decode cX12_years 48 = .ok (.iaload, 1) := by decide +kernel
theorem dX12_years_49 : decode cX12_years 49 = .ok (.iload 4, 2) := by decide +kernel
theorem dX12_years_51 : decode cX12_years 51 = .ok (.iadd, 1) := by decide +kernel
theorem dX12_years_52 : decode cX12_years 52 = .ok (.bipush 100, 2) := by decide +kernel
theorem dX12_years_54 : decode cX12_years 54 = .ok (.if_icmp .le 6, 3) := by decide +kernel
theorem dX12_years_57 : decode cX12_years 57 = .ok (.bipush (-3), 2) := by decide +kernel
theorem dX12_years_59 : decode cX12_years 59 = .ok (.ireturn, 1) := by decide +kernel
theorem dX12_years_60 : decode cX12_years 60 = .ok (.iconst 0, 1) := by decide +kernel
theorem dX12_years_61 : decode cX12_years 61 = .ok (.istore 5, 2) := by decide +kernel
theorem dX12_years_63 : decode cX12_years 63 = .ok (.iload 5, 2) := by decide +kernel
theorem dX12_years_65 : decode cX12_years 65 = .ok (.iload 4, 2) := by decide +kernel
theorem dX12_years_67 : decode cX12_years 67 = .ok (.if_icmp .ge 16, 3) := by decide +kernel
theorem dX12_years_70 : decode cX12_years 70 = .ok (.aload_n 0, 1) := by decide +kernel
theorem dX12_years_71 : decode cX12_years 71 = .ok (.iload_n 1, 1) := by decide +kernel
theorem dX12_years_72 : decode cX12_years 72 = .ok (.iload_n 2, 1) := by decide +kernel
theorem dX12_years_73 : decode cX12_years 73 = .ok (.iload_n 3, 1) := by decide +kernel
theorem dX12_years_74 : decode cX12_years 74 = .ok (.invokevirtual 267, 3) := by decide +kernel
theorem dX12_years_77 : decode cX12_years 77 = .ok (.iinc 5 1, 3) := by decide +kernel
theorem dX12_years_80 : decode cX12_years 80 = .ok (.goto (-17), 3) := by decide +kernel
theorem dX12_years_83 : decode cX12_years 83 = .ok (.aload_n 0, 1) := by decide +kernel
theorem dX12_years_84 : decode cX12_years 84 = .ok (.getfield 40, 3) := by decide +kernel
theorem dX12_years_87 : decode cX12_years 87 = .ok (.iload_n 1, 1) := by decide +kernel
theorem dX12_years_88 : decode cX12_years 88 = .ok (.dup2, 1) := by decide +kernel
theorem dX12_years_89 : decode cX12_years 89 = .ok (.iaload, 1) := by decide +kernel
theorem dX12_years_90 : decode cX12_years 90 = .ok (.iload 4, 2) := by decide +kernel
theorem dX12_years_92 : decode cX12_years 92 = .ok (.iadd, 1) := by decide +kernel
theorem dX12_years_93 : decode cX12_years 93 = .ok (.iastore, 1) := by decide +kernel
theorem dX12_years_94 : decode cX12_years 94 = .ok (.aload_n 0, 1) := by decide +kernel
theorem dX12_years_95 : decode cX12_years 95 = .ok (.getfield 40, 3) := by decide +kernel
theorem dX12_years_98 : decode cX12_years 98 = .ok (.iload_n 1, 1) := by decide +kernel
theorem dX12_years_99 : decode cX12_years 99 = .ok (.iaload, 1) := by decide +kernel
theorem dX12_years_100 : decode cX12_years 100 = .ok (.ireturn, 1) := by decide +kernel
theorem ck_X12_267 {l : Launch} {D : va_G} {cy : Nat → ClassId} {R : Room} (hR : 4 ≤ R.frames ∧ 117 ≤ R.locals) : CallOK l D cy R RX12 (.invokevirtual 267) 0 0 (spV 12 3 SP_X12_wear) := call_V (ci := 12) (con_X12_wear l D cy) (lwG_5 (i := 156) rfl rfl) (lwG_5 (i := 158) rfl rfl) (lwG_p (i := 43) rfl rfl) (lwG_1 (i := 13) rfl rfl) (lwG_5 (i := 159) rfl rfl) (by decide) ⟨rfl, by decide, by decide, rfl⟩ ⟨rfl, rfl⟩ hR
theorem cn_X12_263 : Cond.constantLong RX12 263 (Int64.ofInt 5000) ∈ lwG := lwG_5 (i := 154) rfl rfl
theorem cn_X12_265 : Cond.constantLong RX12 265 (Int64.ofInt 20) ∈ lwG := lwG_5 (i := 155) rfl rfl
section W_X12_years
variable {p : Program} {l : Launch} {e : Env} {s : State} {m : MethodId} {args : Array Value} {below : List Frame} {meth : Method} {c : Code} {D : va_G} {cy : Nat → ClassId} {G : Nat × Nat} {n0 : Nat} {Qp : Option PV → Mm → Prop}
set_option maxRecDepth 100000 in
set_option maxHeartbeats 4000000 in
theorem f_X12_years_63 {o0 : Nat} {x1 : Int} {x2 : Int} {x3 : Int} {x4 : Int} {x5 : Int} {M : Mm} {Q : Int → Mm → Prop} {K63 : Int × Mm → Prop} (C : Cx p s m args meth c cX12_years 6 RX12 D cy G n0) (hr : meth.sig.returnType = some .int) (h3 : n0 = 243) (hn : M.2.2.2 = n0) (ho0 : o0 < 243 ∧ (SH o0).1 = 12) (hQ : ∀ x M, Q x M → Qp (some (vI x)) M) (hK63 : ∀ (x5 : Int) (M : Mm), K63 (x5, M) → M.2.2.2 = n0 → WW p l e ({ frames := 4, cells := 0, slots := 0, locals := 117 }) s m args below meth c (ZQ below args s D cy G n0 Qp n0) 6 D cy G n0 63 [(0, vR (some o0)), (1, vI x1), (2, vI x2), (3, vI x3), (4, vI x4), (5, vI x5)] [] M) (h : F_X12_years_63 o0 x1 x2 x3 x4 Q  K63 x5 M) : WW p l e ({ frames := 4, cells := 0, slots := 0, locals := 117 }) s m args below meth c (ZQ below args s D cy G n0 Qp n0) 6 D cy G n0 63 [(0, vR (some o0)), (1, vI x1), (2, vI x2), (3, vI x3), (4, vI x4), (5, vI x5)] [] M := by
  unfold F_X12_years_63 at h
  refine w_iload C dX12_years_63 (mem_k 5 rfl) ?_
  refine w_iload C dX12_years_65 (mem_k 4 rfl) ?_
  refine w_icmp_ge (tgt := 83) C dX12_years_67 (by decide) (fun q => ?_) (fun q => ?_)
  · replace h := h.1 q
    refine w_aload_n C dX12_years_83 rfl (mem_k 0 rfl) ?_
    refine x_getR C dX12_years_84 fw_X12_40 (isO.n (ci := 12) ⟨rfl, ho0⟩ (hn.trans h3)) (fun r1 er1 => ?_)
    replace h := h r1 er1
    refine w_iload_n C dX12_years_87 rfl (mem_k 1 rfl) ?_
    refine w_dup2 C dX12_years_88 rfl rfl ?_
    obtain ⟨o2, g3, h⟩ := h
    refine x_iald C dX12_years_89 (isA.n g3 (hn.trans h3)) ?_
    refine w_iload C dX12_years_90 (mem_k 4 rfl) ?_
    refine w_iadd C dX12_years_92 h.1 ?_
    replace h := h.2
    obtain ⟨o4, g5, h⟩ := h
    refine x_iast C dX12_years_93 (isA.n g5 (hn.trans h3)) (fun M6 eM6 hn7 => ?_)
    replace h := h M6 eM6
    replace hn7 := hn7.trans hn
    refine w_aload_n C dX12_years_94 rfl (mem_k 0 rfl) ?_
    refine x_getR C dX12_years_95 fw_X12_40 (isO.n (ci := 12) ⟨rfl, ho0⟩ (hn7.trans h3)) (fun r8 er8 => ?_)
    replace h := h r8 er8
    refine w_iload_n C dX12_years_98 rfl (mem_k 1 rfl) ?_
    obtain ⟨o9, g10, h⟩ := h
    refine x_iald C dX12_years_99 (isA.n g10 (hn7.trans h3)) ?_
    exact x_iret C hr dX12_years_100 hn7 (hQ _ M6 h)
  · replace h := h.2 q
    refine w_aload_n C dX12_years_70 rfl (mem_k 0 rfl) ?_
    refine w_iload_n C dX12_years_71 rfl (mem_k 1 rfl) ?_
    refine w_iload_n C dX12_years_72 rfl (mem_k 2 rfl) ?_
    refine w_iload_n C dX12_years_73 rfl (mem_k 3 rfl) ?_
    refine cl_X12_wear (ck_X12_267 ⟨by decide, by decide⟩) C dX12_years_74 hn h3 (Nat.le_of_ble_eq_true rfl) (isO.n (ci := 12) ⟨rfl, ho0⟩ (hn.trans h3)) h (fun M11 h hn12 => ?_)
    obtain ⟨v13, ev13⟩ : ∃ z : Int, z = x5 + 1 := ⟨_, rfl⟩
    refine x_iinc (L' := [(5, vI v13), (0, vR (some o0)), (1, vI x1), (2, vI x2), (3, vI x3), (4, vI x4)]) C dX12_years_77 (mem_k 5 rfl) (by decide) h.1 ev13 rfl ?_
    replace h := h.2 v13 ev13
    refine w_goto (tgt := 63) C dX12_years_80 (by decide) ?_
    refine x_pc (pc2 := 63) rfl ?_
    refine x_pick (L' := [(0, vR (some o0)), (1, vI x1), (2, vI x2), (3, vI x3), (4, vI x4), (5, vI v13)]) [1, 2, 3, 4, 5, 0] rfl ?_
    exact hK63 v13 M11 h hn12
set_option maxRecDepth 100000 in
set_option maxHeartbeats 4000000 in
theorem k_X12_years_63 {o0 : Nat} {x1 : Int} {x2 : Int} {x3 : Int} {x4 : Int} {x5 : Int} {M : Mm} {Q : Int → Mm → Prop} (C : Cx p s m args meth c cX12_years 6 RX12 D cy G n0) (hr : meth.sig.returnType = some .int) (h3 : n0 = 243) (hn : M.2.2.2 = n0) (ho0 : o0 < 243 ∧ (SH o0).1 = 12) (hQ : ∀ x M, Q x M → Qp (some (vI x)) M) (h : P_X12_years_63 o0 x1 x2 x3 x4 x5 M Q ) : WW p l e ({ frames := 4, cells := 0, slots := 0, locals := 117 }) s m args below meth c (ZQ below args s D cy G n0 Qp n0) 6 D cy G n0 63 [(0, vR (some o0)), (1, vI x1), (2, vI x2), (3, vI x3), (4, vI x4), (5, vI x5)] [] M := by
  refine lpW_sound (P := fun y : Int × Mm => y.2.2.2.2 = n0 → WW p l e ({ frames := 4, cells := 0, slots := 0, locals := 117 }) s m args below meth c (ZQ below args s D cy G n0 Qp n0) 6 D cy G n0 63 [(0, vR (some o0)), (1, vI x1), (2, vI x2), (3, vI x3), (4, vI x4), (5, vI y.1)] [] y.2) ?_ h hn
  intro K y hK hF
  obtain ⟨x5, M⟩ := y
  intro hn
  exact f_X12_years_63 C hr h3 hn ho0 hQ  (fun x5 M hk => hK (x5, M) hk) hF
set_option maxRecDepth 100000 in
set_option maxHeartbeats 4000000 in
theorem k_X12_years_0 {o0 : Nat} {x1 : Int} {x2 : Int} {x3 : Int} {x4 : Int} {M : Mm} {Q : Int → Mm → Prop} (C : Cx p s m args meth c cX12_years 6 RX12 D cy G n0) (hr : meth.sig.returnType = some .int) (h3 : n0 = 243) (hn : M.2.2.2 = n0) (ho0 : o0 < 243 ∧ (SH o0).1 = 12) (hQ : ∀ x M, Q x M → Qp (some (vI x)) M) (h : P_X12_years o0 x1 x2 x3 x4 M Q ) : WW p l e ({ frames := 4, cells := 0, slots := 0, locals := 117 }) s m args below meth c (ZQ below args s D cy G n0 Qp n0) 6 D cy G n0 0 [(0, vR (some o0)), (1, vI x1), (2, vI x2), (3, vI x3), (4, vI x4)] [] M := by
  unfold P_X12_years at h
  refine w_aload_n C dX12_years_0 rfl (mem_k 0 rfl) ?_
  refine w_iload_n C dX12_years_1 rfl (mem_k 1 rfl) ?_
  refine cl_X12_isSeat (ck_X12_152 ⟨by decide, by decide⟩) C dX12_years_2 hn h3 (Nat.le_of_ble_eq_true rfl) (isO.n (ci := 12) ⟨rfl, ho0⟩ (hn.trans h3)) h (fun v14 h => ?_)
  refine w_if_eq (tgt := 41) C dX12_years_5 (by decide) (fun q => ?_) (fun q => ?_)
  · replace h := h.1 q
    refine w_iconst C dX12_years_41 ⟨by decide, by decide⟩ ?_
    exact x_iret C hr dX12_years_42 hn (hQ _ M h)
  · replace h := h.2 q
    refine w_aload_n C dX12_years_8 rfl (mem_k 0 rfl) ?_
    refine w_iload_n C dX12_years_9 rfl (mem_k 2 rfl) ?_
    refine cl_X12_isBody (ck_X12_155 ⟨by decide, by decide⟩) C dX12_years_10 hn h3 (Nat.le_of_ble_eq_true rfl) (isO.n (ci := 12) ⟨rfl, ho0⟩ (hn.trans h3)) h (fun v15 h => ?_)
    refine w_if_eq (tgt := 41) C dX12_years_13 (by decide) (fun q => ?_) (fun q => ?_)
    · replace h := h.1 q
      refine w_iconst C dX12_years_41 ⟨by decide, by decide⟩ ?_
      exact x_iret C hr dX12_years_42 hn (hQ _ M h)
    · replace h := h.2 q
      refine w_iload_n C dX12_years_16 rfl (mem_k 3 rfl) ?_
      refine w_i2l C dX12_years_17 ?_
      refine w_lconst C dX12_years_18 ?_
      refine w_ldc2 (x := 5000) C dX12_years_19 cn_X12_263 ⟨by decide, by decide⟩ ?_
      refine cl_X12_in (ck_X12_85 ⟨by decide, by decide⟩) C dX12_years_22 hn h3 (Nat.le_of_ble_eq_true rfl) h (fun v16 h => ?_)
      refine w_if_eq (tgt := 41) C dX12_years_25 (by decide) (fun q => ?_) (fun q => ?_)
      · replace h := h.1 q
        refine w_iconst C dX12_years_41 ⟨by decide, by decide⟩ ?_
        exact x_iret C hr dX12_years_42 hn (hQ _ M h)
      · replace h := h.2 q
        refine w_iload C dX12_years_28 (mem_k 4 rfl) ?_
        refine w_i2l C dX12_years_30 ?_
        refine w_lconst C dX12_years_31 ?_
        refine w_ldc2 (x := 20) C dX12_years_32 cn_X12_265 ⟨by decide, by decide⟩ ?_
        refine cl_X12_in (ck_X12_85 ⟨by decide, by decide⟩) C dX12_years_35 hn h3 (Nat.le_of_ble_eq_true rfl) h (fun v17 h => ?_)
        refine w_if_ne (tgt := 43) C dX12_years_38 (by decide) (fun q => ?_) (fun q => ?_)
        · replace h := h.1 q
          refine w_aload_n C dX12_years_43 rfl (mem_k 0 rfl) ?_
          refine x_getR C dX12_years_44 fw_X12_40 (isO.n (ci := 12) ⟨rfl, ho0⟩ (hn.trans h3)) (fun r18 er18 => ?_)
          replace h := h r18 er18
          refine w_iload_n C dX12_years_47 rfl (mem_k 1 rfl) ?_
          obtain ⟨o19, g20, h⟩ := h
          refine x_iald C dX12_years_48 (isA.n g20 (hn.trans h3)) ?_
          refine w_iload C dX12_years_49 (mem_k 4 rfl) ?_
          refine w_iadd C dX12_years_51 h.1 ?_
          replace h := h.2
          refine w_bipush C dX12_years_52 (by decide) ?_
          refine w_icmp_le (tgt := 60) C dX12_years_54 (by decide) (fun q => ?_) (fun q => ?_)
          · replace h := h.1 q
            refine w_iconst C dX12_years_60 ⟨by decide, by decide⟩ ?_
            refine x_istore (L' := [(5, vI 0), (0, vR (some o0)), (1, vI x1), (2, vI x2), (3, vI x3), (4, vI x4)]) C dX12_years_61 (by decide) rfl ?_
            refine x_pc (pc2 := 63) rfl ?_
            refine x_pick (L' := [(0, vR (some o0)), (1, vI x1), (2, vI x2), (3, vI x3), (4, vI x4), (5, vI 0)]) [1, 2, 3, 4, 5, 0] rfl ?_
            exact k_X12_years_63 C hr h3 hn ho0 hQ  h
          · replace h := h.2 q
            refine w_bipush C dX12_years_57 (by decide) ?_
            exact x_iret C hr dX12_years_59 hn (hQ _ M h)
        · replace h := h.2 q
          refine w_iconst C dX12_years_41 ⟨by decide, by decide⟩ ?_
          exact x_iret C hr dX12_years_42 hn (hQ _ M h)
set_option maxRecDepth 100000 in
set_option maxHeartbeats 4000000 in
theorem con_X12_years (l : Launch) (D : va_G) (cy : Nat → ClassId) : Con l D cy yX12_years cX12_years 6 (some .int) ({ frames := 4, cells := 0, slots := 0, locals := 117 }) 0 0 SP_X12_years := by
  refine con_of (by decide) (fun as M Qp h => ?_) ?_
  · obtain ⟨-, o0, x1, x2, x3, x4, rfl, -⟩ := h
    exact Nat.le_of_ble_eq_true rfl
  · intro p e s m args below meth c G as M Qp h C hr hnm
    obtain ⟨hn, o0, x1, x2, x3, x4, rfl, ho1, ho2, Q0, hQ, h⟩ := h
    refine x_pick (L' := [(0, vR (some o0)), (1, vI x1), (2, vI x2), (3, vI x3), (4, vI x4)]) [0, 1, 2, 3, 4] rfl ?_
    exact k_X12_years_0 C hr hn rfl ⟨ho1, ho2⟩ hQ h
set_option maxRecDepth 100000 in
set_option maxHeartbeats 4000000 in
theorem cl_X12_years {p : Program} {l : Launch} {e : Env} {R : Room} {s : State} {m : MethodId} {args : Array Value} {below : List Frame} {meth : Method} {c : Code} {Q : State → Prop} {cc : ByteArray} {nL : Nat} {own : String} {D : va_G} {cy : Nat → ClassId} {G : Nat × Nat} {n0 pc : Nat} {L : List (Nat × PV)} {st : List PV} {M : Mm} {op : Instr} (K : CallOK l D cy R own op 0 0 (spV 12 4 SP_X12_years)) (C : Cx p s m args meth c cc nL own D cy G n0) (hd : decode cc pc = .ok (op, 3)) (hn : M.2.2.2 = n0) (h3 : n0 = 243) (hlen : argN st ≤ 8) {r : Option Nat} {o0 : Nat} (ho : isOn 12 M.2.2.2 r o0) {x1 : Int} {x2 : Int} {x3 : Int} {x4 : Int} {Q0 : Int → Mm → Prop} (h : P_X12_years o0 x1 x2 x3 x4 M Q0) (k : ∀ x M2, Q0 x M2 → M2.2.2.2 = n0 → WW p l e R s m args below meth c Q nL D cy G n0  (pc + 3) L (vI x :: st) M2) : WW p l e R s m args below meth c Q nL D cy G n0  pc L (vI x4 :: vI x3 :: vI x2 :: vI x1 :: vR r :: st) M := by
  obtain ⟨rfl, ho1, ho2⟩ := ho
  refine x_call0 K C hd (as := [vR (some o0), vI x1, vI x2, vI x3, vI x4]) rfl hn hlen (fun v M2 => ∃ x, v = some (vI x) ∧ Q0 x M2) ⟨⟨o0, [vI x1, vI x2, vI x3, vI x4], rfl, rfl, ho1, ho2⟩, hn.trans h3, o0, x1, x2, x3, x4, rfl, (hn.trans h3) ▸ ho1, ho2, Q0, fun x M2 hx => ⟨x, rfl, hx⟩, h⟩ ?_
  rintro _ _ ⟨x, rfl, hx⟩ hm
  exact k x _ hx hm
end W_X12_years
theorem dX12_worn_0 : decode cX12_worn 0 = .ok (.aload_n 0, 1) := by decide +kernel
theorem dX12_worn_1 : decode cX12_worn 1 = .ok (.iload_n 1, 1) := by decide +kernel
theorem dX12_worn_2 : decode cX12_worn 2 = .ok (.iload_n 2, 1) := by decide +kernel
theorem dX12_worn_3 : decode cX12_worn 3 = .ok (.invokevirtual 195, 3) := by decide +kernel
theorem dX12_worn_6 : decode cX12_worn 6 = .ok (.ifCond .eq 17, 3) := by decide +kernel
theorem dX12_worn_9 : decode cX12_worn 9 = .ok (.aload_n 0, 1) := by decide +kernel
theorem dX12_worn_10 : decode cX12_worn 10 = .ok (.getfield 37, 3) := by decide +kernel
theorem dX12_worn_13 : decode cX12_worn 13 = .ok (.bipush 6, 2) := by decide +kernel
theorem dX12_worn_15 : decode cX12_worn 15 = .ok (.iload_n 1, 1) := by decide +kernel
theorem dX12_worn_16 : decode cX12_worn 16 = .ok (.imul, 1) := by decide +kernel
theorem dX12_worn_17 : decode cX12_worn 17 = .ok (.iload_n 2, 1) := by decide +kernel
theorem dX12_worn_18 : decode cX12_worn 18 = .ok (.iadd, 1) := by decide +kernel
theorem dX12_worn_19 : decode cX12_worn 19 = .ok (.iaload, 1) := by decide +kernel
theorem dX12_worn_20 : decode cX12_worn 20 = .ok (.goto 4, 3) := by decide +kernel
theorem dX12_worn_23 : decode cX12_worn 23 = .ok (.iconst (-1), 1) := by decide +kernel
theorem dX12_worn_24 : decode cX12_worn 24 = .ok (.ireturn, 1) := by decide +kernel
section W_X12_worn
variable {p : Program} {l : Launch} {e : Env} {s : State} {m : MethodId} {args : Array Value} {below : List Frame} {meth : Method} {c : Code} {D : va_G} {cy : Nat → ClassId} {G : Nat × Nat} {n0 : Nat} {Qp : Option PV → Mm → Prop}
set_option maxRecDepth 100000 in
set_option maxHeartbeats 4000000 in
theorem k_X12_worn_0 {o0 : Nat} {x1 : Int} {x2 : Int} {M : Mm} {Q : Int → Prop} (C : Cx p s m args meth c cX12_worn 3 RX12 D cy G n0) (hr : meth.sig.returnType = some .int) (h3 : n0 = 243) (hn : M.2.2.2 = n0) (ho0 : o0 < 243 ∧ (SH o0).1 = 12) (hQ : ∀ x, Q x → Qp (some (vI x)) M) (h : P_X12_worn o0 x1 x2 M Q ) : WW p l e ({ frames := 3, cells := 0, slots := 0, locals := 68 }) s m args below meth c (ZQ below args s D cy G n0 Qp n0) 3 D cy G n0 0 [(0, vR (some o0)), (1, vI x1), (2, vI x2)] [] M := by
  unfold P_X12_worn at h
  refine w_aload_n C dX12_worn_0 rfl (mem_k 0 rfl) ?_
  refine w_iload_n C dX12_worn_1 rfl (mem_k 1 rfl) ?_
  refine w_iload_n C dX12_worn_2 rfl (mem_k 2 rfl) ?_
  refine cl_X12_isPatch (ck_X12_195 ⟨by decide, by decide⟩) C dX12_worn_3 hn h3 (Nat.le_of_ble_eq_true rfl) (isO.n (ci := 12) ⟨rfl, ho0⟩ (hn.trans h3)) h (fun v1 h => ?_)
  refine w_if_eq (tgt := 23) C dX12_worn_6 (by decide) (fun q => ?_) (fun q => ?_)
  · replace h := h.1 q
    refine w_iconst C dX12_worn_23 ⟨by decide, by decide⟩ ?_
    exact x_iret C hr dX12_worn_24 hn (hQ _ h)
  · replace h := h.2 q
    refine w_aload_n C dX12_worn_9 rfl (mem_k 0 rfl) ?_
    refine x_getR C dX12_worn_10 fw_X12_37 (isO.n (ci := 12) ⟨rfl, ho0⟩ (hn.trans h3)) (fun r2 er2 => ?_)
    replace h := h r2 er2
    refine w_bipush C dX12_worn_13 (by decide) ?_
    refine w_iload_n C dX12_worn_15 rfl (mem_k 1 rfl) ?_
    refine w_imul C dX12_worn_16 h.1 ?_
    replace h := h.2
    refine w_iload_n C dX12_worn_17 rfl (mem_k 2 rfl) ?_
    refine w_iadd C dX12_worn_18 h.1 ?_
    replace h := h.2
    obtain ⟨o3, g4, h⟩ := h
    refine x_iald C dX12_worn_19 (isA.n g4 (hn.trans h3)) ?_
    refine w_goto (tgt := 24) C dX12_worn_20 (by decide) ?_
    exact x_iret C hr dX12_worn_24 hn (hQ _ h)
set_option maxRecDepth 100000 in
set_option maxHeartbeats 4000000 in
theorem con_X12_worn (l : Launch) (D : va_G) (cy : Nat → ClassId) : Con l D cy yX12_worn cX12_worn 3 (some .int) ({ frames := 3, cells := 0, slots := 0, locals := 68 }) 0 0 SP_X12_worn := by
  refine con_of (by decide) (fun as M Qp h => ?_) ?_
  · obtain ⟨-, o0, x1, x2, rfl, -⟩ := h
    exact Nat.le_of_ble_eq_true rfl
  · intro p e s m args below meth c G as M Qp h C hr hnm
    obtain ⟨hn, o0, x1, x2, rfl, ho1, ho2, Q0, hQ, h⟩ := h
    refine x_pick (L' := [(0, vR (some o0)), (1, vI x1), (2, vI x2)]) [0, 1, 2] rfl ?_
    exact k_X12_worn_0 C hr hn rfl ⟨ho1, ho2⟩ hQ h
set_option maxRecDepth 100000 in
set_option maxHeartbeats 4000000 in
theorem cl_X12_worn {p : Program} {l : Launch} {e : Env} {R : Room} {s : State} {m : MethodId} {args : Array Value} {below : List Frame} {meth : Method} {c : Code} {Q : State → Prop} {cc : ByteArray} {nL : Nat} {own : String} {D : va_G} {cy : Nat → ClassId} {G : Nat × Nat} {n0 pc : Nat} {L : List (Nat × PV)} {st : List PV} {M : Mm} {op : Instr} (K : CallOK l D cy R own op 0 0 (spV 12 2 SP_X12_worn)) (C : Cx p s m args meth c cc nL own D cy G n0) (hd : decode cc pc = .ok (op, 3)) (hn : M.2.2.2 = n0) (h3 : n0 = 243) (hlen : argN st ≤ 8) {r : Option Nat} {o0 : Nat} (ho : isOn 12 M.2.2.2 r o0) {x1 : Int} {x2 : Int} {Q0 : Int → Prop} (h : P_X12_worn o0 x1 x2 M Q0) (k : ∀ x, Q0 x → WW p l e R s m args below meth c Q nL D cy G n0  (pc + 3) L (vI x :: st) M) : WW p l e R s m args below meth c Q nL D cy G n0  pc L (vI x2 :: vI x1 :: vR r :: st) M := by
  obtain ⟨rfl, ho1, ho2⟩ := ho
  refine x_call0 K C hd (as := [vR (some o0), vI x1, vI x2]) rfl hn hlen (fun v M2 => ∃ x, v = some (vI x) ∧ M2 = M ∧ Q0 x) ⟨⟨o0, [vI x1, vI x2], rfl, rfl, ho1, ho2⟩, hn.trans h3, o0, x1, x2, rfl, (hn.trans h3) ▸ ho1, ho2, Q0, fun x hx => ⟨x, rfl, rfl, hx⟩, h⟩ ?_
  rintro _ _ ⟨x, rfl, rfl, hx⟩ hm
  exact k x hx
end W_X12_worn
theorem dX12_isPast_0 : decode cX12_isPast 0 = .ok (.iconst 0, 1) := by decide +kernel
theorem dX12_isPast_1 : decode cX12_isPast 1 = .ok (.istore_n 3, 1) := by decide +kernel
theorem dX12_isPast_2 : decode cX12_isPast 2 = .ok (.iconst 0, 1) := by decide +kernel
theorem dX12_isPast_3 : decode cX12_isPast 3 = .ok (.istore 4, 2) := by decide +kernel
theorem dX12_isPast_5 : decode cX12_isPast 5 = .ok (.iload 4, 2) := by decide +kernel
theorem dX12_isPast_7 : decode cX12_isPast 7 = .ok (.aload_n 0, 1) := by decide +kernel
theorem dX12_isPast_8 : decode cX12_isPast 8 = .ok (.getfield 31, 3) := by decide +kernel
theorem dX12_isPast_11 : decode cX12_isPast 11 = .ok (.bipush 6, 2) := by decide +kernel
theorem dX12_isPast_13 : decode cX12_isPast 13 = .ok (.iload_n 1, 1) := by decide +kernel
theorem dX12_isPast_14 : decode cX12_isPast 14 = .ok (.iadd, 1) := by decide +kernel
theorem dX12_isPast_15 : decode cX12_isPast 15 = .ok (.iaload, 1) := by decide +kernel
theorem dX12_isPast_16 : decode cX12_isPast 16 = .ok (.if_icmp .ge 35, 3) := by decide +kernel
theorem dX12_isPast_19 : decode cX12_isPast 19 = .ok (.iload_n 3, 1) := by decide +kernel
theorem dX12_isPast_20 : decode cX12_isPast 20 = .ok (.ifCond .ne 19, 3) := by decide +kernel
theorem dX12_isPast_23 : decode cX12_isPast 23 = .ok (.aload_n 0, 1) := by decide +kernel
theorem dX12_isPast_24 : decode cX12_isPast 24 = .ok (.getfield 37, 3) := by decide +kernel
theorem dX12_isPast_27 : decode cX12_isPast 27 = .ok (.bipush 6, 2) := by decide +kernel
theorem dX12_isPast_29 : decode cX12_isPast 29 = .ok (.iload_n 1, 1) := by decide +kernel
theorem dX12_isPast_30 : decode cX12_isPast 30 = .ok (.imul, 1) := by decide +kernel
theorem dX12_isPast_31 : decode cX12_isPast 31 = .ok (.iload 4, 2) := by decide +kernel
theorem dX12_isPast_33 : decode cX12_isPast 33 = .ok (.iadd, 1) := by decide +kernel
theorem dX12_isPast_34 : decode cX12_isPast 34 = .ok (.iaload, 1) := by decide +kernel
theorem dX12_isPast_35 : decode cX12_isPast 35 = .ok (.iload_n 2, 1) := by decide +kernel
theorem dX12_isPast_36 : decode cX12_isPast 36 = .ok (.if_icmp .lt 7, 3) := by decide +kernel
theorem dX12_isPast_39 : decode cX12_isPast 39 = .ok (.iconst 1, 1) := by decide +kernel
theorem dX12_isPast_40 : decode cX12_isPast 40 = .ok (.goto 4, 3) := by decide +kernel
theorem dX12_isPast_43 : decode cX12_isPast 43 = .ok (.iconst 0, 1) := by decide +kernel
theorem dX12_isPast_44 : decode cX12_isPast 44 = .ok (.istore_n 3, 1) := by decide +kernel
theorem dX12_isPast_45 : decode cX12_isPast 45 = .ok (.iinc 4 1, 3) := by decide +kernel
theorem dX12_isPast_48 : decode cX12_isPast 48 = .ok (.goto (-43), 3) := by decide +kernel
theorem dX12_isPast_51 : decode cX12_isPast 51 = .ok (.iload_n 3, 1) := by decide +kernel
theorem dX12_isPast_52 : decode cX12_isPast 52 = .ok (.ireturn, 1) := by decide +kernel
section W_X12_isPast
variable {p : Program} {l : Launch} {e : Env} {s : State} {m : MethodId} {args : Array Value} {below : List Frame} {meth : Method} {c : Code} {D : va_G} {cy : Nat → ClassId} {G : Nat × Nat} {n0 : Nat} {Qp : Option PV → Mm → Prop}
set_option maxRecDepth 100000 in
set_option maxHeartbeats 4000000 in
theorem f_X12_isPast_5 {o0 : Nat} {x1 : Int} {x2 : Int} {x3 : Int} {x4 : Int} {M : Mm} {Q : Int → Prop} {K5 : Int × Int → Prop} (C : Cx p s m args meth c cX12_isPast 5 RX12 D cy G n0) (hr : meth.sig.returnType = some .boolean) (h3 : n0 = 243) (hn : M.2.2.2 = n0) (ho0 : o0 < 243 ∧ (SH o0).1 = 12) (hQ : ∀ x, Q x → Qp (some (vI x)) M) (hK5 : ∀ (x3 : Int) (x4 : Int), K5 (x3, x4) → WW p l e ({ frames := 0, cells := 0, slots := 0, locals := 0 }) s m args below meth c (ZQ below args s D cy G n0 Qp n0) 5 D cy G n0 5 [(0, vR (some o0)), (1, vI x1), (2, vI x2), (3, vI x3), (4, vI x4)] [] M) (h : F_X12_isPast_5 o0 x1 x2 M Q  K5 x3 x4) : WW p l e ({ frames := 0, cells := 0, slots := 0, locals := 0 }) s m args below meth c (ZQ below args s D cy G n0 Qp n0) 5 D cy G n0 5 [(0, vR (some o0)), (1, vI x1), (2, vI x2), (3, vI x3), (4, vI x4)] [] M := by
  unfold F_X12_isPast_5 at h
  refine w_iload C dX12_isPast_5 (mem_k 4 rfl) ?_
  refine w_aload_n C dX12_isPast_7 rfl (mem_k 0 rfl) ?_
  refine x_getR C dX12_isPast_8 fw_X12_31 (isO.n (ci := 12) ⟨rfl, ho0⟩ (hn.trans h3)) (fun r1 er1 => ?_)
  replace h := h r1 er1
  refine w_bipush C dX12_isPast_11 (by decide) ?_
  refine w_iload_n C dX12_isPast_13 rfl (mem_k 1 rfl) ?_
  refine w_iadd C dX12_isPast_14 h.1 ?_
  replace h := h.2
  obtain ⟨o2, g3, h⟩ := h
  refine x_iald C dX12_isPast_15 (isA.n g3 (hn.trans h3)) ?_
  refine w_icmp_ge (tgt := 51) C dX12_isPast_16 (by decide) (fun q => ?_) (fun q => ?_)
  · replace h := h.1 q
    refine w_iload_n C dX12_isPast_51 rfl (mem_k 3 rfl) ?_
    exact x_zret C hr dX12_isPast_52 hn h.1 (hQ _ h.2)
  · replace h := h.2 q
    refine w_iload_n C dX12_isPast_19 rfl (mem_k 3 rfl) ?_
    refine w_if_ne (tgt := 39) C dX12_isPast_20 (by decide) (fun q => ?_) (fun q => ?_)
    · replace h := h.1 q
      refine w_iconst C dX12_isPast_39 ⟨by decide, by decide⟩ ?_
      refine w_goto (tgt := 44) C dX12_isPast_40 (by decide) ?_
      refine x_istore_n (L' := [(3, vI 1), (0, vR (some o0)), (1, vI x1), (2, vI x2), (4, vI x4)]) C dX12_isPast_44 rfl (by decide) rfl ?_
      obtain ⟨v4, ev4⟩ : ∃ z : Int, z = x4 + 1 := ⟨_, rfl⟩
      refine x_iinc (L' := [(4, vI v4), (3, vI 1), (0, vR (some o0)), (1, vI x1), (2, vI x2)]) C dX12_isPast_45 (mem_k 4 rfl) (by decide) h.1 ev4 rfl ?_
      replace h := h.2 v4 ev4
      refine w_goto (tgt := 5) C dX12_isPast_48 (by decide) ?_
      refine x_pc (pc2 := 5) rfl ?_
      refine x_pick (L' := [(0, vR (some o0)), (1, vI x1), (2, vI x2), (3, vI 1), (4, vI v4)]) [2, 3, 4, 1, 0] rfl ?_
      exact hK5 1 v4 h
    · replace h := h.2 q
      refine w_aload_n C dX12_isPast_23 rfl (mem_k 0 rfl) ?_
      refine x_getR C dX12_isPast_24 fw_X12_37 (isO.n (ci := 12) ⟨rfl, ho0⟩ (hn.trans h3)) (fun r5 er5 => ?_)
      replace h := h r5 er5
      refine w_bipush C dX12_isPast_27 (by decide) ?_
      refine w_iload_n C dX12_isPast_29 rfl (mem_k 1 rfl) ?_
      refine w_imul C dX12_isPast_30 h.1 ?_
      replace h := h.2
      refine w_iload C dX12_isPast_31 (mem_k 4 rfl) ?_
      refine w_iadd C dX12_isPast_33 h.1 ?_
      replace h := h.2
      obtain ⟨o6, g7, h⟩ := h
      refine x_iald C dX12_isPast_34 (isA.n g7 (hn.trans h3)) ?_
      refine w_iload_n C dX12_isPast_35 rfl (mem_k 2 rfl) ?_
      refine w_icmp_lt (tgt := 43) C dX12_isPast_36 (by decide) (fun q => ?_) (fun q => ?_)
      · replace h := h.1 q
        refine w_iconst C dX12_isPast_43 ⟨by decide, by decide⟩ ?_
        refine x_istore_n (L' := [(3, vI 0), (0, vR (some o0)), (1, vI x1), (2, vI x2), (4, vI x4)]) C dX12_isPast_44 rfl (by decide) rfl ?_
        obtain ⟨v8, ev8⟩ : ∃ z : Int, z = x4 + 1 := ⟨_, rfl⟩
        refine x_iinc (L' := [(4, vI v8), (3, vI 0), (0, vR (some o0)), (1, vI x1), (2, vI x2)]) C dX12_isPast_45 (mem_k 4 rfl) (by decide) h.1 ev8 rfl ?_
        replace h := h.2 v8 ev8
        refine w_goto (tgt := 5) C dX12_isPast_48 (by decide) ?_
        refine x_pc (pc2 := 5) rfl ?_
        refine x_pick (L' := [(0, vR (some o0)), (1, vI x1), (2, vI x2), (3, vI 0), (4, vI v8)]) [2, 3, 4, 1, 0] rfl ?_
        exact hK5 0 v8 h
      · replace h := h.2 q
        refine w_iconst C dX12_isPast_39 ⟨by decide, by decide⟩ ?_
        refine w_goto (tgt := 44) C dX12_isPast_40 (by decide) ?_
        refine x_istore_n (L' := [(3, vI 1), (0, vR (some o0)), (1, vI x1), (2, vI x2), (4, vI x4)]) C dX12_isPast_44 rfl (by decide) rfl ?_
        obtain ⟨v9, ev9⟩ : ∃ z : Int, z = x4 + 1 := ⟨_, rfl⟩
        refine x_iinc (L' := [(4, vI v9), (3, vI 1), (0, vR (some o0)), (1, vI x1), (2, vI x2)]) C dX12_isPast_45 (mem_k 4 rfl) (by decide) h.1 ev9 rfl ?_
        replace h := h.2 v9 ev9
        refine w_goto (tgt := 5) C dX12_isPast_48 (by decide) ?_
        refine x_pc (pc2 := 5) rfl ?_
        refine x_pick (L' := [(0, vR (some o0)), (1, vI x1), (2, vI x2), (3, vI 1), (4, vI v9)]) [2, 3, 4, 1, 0] rfl ?_
        exact hK5 1 v9 h
set_option maxRecDepth 100000 in
set_option maxHeartbeats 4000000 in
theorem k_X12_isPast_5 {o0 : Nat} {x1 : Int} {x2 : Int} {x3 : Int} {x4 : Int} {M : Mm} {Q : Int → Prop} (C : Cx p s m args meth c cX12_isPast 5 RX12 D cy G n0) (hr : meth.sig.returnType = some .boolean) (h3 : n0 = 243) (hn : M.2.2.2 = n0) (ho0 : o0 < 243 ∧ (SH o0).1 = 12) (hQ : ∀ x, Q x → Qp (some (vI x)) M) (h : P_X12_isPast_5 o0 x1 x2 x3 x4 M Q ) : WW p l e ({ frames := 0, cells := 0, slots := 0, locals := 0 }) s m args below meth c (ZQ below args s D cy G n0 Qp n0) 5 D cy G n0 5 [(0, vR (some o0)), (1, vI x1), (2, vI x2), (3, vI x3), (4, vI x4)] [] M := by
  refine lpW_sound (P := fun y : Int × Int => WW p l e ({ frames := 0, cells := 0, slots := 0, locals := 0 }) s m args below meth c (ZQ below args s D cy G n0 Qp n0) 5 D cy G n0 5 [(0, vR (some o0)), (1, vI x1), (2, vI x2), (3, vI y.1), (4, vI y.2)] [] M) ?_ h
  intro K y hK hF
  obtain ⟨x3, x4⟩ := y
  exact f_X12_isPast_5 C hr h3 hn ho0 hQ  (fun x3 x4 hk => hK (x3, x4) hk) hF
set_option maxRecDepth 100000 in
set_option maxHeartbeats 4000000 in
theorem k_X12_isPast_0 {o0 : Nat} {x1 : Int} {x2 : Int} {M : Mm} {Q : Int → Prop} (C : Cx p s m args meth c cX12_isPast 5 RX12 D cy G n0) (hr : meth.sig.returnType = some .boolean) (h3 : n0 = 243) (hn : M.2.2.2 = n0) (ho0 : o0 < 243 ∧ (SH o0).1 = 12) (hQ : ∀ x, Q x → Qp (some (vI x)) M) (h : P_X12_isPast o0 x1 x2 M Q ) : WW p l e ({ frames := 0, cells := 0, slots := 0, locals := 0 }) s m args below meth c (ZQ below args s D cy G n0 Qp n0) 5 D cy G n0 0 [(0, vR (some o0)), (1, vI x1), (2, vI x2)] [] M := by
  unfold P_X12_isPast at h
  refine w_iconst C dX12_isPast_0 ⟨by decide, by decide⟩ ?_
  refine x_istore_n (L' := [(3, vI 0), (0, vR (some o0)), (1, vI x1), (2, vI x2)]) C dX12_isPast_1 rfl (by decide) rfl ?_
  refine w_iconst C dX12_isPast_2 ⟨by decide, by decide⟩ ?_
  refine x_istore (L' := [(4, vI 0), (3, vI 0), (0, vR (some o0)), (1, vI x1), (2, vI x2)]) C dX12_isPast_3 (by decide) rfl ?_
  refine x_pc (pc2 := 5) rfl ?_
  refine x_pick (L' := [(0, vR (some o0)), (1, vI x1), (2, vI x2), (3, vI 0), (4, vI 0)]) [2, 3, 4, 1, 0] rfl ?_
  exact k_X12_isPast_5 C hr h3 hn ho0 hQ  h
set_option maxRecDepth 100000 in
set_option maxHeartbeats 4000000 in
theorem con_X12_isPast (l : Launch) (D : va_G) (cy : Nat → ClassId) : Con l D cy yX12_isPast cX12_isPast 5 (some .boolean) ({ frames := 0, cells := 0, slots := 0, locals := 0 }) 0 0 SP_X12_isPast := by
  refine con_of (by decide) (fun as M Qp h => ?_) ?_
  · obtain ⟨-, o0, x1, x2, rfl, -⟩ := h
    exact Nat.le_of_ble_eq_true rfl
  · intro p e s m args below meth c G as M Qp h C hr hnm
    obtain ⟨hn, o0, x1, x2, rfl, ho1, ho2, Q0, hQ, h⟩ := h
    refine x_pick (L' := [(0, vR (some o0)), (1, vI x1), (2, vI x2)]) [0, 1, 2] rfl ?_
    exact k_X12_isPast_0 C hr hn rfl ⟨ho1, ho2⟩ hQ h
set_option maxRecDepth 100000 in
set_option maxHeartbeats 4000000 in
theorem cl_X12_isPast {p : Program} {l : Launch} {e : Env} {R : Room} {s : State} {m : MethodId} {args : Array Value} {below : List Frame} {meth : Method} {c : Code} {Q : State → Prop} {cc : ByteArray} {nL : Nat} {own : String} {D : va_G} {cy : Nat → ClassId} {G : Nat × Nat} {n0 pc : Nat} {L : List (Nat × PV)} {st : List PV} {M : Mm} {op : Instr} (K : CallOK l D cy R own op 0 0 (spV 12 2 SP_X12_isPast)) (C : Cx p s m args meth c cc nL own D cy G n0) (hd : decode cc pc = .ok (op, 3)) (hn : M.2.2.2 = n0) (h3 : n0 = 243) (hlen : argN st ≤ 8) {r : Option Nat} {o0 : Nat} (ho : isOn 12 M.2.2.2 r o0) {x1 : Int} {x2 : Int} {Q0 : Int → Prop} (h : P_X12_isPast o0 x1 x2 M Q0) (k : ∀ x, Q0 x → WW p l e R s m args below meth c Q nL D cy G n0  (pc + 3) L (vI x :: st) M) : WW p l e R s m args below meth c Q nL D cy G n0  pc L (vI x2 :: vI x1 :: vR r :: st) M := by
  obtain ⟨rfl, ho1, ho2⟩ := ho
  refine x_call0 K C hd (as := [vR (some o0), vI x1, vI x2]) rfl hn hlen (fun v M2 => ∃ x, v = some (vI x) ∧ M2 = M ∧ Q0 x) ⟨⟨o0, [vI x1, vI x2], rfl, rfl, ho1, ho2⟩, hn.trans h3, o0, x1, x2, rfl, (hn.trans h3) ▸ ho1, ho2, Q0, fun x hx => ⟨x, rfl, rfl, hx⟩, h⟩ ?_
  rintro _ _ ⟨x, rfl, rfl, hx⟩ hm
  exact k x hx
end W_X12_isPast
theorem dX12_until_0 : decode cX12_until 0 = .ok (.aload_n 0, 1) := by decide +kernel
theorem dX12_until_1 : decode cX12_until 1 = .ok (.iload_n 1, 1) := by decide +kernel
theorem dX12_until_2 : decode cX12_until 2 = .ok (.invokevirtual 152, 3) := by decide +kernel
theorem dX12_until_5 : decode cX12_until 5 = .ok (.ifCond .eq 36, 3) := by decide +kernel
theorem dX12_until_8 : decode cX12_until 8 = .ok (.aload_n 0, 1) := by decide +kernel
theorem dX12_until_9 : decode cX12_until 9 = .ok (.iload_n 2, 1) := by decide +kernel
theorem dX12_until_10 : decode cX12_until 10 = .ok (.invokevirtual 155, 3) := by decide +kernel
theorem dX12_until_13 : decode cX12_until 13 = .ok (.ifCond .eq 28, 3) := by decide +kernel
theorem dX12_until_16 : decode cX12_until 16 = .ok (.iload_n 3, 1) := by decide +kernel
theorem dX12_until_17 : decode cX12_until 17 = .ok (.i2l, 1) := by decide +kernel
theorem dX12_until_18 : decode cX12_until 18 = .ok (.lconst 1, 1) := by decide +kernel
theorem dX12_until_19 : decode cX12_until 19 = .ok (.ldc2_w 263, 3) := by decide +kernel
theorem dX12_until_22 : decode cX12_until 22 = .ok (.invokestatic 85, 3) := by decide +kernel
theorem dX12_until_25 : decode cX12_until 25 = .ok (.ifCond .eq 16, 3) := by decide +kernel
theorem dX12_until_28 : decode cX12_until 28 = .ok (.iload 4, 2) := by decide +kernel
theorem dX12_until_30 : decode cX12_until 30 = .ok (.i2l, 1) := by decide +kernel
theorem dX12_until_31 : decode cX12_until 31 = .ok (.lconst 1, 1) := by decide +kernel
theorem dX12_until_32 : decode cX12_until 32 = .ok (.ldc2_w 103, 3) := by decide +kernel
theorem dX12_until_35 : decode cX12_until 35 = .ok (.invokestatic 85, 3) := by decide +kernel
theorem dX12_until_38 : decode cX12_until 38 = .ok (.ifCond .ne 5, 3) := by decide +kernel
theorem dX12_until_41 : decode cX12_until 41 = .ok (.iconst (-1), 1) := by decide +kernel
theorem dX12_until_42 : decode cX12_until 42 = .ok (.ireturn, 1) := by decide +kernel
theorem dX12_until_43 : decode cX12_until 43 = .ok (.iconst 0, 1) := by decide +kernel
theorem dX12_until_44 : decode cX12_until 44 = .ok (.istore 5, 2) := by decide +kernel
theorem dX12_until_46 : decode cX12_until 46 = .ok (.iload 5, 2) := by decide +kernel
theorem dX12_until_48 : decode cX12_until 48 = .ok (.bipush 6, 2) := by decide +kernel
theorem dX12_until_50 : decode cX12_until 50 = .ok (.if_icmp .ge 28, 3) := by decide +kernel
theorem dX12_until_53 : decode cX12_until 53 = .ok (.aload_n 0, 1) := by decide +kernel
theorem dX12_until_54 : decode cX12_until 54 = .ok (.getfield 80, 3) := by decide +kernel
theorem dX12_until_57 : decode cX12_until 57 = .ok (.iload 5, 2) := by decide +kernel
theorem dX12_until_59 : decode cX12_until 59 = .ok (.aload_n 0, 1) := by decide +kernel
theorem dX12_until_60 : decode cX12_until 60 = .ok (.getfield 37, 3) := by decide +kernel
theorem dX12_until_63 : decode cX12_until 63 = .ok (.bipush 6, 2) := by decide +kernel
theorem dX12_until_65 : decode cX12_until 65 = .ok (.iload_n 1, 1) := by decide +kernel
theorem dX12_until_66 : decode cX12_until 66 = .ok (.imul, 1) := by decide +kernel
theorem dX12_until_67 : decode cX12_until 67 = .ok (.iload 5, 2) := by decide +kernel
theorem dX12_until_69 : decode cX12_until 69 = .ok (.iadd, 1) := by decide +kernel
theorem dX12_until_70 : decode cX12_until 70 = .ok (.iaload, 1) := by decide +kernel
theorem dX12_until_71 : decode cX12_until 71 = .ok (.iastore, 1) := by decide +kernel
theorem dX12_until_72 : decode cX12_until 72 = .ok (.iinc 5 1, 3) := by decide +kernel
theorem dX12_until_75 : decode cX12_until 75 = .ok (.goto (-29), 3) := by decide +kernel
theorem dX12_until_78 : decode cX12_until 78 = .ok (.iconst 0, 1) := by decide +kernel
theorem dX12_until_79 : decode cX12_until 79 = .ok (.istore 5, 2) := by decide +kernel
theorem dX12_until_81 : decode cX12_until 81 = .ok (.iload 5, 2) := by decide +kernel
theorem dX12_until_83 : decode cX12_until 83 = .ok (.bipush 100, 2) := by decide +kernel
theorem dX12_until_85 : decode cX12_until 85 = .ok (.if_icmp .gt 26, 3) := by decide +kernel
theorem dX12_until_88 : decode cX12_until 88 = .ok (.aload_n 0, 1) := by decide +kernel
theorem dX12_until_89 : decode cX12_until 89 = .ok (.iload_n 1, 1) := by decide +kernel
theorem dX12_until_90 : decode cX12_until 90 = .ok (.iload 4, 2) := by decide +kernel
theorem dX12_until_92 : decode cX12_until 92 = .ok (.invokevirtual 271, 3) := by decide +kernel
theorem dX12_until_95 : decode cX12_until 95 = .ok (.ifCond .ne 16, 3) := by decide +kernel
theorem dX12_until_98 : decode cX12_until 98 = .ok (.aload_n 0, 1) := by decide +kernel
theorem dX12_until_99 : decode cX12_until 99 = .ok (.iload_n 1, 1) := by decide +kernel
theorem dX12_until_100 : decode cX12_until 100 = .ok (.iload_n 2, 1) := by decide +kernel
theorem dX12_until_101 : decode cX12_until 101 = .ok (.iload_n 3, 1) := by decide +kernel
theorem dX12_until_102 : decode cX12_until 102 = .ok (.invokevirtual 267, 3) := by decide +kernel
theorem dX12_until_105 : decode cX12_until 105 = .ok (.iinc 5 1, 3) := by decide +kernel
theorem dX12_until_108 : decode cX12_until 108 = .ok (.goto (-27), 3) := by decide +kernel
theorem dX12_until_111 : decode cX12_until 111 = .ok (.iconst 0, 1) := by decide +kernel
theorem dX12_until_112 : decode cX12_until 112 = .ok (.istore 6, 2) := by decide +kernel
theorem dX12_until_114 : decode cX12_until 114 = .ok (.iload 6, 2) := by decide +kernel
theorem dX12_until_116 : decode cX12_until 116 = .ok (.bipush 6, 2) := by decide +kernel
theorem dX12_until_118 : decode cX12_until 118 = .ok (.if_icmp .ge 28, 3) := by decide +kernel
theorem dX12_until_121 : decode cX12_until 121 = .ok (.aload_n 0, 1) := by decide +kernel
theorem dX12_until_122 : decode cX12_until 122 = .ok (.getfield 37, 3) := by decide +kernel
theorem dX12_until_125 : decode cX12_until 125 = .ok (.bipush 6, 2) := by decide +kernel
theorem dX12_until_127 : decode cX12_until 127 = .ok (.iload_n 1, 1) := by decide +kernel
theorem dX12_until_128 : decode cX12_until 128 = .ok (.imul, 1) := by decide +kernel
theorem dX12_until_129 : decode cX12_until 129 = .ok (.iload 6, 2) := by decide +kernel
theorem dX12_until_131 : decode cX12_until 131 = .ok (.iadd, 1) := by decide +kernel
theorem dX12_until_132 : decode cX12_until 132 = .ok (.aload_n 0, 1) := by decide +kernel
theorem dX12_until_133 : decode cX12_until 133 = .ok (.getfield 80, 3) := by decide +kernel
theorem dX12_until_136 : decode cX12_until 136 = .ok (.iload 6, 2) := by decide +kernel
theorem dX12_until_138 : decode cX12_until 138 = .ok (.iaload, 1) := by decide +kernel
theorem dX12_until_139 : decode cX12_until 139 = .ok (.iastore, 1) := by decide +kernel
theorem dX12_until_140 : decode cX12_until 140 = .ok (.iinc 6 1, 3) := by decide +kernel
theorem dX12_until_143 : decode cX12_until 143 = .ok (.goto (-29), 3) := by decide +kernel
theorem dX12_until_146 : decode cX12_until 146 = .ok (.iload 5, 2) := by decide +kernel
theorem dX12_until_148 : decode cX12_until 148 = .ok (.bipush 100, 2) := by decide +kernel
theorem dX12_until_150 : decode cX12_until 150 = .ok (.if_icmp .le 8, 3) := by decide +kernel
theorem dX12_until_153 : decode cX12_until 153 = .ok (.bipush (-4), 2) := by decide +kernel
theorem dX12_until_155 : decode cX12_until 155 = .ok (.goto 5, 3) := by decide +kernel
theorem dX12_until_158 : decode cX12_until 158 = .ok (.iload 5, 2) := by decide +kernel
theorem dX12_until_160 : decode cX12_until 160 = .ok (.ireturn, 1) := by decide +kernel
theorem fw_X12_80 : fR RX12 80 12 29 := ⟨⟨lwG_4 (i := 93) rfl rfl, by decide, by decide⟩, fun _ _ => rfl, fun r => ⟨r, rfl⟩⟩
theorem ck_X12_271 {l : Launch} {D : va_G} {cy : Nat → ClassId} {R : Room} (hR : 1 ≤ R.frames ∧ 24 ≤ R.locals) : CallOK l D cy R RX12 (.invokevirtual 271) 0 0 (spV 12 2 SP_X12_isPast) := call_V (ci := 12) (con_X12_isPast l D cy) (lwG_5 (i := 169) rfl rfl) (lwG_5 (i := 171) rfl rfl) (lwG_p (i := 44) rfl rfl) (lwG_1 (i := 13) rfl rfl) (lwG_5 (i := 172) rfl rfl) (by decide) ⟨rfl, by decide, by decide, rfl⟩ ⟨rfl, rfl⟩ hR
section W_X12_until
variable {p : Program} {l : Launch} {e : Env} {s : State} {m : MethodId} {args : Array Value} {below : List Frame} {meth : Method} {c : Code} {D : va_G} {cy : Nat → ClassId} {G : Nat × Nat} {n0 : Nat} {Qp : Option PV → Mm → Prop}
set_option maxRecDepth 100000 in
set_option maxHeartbeats 4000000 in
theorem f_X12_until_114 {o0 : Nat} {x1 : Int} {x5 : Int} {x6 : Int} {M : Mm} {Q : Int → Mm → Prop} {K114 : Int × Mm → Prop} (C : Cx p s m args meth c cX12_until 7 RX12 D cy G n0) (hr : meth.sig.returnType = some .int) (h3 : n0 = 243) (hn : M.2.2.2 = n0) (ho0 : o0 < 243 ∧ (SH o0).1 = 12) (hQ : ∀ x M, Q x M → Qp (some (vI x)) M) (hK114 : ∀ (x6 : Int) (M : Mm), K114 (x6, M) → M.2.2.2 = n0 → WW p l e ({ frames := 4, cells := 0, slots := 0, locals := 117 }) s m args below meth c (ZQ below args s D cy G n0 Qp n0) 7 D cy G n0 114 [(0, vR (some o0)), (1, vI x1), (5, vI x5), (6, vI x6)] [] M) (h : F_X12_until_114 o0 x1 x5 Q  K114 x6 M) : WW p l e ({ frames := 4, cells := 0, slots := 0, locals := 117 }) s m args below meth c (ZQ below args s D cy G n0 Qp n0) 7 D cy G n0 114 [(0, vR (some o0)), (1, vI x1), (5, vI x5), (6, vI x6)] [] M := by
  unfold F_X12_until_114 at h
  refine w_iload C dX12_until_114 (mem_k 3 rfl) ?_
  refine w_bipush C dX12_until_116 (by decide) ?_
  refine w_icmp_ge (tgt := 146) C dX12_until_118 (by decide) (fun q => ?_) (fun q => ?_)
  · replace h := h.1 q
    refine w_iload C dX12_until_146 (mem_k 2 rfl) ?_
    refine w_bipush C dX12_until_148 (by decide) ?_
    refine w_icmp_le (tgt := 158) C dX12_until_150 (by decide) (fun q => ?_) (fun q => ?_)
    · replace h := h.1 q
      refine w_iload C dX12_until_158 (mem_k 2 rfl) ?_
      exact x_iret C hr dX12_until_160 hn (hQ _ M h)
    · replace h := h.2 q
      refine w_bipush C dX12_until_153 (by decide) ?_
      refine w_goto (tgt := 160) C dX12_until_155 (by decide) ?_
      exact x_iret C hr dX12_until_160 hn (hQ _ M h)
  · replace h := h.2 q
    refine w_aload_n C dX12_until_121 rfl (mem_k 0 rfl) ?_
    refine x_getR C dX12_until_122 fw_X12_37 (isO.n (ci := 12) ⟨rfl, ho0⟩ (hn.trans h3)) (fun r1 er1 => ?_)
    replace h := h r1 er1
    refine w_bipush C dX12_until_125 (by decide) ?_
    refine w_iload_n C dX12_until_127 rfl (mem_k 1 rfl) ?_
    refine w_imul C dX12_until_128 h.1 ?_
    replace h := h.2
    refine w_iload C dX12_until_129 (mem_k 3 rfl) ?_
    refine w_iadd C dX12_until_131 h.1 ?_
    replace h := h.2
    refine w_aload_n C dX12_until_132 rfl (mem_k 0 rfl) ?_
    refine x_getR C dX12_until_133 fw_X12_80 (isO.n (ci := 12) ⟨rfl, ho0⟩ (hn.trans h3)) (fun r2 er2 => ?_)
    replace h := h r2 er2
    refine w_iload C dX12_until_136 (mem_k 3 rfl) ?_
    obtain ⟨o3, g4, h⟩ := h
    refine x_iald C dX12_until_138 (isA.n g4 (hn.trans h3)) ?_
    obtain ⟨o5, g6, h⟩ := h
    refine x_iast C dX12_until_139 (isA.n g6 (hn.trans h3)) (fun M7 eM7 hn8 => ?_)
    replace h := h M7 eM7
    replace hn8 := hn8.trans hn
    obtain ⟨v9, ev9⟩ : ∃ z : Int, z = x6 + 1 := ⟨_, rfl⟩
    refine x_iinc (L' := [(6, vI v9), (0, vR (some o0)), (1, vI x1), (5, vI x5)]) C dX12_until_140 (mem_k 3 rfl) (by decide) h.1 ev9 rfl ?_
    replace h := h.2 v9 ev9
    refine w_goto (tgt := 114) C dX12_until_143 (by decide) ?_
    refine x_pc (pc2 := 114) rfl ?_
    refine x_pick (L' := [(0, vR (some o0)), (1, vI x1), (5, vI x5), (6, vI v9)]) [1, 2, 3, 0] rfl ?_
    exact hK114 v9 M7 h hn8
set_option maxRecDepth 100000 in
set_option maxHeartbeats 4000000 in
theorem k_X12_until_114 {o0 : Nat} {x1 : Int} {x5 : Int} {x6 : Int} {M : Mm} {Q : Int → Mm → Prop} (C : Cx p s m args meth c cX12_until 7 RX12 D cy G n0) (hr : meth.sig.returnType = some .int) (h3 : n0 = 243) (hn : M.2.2.2 = n0) (ho0 : o0 < 243 ∧ (SH o0).1 = 12) (hQ : ∀ x M, Q x M → Qp (some (vI x)) M) (h : P_X12_until_114 o0 x1 x5 x6 M Q ) : WW p l e ({ frames := 4, cells := 0, slots := 0, locals := 117 }) s m args below meth c (ZQ below args s D cy G n0 Qp n0) 7 D cy G n0 114 [(0, vR (some o0)), (1, vI x1), (5, vI x5), (6, vI x6)] [] M := by
  refine lpW_sound (P := fun y : Int × Mm => y.2.2.2.2 = n0 → WW p l e ({ frames := 4, cells := 0, slots := 0, locals := 117 }) s m args below meth c (ZQ below args s D cy G n0 Qp n0) 7 D cy G n0 114 [(0, vR (some o0)), (1, vI x1), (5, vI x5), (6, vI y.1)] [] y.2) ?_ h hn
  intro K y hK hF
  obtain ⟨x6, M⟩ := y
  intro hn
  exact f_X12_until_114 C hr h3 hn ho0 hQ  (fun x6 M hk => hK (x6, M) hk) hF
set_option maxRecDepth 100000 in
set_option maxHeartbeats 4000000 in
theorem f_X12_until_81 {o0 : Nat} {x1 : Int} {x2 : Int} {x3 : Int} {x4 : Int} {x5 : Int} {M : Mm} {Q : Int → Mm → Prop} {K81 : Int × Mm → Prop} (C : Cx p s m args meth c cX12_until 7 RX12 D cy G n0) (hr : meth.sig.returnType = some .int) (h3 : n0 = 243) (hn : M.2.2.2 = n0) (ho0 : o0 < 243 ∧ (SH o0).1 = 12) (hQ : ∀ x M, Q x M → Qp (some (vI x)) M) (hK81 : ∀ (x5 : Int) (M : Mm), K81 (x5, M) → M.2.2.2 = n0 → WW p l e ({ frames := 4, cells := 0, slots := 0, locals := 117 }) s m args below meth c (ZQ below args s D cy G n0 Qp n0) 7 D cy G n0 81 [(0, vR (some o0)), (1, vI x1), (2, vI x2), (3, vI x3), (4, vI x4), (5, vI x5)] [] M) (h : F_X12_until_81 o0 x1 x2 x3 x4 Q  K81 x5 M) : WW p l e ({ frames := 4, cells := 0, slots := 0, locals := 117 }) s m args below meth c (ZQ below args s D cy G n0 Qp n0) 7 D cy G n0 81 [(0, vR (some o0)), (1, vI x1), (2, vI x2), (3, vI x3), (4, vI x4), (5, vI x5)] [] M := by
  unfold F_X12_until_81 at h
  refine w_iload C dX12_until_81 (mem_k 5 rfl) ?_
  refine w_bipush C dX12_until_83 (by decide) ?_
  refine w_icmp_gt (tgt := 111) C dX12_until_85 (by decide) (fun q => ?_) (fun q => ?_)
  · replace h := h.1 q
    refine w_iconst C dX12_until_111 ⟨by decide, by decide⟩ ?_
    refine x_istore (L' := [(6, vI 0), (0, vR (some o0)), (1, vI x1), (2, vI x2), (3, vI x3), (4, vI x4), (5, vI x5)]) C dX12_until_112 (by decide) rfl ?_
    refine x_pc (pc2 := 114) rfl ?_
    refine x_pick (L' := [(0, vR (some o0)), (1, vI x1), (5, vI x5), (6, vI 0)]) [1, 2, 6, 0] rfl ?_
    exact k_X12_until_114 C hr h3 hn ho0 hQ  h
  · replace h := h.2 q
    refine w_aload_n C dX12_until_88 rfl (mem_k 0 rfl) ?_
    refine w_iload_n C dX12_until_89 rfl (mem_k 1 rfl) ?_
    refine w_iload C dX12_until_90 (mem_k 4 rfl) ?_
    refine cl_X12_isPast (ck_X12_271 ⟨by decide, by decide⟩) C dX12_until_92 hn h3 (Nat.le_of_ble_eq_true rfl) (isO.n (ci := 12) ⟨rfl, ho0⟩ (hn.trans h3)) h (fun v10 h => ?_)
    refine w_if_ne (tgt := 111) C dX12_until_95 (by decide) (fun q => ?_) (fun q => ?_)
    · replace h := h.1 q
      refine w_iconst C dX12_until_111 ⟨by decide, by decide⟩ ?_
      refine x_istore (L' := [(6, vI 0), (0, vR (some o0)), (1, vI x1), (2, vI x2), (3, vI x3), (4, vI x4), (5, vI x5)]) C dX12_until_112 (by decide) rfl ?_
      refine x_pc (pc2 := 114) rfl ?_
      refine x_pick (L' := [(0, vR (some o0)), (1, vI x1), (5, vI x5), (6, vI 0)]) [1, 2, 6, 0] rfl ?_
      exact k_X12_until_114 C hr h3 hn ho0 hQ  h
    · replace h := h.2 q
      refine w_aload_n C dX12_until_98 rfl (mem_k 0 rfl) ?_
      refine w_iload_n C dX12_until_99 rfl (mem_k 1 rfl) ?_
      refine w_iload_n C dX12_until_100 rfl (mem_k 2 rfl) ?_
      refine w_iload_n C dX12_until_101 rfl (mem_k 3 rfl) ?_
      refine cl_X12_wear (ck_X12_267 ⟨by decide, by decide⟩) C dX12_until_102 hn h3 (Nat.le_of_ble_eq_true rfl) (isO.n (ci := 12) ⟨rfl, ho0⟩ (hn.trans h3)) h (fun M11 h hn12 => ?_)
      obtain ⟨v13, ev13⟩ : ∃ z : Int, z = x5 + 1 := ⟨_, rfl⟩
      refine x_iinc (L' := [(5, vI v13), (0, vR (some o0)), (1, vI x1), (2, vI x2), (3, vI x3), (4, vI x4)]) C dX12_until_105 (mem_k 5 rfl) (by decide) h.1 ev13 rfl ?_
      replace h := h.2 v13 ev13
      refine w_goto (tgt := 81) C dX12_until_108 (by decide) ?_
      refine x_pc (pc2 := 81) rfl ?_
      refine x_pick (L' := [(0, vR (some o0)), (1, vI x1), (2, vI x2), (3, vI x3), (4, vI x4), (5, vI v13)]) [1, 2, 3, 4, 5, 0] rfl ?_
      exact hK81 v13 M11 h hn12
set_option maxRecDepth 100000 in
set_option maxHeartbeats 4000000 in
theorem k_X12_until_81 {o0 : Nat} {x1 : Int} {x2 : Int} {x3 : Int} {x4 : Int} {x5 : Int} {M : Mm} {Q : Int → Mm → Prop} (C : Cx p s m args meth c cX12_until 7 RX12 D cy G n0) (hr : meth.sig.returnType = some .int) (h3 : n0 = 243) (hn : M.2.2.2 = n0) (ho0 : o0 < 243 ∧ (SH o0).1 = 12) (hQ : ∀ x M, Q x M → Qp (some (vI x)) M) (h : P_X12_until_81 o0 x1 x2 x3 x4 x5 M Q ) : WW p l e ({ frames := 4, cells := 0, slots := 0, locals := 117 }) s m args below meth c (ZQ below args s D cy G n0 Qp n0) 7 D cy G n0 81 [(0, vR (some o0)), (1, vI x1), (2, vI x2), (3, vI x3), (4, vI x4), (5, vI x5)] [] M := by
  refine lpW_sound (P := fun y : Int × Mm => y.2.2.2.2 = n0 → WW p l e ({ frames := 4, cells := 0, slots := 0, locals := 117 }) s m args below meth c (ZQ below args s D cy G n0 Qp n0) 7 D cy G n0 81 [(0, vR (some o0)), (1, vI x1), (2, vI x2), (3, vI x3), (4, vI x4), (5, vI y.1)] [] y.2) ?_ h hn
  intro K y hK hF
  obtain ⟨x5, M⟩ := y
  intro hn
  exact f_X12_until_81 C hr h3 hn ho0 hQ  (fun x5 M hk => hK (x5, M) hk) hF
set_option maxRecDepth 100000 in
set_option maxHeartbeats 4000000 in
theorem f_X12_until_46 {o0 : Nat} {x1 : Int} {x2 : Int} {x3 : Int} {x4 : Int} {x5 : Int} {M : Mm} {Q : Int → Mm → Prop} {K46 : Int × Mm → Prop} (C : Cx p s m args meth c cX12_until 7 RX12 D cy G n0) (hr : meth.sig.returnType = some .int) (h3 : n0 = 243) (hn : M.2.2.2 = n0) (ho0 : o0 < 243 ∧ (SH o0).1 = 12) (hQ : ∀ x M, Q x M → Qp (some (vI x)) M) (hK46 : ∀ (x5 : Int) (M : Mm), K46 (x5, M) → M.2.2.2 = n0 → WW p l e ({ frames := 4, cells := 0, slots := 0, locals := 117 }) s m args below meth c (ZQ below args s D cy G n0 Qp n0) 7 D cy G n0 46 [(0, vR (some o0)), (1, vI x1), (2, vI x2), (3, vI x3), (4, vI x4), (5, vI x5)] [] M) (h : F_X12_until_46 o0 x1 x2 x3 x4 Q  K46 x5 M) : WW p l e ({ frames := 4, cells := 0, slots := 0, locals := 117 }) s m args below meth c (ZQ below args s D cy G n0 Qp n0) 7 D cy G n0 46 [(0, vR (some o0)), (1, vI x1), (2, vI x2), (3, vI x3), (4, vI x4), (5, vI x5)] [] M := by
  unfold F_X12_until_46 at h
  refine w_iload C dX12_until_46 (mem_k 5 rfl) ?_
  refine w_bipush C dX12_until_48 (by decide) ?_
  refine w_icmp_ge (tgt := 78) C dX12_until_50 (by decide) (fun q => ?_) (fun q => ?_)
  · replace h := h.1 q
    refine w_iconst C dX12_until_78 ⟨by decide, by decide⟩ ?_
    refine x_istore (L' := [(5, vI 0), (0, vR (some o0)), (1, vI x1), (2, vI x2), (3, vI x3), (4, vI x4)]) C dX12_until_79 (by decide) rfl ?_
    refine x_pc (pc2 := 81) rfl ?_
    refine x_pick (L' := [(0, vR (some o0)), (1, vI x1), (2, vI x2), (3, vI x3), (4, vI x4), (5, vI 0)]) [1, 2, 3, 4, 5, 0] rfl ?_
    exact k_X12_until_81 C hr h3 hn ho0 hQ  h
  · replace h := h.2 q
    refine w_aload_n C dX12_until_53 rfl (mem_k 0 rfl) ?_
    refine x_getR C dX12_until_54 fw_X12_80 (isO.n (ci := 12) ⟨rfl, ho0⟩ (hn.trans h3)) (fun r14 er14 => ?_)
    replace h := h r14 er14
    refine w_iload C dX12_until_57 (mem_k 5 rfl) ?_
    refine w_aload_n C dX12_until_59 rfl (mem_k 0 rfl) ?_
    refine x_getR C dX12_until_60 fw_X12_37 (isO.n (ci := 12) ⟨rfl, ho0⟩ (hn.trans h3)) (fun r15 er15 => ?_)
    replace h := h r15 er15
    refine w_bipush C dX12_until_63 (by decide) ?_
    refine w_iload_n C dX12_until_65 rfl (mem_k 1 rfl) ?_
    refine w_imul C dX12_until_66 h.1 ?_
    replace h := h.2
    refine w_iload C dX12_until_67 (mem_k 5 rfl) ?_
    refine w_iadd C dX12_until_69 h.1 ?_
    replace h := h.2
    obtain ⟨o16, g17, h⟩ := h
    refine x_iald C dX12_until_70 (isA.n g17 (hn.trans h3)) ?_
    obtain ⟨o18, g19, h⟩ := h
    refine x_iast C dX12_until_71 (isA.n g19 (hn.trans h3)) (fun M20 eM20 hn21 => ?_)
    replace h := h M20 eM20
    replace hn21 := hn21.trans hn
    obtain ⟨v22, ev22⟩ : ∃ z : Int, z = x5 + 1 := ⟨_, rfl⟩
    refine x_iinc (L' := [(5, vI v22), (0, vR (some o0)), (1, vI x1), (2, vI x2), (3, vI x3), (4, vI x4)]) C dX12_until_72 (mem_k 5 rfl) (by decide) h.1 ev22 rfl ?_
    replace h := h.2 v22 ev22
    refine w_goto (tgt := 46) C dX12_until_75 (by decide) ?_
    refine x_pc (pc2 := 46) rfl ?_
    refine x_pick (L' := [(0, vR (some o0)), (1, vI x1), (2, vI x2), (3, vI x3), (4, vI x4), (5, vI v22)]) [1, 2, 3, 4, 5, 0] rfl ?_
    exact hK46 v22 M20 h hn21
set_option maxRecDepth 100000 in
set_option maxHeartbeats 4000000 in
theorem k_X12_until_46 {o0 : Nat} {x1 : Int} {x2 : Int} {x3 : Int} {x4 : Int} {x5 : Int} {M : Mm} {Q : Int → Mm → Prop} (C : Cx p s m args meth c cX12_until 7 RX12 D cy G n0) (hr : meth.sig.returnType = some .int) (h3 : n0 = 243) (hn : M.2.2.2 = n0) (ho0 : o0 < 243 ∧ (SH o0).1 = 12) (hQ : ∀ x M, Q x M → Qp (some (vI x)) M) (h : P_X12_until_46 o0 x1 x2 x3 x4 x5 M Q ) : WW p l e ({ frames := 4, cells := 0, slots := 0, locals := 117 }) s m args below meth c (ZQ below args s D cy G n0 Qp n0) 7 D cy G n0 46 [(0, vR (some o0)), (1, vI x1), (2, vI x2), (3, vI x3), (4, vI x4), (5, vI x5)] [] M := by
  refine lpW_sound (P := fun y : Int × Mm => y.2.2.2.2 = n0 → WW p l e ({ frames := 4, cells := 0, slots := 0, locals := 117 }) s m args below meth c (ZQ below args s D cy G n0 Qp n0) 7 D cy G n0 46 [(0, vR (some o0)), (1, vI x1), (2, vI x2), (3, vI x3), (4, vI x4), (5, vI y.1)] [] y.2) ?_ h hn
  intro K y hK hF
  obtain ⟨x5, M⟩ := y
  intro hn
  exact f_X12_until_46 C hr h3 hn ho0 hQ  (fun x5 M hk => hK (x5, M) hk) hF
set_option maxRecDepth 100000 in
set_option maxHeartbeats 4000000 in
theorem k_X12_until_0 {o0 : Nat} {x1 : Int} {x2 : Int} {x3 : Int} {x4 : Int} {M : Mm} {Q : Int → Mm → Prop} (C : Cx p s m args meth c cX12_until 7 RX12 D cy G n0) (hr : meth.sig.returnType = some .int) (h3 : n0 = 243) (hn : M.2.2.2 = n0) (ho0 : o0 < 243 ∧ (SH o0).1 = 12) (hQ : ∀ x M, Q x M → Qp (some (vI x)) M) (h : P_X12_until o0 x1 x2 x3 x4 M Q ) : WW p l e ({ frames := 4, cells := 0, slots := 0, locals := 117 }) s m args below meth c (ZQ below args s D cy G n0 Qp n0) 7 D cy G n0 0 [(0, vR (some o0)), (1, vI x1), (2, vI x2), (3, vI x3), (4, vI x4)] [] M := by
  unfold P_X12_until at h
  refine w_aload_n C dX12_until_0 rfl (mem_k 0 rfl) ?_
  refine w_iload_n C dX12_until_1 rfl (mem_k 1 rfl) ?_
  refine cl_X12_isSeat (ck_X12_152 ⟨by decide, by decide⟩) C dX12_until_2 hn h3 (Nat.le_of_ble_eq_true rfl) (isO.n (ci := 12) ⟨rfl, ho0⟩ (hn.trans h3)) h (fun v23 h => ?_)
  refine w_if_eq (tgt := 41) C dX12_until_5 (by decide) (fun q => ?_) (fun q => ?_)
  · replace h := h.1 q
    refine w_iconst C dX12_until_41 ⟨by decide, by decide⟩ ?_
    exact x_iret C hr dX12_until_42 hn (hQ _ M h)
  · replace h := h.2 q
    refine w_aload_n C dX12_until_8 rfl (mem_k 0 rfl) ?_
    refine w_iload_n C dX12_until_9 rfl (mem_k 2 rfl) ?_
    refine cl_X12_isBody (ck_X12_155 ⟨by decide, by decide⟩) C dX12_until_10 hn h3 (Nat.le_of_ble_eq_true rfl) (isO.n (ci := 12) ⟨rfl, ho0⟩ (hn.trans h3)) h (fun v24 h => ?_)
    refine w_if_eq (tgt := 41) C dX12_until_13 (by decide) (fun q => ?_) (fun q => ?_)
    · replace h := h.1 q
      refine w_iconst C dX12_until_41 ⟨by decide, by decide⟩ ?_
      exact x_iret C hr dX12_until_42 hn (hQ _ M h)
    · replace h := h.2 q
      refine w_iload_n C dX12_until_16 rfl (mem_k 3 rfl) ?_
      refine w_i2l C dX12_until_17 ?_
      refine w_lconst C dX12_until_18 ?_
      refine w_ldc2 (x := 5000) C dX12_until_19 cn_X12_263 ⟨by decide, by decide⟩ ?_
      refine cl_X12_in (ck_X12_85 ⟨by decide, by decide⟩) C dX12_until_22 hn h3 (Nat.le_of_ble_eq_true rfl) h (fun v25 h => ?_)
      refine w_if_eq (tgt := 41) C dX12_until_25 (by decide) (fun q => ?_) (fun q => ?_)
      · replace h := h.1 q
        refine w_iconst C dX12_until_41 ⟨by decide, by decide⟩ ?_
        exact x_iret C hr dX12_until_42 hn (hQ _ M h)
      · replace h := h.2 q
        refine w_iload C dX12_until_28 (mem_k 4 rfl) ?_
        refine w_i2l C dX12_until_30 ?_
        refine w_lconst C dX12_until_31 ?_
        refine w_ldc2 (x := 100) C dX12_until_32 cn_X12_103 ⟨by decide, by decide⟩ ?_
        refine cl_X12_in (ck_X12_85 ⟨by decide, by decide⟩) C dX12_until_35 hn h3 (Nat.le_of_ble_eq_true rfl) h (fun v26 h => ?_)
        refine w_if_ne (tgt := 43) C dX12_until_38 (by decide) (fun q => ?_) (fun q => ?_)
        · replace h := h.1 q
          refine w_iconst C dX12_until_43 ⟨by decide, by decide⟩ ?_
          refine x_istore (L' := [(5, vI 0), (0, vR (some o0)), (1, vI x1), (2, vI x2), (3, vI x3), (4, vI x4)]) C dX12_until_44 (by decide) rfl ?_
          refine x_pc (pc2 := 46) rfl ?_
          refine x_pick (L' := [(0, vR (some o0)), (1, vI x1), (2, vI x2), (3, vI x3), (4, vI x4), (5, vI 0)]) [1, 2, 3, 4, 5, 0] rfl ?_
          exact k_X12_until_46 C hr h3 hn ho0 hQ  h
        · replace h := h.2 q
          refine w_iconst C dX12_until_41 ⟨by decide, by decide⟩ ?_
          exact x_iret C hr dX12_until_42 hn (hQ _ M h)
set_option maxRecDepth 100000 in
set_option maxHeartbeats 4000000 in
theorem con_X12_until (l : Launch) (D : va_G) (cy : Nat → ClassId) : Con l D cy yX12_until cX12_until 7 (some .int) ({ frames := 4, cells := 0, slots := 0, locals := 117 }) 0 0 SP_X12_until := by
  refine con_of (by decide) (fun as M Qp h => ?_) ?_
  · obtain ⟨-, o0, x1, x2, x3, x4, rfl, -⟩ := h
    exact Nat.le_of_ble_eq_true rfl
  · intro p e s m args below meth c G as M Qp h C hr hnm
    obtain ⟨hn, o0, x1, x2, x3, x4, rfl, ho1, ho2, Q0, hQ, h⟩ := h
    refine x_pick (L' := [(0, vR (some o0)), (1, vI x1), (2, vI x2), (3, vI x3), (4, vI x4)]) [0, 1, 2, 3, 4] rfl ?_
    exact k_X12_until_0 C hr hn rfl ⟨ho1, ho2⟩ hQ h
set_option maxRecDepth 100000 in
set_option maxHeartbeats 4000000 in
theorem cl_X12_until {p : Program} {l : Launch} {e : Env} {R : Room} {s : State} {m : MethodId} {args : Array Value} {below : List Frame} {meth : Method} {c : Code} {Q : State → Prop} {cc : ByteArray} {nL : Nat} {own : String} {D : va_G} {cy : Nat → ClassId} {G : Nat × Nat} {n0 pc : Nat} {L : List (Nat × PV)} {st : List PV} {M : Mm} {op : Instr} (K : CallOK l D cy R own op 0 0 (spV 12 4 SP_X12_until)) (C : Cx p s m args meth c cc nL own D cy G n0) (hd : decode cc pc = .ok (op, 3)) (hn : M.2.2.2 = n0) (h3 : n0 = 243) (hlen : argN st ≤ 8) {r : Option Nat} {o0 : Nat} (ho : isOn 12 M.2.2.2 r o0) {x1 : Int} {x2 : Int} {x3 : Int} {x4 : Int} {Q0 : Int → Mm → Prop} (h : P_X12_until o0 x1 x2 x3 x4 M Q0) (k : ∀ x M2, Q0 x M2 → M2.2.2.2 = n0 → WW p l e R s m args below meth c Q nL D cy G n0  (pc + 3) L (vI x :: st) M2) : WW p l e R s m args below meth c Q nL D cy G n0  pc L (vI x4 :: vI x3 :: vI x2 :: vI x1 :: vR r :: st) M := by
  obtain ⟨rfl, ho1, ho2⟩ := ho
  refine x_call0 K C hd (as := [vR (some o0), vI x1, vI x2, vI x3, vI x4]) rfl hn hlen (fun v M2 => ∃ x, v = some (vI x) ∧ Q0 x M2) ⟨⟨o0, [vI x1, vI x2, vI x3, vI x4], rfl, rfl, ho1, ho2⟩, hn.trans h3, o0, x1, x2, x3, x4, rfl, (hn.trans h3) ▸ ho1, ho2, Q0, fun x M2 hx => ⟨x, rfl, hx⟩, h⟩ ?_
  rintro _ _ ⟨x, rfl, hx⟩ hm
  exact k x _ hx hm
end W_X12_until
theorem dX12_trial_0 : decode cX12_trial 0 = .ok (.aload_n 0, 1) := by decide +kernel
theorem dX12_trial_1 : decode cX12_trial 1 = .ok (.iload_n 1, 1) := by decide +kernel
theorem dX12_trial_2 : decode cX12_trial 2 = .ok (.invokevirtual 155, 3) := by decide +kernel
theorem dX12_trial_5 : decode cX12_trial 5 = .ok (.ifCond .eq 23, 3) := by decide +kernel
theorem dX12_trial_8 : decode cX12_trial 8 = .ok (.aload_n 0, 1) := by decide +kernel
theorem dX12_trial_9 : decode cX12_trial 9 = .ok (.iload_n 2, 1) := by decide +kernel
theorem dX12_trial_10 : decode cX12_trial 10 = .ok (.invokevirtual 152, 3) := by decide +kernel
theorem dX12_trial_13 : decode cX12_trial 13 = .ok (.ifCond .eq 15, 3) := by decide +kernel
theorem dX12_trial_16 : decode cX12_trial 16 = .ok (.iload_n 3, 1) := by decide +kernel
theorem dX12_trial_17 : decode cX12_trial 17 = .ok (.i2l, 1) := by decide +kernel
theorem dX12_trial_18 : decode cX12_trial 18 = .ok (.lconst 0, 1) := by decide +kernel
theorem dX12_trial_19 : decode cX12_trial 19 = .ok (.ldc2_w 103, 3) := by decide +kernel
theorem dX12_trial_22 : decode cX12_trial 22 = .ok (.invokestatic 85, 3) := by decide +kernel
theorem dX12_trial_25 : decode cX12_trial 25 = .ok (.ifCond .ne 5, 3) := by decide +kernel
theorem dX12_trial_28 : decode cX12_trial 28 = .ok (.iconst (-1), 1) := by decide +kernel
theorem dX12_trial_29 : decode cX12_trial 29 = .ok (.ireturn, 1) := by decide +kernel
theorem dX12_trial_30 : decode cX12_trial 30 = .ok (.aload_n 0, 1) := by decide +kernel
theorem dX12_trial_31 : decode cX12_trial 31 = .ok (.getfield 274, 3) := by decide +kernel
theorem dX12_trial_34 : decode cX12_trial 34 = .ok (.bipush 60, 2) := by decide +kernel
theorem dX12_trial_36 : decode cX12_trial 36 = .ok (.if_icmp .ne 6, 3) := by decide +kernel
theorem dX12_trial_39 : decode cX12_trial 39 = .ok (.bipush (-3), 2) := by decide +kernel
theorem dX12_trial_41 : decode cX12_trial 41 = .ok (.ireturn, 1) := by decide +kernel
theorem dX12_trial_42 : decode cX12_trial 42 = .ok (.aload_n 0, 1) := by decide +kernel
theorem dX12_trial_43 : decode cX12_trial 43 = .ok (.getfield 49, 3) := by decide +kernel
theorem dX12_trial_46 : decode cX12_trial 46 = .ok (.bipush 6, 2) := by decide +kernel
theorem dX12_trial_48 : decode cX12_trial 48 = .ok (.iload_n 1, 1) := by decide +kernel
theorem dX12_trial_49 : decode cX12_trial 49 = .ok (.imul, 1) := by decide +kernel
theorem dX12_trial_50 : decode cX12_trial 50 = .ok (.iload_n 2, 1) := by decide +kernel
theorem dX12_trial_51 : decode cX12_trial 51 = .ok (.iadd, 1) := by decide +kernel
theorem dX12_trial_52 : decode cX12_trial 52 = .ok (.iload_n 3, 1) := by decide +kernel
theorem dX12_trial_53 : decode cX12_trial 53 = .ok (.iastore, 1) := by decide +kernel
theorem dX12_trial_54 : decode cX12_trial 54 = .ok (.aload_n 0, 1) := by decide +kernel
theorem dX12_trial_55 : decode cX12_trial 55 = .ok (.dup, 1) := by decide +kernel
theorem dX12_trial_56 : decode cX12_trial 56 = .ok (.getfield 274, 3) := by decide +kernel
theorem dX12_trial_59 : decode cX12_trial 59 = .ok (.iconst 1, 1) := by decide +kernel
theorem dX12_trial_60 : decode cX12_trial 60 = .ok (.iadd, 1) := by decide +kernel
theorem dX12_trial_61 : decode cX12_trial 61 = .ok (.putfield 274, 3) := by decide +kernel
theorem dX12_trial_64 : decode cX12_trial 64 = .ok (.aload_n 0, 1) := by decide +kernel
theorem dX12_trial_65 : decode cX12_trial 65 = .ok (.getfield 274, 3) := by decide +kernel
theorem dX12_trial_68 : decode cX12_trial 68 = .ok (.ireturn, 1) := by decide +kernel
theorem fw_X12_274 : fI RX12 274 12 15 := ⟨⟨lwG_4 (i := 79) rfl rfl, by decide, by decide⟩, rfl⟩
theorem fw_X12_49 : fR RX12 49 12 16 := ⟨⟨lwG_4 (i := 80) rfl rfl, by decide, by decide⟩, fun _ _ => rfl, fun r => ⟨r, rfl⟩⟩
section W_X12_trial
variable {p : Program} {l : Launch} {e : Env} {s : State} {m : MethodId} {args : Array Value} {below : List Frame} {meth : Method} {c : Code} {D : va_G} {cy : Nat → ClassId} {G : Nat × Nat} {n0 : Nat} {Qp : Option PV → Mm → Prop}
set_option maxRecDepth 100000 in
set_option maxHeartbeats 4000000 in
theorem k_X12_trial_0 {o0 : Nat} {x1 : Int} {x2 : Int} {x3 : Int} {M : Mm} {Q : Int → Mm → Prop} (C : Cx p s m args meth c cX12_trial 4 RX12 D cy G n0) (hr : meth.sig.returnType = some .int) (h3 : n0 = 243) (hn : M.2.2.2 = n0) (ho0 : o0 < 243 ∧ (SH o0).1 = 12) (hQ : ∀ x M, Q x M → Qp (some (vI x)) M) (h : P_X12_trial o0 x1 x2 x3 M Q ) : WW p l e ({ frames := 2, cells := 0, slots := 0, locals := 46 }) s m args below meth c (ZQ below args s D cy G n0 Qp n0) 4 D cy G n0 0 [(0, vR (some o0)), (1, vI x1), (2, vI x2), (3, vI x3)] [] M := by
  unfold P_X12_trial at h
  refine w_aload_n C dX12_trial_0 rfl (mem_k 0 rfl) ?_
  refine w_iload_n C dX12_trial_1 rfl (mem_k 1 rfl) ?_
  refine cl_X12_isBody (ck_X12_155 ⟨by decide, by decide⟩) C dX12_trial_2 hn h3 (Nat.le_of_ble_eq_true rfl) (isO.n (ci := 12) ⟨rfl, ho0⟩ (hn.trans h3)) h (fun v1 h => ?_)
  refine w_if_eq (tgt := 28) C dX12_trial_5 (by decide) (fun q => ?_) (fun q => ?_)
  · replace h := h.1 q
    refine w_iconst C dX12_trial_28 ⟨by decide, by decide⟩ ?_
    exact x_iret C hr dX12_trial_29 hn (hQ _ M h)
  · replace h := h.2 q
    refine w_aload_n C dX12_trial_8 rfl (mem_k 0 rfl) ?_
    refine w_iload_n C dX12_trial_9 rfl (mem_k 2 rfl) ?_
    refine cl_X12_isSeat (ck_X12_152 ⟨by decide, by decide⟩) C dX12_trial_10 hn h3 (Nat.le_of_ble_eq_true rfl) (isO.n (ci := 12) ⟨rfl, ho0⟩ (hn.trans h3)) h (fun v2 h => ?_)
    refine w_if_eq (tgt := 28) C dX12_trial_13 (by decide) (fun q => ?_) (fun q => ?_)
    · replace h := h.1 q
      refine w_iconst C dX12_trial_28 ⟨by decide, by decide⟩ ?_
      exact x_iret C hr dX12_trial_29 hn (hQ _ M h)
    · replace h := h.2 q
      refine w_iload_n C dX12_trial_16 rfl (mem_k 3 rfl) ?_
      refine w_i2l C dX12_trial_17 ?_
      refine w_lconst C dX12_trial_18 ?_
      refine w_ldc2 (x := 100) C dX12_trial_19 cn_X12_103 ⟨by decide, by decide⟩ ?_
      refine cl_X12_in (ck_X12_85 ⟨by decide, by decide⟩) C dX12_trial_22 hn h3 (Nat.le_of_ble_eq_true rfl) h (fun v3 h => ?_)
      refine w_if_ne (tgt := 30) C dX12_trial_25 (by decide) (fun q => ?_) (fun q => ?_)
      · replace h := h.1 q
        refine w_aload_n C dX12_trial_30 rfl (mem_k 0 rfl) ?_
        refine x_getI C dX12_trial_31 fw_X12_274 (isO.n (ci := 12) ⟨rfl, ho0⟩ (hn.trans h3)) ?_
        refine w_bipush C dX12_trial_34 (by decide) ?_
        refine w_icmp_ne (tgt := 42) C dX12_trial_36 (by decide) (fun q => ?_) (fun q => ?_)
        · replace h := h.1 q
          refine w_aload_n C dX12_trial_42 rfl (mem_k 0 rfl) ?_
          refine x_getR C dX12_trial_43 fw_X12_49 (isO.n (ci := 12) ⟨rfl, ho0⟩ (hn.trans h3)) (fun r4 er4 => ?_)
          replace h := h r4 er4
          refine w_bipush C dX12_trial_46 (by decide) ?_
          refine w_iload_n C dX12_trial_48 rfl (mem_k 1 rfl) ?_
          refine w_imul C dX12_trial_49 h.1 ?_
          replace h := h.2
          refine w_iload_n C dX12_trial_50 rfl (mem_k 2 rfl) ?_
          refine w_iadd C dX12_trial_51 h.1 ?_
          replace h := h.2
          refine w_iload_n C dX12_trial_52 rfl (mem_k 3 rfl) ?_
          obtain ⟨o5, g6, h⟩ := h
          refine x_iast C dX12_trial_53 (isA.n g6 (hn.trans h3)) (fun M7 eM7 hn8 => ?_)
          replace h := h M7 eM7
          replace hn8 := hn8.trans hn
          refine w_aload_n C dX12_trial_54 rfl (mem_k 0 rfl) ?_
          refine w_dup C dX12_trial_55 rfl ?_
          refine x_getI C dX12_trial_56 fw_X12_274 (isO.n (ci := 12) ⟨rfl, ho0⟩ (hn8.trans h3)) ?_
          refine w_iconst C dX12_trial_59 ⟨by decide, by decide⟩ ?_
          refine w_iadd C dX12_trial_60 h.1 ?_
          replace h := h.2
          refine x_putI C dX12_trial_61 fw_X12_274 (isO.n (ci := 12) ⟨rfl, ho0⟩ (hn8.trans h3)) (Or.inl rfl) (fun M9 eM9 hn10 => ?_)
          replace h := h M9 eM9
          replace hn10 := hn10.trans hn8
          refine w_aload_n C dX12_trial_64 rfl (mem_k 0 rfl) ?_
          refine x_getI C dX12_trial_65 fw_X12_274 (isO.n (ci := 12) ⟨rfl, ho0⟩ (hn10.trans h3)) ?_
          exact x_iret C hr dX12_trial_68 hn10 (hQ _ M9 h)
        · replace h := h.2 q
          refine w_bipush C dX12_trial_39 (by decide) ?_
          exact x_iret C hr dX12_trial_41 hn (hQ _ M h)
      · replace h := h.2 q
        refine w_iconst C dX12_trial_28 ⟨by decide, by decide⟩ ?_
        exact x_iret C hr dX12_trial_29 hn (hQ _ M h)
set_option maxRecDepth 100000 in
set_option maxHeartbeats 4000000 in
theorem con_X12_trial (l : Launch) (D : va_G) (cy : Nat → ClassId) : Con l D cy yX12_trial cX12_trial 4 (some .int) ({ frames := 2, cells := 0, slots := 0, locals := 46 }) 0 0 SP_X12_trial := by
  refine con_of (by decide) (fun as M Qp h => ?_) ?_
  · obtain ⟨-, o0, x1, x2, x3, rfl, -⟩ := h
    exact Nat.le_of_ble_eq_true rfl
  · intro p e s m args below meth c G as M Qp h C hr hnm
    obtain ⟨hn, o0, x1, x2, x3, rfl, ho1, ho2, Q0, hQ, h⟩ := h
    refine x_pick (L' := [(0, vR (some o0)), (1, vI x1), (2, vI x2), (3, vI x3)]) [0, 1, 2, 3] rfl ?_
    exact k_X12_trial_0 C hr hn rfl ⟨ho1, ho2⟩ hQ h
set_option maxRecDepth 100000 in
set_option maxHeartbeats 4000000 in
theorem cl_X12_trial {p : Program} {l : Launch} {e : Env} {R : Room} {s : State} {m : MethodId} {args : Array Value} {below : List Frame} {meth : Method} {c : Code} {Q : State → Prop} {cc : ByteArray} {nL : Nat} {own : String} {D : va_G} {cy : Nat → ClassId} {G : Nat × Nat} {n0 pc : Nat} {L : List (Nat × PV)} {st : List PV} {M : Mm} {op : Instr} (K : CallOK l D cy R own op 0 0 (spV 12 3 SP_X12_trial)) (C : Cx p s m args meth c cc nL own D cy G n0) (hd : decode cc pc = .ok (op, 3)) (hn : M.2.2.2 = n0) (h3 : n0 = 243) (hlen : argN st ≤ 8) {r : Option Nat} {o0 : Nat} (ho : isOn 12 M.2.2.2 r o0) {x1 : Int} {x2 : Int} {x3 : Int} {Q0 : Int → Mm → Prop} (h : P_X12_trial o0 x1 x2 x3 M Q0) (k : ∀ x M2, Q0 x M2 → M2.2.2.2 = n0 → WW p l e R s m args below meth c Q nL D cy G n0  (pc + 3) L (vI x :: st) M2) : WW p l e R s m args below meth c Q nL D cy G n0  pc L (vI x3 :: vI x2 :: vI x1 :: vR r :: st) M := by
  obtain ⟨rfl, ho1, ho2⟩ := ho
  refine x_call0 K C hd (as := [vR (some o0), vI x1, vI x2, vI x3]) rfl hn hlen (fun v M2 => ∃ x, v = some (vI x) ∧ Q0 x M2) ⟨⟨o0, [vI x1, vI x2, vI x3], rfl, rfl, ho1, ho2⟩, hn.trans h3, o0, x1, x2, x3, rfl, (hn.trans h3) ▸ ho1, ho2, Q0, fun x M2 hx => ⟨x, rfl, hx⟩, h⟩ ?_
  rintro _ _ ⟨x, rfl, hx⟩ hm
  exact k x _ hx hm
end W_X12_trial
theorem dX12_against_0 : decode cX12_against 0 = .ok (.aload_n 0, 1) := by decide +kernel
theorem dX12_against_1 : decode cX12_against 1 = .ok (.iload_n 1, 1) := by decide +kernel
theorem dX12_against_2 : decode cX12_against 2 = .ok (.invokevirtual 152, 3) := by decide +kernel
theorem dX12_against_5 : decode cX12_against 5 = .ok (.ifCond .eq 28, 3) := by decide +kernel
theorem dX12_against_8 : decode cX12_against 8 = .ok (.aload_n 0, 1) := by decide +kernel
theorem dX12_against_9 : decode cX12_against 9 = .ok (.iload_n 2, 1) := by decide +kernel
theorem dX12_against_10 : decode cX12_against 10 = .ok (.invokevirtual 152, 3) := by decide +kernel
theorem dX12_against_13 : decode cX12_against 13 = .ok (.ifCond .eq 20, 3) := by decide +kernel
theorem dX12_against_16 : decode cX12_against 16 = .ok (.iload_n 1, 1) := by decide +kernel
theorem dX12_against_17 : decode cX12_against 17 = .ok (.iload_n 2, 1) := by decide +kernel
theorem dX12_against_18 : decode cX12_against 18 = .ok (.if_icmp .eq 15, 3) := by decide +kernel
theorem dX12_against_21 : decode cX12_against 21 = .ok (.iload_n 3, 1) := by decide +kernel
theorem dX12_against_22 : decode cX12_against 22 = .ok (.i2l, 1) := by decide +kernel
theorem dX12_against_23 : decode cX12_against 23 = .ok (.lconst 0, 1) := by decide +kernel
theorem dX12_against_24 : decode cX12_against 24 = .ok (.ldc2_w 244, 3) := by decide +kernel
theorem dX12_against_27 : decode cX12_against 27 = .ok (.invokestatic 85, 3) := by decide +kernel
theorem dX12_against_30 : decode cX12_against 30 = .ok (.ifCond .ne 5, 3) := by decide +kernel
theorem dX12_against_33 : decode cX12_against 33 = .ok (.iconst (-1), 1) := by decide +kernel
theorem dX12_against_34 : decode cX12_against 34 = .ok (.ireturn, 1) := by decide +kernel
theorem dX12_against_35 : decode cX12_against 35 = .ok (.iconst 0, 1) := by decide +kernel
theorem dX12_against_36 : decode cX12_against 36 = .ok (.istore 4, 2) := by decide +kernel
theorem dX12_against_38 : decode cX12_against 38 = .ok (.iconst 0, 1) := by decide +kernel
theorem dX12_against_39 : decode cX12_against 39 = .ok (.istore 5, 2) := by decide +kernel
theorem dX12_against_41 : decode cX12_against 41 = .ok (.iconst 0, 1) := by decide +kernel
theorem dX12_against_42 : decode cX12_against 42 = .ok (.istore 6, 2) := by decide +kernel
theorem dX12_against_44 : decode cX12_against 44 = .ok (.iconst 0, 1) := by decide +kernel
theorem dX12_against_45 : decode cX12_against 45 = .ok (.istore 7, 2) := by decide +kernel
theorem dX12_against_47 : decode cX12_against 47 = .ok (.iload 7, 2) := by decide +kernel
theorem dX12_against_49 : decode cX12_against 49 = .ok (.aload_n 0, 1) := by decide +kernel
theorem dX12_against_50 : decode cX12_against 50 = .ok (.getfield 149, 3) := by decide +kernel
theorem dX12_against_53 : decode cX12_against 53 = .ok (.if_icmp .ge 98, 3) := by decide +kernel
theorem dX12_against_56 : decode cX12_against 56 = .ok (.aload_n 0, 1) := by decide +kernel
theorem dX12_against_57 : decode cX12_against 57 = .ok (.getfield 49, 3) := by decide +kernel
theorem dX12_against_60 : decode cX12_against 60 = .ok (.bipush 6, 2) := by decide +kernel
theorem dX12_against_62 : decode cX12_against 62 = .ok (.iload 7, 2) := by decide +kernel
theorem dX12_against_64 : decode cX12_against 64 = .ok (.imul, 1) := by decide +kernel
theorem dX12_against_65 : decode cX12_against 65 = .ok (.iload_n 1, 1) := by decide +kernel
theorem dX12_against_66 : decode cX12_against 66 = .ok (.iadd, 1) := by decide +kernel
theorem dX12_against_67 : decode cX12_against 67 = .ok (.iaload, 1) := by decide +kernel
theorem dX12_against_68 : decode cX12_against 68 = .ok (.istore 8, 2) := by decide +kernel
theorem dX12_against_70 : decode cX12_against 70 = .ok (.aload_n 0, 1) := by decide +kernel
theorem dX12_against_71 : decode cX12_against 71 = .ok (.getfield 49, 3) := by decide +kernel
theorem dX12_against_74 : decode cX12_against 74 = .ok (.bipush 6, 2) := by decide +kernel
theorem dX12_against_76 : decode cX12_against 76 = .ok (.iload 7, 2) := by decide +kernel
theorem dX12_against_78 : decode cX12_against 78 = .ok (.imul, 1) := by decide +kernel
theorem dX12_against_79 : decode cX12_against 79 = .ok (.iload_n 2, 1) := by decide +kernel
theorem dX12_against_80 : decode cX12_against 80 = .ok (.iadd, 1) := by decide +kernel
theorem dX12_against_81 : decode cX12_against 81 = .ok (.iaload, 1) := by decide +kernel
theorem dX12_against_82 : decode cX12_against 82 = .ok (.istore 9, 2) := by decide +kernel
theorem dX12_against_84 : decode cX12_against 84 = .ok (.iload 8, 2) := by decide +kernel
theorem dX12_against_86 : decode cX12_against 86 = .ok (.ifCond .lt 59, 3) := by decide +kernel
theorem dX12_against_89 : decode cX12_against 89 = .ok (.iload 9, 2) := by decide +kernel
theorem dX12_against_91 : decode cX12_against 91 = .ok (.ifCond .lt 54, 3) := by decide +kernel
theorem dX12_against_94 : decode cX12_against 94 = .ok (.iload 4, 2) := by decide +kernel
theorem dX12_against_96 : decode cX12_against 96 = .ok (.iload 8, 2) := by decide +kernel
theorem dX12_against_98 : decode cX12_against 98 = .ok (.iload 9, 2) := by decide +kernel
theorem dX12_against_100 : decode cX12_against 100 = .ok (.if_icmp .le 7, 3) := by decide +kernel
theorem dX12_against_103 : decode cX12_against 103 = .ok (.iconst 1, 1) := by decide +kernel
theorem dX12_against_104 : decode cX12_against 104 = .ok (.goto 4, 3) := by decide +kernel
theorem dX12_against_107 : decode cX12_against 107 = .ok (.iconst 0, 1) := by decide +kernel
theorem dX12_against_108 : decode cX12_against 108 = .ok (.iadd, 1) := by decide +kernel
theorem dX12_against_109 : decode cX12_against 109 = .ok (.istore 4, 2) := by decide +kernel
theorem dX12_against_111 : decode cX12_against 111 = .ok (.iload 5, 2) := by decide +kernel
theorem dX12_against_113 : decode cX12_against 113 = .ok (.iload 8, 2) := by decide +kernel
theorem dX12_against_115 : decode cX12_against 115 = .ok (.iload 9, 2) := by decide +kernel
theorem dX12_against_117 : decode cX12_against 117 = .ok (.if_icmp .ge 7, 3) := by decide +kernel
theorem dX12_against_120 : decode cX12_against 120 = .ok (.iconst 1, 1) := by decide +kernel
theorem dX12_against_121 : decode cX12_against 121 = .ok (.goto 4, 3) := by decide +kernel
theorem dX12_against_124 : decode cX12_against 124 = .ok (.iconst 0, 1) := by decide +kernel
theorem dX12_against_125 : decode cX12_against 125 = .ok (.iadd, 1) := by decide +kernel
theorem dX12_against_126 : decode cX12_against 126 = .ok (.istore 5, 2) := by decide +kernel
theorem dX12_against_128 : decode cX12_against 128 = .ok (.iload 6, 2) := by decide +kernel
theorem dX12_against_130 : decode cX12_against 130 = .ok (.iload 8, 2) := by decide +kernel
theorem dX12_against_132 : decode cX12_against 132 = .ok (.iload 9, 2) := by decide +kernel
theorem dX12_against_134 : decode cX12_against 134 = .ok (.if_icmp .ne 7, 3) := by decide +kernel
theorem dX12_against_137 : decode cX12_against 137 = .ok (.iconst 1, 1) := by decide +kernel
theorem dX12_against_138 : decode cX12_against 138 = .ok (.goto 4, 3) := by decide +kernel
theorem dX12_against_141 : decode cX12_against 141 = .ok (.iconst 0, 1) := by decide +kernel
theorem dX12_against_142 : decode cX12_against 142 = .ok (.iadd, 1) := by decide +kernel
theorem dX12_against_143 : decode cX12_against 143 = .ok (.istore 6, 2) := by decide +kernel
theorem dX12_against_145 : decode cX12_against 145 = .ok (.iinc 7 1, 3) := by decide +kernel
theorem dX12_against_148 : decode cX12_against 148 = .ok (.goto (-101), 3) := by decide +kernel
theorem dX12_against_151 : decode cX12_against 151 = .ok (.iload_n 3, 1) := by decide +kernel
theorem dX12_against_152 : decode cX12_against 152 = .ok (.iconst 3, 1) := by decide +kernel
theorem dX12_against_153 : decode cX12_against 153 = .ok (.if_icmp .ge 25, 3) := by decide +kernel
theorem dX12_against_156 : decode cX12_against 156 = .ok (.iload_n 3, 1) := by decide +kernel
theorem dX12_against_157 : decode cX12_against 157 = .ok (.ifCond .ne 8, 3) := by decide +kernel
theorem dX12_against_160 : decode cX12_against 160 = .ok (.iload 4, 2) := by decide +kernel
theorem dX12_against_162 : decode cX12_against 162 = .ok (.goto 15, 3) := by decide +kernel
theorem dX12_against_165 : decode cX12_against 165 = .ok (.iload_n 3, 1) := by decide +kernel
theorem dX12_against_166 : decode cX12_against 166 = .ok (.iconst 1, 1) := by decide +kernel
theorem dX12_against_167 : decode cX12_against 167 = .ok (.if_icmp .ne 8, 3) := by decide +kernel
theorem dX12_against_170 : decode cX12_against 170 = .ok (.iload 5, 2) := by decide +kernel
theorem dX12_against_172 : decode cX12_against 172 = .ok (.goto 5, 3) := by decide +kernel
theorem dX12_against_175 : decode cX12_against 175 = .ok (.iload 6, 2) := by decide +kernel
theorem dX12_against_177 : decode cX12_against 177 = .ok (.ireturn, 1) := by decide +kernel
theorem dX12_against_178 : decode cX12_against 178 = .ok (.iconst 0, 1) := by decide +kernel
theorem dX12_against_179 : decode cX12_against 179 = .ok (.istore 7, 2) := by decide +kernel
theorem dX12_against_181 : decode cX12_against 181 = .ok (.iconst 0, 1) := by decide +kernel
theorem dX12_against_182 : decode cX12_against 182 = .ok (.istore 8, 2) := by decide +kernel
theorem dX12_against_184 : decode cX12_against 184 = .ok (.iload 8, 2) := by decide +kernel
theorem dX12_against_186 : decode cX12_against 186 = .ok (.iconst 1, 1) := by decide +kernel
theorem dX12_against_187 : decode cX12_against 187 = .ok (.iload 4, 2) := by decide +kernel
theorem dX12_against_189 : decode cX12_against 189 = .ok (.iload 5, 2) := by decide +kernel
theorem dX12_against_191 : decode cX12_against 191 = .ok (.iadd, 1) := by decide +kernel
theorem dX12_against_192 : decode cX12_against 192 = .ok (.ishl, 1) := by decide +kernel
theorem dX12_against_193 : decode cX12_against 193 = .ok (.if_icmp .ge 29, 3) := by decide +kernel
theorem dX12_against_196 : decode cX12_against 196 = .ok (.iload 7, 2) := by decide +kernel
theorem dX12_against_198 : decode cX12_against 198 = .ok (.iload 8, 2) := by decide +kernel
theorem dX12_against_200 : decode cX12_against 200 = .ok (.invokestatic 232, 3) := by decide +kernel
theorem dX12_against_203 : decode cX12_against 203 = .ok (.iload 4, 2) := by decide +kernel
theorem dX12_against_205 : decode cX12_against 205 = .ok (.if_icmp .lt 7, 3) := by decide +kernel
theorem dX12_against_208 : decode cX12_against 208 = .ok (.iconst 1, 1) := by decide +kernel
theorem dX12_against_209 : decode cX12_against 209 = .ok (.goto 4, 3) := by decide +kernel
theorem dX12_against_212 : decode cX12_against 212 = .ok (.iconst 0, 1) := by decide +kernel
theorem dX12_against_213 : decode cX12_against 213 = .ok (.iadd, 1) := by decide +kernel
theorem dX12_against_214 : decode cX12_against 214 = .ok (.istore 7, 2) := by decide +kernel
theorem dX12_against_216 : decode cX12_against 216 = .ok (.iinc 8 1, 3) := by decide +kernel
theorem dX12_against_219 : decode cX12_against 219 = .ok (.goto (-35), 3) := by decide +kernel
theorem dX12_against_222 : decode cX12_against 222 = .ok (.iload 7, 2) := by decide +kernel
theorem dX12_against_224 : decode cX12_against 224 = .ok (.ireturn, 1) := by decide +kernel
section W_X12_against
variable {p : Program} {l : Launch} {e : Env} {s : State} {m : MethodId} {args : Array Value} {below : List Frame} {meth : Method} {c : Code} {D : va_G} {cy : Nat → ClassId} {G : Nat × Nat} {n0 : Nat} {Qp : Option PV → Mm → Prop}
set_option maxRecDepth 100000 in
set_option maxHeartbeats 4000000 in
theorem f_X12_against_184 {x4 : Int} {x5 : Int} {x7 : Int} {x8 : Int} {M : Mm} {Q : Int → Prop} {o0 : Nat} {K184 : Int × Int → Prop} (C : Cx p s m args meth c cX12_against 10 RX12 D cy G n0) (hr : meth.sig.returnType = some .int) (h3 : n0 = 243) (hn : M.2.2.2 = n0) (ho0 : o0 < 243 ∧ (SH o0).1 = 12) (hQ : ∀ x, Q x → Qp (some (vI x)) M) (hK184 : ∀ (x7 : Int) (x8 : Int), K184 (x7, x8) → WW p l e ({ frames := 2, cells := 0, slots := 0, locals := 46 }) s m args below meth c (ZQ below args s D cy G n0 Qp n0) 10 D cy G n0 184 [(4, vI x4), (5, vI x5), (7, vI x7), (8, vI x8)] [] M) (h : F_X12_against_184 x4 x5 M Q  K184 x7 x8) : WW p l e ({ frames := 2, cells := 0, slots := 0, locals := 46 }) s m args below meth c (ZQ below args s D cy G n0 Qp n0) 10 D cy G n0 184 [(4, vI x4), (5, vI x5), (7, vI x7), (8, vI x8)] [] M := by
  unfold F_X12_against_184 at h
  refine w_iload C dX12_against_184 (mem_k 3 rfl) ?_
  refine w_iconst C dX12_against_186 ⟨by decide, by decide⟩ ?_
  refine w_iload C dX12_against_187 (mem_k 0 rfl) ?_
  refine w_iload C dX12_against_189 (mem_k 1 rfl) ?_
  refine w_iadd C dX12_against_191 h.1 ?_
  replace h := h.2
  refine w_ishl C dX12_against_192 ?_
  refine w_icmp_ge (tgt := 222) C dX12_against_193 (by decide) (fun q => ?_) (fun q => ?_)
  · replace h := h.1 q
    refine w_iload C dX12_against_222 (mem_k 2 rfl) ?_
    exact x_iret C hr dX12_against_224 hn (hQ _ h)
  · replace h := h.2 q
    refine w_iload C dX12_against_196 (mem_k 2 rfl) ?_
    refine w_iload C dX12_against_198 (mem_k 3 rfl) ?_
    refine cl_X12_bits (ck_X12_232 ⟨by decide, by decide⟩) C dX12_against_200 hn h3 (Nat.le_of_ble_eq_true rfl) h (fun v1 h => ?_)
    refine w_iload C dX12_against_203 (mem_k 0 rfl) ?_
    refine w_icmp_lt (tgt := 212) C dX12_against_205 (by decide) (fun q => ?_) (fun q => ?_)
    · replace h := h.1 q
      refine w_iconst C dX12_against_212 ⟨by decide, by decide⟩ ?_
      refine w_iadd C dX12_against_213 h.1 ?_
      replace h := h.2
      refine x_nmI (fun v2 ev2 => ?_)
      replace h := h v2 ev2
      refine x_istore (L' := [(7, vI v2), (4, vI x4), (5, vI x5), (8, vI x8)]) C dX12_against_214 (by decide) rfl ?_
      obtain ⟨v3, ev3⟩ : ∃ z : Int, z = x8 + 1 := ⟨_, rfl⟩
      refine x_iinc (L' := [(8, vI v3), (7, vI v2), (4, vI x4), (5, vI x5)]) C dX12_against_216 (mem_k 3 rfl) (by decide) h.1 ev3 rfl ?_
      replace h := h.2 v3 ev3
      refine w_goto (tgt := 184) C dX12_against_219 (by decide) ?_
      refine x_pc (pc2 := 184) rfl ?_
      refine x_pick (L' := [(4, vI x4), (5, vI x5), (7, vI v2), (8, vI v3)]) [2, 3, 1, 0] rfl ?_
      exact hK184 v2 v3 h
    · replace h := h.2 q
      refine w_iconst C dX12_against_208 ⟨by decide, by decide⟩ ?_
      refine w_goto (tgt := 213) C dX12_against_209 (by decide) ?_
      refine w_iadd C dX12_against_213 h.1 ?_
      replace h := h.2
      refine x_nmI (fun v4 ev4 => ?_)
      replace h := h v4 ev4
      refine x_istore (L' := [(7, vI v4), (4, vI x4), (5, vI x5), (8, vI x8)]) C dX12_against_214 (by decide) rfl ?_
      obtain ⟨v5, ev5⟩ : ∃ z : Int, z = x8 + 1 := ⟨_, rfl⟩
      refine x_iinc (L' := [(8, vI v5), (7, vI v4), (4, vI x4), (5, vI x5)]) C dX12_against_216 (mem_k 3 rfl) (by decide) h.1 ev5 rfl ?_
      replace h := h.2 v5 ev5
      refine w_goto (tgt := 184) C dX12_against_219 (by decide) ?_
      refine x_pc (pc2 := 184) rfl ?_
      refine x_pick (L' := [(4, vI x4), (5, vI x5), (7, vI v4), (8, vI v5)]) [2, 3, 1, 0] rfl ?_
      exact hK184 v4 v5 h
set_option maxRecDepth 100000 in
set_option maxHeartbeats 4000000 in
theorem k_X12_against_184 {x4 : Int} {x5 : Int} {x7 : Int} {x8 : Int} {M : Mm} {Q : Int → Prop} {o0 : Nat} (C : Cx p s m args meth c cX12_against 10 RX12 D cy G n0) (hr : meth.sig.returnType = some .int) (h3 : n0 = 243) (hn : M.2.2.2 = n0) (ho0 : o0 < 243 ∧ (SH o0).1 = 12) (hQ : ∀ x, Q x → Qp (some (vI x)) M) (h : P_X12_against_184 x4 x5 x7 x8 M Q ) : WW p l e ({ frames := 2, cells := 0, slots := 0, locals := 46 }) s m args below meth c (ZQ below args s D cy G n0 Qp n0) 10 D cy G n0 184 [(4, vI x4), (5, vI x5), (7, vI x7), (8, vI x8)] [] M := by
  refine lpW_sound (P := fun y : Int × Int => WW p l e ({ frames := 2, cells := 0, slots := 0, locals := 46 }) s m args below meth c (ZQ below args s D cy G n0 Qp n0) 10 D cy G n0 184 [(4, vI x4), (5, vI x5), (7, vI y.1), (8, vI y.2)] [] M) ?_ h
  intro K y hK hF
  obtain ⟨x7, x8⟩ := y
  exact f_X12_against_184 C hr h3 hn ho0 hQ  (fun x7 x8 hk => hK (x7, x8) hk) hF
set_option maxRecDepth 100000 in
set_option maxHeartbeats 4000000 in
theorem k_X12_against_125 {o0 : Nat} {x1 : Int} {x2 : Int} {x3 : Int} {x4 : Int} {x6 : Int} {x7 : Int} {x8 : Int} {x9 : Int} {s0 : Int} {s1 : Int} {M : Mm} {Q : Int → Prop} {K47 : Int × Int × Int × Int → Prop} (C : Cx p s m args meth c cX12_against 10 RX12 D cy G n0) (hr : meth.sig.returnType = some .int) (h3 : n0 = 243) (hn : M.2.2.2 = n0) (ho0 : o0 < 243 ∧ (SH o0).1 = 12) (hQ : ∀ x, Q x → Qp (some (vI x)) M) (hK47 : ∀ (x4 : Int) (x5 : Int) (x6 : Int) (x7 : Int), K47 (x4, x5, x6, x7) → WW p l e ({ frames := 2, cells := 0, slots := 0, locals := 46 }) s m args below meth c (ZQ below args s D cy G n0 Qp n0) 10 D cy G n0 47 [(0, vR (some o0)), (1, vI x1), (2, vI x2), (3, vI x3), (4, vI x4), (5, vI x5), (6, vI x6), (7, vI x7)] [] M) (h : P_X12_against_125 o0 x1 x2 x3 x4 x6 x7 x8 x9 s0 s1 M Q K47) : WW p l e ({ frames := 2, cells := 0, slots := 0, locals := 46 }) s m args below meth c (ZQ below args s D cy G n0 Qp n0) 10 D cy G n0 125 [(0, vR (some o0)), (1, vI x1), (2, vI x2), (3, vI x3), (4, vI x4), (6, vI x6), (7, vI x7), (8, vI x8), (9, vI x9)] [vI s1, vI s0] M := by
  unfold P_X12_against_125 at h
  refine w_iadd C dX12_against_125 h.1 ?_
  replace h := h.2
  refine x_nmI (fun v6 ev6 => ?_)
  replace h := h v6 ev6
  refine x_istore (L' := [(5, vI v6), (0, vR (some o0)), (1, vI x1), (2, vI x2), (3, vI x3), (4, vI x4), (6, vI x6), (7, vI x7), (8, vI x8), (9, vI x9)]) C dX12_against_126 (by decide) rfl ?_
  refine w_iload C dX12_against_128 (mem_k 6 rfl) ?_
  refine w_iload C dX12_against_130 (mem_k 8 rfl) ?_
  refine w_iload C dX12_against_132 (mem_k 9 rfl) ?_
  refine w_icmp_ne (tgt := 141) C dX12_against_134 (by decide) (fun q => ?_) (fun q => ?_)
  · replace h := h.1 q
    refine w_iconst C dX12_against_141 ⟨by decide, by decide⟩ ?_
    refine w_iadd C dX12_against_142 h.1 ?_
    replace h := h.2
    refine x_nmI (fun v7 ev7 => ?_)
    replace h := h v7 ev7
    refine x_istore (L' := [(6, vI v7), (5, vI v6), (0, vR (some o0)), (1, vI x1), (2, vI x2), (3, vI x3), (4, vI x4), (7, vI x7), (8, vI x8), (9, vI x9)]) C dX12_against_143 (by decide) rfl ?_
    obtain ⟨v8, ev8⟩ : ∃ z : Int, z = x7 + 1 := ⟨_, rfl⟩
    refine x_iinc (L' := [(7, vI v8), (6, vI v7), (5, vI v6), (0, vR (some o0)), (1, vI x1), (2, vI x2), (3, vI x3), (4, vI x4), (8, vI x8), (9, vI x9)]) C dX12_against_145 (mem_k 7 rfl) (by decide) h.1 ev8 rfl ?_
    replace h := h.2 v8 ev8
    refine w_goto (tgt := 47) C dX12_against_148 (by decide) ?_
    refine x_pc (pc2 := 47) rfl ?_
    refine x_pick (L' := [(0, vR (some o0)), (1, vI x1), (2, vI x2), (3, vI x3), (4, vI x4), (5, vI v6), (6, vI v7), (7, vI v8)]) [3, 4, 5, 6, 7, 2, 1, 0] rfl ?_
    exact hK47 x4 v6 v7 v8 h
  · replace h := h.2 q
    refine w_iconst C dX12_against_137 ⟨by decide, by decide⟩ ?_
    refine w_goto (tgt := 142) C dX12_against_138 (by decide) ?_
    refine w_iadd C dX12_against_142 h.1 ?_
    replace h := h.2
    refine x_nmI (fun v9 ev9 => ?_)
    replace h := h v9 ev9
    refine x_istore (L' := [(6, vI v9), (5, vI v6), (0, vR (some o0)), (1, vI x1), (2, vI x2), (3, vI x3), (4, vI x4), (7, vI x7), (8, vI x8), (9, vI x9)]) C dX12_against_143 (by decide) rfl ?_
    obtain ⟨v10, ev10⟩ : ∃ z : Int, z = x7 + 1 := ⟨_, rfl⟩
    refine x_iinc (L' := [(7, vI v10), (6, vI v9), (5, vI v6), (0, vR (some o0)), (1, vI x1), (2, vI x2), (3, vI x3), (4, vI x4), (8, vI x8), (9, vI x9)]) C dX12_against_145 (mem_k 7 rfl) (by decide) h.1 ev10 rfl ?_
    replace h := h.2 v10 ev10
    refine w_goto (tgt := 47) C dX12_against_148 (by decide) ?_
    refine x_pc (pc2 := 47) rfl ?_
    refine x_pick (L' := [(0, vR (some o0)), (1, vI x1), (2, vI x2), (3, vI x3), (4, vI x4), (5, vI v6), (6, vI v9), (7, vI v10)]) [3, 4, 5, 6, 7, 2, 1, 0] rfl ?_
    exact hK47 x4 v6 v9 v10 h
set_option maxRecDepth 100000 in
set_option maxHeartbeats 4000000 in
theorem k_X12_against_108 {o0 : Nat} {x1 : Int} {x2 : Int} {x3 : Int} {x5 : Int} {x6 : Int} {x7 : Int} {x8 : Int} {x9 : Int} {s0 : Int} {s1 : Int} {M : Mm} {Q : Int → Prop} {K47 : Int × Int × Int × Int → Prop} (C : Cx p s m args meth c cX12_against 10 RX12 D cy G n0) (hr : meth.sig.returnType = some .int) (h3 : n0 = 243) (hn : M.2.2.2 = n0) (ho0 : o0 < 243 ∧ (SH o0).1 = 12) (hQ : ∀ x, Q x → Qp (some (vI x)) M) (hK47 : ∀ (x4 : Int) (x5 : Int) (x6 : Int) (x7 : Int), K47 (x4, x5, x6, x7) → WW p l e ({ frames := 2, cells := 0, slots := 0, locals := 46 }) s m args below meth c (ZQ below args s D cy G n0 Qp n0) 10 D cy G n0 47 [(0, vR (some o0)), (1, vI x1), (2, vI x2), (3, vI x3), (4, vI x4), (5, vI x5), (6, vI x6), (7, vI x7)] [] M) (h : P_X12_against_108 o0 x1 x2 x3 x5 x6 x7 x8 x9 s0 s1 M Q K47) : WW p l e ({ frames := 2, cells := 0, slots := 0, locals := 46 }) s m args below meth c (ZQ below args s D cy G n0 Qp n0) 10 D cy G n0 108 [(0, vR (some o0)), (1, vI x1), (2, vI x2), (3, vI x3), (5, vI x5), (6, vI x6), (7, vI x7), (8, vI x8), (9, vI x9)] [vI s1, vI s0] M := by
  unfold P_X12_against_108 at h
  refine w_iadd C dX12_against_108 h.1 ?_
  replace h := h.2
  refine x_nmI (fun v11 ev11 => ?_)
  replace h := h v11 ev11
  refine x_istore (L' := [(4, vI v11), (0, vR (some o0)), (1, vI x1), (2, vI x2), (3, vI x3), (5, vI x5), (6, vI x6), (7, vI x7), (8, vI x8), (9, vI x9)]) C dX12_against_109 (by decide) rfl ?_
  refine w_iload C dX12_against_111 (mem_k 5 rfl) ?_
  refine w_iload C dX12_against_113 (mem_k 8 rfl) ?_
  refine w_iload C dX12_against_115 (mem_k 9 rfl) ?_
  refine w_icmp_ge (tgt := 124) C dX12_against_117 (by decide) (fun q => ?_) (fun q => ?_)
  · replace h := h.1 q
    refine w_iconst C dX12_against_124 ⟨by decide, by decide⟩ ?_
    refine x_pc (pc2 := 125) rfl ?_
    refine x_pick (L' := [(0, vR (some o0)), (1, vI x1), (2, vI x2), (3, vI x3), (4, vI v11), (6, vI x6), (7, vI x7), (8, vI x8), (9, vI x9)]) [1, 2, 3, 4, 0, 6, 7, 8, 9] rfl ?_
    exact k_X12_against_125 C hr h3 hn ho0 hQ hK47 h
  · replace h := h.2 q
    refine w_iconst C dX12_against_120 ⟨by decide, by decide⟩ ?_
    refine w_goto (tgt := 125) C dX12_against_121 (by decide) ?_
    refine x_pc (pc2 := 125) rfl ?_
    refine x_pick (L' := [(0, vR (some o0)), (1, vI x1), (2, vI x2), (3, vI x3), (4, vI v11), (6, vI x6), (7, vI x7), (8, vI x8), (9, vI x9)]) [1, 2, 3, 4, 0, 6, 7, 8, 9] rfl ?_
    exact k_X12_against_125 C hr h3 hn ho0 hQ hK47 h
set_option maxRecDepth 100000 in
set_option maxHeartbeats 4000000 in
theorem f_X12_against_47 {o0 : Nat} {x1 : Int} {x2 : Int} {x3 : Int} {x4 : Int} {x5 : Int} {x6 : Int} {x7 : Int} {M : Mm} {Q : Int → Prop} {K47 : Int × Int × Int × Int → Prop} (C : Cx p s m args meth c cX12_against 10 RX12 D cy G n0) (hr : meth.sig.returnType = some .int) (h3 : n0 = 243) (hn : M.2.2.2 = n0) (ho0 : o0 < 243 ∧ (SH o0).1 = 12) (hQ : ∀ x, Q x → Qp (some (vI x)) M) (hK47 : ∀ (x4 : Int) (x5 : Int) (x6 : Int) (x7 : Int), K47 (x4, x5, x6, x7) → WW p l e ({ frames := 2, cells := 0, slots := 0, locals := 46 }) s m args below meth c (ZQ below args s D cy G n0 Qp n0) 10 D cy G n0 47 [(0, vR (some o0)), (1, vI x1), (2, vI x2), (3, vI x3), (4, vI x4), (5, vI x5), (6, vI x6), (7, vI x7)] [] M) (h : F_X12_against_47 o0 x1 x2 x3 M Q  K47 x4 x5 x6 x7) : WW p l e ({ frames := 2, cells := 0, slots := 0, locals := 46 }) s m args below meth c (ZQ below args s D cy G n0 Qp n0) 10 D cy G n0 47 [(0, vR (some o0)), (1, vI x1), (2, vI x2), (3, vI x3), (4, vI x4), (5, vI x5), (6, vI x6), (7, vI x7)] [] M := by
  unfold F_X12_against_47 at h
  refine w_iload C dX12_against_47 (mem_k 7 rfl) ?_
  refine w_aload_n C dX12_against_49 rfl (mem_k 0 rfl) ?_
  refine x_getI C dX12_against_50 fw_X12_149 (isO.n (ci := 12) ⟨rfl, ho0⟩ (hn.trans h3)) ?_
  refine w_icmp_ge (tgt := 151) C dX12_against_53 (by decide) (fun q => ?_) (fun q => ?_)
  · replace h := h.1 q
    refine w_iload_n C dX12_against_151 rfl (mem_k 3 rfl) ?_
    refine w_iconst C dX12_against_152 ⟨by decide, by decide⟩ ?_
    refine w_icmp_ge (tgt := 178) C dX12_against_153 (by decide) (fun q => ?_) (fun q => ?_)
    · replace h := h.1 q
      refine w_iconst C dX12_against_178 ⟨by decide, by decide⟩ ?_
      refine x_istore (L' := [(7, vI 0), (0, vR (some o0)), (1, vI x1), (2, vI x2), (3, vI x3), (4, vI x4), (5, vI x5), (6, vI x6)]) C dX12_against_179 (by decide) rfl ?_
      refine w_iconst C dX12_against_181 ⟨by decide, by decide⟩ ?_
      refine x_istore (L' := [(8, vI 0), (7, vI 0), (0, vR (some o0)), (1, vI x1), (2, vI x2), (3, vI x3), (4, vI x4), (5, vI x5), (6, vI x6)]) C dX12_against_182 (by decide) rfl ?_
      refine x_pc (pc2 := 184) rfl ?_
      refine x_pick (L' := [(4, vI x4), (5, vI x5), (7, vI 0), (8, vI 0)]) [6, 7, 1, 0] rfl ?_
      exact k_X12_against_184 C hr h3 hn ho0 hQ  h
    · replace h := h.2 q
      refine w_iload_n C dX12_against_156 rfl (mem_k 3 rfl) ?_
      refine w_if_ne (tgt := 165) C dX12_against_157 (by decide) (fun q => ?_) (fun q => ?_)
      · replace h := h.1 q
        refine w_iload_n C dX12_against_165 rfl (mem_k 3 rfl) ?_
        refine w_iconst C dX12_against_166 ⟨by decide, by decide⟩ ?_
        refine w_icmp_ne (tgt := 175) C dX12_against_167 (by decide) (fun q => ?_) (fun q => ?_)
        · replace h := h.1 q
          refine w_iload C dX12_against_175 (mem_k 6 rfl) ?_
          exact x_iret C hr dX12_against_177 hn (hQ _ h)
        · replace h := h.2 q
          refine w_iload C dX12_against_170 (mem_k 5 rfl) ?_
          refine w_goto (tgt := 177) C dX12_against_172 (by decide) ?_
          exact x_iret C hr dX12_against_177 hn (hQ _ h)
      · replace h := h.2 q
        refine w_iload C dX12_against_160 (mem_k 4 rfl) ?_
        refine w_goto (tgt := 177) C dX12_against_162 (by decide) ?_
        exact x_iret C hr dX12_against_177 hn (hQ _ h)
  · replace h := h.2 q
    refine w_aload_n C dX12_against_56 rfl (mem_k 0 rfl) ?_
    refine x_getR C dX12_against_57 fw_X12_49 (isO.n (ci := 12) ⟨rfl, ho0⟩ (hn.trans h3)) (fun r12 er12 => ?_)
    replace h := h r12 er12
    refine w_bipush C dX12_against_60 (by decide) ?_
    refine w_iload C dX12_against_62 (mem_k 7 rfl) ?_
    refine w_imul C dX12_against_64 h.1 ?_
    replace h := h.2
    refine w_iload_n C dX12_against_65 rfl (mem_k 1 rfl) ?_
    refine w_iadd C dX12_against_66 h.1 ?_
    replace h := h.2
    obtain ⟨o13, g14, h⟩ := h
    refine x_iald C dX12_against_67 (isA.n g14 (hn.trans h3)) ?_
    refine x_nmI (fun v15 ev15 => ?_)
    replace h := h v15 ev15
    refine x_istore (L' := [(8, vI v15), (0, vR (some o0)), (1, vI x1), (2, vI x2), (3, vI x3), (4, vI x4), (5, vI x5), (6, vI x6), (7, vI x7)]) C dX12_against_68 (by decide) rfl ?_
    refine w_aload_n C dX12_against_70 rfl (mem_k 1 rfl) ?_
    refine x_getR C dX12_against_71 fw_X12_49 (isO.n (ci := 12) ⟨rfl, ho0⟩ (hn.trans h3)) (fun r16 er16 => ?_)
    replace h := h r16 er16
    refine w_bipush C dX12_against_74 (by decide) ?_
    refine w_iload C dX12_against_76 (mem_k 8 rfl) ?_
    refine w_imul C dX12_against_78 h.1 ?_
    replace h := h.2
    refine w_iload_n C dX12_against_79 rfl (mem_k 3 rfl) ?_
    refine w_iadd C dX12_against_80 h.1 ?_
    replace h := h.2
    obtain ⟨o17, g18, h⟩ := h
    refine x_iald C dX12_against_81 (isA.n g18 (hn.trans h3)) ?_
    refine x_nmI (fun v19 ev19 => ?_)
    replace h := h v19 ev19
    refine x_istore (L' := [(9, vI v19), (8, vI v15), (0, vR (some o0)), (1, vI x1), (2, vI x2), (3, vI x3), (4, vI x4), (5, vI x5), (6, vI x6), (7, vI x7)]) C dX12_against_82 (by decide) rfl ?_
    refine w_iload C dX12_against_84 (mem_k 1 rfl) ?_
    refine w_if_lt (tgt := 145) C dX12_against_86 (by decide) (fun q => ?_) (fun q => ?_)
    · replace h := h.1 q
      obtain ⟨v20, ev20⟩ : ∃ z : Int, z = x7 + 1 := ⟨_, rfl⟩
      refine x_iinc (L' := [(7, vI v20), (9, vI v19), (8, vI v15), (0, vR (some o0)), (1, vI x1), (2, vI x2), (3, vI x3), (4, vI x4), (5, vI x5), (6, vI x6)]) C dX12_against_145 (mem_k 9 rfl) (by decide) h.1 ev20 rfl ?_
      replace h := h.2 v20 ev20
      refine w_goto (tgt := 47) C dX12_against_148 (by decide) ?_
      refine x_pc (pc2 := 47) rfl ?_
      refine x_pick (L' := [(0, vR (some o0)), (1, vI x1), (2, vI x2), (3, vI x3), (4, vI x4), (5, vI x5), (6, vI x6), (7, vI v20)]) [3, 4, 5, 6, 7, 8, 9, 0] rfl ?_
      exact hK47 x4 x5 x6 v20 h
    · replace h := h.2 q
      refine w_iload C dX12_against_89 (mem_k 0 rfl) ?_
      refine w_if_lt (tgt := 145) C dX12_against_91 (by decide) (fun q => ?_) (fun q => ?_)
      · replace h := h.1 q
        obtain ⟨v21, ev21⟩ : ∃ z : Int, z = x7 + 1 := ⟨_, rfl⟩
        refine x_iinc (L' := [(7, vI v21), (9, vI v19), (8, vI v15), (0, vR (some o0)), (1, vI x1), (2, vI x2), (3, vI x3), (4, vI x4), (5, vI x5), (6, vI x6)]) C dX12_against_145 (mem_k 9 rfl) (by decide) h.1 ev21 rfl ?_
        replace h := h.2 v21 ev21
        refine w_goto (tgt := 47) C dX12_against_148 (by decide) ?_
        refine x_pc (pc2 := 47) rfl ?_
        refine x_pick (L' := [(0, vR (some o0)), (1, vI x1), (2, vI x2), (3, vI x3), (4, vI x4), (5, vI x5), (6, vI x6), (7, vI v21)]) [3, 4, 5, 6, 7, 8, 9, 0] rfl ?_
        exact hK47 x4 x5 x6 v21 h
      · replace h := h.2 q
        refine w_iload C dX12_against_94 (mem_k 6 rfl) ?_
        refine w_iload C dX12_against_96 (mem_k 1 rfl) ?_
        refine w_iload C dX12_against_98 (mem_k 0 rfl) ?_
        refine w_icmp_le (tgt := 107) C dX12_against_100 (by decide) (fun q => ?_) (fun q => ?_)
        · replace h := h.1 q
          refine w_iconst C dX12_against_107 ⟨by decide, by decide⟩ ?_
          refine x_pc (pc2 := 108) rfl ?_
          refine x_pick (L' := [(0, vR (some o0)), (1, vI x1), (2, vI x2), (3, vI x3), (5, vI x5), (6, vI x6), (7, vI x7), (8, vI v15), (9, vI v19)]) [2, 3, 4, 5, 7, 8, 9, 1, 0] rfl ?_
          exact k_X12_against_108 C hr h3 hn ho0 hQ hK47 h
        · replace h := h.2 q
          refine w_iconst C dX12_against_103 ⟨by decide, by decide⟩ ?_
          refine w_goto (tgt := 108) C dX12_against_104 (by decide) ?_
          refine x_pc (pc2 := 108) rfl ?_
          refine x_pick (L' := [(0, vR (some o0)), (1, vI x1), (2, vI x2), (3, vI x3), (5, vI x5), (6, vI x6), (7, vI x7), (8, vI v15), (9, vI v19)]) [2, 3, 4, 5, 7, 8, 9, 1, 0] rfl ?_
          exact k_X12_against_108 C hr h3 hn ho0 hQ hK47 h
set_option maxRecDepth 100000 in
set_option maxHeartbeats 4000000 in
theorem k_X12_against_47 {o0 : Nat} {x1 : Int} {x2 : Int} {x3 : Int} {x4 : Int} {x5 : Int} {x6 : Int} {x7 : Int} {M : Mm} {Q : Int → Prop} (C : Cx p s m args meth c cX12_against 10 RX12 D cy G n0) (hr : meth.sig.returnType = some .int) (h3 : n0 = 243) (hn : M.2.2.2 = n0) (ho0 : o0 < 243 ∧ (SH o0).1 = 12) (hQ : ∀ x, Q x → Qp (some (vI x)) M) (h : P_X12_against_47 o0 x1 x2 x3 x4 x5 x6 x7 M Q ) : WW p l e ({ frames := 2, cells := 0, slots := 0, locals := 46 }) s m args below meth c (ZQ below args s D cy G n0 Qp n0) 10 D cy G n0 47 [(0, vR (some o0)), (1, vI x1), (2, vI x2), (3, vI x3), (4, vI x4), (5, vI x5), (6, vI x6), (7, vI x7)] [] M := by
  refine lpW_sound (P := fun y : Int × Int × Int × Int => WW p l e ({ frames := 2, cells := 0, slots := 0, locals := 46 }) s m args below meth c (ZQ below args s D cy G n0 Qp n0) 10 D cy G n0 47 [(0, vR (some o0)), (1, vI x1), (2, vI x2), (3, vI x3), (4, vI y.1), (5, vI y.2.1), (6, vI y.2.2.1), (7, vI y.2.2.2)] [] M) ?_ h
  intro K y hK hF
  obtain ⟨x4, x5, x6, x7⟩ := y
  exact f_X12_against_47 C hr h3 hn ho0 hQ  (fun x4 x5 x6 x7 hk => hK (x4, x5, x6, x7) hk) hF
set_option maxRecDepth 100000 in
set_option maxHeartbeats 4000000 in
theorem k_X12_against_0 {o0 : Nat} {x1 : Int} {x2 : Int} {x3 : Int} {M : Mm} {Q : Int → Prop} (C : Cx p s m args meth c cX12_against 10 RX12 D cy G n0) (hr : meth.sig.returnType = some .int) (h3 : n0 = 243) (hn : M.2.2.2 = n0) (ho0 : o0 < 243 ∧ (SH o0).1 = 12) (hQ : ∀ x, Q x → Qp (some (vI x)) M) (h : P_X12_against o0 x1 x2 x3 M Q ) : WW p l e ({ frames := 2, cells := 0, slots := 0, locals := 46 }) s m args below meth c (ZQ below args s D cy G n0 Qp n0) 10 D cy G n0 0 [(0, vR (some o0)), (1, vI x1), (2, vI x2), (3, vI x3)] [] M := by
  unfold P_X12_against at h
  refine w_aload_n C dX12_against_0 rfl (mem_k 0 rfl) ?_
  refine w_iload_n C dX12_against_1 rfl (mem_k 1 rfl) ?_
  refine cl_X12_isSeat (ck_X12_152 ⟨by decide, by decide⟩) C dX12_against_2 hn h3 (Nat.le_of_ble_eq_true rfl) (isO.n (ci := 12) ⟨rfl, ho0⟩ (hn.trans h3)) h (fun v22 h => ?_)
  refine w_if_eq (tgt := 33) C dX12_against_5 (by decide) (fun q => ?_) (fun q => ?_)
  · replace h := h.1 q
    refine w_iconst C dX12_against_33 ⟨by decide, by decide⟩ ?_
    exact x_iret C hr dX12_against_34 hn (hQ _ h)
  · replace h := h.2 q
    refine w_aload_n C dX12_against_8 rfl (mem_k 0 rfl) ?_
    refine w_iload_n C dX12_against_9 rfl (mem_k 2 rfl) ?_
    refine cl_X12_isSeat (ck_X12_152 ⟨by decide, by decide⟩) C dX12_against_10 hn h3 (Nat.le_of_ble_eq_true rfl) (isO.n (ci := 12) ⟨rfl, ho0⟩ (hn.trans h3)) h (fun v23 h => ?_)
    refine w_if_eq (tgt := 33) C dX12_against_13 (by decide) (fun q => ?_) (fun q => ?_)
    · replace h := h.1 q
      refine w_iconst C dX12_against_33 ⟨by decide, by decide⟩ ?_
      exact x_iret C hr dX12_against_34 hn (hQ _ h)
    · replace h := h.2 q
      refine w_iload_n C dX12_against_16 rfl (mem_k 1 rfl) ?_
      refine w_iload_n C dX12_against_17 rfl (mem_k 2 rfl) ?_
      refine w_icmp_eq (tgt := 33) C dX12_against_18 (by decide) (fun q => ?_) (fun q => ?_)
      · replace h := h.1 q
        refine w_iconst C dX12_against_33 ⟨by decide, by decide⟩ ?_
        exact x_iret C hr dX12_against_34 hn (hQ _ h)
      · replace h := h.2 q
        refine w_iload_n C dX12_against_21 rfl (mem_k 3 rfl) ?_
        refine w_i2l C dX12_against_22 ?_
        refine w_lconst C dX12_against_23 ?_
        refine w_ldc2 (x := 3) C dX12_against_24 cn_X12_244 ⟨by decide, by decide⟩ ?_
        refine cl_X12_in (ck_X12_85 ⟨by decide, by decide⟩) C dX12_against_27 hn h3 (Nat.le_of_ble_eq_true rfl) h (fun v24 h => ?_)
        refine w_if_ne (tgt := 35) C dX12_against_30 (by decide) (fun q => ?_) (fun q => ?_)
        · replace h := h.1 q
          refine w_iconst C dX12_against_35 ⟨by decide, by decide⟩ ?_
          refine x_istore (L' := [(4, vI 0), (0, vR (some o0)), (1, vI x1), (2, vI x2), (3, vI x3)]) C dX12_against_36 (by decide) rfl ?_
          refine w_iconst C dX12_against_38 ⟨by decide, by decide⟩ ?_
          refine x_istore (L' := [(5, vI 0), (4, vI 0), (0, vR (some o0)), (1, vI x1), (2, vI x2), (3, vI x3)]) C dX12_against_39 (by decide) rfl ?_
          refine w_iconst C dX12_against_41 ⟨by decide, by decide⟩ ?_
          refine x_istore (L' := [(6, vI 0), (5, vI 0), (4, vI 0), (0, vR (some o0)), (1, vI x1), (2, vI x2), (3, vI x3)]) C dX12_against_42 (by decide) rfl ?_
          refine w_iconst C dX12_against_44 ⟨by decide, by decide⟩ ?_
          refine x_istore (L' := [(7, vI 0), (6, vI 0), (5, vI 0), (4, vI 0), (0, vR (some o0)), (1, vI x1), (2, vI x2), (3, vI x3)]) C dX12_against_45 (by decide) rfl ?_
          refine x_pc (pc2 := 47) rfl ?_
          refine x_pick (L' := [(0, vR (some o0)), (1, vI x1), (2, vI x2), (3, vI x3), (4, vI 0), (5, vI 0), (6, vI 0), (7, vI 0)]) [4, 5, 6, 7, 3, 2, 1, 0] rfl ?_
          exact k_X12_against_47 C hr h3 hn ho0 hQ  h
        · replace h := h.2 q
          refine w_iconst C dX12_against_33 ⟨by decide, by decide⟩ ?_
          exact x_iret C hr dX12_against_34 hn (hQ _ h)
set_option maxRecDepth 100000 in
set_option maxHeartbeats 4000000 in
theorem con_X12_against (l : Launch) (D : va_G) (cy : Nat → ClassId) : Con l D cy yX12_against cX12_against 10 (some .int) ({ frames := 2, cells := 0, slots := 0, locals := 46 }) 0 0 SP_X12_against := by
  refine con_of (by decide) (fun as M Qp h => ?_) ?_
  · obtain ⟨-, o0, x1, x2, x3, rfl, -⟩ := h
    exact Nat.le_of_ble_eq_true rfl
  · intro p e s m args below meth c G as M Qp h C hr hnm
    obtain ⟨hn, o0, x1, x2, x3, rfl, ho1, ho2, Q0, hQ, h⟩ := h
    refine x_pick (L' := [(0, vR (some o0)), (1, vI x1), (2, vI x2), (3, vI x3)]) [0, 1, 2, 3] rfl ?_
    exact k_X12_against_0 C hr hn rfl ⟨ho1, ho2⟩ hQ h
set_option maxRecDepth 100000 in
set_option maxHeartbeats 4000000 in
theorem cl_X12_against {p : Program} {l : Launch} {e : Env} {R : Room} {s : State} {m : MethodId} {args : Array Value} {below : List Frame} {meth : Method} {c : Code} {Q : State → Prop} {cc : ByteArray} {nL : Nat} {own : String} {D : va_G} {cy : Nat → ClassId} {G : Nat × Nat} {n0 pc : Nat} {L : List (Nat × PV)} {st : List PV} {M : Mm} {op : Instr} (K : CallOK l D cy R own op 0 0 (spV 12 3 SP_X12_against)) (C : Cx p s m args meth c cc nL own D cy G n0) (hd : decode cc pc = .ok (op, 3)) (hn : M.2.2.2 = n0) (h3 : n0 = 243) (hlen : argN st ≤ 8) {r : Option Nat} {o0 : Nat} (ho : isOn 12 M.2.2.2 r o0) {x1 : Int} {x2 : Int} {x3 : Int} {Q0 : Int → Prop} (h : P_X12_against o0 x1 x2 x3 M Q0) (k : ∀ x, Q0 x → WW p l e R s m args below meth c Q nL D cy G n0  (pc + 3) L (vI x :: st) M) : WW p l e R s m args below meth c Q nL D cy G n0  pc L (vI x3 :: vI x2 :: vI x1 :: vR r :: st) M := by
  obtain ⟨rfl, ho1, ho2⟩ := ho
  refine x_call0 K C hd (as := [vR (some o0), vI x1, vI x2, vI x3]) rfl hn hlen (fun v M2 => ∃ x, v = some (vI x) ∧ M2 = M ∧ Q0 x) ⟨⟨o0, [vI x1, vI x2, vI x3], rfl, rfl, ho1, ho2⟩, hn.trans h3, o0, x1, x2, x3, rfl, (hn.trans h3) ▸ ho1, ho2, Q0, fun x hx => ⟨x, rfl, rfl, hx⟩, h⟩ ?_
  rintro _ _ ⟨x, rfl, rfl, hx⟩ hm
  exact k x hx
end W_X12_against
