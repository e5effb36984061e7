/-! seats: pure predicates, decode rows, walks, contracts; by program (wip/gen/walk.py) -/
theorem dX11_body_0 : decode cX11_body 0 = .ok (.iload_n 1, 1) := by decide +kernel
theorem dX11_body_1 : decode cX11_body 1 = .ok (.bipush 100, 2) := by decide +kernel
theorem dX11_body_3 : decode cX11_body 3 = .ok (.sipush 2000, 3) := by decide +kernel
theorem dX11_body_6 : decode cX11_body 6 = .ok (.invokestatic 61, 3) := by decide +kernel
theorem dX11_body_9 : decode cX11_body 9 = .ok (.ifCond .eq 69, 3) := by decide +kernel
theorem dX11_body_12 : decode cX11_body 12 = .ok (.iload_n 2, 1) := by decide +kernel
theorem dX11_body_13 : decode cX11_body 13 = .ok (.sipush 250, 3) := by decide +kernel
theorem dX11_body_16 : decode cX11_body 16 = .ok (.sipush 700, 3) := by decide +kernel
theorem dX11_body_19 : decode cX11_body 19 = .ok (.invokestatic 61, 3) := by decide +kernel
theorem dX11_body_22 : decode cX11_body 22 = .ok (.ifCond .eq 56, 3) := by decide +kernel
theorem dX11_body_25 : decode cX11_body 25 = .ok (.iload_n 3, 1) := by decide +kernel
theorem dX11_body_26 : decode cX11_body 26 = .ok (.sipush 400, 3) := by decide +kernel
theorem dX11_body_29 : decode cX11_body 29 = .ok (.sipush 1200, 3) := by decide +kernel
theorem dX11_body_32 : decode cX11_body 32 = .ok (.invokestatic 61, 3) := by decide +kernel
theorem dX11_body_35 : decode cX11_body 35 = .ok (.ifCond .eq 43, 3) := by decide +kernel
theorem dX11_body_38 : decode cX11_body 38 = .ok (.iload 4, 2) := by decide +kernel
theorem dX11_body_40 : decode cX11_body 40 = .ok (.sipush 400, 3) := by decide +kernel
theorem dX11_body_43 : decode cX11_body 43 = .ok (.sipush 1100, 3) := by decide +kernel
theorem dX11_body_46 : decode cX11_body 46 = .ok (.invokestatic 61, 3) := by decide +kernel
theorem dX11_body_49 : decode cX11_body 49 = .ok (.ifCond .eq 29, 3) := by decide +kernel
theorem dX11_body_52 : decode cX11_body 52 = .ok (.iload 5, 2) := by decide +kernel
theorem dX11_body_54 : decode cX11_body 54 = .ok (.sipush 200, 3) := by decide +kernel
theorem dX11_body_57 : decode cX11_body 57 = .ok (.sipush 700, 3) := by decide +kernel
theorem dX11_body_60 : decode cX11_body 60 = .ok (.invokestatic 61, 3) := by decide +kernel
theorem dX11_body_63 : decode cX11_body 63 = .ok (.ifCond .eq 15, 3) := by decide +kernel
theorem dX11_body_66 : decode cX11_body 66 = .ok (.iload 6, 2) := by decide +kernel
theorem dX11_body_68 : decode cX11_body 68 = .ok (.iconst 1, 1) := by decide +kernel
theorem dX11_body_69 : decode cX11_body 69 = .ok (.sipush 1000, 3) := by decide +kernel
theorem dX11_body_72 : decode cX11_body 72 = .ok (.invokestatic 61, 3) := by decide +kernel
theorem dX11_body_75 : decode cX11_body 75 = .ok (.ifCond .ne 5, 3) := by decide +kernel
theorem dX11_body_78 : decode cX11_body 78 = .ok (.iconst (-1), 1) := by decide +kernel
theorem dX11_body_79 : decode cX11_body 79 = .ok (.ireturn, 1) := by decide +kernel
theorem dX11_body_80 : decode cX11_body 80 = .ok (.aload_n 0, 1) := by decide +kernel
theorem dX11_body_81 : decode cX11_body 81 = .ok (.getfield 29, 3) := by decide +kernel
theorem dX11_body_84 : decode cX11_body 84 = .ok (.invokevirtual 84, 3) := by decide +kernel
theorem dX11_body_87 : decode cX11_body 87 = .ok (.astore 7, 2) := by decide +kernel
theorem dX11_body_89 : decode cX11_body 89 = .ok (.aload 7, 2) := by decide +kernel
theorem dX11_body_91 : decode cX11_body 91 = .ok (.ifnonnull 6, 3) := by decide +kernel
theorem dX11_body_94 : decode cX11_body 94 = .ok (.bipush (-3), 2) := by decide +kernel
theorem dX11_body_96 : decode cX11_body 96 = .ok (.ireturn, 1) := by decide +kernel
theorem dX11_body_97 : decode cX11_body 97 = .ok (.aload 7, 2) := by decide +kernel
theorem dX11_body_99 : decode cX11_body 99 = .ok (.iload_n 1, 1) := by decide +kernel
theorem dX11_body_100 : decode cX11_body 100 = .ok (.putfield 88, 3) := by decide +kernel
theorem dX11_body_103 : decode cX11_body 103 = .ok (.aload 7, 2) := by decide +kernel
theorem dX11_body_105 : decode cX11_body 105 = .ok (.iload_n 2, 1) := by decide +kernel
theorem dX11_body_106 : decode cX11_body 106 = .ok (.putfield 93, 3) := by decide +kernel
theorem dX11_body_109 : decode cX11_body 109 = .ok (.aload 7, 2) := by decide +kernel
theorem dX11_body_111 : decode cX11_body 111 = .ok (.iload_n 3, 1) := by decide +kernel
theorem dX11_body_112 : decode cX11_body 112 = .ok (.putfield 96, 3) := by decide +kernel
theorem dX11_body_115 : decode cX11_body 115 = .ok (.aload 7, 2) := by decide +kernel
theorem dX11_body_117 : decode cX11_body 117 = .ok (.iload 4, 2) := by decide +kernel
theorem dX11_body_119 : decode cX11_body 119 = .ok (.putfield 99, 3) := by decide +kernel
theorem dX11_body_122 : decode cX11_body 122 = .ok (.aload 7, 2) := by decide +kernel
theorem dX11_body_124 : decode cX11_body 124 = .ok (.iload 5, 2) := by decide +kernel
theorem dX11_body_126 : decode cX11_body 126 = .ok (.putfield 102, 3) := by decide +kernel
theorem dX11_body_129 : decode cX11_body 129 = .ok (.aload 7, 2) := by decide +kernel
theorem dX11_body_131 : decode cX11_body 131 = .ok (.iload 6, 2) := by decide +kernel
theorem dX11_body_133 : decode cX11_body 133 = .ok (.putfield 105, 3) := by decide +kernel
theorem dX11_body_136 : decode cX11_body 136 = .ok (.aload_n 0, 1) := by decide +kernel
theorem dX11_body_137 : decode cX11_body 137 = .ok (.getfield 29, 3) := by decide +kernel
theorem dX11_body_140 : decode cX11_body 140 = .ok (.getfield 108, 3) := by decide +kernel
theorem dX11_body_143 : decode cX11_body 143 = .ok (.iconst 1, 1) := by decide +kernel
theorem dX11_body_144 : decode cX11_body 144 = .ok (.isub, 1) := by decide +kernel
theorem dX11_body_145 : decode cX11_body 145 = .ok (.ireturn, 1) := by decide +kernel
theorem fw_X11_29 : fR RX11 29 11 3 := ⟨⟨lwG_2 (i := 65) rfl rfl, by decide, by decide⟩, fun _ _ => rfl, fun r => ⟨r, rfl⟩⟩
theorem ck_X11_84 {l : Launch} {D : va_G} {cy : Nat → ClassId} {R : Room} (hR : 1 ≤ R.frames ∧ 20 ≤ R.locals) : CallOK l D cy R RX11 (.invokevirtual 84) 0 0 (spV 1 0 SP_X1_nextBody) := call_V (ci := 1) (con_X1_nextBody l D cy) (lwG_2 (i := 171) rfl rfl) (lwG_2 (i := 172) rfl rfl) (lwG_2 (i := 173) rfl rfl) (lwG_1 (i := 7) rfl rfl) (lwG_2 (i := 174) rfl rfl) (by decide) ⟨rfl, by decide, by decide, rfl⟩ ⟨rfl, rfl⟩ hR
theorem fw_X11_88 : fI RX11 88 0 0 := ⟨⟨lwG_1 (i := 167) rfl rfl, by decide, by decide⟩, rfl⟩
theorem fw_X11_93 : fI RX11 93 0 1 := ⟨⟨lwG_1 (i := 169) rfl rfl, by decide, by decide⟩, rfl⟩
theorem fw_X11_96 : fI RX11 96 0 2 := ⟨⟨lwG_1 (i := 171) rfl rfl, by decide, by decide⟩, rfl⟩
theorem fw_X11_99 : fI RX11 99 0 3 := ⟨⟨lwG_1 (i := 173) rfl rfl, by decide, by decide⟩, rfl⟩
theorem fw_X11_102 : fI RX11 102 0 4 := ⟨⟨lwG_1 (i := 175) rfl rfl, by decide, by decide⟩, rfl⟩
theorem fw_X11_105 : fI RX11 105 0 5 := ⟨⟨lwG_1 (i := 177) rfl rfl, by decide, by decide⟩, rfl⟩
theorem fw_X11_108 : fI RX11 108 1 1 := ⟨⟨lwG_1 (i := 203) rfl rfl, by decide, by decide⟩, rfl⟩
section W_X11_body
variable {p : Program} {l : Launch} {e : Env} {s : State} {m : MethodId} {args : Array Value} {below : List Frame} {meth : Method} {c : Code} {D : va_G} {cy : Nat → ClassId} {G : Nat × Nat} {n0 : Nat} {Qp : Option PV → Mm → Prop}
set_option maxRecDepth 100000 in
set_option maxHeartbeats 4000000 in
theorem k_X11_body_0 {o0 : Nat} {x1 : Int} {x2 : Int} {x3 : Int} {x4 : Int} {x5 : Int} {x6 : Int} {M : Mm} {Q : Int → Mm → Prop} (C : Cx p s m args meth c cX11_body 8 RX11 D cy G n0) (hr : meth.sig.returnType = some .int) (h3 : n0 = 243) (hn : M.2.2.2 = n0) (ho0 : o0 < 243 ∧ (SH o0).1 = 11) (hQ : ∀ x M, Q x M → Qp (some (vI x)) M) (h : P_X11_body o0 x1 x2 x3 x4 x5 x6 M Q ) : WW p l e ({ frames := 1, cells := 0, slots := 0, locals := 22 }) s m args below meth c (ZQ below args s D cy G n0 Qp n0) 8 D cy G n0 0 [(0, vR (some o0)), (1, vI x1), (2, vI x2), (3, vI x3), (4, vI x4), (5, vI x5), (6, vI x6)] [] M := by
  unfold P_X11_body at h
  refine w_iload_n C dX11_body_0 rfl (mem_k 1 rfl) ?_
  refine w_bipush C dX11_body_1 (by decide) ?_
  refine w_sipush C dX11_body_3 (by decide) ?_
  refine cl_X11_isWithin (ck_X11_61 ⟨by decide, by decide⟩) C dX11_body_6 hn h3 (Nat.le_of_ble_eq_true rfl) h (fun v1 h => ?_)
  refine w_if_eq (tgt := 78) C dX11_body_9 (by decide) (fun q => ?_) (fun q => ?_)
  · replace h := h.1 q
    refine w_iconst C dX11_body_78 ⟨by decide, by decide⟩ ?_
    exact x_iret C hr dX11_body_79 hn (hQ _ M h)
  · replace h := h.2 q
    refine w_iload_n C dX11_body_12 rfl (mem_k 2 rfl) ?_
    refine w_sipush C dX11_body_13 (by decide) ?_
    refine w_sipush C dX11_body_16 (by decide) ?_
    refine cl_X11_isWithin (ck_X11_61 ⟨by decide, by decide⟩) C dX11_body_19 hn h3 (Nat.le_of_ble_eq_true rfl) h (fun v2 h => ?_)
    refine w_if_eq (tgt := 78) C dX11_body_22 (by decide) (fun q => ?_) (fun q => ?_)
    · replace h := h.1 q
      refine w_iconst C dX11_body_78 ⟨by decide, by decide⟩ ?_
      exact x_iret C hr dX11_body_79 hn (hQ _ M h)
    · replace h := h.2 q
      refine w_iload_n C dX11_body_25 rfl (mem_k 3 rfl) ?_
      refine w_sipush C dX11_body_26 (by decide) ?_
      refine w_sipush C dX11_body_29 (by decide) ?_
      refine cl_X11_isWithin (ck_X11_61 ⟨by decide, by decide⟩) C dX11_body_32 hn h3 (Nat.le_of_ble_eq_true rfl) h (fun v3 h => ?_)
      refine w_if_eq (tgt := 78) C dX11_body_35 (by decide) (fun q => ?_) (fun q => ?_)
      · replace h := h.1 q
        refine w_iconst C dX11_body_78 ⟨by decide, by decide⟩ ?_
        exact x_iret C hr dX11_body_79 hn (hQ _ M h)
      · replace h := h.2 q
        refine w_iload C dX11_body_38 (mem_k 4 rfl) ?_
        refine w_sipush C dX11_body_40 (by decide) ?_
        refine w_sipush C dX11_body_43 (by decide) ?_
        refine cl_X11_isWithin (ck_X11_61 ⟨by decide, by decide⟩) C dX11_body_46 hn h3 (Nat.le_of_ble_eq_true rfl) h (fun v4 h => ?_)
        refine w_if_eq (tgt := 78) C dX11_body_49 (by decide) (fun q => ?_) (fun q => ?_)
        · replace h := h.1 q
          refine w_iconst C dX11_body_78 ⟨by decide, by decide⟩ ?_
          exact x_iret C hr dX11_body_79 hn (hQ _ M h)
        · replace h := h.2 q
          refine w_iload C dX11_body_52 (mem_k 5 rfl) ?_
          refine w_sipush C dX11_body_54 (by decide) ?_
          refine w_sipush C dX11_body_57 (by decide) ?_
          refine cl_X11_isWithin (ck_X11_61 ⟨by decide, by decide⟩) C dX11_body_60 hn h3 (Nat.le_of_ble_eq_true rfl) h (fun v5 h => ?_)
          refine w_if_eq (tgt := 78) C dX11_body_63 (by decide) (fun q => ?_) (fun q => ?_)
          · replace h := h.1 q
            refine w_iconst C dX11_body_78 ⟨by decide, by decide⟩ ?_
            exact x_iret C hr dX11_body_79 hn (hQ _ M h)
          · replace h := h.2 q
            refine w_iload C dX11_body_66 (mem_k 6 rfl) ?_
            refine w_iconst C dX11_body_68 ⟨by decide, by decide⟩ ?_
            refine w_sipush C dX11_body_69 (by decide) ?_
            refine cl_X11_isWithin (ck_X11_61 ⟨by decide, by decide⟩) C dX11_body_72 hn h3 (Nat.le_of_ble_eq_true rfl) h (fun v6 h => ?_)
            refine w_if_ne (tgt := 80) C dX11_body_75 (by decide) (fun q => ?_) (fun q => ?_)
            · replace h := h.1 q
              refine w_aload_n C dX11_body_80 rfl (mem_k 0 rfl) ?_
              refine x_getR C dX11_body_81 fw_X11_29 (isO.n (ci := 11) ⟨rfl, ho0⟩ (hn.trans h3)) (fun r7 er7 => ?_)
              replace h := h r7 er7
              obtain ⟨o8, g9, h⟩ := h
              refine cl_X1_nextBody (ck_X11_84 ⟨by decide, by decide⟩) C dX11_body_84 hn h3 (Nat.le_of_ble_eq_true rfl) (isO.n g9 (hn.trans h3)) h (fun r10 M11 h hn12 => ?_)
              refine x_astore (L' := [(7, vR r10), (0, vR (some o0)), (1, vI x1), (2, vI x2), (3, vI x3), (4, vI x4), (5, vI x5), (6, vI x6)]) C dX11_body_87 (by decide) rfl ?_
              refine w_aload C dX11_body_89 (mem_k 0 rfl) ?_
              refine w_ifnonnull (tgt := 97) C dX11_body_91 (by decide) (fun z13 q => ?_) (fun q => ?_)
              · replace h := h.1 z13 q
                refine w_aload C dX11_body_97 (mem_k 0 rfl) ?_
                refine w_iload_n C dX11_body_99 rfl (mem_k 2 rfl) ?_
                obtain ⟨o14, g15, h⟩ := h
                refine x_putI C dX11_body_100 fw_X11_88 (isO.n g15 (hn12.trans h3)) (Or.inl rfl) (fun M16 eM16 hn17 => ?_)
                replace h := h M16 eM16
                replace hn17 := hn17.trans hn12
                refine w_aload C dX11_body_103 (mem_k 0 rfl) ?_
                refine w_iload_n C dX11_body_105 rfl (mem_k 3 rfl) ?_
                refine x_putI C dX11_body_106 fw_X11_93 (isO.n g15 (hn17.trans h3)) (Or.inl rfl) (fun M18 eM18 hn19 => ?_)
                replace h := h M18 eM18
                replace hn19 := hn19.trans hn17
                refine w_aload C dX11_body_109 (mem_k 0 rfl) ?_
                refine w_iload_n C dX11_body_111 rfl (mem_k 4 rfl) ?_
                refine x_putI C dX11_body_112 fw_X11_96 (isO.n g15 (hn19.trans h3)) (Or.inl rfl) (fun M20 eM20 hn21 => ?_)
                replace h := h M20 eM20
                replace hn21 := hn21.trans hn19
                refine w_aload C dX11_body_115 (mem_k 0 rfl) ?_
                refine w_iload C dX11_body_117 (mem_k 5 rfl) ?_
                refine x_putI C dX11_body_119 fw_X11_99 (isO.n g15 (hn21.trans h3)) (Or.inl rfl) (fun M22 eM22 hn23 => ?_)
                replace h := h M22 eM22
                replace hn23 := hn23.trans hn21
                refine w_aload C dX11_body_122 (mem_k 0 rfl) ?_
                refine w_iload C dX11_body_124 (mem_k 6 rfl) ?_
                refine x_putI C dX11_body_126 fw_X11_102 (isO.n g15 (hn23.trans h3)) (Or.inl rfl) (fun M24 eM24 hn25 => ?_)
                replace h := h M24 eM24
                replace hn25 := hn25.trans hn23
                refine w_aload C dX11_body_129 (mem_k 0 rfl) ?_
                refine w_iload C dX11_body_131 (mem_k 7 rfl) ?_
                refine x_putI C dX11_body_133 fw_X11_105 (isO.n g15 (hn25.trans h3)) (Or.inl rfl) (fun M26 eM26 hn27 => ?_)
                replace h := h M26 eM26
                replace hn27 := hn27.trans hn25
                refine w_aload_n C dX11_body_136 rfl (mem_k 1 rfl) ?_
                refine x_getR C dX11_body_137 fw_X11_29 (isO.n (ci := 11) ⟨rfl, ho0⟩ (hn27.trans h3)) (fun r28 er28 => ?_)
                replace h := h r28 er28
                obtain ⟨o29, g30, h⟩ := h
                refine x_getI C dX11_body_140 fw_X11_108 (isO.n g30 (hn27.trans h3)) ?_
                refine w_iconst C dX11_body_143 ⟨by decide, by decide⟩ ?_
                refine w_isub C dX11_body_144 h.1 ?_
                replace h := h.2
                exact x_iret C hr dX11_body_145 hn27 (hQ _ M26 h)
              · replace h := h.2 q
                refine w_bipush C dX11_body_94 (by decide) ?_
                exact x_iret C hr dX11_body_96 hn12 (hQ _ M11 h)
            · replace h := h.2 q
              refine w_iconst C dX11_body_78 ⟨by decide, by decide⟩ ?_
              exact x_iret C hr dX11_body_79 hn (hQ _ M h)
set_option maxRecDepth 100000 in
set_option maxHeartbeats 4000000 in
theorem con_X11_body (l : Launch) (D : va_G) (cy : Nat → ClassId) : Con l D cy yX11_body cX11_body 8 (some .int) ({ frames := 1, cells := 0, slots := 0, locals := 22 }) 0 0 SP_X11_body := by
  refine con_of (by decide) (fun as M Qp h => ?_) ?_
  · obtain ⟨-, o0, x1, x2, x3, x4, x5, x6, rfl, -⟩ := h
    exact Nat.le_of_ble_eq_true rfl
  · intro p e s m args below meth c G as M Qp h C hr hnm
    obtain ⟨hn, o0, x1, x2, x3, x4, x5, x6, rfl, ho1, ho2, Q0, hQ, h⟩ := h
    refine x_pick (L' := [(0, vR (some o0)), (1, vI x1), (2, vI x2), (3, vI x3), (4, vI x4), (5, vI x5), (6, vI x6)]) [0, 1, 2, 3, 4, 5, 6] rfl ?_
    exact k_X11_body_0 C hr hn rfl ⟨ho1, ho2⟩ hQ h
set_option maxRecDepth 100000 in
set_option maxHeartbeats 4000000 in
theorem cl_X11_body {p : Program} {l : Launch} {e : Env} {R : Room} {s : State} {m : MethodId} {args : Array Value} {below : List Frame} {meth : Method} {c : Code} {Q : State → Prop} {cc : ByteArray} {nL : Nat} {own : String} {D : va_G} {cy : Nat → ClassId} {G : Nat × Nat} {n0 pc : Nat} {L : List (Nat × PV)} {st : List PV} {M : Mm} {op : Instr} (K : CallOK l D cy R own op 0 0 (spV 11 6 SP_X11_body)) (C : Cx p s m args meth c cc nL own D cy G n0) (hd : decode cc pc = .ok (op, 3)) (hn : M.2.2.2 = n0) (h3 : n0 = 243) (hlen : argN st ≤ 8) {r : Option Nat} {o0 : Nat} (ho : isOn 11 M.2.2.2 r o0) {x1 : Int} {x2 : Int} {x3 : Int} {x4 : Int} {x5 : Int} {x6 : Int} {Q0 : Int → Mm → Prop} (h : P_X11_body o0 x1 x2 x3 x4 x5 x6 M Q0) (k : ∀ x M2, Q0 x M2 → M2.2.2.2 = n0 → WW p l e R s m args below meth c Q nL D cy G n0  (pc + 3) L (vI x :: st) M2) : WW p l e R s m args below meth c Q nL D cy G n0  pc L (vI x6 :: vI x5 :: vI x4 :: vI x3 :: vI x2 :: vI x1 :: vR r :: st) M := by
  obtain ⟨rfl, ho1, ho2⟩ := ho
  refine x_call0 K C hd (as := [vR (some o0), vI x1, vI x2, vI x3, vI x4, vI x5, vI x6]) rfl hn hlen (fun v M2 => ∃ x, v = some (vI x) ∧ Q0 x M2) ⟨⟨o0, [vI x1, vI x2, vI x3, vI x4, vI x5, vI x6], rfl, rfl, ho1, ho2⟩, hn.trans h3, o0, x1, x2, x3, x4, x5, x6, rfl, (hn.trans h3) ▸ ho1, ho2, Q0, fun x M2 hx => ⟨x, rfl, hx⟩, h⟩ ?_
  rintro _ _ ⟨x, rfl, hx⟩ hm
  exact k x _ hx hm
end W_X11_body
theorem dX11_hang_0 : decode cX11_hang 0 = .ok (.aload_n 0, 1) := by decide +kernel
theorem dX11_hang_1 : decode cX11_hang 1 = .ok (.getfield 29, 3) := by decide +kernel
theorem dX11_hang_4 : decode cX11_hang 4 = .ok (.iload_n 1, 1) := by decide +kernel
theorem dX11_hang_5 : decode cX11_hang 5 = .ok (.invokevirtual 111, 3) := by decide +kernel
theorem dX11_hang_8 : decode cX11_hang 8 = .ok (.astore 4, 2) := by decide +kernel
theorem dX11_hang_10 : decode cX11_hang 10 = .ok (.aload 4, 2) := by decide +kernel
theorem dX11_hang_12 : decode cX11_hang 12 = .ok (.ifnull 22, 3) := by decide +kernel
theorem dX11_hang_15 : decode cX11_hang 15 = .ok (.iload_n 2, 1) := by decide +kernel
theorem dX11_hang_16 : decode cX11_hang 16 = .ok (.iconst 0, 1) := by decide +kernel
theorem dX11_hang_17 : decode cX11_hang 17 = .ok (.iconst 5, 1) := by decide +kernel
theorem dX11_hang_18 : decode cX11_hang 18 = .ok (.invokestatic 61, 3) := by decide +kernel
theorem dX11_hang_21 : decode cX11_hang 21 = .ok (.ifCond .eq 13, 3) := by decide +kernel
theorem dX11_hang_24 : decode cX11_hang 24 = .ok (.iload_n 3, 1) := by decide +kernel
theorem dX11_hang_25 : decode cX11_hang 25 = .ok (.iconst 0, 1) := by decide +kernel
theorem dX11_hang_26 : decode cX11_hang 26 = .ok (.bipush 100, 2) := by decide +kernel
theorem dX11_hang_28 : decode cX11_hang 28 = .ok (.invokestatic 61, 3) := by decide +kernel
theorem dX11_hang_31 : decode cX11_hang 31 = .ok (.ifCond .ne 5, 3) := by decide +kernel
theorem dX11_hang_34 : decode cX11_hang 34 = .ok (.iconst (-1), 1) := by decide +kernel
theorem dX11_hang_35 : decode cX11_hang 35 = .ok (.ireturn, 1) := by decide +kernel
theorem dX11_hang_36 : decode cX11_hang 36 = .ok (.aload 4, 2) := by decide +kernel
theorem dX11_hang_38 : decode cX11_hang 38 = .ok (.getfield 115, 3) := by decide +kernel
theorem dX11_hang_41 : decode cX11_hang 41 = .ok (.iload_n 2, 1) := by decide +kernel
theorem dX11_hang_42 : decode cX11_hang 42 = .ok (.iaload, 1) := by decide +kernel
theorem dX11_hang_43 : decode cX11_hang 43 = .ok (.istore 5, 2) := by decide +kernel
theorem dX11_hang_45 : decode cX11_hang 45 = .ok (.aload 4, 2) := by decide +kernel
theorem dX11_hang_47 : decode cX11_hang 47 = .ok (.getfield 115, 3) := by decide +kernel
theorem dX11_hang_50 : decode cX11_hang 50 = .ok (.iload_n 2, 1) := by decide +kernel
theorem dX11_hang_51 : decode cX11_hang 51 = .ok (.iload_n 3, 1) := by decide +kernel
theorem dX11_hang_52 : decode cX11_hang 52 = .ok (.iastore, 1) := by decide +kernel
theorem dX11_hang_53 : decode cX11_hang 53 = .ok (.iload 5, 2) := by decide +kernel
theorem dX11_hang_55 : decode cX11_hang 55 = .ok (.ireturn, 1) := by decide +kernel
theorem ck_X11_111 {l : Launch} {D : va_G} {cy : Nat → ClassId} {R : Room} (hR : 2 ≤ R.frames ∧ 43 ≤ R.locals) : CallOK l D cy R RX11 (.invokevirtual 111) 0 0 (spV 1 1 SP_X1_bodyAt) := call_V (ci := 1) (con_X1_bodyAt l D cy) (lwG_2 (i := 179) rfl rfl) (lwG_2 (i := 180) rfl rfl) (lwG_2 (i := 181) rfl rfl) (lwG_1 (i := 7) rfl rfl) (lwG_2 (i := 182) rfl rfl) (by decide) ⟨rfl, by decide, by decide, rfl⟩ ⟨rfl, rfl⟩ hR
theorem fw_X11_115 : fR RX11 115 0 6 := ⟨⟨lwG_1 (i := 180) rfl rfl, by decide, by decide⟩, fun _ _ => rfl, fun r => ⟨r, rfl⟩⟩
section W_X11_hang
variable {p : Program} {l : Launch} {e : Env} {s : State} {m : MethodId} {args : Array Value} {below : List Frame} {meth : Method} {c : Code} {D : va_G} {cy : Nat → ClassId} {G : Nat × Nat} {n0 : Nat} {Qp : Option PV → Mm → Prop}
set_option maxRecDepth 100000 in
set_option maxHeartbeats 4000000 in
theorem k_X11_hang_0 {o0 : Nat} {x1 : Int} {x2 : Int} {x3 : Int} {M : Mm} {Q : Int → Mm → Prop} (C : Cx p s m args meth c cX11_hang 6 RX11 D cy G n0) (hr : meth.sig.returnType = some .int) (h3 : n0 = 243) (hn : M.2.2.2 = n0) (ho0 : o0 < 243 ∧ (SH o0).1 = 11) (hQ : ∀ x M, Q x M → Qp (some (vI x)) M) (h : P_X11_hang o0 x1 x2 x3 M Q ) : WW p l e ({ frames := 2, cells := 0, slots := 0, locals := 43 }) s m args below meth c (ZQ below args s D cy G n0 Qp n0) 6 D cy G n0 0 [(0, vR (some o0)), (1, vI x1), (2, vI x2), (3, vI x3)] [] M := by
  unfold P_X11_hang at h
  refine w_aload_n C dX11_hang_0 rfl (mem_k 0 rfl) ?_
  refine x_getR C dX11_hang_1 fw_X11_29 (isO.n (ci := 11) ⟨rfl, ho0⟩ (hn.trans h3)) (fun r1 er1 => ?_)
  replace h := h r1 er1
  refine w_iload_n C dX11_hang_4 rfl (mem_k 1 rfl) ?_
  obtain ⟨o2, g3, h⟩ := h
  refine cl_X1_bodyAt (ck_X11_111 ⟨by decide, by decide⟩) C dX11_hang_5 hn h3 (Nat.le_of_ble_eq_true rfl) (isO.n g3 (hn.trans h3)) h (fun r4 h => ?_)
  refine x_astore (L' := [(4, vR r4), (0, vR (some o0)), (1, vI x1), (2, vI x2), (3, vI x3)]) C dX11_hang_8 (by decide) rfl ?_
  refine w_aload C dX11_hang_10 (mem_k 0 rfl) ?_
  refine w_ifnull (tgt := 34) C dX11_hang_12 (by decide) (fun q => ?_) (fun z5 q => ?_)
  · replace h := h.1 q
    refine w_iconst C dX11_hang_34 ⟨by decide, by decide⟩ ?_
    exact x_iret C hr dX11_hang_35 hn (hQ _ M h)
  · replace h := h.2 z5 q
    refine w_iload_n C dX11_hang_15 rfl (mem_k 3 rfl) ?_
    refine w_iconst C dX11_hang_16 ⟨by decide, by decide⟩ ?_
    refine w_iconst C dX11_hang_17 ⟨by decide, by decide⟩ ?_
    refine cl_X11_isWithin (ck_X11_61 ⟨by decide, by decide⟩) C dX11_hang_18 hn h3 (Nat.le_of_ble_eq_true rfl) h (fun v6 h => ?_)
    refine w_if_eq (tgt := 34) C dX11_hang_21 (by decide) (fun q => ?_) (fun q => ?_)
    · replace h := h.1 q
      refine w_iconst C dX11_hang_34 ⟨by decide, by decide⟩ ?_
      exact x_iret C hr dX11_hang_35 hn (hQ _ M h)
    · replace h := h.2 q
      refine w_iload_n C dX11_hang_24 rfl (mem_k 4 rfl) ?_
      refine w_iconst C dX11_hang_25 ⟨by decide, by decide⟩ ?_
      refine w_bipush C dX11_hang_26 (by decide) ?_
      refine cl_X11_isWithin (ck_X11_61 ⟨by decide, by decide⟩) C dX11_hang_28 hn h3 (Nat.le_of_ble_eq_true rfl) h (fun v7 h => ?_)
      refine w_if_ne (tgt := 36) C dX11_hang_31 (by decide) (fun q => ?_) (fun q => ?_)
      · replace h := h.1 q
        refine w_aload C dX11_hang_36 (mem_k 0 rfl) ?_
        obtain ⟨o8, g9, h⟩ := h
        refine x_getR C dX11_hang_38 fw_X11_115 (isO.n g9 (hn.trans h3)) (fun r10 er10 => ?_)
        replace h := h r10 er10
        refine w_iload_n C dX11_hang_41 rfl (mem_k 3 rfl) ?_
        obtain ⟨o11, g12, h⟩ := h
        refine x_iald C dX11_hang_42 (isA.n g12 (hn.trans h3)) ?_
        refine x_nmI (fun v13 ev13 => ?_)
        replace h := h v13 ev13
        refine x_istore (L' := [(5, vI v13), (4, vR r4), (0, vR (some o0)), (1, vI x1), (2, vI x2), (3, vI x3)]) C dX11_hang_43 (by decide) rfl ?_
        refine w_aload C dX11_hang_45 (mem_k 1 rfl) ?_
        refine x_getR C dX11_hang_47 fw_X11_115 (isO.n g9 (hn.trans h3)) (fun r14 er14 => ?_)
        replace h := h r14 er14
        refine w_iload_n C dX11_hang_50 rfl (mem_k 4 rfl) ?_
        refine w_iload_n C dX11_hang_51 rfl (mem_k 5 rfl) ?_
        obtain ⟨o15, g16, h⟩ := h
        refine x_iast C dX11_hang_52 (isA.n g16 (hn.trans h3)) (fun M17 eM17 hn18 => ?_)
        replace h := h M17 eM17
        replace hn18 := hn18.trans hn
        refine w_iload C dX11_hang_53 (mem_k 0 rfl) ?_
        exact x_iret C hr dX11_hang_55 hn18 (hQ _ M17 h)
      · replace h := h.2 q
        refine w_iconst C dX11_hang_34 ⟨by decide, by decide⟩ ?_
        exact x_iret C hr dX11_hang_35 hn (hQ _ M h)
set_option maxRecDepth 100000 in
set_option maxHeartbeats 4000000 in
theorem con_X11_hang (l : Launch) (D : va_G) (cy : Nat → ClassId) : Con l D cy yX11_hang cX11_hang 6 (some .int) ({ frames := 2, cells := 0, slots := 0, locals := 43 }) 0 0 SP_X11_hang := by
  refine con_of (by decide) (fun as M Qp h => ?_) ?_
  · obtain ⟨-, o0, x1, x2, x3, rfl, -⟩ := h
    exact Nat.le_of_ble_eq_true rfl
  · intro p e s m args below meth c G as M Qp h C hr hnm
    obtain ⟨hn, o0, x1, x2, x3, rfl, ho1, ho2, Q0, hQ, h⟩ := h
    refine x_pick (L' := [(0, vR (some o0)), (1, vI x1), (2, vI x2), (3, vI x3)]) [0, 1, 2, 3] rfl ?_
    exact k_X11_hang_0 C hr hn rfl ⟨ho1, ho2⟩ hQ h
set_option maxRecDepth 100000 in
set_option maxHeartbeats 4000000 in
theorem cl_X11_hang {p : Program} {l : Launch} {e : Env} {R : Room} {s : State} {m : MethodId} {args : Array Value} {below : List Frame} {meth : Method} {c : Code} {Q : State → Prop} {cc : ByteArray} {nL : Nat} {own : String} {D : va_G} {cy : Nat → ClassId} {G : Nat × Nat} {n0 pc : Nat} {L : List (Nat × PV)} {st : List PV} {M : Mm} {op : Instr} (K : CallOK l D cy R own op 0 0 (spV 11 3 SP_X11_hang)) (C : Cx p s m args meth c cc nL own D cy G n0) (hd : decode cc pc = .ok (op, 3)) (hn : M.2.2.2 = n0) (h3 : n0 = 243) (hlen : argN st ≤ 8) {r : Option Nat} {o0 : Nat} (ho : isOn 11 M.2.2.2 r o0) {x1 : Int} {x2 : Int} {x3 : Int} {Q0 : Int → Mm → Prop} (h : P_X11_hang o0 x1 x2 x3 M Q0) (k : ∀ x M2, Q0 x M2 → M2.2.2.2 = n0 → WW p l e R s m args below meth c Q nL D cy G n0  (pc + 3) L (vI x :: st) M2) : WW p l e R s m args below meth c Q nL D cy G n0  pc L (vI x3 :: vI x2 :: vI x1 :: vR r :: st) M := by
  obtain ⟨rfl, ho1, ho2⟩ := ho
  refine x_call0 K C hd (as := [vR (some o0), vI x1, vI x2, vI x3]) rfl hn hlen (fun v M2 => ∃ x, v = some (vI x) ∧ Q0 x M2) ⟨⟨o0, [vI x1, vI x2, vI x3], rfl, rfl, ho1, ho2⟩, hn.trans h3, o0, x1, x2, x3, rfl, (hn.trans h3) ▸ ho1, ho2, Q0, fun x M2 hx => ⟨x, rfl, hx⟩, h⟩ ?_
  rintro _ _ ⟨x, rfl, hx⟩ hm
  exact k x _ hx hm
end W_X11_hang
theorem dX11_settles_0 : decode cX11_settles 0 = .ok (.aload_n 0, 1) := by decide +kernel
theorem dX11_settles_1 : decode cX11_settles 1 = .ok (.getfield 29, 3) := by decide +kernel
theorem dX11_settles_4 : decode cX11_settles 4 = .ok (.iload_n 1, 1) := by decide +kernel
theorem dX11_settles_5 : decode cX11_settles 5 = .ok (.invokevirtual 111, 3) := by decide +kernel
theorem dX11_settles_8 : decode cX11_settles 8 = .ok (.astore_n 3, 1) := by decide +kernel
theorem dX11_settles_9 : decode cX11_settles 9 = .ok (.aload_n 0, 1) := by decide +kernel
theorem dX11_settles_10 : decode cX11_settles 10 = .ok (.getfield 19, 3) := by decide +kernel
theorem dX11_settles_13 : decode cX11_settles 13 = .ok (.iload_n 2, 1) := by decide +kernel
theorem dX11_settles_14 : decode cX11_settles 14 = .ok (.invokevirtual 154, 3) := by decide +kernel
theorem dX11_settles_17 : decode cX11_settles 17 = .ok (.astore 4, 2) := by decide +kernel
theorem dX11_settles_19 : decode cX11_settles 19 = .ok (.aload_n 3, 1) := by decide +kernel
theorem dX11_settles_20 : decode cX11_settles 20 = .ok (.ifnull 8, 3) := by decide +kernel
theorem dX11_settles_23 : decode cX11_settles 23 = .ok (.aload 4, 2) := by decide +kernel
theorem dX11_settles_25 : decode cX11_settles 25 = .ok (.ifnonnull 5, 3) := by decide +kernel
theorem dX11_settles_28 : decode cX11_settles 28 = .ok (.iconst 0, 1) := by decide +kernel
theorem dX11_settles_29 : decode cX11_settles 29 = .ok (.ireturn, 1) := by decide +kernel
theorem dX11_settles_30 : decode cX11_settles 30 = .ok (.aload_n 0, 1) := by decide +kernel
theorem dX11_settles_31 : decode cX11_settles 31 = .ok (.getfield 36, 3) := by decide +kernel
theorem dX11_settles_34 : decode cX11_settles 34 = .ok (.aload 4, 2) := by decide +kernel
theorem dX11_settles_36 : decode cX11_settles 36 = .ok (.invokevirtual 236, 3) := by decide +kernel
theorem dX11_settles_39 : decode cX11_settles 39 = .ok (.aload_n 0, 1) := by decide +kernel
theorem dX11_settles_40 : decode cX11_settles 40 = .ok (.getfield 36, 3) := by decide +kernel
theorem dX11_settles_43 : decode cX11_settles 43 = .ok (.aload_n 3, 1) := by decide +kernel
theorem dX11_settles_44 : decode cX11_settles 44 = .ok (.aload 4, 2) := by decide +kernel
theorem dX11_settles_46 : decode cX11_settles 46 = .ok (.invokevirtual 240, 3) := by decide +kernel
theorem dX11_settles_49 : decode cX11_settles 49 = .ok (.iconst 1, 1) := by decide +kernel
theorem dX11_settles_50 : decode cX11_settles 50 = .ok (.ireturn, 1) := by decide +kernel
theorem ck_X11_154 {l : Launch} {D : va_G} {cy : Nat → ClassId} {R : Room} (hR : 2 ≤ R.frames ∧ 43 ≤ R.locals) : CallOK l D cy R RX11 (.invokevirtual 154) 0 0 (spV 5 1 SP_X5_seatAt) := call_V (ci := 5) (con_X5_seatAt l D cy) (lwG_2 (i := 192) rfl rfl) (lwG_2 (i := 148) rfl rfl) (lwG_2 (i := 149) rfl rfl) (lwG_1 (i := 3) rfl rfl) (lwG_2 (i := 150) rfl rfl) (by decide) ⟨rfl, by decide, by decide, rfl⟩ ⟨rfl, rfl⟩ hR
theorem fw_X11_36 : fR RX11 36 11 4 := ⟨⟨lwG_2 (i := 66) rfl rfl, by decide, by decide⟩, fun _ _ => rfl, fun r => ⟨r, rfl⟩⟩
theorem ck_X11_236 {l : Launch} {D : va_G} {cy : Nat → ClassId} {R : Room} (hR : 1 ≤ R.frames ∧ 22 ≤ R.locals) : CallOK l D cy R RX11 (.invokevirtual 236) 0 0 (spV 6 1 SP_X6_takeWorn) := call_V (ci := 6) (con_X6_takeWorn l D cy) (lwG_2 (i := 193) rfl rfl) (lwG_2 (i := 194) rfl rfl) (lwG_2 (i := 195) rfl rfl) (lwG_1 (i := 9) rfl rfl) (lwG_2 (i := 196) rfl rfl) (by decide) ⟨rfl, by decide, by decide, rfl⟩ ⟨rfl, rfl⟩ hR
theorem ck_X11_240 {l : Launch} {D : va_G} {cy : Nat → ClassId} {R : Room} (hR : 5 ≤ R.frames ∧ 129 ≤ R.locals) : CallOK l D cy R RX11 (.invokevirtual 240) 0 0 (spV 6 2 SP_X6_settle) := call_V (ci := 6) (con_X6_settle l D cy) (lwG_2 (i := 197) rfl rfl) (lwG_2 (i := 198) rfl rfl) (lwG_2 (i := 199) rfl rfl) (lwG_1 (i := 9) rfl rfl) (lwG_2 (i := 200) rfl rfl) (by decide) ⟨rfl, by decide, by decide, rfl⟩ ⟨rfl, rfl⟩ hR
section W_X11_settles
variable {p : Program} {l : Launch} {e : Env} {s : State} {m : MethodId} {args : Array Value} {below : List Frame} {meth : Method} {c : Code} {D : va_G} {cy : Nat → ClassId} {G : Nat × Nat} {n0 : Nat} {Qp : Option PV → Mm → Prop}
set_option maxRecDepth 100000 in
set_option maxHeartbeats 4000000 in
theorem k_X11_settles_0 {o0 : Nat} {x1 : Int} {x2 : Int} {M : Mm} {Q : Int → Mm → Prop} (C : Cx p s m args meth c cX11_settles 5 RX11 D cy G n0) (hr : meth.sig.returnType = some .boolean) (h3 : n0 = 243) (hn : M.2.2.2 = n0) (ho0 : o0 < 243 ∧ (SH o0).1 = 11) (hQ : ∀ x M, Q x M → Qp (some (vI x)) M) (h : P_X11_settles o0 x1 x2 M Q ) : WW p l e ({ frames := 5, cells := 0, slots := 0, locals := 129 }) s m args below meth c (ZQ below args s D cy G n0 Qp n0) 5 D cy G n0 0 [(0, vR (some o0)), (1, vI x1), (2, vI x2)] [] M := by
  unfold P_X11_settles at h
  refine w_aload_n C dX11_settles_0 rfl (mem_k 0 rfl) ?_
  refine x_getR C dX11_settles_1 fw_X11_29 (isO.n (ci := 11) ⟨rfl, ho0⟩ (hn.trans h3)) (fun r1 er1 => ?_)
  replace h := h r1 er1
  refine w_iload_n C dX11_settles_4 rfl (mem_k 1 rfl) ?_
  obtain ⟨o2, g3, h⟩ := h
  refine cl_X1_bodyAt (ck_X11_111 ⟨by decide, by decide⟩) C dX11_settles_5 hn h3 (Nat.le_of_ble_eq_true rfl) (isO.n g3 (hn.trans h3)) h (fun r4 h => ?_)
  refine x_astore_n (L' := [(3, vR r4), (0, vR (some o0)), (1, vI x1), (2, vI x2)]) C dX11_settles_8 rfl (by decide) rfl ?_
  refine w_aload_n C dX11_settles_9 rfl (mem_k 1 rfl) ?_
  refine x_getR C dX11_settles_10 fw_X11_19 (isO.n (ci := 11) ⟨rfl, ho0⟩ (hn.trans h3)) (fun r5 er5 => ?_)
  replace h := h r5 er5
  refine w_iload_n C dX11_settles_13 rfl (mem_k 3 rfl) ?_
  obtain ⟨o6, g7, h⟩ := h
  refine cl_X5_seatAt (ck_X11_154 ⟨by decide, by decide⟩) C dX11_settles_14 hn h3 (Nat.le_of_ble_eq_true rfl) (isO.n g7 (hn.trans h3)) h (fun r8 h => ?_)
  refine x_astore (L' := [(4, vR r8), (3, vR r4), (0, vR (some o0)), (1, vI x1), (2, vI x2)]) C dX11_settles_17 (by decide) rfl ?_
  refine w_aload_n C dX11_settles_19 rfl (mem_k 1 rfl) ?_
  refine w_ifnull (tgt := 28) C dX11_settles_20 (by decide) (fun q => ?_) (fun z9 q => ?_)
  · replace h := h.1 q
    refine w_iconst C dX11_settles_28 ⟨by decide, by decide⟩ ?_
    exact x_zret C hr dX11_settles_29 hn (by decide) (hQ _ M h)
  · replace h := h.2 z9 q
    refine w_aload C dX11_settles_23 (mem_k 0 rfl) ?_
    refine w_ifnonnull (tgt := 30) C dX11_settles_25 (by decide) (fun z10 q => ?_) (fun q => ?_)
    · replace h := h.1 z10 q
      refine w_aload_n C dX11_settles_30 rfl (mem_k 2 rfl) ?_
      refine x_getR C dX11_settles_31 fw_X11_36 (isO.n (ci := 11) ⟨rfl, ho0⟩ (hn.trans h3)) (fun r11 er11 => ?_)
      replace h := h r11 er11
      refine w_aload C dX11_settles_34 (mem_k 0 rfl) ?_
      obtain ⟨o12, g13, h⟩ := h
      refine cl_X6_takeWorn (ck_X11_236 ⟨by decide, by decide⟩) C dX11_settles_36 hn h3 (Nat.le_of_ble_eq_true rfl) (isO.n g13 (hn.trans h3)) h (fun M14 h hn15 => ?_)
      refine w_aload_n C dX11_settles_39 rfl (mem_k 2 rfl) ?_
      refine x_getR C dX11_settles_40 fw_X11_36 (isO.n (ci := 11) ⟨rfl, ho0⟩ (hn15.trans h3)) (fun r16 er16 => ?_)
      replace h := h r16 er16
      refine w_aload_n C dX11_settles_43 rfl (mem_k 1 rfl) ?_
      refine w_aload C dX11_settles_44 (mem_k 0 rfl) ?_
      obtain ⟨o17, g18, h⟩ := h
      refine cl_X6_settle (ck_X11_240 ⟨by decide, by decide⟩) C dX11_settles_46 hn15 h3 (Nat.le_of_ble_eq_true rfl) (isO.n g18 (hn15.trans h3)) h (fun M19 h hn20 => ?_)
      refine w_iconst C dX11_settles_49 ⟨by decide, by decide⟩ ?_
      exact x_zret C hr dX11_settles_50 hn20 (by decide) (hQ _ M19 h)
    · replace h := h.2 q
      refine w_iconst C dX11_settles_28 ⟨by decide, by decide⟩ ?_
      exact x_zret C hr dX11_settles_29 hn (by decide) (hQ _ M h)
set_option maxRecDepth 100000 in
set_option maxHeartbeats 4000000 in
theorem con_X11_settles (l : Launch) (D : va_G) (cy : Nat → ClassId) : Con l D cy yX11_settles cX11_settles 5 (some .boolean) ({ frames := 5, cells := 0, slots := 0, locals := 129 }) 0 0 SP_X11_settles := by
  refine con_of (by decide) (fun as M Qp h => ?_) ?_
  · obtain ⟨-, o0, x1, x2, rfl, -⟩ := h
    exact Nat.le_of_ble_eq_true rfl
  · intro p e s m args below meth c G as M Qp h C hr hnm
    obtain ⟨hn, o0, x1, x2, rfl, ho1, ho2, Q0, hQ, h⟩ := h
    refine x_pick (L' := [(0, vR (some o0)), (1, vI x1), (2, vI x2)]) [0, 1, 2] rfl ?_
    exact k_X11_settles_0 C hr hn rfl ⟨ho1, ho2⟩ hQ h
set_option maxRecDepth 100000 in
set_option maxHeartbeats 4000000 in
theorem cl_X11_settles {p : Program} {l : Launch} {e : Env} {R : Room} {s : State} {m : MethodId} {args : Array Value} {below : List Frame} {meth : Method} {c : Code} {Q : State → Prop} {cc : ByteArray} {nL : Nat} {own : String} {D : va_G} {cy : Nat → ClassId} {G : Nat × Nat} {n0 pc : Nat} {L : List (Nat × PV)} {st : List PV} {M : Mm} {op : Instr} (K : CallOK l D cy R own op 0 0 (spV 11 2 SP_X11_settles)) (C : Cx p s m args meth c cc nL own D cy G n0) (hd : decode cc pc = .ok (op, 3)) (hn : M.2.2.2 = n0) (h3 : n0 = 243) (hlen : argN st ≤ 8) {r : Option Nat} {o0 : Nat} (ho : isOn 11 M.2.2.2 r o0) {x1 : Int} {x2 : Int} {Q0 : Int → Mm → Prop} (h : P_X11_settles o0 x1 x2 M Q0) (k : ∀ x M2, Q0 x M2 → M2.2.2.2 = n0 → WW p l e R s m args below meth c Q nL D cy G n0  (pc + 3) L (vI x :: st) M2) : WW p l e R s m args below meth c Q nL D cy G n0  pc L (vI x2 :: vI x1 :: vR r :: st) M := by
  obtain ⟨rfl, ho1, ho2⟩ := ho
  refine x_call0 K C hd (as := [vR (some o0), vI x1, vI x2]) rfl hn hlen (fun v M2 => ∃ x, v = some (vI x) ∧ Q0 x M2) ⟨⟨o0, [vI x1, vI x2], rfl, rfl, ho1, ho2⟩, hn.trans h3, o0, x1, x2, rfl, (hn.trans h3) ▸ ho1, ho2, Q0, fun x M2 hx => ⟨x, rfl, hx⟩, h⟩ ?_
  rintro _ _ ⟨x, rfl, hx⟩ hm
  exact k x _ hx hm
end W_X11_settles
theorem dX11_level_0 : decode cX11_level 0 = .ok (.iload_n 3, 1) := by decide +kernel
theorem dX11_level_1 : decode cX11_level 1 = .ok (.iconst 0, 1) := by decide +kernel
theorem dX11_level_2 : decode cX11_level 2 = .ok (.iconst 1, 1) := by decide +kernel
theorem dX11_level_3 : decode cX11_level 3 = .ok (.invokestatic 61, 3) := by decide +kernel
theorem dX11_level_6 : decode cX11_level 6 = .ok (.ifCond .eq 12, 3) := by decide +kernel
theorem dX11_level_9 : decode cX11_level 9 = .ok (.aload_n 0, 1) := by decide +kernel
theorem dX11_level_10 : decode cX11_level 10 = .ok (.iload_n 1, 1) := by decide +kernel
theorem dX11_level_11 : decode cX11_level 11 = .ok (.iload_n 2, 1) := by decide +kernel
theorem dX11_level_12 : decode cX11_level 12 = .ok (.invokevirtual 119, 3) := by decide +kernel
theorem dX11_level_15 : decode cX11_level 15 = .ok (.ifCond .ne 6, 3) := by decide +kernel
theorem dX11_level_18 : decode cX11_level 18 = .ok (.ldc 123, 2) := by decide +kernel
theorem dX11_level_20 : decode cX11_level 20 = .ok (.ireturn, 1) := by decide +kernel
theorem dX11_level_21 : decode cX11_level 21 = .ok (.iload_n 3, 1) := by decide +kernel
theorem dX11_level_22 : decode cX11_level 22 = .ok (.ifCond .ne 13, 3) := by decide +kernel
theorem dX11_level_25 : decode cX11_level 25 = .ok (.aload_n 0, 1) := by decide +kernel
theorem dX11_level_26 : decode cX11_level 26 = .ok (.getfield 36, 3) := by decide +kernel
theorem dX11_level_29 : decode cX11_level 29 = .ok (.getfield 124, 3) := by decide +kernel
theorem dX11_level_32 : decode cX11_level 32 = .ok (.goto 10, 3) := by decide +kernel
theorem dX11_level_35 : decode cX11_level 35 = .ok (.aload_n 0, 1) := by decide +kernel
theorem dX11_level_36 : decode cX11_level 36 = .ok (.getfield 36, 3) := by decide +kernel
theorem dX11_level_39 : decode cX11_level 39 = .ok (.getfield 127, 3) := by decide +kernel
theorem dX11_level_42 : decode cX11_level 42 = .ok (.ireturn, 1) := by decide +kernel
theorem cn_X11_123 : Cond.constant RX11 123 (Int32.ofInt (-1000000000)) ∈ lwG := lwG_2 (i := 237) rfl rfl
theorem ck_X11_119 {l : Launch} {D : va_G} {cy : Nat → ClassId} {R : Room} (hR : 6 ≤ R.frames ∧ 153 ≤ R.locals) : CallOK l D cy R RX11 (.invokevirtual 119) 0 0 (spV 11 2 SP_X11_settles) := call_V (ci := 11) (con_X11_settles l D cy) (lwG_2 (i := 188) rfl rfl) (lwG_2 (i := 190) rfl rfl) (lwG_p (i := 5) rfl rfl) (lwG_1 (i := 1) rfl rfl) (lwG_2 (i := 191) rfl rfl) (by decide) ⟨rfl, by decide, by decide, rfl⟩ ⟨rfl, rfl⟩ hR
theorem fw_X11_127 : fI RX11 127 6 1 := ⟨⟨lwG_1 (i := 225) rfl rfl, by decide, by decide⟩, rfl⟩
theorem fw_X11_124 : fI RX11 124 6 0 := ⟨⟨lwG_1 (i := 223) rfl rfl, by decide, by decide⟩, rfl⟩
section W_X11_level
variable {p : Program} {l : Launch} {e : Env} {s : State} {m : MethodId} {args : Array Value} {below : List Frame} {meth : Method} {c : Code} {D : va_G} {cy : Nat → ClassId} {G : Nat × Nat} {n0 : Nat} {Qp : Option PV → Mm → Prop}
set_option maxRecDepth 100000 in
set_option maxHeartbeats 4000000 in
theorem k_X11_level_0 {o0 : Nat} {x1 : Int} {x2 : Int} {x3 : Int} {M : Mm} {Q : Int → Mm → Prop} (C : Cx p s m args meth c cX11_level 4 RX11 D cy G n0) (hr : meth.sig.returnType = some .int) (h3 : n0 = 243) (hn : M.2.2.2 = n0) (ho0 : o0 < 243 ∧ (SH o0).1 = 11) (hQ : ∀ x M, Q x M → Qp (some (vI x)) M) (h : P_X11_level o0 x1 x2 x3 M Q ) : WW p l e ({ frames := 6, cells := 0, slots := 0, locals := 153 }) s m args below meth c (ZQ below args s D cy G n0 Qp n0) 4 D cy G n0 0 [(0, vR (some o0)), (1, vI x1), (2, vI x2), (3, vI x3)] [] M := by
  unfold P_X11_level at h
  refine w_iload_n C dX11_level_0 rfl (mem_k 3 rfl) ?_
  refine w_iconst C dX11_level_1 ⟨by decide, by decide⟩ ?_
  refine w_iconst C dX11_level_2 ⟨by decide, by decide⟩ ?_
  refine cl_X11_isWithin (ck_X11_61 ⟨by decide, by decide⟩) C dX11_level_3 hn h3 (Nat.le_of_ble_eq_true rfl) h (fun v1 h => ?_)
  refine w_if_eq (tgt := 18) C dX11_level_6 (by decide) (fun q => ?_) (fun q => ?_)
  · replace h := h.1 q
    refine w_ldc (x := (-1000000000)) C dX11_level_18 cn_X11_123 ⟨by decide, by decide⟩ ?_
    exact x_iret C hr dX11_level_20 hn (hQ _ M h)
  · replace h := h.2 q
    refine w_aload_n C dX11_level_9 rfl (mem_k 0 rfl) ?_
    refine w_iload_n C dX11_level_10 rfl (mem_k 1 rfl) ?_
    refine w_iload_n C dX11_level_11 rfl (mem_k 2 rfl) ?_
    refine cl_X11_settles (ck_X11_119 ⟨by decide, by decide⟩) C dX11_level_12 hn h3 (Nat.le_of_ble_eq_true rfl) (isO.n (ci := 11) ⟨rfl, ho0⟩ (hn.trans h3)) h (fun v2 M3 h hn4 => ?_)
    refine w_if_ne (tgt := 21) C dX11_level_15 (by decide) (fun q => ?_) (fun q => ?_)
    · replace h := h.1 q
      refine w_iload_n C dX11_level_21 rfl (mem_k 3 rfl) ?_
      refine w_if_ne (tgt := 35) C dX11_level_22 (by decide) (fun q => ?_) (fun q => ?_)
      · replace h := h.1 q
        refine w_aload_n C dX11_level_35 rfl (mem_k 0 rfl) ?_
        refine x_getR C dX11_level_36 fw_X11_36 (isO.n (ci := 11) ⟨rfl, ho0⟩ (hn4.trans h3)) (fun r5 er5 => ?_)
        replace h := h r5 er5
        obtain ⟨o6, g7, h⟩ := h
        refine x_getI C dX11_level_39 fw_X11_127 (isO.n g7 (hn4.trans h3)) ?_
        exact x_iret C hr dX11_level_42 hn4 (hQ _ M3 h)
      · replace h := h.2 q
        refine w_aload_n C dX11_level_25 rfl (mem_k 0 rfl) ?_
        refine x_getR C dX11_level_26 fw_X11_36 (isO.n (ci := 11) ⟨rfl, ho0⟩ (hn4.trans h3)) (fun r8 er8 => ?_)
        replace h := h r8 er8
        obtain ⟨o9, g10, h⟩ := h
        refine x_getI C dX11_level_29 fw_X11_124 (isO.n g10 (hn4.trans h3)) ?_
        refine w_goto (tgt := 42) C dX11_level_32 (by decide) ?_
        exact x_iret C hr dX11_level_42 hn4 (hQ _ M3 h)
    · replace h := h.2 q
      refine w_ldc (x := (-1000000000)) C dX11_level_18 cn_X11_123 ⟨by decide, by decide⟩ ?_
      exact x_iret C hr dX11_level_20 hn4 (hQ _ M3 h)
set_option maxRecDepth 100000 in
set_option maxHeartbeats 4000000 in
theorem con_X11_level (l : Launch) (D : va_G) (cy : Nat → ClassId) : Con l D cy yX11_level cX11_level 4 (some .int) ({ frames := 6, cells := 0, slots := 0, locals := 153 }) 0 0 SP_X11_level := by
  refine con_of (by decide) (fun as M Qp h => ?_) ?_
  · obtain ⟨-, o0, x1, x2, x3, rfl, -⟩ := h
    exact Nat.le_of_ble_eq_true rfl
  · intro p e s m args below meth c G as M Qp h C hr hnm
    obtain ⟨hn, o0, x1, x2, x3, rfl, ho1, ho2, Q0, hQ, h⟩ := h
    refine x_pick (L' := [(0, vR (some o0)), (1, vI x1), (2, vI x2), (3, vI x3)]) [0, 1, 2, 3] rfl ?_
    exact k_X11_level_0 C hr hn rfl ⟨ho1, ho2⟩ hQ h
set_option maxRecDepth 100000 in
set_option maxHeartbeats 4000000 in
theorem cl_X11_level {p : Program} {l : Launch} {e : Env} {R : Room} {s : State} {m : MethodId} {args : Array Value} {below : List Frame} {meth : Method} {c : Code} {Q : State → Prop} {cc : ByteArray} {nL : Nat} {own : String} {D : va_G} {cy : Nat → ClassId} {G : Nat × Nat} {n0 pc : Nat} {L : List (Nat × PV)} {st : List PV} {M : Mm} {op : Instr} (K : CallOK l D cy R own op 0 0 (spV 11 3 SP_X11_level)) (C : Cx p s m args meth c cc nL own D cy G n0) (hd : decode cc pc = .ok (op, 3)) (hn : M.2.2.2 = n0) (h3 : n0 = 243) (hlen : argN st ≤ 8) {r : Option Nat} {o0 : Nat} (ho : isOn 11 M.2.2.2 r o0) {x1 : Int} {x2 : Int} {x3 : Int} {Q0 : Int → Mm → Prop} (h : P_X11_level o0 x1 x2 x3 M Q0) (k : ∀ x M2, Q0 x M2 → M2.2.2.2 = n0 → WW p l e R s m args below meth c Q nL D cy G n0  (pc + 3) L (vI x :: st) M2) : WW p l e R s m args below meth c Q nL D cy G n0  pc L (vI x3 :: vI x2 :: vI x1 :: vR r :: st) M := by
  obtain ⟨rfl, ho1, ho2⟩ := ho
  refine x_call0 K C hd (as := [vR (some o0), vI x1, vI x2, vI x3]) rfl hn hlen (fun v M2 => ∃ x, v = some (vI x) ∧ Q0 x M2) ⟨⟨o0, [vI x1, vI x2, vI x3], rfl, rfl, ho1, ho2⟩, hn.trans h3, o0, x1, x2, x3, rfl, (hn.trans h3) ▸ ho1, ho2, Q0, fun x M2 hx => ⟨x, rfl, hx⟩, h⟩ ?_
  rintro _ _ ⟨x, rfl, hx⟩ hm
  exact k x _ hx hm
end W_X11_level
theorem dX11_isPatch_0 : decode cX11_isPatch 0 = .ok (.aload_n 0, 1) := by decide +kernel
theorem dX11_isPatch_1 : decode cX11_isPatch 1 = .ok (.getfield 19, 3) := by decide +kernel
theorem dX11_isPatch_4 : decode cX11_isPatch 4 = .ok (.iload_n 1, 1) := by decide +kernel
theorem dX11_isPatch_5 : decode cX11_isPatch 5 = .ok (.invokevirtual 154, 3) := by decide +kernel
theorem dX11_isPatch_8 : decode cX11_isPatch 8 = .ok (.astore_n 3, 1) := by decide +kernel
theorem dX11_isPatch_9 : decode cX11_isPatch 9 = .ok (.aload_n 3, 1) := by decide +kernel
theorem dX11_isPatch_10 : decode cX11_isPatch 10 = .ok (.ifnull 15, 3) := by decide +kernel
theorem dX11_isPatch_13 : decode cX11_isPatch 13 = .ok (.aload_n 3, 1) := by decide +kernel
theorem dX11_isPatch_14 : decode cX11_isPatch 14 = .ok (.iload_n 2, 1) := by decide +kernel
theorem dX11_isPatch_15 : decode cX11_isPatch 15 = .ok (.invokevirtual 251, 3) := by decide +kernel
theorem dX11_isPatch_18 : decode cX11_isPatch 18 = .ok (.ifnull 7, 3) := by decide +kernel
theorem dX11_isPatch_21 : decode cX11_isPatch 21 = .ok (.iconst 1, 1) := by decide +kernel
theorem dX11_isPatch_22 : decode cX11_isPatch 22 = .ok (.goto 4, 3) := by decide +kernel
theorem dX11_isPatch_25 : decode cX11_isPatch 25 = .ok (.iconst 0, 1) := by decide +kernel
theorem dX11_isPatch_26 : decode cX11_isPatch 26 = .ok (.ireturn, 1) := by decide +kernel
theorem ck_X11_251 {l : Launch} {D : va_G} {cy : Nat → ClassId} {R : Room} (hR : 2 ≤ R.frames ∧ 43 ≤ R.locals) : CallOK l D cy R RX11 (.invokevirtual 251) 0 0 (spV 8 1 SP_X8_patchAt) := call_V (ci := 8) (con_X8_patchAt l D cy) (lwG_3 (i := 6) rfl rfl) (lwG_3 (i := 7) rfl rfl) (lwG_3 (i := 8) rfl rfl) (lwG_1 (i := 5) rfl rfl) (lwG_3 (i := 9) rfl rfl) (by decide) ⟨rfl, by decide, by decide, rfl⟩ ⟨rfl, rfl⟩ hR
section W_X11_isPatch
variable {p : Program} {l : Launch} {e : Env} {s : State} {m : MethodId} {args : Array Value} {below : List Frame} {meth : Method} {c : Code} {D : va_G} {cy : Nat → ClassId} {G : Nat × Nat} {n0 : Nat} {Qp : Option PV → Mm → Prop}
set_option maxRecDepth 100000 in
set_option maxHeartbeats 4000000 in
theorem k_X11_isPatch_0 {o0 : Nat} {x1 : Int} {x2 : Int} {M : Mm} {Q : Int → Prop} (C : Cx p s m args meth c cX11_isPatch 4 RX11 D cy G n0) (hr : meth.sig.returnType = some .boolean) (h3 : n0 = 243) (hn : M.2.2.2 = n0) (ho0 : o0 < 243 ∧ (SH o0).1 = 11) (hQ : ∀ x, Q x → Qp (some (vI x)) M) (h : P_X11_isPatch o0 x1 x2 M Q ) : WW p l e ({ frames := 2, cells := 0, slots := 0, locals := 43 }) s m args below meth c (ZQ below args s D cy G n0 Qp n0) 4 D cy G n0 0 [(0, vR (some o0)), (1, vI x1), (2, vI x2)] [] M := by
  unfold P_X11_isPatch at h
  refine w_aload_n C dX11_isPatch_0 rfl (mem_k 0 rfl) ?_
  refine x_getR C dX11_isPatch_1 fw_X11_19 (isO.n (ci := 11) ⟨rfl, ho0⟩ (hn.trans h3)) (fun r1 er1 => ?_)
  replace h := h r1 er1
  refine w_iload_n C dX11_isPatch_4 rfl (mem_k 1 rfl) ?_
  obtain ⟨o2, g3, h⟩ := h
  refine cl_X5_seatAt (ck_X11_154 ⟨by decide, by decide⟩) C dX11_isPatch_5 hn h3 (Nat.le_of_ble_eq_true rfl) (isO.n g3 (hn.trans h3)) h (fun r4 h => ?_)
  refine x_astore_n (L' := [(3, vR r4), (0, vR (some o0)), (1, vI x1), (2, vI x2)]) C dX11_isPatch_8 rfl (by decide) rfl ?_
  refine w_aload_n C dX11_isPatch_9 rfl (mem_k 0 rfl) ?_
  refine w_ifnull (tgt := 25) C dX11_isPatch_10 (by decide) (fun q => ?_) (fun z5 q => ?_)
  · replace h := h.1 q
    refine w_iconst C dX11_isPatch_25 ⟨by decide, by decide⟩ ?_
    exact x_zret C hr dX11_isPatch_26 hn (by decide) (hQ _ h)
  · replace h := h.2 z5 q
    refine w_aload_n C dX11_isPatch_13 rfl (mem_k 0 rfl) ?_
    refine w_iload_n C dX11_isPatch_14 rfl (mem_k 3 rfl) ?_
    obtain ⟨o6, g7, h⟩ := h
    refine cl_X8_patchAt (ck_X11_251 ⟨by decide, by decide⟩) C dX11_isPatch_15 hn h3 (Nat.le_of_ble_eq_true rfl) (isO.n g7 (hn.trans h3)) h (fun r8 h => ?_)
    refine w_ifnull (tgt := 25) C dX11_isPatch_18 (by decide) (fun q => ?_) (fun z9 q => ?_)
    · replace h := h.1 q
      refine w_iconst C dX11_isPatch_25 ⟨by decide, by decide⟩ ?_
      exact x_zret C hr dX11_isPatch_26 hn (by decide) (hQ _ h)
    · replace h := h.2 z9 q
      refine w_iconst C dX11_isPatch_21 ⟨by decide, by decide⟩ ?_
      refine w_goto (tgt := 26) C dX11_isPatch_22 (by decide) ?_
      exact x_zret C hr dX11_isPatch_26 hn (by decide) (hQ _ h)
set_option maxRecDepth 100000 in
set_option maxHeartbeats 4000000 in
theorem con_X11_isPatch (l : Launch) (D : va_G) (cy : Nat → ClassId) : Con l D cy yX11_isPatch cX11_isPatch 4 (some .boolean) ({ frames := 2, cells := 0, slots := 0, locals := 43 }) 0 0 SP_X11_isPatch := by
  refine con_of (by decide) (fun as M Qp h => ?_) ?_
  · obtain ⟨-, o0, x1, x2, rfl, -⟩ := h
    exact Nat.le_of_ble_eq_true rfl
  · intro p e s m args below meth c G as M Qp h C hr hnm
    obtain ⟨hn, o0, x1, x2, rfl, ho1, ho2, Q0, hQ, h⟩ := h
    refine x_pick (L' := [(0, vR (some o0)), (1, vI x1), (2, vI x2)]) [0, 1, 2] rfl ?_
    exact k_X11_isPatch_0 C hr hn rfl ⟨ho1, ho2⟩ hQ h
set_option maxRecDepth 100000 in
set_option maxHeartbeats 4000000 in
theorem cl_X11_isPatch {p : Program} {l : Launch} {e : Env} {R : Room} {s : State} {m : MethodId} {args : Array Value} {below : List Frame} {meth : Method} {c : Code} {Q : State → Prop} {cc : ByteArray} {nL : Nat} {own : String} {D : va_G} {cy : Nat → ClassId} {G : Nat × Nat} {n0 pc : Nat} {L : List (Nat × PV)} {st : List PV} {M : Mm} {op : Instr} (K : CallOK l D cy R own op 0 0 (spV 11 2 SP_X11_isPatch)) (C : Cx p s m args meth c cc nL own D cy G n0) (hd : decode cc pc = .ok (op, 3)) (hn : M.2.2.2 = n0) (h3 : n0 = 243) (hlen : argN st ≤ 8) {r : Option Nat} {o0 : Nat} (ho : isOn 11 M.2.2.2 r o0) {x1 : Int} {x2 : Int} {Q0 : Int → Prop} (h : P_X11_isPatch o0 x1 x2 M Q0) (k : ∀ x, Q0 x → WW p l e R s m args below meth c Q nL D cy G n0  (pc + 3) L (vI x :: st) M) : WW p l e R s m args below meth c Q nL D cy G n0  pc L (vI x2 :: vI x1 :: vR r :: st) M := by
  obtain ⟨rfl, ho1, ho2⟩ := ho
  refine x_call0 K C hd (as := [vR (some o0), vI x1, vI x2]) rfl hn hlen (fun v M2 => ∃ x, v = some (vI x) ∧ M2 = M ∧ Q0 x) ⟨⟨o0, [vI x1, vI x2], rfl, rfl, ho1, ho2⟩, hn.trans h3, o0, x1, x2, rfl, (hn.trans h3) ▸ ho1, ho2, Q0, fun x hx => ⟨x, rfl, rfl, hx⟩, h⟩ ?_
  rintro _ _ ⟨x, rfl, rfl, hx⟩ hm
  exact k x hx
end W_X11_isPatch
theorem dX11_push_0 : decode cX11_push 0 = .ok (.iload 4, 2) := by decide +kernel
theorem dX11_push_2 : decode cX11_push 2 = .ok (.iconst 0, 1) := by decide +kernel
theorem dX11_push_3 : decode cX11_push 3 = .ok (.iconst 1, 1) := by decide +kernel
theorem dX11_push_4 : decode cX11_push 4 = .ok (.invokestatic 61, 3) := by decide +kernel
theorem dX11_push_7 : decode cX11_push 7 = .ok (.ifCond .eq 21, 3) := by decide +kernel
theorem dX11_push_10 : decode cX11_push 10 = .ok (.aload_n 0, 1) := by decide +kernel
theorem dX11_push_11 : decode cX11_push 11 = .ok (.iload_n 2, 1) := by decide +kernel
theorem dX11_push_12 : decode cX11_push 12 = .ok (.iload_n 3, 1) := by decide +kernel
theorem dX11_push_13 : decode cX11_push 13 = .ok (.invokevirtual 130, 3) := by decide +kernel
theorem dX11_push_16 : decode cX11_push 16 = .ok (.ifCond .eq 12, 3) := by decide +kernel
theorem dX11_push_19 : decode cX11_push 19 = .ok (.aload_n 0, 1) := by decide +kernel
theorem dX11_push_20 : decode cX11_push 20 = .ok (.iload_n 1, 1) := by decide +kernel
theorem dX11_push_21 : decode cX11_push 21 = .ok (.iload_n 2, 1) := by decide +kernel
theorem dX11_push_22 : decode cX11_push 22 = .ok (.invokevirtual 119, 3) := by decide +kernel
theorem dX11_push_25 : decode cX11_push 25 = .ok (.ifCond .ne 5, 3) := by decide +kernel
theorem dX11_push_28 : decode cX11_push 28 = .ok (.iconst (-1), 1) := by decide +kernel
theorem dX11_push_29 : decode cX11_push 29 = .ok (.ireturn, 1) := by decide +kernel
theorem dX11_push_30 : decode cX11_push 30 = .ok (.aload_n 0, 1) := by decide +kernel
theorem dX11_push_31 : decode cX11_push 31 = .ok (.getfield 36, 3) := by decide +kernel
theorem dX11_push_34 : decode cX11_push 34 = .ok (.iload_n 3, 1) := by decide +kernel
theorem dX11_push_35 : decode cX11_push 35 = .ok (.invokevirtual 133, 3) := by decide +kernel
theorem dX11_push_38 : decode cX11_push 38 = .ok (.aload_n 0, 1) := by decide +kernel
theorem dX11_push_39 : decode cX11_push 39 = .ok (.getfield 36, 3) := by decide +kernel
theorem dX11_push_42 : decode cX11_push 42 = .ok (.getfield 127, 3) := by decide +kernel
theorem dX11_push_45 : decode cX11_push 45 = .ok (.invokestatic 137, 3) := by decide +kernel
theorem dX11_push_48 : decode cX11_push 48 = .ok (.istore 5, 2) := by decide +kernel
theorem dX11_push_50 : decode cX11_push 50 = .ok (.iload 4, 2) := by decide +kernel
theorem dX11_push_52 : decode cX11_push 52 = .ok (.ifCond .ne 14, 3) := by decide +kernel
theorem dX11_push_55 : decode cX11_push 55 = .ok (.aload_n 0, 1) := by decide +kernel
theorem dX11_push_56 : decode cX11_push 56 = .ok (.getfield 36, 3) := by decide +kernel
theorem dX11_push_59 : decode cX11_push 59 = .ok (.iload_n 3, 1) := by decide +kernel
theorem dX11_push_60 : decode cX11_push 60 = .ok (.invokevirtual 133, 3) := by decide +kernel
theorem dX11_push_63 : decode cX11_push 63 = .ok (.goto 10, 3) := by decide +kernel
theorem dX11_push_66 : decode cX11_push 66 = .ok (.aload_n 0, 1) := by decide +kernel
theorem dX11_push_67 : decode cX11_push 67 = .ok (.getfield 36, 3) := by decide +kernel
theorem dX11_push_70 : decode cX11_push 70 = .ok (.getfield 127, 3) := by decide +kernel
theorem dX11_push_73 : decode cX11_push 73 = .ok (.iload 5, 2) := by decide +kernel
theorem dX11_push_75 : decode cX11_push 75 = .ok (.idiv, 1) := by decide +kernel
theorem dX11_push_76 : decode cX11_push 76 = .ok (.ireturn, 1) := by decide +kernel
theorem ck_X11_130 {l : Launch} {D : va_G} {cy : Nat → ClassId} {R : Room} (hR : 3 ≤ R.frames ∧ 66 ≤ R.locals) : CallOK l D cy R RX11 (.invokevirtual 130) 0 0 (spV 11 2 SP_X11_isPatch) := call_V (ci := 11) (con_X11_isPatch l D cy) (lwG_3 (i := 2) rfl rfl) (lwG_3 (i := 4) rfl rfl) (lwG_p (i := 9) rfl rfl) (lwG_1 (i := 1) rfl rfl) (lwG_3 (i := 5) rfl rfl) (by decide) ⟨rfl, by decide, by decide, rfl⟩ ⟨rfl, rfl⟩ hR
theorem ck_X11_133 {l : Launch} {D : va_G} {cy : Nat → ClassId} {R : Room} (hR : 3 ≤ R.frames ∧ 64 ≤ R.locals) : CallOK l D cy R RX11 (.invokevirtual 133) 0 0 (spV 6 1 SP_X6_pushAt) := call_V (ci := 6) (con_X6_pushAt l D cy) (lwG_3 (i := 11) rfl rfl) (lwG_3 (i := 12) rfl rfl) (lwG_3 (i := 13) rfl rfl) (lwG_1 (i := 9) rfl rfl) (lwG_3 (i := 14) rfl rfl) (by decide) ⟨rfl, by decide, by decide, rfl⟩ ⟨rfl, rfl⟩ hR
theorem ck_X11_137 {l : Launch} {D : va_G} {cy : Nat → ClassId} {R : Room} (hR : 2 ≤ R.frames ∧ 46 ≤ R.locals) : CallOK l D cy R RX11 (.invokestatic 137) 0 0 (spS 2 SP_X11_commonDivisor) := call_S (con_X11_commonDivisor l D cy) (lwG_3 (i := 19) rfl rfl) (lwG_2 (i := 226) rfl rfl) (lwG_1 (i := 1) rfl rfl) (lwG_2 (i := 227) rfl rfl) ⟨by decide, by decide, rfl⟩ ⟨rfl, rfl⟩ hR
section W_X11_push
variable {p : Program} {l : Launch} {e : Env} {s : State} {m : MethodId} {args : Array Value} {below : List Frame} {meth : Method} {c : Code} {D : va_G} {cy : Nat → ClassId} {G : Nat × Nat} {n0 : Nat} {Qp : Option PV → Mm → Prop}
set_option maxRecDepth 100000 in
set_option maxHeartbeats 4000000 in
theorem k_X11_push_0 {o0 : Nat} {x1 : Int} {x2 : Int} {x3 : Int} {x4 : Int} {M : Mm} {Q : Int → Mm → Prop} (C : Cx p s m args meth c cX11_push 6 RX11 D cy G n0) (hr : meth.sig.returnType = some .int) (h3 : n0 = 243) (hn : M.2.2.2 = n0) (ho0 : o0 < 243 ∧ (SH o0).1 = 11) (hQ : ∀ x M, Q x M → Qp (some (vI x)) M) (h : P_X11_push o0 x1 x2 x3 x4 M Q ) : WW p l e ({ frames := 6, cells := 0, slots := 0, locals := 153 }) s m args below meth c (ZQ below args s D cy G n0 Qp n0) 6 D cy G n0 0 [(0, vR (some o0)), (1, vI x1), (2, vI x2), (3, vI x3), (4, vI x4)] [] M := by
  unfold P_X11_push at h
  refine w_iload C dX11_push_0 (mem_k 4 rfl) ?_
  refine w_iconst C dX11_push_2 ⟨by decide, by decide⟩ ?_
  refine w_iconst C dX11_push_3 ⟨by decide, by decide⟩ ?_
  refine cl_X11_isWithin (ck_X11_61 ⟨by decide, by decide⟩) C dX11_push_4 hn h3 (Nat.le_of_ble_eq_true rfl) h (fun v1 h => ?_)
  refine w_if_eq (tgt := 28) C dX11_push_7 (by decide) (fun q => ?_) (fun q => ?_)
  · replace h := h.1 q
    refine w_iconst C dX11_push_28 ⟨by decide, by decide⟩ ?_
    exact x_iret C hr dX11_push_29 hn (hQ _ M h)
  · replace h := h.2 q
    refine w_aload_n C dX11_push_10 rfl (mem_k 0 rfl) ?_
    refine w_iload_n C dX11_push_11 rfl (mem_k 2 rfl) ?_
    refine w_iload_n C dX11_push_12 rfl (mem_k 3 rfl) ?_
    refine cl_X11_isPatch (ck_X11_130 ⟨by decide, by decide⟩) C dX11_push_13 hn h3 (Nat.le_of_ble_eq_true rfl) (isO.n (ci := 11) ⟨rfl, ho0⟩ (hn.trans h3)) h (fun v2 h => ?_)
    refine w_if_eq (tgt := 28) C dX11_push_16 (by decide) (fun q => ?_) (fun q => ?_)
    · replace h := h.1 q
      refine w_iconst C dX11_push_28 ⟨by decide, by decide⟩ ?_
      exact x_iret C hr dX11_push_29 hn (hQ _ M h)
    · replace h := h.2 q
      refine w_aload_n C dX11_push_19 rfl (mem_k 0 rfl) ?_
      refine w_iload_n C dX11_push_20 rfl (mem_k 1 rfl) ?_
      refine w_iload_n C dX11_push_21 rfl (mem_k 2 rfl) ?_
      refine cl_X11_settles (ck_X11_119 ⟨by decide, by decide⟩) C dX11_push_22 hn h3 (Nat.le_of_ble_eq_true rfl) (isO.n (ci := 11) ⟨rfl, ho0⟩ (hn.trans h3)) h (fun v3 M4 h hn5 => ?_)
      refine w_if_ne (tgt := 30) C dX11_push_25 (by decide) (fun q => ?_) (fun q => ?_)
      · replace h := h.1 q
        refine w_aload_n C dX11_push_30 rfl (mem_k 0 rfl) ?_
        refine x_getR C dX11_push_31 fw_X11_36 (isO.n (ci := 11) ⟨rfl, ho0⟩ (hn5.trans h3)) (fun r6 er6 => ?_)
        replace h := h r6 er6
        refine w_iload_n C dX11_push_34 rfl (mem_k 3 rfl) ?_
        obtain ⟨o7, g8, h⟩ := h
        refine cl_X6_pushAt (ck_X11_133 ⟨by decide, by decide⟩) C dX11_push_35 hn5 h3 (Nat.le_of_ble_eq_true rfl) (isO.n g8 (hn5.trans h3)) h (fun v9 h => ?_)
        refine w_aload_n C dX11_push_38 rfl (mem_k 0 rfl) ?_
        refine x_getR C dX11_push_39 fw_X11_36 (isO.n (ci := 11) ⟨rfl, ho0⟩ (hn5.trans h3)) (fun r10 er10 => ?_)
        replace h := h r10 er10
        obtain ⟨o11, g12, h⟩ := h
        refine x_getI C dX11_push_42 fw_X11_127 (isO.n g12 (hn5.trans h3)) ?_
        refine cl_X11_commonDivisor (ck_X11_137 ⟨by decide, by decide⟩) C dX11_push_45 hn5 h3 (Nat.le_of_ble_eq_true rfl) h (fun v13 h => ?_)
        refine x_istore (L' := [(5, vI v13), (0, vR (some o0)), (1, vI x1), (2, vI x2), (3, vI x3), (4, vI x4)]) C dX11_push_48 (by decide) rfl ?_
        refine w_iload C dX11_push_50 (mem_k 5 rfl) ?_
        refine w_if_ne (tgt := 66) C dX11_push_52 (by decide) (fun q => ?_) (fun q => ?_)
        · replace h := h.1 q
          refine w_aload_n C dX11_push_66 rfl (mem_k 1 rfl) ?_
          refine x_getR C dX11_push_67 fw_X11_36 (isO.n (ci := 11) ⟨rfl, ho0⟩ (hn5.trans h3)) (fun r14 er14 => ?_)
          replace h := h r14 er14
          obtain ⟨o15, g16, h⟩ := h
          refine x_getI C dX11_push_70 fw_X11_127 (isO.n g16 (hn5.trans h3)) ?_
          refine w_iload C dX11_push_73 (mem_k 0 rfl) ?_
          refine x_idiv C dX11_push_75 h.1 ?_
          replace h := h.2
          exact x_iret C hr dX11_push_76 hn5 (hQ _ M4 h)
        · replace h := h.2 q
          refine w_aload_n C dX11_push_55 rfl (mem_k 1 rfl) ?_
          refine x_getR C dX11_push_56 fw_X11_36 (isO.n (ci := 11) ⟨rfl, ho0⟩ (hn5.trans h3)) (fun r17 er17 => ?_)
          replace h := h r17 er17
          refine w_iload_n C dX11_push_59 rfl (mem_k 4 rfl) ?_
          obtain ⟨o18, g19, h⟩ := h
          refine cl_X6_pushAt (ck_X11_133 ⟨by decide, by decide⟩) C dX11_push_60 hn5 h3 (Nat.le_of_ble_eq_true rfl) (isO.n g19 (hn5.trans h3)) h (fun v20 h => ?_)
          refine w_goto (tgt := 73) C dX11_push_63 (by decide) ?_
          refine w_iload C dX11_push_73 (mem_k 0 rfl) ?_
          refine x_idiv C dX11_push_75 h.1 ?_
          replace h := h.2
          exact x_iret C hr dX11_push_76 hn5 (hQ _ M4 h)
      · replace h := h.2 q
        refine w_iconst C dX11_push_28 ⟨by decide, by decide⟩ ?_
        exact x_iret C hr dX11_push_29 hn5 (hQ _ M4 h)
set_option maxRecDepth 100000 in
set_option maxHeartbeats 4000000 in
theorem con_X11_push (l : Launch) (D : va_G) (cy : Nat → ClassId) : Con l D cy yX11_push cX11_push 6 (some .int) ({ frames := 6, cells := 0, slots := 0, locals := 153 }) 0 0 SP_X11_push := by
  refine con_of (by decide) (fun as M Qp h => ?_) ?_
  · obtain ⟨-, o0, x1, x2, x3, x4, rfl, -⟩ := h
    exact Nat.le_of_ble_eq_true rfl
  · intro p e s m args below meth c G as M Qp h C hr hnm
    obtain ⟨hn, o0, x1, x2, x3, x4, rfl, ho1, ho2, Q0, hQ, h⟩ := h
    refine x_pick (L' := [(0, vR (some o0)), (1, vI x1), (2, vI x2), (3, vI x3), (4, vI x4)]) [0, 1, 2, 3, 4] rfl ?_
    exact k_X11_push_0 C hr hn rfl ⟨ho1, ho2⟩ hQ h
set_option maxRecDepth 100000 in
set_option maxHeartbeats 4000000 in
theorem cl_X11_push {p : Program} {l : Launch} {e : Env} {R : Room} {s : State} {m : MethodId} {args : Array Value} {below : List Frame} {meth : Method} {c : Code} {Q : State → Prop} {cc : ByteArray} {nL : Nat} {own : String} {D : va_G} {cy : Nat → ClassId} {G : Nat × Nat} {n0 pc : Nat} {L : List (Nat × PV)} {st : List PV} {M : Mm} {op : Instr} (K : CallOK l D cy R own op 0 0 (spV 11 4 SP_X11_push)) (C : Cx p s m args meth c cc nL own D cy G n0) (hd : decode cc pc = .ok (op, 3)) (hn : M.2.2.2 = n0) (h3 : n0 = 243) (hlen : argN st ≤ 8) {r : Option Nat} {o0 : Nat} (ho : isOn 11 M.2.2.2 r o0) {x1 : Int} {x2 : Int} {x3 : Int} {x4 : Int} {Q0 : Int → Mm → Prop} (h : P_X11_push o0 x1 x2 x3 x4 M Q0) (k : ∀ x M2, Q0 x M2 → M2.2.2.2 = n0 → WW p l e R s m args below meth c Q nL D cy G n0  (pc + 3) L (vI x :: st) M2) : WW p l e R s m args below meth c Q nL D cy G n0  pc L (vI x4 :: vI x3 :: vI x2 :: vI x1 :: vR r :: st) M := by
  obtain ⟨rfl, ho1, ho2⟩ := ho
  refine x_call0 K C hd (as := [vR (some o0), vI x1, vI x2, vI x3, vI x4]) rfl hn hlen (fun v M2 => ∃ x, v = some (vI x) ∧ Q0 x M2) ⟨⟨o0, [vI x1, vI x2, vI x3, vI x4], rfl, rfl, ho1, ho2⟩, hn.trans h3, o0, x1, x2, x3, x4, rfl, (hn.trans h3) ▸ ho1, ho2, Q0, fun x M2 hx => ⟨x, rfl, hx⟩, h⟩ ?_
  rintro _ _ ⟨x, rfl, hx⟩ hm
  exact k x _ hx hm
end W_X11_push
theorem dX11_bears_0 : decode cX11_bears 0 = .ok (.aload_n 0, 1) := by decide +kernel
theorem dX11_bears_1 : decode cX11_bears 1 = .ok (.iload_n 2, 1) := by decide +kernel
theorem dX11_bears_2 : decode cX11_bears 2 = .ok (.iload_n 3, 1) := by decide +kernel
theorem dX11_bears_3 : decode cX11_bears 3 = .ok (.invokevirtual 130, 3) := by decide +kernel
theorem dX11_bears_6 : decode cX11_bears 6 = .ok (.ifCond .eq 12, 3) := by decide +kernel
theorem dX11_bears_9 : decode cX11_bears 9 = .ok (.aload_n 0, 1) := by decide +kernel
theorem dX11_bears_10 : decode cX11_bears 10 = .ok (.iload_n 1, 1) := by decide +kernel
theorem dX11_bears_11 : decode cX11_bears 11 = .ok (.iload_n 2, 1) := by decide +kernel
theorem dX11_bears_12 : decode cX11_bears 12 = .ok (.invokevirtual 119, 3) := by decide +kernel
theorem dX11_bears_15 : decode cX11_bears 15 = .ok (.ifCond .ne 5, 3) := by decide +kernel
theorem dX11_bears_18 : decode cX11_bears 18 = .ok (.iconst (-1), 1) := by decide +kernel
theorem dX11_bears_19 : decode cX11_bears 19 = .ok (.ireturn, 1) := by decide +kernel
theorem dX11_bears_20 : decode cX11_bears 20 = .ok (.aload_n 0, 1) := by decide +kernel
theorem dX11_bears_21 : decode cX11_bears 21 = .ok (.getfield 36, 3) := by decide +kernel
theorem dX11_bears_24 : decode cX11_bears 24 = .ok (.iload_n 3, 1) := by decide +kernel
theorem dX11_bears_25 : decode cX11_bears 25 = .ok (.invokevirtual 141, 3) := by decide +kernel
theorem dX11_bears_28 : decode cX11_bears 28 = .ok (.ireturn, 1) := by decide +kernel
theorem ck_X11_141 {l : Launch} {D : va_G} {cy : Nat → ClassId} {R : Room} (hR : 3 ≤ R.frames ∧ 64 ≤ R.locals) : CallOK l D cy R RX11 (.invokevirtual 141) 0 0 (spV 6 1 SP_X6_stateAt) := call_V (ci := 6) (con_X6_stateAt l D cy) (lwG_3 (i := 24) rfl rfl) (lwG_3 (i := 25) rfl rfl) (lwG_3 (i := 26) rfl rfl) (lwG_1 (i := 9) rfl rfl) (lwG_3 (i := 27) rfl rfl) (by decide) ⟨rfl, by decide, by decide, rfl⟩ ⟨rfl, rfl⟩ hR
section W_X11_bears
variable {p : Program} {l : Launch} {e : Env} {s : State} {m : MethodId} {args : Array Value} {below : List Frame} {meth : Method} {c : Code} {D : va_G} {cy : Nat → ClassId} {G : Nat × Nat} {n0 : Nat} {Qp : Option PV → Mm → Prop}
set_option maxRecDepth 100000 in
set_option maxHeartbeats 4000000 in
theorem k_X11_bears_0 {o0 : Nat} {x1 : Int} {x2 : Int} {x3 : Int} {M : Mm} {Q : Int → Mm → Prop} (C : Cx p s m args meth c cX11_bears 4 RX11 D cy G n0) (hr : meth.sig.returnType = some .int) (h3 : n0 = 243) (hn : M.2.2.2 = n0) (ho0 : o0 < 243 ∧ (SH o0).1 = 11) (hQ : ∀ x M, Q x M → Qp (some (vI x)) M) (h : P_X11_bears o0 x1 x2 x3 M Q ) : WW p l e ({ frames := 6, cells := 0, slots := 0, locals := 153 }) s m args below meth c (ZQ below args s D cy G n0 Qp n0) 4 D cy G n0 0 [(0, vR (some o0)), (1, vI x1), (2, vI x2), (3, vI x3)] [] M := by
  unfold P_X11_bears at h
  refine w_aload_n C dX11_bears_0 rfl (mem_k 0 rfl) ?_
  refine w_iload_n C dX11_bears_1 rfl (mem_k 2 rfl) ?_
  refine w_iload_n C dX11_bears_2 rfl (mem_k 3 rfl) ?_
  refine cl_X11_isPatch (ck_X11_130 ⟨by decide, by decide⟩) C dX11_bears_3 hn h3 (Nat.le_of_ble_eq_true rfl) (isO.n (ci := 11) ⟨rfl, ho0⟩ (hn.trans h3)) h (fun v1 h => ?_)
  refine w_if_eq (tgt := 18) C dX11_bears_6 (by decide) (fun q => ?_) (fun q => ?_)
  · replace h := h.1 q
    refine w_iconst C dX11_bears_18 ⟨by decide, by decide⟩ ?_
    exact x_iret C hr dX11_bears_19 hn (hQ _ M h)
  · replace h := h.2 q
    refine w_aload_n C dX11_bears_9 rfl (mem_k 0 rfl) ?_
    refine w_iload_n C dX11_bears_10 rfl (mem_k 1 rfl) ?_
    refine w_iload_n C dX11_bears_11 rfl (mem_k 2 rfl) ?_
    refine cl_X11_settles (ck_X11_119 ⟨by decide, by decide⟩) C dX11_bears_12 hn h3 (Nat.le_of_ble_eq_true rfl) (isO.n (ci := 11) ⟨rfl, ho0⟩ (hn.trans h3)) h (fun v2 M3 h hn4 => ?_)
    refine w_if_ne (tgt := 20) C dX11_bears_15 (by decide) (fun q => ?_) (fun q => ?_)
    · replace h := h.1 q
      refine w_aload_n C dX11_bears_20 rfl (mem_k 0 rfl) ?_
      refine x_getR C dX11_bears_21 fw_X11_36 (isO.n (ci := 11) ⟨rfl, ho0⟩ (hn4.trans h3)) (fun r5 er5 => ?_)
      replace h := h r5 er5
      refine w_iload_n C dX11_bears_24 rfl (mem_k 3 rfl) ?_
      obtain ⟨o6, g7, h⟩ := h
      refine cl_X6_stateAt (ck_X11_141 ⟨by decide, by decide⟩) C dX11_bears_25 hn4 h3 (Nat.le_of_ble_eq_true rfl) (isO.n g7 (hn4.trans h3)) h (fun v8 h => ?_)
      exact x_iret C hr dX11_bears_28 hn4 (hQ _ M3 h)
    · replace h := h.2 q
      refine w_iconst C dX11_bears_18 ⟨by decide, by decide⟩ ?_
      exact x_iret C hr dX11_bears_19 hn4 (hQ _ M3 h)
set_option maxRecDepth 100000 in
set_option maxHeartbeats 4000000 in
theorem con_X11_bears (l : Launch) (D : va_G) (cy : Nat → ClassId) : Con l D cy yX11_bears cX11_bears 4 (some .int) ({ frames := 6, cells := 0, slots := 0, locals := 153 }) 0 0 SP_X11_bears := by
  refine con_of (by decide) (fun as M Qp h => ?_) ?_
  · obtain ⟨-, o0, x1, x2, x3, rfl, -⟩ := h
    exact Nat.le_of_ble_eq_true rfl
  · intro p e s m args below meth c G as M Qp h C hr hnm
    obtain ⟨hn, o0, x1, x2, x3, rfl, ho1, ho2, Q0, hQ, h⟩ := h
    refine x_pick (L' := [(0, vR (some o0)), (1, vI x1), (2, vI x2), (3, vI x3)]) [0, 1, 2, 3] rfl ?_
    exact k_X11_bears_0 C hr hn rfl ⟨ho1, ho2⟩ hQ h
set_option maxRecDepth 100000 in
set_option maxHeartbeats 4000000 in
theorem cl_X11_bears {p : Program} {l : Launch} {e : Env} {R : Room} {s : State} {m : MethodId} {args : Array Value} {below : List Frame} {meth : Method} {c : Code} {Q : State → Prop} {cc : ByteArray} {nL : Nat} {own : String} {D : va_G} {cy : Nat → ClassId} {G : Nat × Nat} {n0 pc : Nat} {L : List (Nat × PV)} {st : List PV} {M : Mm} {op : Instr} (K : CallOK l D cy R own op 0 0 (spV 11 3 SP_X11_bears)) (C : Cx p s m args meth c cc nL own D cy G n0) (hd : decode cc pc = .ok (op, 3)) (hn : M.2.2.2 = n0) (h3 : n0 = 243) (hlen : argN st ≤ 8) {r : Option Nat} {o0 : Nat} (ho : isOn 11 M.2.2.2 r o0) {x1 : Int} {x2 : Int} {x3 : Int} {Q0 : Int → Mm → Prop} (h : P_X11_bears o0 x1 x2 x3 M Q0) (k : ∀ x M2, Q0 x M2 → M2.2.2.2 = n0 → WW p l e R s m args below meth c Q nL D cy G n0  (pc + 3) L (vI x :: st) M2) : WW p l e R s m args below meth c Q nL D cy G n0  pc L (vI x3 :: vI x2 :: vI x1 :: vR r :: st) M := by
  obtain ⟨rfl, ho1, ho2⟩ := ho
  refine x_call0 K C hd (as := [vR (some o0), vI x1, vI x2, vI x3]) rfl hn hlen (fun v M2 => ∃ x, v = some (vI x) ∧ Q0 x M2) ⟨⟨o0, [vI x1, vI x2, vI x3], rfl, rfl, ho1, ho2⟩, hn.trans h3, o0, x1, x2, x3, rfl, (hn.trans h3) ▸ ho1, ho2, Q0, fun x M2 hx => ⟨x, rfl, hx⟩, h⟩ ?_
  rintro _ _ ⟨x, rfl, hx⟩ hm
  exact k x _ hx hm
end W_X11_bears
theorem dX11_press_0 : decode cX11_press 0 = .ok (.iload_n 3, 1) := by decide +kernel
theorem dX11_press_1 : decode cX11_press 1 = .ok (.iconst (-1), 1) := by decide +kernel
theorem dX11_press_2 : decode cX11_press 2 = .ok (.if_icmp .eq 12, 3) := by decide +kernel
theorem dX11_press_5 : decode cX11_press 5 = .ok (.aload_n 0, 1) := by decide +kernel
theorem dX11_press_6 : decode cX11_press 6 = .ok (.iload_n 2, 1) := by decide +kernel
theorem dX11_press_7 : decode cX11_press 7 = .ok (.iload_n 3, 1) := by decide +kernel
theorem dX11_press_8 : decode cX11_press 8 = .ok (.invokevirtual 130, 3) := by decide +kernel
theorem dX11_press_11 : decode cX11_press 11 = .ok (.ifCond .eq 12, 3) := by decide +kernel
theorem dX11_press_14 : decode cX11_press 14 = .ok (.aload_n 0, 1) := by decide +kernel
theorem dX11_press_15 : decode cX11_press 15 = .ok (.iload_n 1, 1) := by decide +kernel
theorem dX11_press_16 : decode cX11_press 16 = .ok (.iload_n 2, 1) := by decide +kernel
theorem dX11_press_17 : decode cX11_press 17 = .ok (.invokevirtual 119, 3) := by decide +kernel
theorem dX11_press_20 : decode cX11_press 20 = .ok (.ifCond .ne 5, 3) := by decide +kernel
theorem dX11_press_23 : decode cX11_press 23 = .ok (.iconst (-1), 1) := by decide +kernel
theorem dX11_press_24 : decode cX11_press 24 = .ok (.ireturn, 1) := by decide +kernel
theorem dX11_press_25 : decode cX11_press 25 = .ok (.iload_n 3, 1) := by decide +kernel
theorem dX11_press_26 : decode cX11_press 26 = .ok (.iconst (-1), 1) := by decide +kernel
theorem dX11_press_27 : decode cX11_press 27 = .ok (.if_icmp .ne 13, 3) := by decide +kernel
theorem dX11_press_30 : decode cX11_press 30 = .ok (.aload_n 0, 1) := by decide +kernel
theorem dX11_press_31 : decode cX11_press 31 = .ok (.getfield 36, 3) := by decide +kernel
theorem dX11_press_34 : decode cX11_press 34 = .ok (.invokevirtual 144, 3) := by decide +kernel
theorem dX11_press_37 : decode cX11_press 37 = .ok (.goto 11, 3) := by decide +kernel
theorem dX11_press_40 : decode cX11_press 40 = .ok (.aload_n 0, 1) := by decide +kernel
theorem dX11_press_41 : decode cX11_press 41 = .ok (.getfield 36, 3) := by decide +kernel
theorem dX11_press_44 : decode cX11_press 44 = .ok (.iload_n 3, 1) := by decide +kernel
theorem dX11_press_45 : decode cX11_press 45 = .ok (.invokevirtual 148, 3) := by decide +kernel
theorem dX11_press_48 : decode cX11_press 48 = .ok (.ireturn, 1) := by decide +kernel
theorem ck_X11_148 {l : Launch} {D : va_G} {cy : Nat → ClassId} {R : Room} (hR : 3 ≤ R.frames ∧ 64 ≤ R.locals) : CallOK l D cy R RX11 (.invokevirtual 148) 0 0 (spV 6 1 SP_X6_pressAt) := call_V (ci := 6) (con_X6_pressAt l D cy) (lwG_3 (i := 36) rfl rfl) (lwG_3 (i := 37) rfl rfl) (lwG_3 (i := 38) rfl rfl) (lwG_1 (i := 9) rfl rfl) (lwG_3 (i := 39) rfl rfl) (by decide) ⟨rfl, by decide, by decide, rfl⟩ ⟨rfl, rfl⟩ hR
theorem ck_X11_144 {l : Launch} {D : va_G} {cy : Nat → ClassId} {R : Room} (hR : 1 ≤ R.frames ∧ 22 ≤ R.locals) : CallOK l D cy R RX11 (.invokevirtual 144) 0 0 (spV 6 0 SP_X6_firstPatch) := call_V (ci := 6) (con_X6_firstPatch l D cy) (lwG_3 (i := 32) rfl rfl) (lwG_3 (i := 33) rfl rfl) (lwG_3 (i := 34) rfl rfl) (lwG_1 (i := 9) rfl rfl) (lwG_3 (i := 35) rfl rfl) (by decide) ⟨rfl, by decide, by decide, rfl⟩ ⟨rfl, rfl⟩ hR
section W_X11_press
variable {p : Program} {l : Launch} {e : Env} {s : State} {m : MethodId} {args : Array Value} {below : List Frame} {meth : Method} {c : Code} {D : va_G} {cy : Nat → ClassId} {G : Nat × Nat} {n0 : Nat} {Qp : Option PV → Mm → Prop}
set_option maxRecDepth 100000 in
set_option maxHeartbeats 4000000 in
theorem k_X11_press_14 {o0 : Nat} {x1 : Int} {x2 : Int} {x3 : Int} {M : Mm} {Q : Int → Mm → Prop} (C : Cx p s m args meth c cX11_press 4 RX11 D cy G n0) (hr : meth.sig.returnType = some .int) (h3 : n0 = 243) (hn : M.2.2.2 = n0) (ho0 : o0 < 243 ∧ (SH o0).1 = 11) (hQ : ∀ x M, Q x M → Qp (some (vI x)) M) (h : P_X11_press_14 o0 x1 x2 x3 M Q ) : WW p l e ({ frames := 6, cells := 0, slots := 0, locals := 153 }) s m args below meth c (ZQ below args s D cy G n0 Qp n0) 4 D cy G n0 14 [(0, vR (some o0)), (1, vI x1), (2, vI x2), (3, vI x3)] [] M := by
  unfold P_X11_press_14 at h
  refine w_aload_n C dX11_press_14 rfl (mem_k 0 rfl) ?_
  refine w_iload_n C dX11_press_15 rfl (mem_k 1 rfl) ?_
  refine w_iload_n C dX11_press_16 rfl (mem_k 2 rfl) ?_
  refine cl_X11_settles (ck_X11_119 ⟨by decide, by decide⟩) C dX11_press_17 hn h3 (Nat.le_of_ble_eq_true rfl) (isO.n (ci := 11) ⟨rfl, ho0⟩ (hn.trans h3)) h (fun v1 M2 h hn3 => ?_)
  refine w_if_ne (tgt := 25) C dX11_press_20 (by decide) (fun q => ?_) (fun q => ?_)
  · replace h := h.1 q
    refine w_iload_n C dX11_press_25 rfl (mem_k 3 rfl) ?_
    refine w_iconst C dX11_press_26 ⟨by decide, by decide⟩ ?_
    refine w_icmp_ne (tgt := 40) C dX11_press_27 (by decide) (fun q => ?_) (fun q => ?_)
    · replace h := h.1 q
      refine w_aload_n C dX11_press_40 rfl (mem_k 0 rfl) ?_
      refine x_getR C dX11_press_41 fw_X11_36 (isO.n (ci := 11) ⟨rfl, ho0⟩ (hn3.trans h3)) (fun r4 er4 => ?_)
      replace h := h r4 er4
      refine w_iload_n C dX11_press_44 rfl (mem_k 3 rfl) ?_
      obtain ⟨o5, g6, h⟩ := h
      refine cl_X6_pressAt (ck_X11_148 ⟨by decide, by decide⟩) C dX11_press_45 hn3 h3 (Nat.le_of_ble_eq_true rfl) (isO.n g6 (hn3.trans h3)) h (fun v7 h => ?_)
      exact x_iret C hr dX11_press_48 hn3 (hQ _ M2 h)
    · replace h := h.2 q
      refine w_aload_n C dX11_press_30 rfl (mem_k 0 rfl) ?_
      refine x_getR C dX11_press_31 fw_X11_36 (isO.n (ci := 11) ⟨rfl, ho0⟩ (hn3.trans h3)) (fun r8 er8 => ?_)
      replace h := h r8 er8
      obtain ⟨o9, g10, h⟩ := h
      refine cl_X6_firstPatch (ck_X11_144 ⟨by decide, by decide⟩) C dX11_press_34 hn3 h3 (Nat.le_of_ble_eq_true rfl) (isO.n g10 (hn3.trans h3)) h (fun v11 h => ?_)
      refine w_goto (tgt := 48) C dX11_press_37 (by decide) ?_
      exact x_iret C hr dX11_press_48 hn3 (hQ _ M2 h)
  · replace h := h.2 q
    refine w_iconst C dX11_press_23 ⟨by decide, by decide⟩ ?_
    exact x_iret C hr dX11_press_24 hn3 (hQ _ M2 h)
set_option maxRecDepth 100000 in
set_option maxHeartbeats 4000000 in
theorem k_X11_press_0 {o0 : Nat} {x1 : Int} {x2 : Int} {x3 : Int} {M : Mm} {Q : Int → Mm → Prop} (C : Cx p s m args meth c cX11_press 4 RX11 D cy G n0) (hr : meth.sig.returnType = some .int) (h3 : n0 = 243) (hn : M.2.2.2 = n0) (ho0 : o0 < 243 ∧ (SH o0).1 = 11) (hQ : ∀ x M, Q x M → Qp (some (vI x)) M) (h : P_X11_press o0 x1 x2 x3 M Q ) : WW p l e ({ frames := 6, cells := 0, slots := 0, locals := 153 }) s m args below meth c (ZQ below args s D cy G n0 Qp n0) 4 D cy G n0 0 [(0, vR (some o0)), (1, vI x1), (2, vI x2), (3, vI x3)] [] M := by
  unfold P_X11_press at h
  refine w_iload_n C dX11_press_0 rfl (mem_k 3 rfl) ?_
  refine w_iconst C dX11_press_1 ⟨by decide, by decide⟩ ?_
  refine w_icmp_eq (tgt := 14) C dX11_press_2 (by decide) (fun q => ?_) (fun q => ?_)
  · replace h := h.1 q
    refine x_pc (pc2 := 14) rfl ?_
    refine x_pick (L' := [(0, vR (some o0)), (1, vI x1), (2, vI x2), (3, vI x3)]) [0, 1, 2, 3] rfl ?_
    exact k_X11_press_14 C hr h3 hn ho0 hQ  h
  · replace h := h.2 q
    refine w_aload_n C dX11_press_5 rfl (mem_k 0 rfl) ?_
    refine w_iload_n C dX11_press_6 rfl (mem_k 2 rfl) ?_
    refine w_iload_n C dX11_press_7 rfl (mem_k 3 rfl) ?_
    refine cl_X11_isPatch (ck_X11_130 ⟨by decide, by decide⟩) C dX11_press_8 hn h3 (Nat.le_of_ble_eq_true rfl) (isO.n (ci := 11) ⟨rfl, ho0⟩ (hn.trans h3)) h (fun v12 h => ?_)
    refine w_if_eq (tgt := 23) C dX11_press_11 (by decide) (fun q => ?_) (fun q => ?_)
    · replace h := h.1 q
      refine w_iconst C dX11_press_23 ⟨by decide, by decide⟩ ?_
      exact x_iret C hr dX11_press_24 hn (hQ _ M h)
    · replace h := h.2 q
      refine x_pc (pc2 := 14) rfl ?_
      refine x_pick (L' := [(0, vR (some o0)), (1, vI x1), (2, vI x2), (3, vI x3)]) [0, 1, 2, 3] rfl ?_
      exact k_X11_press_14 C hr h3 hn ho0 hQ  h
set_option maxRecDepth 100000 in
set_option maxHeartbeats 4000000 in
theorem con_X11_press (l : Launch) (D : va_G) (cy : Nat → ClassId) : Con l D cy yX11_press cX11_press 4 (some .int) ({ frames := 6, cells := 0, slots := 0, locals := 153 }) 0 0 SP_X11_press := by
  refine con_of (by decide) (fun as M Qp h => ?_) ?_
  · obtain ⟨-, o0, x1, x2, x3, rfl, -⟩ := h
    exact Nat.le_of_ble_eq_true rfl
  · intro p e s m args below meth c G as M Qp h C hr hnm
    obtain ⟨hn, o0, x1, x2, x3, rfl, ho1, ho2, Q0, hQ, h⟩ := h
    refine x_pick (L' := [(0, vR (some o0)), (1, vI x1), (2, vI x2), (3, vI x3)]) [0, 1, 2, 3] rfl ?_
    exact k_X11_press_0 C hr hn rfl ⟨ho1, ho2⟩ hQ h
set_option maxRecDepth 100000 in
set_option maxHeartbeats 4000000 in
theorem cl_X11_press {p : Program} {l : Launch} {e : Env} {R : Room} {s : State} {m : MethodId} {args : Array Value} {below : List Frame} {meth : Method} {c : Code} {Q : State → Prop} {cc : ByteArray} {nL : Nat} {own : String} {D : va_G} {cy : Nat → ClassId} {G : Nat × Nat} {n0 pc : Nat} {L : List (Nat × PV)} {st : List PV} {M : Mm} {op : Instr} (K : CallOK l D cy R own op 0 0 (spV 11 3 SP_X11_press)) (C : Cx p s m args meth c cc nL own D cy G n0) (hd : decode cc pc = .ok (op, 3)) (hn : M.2.2.2 = n0) (h3 : n0 = 243) (hlen : argN st ≤ 8) {r : Option Nat} {o0 : Nat} (ho : isOn 11 M.2.2.2 r o0) {x1 : Int} {x2 : Int} {x3 : Int} {Q0 : Int → Mm → Prop} (h : P_X11_press o0 x1 x2 x3 M Q0) (k : ∀ x M2, Q0 x M2 → M2.2.2.2 = n0 → WW p l e R s m args below meth c Q nL D cy G n0  (pc + 3) L (vI x :: st) M2) : WW p l e R s m args below meth c Q nL D cy G n0  pc L (vI x3 :: vI x2 :: vI x1 :: vR r :: st) M := by
  obtain ⟨rfl, ho1, ho2⟩ := ho
  refine x_call0 K C hd (as := [vR (some o0), vI x1, vI x2, vI x3]) rfl hn hlen (fun v M2 => ∃ x, v = some (vI x) ∧ Q0 x M2) ⟨⟨o0, [vI x1, vI x2, vI x3], rfl, rfl, ho1, ho2⟩, hn.trans h3, o0, x1, x2, x3, rfl, (hn.trans h3) ▸ ho1, ho2, Q0, fun x M2 hx => ⟨x, rfl, hx⟩, h⟩ ?_
  rintro _ _ ⟨x, rfl, hx⟩ hm
  exact k x _ hx hm
end W_X11_press
theorem dX11_slack_0 : decode cX11_slack 0 = .ok (.iload_n 1, 1) := by decide +kernel
theorem dX11_slack_1 : decode cX11_slack 1 = .ok (.iconst 0, 1) := by decide +kernel
theorem dX11_slack_2 : decode cX11_slack 2 = .ok (.sipush 300, 3) := by decide +kernel
theorem dX11_slack_5 : decode cX11_slack 5 = .ok (.invokestatic 61, 3) := by decide +kernel
theorem dX11_slack_8 : decode cX11_slack 8 = .ok (.ifCond .ne 5, 3) := by decide +kernel
theorem dX11_slack_11 : decode cX11_slack 11 = .ok (.iconst (-1), 1) := by decide +kernel
theorem dX11_slack_12 : decode cX11_slack 12 = .ok (.ireturn, 1) := by decide +kernel
theorem dX11_slack_13 : decode cX11_slack 13 = .ok (.aload_n 0, 1) := by decide +kernel
theorem dX11_slack_14 : decode cX11_slack 14 = .ok (.getfield 29, 3) := by decide +kernel
theorem dX11_slack_17 : decode cX11_slack 17 = .ok (.getfield 151, 3) := by decide +kernel
theorem dX11_slack_20 : decode cX11_slack 20 = .ok (.istore_n 2, 1) := by decide +kernel
theorem dX11_slack_21 : decode cX11_slack 21 = .ok (.aload_n 0, 1) := by decide +kernel
theorem dX11_slack_22 : decode cX11_slack 22 = .ok (.getfield 29, 3) := by decide +kernel
theorem dX11_slack_25 : decode cX11_slack 25 = .ok (.iload_n 1, 1) := by decide +kernel
theorem dX11_slack_26 : decode cX11_slack 26 = .ok (.putfield 151, 3) := by decide +kernel
theorem dX11_slack_29 : decode cX11_slack 29 = .ok (.iload_n 2, 1) := by decide +kernel
theorem dX11_slack_30 : decode cX11_slack 30 = .ok (.ireturn, 1) := by decide +kernel
theorem fw_X11_151 : fI RX11 151 1 2 := ⟨⟨lwG_1 (i := 205) rfl rfl, by decide, by decide⟩, rfl⟩
section W_X11_slack
variable {p : Program} {l : Launch} {e : Env} {s : State} {m : MethodId} {args : Array Value} {below : List Frame} {meth : Method} {c : Code} {D : va_G} {cy : Nat → ClassId} {G : Nat × Nat} {n0 : Nat} {Qp : Option PV → Mm → Prop}
set_option maxRecDepth 100000 in
set_option maxHeartbeats 4000000 in
theorem k_X11_slack_0 {o0 : Nat} {x1 : Int} {M : Mm} {Q : Int → Mm → Prop} (C : Cx p s m args meth c cX11_slack 3 RX11 D cy G n0) (hr : meth.sig.returnType = some .int) (h3 : n0 = 243) (hn : M.2.2.2 = n0) (ho0 : o0 < 243 ∧ (SH o0).1 = 11) (hQ : ∀ x M, Q x M → Qp (some (vI x)) M) (h : P_X11_slack o0 x1 M Q ) : WW p l e ({ frames := 1, cells := 0, slots := 0, locals := 22 }) s m args below meth c (ZQ below args s D cy G n0 Qp n0) 3 D cy G n0 0 [(0, vR (some o0)), (1, vI x1)] [] M := by
  unfold P_X11_slack at h
  refine w_iload_n C dX11_slack_0 rfl (mem_k 1 rfl) ?_
  refine w_iconst C dX11_slack_1 ⟨by decide, by decide⟩ ?_
  refine w_sipush C dX11_slack_2 (by decide) ?_
  refine cl_X11_isWithin (ck_X11_61 ⟨by decide, by decide⟩) C dX11_slack_5 hn h3 (Nat.le_of_ble_eq_true rfl) h (fun v1 h => ?_)
  refine w_if_ne (tgt := 13) C dX11_slack_8 (by decide) (fun q => ?_) (fun q => ?_)
  · replace h := h.1 q
    refine w_aload_n C dX11_slack_13 rfl (mem_k 0 rfl) ?_
    refine x_getR C dX11_slack_14 fw_X11_29 (isO.n (ci := 11) ⟨rfl, ho0⟩ (hn.trans h3)) (fun r2 er2 => ?_)
    replace h := h r2 er2
    obtain ⟨o3, g4, h⟩ := h
    refine x_getI C dX11_slack_17 fw_X11_151 (isO.n g4 (hn.trans h3)) ?_
    refine x_nmI (fun v5 ev5 => ?_)
    replace h := h v5 ev5
    refine x_istore_n (L' := [(2, vI v5), (0, vR (some o0)), (1, vI x1)]) C dX11_slack_20 rfl (by decide) rfl ?_
    refine w_aload_n C dX11_slack_21 rfl (mem_k 1 rfl) ?_
    refine x_getR C dX11_slack_22 fw_X11_29 (isO.n (ci := 11) ⟨rfl, ho0⟩ (hn.trans h3)) (fun r6 er6 => ?_)
    replace h := h r6 er6
    refine w_iload_n C dX11_slack_25 rfl (mem_k 2 rfl) ?_
    obtain ⟨o7, g8, h⟩ := h
    refine x_putI C dX11_slack_26 fw_X11_151 (isO.n g8 (hn.trans h3)) (Or.inl rfl) (fun M9 eM9 hn10 => ?_)
    replace h := h M9 eM9
    replace hn10 := hn10.trans hn
    refine w_iload_n C dX11_slack_29 rfl (mem_k 0 rfl) ?_
    exact x_iret C hr dX11_slack_30 hn10 (hQ _ M9 h)
  · replace h := h.2 q
    refine w_iconst C dX11_slack_11 ⟨by decide, by decide⟩ ?_
    exact x_iret C hr dX11_slack_12 hn (hQ _ M h)
set_option maxRecDepth 100000 in
set_option maxHeartbeats 4000000 in
theorem con_X11_slack (l : Launch) (D : va_G) (cy : Nat → ClassId) : Con l D cy yX11_slack cX11_slack 3 (some .int) ({ frames := 1, cells := 0, slots := 0, locals := 22 }) 0 0 SP_X11_slack := by
  refine con_of (by decide) (fun as M Qp h => ?_) ?_
  · obtain ⟨-, o0, x1, rfl, -⟩ := h
    exact Nat.le_of_ble_eq_true rfl
  · intro p e s m args below meth c G as M Qp h C hr hnm
    obtain ⟨hn, o0, x1, rfl, ho1, ho2, Q0, hQ, h⟩ := h
    refine x_pick (L' := [(0, vR (some o0)), (1, vI x1)]) [0, 1] rfl ?_
    exact k_X11_slack_0 C hr hn rfl ⟨ho1, ho2⟩ hQ h
set_option maxRecDepth 100000 in
set_option maxHeartbeats 4000000 in
theorem cl_X11_slack {p : Program} {l : Launch} {e : Env} {R : Room} {s : State} {m : MethodId} {args : Array Value} {below : List Frame} {meth : Method} {c : Code} {Q : State → Prop} {cc : ByteArray} {nL : Nat} {own : String} {D : va_G} {cy : Nat → ClassId} {G : Nat × Nat} {n0 pc : Nat} {L : List (Nat × PV)} {st : List PV} {M : Mm} {op : Instr} (K : CallOK l D cy R own op 0 0 (spV 11 1 SP_X11_slack)) (C : Cx p s m args meth c cc nL own D cy G n0) (hd : decode cc pc = .ok (op, 3)) (hn : M.2.2.2 = n0) (h3 : n0 = 243) (hlen : argN st ≤ 8) {r : Option Nat} {o0 : Nat} (ho : isOn 11 M.2.2.2 r o0) {x1 : Int} {Q0 : Int → Mm → Prop} (h : P_X11_slack o0 x1 M Q0) (k : ∀ x M2, Q0 x M2 → M2.2.2.2 = n0 → WW p l e R s m args below meth c Q nL D cy G n0  (pc + 3) L (vI x :: st) M2) : WW p l e R s m args below meth c Q nL D cy G n0  pc L (vI x1 :: vR r :: st) M := by
  obtain ⟨rfl, ho1, ho2⟩ := ho
  refine x_call0 K C hd (as := [vR (some o0), vI x1]) rfl hn hlen (fun v M2 => ∃ x, v = some (vI x) ∧ Q0 x M2) ⟨⟨o0, [vI x1], rfl, rfl, ho1, ho2⟩, hn.trans h3, o0, x1, rfl, (hn.trans h3) ▸ ho1, ho2, Q0, fun x M2 hx => ⟨x, rfl, hx⟩, h⟩ ?_
  rintro _ _ ⟨x, rfl, hx⟩ hm
  exact k x _ hx hm
end W_X11_slack
theorem dX11_fits_0 : decode cX11_fits 0 = .ok (.aload_n 0, 1) := by decide +kernel
theorem dX11_fits_1 : decode cX11_fits 1 = .ok (.getfield 29, 3) := by decide +kernel
theorem dX11_fits_4 : decode cX11_fits 4 = .ok (.iload_n 1, 1) := by decide +kernel
theorem dX11_fits_5 : decode cX11_fits 5 = .ok (.invokevirtual 111, 3) := by decide +kernel
theorem dX11_fits_8 : decode cX11_fits 8 = .ok (.astore 5, 2) := by decide +kernel
theorem dX11_fits_10 : decode cX11_fits 10 = .ok (.aload_n 0, 1) := by decide +kernel
theorem dX11_fits_11 : decode cX11_fits 11 = .ok (.getfield 19, 3) := by decide +kernel
theorem dX11_fits_14 : decode cX11_fits 14 = .ok (.iload_n 2, 1) := by decide +kernel
theorem dX11_fits_15 : decode cX11_fits 15 = .ok (.invokevirtual 154, 3) := by decide +kernel
theorem dX11_fits_18 : decode cX11_fits 18 = .ok (.astore 6, 2) := by decide +kernel
theorem dX11_fits_20 : decode cX11_fits 20 = .ok (.aload 5, 2) := by decide +kernel
theorem dX11_fits_22 : decode cX11_fits 22 = .ok (.ifnull 8, 3) := by decide +kernel
theorem dX11_fits_25 : decode cX11_fits 25 = .ok (.aload 6, 2) := by decide +kernel
theorem dX11_fits_27 : decode cX11_fits 27 = .ok (.ifnonnull 5, 3) := by decide +kernel
theorem dX11_fits_30 : decode cX11_fits 30 = .ok (.iconst (-1), 1) := by decide +kernel
theorem dX11_fits_31 : decode cX11_fits 31 = .ok (.ireturn, 1) := by decide +kernel
theorem dX11_fits_32 : decode cX11_fits 32 = .ok (.iload_n 3, 1) := by decide +kernel
theorem dX11_fits_33 : decode cX11_fits 33 = .ok (.iconst (-1), 1) := by decide +kernel
theorem dX11_fits_34 : decode cX11_fits 34 = .ok (.if_icmp .ne 23, 3) := by decide +kernel
theorem dX11_fits_37 : decode cX11_fits 37 = .ok (.aload_n 0, 1) := by decide +kernel
theorem dX11_fits_38 : decode cX11_fits 38 = .ok (.getfield 29, 3) := by decide +kernel
theorem dX11_fits_41 : decode cX11_fits 41 = .ok (.aload 5, 2) := by decide +kernel
theorem dX11_fits_43 : decode cX11_fits 43 = .ok (.aload 6, 2) := by decide +kernel
theorem dX11_fits_45 : decode cX11_fits 45 = .ok (.invokevirtual 158, 3) := by decide +kernel
theorem dX11_fits_48 : decode cX11_fits 48 = .ok (.ifCond .eq 7, 3) := by decide +kernel
theorem dX11_fits_51 : decode cX11_fits 51 = .ok (.iconst 1, 1) := by decide +kernel
theorem dX11_fits_52 : decode cX11_fits 52 = .ok (.goto 4, 3) := by decide +kernel
theorem dX11_fits_55 : decode cX11_fits 55 = .ok (.iconst 0, 1) := by decide +kernel
theorem dX11_fits_56 : decode cX11_fits 56 = .ok (.ireturn, 1) := by decide +kernel
theorem dX11_fits_57 : decode cX11_fits 57 = .ok (.iload_n 3, 1) := by decide +kernel
theorem dX11_fits_58 : decode cX11_fits 58 = .ok (.iconst 0, 1) := by decide +kernel
theorem dX11_fits_59 : decode cX11_fits 59 = .ok (.bipush 9, 2) := by decide +kernel
theorem dX11_fits_61 : decode cX11_fits 61 = .ok (.invokestatic 61, 3) := by decide +kernel
theorem dX11_fits_64 : decode cX11_fits 64 = .ok (.ifCond .eq 14, 3) := by decide +kernel
theorem dX11_fits_67 : decode cX11_fits 67 = .ok (.iload 4, 2) := by decide +kernel
theorem dX11_fits_69 : decode cX11_fits 69 = .ok (.iconst 0, 1) := by decide +kernel
theorem dX11_fits_70 : decode cX11_fits 70 = .ok (.bipush 9, 2) := by decide +kernel
theorem dX11_fits_72 : decode cX11_fits 72 = .ok (.invokestatic 61, 3) := by decide +kernel
theorem dX11_fits_75 : decode cX11_fits 75 = .ok (.ifCond .ne 5, 3) := by decide +kernel
theorem dX11_fits_78 : decode cX11_fits 78 = .ok (.iconst (-1), 1) := by decide +kernel
theorem dX11_fits_79 : decode cX11_fits 79 = .ok (.ireturn, 1) := by decide +kernel
theorem dX11_fits_80 : decode cX11_fits 80 = .ok (.aload_n 0, 1) := by decide +kernel
theorem dX11_fits_81 : decode cX11_fits 81 = .ok (.getfield 29, 3) := by decide +kernel
theorem dX11_fits_84 : decode cX11_fits 84 = .ok (.aload 5, 2) := by decide +kernel
theorem dX11_fits_86 : decode cX11_fits 86 = .ok (.aload 6, 2) := by decide +kernel
theorem dX11_fits_88 : decode cX11_fits 88 = .ok (.iload_n 3, 1) := by decide +kernel
theorem dX11_fits_89 : decode cX11_fits 89 = .ok (.iload 4, 2) := by decide +kernel
theorem dX11_fits_91 : decode cX11_fits 91 = .ok (.invokevirtual 162, 3) := by decide +kernel
theorem dX11_fits_94 : decode cX11_fits 94 = .ok (.ifCond .eq 7, 3) := by decide +kernel
theorem dX11_fits_97 : decode cX11_fits 97 = .ok (.iconst 1, 1) := by decide +kernel
theorem dX11_fits_98 : decode cX11_fits 98 = .ok (.goto 4, 3) := by decide +kernel
theorem dX11_fits_101 : decode cX11_fits 101 = .ok (.iconst 0, 1) := by decide +kernel
theorem dX11_fits_102 : decode cX11_fits 102 = .ok (.ireturn, 1) := by decide +kernel
theorem ck_X11_162 {l : Launch} {D : va_G} {cy : Nat → ClassId} {R : Room} (hR : 2 ≤ R.frames ∧ 46 ≤ R.locals) : CallOK l D cy R RX11 (.invokevirtual 162) 0 0 (spV 1 4 SP_X1_fitsAt) := call_V (ci := 1) (con_X1_fitsAt l D cy) (lwG_3 (i := 64) rfl rfl) (lwG_3 (i := 53) rfl rfl) (lwG_3 (i := 54) rfl rfl) (lwG_1 (i := 7) rfl rfl) (lwG_3 (i := 55) rfl rfl) (by decide) ⟨rfl, by decide, by decide, rfl⟩ ⟨rfl, rfl⟩ hR
theorem ck_X11_158 {l : Launch} {D : va_G} {cy : Nat → ClassId} {R : Room} (hR : 3 ≤ R.frames ∧ 69 ≤ R.locals) : CallOK l D cy R RX11 (.invokevirtual 158) 0 0 (spV 1 2 SP_X1_fitsSomehow) := call_V (ci := 1) (con_X1_fitsSomehow l D cy) (lwG_3 (i := 48) rfl rfl) (lwG_3 (i := 49) rfl rfl) (lwG_3 (i := 50) rfl rfl) (lwG_1 (i := 7) rfl rfl) (lwG_3 (i := 51) rfl rfl) (by decide) ⟨rfl, by decide, by decide, rfl⟩ ⟨rfl, rfl⟩ hR
section W_X11_fits
variable {p : Program} {l : Launch} {e : Env} {s : State} {m : MethodId} {args : Array Value} {below : List Frame} {meth : Method} {c : Code} {D : va_G} {cy : Nat → ClassId} {G : Nat × Nat} {n0 : Nat} {Qp : Option PV → Mm → Prop}
set_option maxRecDepth 100000 in
set_option maxHeartbeats 4000000 in
theorem k_X11_fits_0 {o0 : Nat} {x1 : Int} {x2 : Int} {x3 : Int} {x4 : Int} {M : Mm} {Q : Int → Prop} (C : Cx p s m args meth c cX11_fits 7 RX11 D cy G n0) (hr : meth.sig.returnType = some .int) (h3 : n0 = 243) (hn : M.2.2.2 = n0) (ho0 : o0 < 243 ∧ (SH o0).1 = 11) (hQ : ∀ x, Q x → Qp (some (vI x)) M) (h : P_X11_fits o0 x1 x2 x3 x4 M Q ) : WW p l e ({ frames := 3, cells := 0, slots := 0, locals := 69 }) s m args below meth c (ZQ below args s D cy G n0 Qp n0) 7 D cy G n0 0 [(0, vR (some o0)), (1, vI x1), (2, vI x2), (3, vI x3), (4, vI x4)] [] M := by
  unfold P_X11_fits at h
  refine w_aload_n C dX11_fits_0 rfl (mem_k 0 rfl) ?_
  refine x_getR C dX11_fits_1 fw_X11_29 (isO.n (ci := 11) ⟨rfl, ho0⟩ (hn.trans h3)) (fun r1 er1 => ?_)
  replace h := h r1 er1
  refine w_iload_n C dX11_fits_4 rfl (mem_k 1 rfl) ?_
  obtain ⟨o2, g3, h⟩ := h
  refine cl_X1_bodyAt (ck_X11_111 ⟨by decide, by decide⟩) C dX11_fits_5 hn h3 (Nat.le_of_ble_eq_true rfl) (isO.n g3 (hn.trans h3)) h (fun r4 h => ?_)
  refine x_astore (L' := [(5, vR r4), (0, vR (some o0)), (1, vI x1), (2, vI x2), (3, vI x3), (4, vI x4)]) C dX11_fits_8 (by decide) rfl ?_
  refine w_aload_n C dX11_fits_10 rfl (mem_k 1 rfl) ?_
  refine x_getR C dX11_fits_11 fw_X11_19 (isO.n (ci := 11) ⟨rfl, ho0⟩ (hn.trans h3)) (fun r5 er5 => ?_)
  replace h := h r5 er5
  refine w_iload_n C dX11_fits_14 rfl (mem_k 3 rfl) ?_
  obtain ⟨o6, g7, h⟩ := h
  refine cl_X5_seatAt (ck_X11_154 ⟨by decide, by decide⟩) C dX11_fits_15 hn h3 (Nat.le_of_ble_eq_true rfl) (isO.n g7 (hn.trans h3)) h (fun r8 h => ?_)
  refine x_astore (L' := [(6, vR r8), (5, vR r4), (0, vR (some o0)), (1, vI x1), (2, vI x2), (3, vI x3), (4, vI x4)]) C dX11_fits_18 (by decide) rfl ?_
  refine w_aload C dX11_fits_20 (mem_k 1 rfl) ?_
  refine w_ifnull (tgt := 30) C dX11_fits_22 (by decide) (fun q => ?_) (fun z9 q => ?_)
  · replace h := h.1 q
    refine w_iconst C dX11_fits_30 ⟨by decide, by decide⟩ ?_
    exact x_iret C hr dX11_fits_31 hn (hQ _ h)
  · replace h := h.2 z9 q
    refine w_aload C dX11_fits_25 (mem_k 0 rfl) ?_
    refine w_ifnonnull (tgt := 32) C dX11_fits_27 (by decide) (fun z10 q => ?_) (fun q => ?_)
    · replace h := h.1 z10 q
      refine w_iload_n C dX11_fits_32 rfl (mem_k 5 rfl) ?_
      refine w_iconst C dX11_fits_33 ⟨by decide, by decide⟩ ?_
      refine w_icmp_ne (tgt := 57) C dX11_fits_34 (by decide) (fun q => ?_) (fun q => ?_)
      · replace h := h.1 q
        refine w_iload_n C dX11_fits_57 rfl (mem_k 5 rfl) ?_
        refine w_iconst C dX11_fits_58 ⟨by decide, by decide⟩ ?_
        refine w_bipush C dX11_fits_59 (by decide) ?_
        refine cl_X11_isWithin (ck_X11_61 ⟨by decide, by decide⟩) C dX11_fits_61 hn h3 (Nat.le_of_ble_eq_true rfl) h (fun v11 h => ?_)
        refine w_if_eq (tgt := 78) C dX11_fits_64 (by decide) (fun q => ?_) (fun q => ?_)
        · replace h := h.1 q
          refine w_iconst C dX11_fits_78 ⟨by decide, by decide⟩ ?_
          exact x_iret C hr dX11_fits_79 hn (hQ _ h)
        · replace h := h.2 q
          refine w_iload C dX11_fits_67 (mem_k 6 rfl) ?_
          refine w_iconst C dX11_fits_69 ⟨by decide, by decide⟩ ?_
          refine w_bipush C dX11_fits_70 (by decide) ?_
          refine cl_X11_isWithin (ck_X11_61 ⟨by decide, by decide⟩) C dX11_fits_72 hn h3 (Nat.le_of_ble_eq_true rfl) h (fun v12 h => ?_)
          refine w_if_ne (tgt := 80) C dX11_fits_75 (by decide) (fun q => ?_) (fun q => ?_)
          · replace h := h.1 q
            refine w_aload_n C dX11_fits_80 rfl (mem_k 2 rfl) ?_
            refine x_getR C dX11_fits_81 fw_X11_29 (isO.n (ci := 11) ⟨rfl, ho0⟩ (hn.trans h3)) (fun r13 er13 => ?_)
            replace h := h r13 er13
            refine w_aload C dX11_fits_84 (mem_k 1 rfl) ?_
            refine w_aload C dX11_fits_86 (mem_k 0 rfl) ?_
            refine w_iload_n C dX11_fits_88 rfl (mem_k 5 rfl) ?_
            refine w_iload C dX11_fits_89 (mem_k 6 rfl) ?_
            obtain ⟨o14, g15, h⟩ := h
            refine cl_X1_fitsAt (ck_X11_162 ⟨by decide, by decide⟩) C dX11_fits_91 hn h3 (Nat.le_of_ble_eq_true rfl) (isO.n g15 (hn.trans h3)) h (fun v16 h => ?_)
            refine w_if_eq (tgt := 101) C dX11_fits_94 (by decide) (fun q => ?_) (fun q => ?_)
            · replace h := h.1 q
              refine w_iconst C dX11_fits_101 ⟨by decide, by decide⟩ ?_
              exact x_iret C hr dX11_fits_102 hn (hQ _ h)
            · replace h := h.2 q
              refine w_iconst C dX11_fits_97 ⟨by decide, by decide⟩ ?_
              refine w_goto (tgt := 102) C dX11_fits_98 (by decide) ?_
              exact x_iret C hr dX11_fits_102 hn (hQ _ h)
          · replace h := h.2 q
            refine w_iconst C dX11_fits_78 ⟨by decide, by decide⟩ ?_
            exact x_iret C hr dX11_fits_79 hn (hQ _ h)
      · replace h := h.2 q
        refine w_aload_n C dX11_fits_37 rfl (mem_k 2 rfl) ?_
        refine x_getR C dX11_fits_38 fw_X11_29 (isO.n (ci := 11) ⟨rfl, ho0⟩ (hn.trans h3)) (fun r17 er17 => ?_)
        replace h := h r17 er17
        refine w_aload C dX11_fits_41 (mem_k 1 rfl) ?_
        refine w_aload C dX11_fits_43 (mem_k 0 rfl) ?_
        obtain ⟨o18, g19, h⟩ := h
        refine cl_X1_fitsSomehow (ck_X11_158 ⟨by decide, by decide⟩) C dX11_fits_45 hn h3 (Nat.le_of_ble_eq_true rfl) (isO.n g19 (hn.trans h3)) h (fun v20 h => ?_)
        refine w_if_eq (tgt := 55) C dX11_fits_48 (by decide) (fun q => ?_) (fun q => ?_)
        · replace h := h.1 q
          refine w_iconst C dX11_fits_55 ⟨by decide, by decide⟩ ?_
          exact x_iret C hr dX11_fits_56 hn (hQ _ h)
        · replace h := h.2 q
          refine w_iconst C dX11_fits_51 ⟨by decide, by decide⟩ ?_
          refine w_goto (tgt := 56) C dX11_fits_52 (by decide) ?_
          exact x_iret C hr dX11_fits_56 hn (hQ _ h)
    · replace h := h.2 q
      refine w_iconst C dX11_fits_30 ⟨by decide, by decide⟩ ?_
      exact x_iret C hr dX11_fits_31 hn (hQ _ h)
set_option maxRecDepth 100000 in
set_option maxHeartbeats 4000000 in
theorem con_X11_fits (l : Launch) (D : va_G) (cy : Nat → ClassId) : Con l D cy yX11_fits cX11_fits 7 (some .int) ({ frames := 3, cells := 0, slots := 0, locals := 69 }) 0 0 SP_X11_fits := by
  refine con_of (by decide) (fun as M Qp h => ?_) ?_
  · obtain ⟨-, o0, x1, x2, x3, x4, rfl, -⟩ := h
    exact Nat.le_of_ble_eq_true rfl
  · intro p e s m args below meth c G as M Qp h C hr hnm
    obtain ⟨hn, o0, x1, x2, x3, x4, rfl, ho1, ho2, Q0, hQ, h⟩ := h
    refine x_pick (L' := [(0, vR (some o0)), (1, vI x1), (2, vI x2), (3, vI x3), (4, vI x4)]) [0, 1, 2, 3, 4] rfl ?_
    exact k_X11_fits_0 C hr hn rfl ⟨ho1, ho2⟩ hQ h
set_option maxRecDepth 100000 in
set_option maxHeartbeats 4000000 in
theorem cl_X11_fits {p : Program} {l : Launch} {e : Env} {R : Room} {s : State} {m : MethodId} {args : Array Value} {below : List Frame} {meth : Method} {c : Code} {Q : State → Prop} {cc : ByteArray} {nL : Nat} {own : String} {D : va_G} {cy : Nat → ClassId} {G : Nat × Nat} {n0 pc : Nat} {L : List (Nat × PV)} {st : List PV} {M : Mm} {op : Instr} (K : CallOK l D cy R own op 0 0 (spV 11 4 SP_X11_fits)) (C : Cx p s m args meth c cc nL own D cy G n0) (hd : decode cc pc = .ok (op, 3)) (hn : M.2.2.2 = n0) (h3 : n0 = 243) (hlen : argN st ≤ 8) {r : Option Nat} {o0 : Nat} (ho : isOn 11 M.2.2.2 r o0) {x1 : Int} {x2 : Int} {x3 : Int} {x4 : Int} {Q0 : Int → Prop} (h : P_X11_fits o0 x1 x2 x3 x4 M Q0) (k : ∀ x, Q0 x → WW p l e R s m args below meth c Q nL D cy G n0  (pc + 3) L (vI x :: st) M) : WW p l e R s m args below meth c Q nL D cy G n0  pc L (vI x4 :: vI x3 :: vI x2 :: vI x1 :: vR r :: st) M := by
  obtain ⟨rfl, ho1, ho2⟩ := ho
  refine x_call0 K C hd (as := [vR (some o0), vI x1, vI x2, vI x3, vI x4]) rfl hn hlen (fun v M2 => ∃ x, v = some (vI x) ∧ M2 = M ∧ Q0 x) ⟨⟨o0, [vI x1, vI x2, vI x3, vI x4], rfl, rfl, ho1, ho2⟩, hn.trans h3, o0, x1, x2, x3, x4, rfl, (hn.trans h3) ▸ ho1, ho2, Q0, fun x hx => ⟨x, rfl, rfl, hx⟩, h⟩ ?_
  rintro _ _ ⟨x, rfl, rfl, hx⟩ hm
  exact k x hx
end W_X11_fits
theorem dX11_share_0 : decode cX11_share 0 = .ok (.iload_n 1, 1) := by decide +kernel
theorem dX11_share_1 : decode cX11_share 1 = .ok (.iconst 0, 1) := by decide +kernel
theorem dX11_share_2 : decode cX11_share 2 = .ok (.iconst 1, 1) := by decide +kernel
theorem dX11_share_3 : decode cX11_share 3 = .ok (.aload_n 0, 1) := by decide +kernel
theorem dX11_share_4 : decode cX11_share 4 = .ok (.getfield 19, 3) := by decide +kernel
theorem dX11_share_7 : decode cX11_share 7 = .ok (.getfield 81, 3) := by decide +kernel
theorem dX11_share_10 : decode cX11_share 10 = .ok (.ishl, 1) := by decide +kernel
theorem dX11_share_11 : decode cX11_share 11 = .ok (.iconst 1, 1) := by decide +kernel
theorem dX11_share_12 : decode cX11_share 12 = .ok (.isub, 1) := by decide +kernel
theorem dX11_share_13 : decode cX11_share 13 = .ok (.invokestatic 61, 3) := by decide +kernel
theorem dX11_share_16 : decode cX11_share 16 = .ok (.ifCond .eq 12, 3) := by decide +kernel
theorem dX11_share_19 : decode cX11_share 19 = .ok (.iload_n 2, 1) := by decide +kernel
theorem dX11_share_20 : decode cX11_share 20 = .ok (.iconst 0, 1) := by decide +kernel
theorem dX11_share_21 : decode cX11_share 21 = .ok (.iconst 1, 1) := by decide +kernel
theorem dX11_share_22 : decode cX11_share 22 = .ok (.invokestatic 61, 3) := by decide +kernel
theorem dX11_share_25 : decode cX11_share 25 = .ok (.ifCond .ne 5, 3) := by decide +kernel
theorem dX11_share_28 : decode cX11_share 28 = .ok (.iconst (-1), 1) := by decide +kernel
theorem dX11_share_29 : decode cX11_share 29 = .ok (.ireturn, 1) := by decide +kernel
theorem dX11_share_30 : decode cX11_share 30 = .ok (.iload_n 2, 1) := by decide +kernel
theorem dX11_share_31 : decode cX11_share 31 = .ok (.iconst 1, 1) := by decide +kernel
theorem dX11_share_32 : decode cX11_share 32 = .ok (.if_icmp .ne 11, 3) := by decide +kernel
theorem dX11_share_35 : decode cX11_share 35 = .ok (.aload_n 0, 1) := by decide +kernel
theorem dX11_share_36 : decode cX11_share 36 = .ok (.getfield 29, 3) := by decide +kernel
theorem dX11_share_39 : decode cX11_share 39 = .ok (.invokevirtual 166, 3) := by decide +kernel
theorem dX11_share_42 : decode cX11_share 42 = .ok (.ireturn, 1) := by decide +kernel
theorem dX11_share_43 : decode cX11_share 43 = .ok (.aload_n 0, 1) := by decide +kernel
theorem dX11_share_44 : decode cX11_share 44 = .ok (.getfield 29, 3) := by decide +kernel
theorem dX11_share_47 : decode cX11_share 47 = .ok (.aload_n 0, 1) := by decide +kernel
theorem dX11_share_48 : decode cX11_share 48 = .ok (.getfield 19, 3) := by decide +kernel
theorem dX11_share_51 : decode cX11_share 51 = .ok (.invokevirtual 169, 3) := by decide +kernel
theorem dX11_share_54 : decode cX11_share 54 = .ok (.aload_n 0, 1) := by decide +kernel
theorem dX11_share_55 : decode cX11_share 55 = .ok (.getfield 29, 3) := by decide +kernel
theorem dX11_share_58 : decode cX11_share 58 = .ok (.iload_n 1, 1) := by decide +kernel
theorem dX11_share_59 : decode cX11_share 59 = .ok (.invokevirtual 173, 3) := by decide +kernel
theorem dX11_share_62 : decode cX11_share 62 = .ok (.ireturn, 1) := by decide +kernel
theorem ck_X11_169 {l : Launch} {D : va_G} {cy : Nat → ClassId} {R : Room} (hR : 4 ≤ R.frames ∧ 93 ≤ R.locals) : CallOK l D cy R RX11 (.invokevirtual 169) 0 0 (spV 1 1 SP_X1_noteWhoFits) := call_V (ci := 1) (con_X1_noteWhoFits l D cy) (lwG_3 (i := 77) rfl rfl) (lwG_3 (i := 78) rfl rfl) (lwG_3 (i := 79) rfl rfl) (lwG_1 (i := 7) rfl rfl) (lwG_3 (i := 80) rfl rfl) (by decide) ⟨rfl, by decide, by decide, rfl⟩ ⟨rfl, rfl⟩ hR
theorem ck_X11_173 {l : Launch} {D : va_G} {cy : Nat → ClassId} {R : Room} (hR : 2 ≤ R.frames ∧ 46 ≤ R.locals) : CallOK l D cy R RX11 (.invokevirtual 173) 0 0 (spV 1 1 SP_X1_peopleOfSet) := call_V (ci := 1) (con_X1_peopleOfSet l D cy) (lwG_3 (i := 82) rfl rfl) (lwG_3 (i := 83) rfl rfl) (lwG_3 (i := 84) rfl rfl) (lwG_1 (i := 7) rfl rfl) (lwG_3 (i := 85) rfl rfl) (by decide) ⟨rfl, by decide, by decide, rfl⟩ ⟨rfl, rfl⟩ hR
theorem ck_X11_166 {l : Launch} {D : va_G} {cy : Nat → ClassId} {R : Room} (hR : 2 ≤ R.frames ∧ 43 ≤ R.locals) : CallOK l D cy R RX11 (.invokevirtual 166) 0 0 (spV 1 0 SP_X1_people) := call_V (ci := 1) (con_X1_people l D cy) (lwG_3 (i := 69) rfl rfl) (lwG_3 (i := 70) rfl rfl) (lwG_3 (i := 71) rfl rfl) (lwG_1 (i := 7) rfl rfl) (lwG_3 (i := 72) rfl rfl) (by decide) ⟨rfl, by decide, by decide, rfl⟩ ⟨rfl, rfl⟩ hR
section W_X11_share
variable {p : Program} {l : Launch} {e : Env} {s : State} {m : MethodId} {args : Array Value} {below : List Frame} {meth : Method} {c : Code} {D : va_G} {cy : Nat → ClassId} {G : Nat × Nat} {n0 : Nat} {Qp : Option PV → Mm → Prop}
set_option maxRecDepth 100000 in
set_option maxHeartbeats 4000000 in
theorem k_X11_share_0 {o0 : Nat} {x1 : Int} {x2 : Int} {M : Mm} {Q : Int → Mm → Prop} (C : Cx p s m args meth c cX11_share 3 RX11 D cy G n0) (hr : meth.sig.returnType = some .int) (h3 : n0 = 243) (hn : M.2.2.2 = n0) (ho0 : o0 < 243 ∧ (SH o0).1 = 11) (hQ : ∀ x M, Q x M → Qp (some (vI x)) M) (h : P_X11_share o0 x1 x2 M Q ) : WW p l e ({ frames := 4, cells := 0, slots := 0, locals := 93 }) s m args below meth c (ZQ below args s D cy G n0 Qp n0) 3 D cy G n0 0 [(0, vR (some o0)), (1, vI x1), (2, vI x2)] [] M := by
  unfold P_X11_share at h
  refine w_iload_n C dX11_share_0 rfl (mem_k 1 rfl) ?_
  refine w_iconst C dX11_share_1 ⟨by decide, by decide⟩ ?_
  refine w_iconst C dX11_share_2 ⟨by decide, by decide⟩ ?_
  refine w_aload_n C dX11_share_3 rfl (mem_k 0 rfl) ?_
  refine x_getR C dX11_share_4 fw_X11_19 (isO.n (ci := 11) ⟨rfl, ho0⟩ (hn.trans h3)) (fun r1 er1 => ?_)
  replace h := h r1 er1
  obtain ⟨o2, g3, h⟩ := h
  refine x_getI C dX11_share_7 fw_X11_81 (isO.n g3 (hn.trans h3)) ?_
  refine w_ishl C dX11_share_10 ?_
  refine w_iconst C dX11_share_11 ⟨by decide, by decide⟩ ?_
  refine w_isub C dX11_share_12 h.1 ?_
  replace h := h.2
  refine cl_X11_isWithin (ck_X11_61 ⟨by decide, by decide⟩) C dX11_share_13 hn h3 (Nat.le_of_ble_eq_true rfl) h (fun v4 h => ?_)
  refine w_if_eq (tgt := 28) C dX11_share_16 (by decide) (fun q => ?_) (fun q => ?_)
  · replace h := h.1 q
    refine w_iconst C dX11_share_28 ⟨by decide, by decide⟩ ?_
    exact x_iret C hr dX11_share_29 hn (hQ _ M h)
  · replace h := h.2 q
    refine w_iload_n C dX11_share_19 rfl (mem_k 2 rfl) ?_
    refine w_iconst C dX11_share_20 ⟨by decide, by decide⟩ ?_
    refine w_iconst C dX11_share_21 ⟨by decide, by decide⟩ ?_
    refine cl_X11_isWithin (ck_X11_61 ⟨by decide, by decide⟩) C dX11_share_22 hn h3 (Nat.le_of_ble_eq_true rfl) h (fun v5 h => ?_)
    refine w_if_ne (tgt := 30) C dX11_share_25 (by decide) (fun q => ?_) (fun q => ?_)
    · replace h := h.1 q
      refine w_iload_n C dX11_share_30 rfl (mem_k 2 rfl) ?_
      refine w_iconst C dX11_share_31 ⟨by decide, by decide⟩ ?_
      refine w_icmp_ne (tgt := 43) C dX11_share_32 (by decide) (fun q => ?_) (fun q => ?_)
      · replace h := h.1 q
        refine w_aload_n C dX11_share_43 rfl (mem_k 0 rfl) ?_
        refine x_getR C dX11_share_44 fw_X11_29 (isO.n (ci := 11) ⟨rfl, ho0⟩ (hn.trans h3)) (fun r6 er6 => ?_)
        replace h := h r6 er6
        refine w_aload_n C dX11_share_47 rfl (mem_k 0 rfl) ?_
        refine x_getR C dX11_share_48 fw_X11_19 (isO.n (ci := 11) ⟨rfl, ho0⟩ (hn.trans h3)) (fun r7 er7 => ?_)
        replace h := h r7 er7
        obtain ⟨o8, g9, h⟩ := h
        refine cl_X1_noteWhoFits (ck_X11_169 ⟨by decide, by decide⟩) C dX11_share_51 hn h3 (Nat.le_of_ble_eq_true rfl) (isO.n g9 (hn.trans h3)) h (fun M10 h hn11 => ?_)
        refine w_aload_n C dX11_share_54 rfl (mem_k 0 rfl) ?_
        refine x_getR C dX11_share_55 fw_X11_29 (isO.n (ci := 11) ⟨rfl, ho0⟩ (hn11.trans h3)) (fun r12 er12 => ?_)
        replace h := h r12 er12
        refine w_iload_n C dX11_share_58 rfl (mem_k 1 rfl) ?_
        obtain ⟨o13, g14, h⟩ := h
        refine cl_X1_peopleOfSet (ck_X11_173 ⟨by decide, by decide⟩) C dX11_share_59 hn11 h3 (Nat.le_of_ble_eq_true rfl) (isO.n g14 (hn11.trans h3)) h (fun v15 h => ?_)
        exact x_iret C hr dX11_share_62 hn11 (hQ _ M10 h)
      · replace h := h.2 q
        refine w_aload_n C dX11_share_35 rfl (mem_k 0 rfl) ?_
        refine x_getR C dX11_share_36 fw_X11_29 (isO.n (ci := 11) ⟨rfl, ho0⟩ (hn.trans h3)) (fun r16 er16 => ?_)
        replace h := h r16 er16
        obtain ⟨o17, g18, h⟩ := h
        refine cl_X1_people (ck_X11_166 ⟨by decide, by decide⟩) C dX11_share_39 hn h3 (Nat.le_of_ble_eq_true rfl) (isO.n g18 (hn.trans h3)) h (fun v19 h => ?_)
        exact x_iret C hr dX11_share_42 hn (hQ _ M h)
    · replace h := h.2 q
      refine w_iconst C dX11_share_28 ⟨by decide, by decide⟩ ?_
      exact x_iret C hr dX11_share_29 hn (hQ _ M h)
set_option maxRecDepth 100000 in
set_option maxHeartbeats 4000000 in
theorem con_X11_share (l : Launch) (D : va_G) (cy : Nat → ClassId) : Con l D cy yX11_share cX11_share 3 (some .int) ({ frames := 4, cells := 0, slots := 0, locals := 93 }) 0 0 SP_X11_share := by
  refine con_of (by decide) (fun as M Qp h => ?_) ?_
  · obtain ⟨-, o0, x1, x2, rfl, -⟩ := h
    exact Nat.le_of_ble_eq_true rfl
  · intro p e s m args below meth c G as M Qp h C hr hnm
    obtain ⟨hn, o0, x1, x2, rfl, ho1, ho2, Q0, hQ, h⟩ := h
    refine x_pick (L' := [(0, vR (some o0)), (1, vI x1), (2, vI x2)]) [0, 1, 2] rfl ?_
    exact k_X11_share_0 C hr hn rfl ⟨ho1, ho2⟩ hQ h
set_option maxRecDepth 100000 in
set_option maxHeartbeats 4000000 in
theorem cl_X11_share {p : Program} {l : Launch} {e : Env} {R : Room} {s : State} {m : MethodId} {args : Array Value} {below : List Frame} {meth : Method} {c : Code} {Q : State → Prop} {cc : ByteArray} {nL : Nat} {own : String} {D : va_G} {cy : Nat → ClassId} {G : Nat × Nat} {n0 pc : Nat} {L : List (Nat × PV)} {st : List PV} {M : Mm} {op : Instr} (K : CallOK l D cy R own op 0 0 (spV 11 2 SP_X11_share)) (C : Cx p s m args meth c cc nL own D cy G n0) (hd : decode cc pc = .ok (op, 3)) (hn : M.2.2.2 = n0) (h3 : n0 = 243) (hlen : argN st ≤ 8) {r : Option Nat} {o0 : Nat} (ho : isOn 11 M.2.2.2 r o0) {x1 : Int} {x2 : Int} {Q0 : Int → Mm → Prop} (h : P_X11_share o0 x1 x2 M Q0) (k : ∀ x M2, Q0 x M2 → M2.2.2.2 = n0 → WW p l e R s m args below meth c Q nL D cy G n0  (pc + 3) L (vI x :: st) M2) : WW p l e R s m args below meth c Q nL D cy G n0  pc L (vI x2 :: vI x1 :: vR r :: st) M := by
  obtain ⟨rfl, ho1, ho2⟩ := ho
  refine x_call0 K C hd (as := [vR (some o0), vI x1, vI x2]) rfl hn hlen (fun v M2 => ∃ x, v = some (vI x) ∧ Q0 x M2) ⟨⟨o0, [vI x1, vI x2], rfl, rfl, ho1, ho2⟩, hn.trans h3, o0, x1, x2, rfl, (hn.trans h3) ▸ ho1, ho2, Q0, fun x M2 hx => ⟨x, rfl, hx⟩, h⟩ ?_
  rintro _ _ ⟨x, rfl, hx⟩ hm
  exact k x _ hx hm
end W_X11_share
theorem dX11_setting_0 : decode cX11_setting 0 = .ok (.aload_n 0, 1) := by decide +kernel
theorem dX11_setting_1 : decode cX11_setting 1 = .ok (.getfield 19, 3) := by decide +kernel
theorem dX11_setting_4 : decode cX11_setting 4 = .ok (.iload_n 1, 1) := by decide +kernel
theorem dX11_setting_5 : decode cX11_setting 5 = .ok (.invokevirtual 154, 3) := by decide +kernel
theorem dX11_setting_8 : decode cX11_setting 8 = .ok (.astore_n 3, 1) := by decide +kernel
theorem dX11_setting_9 : decode cX11_setting 9 = .ok (.aload_n 3, 1) := by decide +kernel
theorem dX11_setting_10 : decode cX11_setting 10 = .ok (.ifnull 12, 3) := by decide +kernel
theorem dX11_setting_13 : decode cX11_setting 13 = .ok (.iload_n 2, 1) := by decide +kernel
theorem dX11_setting_14 : decode cX11_setting 14 = .ok (.iconst 0, 1) := by decide +kernel
theorem dX11_setting_15 : decode cX11_setting 15 = .ok (.iconst 1, 1) := by decide +kernel
theorem dX11_setting_16 : decode cX11_setting 16 = .ok (.invokestatic 61, 3) := by decide +kernel
theorem dX11_setting_19 : decode cX11_setting 19 = .ok (.ifCond .ne 5, 3) := by decide +kernel
theorem dX11_setting_22 : decode cX11_setting 22 = .ok (.iconst (-1), 1) := by decide +kernel
theorem dX11_setting_23 : decode cX11_setting 23 = .ok (.ireturn, 1) := by decide +kernel
theorem dX11_setting_24 : decode cX11_setting 24 = .ok (.aload_n 0, 1) := by decide +kernel
theorem dX11_setting_25 : decode cX11_setting 25 = .ok (.getfield 29, 3) := by decide +kernel
theorem dX11_setting_28 : decode cX11_setting 28 = .ok (.aload_n 3, 1) := by decide +kernel
theorem dX11_setting_29 : decode cX11_setting 29 = .ok (.invokevirtual 176, 3) := by decide +kernel
theorem dX11_setting_32 : decode cX11_setting 32 = .ok (.istore 4, 2) := by decide +kernel
theorem dX11_setting_34 : decode cX11_setting 34 = .ok (.iload_n 2, 1) := by decide +kernel
theorem dX11_setting_35 : decode cX11_setting 35 = .ok (.ifCond .ne 8, 3) := by decide +kernel
theorem dX11_setting_38 : decode cX11_setting 38 = .ok (.iload 4, 2) := by decide +kernel
theorem dX11_setting_40 : decode cX11_setting 40 = .ok (.goto 21, 3) := by decide +kernel
theorem dX11_setting_43 : decode cX11_setting 43 = .ok (.aload_n 0, 1) := by decide +kernel
theorem dX11_setting_44 : decode cX11_setting 44 = .ok (.getfield 29, 3) := by decide +kernel
theorem dX11_setting_47 : decode cX11_setting 47 = .ok (.aload_n 3, 1) := by decide +kernel
theorem dX11_setting_48 : decode cX11_setting 48 = .ok (.iload 4, 2) := by decide +kernel
theorem dX11_setting_50 : decode cX11_setting 50 = .ok (.bipush 10, 2) := by decide +kernel
theorem dX11_setting_52 : decode cX11_setting 52 = .ok (.idiv, 1) := by decide +kernel
theorem dX11_setting_53 : decode cX11_setting 53 = .ok (.iload 4, 2) := by decide +kernel
theorem dX11_setting_55 : decode cX11_setting 55 = .ok (.bipush 10, 2) := by decide +kernel
theorem dX11_setting_57 : decode cX11_setting 57 = .ok (.irem, 1) := by decide +kernel
theorem dX11_setting_58 : decode cX11_setting 58 = .ok (.invokevirtual 180, 3) := by decide +kernel
theorem dX11_setting_61 : decode cX11_setting 61 = .ok (.ireturn, 1) := by decide +kernel
theorem ck_X11_176 {l : Launch} {D : va_G} {cy : Nat → ClassId} {R : Room} (hR : 4 ≤ R.frames ∧ 96 ≤ R.locals) : CallOK l D cy R RX11 (.invokevirtual 176) 0 0 (spV 1 1 SP_X1_bestSetting) := call_V (ci := 1) (con_X1_bestSetting l D cy) (lwG_3 (i := 90) rfl rfl) (lwG_3 (i := 91) rfl rfl) (lwG_3 (i := 92) rfl rfl) (lwG_1 (i := 7) rfl rfl) (lwG_3 (i := 93) rfl rfl) (by decide) ⟨rfl, by decide, by decide, rfl⟩ ⟨rfl, rfl⟩ hR
theorem ck_X11_180 {l : Launch} {D : va_G} {cy : Nat → ClassId} {R : Room} (hR : 3 ≤ R.frames ∧ 71 ≤ R.locals) : CallOK l D cy R RX11 (.invokevirtual 180) 0 0 (spV 1 3 SP_X1_peopleAt) := call_V (ci := 1) (con_X1_peopleAt l D cy) (lwG_3 (i := 98) rfl rfl) (lwG_3 (i := 95) rfl rfl) (lwG_3 (i := 96) rfl rfl) (lwG_1 (i := 7) rfl rfl) (lwG_3 (i := 97) rfl rfl) (by decide) ⟨rfl, by decide, by decide, rfl⟩ ⟨rfl, rfl⟩ hR
section W_X11_setting
variable {p : Program} {l : Launch} {e : Env} {s : State} {m : MethodId} {args : Array Value} {below : List Frame} {meth : Method} {c : Code} {D : va_G} {cy : Nat → ClassId} {G : Nat × Nat} {n0 : Nat} {Qp : Option PV → Mm → Prop}
set_option maxRecDepth 100000 in
set_option maxHeartbeats 4000000 in
theorem k_X11_setting_0 {o0 : Nat} {x1 : Int} {x2 : Int} {M : Mm} {Q : Int → Prop} (C : Cx p s m args meth c cX11_setting 5 RX11 D cy G n0) (hr : meth.sig.returnType = some .int) (h3 : n0 = 243) (hn : M.2.2.2 = n0) (ho0 : o0 < 243 ∧ (SH o0).1 = 11) (hQ : ∀ x, Q x → Qp (some (vI x)) M) (h : P_X11_setting o0 x1 x2 M Q ) : WW p l e ({ frames := 4, cells := 0, slots := 0, locals := 96 }) s m args below meth c (ZQ below args s D cy G n0 Qp n0) 5 D cy G n0 0 [(0, vR (some o0)), (1, vI x1), (2, vI x2)] [] M := by
  unfold P_X11_setting at h
  refine w_aload_n C dX11_setting_0 rfl (mem_k 0 rfl) ?_
  refine x_getR C dX11_setting_1 fw_X11_19 (isO.n (ci := 11) ⟨rfl, ho0⟩ (hn.trans h3)) (fun r1 er1 => ?_)
  replace h := h r1 er1
  refine w_iload_n C dX11_setting_4 rfl (mem_k 1 rfl) ?_
  obtain ⟨o2, g3, h⟩ := h
  refine cl_X5_seatAt (ck_X11_154 ⟨by decide, by decide⟩) C dX11_setting_5 hn h3 (Nat.le_of_ble_eq_true rfl) (isO.n g3 (hn.trans h3)) h (fun r4 h => ?_)
  refine x_astore_n (L' := [(3, vR r4), (0, vR (some o0)), (1, vI x1), (2, vI x2)]) C dX11_setting_8 rfl (by decide) rfl ?_
  refine w_aload_n C dX11_setting_9 rfl (mem_k 0 rfl) ?_
  refine w_ifnull (tgt := 22) C dX11_setting_10 (by decide) (fun q => ?_) (fun z5 q => ?_)
  · replace h := h.1 q
    refine w_iconst C dX11_setting_22 ⟨by decide, by decide⟩ ?_
    exact x_iret C hr dX11_setting_23 hn (hQ _ h)
  · replace h := h.2 z5 q
    refine w_iload_n C dX11_setting_13 rfl (mem_k 3 rfl) ?_
    refine w_iconst C dX11_setting_14 ⟨by decide, by decide⟩ ?_
    refine w_iconst C dX11_setting_15 ⟨by decide, by decide⟩ ?_
    refine cl_X11_isWithin (ck_X11_61 ⟨by decide, by decide⟩) C dX11_setting_16 hn h3 (Nat.le_of_ble_eq_true rfl) h (fun v6 h => ?_)
    refine w_if_ne (tgt := 24) C dX11_setting_19 (by decide) (fun q => ?_) (fun q => ?_)
    · replace h := h.1 q
      refine w_aload_n C dX11_setting_24 rfl (mem_k 1 rfl) ?_
      refine x_getR C dX11_setting_25 fw_X11_29 (isO.n (ci := 11) ⟨rfl, ho0⟩ (hn.trans h3)) (fun r7 er7 => ?_)
      replace h := h r7 er7
      refine w_aload_n C dX11_setting_28 rfl (mem_k 0 rfl) ?_
      obtain ⟨o8, g9, h⟩ := h
      refine cl_X1_bestSetting (ck_X11_176 ⟨by decide, by decide⟩) C dX11_setting_29 hn h3 (Nat.le_of_ble_eq_true rfl) (isO.n g9 (hn.trans h3)) h (fun v10 h => ?_)
      refine x_istore (L' := [(4, vI v10), (3, vR r4), (0, vR (some o0)), (1, vI x1), (2, vI x2)]) C dX11_setting_32 (by decide) rfl ?_
      refine w_iload_n C dX11_setting_34 rfl (mem_k 4 rfl) ?_
      refine w_if_ne (tgt := 43) C dX11_setting_35 (by decide) (fun q => ?_) (fun q => ?_)
      · replace h := h.1 q
        refine w_aload_n C dX11_setting_43 rfl (mem_k 2 rfl) ?_
        refine x_getR C dX11_setting_44 fw_X11_29 (isO.n (ci := 11) ⟨rfl, ho0⟩ (hn.trans h3)) (fun r11 er11 => ?_)
        replace h := h r11 er11
        refine w_aload_n C dX11_setting_47 rfl (mem_k 1 rfl) ?_
        refine w_iload C dX11_setting_48 (mem_k 0 rfl) ?_
        refine w_bipush C dX11_setting_50 (by decide) ?_
        refine x_idiv C dX11_setting_52 (by decide) ?_
        refine w_iload C dX11_setting_53 (mem_k 0 rfl) ?_
        refine w_bipush C dX11_setting_55 (by decide) ?_
        refine x_irem C dX11_setting_57 (by decide) ?_
        obtain ⟨o12, g13, h⟩ := h
        refine cl_X1_peopleAt (ck_X11_180 ⟨by decide, by decide⟩) C dX11_setting_58 hn h3 (Nat.le_of_ble_eq_true rfl) (isO.n g13 (hn.trans h3)) h (fun v14 h => ?_)
        exact x_iret C hr dX11_setting_61 hn (hQ _ h)
      · replace h := h.2 q
        refine w_iload C dX11_setting_38 (mem_k 0 rfl) ?_
        refine w_goto (tgt := 61) C dX11_setting_40 (by decide) ?_
        exact x_iret C hr dX11_setting_61 hn (hQ _ h)
    · replace h := h.2 q
      refine w_iconst C dX11_setting_22 ⟨by decide, by decide⟩ ?_
      exact x_iret C hr dX11_setting_23 hn (hQ _ h)
set_option maxRecDepth 100000 in
set_option maxHeartbeats 4000000 in
theorem con_X11_setting (l : Launch) (D : va_G) (cy : Nat → ClassId) : Con l D cy yX11_setting cX11_setting 5 (some .int) ({ frames := 4, cells := 0, slots := 0, locals := 96 }) 0 0 SP_X11_setting := by
  refine con_of (by decide) (fun as M Qp h => ?_) ?_
  · obtain ⟨-, o0, x1, x2, rfl, -⟩ := h
    exact Nat.le_of_ble_eq_true rfl
  · intro p e s m args below meth c G as M Qp h C hr hnm
    obtain ⟨hn, o0, x1, x2, rfl, ho1, ho2, Q0, hQ, h⟩ := h
    refine x_pick (L' := [(0, vR (some o0)), (1, vI x1), (2, vI x2)]) [0, 1, 2] rfl ?_
    exact k_X11_setting_0 C hr hn rfl ⟨ho1, ho2⟩ hQ h
set_option maxRecDepth 100000 in
set_option maxHeartbeats 4000000 in
theorem cl_X11_setting {p : Program} {l : Launch} {e : Env} {R : Room} {s : State} {m : MethodId} {args : Array Value} {below : List Frame} {meth : Method} {c : Code} {Q : State → Prop} {cc : ByteArray} {nL : Nat} {own : String} {D : va_G} {cy : Nat → ClassId} {G : Nat × Nat} {n0 pc : Nat} {L : List (Nat × PV)} {st : List PV} {M : Mm} {op : Instr} (K : CallOK l D cy R own op 0 0 (spV 11 2 SP_X11_setting)) (C : Cx p s m args meth c cc nL own D cy G n0) (hd : decode cc pc = .ok (op, 3)) (hn : M.2.2.2 = n0) (h3 : n0 = 243) (hlen : argN st ≤ 8) {r : Option Nat} {o0 : Nat} (ho : isOn 11 M.2.2.2 r o0) {x1 : Int} {x2 : Int} {Q0 : Int → Prop} (h : P_X11_setting o0 x1 x2 M Q0) (k : ∀ x, Q0 x → WW p l e R s m args below meth c Q nL D cy G n0  (pc + 3) L (vI x :: st) M) : WW p l e R s m args below meth c Q nL D cy G n0  pc L (vI x2 :: vI x1 :: vR r :: st) M := by
  obtain ⟨rfl, ho1, ho2⟩ := ho
  refine x_call0 K C hd (as := [vR (some o0), vI x1, vI x2]) rfl hn hlen (fun v M2 => ∃ x, v = some (vI x) ∧ M2 = M ∧ Q0 x) ⟨⟨o0, [vI x1, vI x2], rfl, rfl, ho1, ho2⟩, hn.trans h3, o0, x1, x2, rfl, (hn.trans h3) ▸ ho1, ho2, Q0, fun x hx => ⟨x, rfl, rfl, hx⟩, h⟩ ?_
  rintro _ _ ⟨x, rfl, rfl, hx⟩ hm
  exact k x hx
end W_X11_setting
theorem dX11_fewest_0 : decode cX11_fewest 0 = .ok (.iload_n 1, 1) := by decide +kernel
theorem dX11_fewest_1 : decode cX11_fewest 1 = .ok (.iconst 1, 1) := by decide +kernel
theorem dX11_fewest_2 : decode cX11_fewest 2 = .ok (.sipush 1000, 3) := by decide +kernel
theorem dX11_fewest_5 : decode cX11_fewest 5 = .ok (.invokestatic 61, 3) := by decide +kernel
theorem dX11_fewest_8 : decode cX11_fewest 8 = .ok (.ifCond .ne 5, 3) := by decide +kernel
theorem dX11_fewest_11 : decode cX11_fewest 11 = .ok (.iconst (-1), 1) := by decide +kernel
theorem dX11_fewest_12 : decode cX11_fewest 12 = .ok (.ireturn, 1) := by decide +kernel
theorem dX11_fewest_13 : decode cX11_fewest 13 = .ok (.aload_n 0, 1) := by decide +kernel
theorem dX11_fewest_14 : decode cX11_fewest 14 = .ok (.getfield 29, 3) := by decide +kernel
theorem dX11_fewest_17 : decode cX11_fewest 17 = .ok (.aload_n 0, 1) := by decide +kernel
theorem dX11_fewest_18 : decode cX11_fewest 18 = .ok (.getfield 19, 3) := by decide +kernel
theorem dX11_fewest_21 : decode cX11_fewest 21 = .ok (.invokevirtual 169, 3) := by decide +kernel
theorem dX11_fewest_24 : decode cX11_fewest 24 = .ok (.aload_n 0, 1) := by decide +kernel
theorem dX11_fewest_25 : decode cX11_fewest 25 = .ok (.getfield 29, 3) := by decide +kernel
theorem dX11_fewest_28 : decode cX11_fewest 28 = .ok (.aload_n 0, 1) := by decide +kernel
theorem dX11_fewest_29 : decode cX11_fewest 29 = .ok (.getfield 19, 3) := by decide +kernel
theorem dX11_fewest_32 : decode cX11_fewest 32 = .ok (.getfield 81, 3) := by decide +kernel
theorem dX11_fewest_35 : decode cX11_fewest 35 = .ok (.iload_n 1, 1) := by decide +kernel
theorem dX11_fewest_36 : decode cX11_fewest 36 = .ok (.invokevirtual 184, 3) := by decide +kernel
theorem dX11_fewest_39 : decode cX11_fewest 39 = .ok (.ireturn, 1) := by decide +kernel
theorem ck_X11_184 {l : Launch} {D : va_G} {cy : Nat → ClassId} {R : Room} (hR : 3 ≤ R.frames ∧ 72 ≤ R.locals) : CallOK l D cy R RX11 (.invokevirtual 184) 0 0 (spV 1 2 SP_X1_fewestSeats) := call_V (ci := 1) (con_X1_fewestSeats l D cy) (lwG_3 (i := 103) rfl rfl) (lwG_3 (i := 104) rfl rfl) (lwG_3 (i := 105) rfl rfl) (lwG_1 (i := 7) rfl rfl) (lwG_3 (i := 106) rfl rfl) (by decide) ⟨rfl, by decide, by decide, rfl⟩ ⟨rfl, rfl⟩ hR
section W_X11_fewest
variable {p : Program} {l : Launch} {e : Env} {s : State} {m : MethodId} {args : Array Value} {below : List Frame} {meth : Method} {c : Code} {D : va_G} {cy : Nat → ClassId} {G : Nat × Nat} {n0 : Nat} {Qp : Option PV → Mm → Prop}
set_option maxRecDepth 100000 in
set_option maxHeartbeats 4000000 in
theorem k_X11_fewest_0 {o0 : Nat} {x1 : Int} {M : Mm} {Q : Int → Mm → Prop} (C : Cx p s m args meth c cX11_fewest 2 RX11 D cy G n0) (hr : meth.sig.returnType = some .int) (h3 : n0 = 243) (hn : M.2.2.2 = n0) (ho0 : o0 < 243 ∧ (SH o0).1 = 11) (hQ : ∀ x M, Q x M → Qp (some (vI x)) M) (h : P_X11_fewest o0 x1 M Q ) : WW p l e ({ frames := 4, cells := 0, slots := 0, locals := 93 }) s m args below meth c (ZQ below args s D cy G n0 Qp n0) 2 D cy G n0 0 [(0, vR (some o0)), (1, vI x1)] [] M := by
  unfold P_X11_fewest at h
  refine w_iload_n C dX11_fewest_0 rfl (mem_k 1 rfl) ?_
  refine w_iconst C dX11_fewest_1 ⟨by decide, by decide⟩ ?_
  refine w_sipush C dX11_fewest_2 (by decide) ?_
  refine cl_X11_isWithin (ck_X11_61 ⟨by decide, by decide⟩) C dX11_fewest_5 hn h3 (Nat.le_of_ble_eq_true rfl) h (fun v1 h => ?_)
  refine w_if_ne (tgt := 13) C dX11_fewest_8 (by decide) (fun q => ?_) (fun q => ?_)
  · replace h := h.1 q
    refine w_aload_n C dX11_fewest_13 rfl (mem_k 0 rfl) ?_
    refine x_getR C dX11_fewest_14 fw_X11_29 (isO.n (ci := 11) ⟨rfl, ho0⟩ (hn.trans h3)) (fun r2 er2 => ?_)
    replace h := h r2 er2
    refine w_aload_n C dX11_fewest_17 rfl (mem_k 0 rfl) ?_
    refine x_getR C dX11_fewest_18 fw_X11_19 (isO.n (ci := 11) ⟨rfl, ho0⟩ (hn.trans h3)) (fun r3 er3 => ?_)
    replace h := h r3 er3
    obtain ⟨o4, g5, h⟩ := h
    refine cl_X1_noteWhoFits (ck_X11_169 ⟨by decide, by decide⟩) C dX11_fewest_21 hn h3 (Nat.le_of_ble_eq_true rfl) (isO.n g5 (hn.trans h3)) h (fun M6 h hn7 => ?_)
    refine w_aload_n C dX11_fewest_24 rfl (mem_k 0 rfl) ?_
    refine x_getR C dX11_fewest_25 fw_X11_29 (isO.n (ci := 11) ⟨rfl, ho0⟩ (hn7.trans h3)) (fun r8 er8 => ?_)
    replace h := h r8 er8
    refine w_aload_n C dX11_fewest_28 rfl (mem_k 0 rfl) ?_
    refine x_getR C dX11_fewest_29 fw_X11_19 (isO.n (ci := 11) ⟨rfl, ho0⟩ (hn7.trans h3)) (fun r9 er9 => ?_)
    replace h := h r9 er9
    obtain ⟨o10, g11, h⟩ := h
    refine x_getI C dX11_fewest_32 fw_X11_81 (isO.n g11 (hn7.trans h3)) ?_
    refine w_iload_n C dX11_fewest_35 rfl (mem_k 1 rfl) ?_
    obtain ⟨o12, g13, h⟩ := h
    refine cl_X1_fewestSeats (ck_X11_184 ⟨by decide, by decide⟩) C dX11_fewest_36 hn7 h3 (Nat.le_of_ble_eq_true rfl) (isO.n g13 (hn7.trans h3)) h (fun v14 h => ?_)
    exact x_iret C hr dX11_fewest_39 hn7 (hQ _ M6 h)
  · replace h := h.2 q
    refine w_iconst C dX11_fewest_11 ⟨by decide, by decide⟩ ?_
    exact x_iret C hr dX11_fewest_12 hn (hQ _ M h)
set_option maxRecDepth 100000 in
set_option maxHeartbeats 4000000 in
theorem con_X11_fewest (l : Launch) (D : va_G) (cy : Nat → ClassId) : Con l D cy yX11_fewest cX11_fewest 2 (some .int) ({ frames := 4, cells := 0, slots := 0, locals := 93 }) 0 0 SP_X11_fewest := by
  refine con_of (by decide) (fun as M Qp h => ?_) ?_
  · obtain ⟨-, o0, x1, rfl, -⟩ := h
    exact Nat.le_of_ble_eq_true rfl
  · intro p e s m args below meth c G as M Qp h C hr hnm
    obtain ⟨hn, o0, x1, rfl, ho1, ho2, Q0, hQ, h⟩ := h
    refine x_pick (L' := [(0, vR (some o0)), (1, vI x1)]) [0, 1] rfl ?_
    exact k_X11_fewest_0 C hr hn rfl ⟨ho1, ho2⟩ hQ h
set_option maxRecDepth 100000 in
set_option maxHeartbeats 4000000 in
theorem cl_X11_fewest {p : Program} {l : Launch} {e : Env} {R : Room} {s : State} {m : MethodId} {args : Array Value} {below : List Frame} {meth : Method} {c : Code} {Q : State → Prop} {cc : ByteArray} {nL : Nat} {own : String} {D : va_G} {cy : Nat → ClassId} {G : Nat × Nat} {n0 pc : Nat} {L : List (Nat × PV)} {st : List PV} {M : Mm} {op : Instr} (K : CallOK l D cy R own op 0 0 (spV 11 1 SP_X11_fewest)) (C : Cx p s m args meth c cc nL own D cy G n0) (hd : decode cc pc = .ok (op, 3)) (hn : M.2.2.2 = n0) (h3 : n0 = 243) (hlen : argN st ≤ 8) {r : Option Nat} {o0 : Nat} (ho : isOn 11 M.2.2.2 r o0) {x1 : Int} {Q0 : Int → Mm → Prop} (h : P_X11_fewest o0 x1 M Q0) (k : ∀ x M2, Q0 x M2 → M2.2.2.2 = n0 → WW p l e R s m args below meth c Q nL D cy G n0  (pc + 3) L (vI x :: st) M2) : WW p l e R s m args below meth c Q nL D cy G n0  pc L (vI x1 :: vR r :: st) M := by
  obtain ⟨rfl, ho1, ho2⟩ := ho
  refine x_call0 K C hd (as := [vR (some o0), vI x1]) rfl hn hlen (fun v M2 => ∃ x, v = some (vI x) ∧ Q0 x M2) ⟨⟨o0, [vI x1], rfl, rfl, ho1, ho2⟩, hn.trans h3, o0, x1, rfl, (hn.trans h3) ▸ ho1, ho2, Q0, fun x M2 hx => ⟨x, rfl, hx⟩, h⟩ ?_
  rintro _ _ ⟨x, rfl, hx⟩ hm
  exact k x _ hx hm
end W_X11_fewest
theorem dX11_law_0 : decode cX11_law 0 = .ok (.iload_n 1, 1) := by decide +kernel
theorem dX11_law_1 : decode cX11_law 1 = .ok (.iconst 0, 1) := by decide +kernel
theorem dX11_law_2 : decode cX11_law 2 = .ok (.iconst 1, 1) := by decide +kernel
theorem dX11_law_3 : decode cX11_law 3 = .ok (.invokestatic 61, 3) := by decide +kernel
theorem dX11_law_6 : decode cX11_law 6 = .ok (.ifCond .eq 24, 3) := by decide +kernel
theorem dX11_law_9 : decode cX11_law 9 = .ok (.iload_n 2, 1) := by decide +kernel
theorem dX11_law_10 : decode cX11_law 10 = .ok (.iconst 0, 1) := by decide +kernel
theorem dX11_law_11 : decode cX11_law 11 = .ok (.iload_n 1, 1) := by decide +kernel
theorem dX11_law_12 : decode cX11_law 12 = .ok (.ifCond .ne 9, 3) := by decide +kernel
theorem dX11_law_15 : decode cX11_law 15 = .ok (.sipush 20000, 3) := by decide +kernel
theorem dX11_law_18 : decode cX11_law 18 = .ok (.goto 6, 3) := by decide +kernel
theorem dX11_law_21 : decode cX11_law 21 = .ok (.sipush 1000, 3) := by decide +kernel
theorem dX11_law_24 : decode cX11_law 24 = .ok (.invokestatic 61, 3) := by decide +kernel
theorem dX11_law_27 : decode cX11_law 27 = .ok (.ifCond .ne 5, 3) := by decide +kernel
theorem dX11_law_30 : decode cX11_law 30 = .ok (.iconst (-1), 1) := by decide +kernel
theorem dX11_law_31 : decode cX11_law 31 = .ok (.ireturn, 1) := by decide +kernel
theorem dX11_law_32 : decode cX11_law 32 = .ok (.iload_n 1, 1) := by decide +kernel
theorem dX11_law_33 : decode cX11_law 33 = .ok (.ifCond .ne 13, 3) := by decide +kernel
theorem dX11_law_36 : decode cX11_law 36 = .ok (.aload_n 0, 1) := by decide +kernel
theorem dX11_law_37 : decode cX11_law 37 = .ok (.getfield 43, 3) := by decide +kernel
theorem dX11_law_40 : decode cX11_law 40 = .ok (.getfield 187, 3) := by decide +kernel
theorem dX11_law_43 : decode cX11_law 43 = .ok (.goto 10, 3) := by decide +kernel
theorem dX11_law_46 : decode cX11_law 46 = .ok (.aload_n 0, 1) := by decide +kernel
theorem dX11_law_47 : decode cX11_law 47 = .ok (.getfield 43, 3) := by decide +kernel
theorem dX11_law_50 : decode cX11_law 50 = .ok (.getfield 190, 3) := by decide +kernel
theorem dX11_law_53 : decode cX11_law 53 = .ok (.istore_n 3, 1) := by decide +kernel
theorem dX11_law_54 : decode cX11_law 54 = .ok (.iload_n 1, 1) := by decide +kernel
theorem dX11_law_55 : decode cX11_law 55 = .ok (.ifCond .ne 14, 3) := by decide +kernel
theorem dX11_law_58 : decode cX11_law 58 = .ok (.aload_n 0, 1) := by decide +kernel
theorem dX11_law_59 : decode cX11_law 59 = .ok (.getfield 43, 3) := by decide +kernel
theorem dX11_law_62 : decode cX11_law 62 = .ok (.iload_n 2, 1) := by decide +kernel
theorem dX11_law_63 : decode cX11_law 63 = .ok (.putfield 187, 3) := by decide +kernel
theorem dX11_law_66 : decode cX11_law 66 = .ok (.goto 11, 3) := by decide +kernel
theorem dX11_law_69 : decode cX11_law 69 = .ok (.aload_n 0, 1) := by decide +kernel
theorem dX11_law_70 : decode cX11_law 70 = .ok (.getfield 43, 3) := by decide +kernel
theorem dX11_law_73 : decode cX11_law 73 = .ok (.iload_n 2, 1) := by decide +kernel
theorem dX11_law_74 : decode cX11_law 74 = .ok (.putfield 190, 3) := by decide +kernel
theorem dX11_law_77 : decode cX11_law 77 = .ok (.iload_n 3, 1) := by decide +kernel
theorem dX11_law_78 : decode cX11_law 78 = .ok (.ireturn, 1) := by decide +kernel
theorem fw_X11_43 : fR RX11 43 11 5 := ⟨⟨lwG_2 (i := 67) rfl rfl, by decide, by decide⟩, fun _ _ => rfl, fun r => ⟨r, rfl⟩⟩
theorem fw_X11_190 : fI RX11 190 2 1 := ⟨⟨lwG_2 (i := 18) rfl rfl, by decide, by decide⟩, rfl⟩
theorem fw_X11_187 : fI RX11 187 2 0 := ⟨⟨lwG_2 (i := 16) rfl rfl, by decide, by decide⟩, rfl⟩
section W_X11_law
variable {p : Program} {l : Launch} {e : Env} {s : State} {m : MethodId} {args : Array Value} {below : List Frame} {meth : Method} {c : Code} {D : va_G} {cy : Nat → ClassId} {G : Nat × Nat} {n0 : Nat} {Qp : Option PV → Mm → Prop}
set_option maxRecDepth 100000 in
set_option maxHeartbeats 4000000 in
theorem k_X11_law_53 {o0 : Nat} {x1 : Int} {x2 : Int} {s0 : Int} {M : Mm} {Q : Int → Mm → Prop} (C : Cx p s m args meth c cX11_law 4 RX11 D cy G n0) (hr : meth.sig.returnType = some .int) (h3 : n0 = 243) (hn : M.2.2.2 = n0) (ho0 : o0 < 243 ∧ (SH o0).1 = 11) (hQ : ∀ x M, Q x M → Qp (some (vI x)) M) (h : P_X11_law_53 o0 x1 x2 s0 M Q ) : WW p l e ({ frames := 1, cells := 0, slots := 0, locals := 22 }) s m args below meth c (ZQ below args s D cy G n0 Qp n0) 4 D cy G n0 53 [(0, vR (some o0)), (1, vI x1), (2, vI x2)] [vI s0] M := by
  unfold P_X11_law_53 at h
  refine x_istore_n (L' := [(3, vI s0), (0, vR (some o0)), (1, vI x1), (2, vI x2)]) C dX11_law_53 rfl (by decide) rfl ?_
  refine w_iload_n C dX11_law_54 rfl (mem_k 2 rfl) ?_
  refine w_if_ne (tgt := 69) C dX11_law_55 (by decide) (fun q => ?_) (fun q => ?_)
  · replace h := h.1 q
    refine w_aload_n C dX11_law_69 rfl (mem_k 1 rfl) ?_
    refine x_getR C dX11_law_70 fw_X11_43 (isO.n (ci := 11) ⟨rfl, ho0⟩ (hn.trans h3)) (fun r1 er1 => ?_)
    replace h := h r1 er1
    refine w_iload_n C dX11_law_73 rfl (mem_k 3 rfl) ?_
    obtain ⟨o2, g3, h⟩ := h
    refine x_putI C dX11_law_74 fw_X11_190 (isO.n g3 (hn.trans h3)) (Or.inl rfl) (fun M4 eM4 hn5 => ?_)
    replace h := h M4 eM4
    replace hn5 := hn5.trans hn
    refine w_iload_n C dX11_law_77 rfl (mem_k 0 rfl) ?_
    exact x_iret C hr dX11_law_78 hn5 (hQ _ M4 h)
  · replace h := h.2 q
    refine w_aload_n C dX11_law_58 rfl (mem_k 1 rfl) ?_
    refine x_getR C dX11_law_59 fw_X11_43 (isO.n (ci := 11) ⟨rfl, ho0⟩ (hn.trans h3)) (fun r6 er6 => ?_)
    replace h := h r6 er6
    refine w_iload_n C dX11_law_62 rfl (mem_k 3 rfl) ?_
    obtain ⟨o7, g8, h⟩ := h
    refine x_putI C dX11_law_63 fw_X11_187 (isO.n g8 (hn.trans h3)) (Or.inl rfl) (fun M9 eM9 hn10 => ?_)
    replace h := h M9 eM9
    replace hn10 := hn10.trans hn
    refine w_goto (tgt := 77) C dX11_law_66 (by decide) ?_
    refine w_iload_n C dX11_law_77 rfl (mem_k 0 rfl) ?_
    exact x_iret C hr dX11_law_78 hn10 (hQ _ M9 h)
set_option maxRecDepth 100000 in
set_option maxHeartbeats 4000000 in
theorem k_X11_law_24 {o0 : Nat} {x1 : Int} {x2 : Int} {s0 : Int} {s1 : Int} {s2 : Int} {M : Mm} {Q : Int → Mm → Prop} (C : Cx p s m args meth c cX11_law 4 RX11 D cy G n0) (hr : meth.sig.returnType = some .int) (h3 : n0 = 243) (hn : M.2.2.2 = n0) (ho0 : o0 < 243 ∧ (SH o0).1 = 11) (hQ : ∀ x M, Q x M → Qp (some (vI x)) M) (h : P_X11_law_24 o0 x1 x2 s0 s1 s2 M Q ) : WW p l e ({ frames := 1, cells := 0, slots := 0, locals := 22 }) s m args below meth c (ZQ below args s D cy G n0 Qp n0) 4 D cy G n0 24 [(0, vR (some o0)), (1, vI x1), (2, vI x2)] [vI s2, vI s1, vI s0] M := by
  unfold P_X11_law_24 at h
  refine cl_X11_isWithin (ck_X11_61 ⟨by decide, by decide⟩) C dX11_law_24 hn h3 (Nat.le_of_ble_eq_true rfl) h (fun v11 h => ?_)
  refine w_if_ne (tgt := 32) C dX11_law_27 (by decide) (fun q => ?_) (fun q => ?_)
  · replace h := h.1 q
    refine w_iload_n C dX11_law_32 rfl (mem_k 1 rfl) ?_
    refine w_if_ne (tgt := 46) C dX11_law_33 (by decide) (fun q => ?_) (fun q => ?_)
    · replace h := h.1 q
      refine w_aload_n C dX11_law_46 rfl (mem_k 0 rfl) ?_
      refine x_getR C dX11_law_47 fw_X11_43 (isO.n (ci := 11) ⟨rfl, ho0⟩ (hn.trans h3)) (fun r12 er12 => ?_)
      replace h := h r12 er12
      obtain ⟨o13, g14, h⟩ := h
      refine x_getI C dX11_law_50 fw_X11_190 (isO.n g14 (hn.trans h3)) ?_
      refine x_pc (pc2 := 53) rfl ?_
      refine x_pick (L' := [(0, vR (some o0)), (1, vI x1), (2, vI x2)]) [0, 1, 2] rfl ?_
      exact k_X11_law_53 C hr h3 hn ho0 hQ  h
    · replace h := h.2 q
      refine w_aload_n C dX11_law_36 rfl (mem_k 0 rfl) ?_
      refine x_getR C dX11_law_37 fw_X11_43 (isO.n (ci := 11) ⟨rfl, ho0⟩ (hn.trans h3)) (fun r15 er15 => ?_)
      replace h := h r15 er15
      obtain ⟨o16, g17, h⟩ := h
      refine x_getI C dX11_law_40 fw_X11_187 (isO.n g17 (hn.trans h3)) ?_
      refine w_goto (tgt := 53) C dX11_law_43 (by decide) ?_
      refine x_pc (pc2 := 53) rfl ?_
      refine x_pick (L' := [(0, vR (some o0)), (1, vI x1), (2, vI x2)]) [0, 1, 2] rfl ?_
      exact k_X11_law_53 C hr h3 hn ho0 hQ  h
  · replace h := h.2 q
    refine w_iconst C dX11_law_30 ⟨by decide, by decide⟩ ?_
    exact x_iret C hr dX11_law_31 hn (hQ _ M h)
set_option maxRecDepth 100000 in
set_option maxHeartbeats 4000000 in
theorem k_X11_law_0 {o0 : Nat} {x1 : Int} {x2 : Int} {M : Mm} {Q : Int → Mm → Prop} (C : Cx p s m args meth c cX11_law 4 RX11 D cy G n0) (hr : meth.sig.returnType = some .int) (h3 : n0 = 243) (hn : M.2.2.2 = n0) (ho0 : o0 < 243 ∧ (SH o0).1 = 11) (hQ : ∀ x M, Q x M → Qp (some (vI x)) M) (h : P_X11_law o0 x1 x2 M Q ) : WW p l e ({ frames := 1, cells := 0, slots := 0, locals := 22 }) s m args below meth c (ZQ below args s D cy G n0 Qp n0) 4 D cy G n0 0 [(0, vR (some o0)), (1, vI x1), (2, vI x2)] [] M := by
  unfold P_X11_law at h
  refine w_iload_n C dX11_law_0 rfl (mem_k 1 rfl) ?_
  refine w_iconst C dX11_law_1 ⟨by decide, by decide⟩ ?_
  refine w_iconst C dX11_law_2 ⟨by decide, by decide⟩ ?_
  refine cl_X11_isWithin (ck_X11_61 ⟨by decide, by decide⟩) C dX11_law_3 hn h3 (Nat.le_of_ble_eq_true rfl) h (fun v18 h => ?_)
  refine w_if_eq (tgt := 30) C dX11_law_6 (by decide) (fun q => ?_) (fun q => ?_)
  · replace h := h.1 q
    refine w_iconst C dX11_law_30 ⟨by decide, by decide⟩ ?_
    exact x_iret C hr dX11_law_31 hn (hQ _ M h)
  · replace h := h.2 q
    refine w_iload_n C dX11_law_9 rfl (mem_k 2 rfl) ?_
    refine w_iconst C dX11_law_10 ⟨by decide, by decide⟩ ?_
    refine w_iload_n C dX11_law_11 rfl (mem_k 1 rfl) ?_
    refine w_if_ne (tgt := 21) C dX11_law_12 (by decide) (fun q => ?_) (fun q => ?_)
    · replace h := h.1 q
      refine w_sipush C dX11_law_21 (by decide) ?_
      refine x_pc (pc2 := 24) rfl ?_
      refine x_pick (L' := [(0, vR (some o0)), (1, vI x1), (2, vI x2)]) [0, 1, 2] rfl ?_
      exact k_X11_law_24 C hr h3 hn ho0 hQ  h
    · replace h := h.2 q
      refine w_sipush C dX11_law_15 (by decide) ?_
      refine w_goto (tgt := 24) C dX11_law_18 (by decide) ?_
      refine x_pc (pc2 := 24) rfl ?_
      refine x_pick (L' := [(0, vR (some o0)), (1, vI x1), (2, vI x2)]) [0, 1, 2] rfl ?_
      exact k_X11_law_24 C hr h3 hn ho0 hQ  h
set_option maxRecDepth 100000 in
set_option maxHeartbeats 4000000 in
theorem con_X11_law (l : Launch) (D : va_G) (cy : Nat → ClassId) : Con l D cy yX11_law cX11_law 4 (some .int) ({ frames := 1, cells := 0, slots := 0, locals := 22 }) 0 0 SP_X11_law := by
  refine con_of (by decide) (fun as M Qp h => ?_) ?_
  · obtain ⟨-, o0, x1, x2, rfl, -⟩ := h
    exact Nat.le_of_ble_eq_true rfl
  · intro p e s m args below meth c G as M Qp h C hr hnm
    obtain ⟨hn, o0, x1, x2, rfl, ho1, ho2, Q0, hQ, h⟩ := h
    refine x_pick (L' := [(0, vR (some o0)), (1, vI x1), (2, vI x2)]) [0, 1, 2] rfl ?_
    exact k_X11_law_0 C hr hn rfl ⟨ho1, ho2⟩ hQ h
set_option maxRecDepth 100000 in
set_option maxHeartbeats 4000000 in
theorem cl_X11_law {p : Program} {l : Launch} {e : Env} {R : Room} {s : State} {m : MethodId} {args : Array Value} {below : List Frame} {meth : Method} {c : Code} {Q : State → Prop} {cc : ByteArray} {nL : Nat} {own : String} {D : va_G} {cy : Nat → ClassId} {G : Nat × Nat} {n0 pc : Nat} {L : List (Nat × PV)} {st : List PV} {M : Mm} {op : Instr} (K : CallOK l D cy R own op 0 0 (spV 11 2 SP_X11_law)) (C : Cx p s m args meth c cc nL own D cy G n0) (hd : decode cc pc = .ok (op, 3)) (hn : M.2.2.2 = n0) (h3 : n0 = 243) (hlen : argN st ≤ 8) {r : Option Nat} {o0 : Nat} (ho : isOn 11 M.2.2.2 r o0) {x1 : Int} {x2 : Int} {Q0 : Int → Mm → Prop} (h : P_X11_law o0 x1 x2 M Q0) (k : ∀ x M2, Q0 x M2 → M2.2.2.2 = n0 → WW p l e R s m args below meth c Q nL D cy G n0  (pc + 3) L (vI x :: st) M2) : WW p l e R s m args below meth c Q nL D cy G n0  pc L (vI x2 :: vI x1 :: vR r :: st) M := by
  obtain ⟨rfl, ho1, ho2⟩ := ho
  refine x_call0 K C hd (as := [vR (some o0), vI x1, vI x2]) rfl hn hlen (fun v M2 => ∃ x, v = some (vI x) ∧ Q0 x M2) ⟨⟨o0, [vI x1, vI x2], rfl, rfl, ho1, ho2⟩, hn.trans h3, o0, x1, x2, rfl, (hn.trans h3) ▸ ho1, ho2, Q0, fun x M2 hx => ⟨x, rfl, hx⟩, h⟩ ?_
  rintro _ _ ⟨x, rfl, hx⟩ hm
  exact k x _ hx hm
end W_X11_law
theorem dX11_hours_0 : decode cX11_hours 0 = .ok (.iload_n 3, 1) := by decide +kernel
theorem dX11_hours_1 : decode cX11_hours 1 = .ok (.iconst 1, 1) := by decide +kernel
theorem dX11_hours_2 : decode cX11_hours 2 = .ok (.ldc 193, 2) := by decide +kernel
theorem dX11_hours_4 : decode cX11_hours 4 = .ok (.invokestatic 61, 3) := by decide +kernel
theorem dX11_hours_7 : decode cX11_hours 7 = .ok (.ifCond .eq 12, 3) := by decide +kernel
theorem dX11_hours_10 : decode cX11_hours 10 = .ok (.aload_n 0, 1) := by decide +kernel
theorem dX11_hours_11 : decode cX11_hours 11 = .ok (.iload_n 1, 1) := by decide +kernel
theorem dX11_hours_12 : decode cX11_hours 12 = .ok (.iload_n 2, 1) := by decide +kernel
theorem dX11_hours_13 : decode cX11_hours 13 = .ok (.invokevirtual 119, 3) := by decide +kernel
theorem dX11_hours_16 : decode cX11_hours 16 = .ok (.ifCond .ne 5, 3) := by decide +kernel
theorem dX11_hours_19 : decode cX11_hours 19 = .ok (.iconst (-1), 1) := by decide +kernel
theorem dX11_hours_20 : decode cX11_hours 20 = .ok (.ireturn, 1) := by decide +kernel
theorem dX11_hours_21 : decode cX11_hours 21 = .ok (.aload_n 0, 1) := by decide +kernel
theorem dX11_hours_22 : decode cX11_hours 22 = .ok (.getfield 43, 3) := by decide +kernel
theorem dX11_hours_25 : decode cX11_hours 25 = .ok (.aload_n 0, 1) := by decide +kernel
theorem dX11_hours_26 : decode cX11_hours 26 = .ok (.getfield 36, 3) := by decide +kernel
theorem dX11_hours_29 : decode cX11_hours 29 = .ok (.iload_n 3, 1) := by decide +kernel
theorem dX11_hours_30 : decode cX11_hours 30 = .ok (.invokevirtual 194, 3) := by decide +kernel
theorem dX11_hours_33 : decode cX11_hours 33 = .ok (.ireturn, 1) := by decide +kernel
theorem cn_X11_193 : Cond.constant RX11 193 (Int32.ofInt 100000) ∈ lwG := lwG_3 (i := 123) rfl rfl
theorem ck_X11_194 {l : Launch} {D : va_G} {cy : Nat → ClassId} {R : Room} (hR : 5 ≤ R.frames ∧ 109 ≤ R.locals) : CallOK l D cy R RX11 (.invokevirtual 194) 0 0 (spV 2 2 SP_X2_hoursUntil) := call_V (ci := 2) (con_X2_hoursUntil l D cy) (lwG_3 (i := 124) rfl rfl) (lwG_3 (i := 125) rfl rfl) (lwG_3 (i := 126) rfl rfl) (lwG_1 (i := 10) rfl rfl) (lwG_3 (i := 127) rfl rfl) (by decide) ⟨rfl, by decide, by decide, rfl⟩ ⟨rfl, rfl⟩ hR
section W_X11_hours
variable {p : Program} {l : Launch} {e : Env} {s : State} {m : MethodId} {args : Array Value} {below : List Frame} {meth : Method} {c : Code} {D : va_G} {cy : Nat → ClassId} {G : Nat × Nat} {n0 : Nat} {Qp : Option PV → Mm → Prop}
set_option maxRecDepth 100000 in
set_option maxHeartbeats 4000000 in
theorem k_X11_hours_0 {o0 : Nat} {x1 : Int} {x2 : Int} {x3 : Int} {M : Mm} {Q : Int → Mm → Prop} (C : Cx p s m args meth c cX11_hours 4 RX11 D cy G n0) (hr : meth.sig.returnType = some .int) (h3 : n0 = 243) (hn : M.2.2.2 = n0) (ho0 : o0 < 243 ∧ (SH o0).1 = 11) (hQ : ∀ x M, Q x M → Qp (some (vI x)) M) (h : P_X11_hours o0 x1 x2 x3 M Q ) : WW p l e ({ frames := 6, cells := 0, slots := 0, locals := 153 }) s m args below meth c (ZQ below args s D cy G n0 Qp n0) 4 D cy G n0 0 [(0, vR (some o0)), (1, vI x1), (2, vI x2), (3, vI x3)] [] M := by
  unfold P_X11_hours at h
  refine w_iload_n C dX11_hours_0 rfl (mem_k 3 rfl) ?_
  refine w_iconst C dX11_hours_1 ⟨by decide, by decide⟩ ?_
  refine w_ldc (x := 100000) C dX11_hours_2 cn_X11_193 ⟨by decide, by decide⟩ ?_
  refine cl_X11_isWithin (ck_X11_61 ⟨by decide, by decide⟩) C dX11_hours_4 hn h3 (Nat.le_of_ble_eq_true rfl) h (fun v1 h => ?_)
  refine w_if_eq (tgt := 19) C dX11_hours_7 (by decide) (fun q => ?_) (fun q => ?_)
  · replace h := h.1 q
    refine w_iconst C dX11_hours_19 ⟨by decide, by decide⟩ ?_
    exact x_iret C hr dX11_hours_20 hn (hQ _ M h)
  · replace h := h.2 q
    refine w_aload_n C dX11_hours_10 rfl (mem_k 0 rfl) ?_
    refine w_iload_n C dX11_hours_11 rfl (mem_k 1 rfl) ?_
    refine w_iload_n C dX11_hours_12 rfl (mem_k 2 rfl) ?_
    refine cl_X11_settles (ck_X11_119 ⟨by decide, by decide⟩) C dX11_hours_13 hn h3 (Nat.le_of_ble_eq_true rfl) (isO.n (ci := 11) ⟨rfl, ho0⟩ (hn.trans h3)) h (fun v2 M3 h hn4 => ?_)
    refine w_if_ne (tgt := 21) C dX11_hours_16 (by decide) (fun q => ?_) (fun q => ?_)
    · replace h := h.1 q
      refine w_aload_n C dX11_hours_21 rfl (mem_k 0 rfl) ?_
      refine x_getR C dX11_hours_22 fw_X11_43 (isO.n (ci := 11) ⟨rfl, ho0⟩ (hn4.trans h3)) (fun r5 er5 => ?_)
      replace h := h r5 er5
      refine w_aload_n C dX11_hours_25 rfl (mem_k 0 rfl) ?_
      refine x_getR C dX11_hours_26 fw_X11_36 (isO.n (ci := 11) ⟨rfl, ho0⟩ (hn4.trans h3)) (fun r6 er6 => ?_)
      replace h := h r6 er6
      refine w_iload_n C dX11_hours_29 rfl (mem_k 3 rfl) ?_
      obtain ⟨o7, g8, h⟩ := h
      refine cl_X2_hoursUntil (ck_X11_194 ⟨by decide, by decide⟩) C dX11_hours_30 hn4 h3 (Nat.le_of_ble_eq_true rfl) (isO.n g8 (hn4.trans h3)) h (fun v9 h => ?_)
      exact x_iret C hr dX11_hours_33 hn4 (hQ _ M3 h)
    · replace h := h.2 q
      refine w_iconst C dX11_hours_19 ⟨by decide, by decide⟩ ?_
      exact x_iret C hr dX11_hours_20 hn4 (hQ _ M3 h)
set_option maxRecDepth 100000 in
set_option maxHeartbeats 4000000 in
theorem con_X11_hours (l : Launch) (D : va_G) (cy : Nat → ClassId) : Con l D cy yX11_hours cX11_hours 4 (some .int) ({ frames := 6, cells := 0, slots := 0, locals := 153 }) 0 0 SP_X11_hours := by
  refine con_of (by decide) (fun as M Qp h => ?_) ?_
  · obtain ⟨-, o0, x1, x2, x3, rfl, -⟩ := h
    exact Nat.le_of_ble_eq_true rfl
  · intro p e s m args below meth c G as M Qp h C hr hnm
    obtain ⟨hn, o0, x1, x2, x3, rfl, ho1, ho2, Q0, hQ, h⟩ := h
    refine x_pick (L' := [(0, vR (some o0)), (1, vI x1), (2, vI x2), (3, vI x3)]) [0, 1, 2, 3] rfl ?_
    exact k_X11_hours_0 C hr hn rfl ⟨ho1, ho2⟩ hQ h
set_option maxRecDepth 100000 in
set_option maxHeartbeats 4000000 in
theorem cl_X11_hours {p : Program} {l : Launch} {e : Env} {R : Room} {s : State} {m : MethodId} {args : Array Value} {below : List Frame} {meth : Method} {c : Code} {Q : State → Prop} {cc : ByteArray} {nL : Nat} {own : String} {D : va_G} {cy : Nat → ClassId} {G : Nat × Nat} {n0 pc : Nat} {L : List (Nat × PV)} {st : List PV} {M : Mm} {op : Instr} (K : CallOK l D cy R own op 0 0 (spV 11 3 SP_X11_hours)) (C : Cx p s m args meth c cc nL own D cy G n0) (hd : decode cc pc = .ok (op, 3)) (hn : M.2.2.2 = n0) (h3 : n0 = 243) (hlen : argN st ≤ 8) {r : Option Nat} {o0 : Nat} (ho : isOn 11 M.2.2.2 r o0) {x1 : Int} {x2 : Int} {x3 : Int} {Q0 : Int → Mm → Prop} (h : P_X11_hours o0 x1 x2 x3 M Q0) (k : ∀ x M2, Q0 x M2 → M2.2.2.2 = n0 → WW p l e R s m args below meth c Q nL D cy G n0  (pc + 3) L (vI x :: st) M2) : WW p l e R s m args below meth c Q nL D cy G n0  pc L (vI x3 :: vI x2 :: vI x1 :: vR r :: st) M := by
  obtain ⟨rfl, ho1, ho2⟩ := ho
  refine x_call0 K C hd (as := [vR (some o0), vI x1, vI x2, vI x3]) rfl hn hlen (fun v M2 => ∃ x, v = some (vI x) ∧ Q0 x M2) ⟨⟨o0, [vI x1, vI x2, vI x3], rfl, rfl, ho1, ho2⟩, hn.trans h3, o0, x1, x2, x3, rfl, (hn.trans h3) ▸ ho1, ho2, Q0, fun x M2 hx => ⟨x, rfl, hx⟩, h⟩ ?_
  rintro _ _ ⟨x, rfl, hx⟩ hm
  exact k x _ hx hm
end W_X11_hours
