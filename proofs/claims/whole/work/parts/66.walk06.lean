/-! seats: pure predicates, decode rows, walks, contracts; by program (wip/gen/walk.py) -/
theorem dX11_stops_0 : decode cX11_stops 0 = .ok (.iload_n 3, 1) := by decide +kernel
theorem dX11_stops_1 : decode cX11_stops 1 = .ok (.iconst 1, 1) := by decide +kernel
theorem dX11_stops_2 : decode cX11_stops 2 = .ok (.bipush 12, 2) := by decide +kernel
theorem dX11_stops_4 : decode cX11_stops 4 = .ok (.invokestatic 61, 3) := by decide +kernel
theorem dX11_stops_7 : decode cX11_stops 7 = .ok (.ifCond .eq 28, 3) := by decide +kernel
theorem dX11_stops_10 : decode cX11_stops 10 = .ok (.iload 4, 2) := by decide +kernel
theorem dX11_stops_12 : decode cX11_stops 12 = .ok (.iconst 0, 1) := by decide +kernel
theorem dX11_stops_13 : decode cX11_stops 13 = .ok (.iconst 3, 1) := by decide +kernel
theorem dX11_stops_14 : decode cX11_stops 14 = .ok (.invokestatic 61, 3) := by decide +kernel
theorem dX11_stops_17 : decode cX11_stops 17 = .ok (.ifCond .eq 18, 3) := by decide +kernel
theorem dX11_stops_20 : decode cX11_stops 20 = .ok (.iload 5, 2) := by decide +kernel
theorem dX11_stops_22 : decode cX11_stops 22 = .ok (.iconst (-1), 1) := by decide +kernel
theorem dX11_stops_23 : decode cX11_stops 23 = .ok (.if_icmp .lt 12, 3) := by decide +kernel
theorem dX11_stops_26 : decode cX11_stops 26 = .ok (.aload_n 0, 1) := by decide +kernel
theorem dX11_stops_27 : decode cX11_stops 27 = .ok (.iload_n 1, 1) := by decide +kernel
theorem dX11_stops_28 : decode cX11_stops 28 = .ok (.iload_n 2, 1) := by decide +kernel
theorem dX11_stops_29 : decode cX11_stops 29 = .ok (.invokevirtual 119, 3) := by decide +kernel
theorem dX11_stops_32 : decode cX11_stops 32 = .ok (.ifCond .ne 5, 3) := by decide +kernel
theorem dX11_stops_35 : decode cX11_stops 35 = .ok (.iconst (-1), 1) := by decide +kernel
theorem dX11_stops_36 : decode cX11_stops 36 = .ok (.ireturn, 1) := by decide +kernel
theorem dX11_stops_37 : decode cX11_stops 37 = .ok (.iload 5, 2) := by decide +kernel
theorem dX11_stops_39 : decode cX11_stops 39 = .ok (.iload 4, 2) := by decide +kernel
theorem dX11_stops_41 : decode cX11_stops 41 = .ok (.if_icmp .lt 6, 3) := by decide +kernel
theorem dX11_stops_44 : decode cX11_stops 44 = .ok (.bipush (-4), 2) := by decide +kernel
theorem dX11_stops_46 : decode cX11_stops 46 = .ok (.ireturn, 1) := by decide +kernel
theorem dX11_stops_47 : decode cX11_stops 47 = .ok (.aload_n 0, 1) := by decide +kernel
theorem dX11_stops_48 : decode cX11_stops 48 = .ok (.getfield 43, 3) := by decide +kernel
theorem dX11_stops_51 : decode cX11_stops 51 = .ok (.aload_n 0, 1) := by decide +kernel
theorem dX11_stops_52 : decode cX11_stops 52 = .ok (.getfield 36, 3) := by decide +kernel
theorem dX11_stops_55 : decode cX11_stops 55 = .ok (.iload_n 3, 1) := by decide +kernel
theorem dX11_stops_56 : decode cX11_stops 56 = .ok (.iload 4, 2) := by decide +kernel
theorem dX11_stops_58 : decode cX11_stops 58 = .ok (.invokevirtual 198, 3) := by decide +kernel
theorem dX11_stops_61 : decode cX11_stops 61 = .ok (.istore 6, 2) := by decide +kernel
theorem dX11_stops_63 : decode cX11_stops 63 = .ok (.iload 5, 2) := by decide +kernel
theorem dX11_stops_65 : decode cX11_stops 65 = .ok (.iconst (-1), 1) := by decide +kernel
theorem dX11_stops_66 : decode cX11_stops 66 = .ok (.if_icmp .ne 8, 3) := by decide +kernel
theorem dX11_stops_69 : decode cX11_stops 69 = .ok (.iload 6, 2) := by decide +kernel
theorem dX11_stops_71 : decode cX11_stops 71 = .ok (.goto 12, 3) := by decide +kernel
theorem dX11_stops_74 : decode cX11_stops 74 = .ok (.aload_n 0, 1) := by decide +kernel
theorem dX11_stops_75 : decode cX11_stops 75 = .ok (.getfield 43, 3) := by decide +kernel
theorem dX11_stops_78 : decode cX11_stops 78 = .ok (.iload 5, 2) := by decide +kernel
theorem dX11_stops_80 : decode cX11_stops 80 = .ok (.invokevirtual 202, 3) := by decide +kernel
theorem dX11_stops_83 : decode cX11_stops 83 = .ok (.ireturn, 1) := by decide +kernel
theorem ck_X11_198 {l : Launch} {D : va_G} {cy : Nat → ClassId} {R : Room} (hR : 5 ≤ R.frames ∧ 114 ≤ R.locals) : CallOK l D cy R RX11 (.invokevirtual 198) 0 0 (spV 2 3 SP_X2_placeStops) := call_V (ci := 2) (con_X2_placeStops l D cy) (lwG_3 (i := 139) rfl rfl) (lwG_3 (i := 140) rfl rfl) (lwG_3 (i := 141) rfl rfl) (lwG_1 (i := 10) rfl rfl) (lwG_3 (i := 142) rfl rfl) (by decide) ⟨rfl, by decide, by decide, rfl⟩ ⟨rfl, rfl⟩ hR
theorem ck_X11_202 {l : Launch} {D : va_G} {cy : Nat → ClassId} {R : Room} (hR : 2 ≤ R.frames ∧ 43 ≤ R.locals) : CallOK l D cy R RX11 (.invokevirtual 202) 0 0 (spV 2 1 SP_X2_stopAt) := call_V (ci := 2) (con_X2_stopAt l D cy) (lwG_3 (i := 152) rfl rfl) (lwG_3 (i := 153) rfl rfl) (lwG_3 (i := 154) rfl rfl) (lwG_1 (i := 10) rfl rfl) (lwG_3 (i := 155) rfl rfl) (by decide) ⟨rfl, by decide, by decide, rfl⟩ ⟨rfl, rfl⟩ hR
section W_X11_stops
variable {p : Program} {l : Launch} {e : Env} {s : State} {m : MethodId} {args : Array Value} {below : List Frame} {meth : Method} {c : Code} {D : va_G} {cy : Nat → ClassId} {G : Nat × Nat} {n0 : Nat} {Qp : Option PV → Mm → Prop}
set_option maxRecDepth 100000 in
set_option maxHeartbeats 4000000 in
theorem k_X11_stops_0 {o0 : Nat} {x1 : Int} {x2 : Int} {x3 : Int} {x4 : Int} {x5 : Int} {M : Mm} {Q : Int → Mm → Prop} (C : Cx p s m args meth c cX11_stops 7 RX11 D cy G n0) (hr : meth.sig.returnType = some .int) (h3 : n0 = 243) (hn : M.2.2.2 = n0) (ho0 : o0 < 243 ∧ (SH o0).1 = 11) (hQ : ∀ x M, Q x M → Qp (some (vI x)) M) (h : P_X11_stops o0 x1 x2 x3 x4 x5 M Q ) : WW p l e ({ frames := 6, cells := 0, slots := 0, locals := 153 }) s m args below meth c (ZQ below args s D cy G n0 Qp n0) 7 D cy G n0 0 [(0, vR (some o0)), (1, vI x1), (2, vI x2), (3, vI x3), (4, vI x4), (5, vI x5)] [] M := by
  unfold P_X11_stops at h
  refine w_iload_n C dX11_stops_0 rfl (mem_k 3 rfl) ?_
  refine w_iconst C dX11_stops_1 ⟨by decide, by decide⟩ ?_
  refine w_bipush C dX11_stops_2 (by decide) ?_
  refine cl_X11_isWithin (ck_X11_61 ⟨by decide, by decide⟩) C dX11_stops_4 hn h3 (Nat.le_of_ble_eq_true rfl) h (fun v1 h => ?_)
  refine w_if_eq (tgt := 35) C dX11_stops_7 (by decide) (fun q => ?_) (fun q => ?_)
  · replace h := h.1 q
    refine w_iconst C dX11_stops_35 ⟨by decide, by decide⟩ ?_
    exact x_iret C hr dX11_stops_36 hn (hQ _ M h)
  · replace h := h.2 q
    refine w_iload C dX11_stops_10 (mem_k 4 rfl) ?_
    refine w_iconst C dX11_stops_12 ⟨by decide, by decide⟩ ?_
    refine w_iconst C dX11_stops_13 ⟨by decide, by decide⟩ ?_
    refine cl_X11_isWithin (ck_X11_61 ⟨by decide, by decide⟩) C dX11_stops_14 hn h3 (Nat.le_of_ble_eq_true rfl) h (fun v2 h => ?_)
    refine w_if_eq (tgt := 35) C dX11_stops_17 (by decide) (fun q => ?_) (fun q => ?_)
    · replace h := h.1 q
      refine w_iconst C dX11_stops_35 ⟨by decide, by decide⟩ ?_
      exact x_iret C hr dX11_stops_36 hn (hQ _ M h)
    · replace h := h.2 q
      refine w_iload C dX11_stops_20 (mem_k 5 rfl) ?_
      refine w_iconst C dX11_stops_22 ⟨by decide, by decide⟩ ?_
      refine w_icmp_lt (tgt := 35) C dX11_stops_23 (by decide) (fun q => ?_) (fun q => ?_)
      · replace h := h.1 q
        refine w_iconst C dX11_stops_35 ⟨by decide, by decide⟩ ?_
        exact x_iret C hr dX11_stops_36 hn (hQ _ M h)
      · replace h := h.2 q
        refine w_aload_n C dX11_stops_26 rfl (mem_k 0 rfl) ?_
        refine w_iload_n C dX11_stops_27 rfl (mem_k 1 rfl) ?_
        refine w_iload_n C dX11_stops_28 rfl (mem_k 2 rfl) ?_
        refine cl_X11_settles (ck_X11_119 ⟨by decide, by decide⟩) C dX11_stops_29 hn h3 (Nat.le_of_ble_eq_true rfl) (isO.n (ci := 11) ⟨rfl, ho0⟩ (hn.trans h3)) h (fun v3 M4 h hn5 => ?_)
        refine w_if_ne (tgt := 37) C dX11_stops_32 (by decide) (fun q => ?_) (fun q => ?_)
        · replace h := h.1 q
          refine w_iload C dX11_stops_37 (mem_k 5 rfl) ?_
          refine w_iload C dX11_stops_39 (mem_k 4 rfl) ?_
          refine w_icmp_lt (tgt := 47) C dX11_stops_41 (by decide) (fun q => ?_) (fun q => ?_)
          · replace h := h.1 q
            refine w_aload_n C dX11_stops_47 rfl (mem_k 0 rfl) ?_
            refine x_getR C dX11_stops_48 fw_X11_43 (isO.n (ci := 11) ⟨rfl, ho0⟩ (hn5.trans h3)) (fun r6 er6 => ?_)
            replace h := h r6 er6
            refine w_aload_n C dX11_stops_51 rfl (mem_k 0 rfl) ?_
            refine x_getR C dX11_stops_52 fw_X11_36 (isO.n (ci := 11) ⟨rfl, ho0⟩ (hn5.trans h3)) (fun r7 er7 => ?_)
            replace h := h r7 er7
            refine w_iload_n C dX11_stops_55 rfl (mem_k 3 rfl) ?_
            refine w_iload C dX11_stops_56 (mem_k 4 rfl) ?_
            obtain ⟨o8, g9, h⟩ := h
            refine cl_X2_placeStops (ck_X11_198 ⟨by decide, by decide⟩) C dX11_stops_58 hn5 h3 (Nat.le_of_ble_eq_true rfl) (isO.n g9 (hn5.trans h3)) h (fun v10 M11 h hn12 => ?_)
            refine x_istore (L' := [(6, vI v10), (0, vR (some o0)), (1, vI x1), (2, vI x2), (3, vI x3), (4, vI x4), (5, vI x5)]) C dX11_stops_61 (by decide) rfl ?_
            refine w_iload C dX11_stops_63 (mem_k 6 rfl) ?_
            refine w_iconst C dX11_stops_65 ⟨by decide, by decide⟩ ?_
            refine w_icmp_ne (tgt := 74) C dX11_stops_66 (by decide) (fun q => ?_) (fun q => ?_)
            · replace h := h.1 q
              refine w_aload_n C dX11_stops_74 rfl (mem_k 1 rfl) ?_
              refine x_getR C dX11_stops_75 fw_X11_43 (isO.n (ci := 11) ⟨rfl, ho0⟩ (hn12.trans h3)) (fun r13 er13 => ?_)
              replace h := h r13 er13
              refine w_iload C dX11_stops_78 (mem_k 6 rfl) ?_
              obtain ⟨o14, g15, h⟩ := h
              refine cl_X2_stopAt (ck_X11_202 ⟨by decide, by decide⟩) C dX11_stops_80 hn12 h3 (Nat.le_of_ble_eq_true rfl) (isO.n g15 (hn12.trans h3)) h (fun v16 h => ?_)
              exact x_iret C hr dX11_stops_83 hn12 (hQ _ M11 h)
            · replace h := h.2 q
              refine w_iload C dX11_stops_69 (mem_k 0 rfl) ?_
              refine w_goto (tgt := 83) C dX11_stops_71 (by decide) ?_
              exact x_iret C hr dX11_stops_83 hn12 (hQ _ M11 h)
          · replace h := h.2 q
            refine w_bipush C dX11_stops_44 (by decide) ?_
            exact x_iret C hr dX11_stops_46 hn5 (hQ _ M4 h)
        · replace h := h.2 q
          refine w_iconst C dX11_stops_35 ⟨by decide, by decide⟩ ?_
          exact x_iret C hr dX11_stops_36 hn5 (hQ _ M4 h)
set_option maxRecDepth 100000 in
set_option maxHeartbeats 4000000 in
theorem con_X11_stops (l : Launch) (D : va_G) (cy : Nat → ClassId) : Con l D cy yX11_stops cX11_stops 7 (some .int) ({ frames := 6, cells := 0, slots := 0, locals := 153 }) 0 0 SP_X11_stops := by
  refine con_of (by decide) (fun as M Qp h => ?_) ?_
  · obtain ⟨-, o0, x1, x2, x3, x4, x5, rfl, -⟩ := h
    exact Nat.le_of_ble_eq_true rfl
  · intro p e s m args below meth c G as M Qp h C hr hnm
    obtain ⟨hn, o0, x1, x2, x3, x4, x5, rfl, ho1, ho2, Q0, hQ, h⟩ := h
    refine x_pick (L' := [(0, vR (some o0)), (1, vI x1), (2, vI x2), (3, vI x3), (4, vI x4), (5, vI x5)]) [0, 1, 2, 3, 4, 5] rfl ?_
    exact k_X11_stops_0 C hr hn rfl ⟨ho1, ho2⟩ hQ h
set_option maxRecDepth 100000 in
set_option maxHeartbeats 4000000 in
theorem cl_X11_stops {p : Program} {l : Launch} {e : Env} {R : Room} {s : State} {m : MethodId} {args : Array Value} {below : List Frame} {meth : Method} {c : Code} {Q : State → Prop} {cc : ByteArray} {nL : Nat} {own : String} {D : va_G} {cy : Nat → ClassId} {G : Nat × Nat} {n0 pc : Nat} {L : List (Nat × PV)} {st : List PV} {M : Mm} {op : Instr} (K : CallOK l D cy R own op 0 0 (spV 11 5 SP_X11_stops)) (C : Cx p s m args meth c cc nL own D cy G n0) (hd : decode cc pc = .ok (op, 3)) (hn : M.2.2.2 = n0) (h3 : n0 = 243) (hlen : argN st ≤ 8) {r : Option Nat} {o0 : Nat} (ho : isOn 11 M.2.2.2 r o0) {x1 : Int} {x2 : Int} {x3 : Int} {x4 : Int} {x5 : Int} {Q0 : Int → Mm → Prop} (h : P_X11_stops o0 x1 x2 x3 x4 x5 M Q0) (k : ∀ x M2, Q0 x M2 → M2.2.2.2 = n0 → WW p l e R s m args below meth c Q nL D cy G n0  (pc + 3) L (vI x :: st) M2) : WW p l e R s m args below meth c Q nL D cy G n0  pc L (vI x5 :: vI x4 :: vI x3 :: vI x2 :: vI x1 :: vR r :: st) M := by
  obtain ⟨rfl, ho1, ho2⟩ := ho
  refine x_call0 K C hd (as := [vR (some o0), vI x1, vI x2, vI x3, vI x4, vI x5]) rfl hn hlen (fun v M2 => ∃ x, v = some (vI x) ∧ Q0 x M2) ⟨⟨o0, [vI x1, vI x2, vI x3, vI x4, vI x5], rfl, rfl, ho1, ho2⟩, hn.trans h3, o0, x1, x2, x3, x4, x5, rfl, (hn.trans h3) ▸ ho1, ho2, Q0, fun x M2 hx => ⟨x, rfl, hx⟩, h⟩ ?_
  rintro _ _ ⟨x, rfl, hx⟩ hm
  exact k x _ hx hm
end W_X11_stops
theorem dX11_road_0 : decode cX11_road 0 = .ok (.iload_n 1, 1) := by decide +kernel
theorem dX11_road_1 : decode cX11_road 1 = .ok (.invokestatic 205, 3) := by decide +kernel
theorem dX11_road_4 : decode cX11_road 4 = .ok (.ifCond .eq 21, 3) := by decide +kernel
theorem dX11_road_7 : decode cX11_road 7 = .ok (.iload_n 2, 1) := by decide +kernel
theorem dX11_road_8 : decode cX11_road 8 = .ok (.invokestatic 209, 3) := by decide +kernel
theorem dX11_road_11 : decode cX11_road 11 = .ok (.ifCond .eq 14, 3) := by decide +kernel
theorem dX11_road_14 : decode cX11_road 14 = .ok (.iload_n 3, 1) := by decide +kernel
theorem dX11_road_15 : decode cX11_road 15 = .ok (.iconst 0, 1) := by decide +kernel
theorem dX11_road_16 : decode cX11_road 16 = .ok (.sipush 1000, 3) := by decide +kernel
theorem dX11_road_19 : decode cX11_road 19 = .ok (.invokestatic 61, 3) := by decide +kernel
theorem dX11_road_22 : decode cX11_road 22 = .ok (.ifCond .ne 5, 3) := by decide +kernel
theorem dX11_road_25 : decode cX11_road 25 = .ok (.iconst (-1), 1) := by decide +kernel
theorem dX11_road_26 : decode cX11_road 26 = .ok (.ireturn, 1) := by decide +kernel
theorem dX11_road_27 : decode cX11_road 27 = .ok (.aload_n 0, 1) := by decide +kernel
theorem dX11_road_28 : decode cX11_road 28 = .ok (.getfield 50, 3) := by decide +kernel
theorem dX11_road_31 : decode cX11_road 31 = .ok (.iload_n 1, 1) := by decide +kernel
theorem dX11_road_32 : decode cX11_road 32 = .ok (.iload_n 2, 1) := by decide +kernel
theorem dX11_road_33 : decode cX11_road 33 = .ok (.invokevirtual 212, 3) := by decide +kernel
theorem dX11_road_36 : decode cX11_road 36 = .ok (.istore 4, 2) := by decide +kernel
theorem dX11_road_38 : decode cX11_road 38 = .ok (.aload_n 0, 1) := by decide +kernel
theorem dX11_road_39 : decode cX11_road 39 = .ok (.getfield 50, 3) := by decide +kernel
theorem dX11_road_42 : decode cX11_road 42 = .ok (.iload_n 1, 1) := by decide +kernel
theorem dX11_road_43 : decode cX11_road 43 = .ok (.iload_n 2, 1) := by decide +kernel
theorem dX11_road_44 : decode cX11_road 44 = .ok (.iload_n 3, 1) := by decide +kernel
theorem dX11_road_45 : decode cX11_road 45 = .ok (.invokevirtual 215, 3) := by decide +kernel
theorem dX11_road_48 : decode cX11_road 48 = .ok (.iload 4, 2) := by decide +kernel
theorem dX11_road_50 : decode cX11_road 50 = .ok (.ireturn, 1) := by decide +kernel
theorem ck_X11_205 {l : Launch} {D : va_G} {cy : Nat → ClassId} {R : Room} (hR : 2 ≤ R.frames ∧ 42 ≤ R.locals) : CallOK l D cy R RX11 (.invokestatic 205) 0 0 (spS 1 SP_X11_isRoad) := call_S (con_X11_isRoad l D cy) (lwG_3 (i := 161) rfl rfl) (lwG_3 (i := 162) rfl rfl) (lwG_1 (i := 1) rfl rfl) (lwG_3 (i := 163) rfl rfl) ⟨by decide, by decide, rfl⟩ ⟨rfl, rfl⟩ hR
theorem ck_X11_209 {l : Launch} {D : va_G} {cy : Nat → ClassId} {R : Room} (hR : 2 ≤ R.frames ∧ 42 ≤ R.locals) : CallOK l D cy R RX11 (.invokestatic 209) 0 0 (spS 1 SP_X11_isTone) := call_S (con_X11_isTone l D cy) (lwG_3 (i := 164) rfl rfl) (lwG_3 (i := 165) rfl rfl) (lwG_1 (i := 1) rfl rfl) (lwG_3 (i := 166) rfl rfl) ⟨by decide, by decide, rfl⟩ ⟨rfl, rfl⟩ hR
theorem fw_X11_50 : fR RX11 50 11 6 := ⟨⟨lwG_2 (i := 68) rfl rfl, by decide, by decide⟩, fun _ _ => rfl, fun r => ⟨r, rfl⟩⟩
theorem ck_X11_212 {l : Launch} {D : va_G} {cy : Nat → ClassId} {R : Room} (hR : 3 ≤ R.frames ∧ 64 ≤ R.locals) : CallOK l D cy R RX11 (.invokevirtual 212) 0 0 (spV 7 2 SP_X7_toneOf) := call_V (ci := 7) (con_X7_toneOf l D cy) (lwG_3 (i := 167) rfl rfl) (lwG_3 (i := 168) rfl rfl) (lwG_3 (i := 169) rfl rfl) (lwG_1 (i := 11) rfl rfl) (lwG_3 (i := 170) rfl rfl) (by decide) ⟨rfl, by decide, by decide, rfl⟩ ⟨rfl, rfl⟩ hR
theorem ck_X11_215 {l : Launch} {D : va_G} {cy : Nat → ClassId} {R : Room} (hR : 3 ≤ R.frames ∧ 65 ≤ R.locals) : CallOK l D cy R RX11 (.invokevirtual 215) 0 0 (spV 7 3 SP_X7_setTone) := call_V (ci := 7) (con_X7_setTone l D cy) (lwG_3 (i := 173) rfl rfl) (lwG_3 (i := 174) rfl rfl) (lwG_3 (i := 175) rfl rfl) (lwG_1 (i := 11) rfl rfl) (lwG_3 (i := 176) rfl rfl) (by decide) ⟨rfl, by decide, by decide, rfl⟩ ⟨rfl, rfl⟩ hR
section W_X11_road
variable {p : Program} {l : Launch} {e : Env} {s : State} {m : MethodId} {args : Array Value} {below : List Frame} {meth : Method} {c : Code} {D : va_G} {cy : Nat → ClassId} {G : Nat × Nat} {n0 : Nat} {Qp : Option PV → Mm → Prop}
set_option maxRecDepth 100000 in
set_option maxHeartbeats 4000000 in
theorem k_X11_road_0 {o0 : Nat} {x1 : Int} {x2 : Int} {x3 : Int} {M : Mm} {Q : Int → Mm → Prop} (C : Cx p s m args meth c cX11_road 5 RX11 D cy G n0) (hr : meth.sig.returnType = some .int) (h3 : n0 = 243) (hn : M.2.2.2 = n0) (ho0 : o0 < 243 ∧ (SH o0).1 = 11) (hQ : ∀ x M, Q x M → Qp (some (vI x)) M) (h : P_X11_road o0 x1 x2 x3 M Q ) : WW p l e ({ frames := 3, cells := 0, slots := 0, locals := 65 }) s m args below meth c (ZQ below args s D cy G n0 Qp n0) 5 D cy G n0 0 [(0, vR (some o0)), (1, vI x1), (2, vI x2), (3, vI x3)] [] M := by
  unfold P_X11_road at h
  refine w_iload_n C dX11_road_0 rfl (mem_k 1 rfl) ?_
  refine cl_X11_isRoad (ck_X11_205 ⟨by decide, by decide⟩) C dX11_road_1 hn h3 (Nat.le_of_ble_eq_true rfl) h (fun v1 h => ?_)
  refine w_if_eq (tgt := 25) C dX11_road_4 (by decide) (fun q => ?_) (fun q => ?_)
  · replace h := h.1 q
    refine w_iconst C dX11_road_25 ⟨by decide, by decide⟩ ?_
    exact x_iret C hr dX11_road_26 hn (hQ _ M h)
  · replace h := h.2 q
    refine w_iload_n C dX11_road_7 rfl (mem_k 2 rfl) ?_
    refine cl_X11_isTone (ck_X11_209 ⟨by decide, by decide⟩) C dX11_road_8 hn h3 (Nat.le_of_ble_eq_true rfl) h (fun v2 h => ?_)
    refine w_if_eq (tgt := 25) C dX11_road_11 (by decide) (fun q => ?_) (fun q => ?_)
    · replace h := h.1 q
      refine w_iconst C dX11_road_25 ⟨by decide, by decide⟩ ?_
      exact x_iret C hr dX11_road_26 hn (hQ _ M h)
    · replace h := h.2 q
      refine w_iload_n C dX11_road_14 rfl (mem_k 3 rfl) ?_
      refine w_iconst C dX11_road_15 ⟨by decide, by decide⟩ ?_
      refine w_sipush C dX11_road_16 (by decide) ?_
      refine cl_X11_isWithin (ck_X11_61 ⟨by decide, by decide⟩) C dX11_road_19 hn h3 (Nat.le_of_ble_eq_true rfl) h (fun v3 h => ?_)
      refine w_if_ne (tgt := 27) C dX11_road_22 (by decide) (fun q => ?_) (fun q => ?_)
      · replace h := h.1 q
        refine w_aload_n C dX11_road_27 rfl (mem_k 0 rfl) ?_
        refine x_getR C dX11_road_28 fw_X11_50 (isO.n (ci := 11) ⟨rfl, ho0⟩ (hn.trans h3)) (fun r4 er4 => ?_)
        replace h := h r4 er4
        refine w_iload_n C dX11_road_31 rfl (mem_k 1 rfl) ?_
        refine w_iload_n C dX11_road_32 rfl (mem_k 2 rfl) ?_
        obtain ⟨o5, g6, h⟩ := h
        refine cl_X7_toneOf (ck_X11_212 ⟨by decide, by decide⟩) C dX11_road_33 hn h3 (Nat.le_of_ble_eq_true rfl) (isO.n g6 (hn.trans h3)) h (fun v7 h => ?_)
        refine x_istore (L' := [(4, vI v7), (0, vR (some o0)), (1, vI x1), (2, vI x2), (3, vI x3)]) C dX11_road_36 (by decide) rfl ?_
        refine w_aload_n C dX11_road_38 rfl (mem_k 1 rfl) ?_
        refine x_getR C dX11_road_39 fw_X11_50 (isO.n (ci := 11) ⟨rfl, ho0⟩ (hn.trans h3)) (fun r8 er8 => ?_)
        replace h := h r8 er8
        refine w_iload_n C dX11_road_42 rfl (mem_k 2 rfl) ?_
        refine w_iload_n C dX11_road_43 rfl (mem_k 3 rfl) ?_
        refine w_iload_n C dX11_road_44 rfl (mem_k 4 rfl) ?_
        obtain ⟨o9, g10, h⟩ := h
        refine cl_X7_setTone (ck_X11_215 ⟨by decide, by decide⟩) C dX11_road_45 hn h3 (Nat.le_of_ble_eq_true rfl) (isO.n g10 (hn.trans h3)) h (fun M11 h hn12 => ?_)
        refine w_iload C dX11_road_48 (mem_k 0 rfl) ?_
        exact x_iret C hr dX11_road_50 hn12 (hQ _ M11 h)
      · replace h := h.2 q
        refine w_iconst C dX11_road_25 ⟨by decide, by decide⟩ ?_
        exact x_iret C hr dX11_road_26 hn (hQ _ M h)
set_option maxRecDepth 100000 in
set_option maxHeartbeats 4000000 in
theorem con_X11_road (l : Launch) (D : va_G) (cy : Nat → ClassId) : Con l D cy yX11_road cX11_road 5 (some .int) ({ frames := 3, cells := 0, slots := 0, locals := 65 }) 0 0 SP_X11_road := by
  refine con_of (by decide) (fun as M Qp h => ?_) ?_
  · obtain ⟨-, o0, x1, x2, x3, rfl, -⟩ := h
    exact Nat.le_of_ble_eq_true rfl
  · intro p e s m args below meth c G as M Qp h C hr hnm
    obtain ⟨hn, o0, x1, x2, x3, rfl, ho1, ho2, Q0, hQ, h⟩ := h
    refine x_pick (L' := [(0, vR (some o0)), (1, vI x1), (2, vI x2), (3, vI x3)]) [0, 1, 2, 3] rfl ?_
    exact k_X11_road_0 C hr hn rfl ⟨ho1, ho2⟩ hQ h
set_option maxRecDepth 100000 in
set_option maxHeartbeats 4000000 in
theorem cl_X11_road {p : Program} {l : Launch} {e : Env} {R : Room} {s : State} {m : MethodId} {args : Array Value} {below : List Frame} {meth : Method} {c : Code} {Q : State → Prop} {cc : ByteArray} {nL : Nat} {own : String} {D : va_G} {cy : Nat → ClassId} {G : Nat × Nat} {n0 pc : Nat} {L : List (Nat × PV)} {st : List PV} {M : Mm} {op : Instr} (K : CallOK l D cy R own op 0 0 (spV 11 3 SP_X11_road)) (C : Cx p s m args meth c cc nL own D cy G n0) (hd : decode cc pc = .ok (op, 3)) (hn : M.2.2.2 = n0) (h3 : n0 = 243) (hlen : argN st ≤ 8) {r : Option Nat} {o0 : Nat} (ho : isOn 11 M.2.2.2 r o0) {x1 : Int} {x2 : Int} {x3 : Int} {Q0 : Int → Mm → Prop} (h : P_X11_road o0 x1 x2 x3 M Q0) (k : ∀ x M2, Q0 x M2 → M2.2.2.2 = n0 → WW p l e R s m args below meth c Q nL D cy G n0  (pc + 3) L (vI x :: st) M2) : WW p l e R s m args below meth c Q nL D cy G n0  pc L (vI x3 :: vI x2 :: vI x1 :: vR r :: st) M := by
  obtain ⟨rfl, ho1, ho2⟩ := ho
  refine x_call0 K C hd (as := [vR (some o0), vI x1, vI x2, vI x3]) rfl hn hlen (fun v M2 => ∃ x, v = some (vI x) ∧ Q0 x M2) ⟨⟨o0, [vI x1, vI x2, vI x3], rfl, rfl, ho1, ho2⟩, hn.trans h3, o0, x1, x2, x3, rfl, (hn.trans h3) ▸ ho1, ho2, Q0, fun x M2 hx => ⟨x, rfl, hx⟩, h⟩ ?_
  rintro _ _ ⟨x, rfl, hx⟩ hm
  exact k x _ hx hm
end W_X11_road
theorem dX11_through_0 : decode cX11_through 0 = .ok (.iload_n 3, 1) := by decide +kernel
theorem dX11_through_1 : decode cX11_through 1 = .ok (.invokestatic 205, 3) := by decide +kernel
theorem dX11_through_4 : decode cX11_through 4 = .ok (.ifCond .eq 20, 3) := by decide +kernel
theorem dX11_through_7 : decode cX11_through 7 = .ok (.iload 4, 2) := by decide +kernel
theorem dX11_through_9 : decode cX11_through 9 = .ok (.invokestatic 209, 3) := by decide +kernel
theorem dX11_through_12 : decode cX11_through 12 = .ok (.ifCond .eq 12, 3) := by decide +kernel
theorem dX11_through_15 : decode cX11_through 15 = .ok (.aload_n 0, 1) := by decide +kernel
theorem dX11_through_16 : decode cX11_through 16 = .ok (.iload_n 1, 1) := by decide +kernel
theorem dX11_through_17 : decode cX11_through 17 = .ok (.iload_n 2, 1) := by decide +kernel
theorem dX11_through_18 : decode cX11_through 18 = .ok (.invokevirtual 119, 3) := by decide +kernel
theorem dX11_through_21 : decode cX11_through 21 = .ok (.ifCond .ne 5, 3) := by decide +kernel
theorem dX11_through_24 : decode cX11_through 24 = .ok (.iconst (-1), 1) := by decide +kernel
theorem dX11_through_25 : decode cX11_through 25 = .ok (.ireturn, 1) := by decide +kernel
theorem dX11_through_26 : decode cX11_through 26 = .ok (.aload_n 0, 1) := by decide +kernel
theorem dX11_through_27 : decode cX11_through 27 = .ok (.getfield 50, 3) := by decide +kernel
theorem dX11_through_30 : decode cX11_through 30 = .ok (.aload_n 0, 1) := by decide +kernel
theorem dX11_through_31 : decode cX11_through 31 = .ok (.getfield 36, 3) := by decide +kernel
theorem dX11_through_34 : decode cX11_through 34 = .ok (.iload_n 3, 1) := by decide +kernel
theorem dX11_through_35 : decode cX11_through 35 = .ok (.iload 4, 2) := by decide +kernel
theorem dX11_through_37 : decode cX11_through 37 = .ok (.invokevirtual 219, 3) := by decide +kernel
theorem dX11_through_40 : decode cX11_through 40 = .ok (.ireturn, 1) := by decide +kernel
theorem ck_X11_219 {l : Launch} {D : va_G} {cy : Nat → ClassId} {R : Room} (hR : 5 ≤ R.frames ∧ 112 ≤ R.locals) : CallOK l D cy R RX11 (.invokevirtual 219) 0 0 (spV 7 3 SP_X7_comesThrough) := call_V (ci := 7) (con_X7_comesThrough l D cy) (lwG_3 (i := 181) rfl rfl) (lwG_3 (i := 182) rfl rfl) (lwG_3 (i := 183) rfl rfl) (lwG_1 (i := 11) rfl rfl) (lwG_3 (i := 184) rfl rfl) (by decide) ⟨rfl, by decide, by decide, rfl⟩ ⟨rfl, rfl⟩ hR
section W_X11_through
variable {p : Program} {l : Launch} {e : Env} {s : State} {m : MethodId} {args : Array Value} {below : List Frame} {meth : Method} {c : Code} {D : va_G} {cy : Nat → ClassId} {G : Nat × Nat} {n0 : Nat} {Qp : Option PV → Mm → Prop}
set_option maxRecDepth 100000 in
set_option maxHeartbeats 4000000 in
theorem k_X11_through_0 {o0 : Nat} {x1 : Int} {x2 : Int} {x3 : Int} {x4 : Int} {M : Mm} {Q : Int → Mm → Prop} (C : Cx p s m args meth c cX11_through 5 RX11 D cy G n0) (hr : meth.sig.returnType = some .int) (h3 : n0 = 243) (hn : M.2.2.2 = n0) (ho0 : o0 < 243 ∧ (SH o0).1 = 11) (hQ : ∀ x M, Q x M → Qp (some (vI x)) M) (h : P_X11_through o0 x1 x2 x3 x4 M Q ) : WW p l e ({ frames := 6, cells := 0, slots := 0, locals := 153 }) s m args below meth c (ZQ below args s D cy G n0 Qp n0) 5 D cy G n0 0 [(0, vR (some o0)), (1, vI x1), (2, vI x2), (3, vI x3), (4, vI x4)] [] M := by
  unfold P_X11_through at h
  refine w_iload_n C dX11_through_0 rfl (mem_k 3 rfl) ?_
  refine cl_X11_isRoad (ck_X11_205 ⟨by decide, by decide⟩) C dX11_through_1 hn h3 (Nat.le_of_ble_eq_true rfl) h (fun v1 h => ?_)
  refine w_if_eq (tgt := 24) C dX11_through_4 (by decide) (fun q => ?_) (fun q => ?_)
  · replace h := h.1 q
    refine w_iconst C dX11_through_24 ⟨by decide, by decide⟩ ?_
    exact x_iret C hr dX11_through_25 hn (hQ _ M h)
  · replace h := h.2 q
    refine w_iload C dX11_through_7 (mem_k 4 rfl) ?_
    refine cl_X11_isTone (ck_X11_209 ⟨by decide, by decide⟩) C dX11_through_9 hn h3 (Nat.le_of_ble_eq_true rfl) h (fun v2 h => ?_)
    refine w_if_eq (tgt := 24) C dX11_through_12 (by decide) (fun q => ?_) (fun q => ?_)
    · replace h := h.1 q
      refine w_iconst C dX11_through_24 ⟨by decide, by decide⟩ ?_
      exact x_iret C hr dX11_through_25 hn (hQ _ M h)
    · replace h := h.2 q
      refine w_aload_n C dX11_through_15 rfl (mem_k 0 rfl) ?_
      refine w_iload_n C dX11_through_16 rfl (mem_k 1 rfl) ?_
      refine w_iload_n C dX11_through_17 rfl (mem_k 2 rfl) ?_
      refine cl_X11_settles (ck_X11_119 ⟨by decide, by decide⟩) C dX11_through_18 hn h3 (Nat.le_of_ble_eq_true rfl) (isO.n (ci := 11) ⟨rfl, ho0⟩ (hn.trans h3)) h (fun v3 M4 h hn5 => ?_)
      refine w_if_ne (tgt := 26) C dX11_through_21 (by decide) (fun q => ?_) (fun q => ?_)
      · replace h := h.1 q
        refine w_aload_n C dX11_through_26 rfl (mem_k 0 rfl) ?_
        refine x_getR C dX11_through_27 fw_X11_50 (isO.n (ci := 11) ⟨rfl, ho0⟩ (hn5.trans h3)) (fun r6 er6 => ?_)
        replace h := h r6 er6
        refine w_aload_n C dX11_through_30 rfl (mem_k 0 rfl) ?_
        refine x_getR C dX11_through_31 fw_X11_36 (isO.n (ci := 11) ⟨rfl, ho0⟩ (hn5.trans h3)) (fun r7 er7 => ?_)
        replace h := h r7 er7
        refine w_iload_n C dX11_through_34 rfl (mem_k 3 rfl) ?_
        refine w_iload C dX11_through_35 (mem_k 4 rfl) ?_
        obtain ⟨o8, g9, h⟩ := h
        refine cl_X7_comesThrough (ck_X11_219 ⟨by decide, by decide⟩) C dX11_through_37 hn5 h3 (Nat.le_of_ble_eq_true rfl) (isO.n g9 (hn5.trans h3)) h (fun v10 h => ?_)
        exact x_iret C hr dX11_through_40 hn5 (hQ _ M4 h)
      · replace h := h.2 q
        refine w_iconst C dX11_through_24 ⟨by decide, by decide⟩ ?_
        exact x_iret C hr dX11_through_25 hn5 (hQ _ M4 h)
set_option maxRecDepth 100000 in
set_option maxHeartbeats 4000000 in
theorem con_X11_through (l : Launch) (D : va_G) (cy : Nat → ClassId) : Con l D cy yX11_through cX11_through 5 (some .int) ({ frames := 6, cells := 0, slots := 0, locals := 153 }) 0 0 SP_X11_through := by
  refine con_of (by decide) (fun as M Qp h => ?_) ?_
  · obtain ⟨-, o0, x1, x2, x3, x4, rfl, -⟩ := h
    exact Nat.le_of_ble_eq_true rfl
  · intro p e s m args below meth c G as M Qp h C hr hnm
    obtain ⟨hn, o0, x1, x2, x3, x4, rfl, ho1, ho2, Q0, hQ, h⟩ := h
    refine x_pick (L' := [(0, vR (some o0)), (1, vI x1), (2, vI x2), (3, vI x3), (4, vI x4)]) [0, 1, 2, 3, 4] rfl ?_
    exact k_X11_through_0 C hr hn rfl ⟨ho1, ho2⟩ hQ h
set_option maxRecDepth 100000 in
set_option maxHeartbeats 4000000 in
theorem cl_X11_through {p : Program} {l : Launch} {e : Env} {R : Room} {s : State} {m : MethodId} {args : Array Value} {below : List Frame} {meth : Method} {c : Code} {Q : State → Prop} {cc : ByteArray} {nL : Nat} {own : String} {D : va_G} {cy : Nat → ClassId} {G : Nat × Nat} {n0 pc : Nat} {L : List (Nat × PV)} {st : List PV} {M : Mm} {op : Instr} (K : CallOK l D cy R own op 0 0 (spV 11 4 SP_X11_through)) (C : Cx p s m args meth c cc nL own D cy G n0) (hd : decode cc pc = .ok (op, 3)) (hn : M.2.2.2 = n0) (h3 : n0 = 243) (hlen : argN st ≤ 8) {r : Option Nat} {o0 : Nat} (ho : isOn 11 M.2.2.2 r o0) {x1 : Int} {x2 : Int} {x3 : Int} {x4 : Int} {Q0 : Int → Mm → Prop} (h : P_X11_through o0 x1 x2 x3 x4 M Q0) (k : ∀ x M2, Q0 x M2 → M2.2.2.2 = n0 → WW p l e R s m args below meth c Q nL D cy G n0  (pc + 3) L (vI x :: st) M2) : WW p l e R s m args below meth c Q nL D cy G n0  pc L (vI x4 :: vI x3 :: vI x2 :: vI x1 :: vR r :: st) M := by
  obtain ⟨rfl, ho1, ho2⟩ := ho
  refine x_call0 K C hd (as := [vR (some o0), vI x1, vI x2, vI x3, vI x4]) rfl hn hlen (fun v M2 => ∃ x, v = some (vI x) ∧ Q0 x M2) ⟨⟨o0, [vI x1, vI x2, vI x3, vI x4], rfl, rfl, ho1, ho2⟩, hn.trans h3, o0, x1, x2, x3, x4, rfl, (hn.trans h3) ▸ ho1, ho2, Q0, fun x M2 hx => ⟨x, rfl, hx⟩, h⟩ ?_
  rintro _ _ ⟨x, rfl, hx⟩ hm
  exact k x _ hx hm
end W_X11_through
theorem dX11_isHours_0 : decode cX11_isHours 0 = .ok (.iload_n 0, 1) := by decide +kernel
theorem dX11_isHours_1 : decode cX11_isHours 1 = .ok (.iconst 0, 1) := by decide +kernel
theorem dX11_isHours_2 : decode cX11_isHours 2 = .ok (.bipush 24, 2) := by decide +kernel
theorem dX11_isHours_4 : decode cX11_isHours 4 = .ok (.invokestatic 61, 3) := by decide +kernel
theorem dX11_isHours_7 : decode cX11_isHours 7 = .ok (.ireturn, 1) := by decide +kernel
section W_X11_isHours
variable {p : Program} {l : Launch} {e : Env} {s : State} {m : MethodId} {args : Array Value} {below : List Frame} {meth : Method} {c : Code} {D : va_G} {cy : Nat → ClassId} {G : Nat × Nat} {n0 : Nat} {Qp : Option PV → Mm → Prop}
set_option maxRecDepth 100000 in
set_option maxHeartbeats 4000000 in
theorem k_X11_isHours_0 {x0 : Int} {M : Mm} {Q : Int → Prop} (C : Cx p s m args meth c cX11_isHours 1 RX11 D cy G n0) (hr : meth.sig.returnType = some .boolean) (h3 : n0 = 243) (hn : M.2.2.2 = n0) (hQ : ∀ x, Q x → Qp (some (vI x)) M) (h : P_X11_isHours x0 M Q ) : WW p l e ({ frames := 1, cells := 0, slots := 0, locals := 22 }) s m args below meth c (ZQ below args s D cy G n0 Qp n0) 1 D cy G n0 0 [(0, vI x0)] [] M := by
  unfold P_X11_isHours at h
  refine w_iload_n C dX11_isHours_0 rfl (mem_k 0 rfl) ?_
  refine w_iconst C dX11_isHours_1 ⟨by decide, by decide⟩ ?_
  refine w_bipush C dX11_isHours_2 (by decide) ?_
  refine cl_X11_isWithin (ck_X11_61 ⟨by decide, by decide⟩) C dX11_isHours_4 hn h3 (Nat.le_of_ble_eq_true rfl) h (fun v1 h => ?_)
  exact x_zret C hr dX11_isHours_7 hn h.1 (hQ _ h.2)
set_option maxRecDepth 100000 in
set_option maxHeartbeats 4000000 in
theorem con_X11_isHours (l : Launch) (D : va_G) (cy : Nat → ClassId) : Con l D cy yX11_isHours cX11_isHours 1 (some .boolean) ({ frames := 1, cells := 0, slots := 0, locals := 22 }) 0 0 SP_X11_isHours := by
  refine con_of (by decide) (fun as M Qp h => ?_) ?_
  · obtain ⟨-, x0, rfl, -⟩ := h
    exact Nat.le_of_ble_eq_true rfl
  · intro p e s m args below meth c G as M Qp h C hr hnm
    obtain ⟨hn, x0, rfl, Q0, hQ, h⟩ := h
    refine x_pick (L' := [(0, vI x0)]) [0] rfl ?_
    exact k_X11_isHours_0 C hr hn rfl hQ h
set_option maxRecDepth 100000 in
set_option maxHeartbeats 4000000 in
theorem cl_X11_isHours {p : Program} {l : Launch} {e : Env} {R : Room} {s : State} {m : MethodId} {args : Array Value} {below : List Frame} {meth : Method} {c : Code} {Q : State → Prop} {cc : ByteArray} {nL : Nat} {own : String} {D : va_G} {cy : Nat → ClassId} {G : Nat × Nat} {n0 pc : Nat} {L : List (Nat × PV)} {st : List PV} {M : Mm} {op : Instr} (K : CallOK l D cy R own op 0 0 (spS 1 SP_X11_isHours)) (C : Cx p s m args meth c cc nL own D cy G n0) (hd : decode cc pc = .ok (op, 3)) (hn : M.2.2.2 = n0) (h3 : n0 = 243) (hlen : argN st ≤ 8) {x0 : Int} {Q0 : Int → Prop} (h : P_X11_isHours x0 M Q0) (k : ∀ x, Q0 x → WW p l e R s m args below meth c Q nL D cy G n0  (pc + 3) L (vI x :: st) M) : WW p l e R s m args below meth c Q nL D cy G n0  pc L (vI x0 :: st) M := by
  refine x_call0 K C hd (as := [vI x0]) rfl hn hlen (fun v M2 => ∃ x, v = some (vI x) ∧ M2 = M ∧ Q0 x) ⟨rfl, hn.trans h3, x0, rfl, Q0, fun x hx => ⟨x, rfl, rfl, hx⟩, h⟩ ?_
  rintro _ _ ⟨x, rfl, rfl, hx⟩ hm
  exact k x hx
end W_X11_isHours
theorem dX11_dose_0 : decode cX11_dose 0 = .ok (.iload_n 3, 1) := by decide +kernel
theorem dX11_dose_1 : decode cX11_dose 1 = .ok (.invokestatic 222, 3) := by decide +kernel
theorem dX11_dose_4 : decode cX11_dose 4 = .ok (.ifCond .eq 36, 3) := by decide +kernel
theorem dX11_dose_7 : decode cX11_dose 7 = .ok (.iload 4, 2) := by decide +kernel
theorem dX11_dose_9 : decode cX11_dose 9 = .ok (.invokestatic 222, 3) := by decide +kernel
theorem dX11_dose_12 : decode cX11_dose 12 = .ok (.ifCond .eq 28, 3) := by decide +kernel
theorem dX11_dose_15 : decode cX11_dose 15 = .ok (.iload 5, 2) := by decide +kernel
theorem dX11_dose_17 : decode cX11_dose 17 = .ok (.invokestatic 222, 3) := by decide +kernel
theorem dX11_dose_20 : decode cX11_dose 20 = .ok (.ifCond .eq 20, 3) := by decide +kernel
theorem dX11_dose_23 : decode cX11_dose 23 = .ok (.iload 6, 2) := by decide +kernel
theorem dX11_dose_25 : decode cX11_dose 25 = .ok (.invokestatic 222, 3) := by decide +kernel
theorem dX11_dose_28 : decode cX11_dose 28 = .ok (.ifCond .eq 12, 3) := by decide +kernel
theorem dX11_dose_31 : decode cX11_dose 31 = .ok (.aload_n 0, 1) := by decide +kernel
theorem dX11_dose_32 : decode cX11_dose 32 = .ok (.iload_n 1, 1) := by decide +kernel
theorem dX11_dose_33 : decode cX11_dose 33 = .ok (.iload_n 2, 1) := by decide +kernel
theorem dX11_dose_34 : decode cX11_dose 34 = .ok (.invokevirtual 119, 3) := by decide +kernel
theorem dX11_dose_37 : decode cX11_dose 37 = .ok (.ifCond .ne 7, 3) := by decide +kernel
theorem dX11_dose_40 : decode cX11_dose 40 = .ok (.ldc2_w 225, 3) := by decide +kernel
theorem dX11_dose_43 : decode cX11_dose 43 = .ok (.lreturn, 1) := by decide +kernel
theorem dX11_dose_44 : decode cX11_dose 44 = .ok (.iload_n 3, 1) := by decide +kernel
theorem dX11_dose_45 : decode cX11_dose 45 = .ok (.i2l, 1) := by decide +kernel
theorem dX11_dose_46 : decode cX11_dose 46 = .ok (.aload_n 0, 1) := by decide +kernel
theorem dX11_dose_47 : decode cX11_dose 47 = .ok (.getfield 50, 3) := by decide +kernel
theorem dX11_dose_50 : decode cX11_dose 50 = .ok (.aload_n 0, 1) := by decide +kernel
theorem dX11_dose_51 : decode cX11_dose 51 = .ok (.getfield 36, 3) := by decide +kernel
theorem dX11_dose_54 : decode cX11_dose 54 = .ok (.iconst 0, 1) := by decide +kernel
theorem dX11_dose_55 : decode cX11_dose 55 = .ok (.invokevirtual 227, 3) := by decide +kernel
theorem dX11_dose_58 : decode cX11_dose 58 = .ok (.lmul, 1) := by decide +kernel
theorem dX11_dose_59 : decode cX11_dose 59 = .ok (.iload 4, 2) := by decide +kernel
theorem dX11_dose_61 : decode cX11_dose 61 = .ok (.i2l, 1) := by decide +kernel
theorem dX11_dose_62 : decode cX11_dose 62 = .ok (.aload_n 0, 1) := by decide +kernel
theorem dX11_dose_63 : decode cX11_dose 63 = .ok (.getfield 50, 3) := by decide +kernel
theorem dX11_dose_66 : decode cX11_dose 66 = .ok (.aload_n 0, 1) := by decide +kernel
theorem dX11_dose_67 : decode cX11_dose 67 = .ok (.getfield 36, 3) := by decide +kernel
theorem dX11_dose_70 : decode cX11_dose 70 = .ok (.iconst 1, 1) := by decide +kernel
theorem dX11_dose_71 : decode cX11_dose 71 = .ok (.invokevirtual 227, 3) := by decide +kernel
theorem dX11_dose_74 : decode cX11_dose 74 = .ok (.lmul, 1) := by decide +kernel
theorem dX11_dose_75 : decode cX11_dose 75 = .ok (.ladd, 1) := by decide +kernel
theorem dX11_dose_76 : decode cX11_dose 76 = .ok (.iload 5, 2) := by decide +kernel
theorem dX11_dose_78 : decode cX11_dose 78 = .ok (.i2l, 1) := by decide +kernel
theorem dX11_dose_79 : decode cX11_dose 79 = .ok (.aload_n 0, 1) := by decide +kernel
theorem dX11_dose_80 : decode cX11_dose 80 = .ok (.getfield 50, 3) := by decide +kernel
theorem dX11_dose_83 : decode cX11_dose 83 = .ok (.aload_n 0, 1) := by decide +kernel
theorem dX11_dose_84 : decode cX11_dose 84 = .ok (.getfield 36, 3) := by decide +kernel
theorem dX11_dose_87 : decode cX11_dose 87 = .ok (.iconst 2, 1) := by decide +kernel
theorem dX11_dose_88 : decode cX11_dose 88 = .ok (.invokevirtual 227, 3) := by decide +kernel
theorem dX11_dose_91 : decode cX11_dose 91 = .ok (.lmul, 1) := by decide +kernel
theorem dX11_dose_92 : decode cX11_dose 92 = .ok (.ladd, 1) := by decide +kernel
theorem dX11_dose_93 : decode cX11_dose 93 = .ok (.iload 6, 2) := by decide +kernel
theorem dX11_dose_95 : decode cX11_dose 95 = .ok (.i2l, 1) := by decide +kernel
theorem dX11_dose_96 : decode cX11_dose 96 = .ok (.aload_n 0, 1) := by decide +kernel
theorem dX11_dose_97 : decode cX11_dose 97 = .ok (.getfield 50, 3) := by decide +kernel
theorem dX11_dose_100 : decode cX11_dose 100 = .ok (.aload_n 0, 1) := by decide +kernel
theorem dX11_dose_101 : decode cX11_dose 101 = .ok (.getfield 36, 3) := by decide +kernel
theorem dX11_dose_104 : decode cX11_dose 104 = .ok (.iconst 3, 1) := by decide +kernel
theorem dX11_dose_105 : decode cX11_dose 105 = .ok (.invokevirtual 227, 3) := by decide +kernel
theorem dX11_dose_108 : decode cX11_dose 108 = .ok (.lmul, 1) := by decide +kernel
theorem dX11_dose_109 : decode cX11_dose 109 = .ok (.ladd, 1) := by decide +kernel
theorem dX11_dose_110 : decode cX11_dose 110 = .ok (.lreturn, 1) := by decide +kernel
theorem ck_X11_222 {l : Launch} {D : va_G} {cy : Nat → ClassId} {R : Room} (hR : 2 ≤ R.frames ∧ 42 ≤ R.locals) : CallOK l D cy R RX11 (.invokestatic 222) 0 0 (spS 1 SP_X11_isHours) := call_S (con_X11_isHours l D cy) (lwG_3 (i := 204) rfl rfl) (lwG_3 (i := 205) rfl rfl) (lwG_1 (i := 1) rfl rfl) (lwG_3 (i := 206) rfl rfl) ⟨by decide, by decide, rfl⟩ ⟨rfl, rfl⟩ hR
theorem cn_X11_225 : Cond.constantLong RX11 225 (Int64.ofInt (-1)) ∈ lwG := lwG_3 (i := 207) rfl rfl
theorem ck_X11_227 {l : Launch} {D : va_G} {cy : Nat → ClassId} {R : Room} (hR : 6 ≤ R.frames ∧ 139 ≤ R.locals) : CallOK l D cy R RX11 (.invokevirtual 227) 0 0 (spV 7 2 SP_X7_doseOfHour) := call_V (ci := 7) (con_X7_doseOfHour l D cy) (lwG_3 (i := 208) rfl rfl) (lwG_3 (i := 209) rfl rfl) (lwG_3 (i := 210) rfl rfl) (lwG_1 (i := 11) rfl rfl) (lwG_3 (i := 211) rfl rfl) (by decide) ⟨rfl, by decide, by decide, rfl⟩ ⟨rfl, rfl⟩ hR
section W_X11_dose
variable {p : Program} {l : Launch} {e : Env} {s : State} {m : MethodId} {args : Array Value} {below : List Frame} {meth : Method} {c : Code} {D : va_G} {cy : Nat → ClassId} {G : Nat × Nat} {n0 : Nat} {Qp : Option PV → Mm → Prop}
set_option maxRecDepth 100000 in
set_option maxHeartbeats 4000000 in
theorem k_X11_dose_0 {o0 : Nat} {x1 : Int} {x2 : Int} {x3 : Int} {x4 : Int} {x5 : Int} {x6 : Int} {M : Mm} {Q : Int → Mm → Prop} (C : Cx p s m args meth c cX11_dose 7 RX11 D cy G n0) (hr : meth.sig.returnType = some .long) (h3 : n0 = 243) (hn : M.2.2.2 = n0) (ho0 : o0 < 243 ∧ (SH o0).1 = 11) (hQ : ∀ x M, Q x M → Qp (some (vL x)) M) (h : P_X11_dose o0 x1 x2 x3 x4 x5 x6 M Q ) : WW p l e ({ frames := 6, cells := 0, slots := 0, locals := 153 }) s m args below meth c (ZQ below args s D cy G n0 Qp n0) 7 D cy G n0 0 [(0, vR (some o0)), (1, vI x1), (2, vI x2), (3, vI x3), (4, vI x4), (5, vI x5), (6, vI x6)] [] M := by
  unfold P_X11_dose at h
  refine w_iload_n C dX11_dose_0 rfl (mem_k 3 rfl) ?_
  refine cl_X11_isHours (ck_X11_222 ⟨by decide, by decide⟩) C dX11_dose_1 hn h3 (Nat.le_of_ble_eq_true rfl) h (fun v1 h => ?_)
  refine w_if_eq (tgt := 40) C dX11_dose_4 (by decide) (fun q => ?_) (fun q => ?_)
  · replace h := h.1 q
    refine w_ldc2 (x := (-1)) C dX11_dose_40 cn_X11_225 ⟨by decide, by decide⟩ ?_
    exact x_lret C hr dX11_dose_43 hn (hQ _ M h)
  · replace h := h.2 q
    refine w_iload C dX11_dose_7 (mem_k 4 rfl) ?_
    refine cl_X11_isHours (ck_X11_222 ⟨by decide, by decide⟩) C dX11_dose_9 hn h3 (Nat.le_of_ble_eq_true rfl) h (fun v2 h => ?_)
    refine w_if_eq (tgt := 40) C dX11_dose_12 (by decide) (fun q => ?_) (fun q => ?_)
    · replace h := h.1 q
      refine w_ldc2 (x := (-1)) C dX11_dose_40 cn_X11_225 ⟨by decide, by decide⟩ ?_
      exact x_lret C hr dX11_dose_43 hn (hQ _ M h)
    · replace h := h.2 q
      refine w_iload C dX11_dose_15 (mem_k 5 rfl) ?_
      refine cl_X11_isHours (ck_X11_222 ⟨by decide, by decide⟩) C dX11_dose_17 hn h3 (Nat.le_of_ble_eq_true rfl) h (fun v3 h => ?_)
      refine w_if_eq (tgt := 40) C dX11_dose_20 (by decide) (fun q => ?_) (fun q => ?_)
      · replace h := h.1 q
        refine w_ldc2 (x := (-1)) C dX11_dose_40 cn_X11_225 ⟨by decide, by decide⟩ ?_
        exact x_lret C hr dX11_dose_43 hn (hQ _ M h)
      · replace h := h.2 q
        refine w_iload C dX11_dose_23 (mem_k 6 rfl) ?_
        refine cl_X11_isHours (ck_X11_222 ⟨by decide, by decide⟩) C dX11_dose_25 hn h3 (Nat.le_of_ble_eq_true rfl) h (fun v4 h => ?_)
        refine w_if_eq (tgt := 40) C dX11_dose_28 (by decide) (fun q => ?_) (fun q => ?_)
        · replace h := h.1 q
          refine w_ldc2 (x := (-1)) C dX11_dose_40 cn_X11_225 ⟨by decide, by decide⟩ ?_
          exact x_lret C hr dX11_dose_43 hn (hQ _ M h)
        · replace h := h.2 q
          refine w_aload_n C dX11_dose_31 rfl (mem_k 0 rfl) ?_
          refine w_iload_n C dX11_dose_32 rfl (mem_k 1 rfl) ?_
          refine w_iload_n C dX11_dose_33 rfl (mem_k 2 rfl) ?_
          refine cl_X11_settles (ck_X11_119 ⟨by decide, by decide⟩) C dX11_dose_34 hn h3 (Nat.le_of_ble_eq_true rfl) (isO.n (ci := 11) ⟨rfl, ho0⟩ (hn.trans h3)) h (fun v5 M6 h hn7 => ?_)
          refine w_if_ne (tgt := 44) C dX11_dose_37 (by decide) (fun q => ?_) (fun q => ?_)
          · replace h := h.1 q
            refine w_iload_n C dX11_dose_44 rfl (mem_k 3 rfl) ?_
            refine w_i2l C dX11_dose_45 ?_
            refine w_aload_n C dX11_dose_46 rfl (mem_k 0 rfl) ?_
            refine x_getR C dX11_dose_47 fw_X11_50 (isO.n (ci := 11) ⟨rfl, ho0⟩ (hn7.trans h3)) (fun r8 er8 => ?_)
            replace h := h r8 er8
            refine w_aload_n C dX11_dose_50 rfl (mem_k 0 rfl) ?_
            refine x_getR C dX11_dose_51 fw_X11_36 (isO.n (ci := 11) ⟨rfl, ho0⟩ (hn7.trans h3)) (fun r9 er9 => ?_)
            replace h := h r9 er9
            refine w_iconst C dX11_dose_54 ⟨by decide, by decide⟩ ?_
            obtain ⟨o10, g11, h⟩ := h
            refine cl_X7_doseOfHour (ck_X11_227 ⟨by decide, by decide⟩) C dX11_dose_55 hn7 h3 (Nat.le_of_ble_eq_true rfl) (isO.n g11 (hn7.trans h3)) h (fun v12 h => ?_)
            refine w_lmul C dX11_dose_58 h.1 ?_
            replace h := h.2
            refine w_iload C dX11_dose_59 (mem_k 4 rfl) ?_
            refine w_i2l C dX11_dose_61 ?_
            refine w_aload_n C dX11_dose_62 rfl (mem_k 0 rfl) ?_
            refine x_getR C dX11_dose_63 fw_X11_50 (isO.n (ci := 11) ⟨rfl, ho0⟩ (hn7.trans h3)) (fun r13 er13 => ?_)
            replace h := h r13 er13
            refine w_aload_n C dX11_dose_66 rfl (mem_k 0 rfl) ?_
            refine x_getR C dX11_dose_67 fw_X11_36 (isO.n (ci := 11) ⟨rfl, ho0⟩ (hn7.trans h3)) (fun r14 er14 => ?_)
            replace h := h r14 er14
            refine w_iconst C dX11_dose_70 ⟨by decide, by decide⟩ ?_
            obtain ⟨o15, g16, h⟩ := h
            refine cl_X7_doseOfHour (ck_X11_227 ⟨by decide, by decide⟩) C dX11_dose_71 hn7 h3 (Nat.le_of_ble_eq_true rfl) (isO.n g16 (hn7.trans h3)) h (fun v17 h => ?_)
            refine w_lmul C dX11_dose_74 h.1 ?_
            replace h := h.2
            refine w_ladd C dX11_dose_75 h.1 ?_
            replace h := h.2
            refine w_iload C dX11_dose_76 (mem_k 5 rfl) ?_
            refine w_i2l C dX11_dose_78 ?_
            refine w_aload_n C dX11_dose_79 rfl (mem_k 0 rfl) ?_
            refine x_getR C dX11_dose_80 fw_X11_50 (isO.n (ci := 11) ⟨rfl, ho0⟩ (hn7.trans h3)) (fun r18 er18 => ?_)
            replace h := h r18 er18
            refine w_aload_n C dX11_dose_83 rfl (mem_k 0 rfl) ?_
            refine x_getR C dX11_dose_84 fw_X11_36 (isO.n (ci := 11) ⟨rfl, ho0⟩ (hn7.trans h3)) (fun r19 er19 => ?_)
            replace h := h r19 er19
            refine w_iconst C dX11_dose_87 ⟨by decide, by decide⟩ ?_
            obtain ⟨o20, g21, h⟩ := h
            refine cl_X7_doseOfHour (ck_X11_227 ⟨by decide, by decide⟩) C dX11_dose_88 hn7 h3 (Nat.le_of_ble_eq_true rfl) (isO.n g21 (hn7.trans h3)) h (fun v22 h => ?_)
            refine w_lmul C dX11_dose_91 h.1 ?_
            replace h := h.2
            refine w_ladd C dX11_dose_92 h.1 ?_
            replace h := h.2
            refine w_iload C dX11_dose_93 (mem_k 6 rfl) ?_
            refine w_i2l C dX11_dose_95 ?_
            refine w_aload_n C dX11_dose_96 rfl (mem_k 0 rfl) ?_
            refine x_getR C dX11_dose_97 fw_X11_50 (isO.n (ci := 11) ⟨rfl, ho0⟩ (hn7.trans h3)) (fun r23 er23 => ?_)
            replace h := h r23 er23
            refine w_aload_n C dX11_dose_100 rfl (mem_k 0 rfl) ?_
            refine x_getR C dX11_dose_101 fw_X11_36 (isO.n (ci := 11) ⟨rfl, ho0⟩ (hn7.trans h3)) (fun r24 er24 => ?_)
            replace h := h r24 er24
            refine w_iconst C dX11_dose_104 ⟨by decide, by decide⟩ ?_
            obtain ⟨o25, g26, h⟩ := h
            refine cl_X7_doseOfHour (ck_X11_227 ⟨by decide, by decide⟩) C dX11_dose_105 hn7 h3 (Nat.le_of_ble_eq_true rfl) (isO.n g26 (hn7.trans h3)) h (fun v27 h => ?_)
            refine w_lmul C dX11_dose_108 h.1 ?_
            replace h := h.2
            refine w_ladd C dX11_dose_109 h.1 ?_
            replace h := h.2
            exact x_lret C hr dX11_dose_110 hn7 (hQ _ M6 h)
          · replace h := h.2 q
            refine w_ldc2 (x := (-1)) C dX11_dose_40 cn_X11_225 ⟨by decide, by decide⟩ ?_
            exact x_lret C hr dX11_dose_43 hn7 (hQ _ M6 h)
set_option maxRecDepth 100000 in
set_option maxHeartbeats 4000000 in
theorem con_X11_dose (l : Launch) (D : va_G) (cy : Nat → ClassId) : Con l D cy yX11_dose cX11_dose 7 (some .long) ({ frames := 6, cells := 0, slots := 0, locals := 153 }) 0 0 SP_X11_dose := by
  refine con_of (by decide) (fun as M Qp h => ?_) ?_
  · obtain ⟨-, o0, x1, x2, x3, x4, x5, x6, rfl, -⟩ := h
    exact Nat.le_of_ble_eq_true rfl
  · intro p e s m args below meth c G as M Qp h C hr hnm
    obtain ⟨hn, o0, x1, x2, x3, x4, x5, x6, rfl, ho1, ho2, Q0, hQ, h⟩ := h
    refine x_pick (L' := [(0, vR (some o0)), (1, vI x1), (2, vI x2), (3, vI x3), (4, vI x4), (5, vI x5), (6, vI x6)]) [0, 1, 2, 3, 4, 5, 6] rfl ?_
    exact k_X11_dose_0 C hr hn rfl ⟨ho1, ho2⟩ hQ h
set_option maxRecDepth 100000 in
set_option maxHeartbeats 4000000 in
theorem cl_X11_dose {p : Program} {l : Launch} {e : Env} {R : Room} {s : State} {m : MethodId} {args : Array Value} {below : List Frame} {meth : Method} {c : Code} {Q : State → Prop} {cc : ByteArray} {nL : Nat} {own : String} {D : va_G} {cy : Nat → ClassId} {G : Nat × Nat} {n0 pc : Nat} {L : List (Nat × PV)} {st : List PV} {M : Mm} {op : Instr} (K : CallOK l D cy R own op 0 0 (spV 11 6 SP_X11_dose)) (C : Cx p s m args meth c cc nL own D cy G n0) (hd : decode cc pc = .ok (op, 3)) (hn : M.2.2.2 = n0) (h3 : n0 = 243) (hlen : argN st ≤ 8) {r : Option Nat} {o0 : Nat} (ho : isOn 11 M.2.2.2 r o0) {x1 : Int} {x2 : Int} {x3 : Int} {x4 : Int} {x5 : Int} {x6 : Int} {Q0 : Int → Mm → Prop} (h : P_X11_dose o0 x1 x2 x3 x4 x5 x6 M Q0) (k : ∀ x M2, Q0 x M2 → M2.2.2.2 = n0 → WW p l e R s m args below meth c Q nL D cy G n0  (pc + 3) L (vL x :: st) M2) : WW p l e R s m args below meth c Q nL D cy G n0  pc L (vI x6 :: vI x5 :: vI x4 :: vI x3 :: vI x2 :: vI x1 :: vR r :: st) M := by
  obtain ⟨rfl, ho1, ho2⟩ := ho
  refine x_call0 K C hd (as := [vR (some o0), vI x1, vI x2, vI x3, vI x4, vI x5, vI x6]) rfl hn hlen (fun v M2 => ∃ x, v = some (vL x) ∧ Q0 x M2) ⟨⟨o0, [vI x1, vI x2, vI x3, vI x4, vI x5, vI x6], rfl, rfl, ho1, ho2⟩, hn.trans h3, o0, x1, x2, x3, x4, x5, x6, rfl, (hn.trans h3) ▸ ho1, ho2, Q0, fun x M2 hx => ⟨x, rfl, hx⟩, h⟩ ?_
  rintro _ _ ⟨x, rfl, hx⟩ hm
  exact k x _ hx hm
end W_X11_dose
theorem dX11_years_0 : decode cX11_years 0 = .ok (.aload_n 0, 1) := by decide +kernel
theorem dX11_years_1 : decode cX11_years 1 = .ok (.getfield 29, 3) := by decide +kernel
theorem dX11_years_4 : decode cX11_years 4 = .ok (.iload_n 2, 1) := by decide +kernel
theorem dX11_years_5 : decode cX11_years 5 = .ok (.invokevirtual 111, 3) := by decide +kernel
theorem dX11_years_8 : decode cX11_years 8 = .ok (.astore 5, 2) := by decide +kernel
theorem dX11_years_10 : decode cX11_years 10 = .ok (.aload_n 0, 1) := by decide +kernel
theorem dX11_years_11 : decode cX11_years 11 = .ok (.getfield 19, 3) := by decide +kernel
theorem dX11_years_14 : decode cX11_years 14 = .ok (.iload_n 1, 1) := by decide +kernel
theorem dX11_years_15 : decode cX11_years 15 = .ok (.invokevirtual 154, 3) := by decide +kernel
theorem dX11_years_18 : decode cX11_years 18 = .ok (.astore 6, 2) := by decide +kernel
theorem dX11_years_20 : decode cX11_years 20 = .ok (.aload 5, 2) := by decide +kernel
theorem dX11_years_22 : decode cX11_years 22 = .ok (.ifnull 30, 3) := by decide +kernel
theorem dX11_years_25 : decode cX11_years 25 = .ok (.aload 6, 2) := by decide +kernel
theorem dX11_years_27 : decode cX11_years 27 = .ok (.ifnull 25, 3) := by decide +kernel
theorem dX11_years_30 : decode cX11_years 30 = .ok (.iload_n 3, 1) := by decide +kernel
theorem dX11_years_31 : decode cX11_years 31 = .ok (.iconst 1, 1) := by decide +kernel
theorem dX11_years_32 : decode cX11_years 32 = .ok (.sipush 5000, 3) := by decide +kernel
theorem dX11_years_35 : decode cX11_years 35 = .ok (.invokestatic 61, 3) := by decide +kernel
theorem dX11_years_38 : decode cX11_years 38 = .ok (.ifCond .eq 14, 3) := by decide +kernel
theorem dX11_years_41 : decode cX11_years 41 = .ok (.iload 4, 2) := by decide +kernel
theorem dX11_years_43 : decode cX11_years 43 = .ok (.iconst 1, 1) := by decide +kernel
theorem dX11_years_44 : decode cX11_years 44 = .ok (.bipush 20, 2) := by decide +kernel
theorem dX11_years_46 : decode cX11_years 46 = .ok (.invokestatic 61, 3) := by decide +kernel
theorem dX11_years_49 : decode cX11_years 49 = .ok (.ifCond .ne 5, 3) := by decide +kernel
theorem dX11_years_52 : decode cX11_years 52 = .ok (.iconst (-1), 1) := by decide +kernel
theorem dX11_years_53 : decode cX11_years 53 = .ok (.ireturn, 1) := by decide +kernel
theorem dX11_years_54 : decode cX11_years 54 = .ok (.aload 6, 2) := by decide +kernel
theorem dX11_years_56 : decode cX11_years 56 = .ok (.getfield 231, 3) := by decide +kernel
theorem dX11_years_59 : decode cX11_years 59 = .ok (.iload 4, 2) := by decide +kernel
theorem dX11_years_61 : decode cX11_years 61 = .ok (.iadd, 1) := by decide +kernel
theorem dX11_years_62 : decode cX11_years 62 = .ok (.bipush 100, 2) := by decide +kernel
theorem dX11_years_64 : decode cX11_years 64 = .ok (.if_icmp .le 6, 3) := by decide +kernel
theorem dX11_years_67 : decode cX11_years 67 = .ok (.bipush (-3), 2) := by decide +kernel
theorem dX11_years_69 : decode cX11_years 69 = .ok (.ireturn, 1) := by decide +kernel
theorem dX11_years_70 : decode cX11_years 70 = .ok (.aload_n 0, 1) := by decide +kernel
theorem dX11_years_71 : decode cX11_years 71 = .ok (.getfield 36, 3) := by decide +kernel
theorem dX11_years_74 : decode cX11_years 74 = .ok (.aload 6, 2) := by decide +kernel
theorem dX11_years_76 : decode cX11_years 76 = .ok (.invokevirtual 236, 3) := by decide +kernel
theorem dX11_years_79 : decode cX11_years 79 = .ok (.iconst 0, 1) := by decide +kernel
theorem dX11_years_80 : decode cX11_years 80 = .ok (.istore 7, 2) := by decide +kernel
theorem dX11_years_82 : decode cX11_years 82 = .ok (.iload 7, 2) := by decide +kernel
theorem dX11_years_84 : decode cX11_years 84 = .ok (.iload 4, 2) := by decide +kernel
theorem dX11_years_86 : decode cX11_years 86 = .ok (.if_icmp .ge 28, 3) := by decide +kernel
theorem dX11_years_89 : decode cX11_years 89 = .ok (.aload_n 0, 1) := by decide +kernel
theorem dX11_years_90 : decode cX11_years 90 = .ok (.getfield 36, 3) := by decide +kernel
theorem dX11_years_93 : decode cX11_years 93 = .ok (.aload 5, 2) := by decide +kernel
theorem dX11_years_95 : decode cX11_years 95 = .ok (.aload 6, 2) := by decide +kernel
theorem dX11_years_97 : decode cX11_years 97 = .ok (.invokevirtual 240, 3) := by decide +kernel
theorem dX11_years_100 : decode cX11_years 100 = .ok (.aload_n 0, 1) := by decide +kernel
theorem dX11_years_101 : decode cX11_years 101 = .ok (.getfield 36, 3) := by decide +kernel
theorem dX11_years_104 : decode cX11_years 104 = .ok (.iload_n 3, 1) := by decide +kernel
theorem dX11_years_105 : decode cX11_years 105 = .ok (.invokevirtual 244, 3) := by decide +kernel
theorem dX11_years_108 : decode cX11_years 108 = .ok (.iinc 7 1, 3) := by decide +kernel
theorem dX11_years_111 : decode cX11_years 111 = .ok (.goto (-29), 3) := by decide +kernel
theorem dX11_years_114 : decode cX11_years 114 = .ok (.aload_n 0, 1) := by decide +kernel
theorem dX11_years_115 : decode cX11_years 115 = .ok (.getfield 36, 3) := by decide +kernel
theorem dX11_years_118 : decode cX11_years 118 = .ok (.aload 6, 2) := by decide +kernel
theorem dX11_years_120 : decode cX11_years 120 = .ok (.invokevirtual 248, 3) := by decide +kernel
theorem dX11_years_123 : decode cX11_years 123 = .ok (.aload 6, 2) := by decide +kernel
theorem dX11_years_125 : decode cX11_years 125 = .ok (.dup, 1) := by decide +kernel
theorem dX11_years_126 : decode cX11_years 126 = .ok (.getfield 231, 3) := by decide +kernel
theorem dX11_years_129 : decode cX11_years 129 = .ok (.iload 4, 2) := by decide +kernel
theorem dX11_years_131 : decode cX11_years 131 = .ok (.iadd, 1) := by decide +kernel
theorem dX11_years_132 : decode cX11_years 132 = .ok (.putfield 231, 3) := by decide +kernel
theorem dX11_years_135 : decode cX11_years 135 = .ok (.aload 6, 2) := by decide +kernel
theorem dX11_years_137 : decode cX11_years 137 = .ok (.getfield 231, 3) := by decide +kernel
theorem dX11_years_140 : decode cX11_years 140 = .ok (.ireturn, 1) := by decide +kernel
theorem ck_X11_248 {l : Launch} {D : va_G} {cy : Nat → ClassId} {R : Room} (hR : 1 ≤ R.frames ∧ 22 ≤ R.locals) : CallOK l D cy R RX11 (.invokevirtual 248) 0 0 (spV 6 1 SP_X6_giveWorn) := call_V (ci := 6) (con_X6_giveWorn l D cy) (lwG_3 (i := 224) rfl rfl) (lwG_3 (i := 225) rfl rfl) (lwG_3 (i := 226) rfl rfl) (lwG_1 (i := 9) rfl rfl) (lwG_3 (i := 227) rfl rfl) (by decide) ⟨rfl, by decide, by decide, rfl⟩ ⟨rfl, rfl⟩ hR
theorem fw_X11_231 : fI RX11 231 8 4 := ⟨⟨lwG_1 (i := 115) rfl rfl, by decide, by decide⟩, rfl⟩
theorem ck_X11_244 {l : Launch} {D : va_G} {cy : Nat → ClassId} {R : Room} (hR : 5 ≤ R.frames ∧ 107 ≤ R.locals) : CallOK l D cy R RX11 (.invokevirtual 244) 0 0 (spV 6 1 SP_X6_wearOneYear) := call_V (ci := 6) (con_X6_wearOneYear l D cy) (lwG_3 (i := 217) rfl rfl) (lwG_3 (i := 218) rfl rfl) (lwG_3 (i := 219) rfl rfl) (lwG_1 (i := 9) rfl rfl) (lwG_3 (i := 220) rfl rfl) (by decide) ⟨rfl, by decide, by decide, rfl⟩ ⟨rfl, rfl⟩ hR
section W_X11_years
variable {p : Program} {l : Launch} {e : Env} {s : State} {m : MethodId} {args : Array Value} {below : List Frame} {meth : Method} {c : Code} {D : va_G} {cy : Nat → ClassId} {G : Nat × Nat} {n0 : Nat} {Qp : Option PV → Mm → Prop}
set_option maxRecDepth 100000 in
set_option maxHeartbeats 4000000 in
theorem f_X11_years_82 {o0 : Nat} {x3 : Int} {x4 : Int} {a5 : Option Nat} {a6 : Option Nat} {x7 : Int} {M : Mm} {Q : Int → Mm → Prop} {K82 : Int × Mm → Prop} (C : Cx p s m args meth c cX11_years 8 RX11 D cy G n0) (hr : meth.sig.returnType = some .int) (h3 : n0 = 243) (hn : M.2.2.2 = n0) (ho0 : o0 < 243 ∧ (SH o0).1 = 11) (hQ : ∀ x M, Q x M → Qp (some (vI x)) M) (hK82 : ∀ (x7 : Int) (M : Mm), K82 (x7, M) → M.2.2.2 = n0 → WW p l e ({ frames := 5, cells := 0, slots := 0, locals := 129 }) s m args below meth c (ZQ below args s D cy G n0 Qp n0) 8 D cy G n0 82 [(0, vR (some o0)), (3, vI x3), (4, vI x4), (5, vR a5), (6, vR a6), (7, vI x7)] [] M) (h : F_X11_years_82 o0 x3 x4 a5 a6 Q  K82 x7 M) : WW p l e ({ frames := 5, cells := 0, slots := 0, locals := 129 }) s m args below meth c (ZQ below args s D cy G n0 Qp n0) 8 D cy G n0 82 [(0, vR (some o0)), (3, vI x3), (4, vI x4), (5, vR a5), (6, vR a6), (7, vI x7)] [] M := by
  unfold F_X11_years_82 at h
  refine w_iload C dX11_years_82 (mem_k 5 rfl) ?_
  refine w_iload C dX11_years_84 (mem_k 2 rfl) ?_
  refine w_icmp_ge (tgt := 114) C dX11_years_86 (by decide) (fun q => ?_) (fun q => ?_)
  · replace h := h.1 q
    refine w_aload_n C dX11_years_114 rfl (mem_k 0 rfl) ?_
    refine x_getR C dX11_years_115 fw_X11_36 (isO.n (ci := 11) ⟨rfl, ho0⟩ (hn.trans h3)) (fun r1 er1 => ?_)
    replace h := h r1 er1
    refine w_aload C dX11_years_118 (mem_k 4 rfl) ?_
    obtain ⟨o2, g3, h⟩ := h
    refine cl_X6_giveWorn (ck_X11_248 ⟨by decide, by decide⟩) C dX11_years_120 hn h3 (Nat.le_of_ble_eq_true rfl) (isO.n g3 (hn.trans h3)) h (fun M4 h hn5 => ?_)
    refine w_aload C dX11_years_123 (mem_k 4 rfl) ?_
    refine w_dup C dX11_years_125 rfl ?_
    obtain ⟨o6, g7, h⟩ := h
    refine x_getI C dX11_years_126 fw_X11_231 (isO.n g7 (hn5.trans h3)) ?_
    refine w_iload C dX11_years_129 (mem_k 2 rfl) ?_
    refine w_iadd C dX11_years_131 h.1 ?_
    replace h := h.2
    refine x_putI C dX11_years_132 fw_X11_231 (isO.n g7 (hn5.trans h3)) (Or.inl rfl) (fun M8 eM8 hn9 => ?_)
    replace h := h M8 eM8
    replace hn9 := hn9.trans hn5
    refine w_aload C dX11_years_135 (mem_k 4 rfl) ?_
    refine x_getI C dX11_years_137 fw_X11_231 (isO.n g7 (hn9.trans h3)) ?_
    exact x_iret C hr dX11_years_140 hn9 (hQ _ M8 h)
  · replace h := h.2 q
    refine w_aload_n C dX11_years_89 rfl (mem_k 0 rfl) ?_
    refine x_getR C dX11_years_90 fw_X11_36 (isO.n (ci := 11) ⟨rfl, ho0⟩ (hn.trans h3)) (fun r10 er10 => ?_)
    replace h := h r10 er10
    refine w_aload C dX11_years_93 (mem_k 3 rfl) ?_
    refine w_aload C dX11_years_95 (mem_k 4 rfl) ?_
    obtain ⟨o11, g12, h⟩ := h
    refine cl_X6_settle (ck_X11_240 ⟨by decide, by decide⟩) C dX11_years_97 hn h3 (Nat.le_of_ble_eq_true rfl) (isO.n g12 (hn.trans h3)) h (fun M13 h hn14 => ?_)
    refine w_aload_n C dX11_years_100 rfl (mem_k 0 rfl) ?_
    refine x_getR C dX11_years_101 fw_X11_36 (isO.n (ci := 11) ⟨rfl, ho0⟩ (hn14.trans h3)) (fun r15 er15 => ?_)
    replace h := h r15 er15
    refine w_iload_n C dX11_years_104 rfl (mem_k 1 rfl) ?_
    obtain ⟨o16, g17, h⟩ := h
    refine cl_X6_wearOneYear (ck_X11_244 ⟨by decide, by decide⟩) C dX11_years_105 hn14 h3 (Nat.le_of_ble_eq_true rfl) (isO.n g17 (hn14.trans h3)) h (fun M18 h hn19 => ?_)
    obtain ⟨v20, ev20⟩ : ∃ z : Int, z = x7 + 1 := ⟨_, rfl⟩
    refine x_iinc (L' := [(7, vI v20), (0, vR (some o0)), (3, vI x3), (4, vI x4), (5, vR a5), (6, vR a6)]) C dX11_years_108 (mem_k 5 rfl) (by decide) h.1 ev20 rfl ?_
    replace h := h.2 v20 ev20
    refine w_goto (tgt := 82) C dX11_years_111 (by decide) ?_
    refine x_pc (pc2 := 82) rfl ?_
    refine x_pick (L' := [(0, vR (some o0)), (3, vI x3), (4, vI x4), (5, vR a5), (6, vR a6), (7, vI v20)]) [1, 2, 3, 4, 5, 0] rfl ?_
    exact hK82 v20 M18 h hn19
set_option maxRecDepth 100000 in
set_option maxHeartbeats 4000000 in
theorem k_X11_years_82 {o0 : Nat} {x3 : Int} {x4 : Int} {a5 : Option Nat} {a6 : Option Nat} {x7 : Int} {M : Mm} {Q : Int → Mm → Prop} (C : Cx p s m args meth c cX11_years 8 RX11 D cy G n0) (hr : meth.sig.returnType = some .int) (h3 : n0 = 243) (hn : M.2.2.2 = n0) (ho0 : o0 < 243 ∧ (SH o0).1 = 11) (hQ : ∀ x M, Q x M → Qp (some (vI x)) M) (h : P_X11_years_82 o0 x3 x4 a5 a6 x7 M Q ) : WW p l e ({ frames := 5, cells := 0, slots := 0, locals := 129 }) s m args below meth c (ZQ below args s D cy G n0 Qp n0) 8 D cy G n0 82 [(0, vR (some o0)), (3, vI x3), (4, vI x4), (5, vR a5), (6, vR a6), (7, vI x7)] [] M := by
  refine lpW_sound (P := fun y : Int × Mm => y.2.2.2.2 = n0 → WW p l e ({ frames := 5, cells := 0, slots := 0, locals := 129 }) s m args below meth c (ZQ below args s D cy G n0 Qp n0) 8 D cy G n0 82 [(0, vR (some o0)), (3, vI x3), (4, vI x4), (5, vR a5), (6, vR a6), (7, vI y.1)] [] y.2) ?_ h hn
  intro K y hK hF
  obtain ⟨x7, M⟩ := y
  intro hn
  exact f_X11_years_82 C hr h3 hn ho0 hQ  (fun x7 M hk => hK (x7, M) hk) hF
set_option maxRecDepth 100000 in
set_option maxHeartbeats 4000000 in
theorem k_X11_years_0 {o0 : Nat} {x1 : Int} {x2 : Int} {x3 : Int} {x4 : Int} {M : Mm} {Q : Int → Mm → Prop} (C : Cx p s m args meth c cX11_years 8 RX11 D cy G n0) (hr : meth.sig.returnType = some .int) (h3 : n0 = 243) (hn : M.2.2.2 = n0) (ho0 : o0 < 243 ∧ (SH o0).1 = 11) (hQ : ∀ x M, Q x M → Qp (some (vI x)) M) (h : P_X11_years o0 x1 x2 x3 x4 M Q ) : WW p l e ({ frames := 5, cells := 0, slots := 0, locals := 129 }) s m args below meth c (ZQ below args s D cy G n0 Qp n0) 8 D cy G n0 0 [(0, vR (some o0)), (1, vI x1), (2, vI x2), (3, vI x3), (4, vI x4)] [] M := by
  unfold P_X11_years at h
  refine w_aload_n C dX11_years_0 rfl (mem_k 0 rfl) ?_
  refine x_getR C dX11_years_1 fw_X11_29 (isO.n (ci := 11) ⟨rfl, ho0⟩ (hn.trans h3)) (fun r21 er21 => ?_)
  replace h := h r21 er21
  refine w_iload_n C dX11_years_4 rfl (mem_k 2 rfl) ?_
  obtain ⟨o22, g23, h⟩ := h
  refine cl_X1_bodyAt (ck_X11_111 ⟨by decide, by decide⟩) C dX11_years_5 hn h3 (Nat.le_of_ble_eq_true rfl) (isO.n g23 (hn.trans h3)) h (fun r24 h => ?_)
  refine x_astore (L' := [(5, vR r24), (0, vR (some o0)), (1, vI x1), (2, vI x2), (3, vI x3), (4, vI x4)]) C dX11_years_8 (by decide) rfl ?_
  refine w_aload_n C dX11_years_10 rfl (mem_k 1 rfl) ?_
  refine x_getR C dX11_years_11 fw_X11_19 (isO.n (ci := 11) ⟨rfl, ho0⟩ (hn.trans h3)) (fun r25 er25 => ?_)
  replace h := h r25 er25
  refine w_iload_n C dX11_years_14 rfl (mem_k 2 rfl) ?_
  obtain ⟨o26, g27, h⟩ := h
  refine cl_X5_seatAt (ck_X11_154 ⟨by decide, by decide⟩) C dX11_years_15 hn h3 (Nat.le_of_ble_eq_true rfl) (isO.n g27 (hn.trans h3)) h (fun r28 h => ?_)
  refine x_astore (L' := [(6, vR r28), (5, vR r24), (0, vR (some o0)), (1, vI x1), (2, vI x2), (3, vI x3), (4, vI x4)]) C dX11_years_18 (by decide) rfl ?_
  refine w_aload C dX11_years_20 (mem_k 1 rfl) ?_
  refine w_ifnull (tgt := 52) C dX11_years_22 (by decide) (fun q => ?_) (fun z29 q => ?_)
  · replace h := h.1 q
    refine w_iconst C dX11_years_52 ⟨by decide, by decide⟩ ?_
    exact x_iret C hr dX11_years_53 hn (hQ _ M h)
  · replace h := h.2 z29 q
    refine w_aload C dX11_years_25 (mem_k 0 rfl) ?_
    refine w_ifnull (tgt := 52) C dX11_years_27 (by decide) (fun q => ?_) (fun z30 q => ?_)
    · replace h := h.1 q
      refine w_iconst C dX11_years_52 ⟨by decide, by decide⟩ ?_
      exact x_iret C hr dX11_years_53 hn (hQ _ M h)
    · replace h := h.2 z30 q
      refine w_iload_n C dX11_years_30 rfl (mem_k 5 rfl) ?_
      refine w_iconst C dX11_years_31 ⟨by decide, by decide⟩ ?_
      refine w_sipush C dX11_years_32 (by decide) ?_
      refine cl_X11_isWithin (ck_X11_61 ⟨by decide, by decide⟩) C dX11_years_35 hn h3 (Nat.le_of_ble_eq_true rfl) h (fun v31 h => ?_)
      refine w_if_eq (tgt := 52) C dX11_years_38 (by decide) (fun q => ?_) (fun q => ?_)
      · replace h := h.1 q
        refine w_iconst C dX11_years_52 ⟨by decide, by decide⟩ ?_
        exact x_iret C hr dX11_years_53 hn (hQ _ M h)
      · replace h := h.2 q
        refine w_iload C dX11_years_41 (mem_k 6 rfl) ?_
        refine w_iconst C dX11_years_43 ⟨by decide, by decide⟩ ?_
        refine w_bipush C dX11_years_44 (by decide) ?_
        refine cl_X11_isWithin (ck_X11_61 ⟨by decide, by decide⟩) C dX11_years_46 hn h3 (Nat.le_of_ble_eq_true rfl) h (fun v32 h => ?_)
        refine w_if_ne (tgt := 54) C dX11_years_49 (by decide) (fun q => ?_) (fun q => ?_)
        · replace h := h.1 q
          refine w_aload C dX11_years_54 (mem_k 0 rfl) ?_
          obtain ⟨o33, g34, h⟩ := h
          refine x_getI C dX11_years_56 fw_X11_231 (isO.n g34 (hn.trans h3)) ?_
          refine w_iload C dX11_years_59 (mem_k 6 rfl) ?_
          refine w_iadd C dX11_years_61 h.1 ?_
          replace h := h.2
          refine w_bipush C dX11_years_62 (by decide) ?_
          refine w_icmp_le (tgt := 70) C dX11_years_64 (by decide) (fun q => ?_) (fun q => ?_)
          · replace h := h.1 q
            refine w_aload_n C dX11_years_70 rfl (mem_k 2 rfl) ?_
            refine x_getR C dX11_years_71 fw_X11_36 (isO.n (ci := 11) ⟨rfl, ho0⟩ (hn.trans h3)) (fun r35 er35 => ?_)
            replace h := h r35 er35
            refine w_aload C dX11_years_74 (mem_k 0 rfl) ?_
            obtain ⟨o36, g37, h⟩ := h
            refine cl_X6_takeWorn (ck_X11_236 ⟨by decide, by decide⟩) C dX11_years_76 hn h3 (Nat.le_of_ble_eq_true rfl) (isO.n g37 (hn.trans h3)) h (fun M38 h hn39 => ?_)
            refine w_iconst C dX11_years_79 ⟨by decide, by decide⟩ ?_
            refine x_istore (L' := [(7, vI 0), (6, vR r28), (5, vR r24), (0, vR (some o0)), (1, vI x1), (2, vI x2), (3, vI x3), (4, vI x4)]) C dX11_years_80 (by decide) rfl ?_
            refine x_pc (pc2 := 82) rfl ?_
            refine x_pick (L' := [(0, vR (some o0)), (3, vI x3), (4, vI x4), (5, vR r24), (6, vR r28), (7, vI 0)]) [3, 6, 7, 2, 1, 0] rfl ?_
            exact k_X11_years_82 C hr h3 hn39 ho0 hQ  h
          · replace h := h.2 q
            refine w_bipush C dX11_years_67 (by decide) ?_
            exact x_iret C hr dX11_years_69 hn (hQ _ M h)
        · replace h := h.2 q
          refine w_iconst C dX11_years_52 ⟨by decide, by decide⟩ ?_
          exact x_iret C hr dX11_years_53 hn (hQ _ M h)
set_option maxRecDepth 100000 in
set_option maxHeartbeats 4000000 in
theorem con_X11_years (l : Launch) (D : va_G) (cy : Nat → ClassId) : Con l D cy yX11_years cX11_years 8 (some .int) ({ frames := 5, cells := 0, slots := 0, locals := 129 }) 0 0 SP_X11_years := by
  refine con_of (by decide) (fun as M Qp h => ?_) ?_
  · obtain ⟨-, o0, x1, x2, x3, x4, rfl, -⟩ := h
    exact Nat.le_of_ble_eq_true rfl
  · intro p e s m args below meth c G as M Qp h C hr hnm
    obtain ⟨hn, o0, x1, x2, x3, x4, rfl, ho1, ho2, Q0, hQ, h⟩ := h
    refine x_pick (L' := [(0, vR (some o0)), (1, vI x1), (2, vI x2), (3, vI x3), (4, vI x4)]) [0, 1, 2, 3, 4] rfl ?_
    exact k_X11_years_0 C hr hn rfl ⟨ho1, ho2⟩ hQ h
set_option maxRecDepth 100000 in
set_option maxHeartbeats 4000000 in
theorem cl_X11_years {p : Program} {l : Launch} {e : Env} {R : Room} {s : State} {m : MethodId} {args : Array Value} {below : List Frame} {meth : Method} {c : Code} {Q : State → Prop} {cc : ByteArray} {nL : Nat} {own : String} {D : va_G} {cy : Nat → ClassId} {G : Nat × Nat} {n0 pc : Nat} {L : List (Nat × PV)} {st : List PV} {M : Mm} {op : Instr} (K : CallOK l D cy R own op 0 0 (spV 11 4 SP_X11_years)) (C : Cx p s m args meth c cc nL own D cy G n0) (hd : decode cc pc = .ok (op, 3)) (hn : M.2.2.2 = n0) (h3 : n0 = 243) (hlen : argN st ≤ 8) {r : Option Nat} {o0 : Nat} (ho : isOn 11 M.2.2.2 r o0) {x1 : Int} {x2 : Int} {x3 : Int} {x4 : Int} {Q0 : Int → Mm → Prop} (h : P_X11_years o0 x1 x2 x3 x4 M Q0) (k : ∀ x M2, Q0 x M2 → M2.2.2.2 = n0 → WW p l e R s m args below meth c Q nL D cy G n0  (pc + 3) L (vI x :: st) M2) : WW p l e R s m args below meth c Q nL D cy G n0  pc L (vI x4 :: vI x3 :: vI x2 :: vI x1 :: vR r :: st) M := by
  obtain ⟨rfl, ho1, ho2⟩ := ho
  refine x_call0 K C hd (as := [vR (some o0), vI x1, vI x2, vI x3, vI x4]) rfl hn hlen (fun v M2 => ∃ x, v = some (vI x) ∧ Q0 x M2) ⟨⟨o0, [vI x1, vI x2, vI x3, vI x4], rfl, rfl, ho1, ho2⟩, hn.trans h3, o0, x1, x2, x3, x4, rfl, (hn.trans h3) ▸ ho1, ho2, Q0, fun x M2 hx => ⟨x, rfl, hx⟩, h⟩ ?_
  rintro _ _ ⟨x, rfl, hx⟩ hm
  exact k x _ hx hm
end W_X11_years
theorem dX11_worn_0 : decode cX11_worn 0 = .ok (.aload_n 0, 1) := by decide +kernel
theorem dX11_worn_1 : decode cX11_worn 1 = .ok (.getfield 19, 3) := by decide +kernel
theorem dX11_worn_4 : decode cX11_worn 4 = .ok (.iload_n 1, 1) := by decide +kernel
theorem dX11_worn_5 : decode cX11_worn 5 = .ok (.invokevirtual 154, 3) := by decide +kernel
theorem dX11_worn_8 : decode cX11_worn 8 = .ok (.astore_n 3, 1) := by decide +kernel
theorem dX11_worn_9 : decode cX11_worn 9 = .ok (.aload_n 3, 1) := by decide +kernel
theorem dX11_worn_10 : decode cX11_worn 10 = .ok (.ifnonnull 7, 3) := by decide +kernel
theorem dX11_worn_13 : decode cX11_worn 13 = .ok (.aconst_null, 1) := by decide +kernel
theorem dX11_worn_14 : decode cX11_worn 14 = .ok (.goto 8, 3) := by decide +kernel
theorem dX11_worn_17 : decode cX11_worn 17 = .ok (.aload_n 3, 1) := by decide +kernel
theorem dX11_worn_18 : decode cX11_worn 18 = .ok (.iload_n 2, 1) := by decide +kernel
theorem dX11_worn_19 : decode cX11_worn 19 = .ok (.invokevirtual 251, 3) := by decide +kernel
theorem dX11_worn_22 : decode cX11_worn 22 = .ok (.astore 4, 2) := by decide +kernel
theorem dX11_worn_24 : decode cX11_worn 24 = .ok (.aload 4, 2) := by decide +kernel
theorem dX11_worn_26 : decode cX11_worn 26 = .ok (.ifnonnull 7, 3) := by decide +kernel
theorem dX11_worn_29 : decode cX11_worn 29 = .ok (.iconst (-1), 1) := by decide +kernel
theorem dX11_worn_30 : decode cX11_worn 30 = .ok (.goto 8, 3) := by decide +kernel
theorem dX11_worn_33 : decode cX11_worn 33 = .ok (.aload 4, 2) := by decide +kernel
theorem dX11_worn_35 : decode cX11_worn 35 = .ok (.getfield 255, 3) := by decide +kernel
theorem dX11_worn_38 : decode cX11_worn 38 = .ok (.ireturn, 1) := by decide +kernel
theorem fw_X11_255 : fI RX11 255 4 3 := ⟨⟨lwG_1 (i := 98) rfl rfl, by decide, by decide⟩, rfl⟩
section W_X11_worn
variable {p : Program} {l : Launch} {e : Env} {s : State} {m : MethodId} {args : Array Value} {below : List Frame} {meth : Method} {c : Code} {D : va_G} {cy : Nat → ClassId} {G : Nat × Nat} {n0 : Nat} {Qp : Option PV → Mm → Prop}
set_option maxRecDepth 100000 in
set_option maxHeartbeats 4000000 in
theorem k_X11_worn_22 {as0 : Option Nat} {M : Mm} {Q : Int → Prop} {o0 : Nat} (C : Cx p s m args meth c cX11_worn 5 RX11 D cy G n0) (hr : meth.sig.returnType = some .int) (h3 : n0 = 243) (hn : M.2.2.2 = n0) (ho0 : o0 < 243 ∧ (SH o0).1 = 11) (hQ : ∀ x, Q x → Qp (some (vI x)) M) (h : P_X11_worn_22 as0 M Q ) : WW p l e ({ frames := 2, cells := 0, slots := 0, locals := 43 }) s m args below meth c (ZQ below args s D cy G n0 Qp n0) 5 D cy G n0 22 [] [vR as0] M := by
  unfold P_X11_worn_22 at h
  refine x_astore (L' := [(4, vR as0)]) C dX11_worn_22 (by decide) rfl ?_
  refine w_aload C dX11_worn_24 (mem_k 0 rfl) ?_
  refine w_ifnonnull (tgt := 33) C dX11_worn_26 (by decide) (fun z1 q => ?_) (fun q => ?_)
  · replace h := h.1 z1 q
    refine w_aload C dX11_worn_33 (mem_k 0 rfl) ?_
    obtain ⟨o2, g3, h⟩ := h
    refine x_getI C dX11_worn_35 fw_X11_255 (isO.n g3 (hn.trans h3)) ?_
    exact x_iret C hr dX11_worn_38 hn (hQ _ h)
  · replace h := h.2 q
    refine w_iconst C dX11_worn_29 ⟨by decide, by decide⟩ ?_
    refine w_goto (tgt := 38) C dX11_worn_30 (by decide) ?_
    exact x_iret C hr dX11_worn_38 hn (hQ _ h)
set_option maxRecDepth 100000 in
set_option maxHeartbeats 4000000 in
theorem k_X11_worn_0 {o0 : Nat} {x1 : Int} {x2 : Int} {M : Mm} {Q : Int → Prop} (C : Cx p s m args meth c cX11_worn 5 RX11 D cy G n0) (hr : meth.sig.returnType = some .int) (h3 : n0 = 243) (hn : M.2.2.2 = n0) (ho0 : o0 < 243 ∧ (SH o0).1 = 11) (hQ : ∀ x, Q x → Qp (some (vI x)) M) (h : P_X11_worn o0 x1 x2 M Q ) : WW p l e ({ frames := 2, cells := 0, slots := 0, locals := 43 }) s m args below meth c (ZQ below args s D cy G n0 Qp n0) 5 D cy G n0 0 [(0, vR (some o0)), (1, vI x1), (2, vI x2)] [] M := by
  unfold P_X11_worn at h
  refine w_aload_n C dX11_worn_0 rfl (mem_k 0 rfl) ?_
  refine x_getR C dX11_worn_1 fw_X11_19 (isO.n (ci := 11) ⟨rfl, ho0⟩ (hn.trans h3)) (fun r4 er4 => ?_)
  replace h := h r4 er4
  refine w_iload_n C dX11_worn_4 rfl (mem_k 1 rfl) ?_
  obtain ⟨o5, g6, h⟩ := h
  refine cl_X5_seatAt (ck_X11_154 ⟨by decide, by decide⟩) C dX11_worn_5 hn h3 (Nat.le_of_ble_eq_true rfl) (isO.n g6 (hn.trans h3)) h (fun r7 h => ?_)
  refine x_astore_n (L' := [(3, vR r7), (0, vR (some o0)), (1, vI x1), (2, vI x2)]) C dX11_worn_8 rfl (by decide) rfl ?_
  refine w_aload_n C dX11_worn_9 rfl (mem_k 0 rfl) ?_
  refine w_ifnonnull (tgt := 17) C dX11_worn_10 (by decide) (fun z8 q => ?_) (fun q => ?_)
  · replace h := h.1 z8 q
    refine w_aload_n C dX11_worn_17 rfl (mem_k 0 rfl) ?_
    refine w_iload_n C dX11_worn_18 rfl (mem_k 3 rfl) ?_
    obtain ⟨o9, g10, h⟩ := h
    refine cl_X8_patchAt (ck_X11_251 ⟨by decide, by decide⟩) C dX11_worn_19 hn h3 (Nat.le_of_ble_eq_true rfl) (isO.n g10 (hn.trans h3)) h (fun r11 h => ?_)
    refine x_pc (pc2 := 22) rfl ?_
    refine x_pick (L' := []) [] rfl ?_
    exact k_X11_worn_22 C hr h3 hn ho0 hQ  h
  · replace h := h.2 q
    refine w_null C dX11_worn_13 ?_
    refine w_goto (tgt := 22) C dX11_worn_14 (by decide) ?_
    refine x_pc (pc2 := 22) rfl ?_
    refine x_pick (L' := []) [] rfl ?_
    exact k_X11_worn_22 C hr h3 hn ho0 hQ  h
set_option maxRecDepth 100000 in
set_option maxHeartbeats 4000000 in
theorem con_X11_worn (l : Launch) (D : va_G) (cy : Nat → ClassId) : Con l D cy yX11_worn cX11_worn 5 (some .int) ({ frames := 2, cells := 0, slots := 0, locals := 43 }) 0 0 SP_X11_worn := by
  refine con_of (by decide) (fun as M Qp h => ?_) ?_
  · obtain ⟨-, o0, x1, x2, rfl, -⟩ := h
    exact Nat.le_of_ble_eq_true rfl
  · intro p e s m args below meth c G as M Qp h C hr hnm
    obtain ⟨hn, o0, x1, x2, rfl, ho1, ho2, Q0, hQ, h⟩ := h
    refine x_pick (L' := [(0, vR (some o0)), (1, vI x1), (2, vI x2)]) [0, 1, 2] rfl ?_
    exact k_X11_worn_0 C hr hn rfl ⟨ho1, ho2⟩ hQ h
set_option maxRecDepth 100000 in
set_option maxHeartbeats 4000000 in
theorem cl_X11_worn {p : Program} {l : Launch} {e : Env} {R : Room} {s : State} {m : MethodId} {args : Array Value} {below : List Frame} {meth : Method} {c : Code} {Q : State → Prop} {cc : ByteArray} {nL : Nat} {own : String} {D : va_G} {cy : Nat → ClassId} {G : Nat × Nat} {n0 pc : Nat} {L : List (Nat × PV)} {st : List PV} {M : Mm} {op : Instr} (K : CallOK l D cy R own op 0 0 (spV 11 2 SP_X11_worn)) (C : Cx p s m args meth c cc nL own D cy G n0) (hd : decode cc pc = .ok (op, 3)) (hn : M.2.2.2 = n0) (h3 : n0 = 243) (hlen : argN st ≤ 8) {r : Option Nat} {o0 : Nat} (ho : isOn 11 M.2.2.2 r o0) {x1 : Int} {x2 : Int} {Q0 : Int → Prop} (h : P_X11_worn o0 x1 x2 M Q0) (k : ∀ x, Q0 x → WW p l e R s m args below meth c Q nL D cy G n0  (pc + 3) L (vI x :: st) M) : WW p l e R s m args below meth c Q nL D cy G n0  pc L (vI x2 :: vI x1 :: vR r :: st) M := by
  obtain ⟨rfl, ho1, ho2⟩ := ho
  refine x_call0 K C hd (as := [vR (some o0), vI x1, vI x2]) rfl hn hlen (fun v M2 => ∃ x, v = some (vI x) ∧ M2 = M ∧ Q0 x) ⟨⟨o0, [vI x1, vI x2], rfl, rfl, ho1, ho2⟩, hn.trans h3, o0, x1, x2, rfl, (hn.trans h3) ▸ ho1, ho2, Q0, fun x hx => ⟨x, rfl, rfl, hx⟩, h⟩ ?_
  rintro _ _ ⟨x, rfl, rfl, hx⟩ hm
  exact k x hx
end W_X11_worn
theorem dX11_until_0 : decode cX11_until 0 = .ok (.aload_n 0, 1) := by decide +kernel
theorem dX11_until_1 : decode cX11_until 1 = .ok (.getfield 29, 3) := by decide +kernel
theorem dX11_until_4 : decode cX11_until 4 = .ok (.iload_n 2, 1) := by decide +kernel
theorem dX11_until_5 : decode cX11_until 5 = .ok (.invokevirtual 111, 3) := by decide +kernel
theorem dX11_until_8 : decode cX11_until 8 = .ok (.astore 5, 2) := by decide +kernel
theorem dX11_until_10 : decode cX11_until 10 = .ok (.aload_n 0, 1) := by decide +kernel
theorem dX11_until_11 : decode cX11_until 11 = .ok (.getfield 19, 3) := by decide +kernel
theorem dX11_until_14 : decode cX11_until 14 = .ok (.iload_n 1, 1) := by decide +kernel
theorem dX11_until_15 : decode cX11_until 15 = .ok (.invokevirtual 154, 3) := by decide +kernel
theorem dX11_until_18 : decode cX11_until 18 = .ok (.astore 6, 2) := by decide +kernel
theorem dX11_until_20 : decode cX11_until 20 = .ok (.aload 5, 2) := by decide +kernel
theorem dX11_until_22 : decode cX11_until 22 = .ok (.ifnull 30, 3) := by decide +kernel
theorem dX11_until_25 : decode cX11_until 25 = .ok (.aload 6, 2) := by decide +kernel
theorem dX11_until_27 : decode cX11_until 27 = .ok (.ifnull 25, 3) := by decide +kernel
theorem dX11_until_30 : decode cX11_until 30 = .ok (.iload_n 3, 1) := by decide +kernel
theorem dX11_until_31 : decode cX11_until 31 = .ok (.iconst 1, 1) := by decide +kernel
theorem dX11_until_32 : decode cX11_until 32 = .ok (.sipush 5000, 3) := by decide +kernel
theorem dX11_until_35 : decode cX11_until 35 = .ok (.invokestatic 61, 3) := by decide +kernel
theorem dX11_until_38 : decode cX11_until 38 = .ok (.ifCond .eq 14, 3) := by decide +kernel
theorem dX11_until_41 : decode cX11_until 41 = .ok (.iload 4, 2) := by decide +kernel
theorem dX11_until_43 : decode cX11_until 43 = .ok (.iconst 1, 1) := by decide +kernel
theorem dX11_until_44 : decode cX11_until 44 = .ok (.bipush 100, 2) := by decide +kernel
theorem dX11_until_46 : decode cX11_until 46 = .ok (.invokestatic 61, 3) := by decide +kernel
theorem dX11_until_49 : decode cX11_until 49 = .ok (.ifCond .ne 5, 3) := by decide +kernel
theorem dX11_until_52 : decode cX11_until 52 = .ok (.iconst (-1), 1) := by decide +kernel
theorem dX11_until_53 : decode cX11_until 53 = .ok (.ireturn, 1) := by decide +kernel
theorem dX11_until_54 : decode cX11_until 54 = .ok (.aload_n 0, 1) := by decide +kernel
theorem dX11_until_55 : decode cX11_until 55 = .ok (.getfield 36, 3) := by decide +kernel
theorem dX11_until_58 : decode cX11_until 58 = .ok (.aload 6, 2) := by decide +kernel
theorem dX11_until_60 : decode cX11_until 60 = .ok (.invokevirtual 236, 3) := by decide +kernel
theorem dX11_until_63 : decode cX11_until 63 = .ok (.iconst 0, 1) := by decide +kernel
theorem dX11_until_64 : decode cX11_until 64 = .ok (.istore 7, 2) := by decide +kernel
theorem dX11_until_66 : decode cX11_until 66 = .ok (.iload 7, 2) := by decide +kernel
theorem dX11_until_68 : decode cX11_until 68 = .ok (.bipush 100, 2) := by decide +kernel
theorem dX11_until_70 : decode cX11_until 70 = .ok (.if_icmp .gt 43, 3) := by decide +kernel
theorem dX11_until_73 : decode cX11_until 73 = .ok (.aload_n 0, 1) := by decide +kernel
theorem dX11_until_74 : decode cX11_until 74 = .ok (.getfield 36, 3) := by decide +kernel
theorem dX11_until_77 : decode cX11_until 77 = .ok (.aload 5, 2) := by decide +kernel
theorem dX11_until_79 : decode cX11_until 79 = .ok (.aload 6, 2) := by decide +kernel
theorem dX11_until_81 : decode cX11_until 81 = .ok (.invokevirtual 240, 3) := by decide +kernel
theorem dX11_until_84 : decode cX11_until 84 = .ok (.aload_n 0, 1) := by decide +kernel
theorem dX11_until_85 : decode cX11_until 85 = .ok (.getfield 36, 3) := by decide +kernel
theorem dX11_until_88 : decode cX11_until 88 = .ok (.invokevirtual 260, 3) := by decide +kernel
theorem dX11_until_91 : decode cX11_until 91 = .ok (.iload 4, 2) := by decide +kernel
theorem dX11_until_93 : decode cX11_until 93 = .ok (.if_icmp .lt 6, 3) := by decide +kernel
theorem dX11_until_96 : decode cX11_until 96 = .ok (.iload 7, 2) := by decide +kernel
theorem dX11_until_98 : decode cX11_until 98 = .ok (.ireturn, 1) := by decide +kernel
theorem dX11_until_99 : decode cX11_until 99 = .ok (.aload_n 0, 1) := by decide +kernel
theorem dX11_until_100 : decode cX11_until 100 = .ok (.getfield 36, 3) := by decide +kernel
theorem dX11_until_103 : decode cX11_until 103 = .ok (.iload_n 3, 1) := by decide +kernel
theorem dX11_until_104 : decode cX11_until 104 = .ok (.invokevirtual 244, 3) := by decide +kernel
theorem dX11_until_107 : decode cX11_until 107 = .ok (.iinc 7 1, 3) := by decide +kernel
theorem dX11_until_110 : decode cX11_until 110 = .ok (.goto (-44), 3) := by decide +kernel
theorem dX11_until_113 : decode cX11_until 113 = .ok (.bipush (-4), 2) := by decide +kernel
theorem dX11_until_115 : decode cX11_until 115 = .ok (.ireturn, 1) := by decide +kernel
theorem ck_X11_260 {l : Launch} {D : va_G} {cy : Nat → ClassId} {R : Room} (hR : 2 ≤ R.frames ∧ 43 ≤ R.locals) : CallOK l D cy R RX11 (.invokevirtual 260) 0 0 (spV 6 0 SP_X6_mostWorn) := call_V (ci := 6) (con_X6_mostWorn l D cy) (lwG_3 (i := 236) rfl rfl) (lwG_3 (i := 237) rfl rfl) (lwG_3 (i := 238) rfl rfl) (lwG_1 (i := 9) rfl rfl) (lwG_3 (i := 239) rfl rfl) (by decide) ⟨rfl, by decide, by decide, rfl⟩ ⟨rfl, rfl⟩ hR
section W_X11_until
variable {p : Program} {l : Launch} {e : Env} {s : State} {m : MethodId} {args : Array Value} {below : List Frame} {meth : Method} {c : Code} {D : va_G} {cy : Nat → ClassId} {G : Nat × Nat} {n0 : Nat} {Qp : Option PV → Mm → Prop}
set_option maxRecDepth 100000 in
set_option maxHeartbeats 4000000 in
theorem f_X11_until_66 {o0 : Nat} {x3 : Int} {x4 : Int} {a5 : Option Nat} {a6 : Option Nat} {x7 : Int} {M : Mm} {Q : Int → Mm → Prop} {K66 : Int × Mm → Prop} (C : Cx p s m args meth c cX11_until 8 RX11 D cy G n0) (hr : meth.sig.returnType = some .int) (h3 : n0 = 243) (hn : M.2.2.2 = n0) (ho0 : o0 < 243 ∧ (SH o0).1 = 11) (hQ : ∀ x M, Q x M → Qp (some (vI x)) M) (hK66 : ∀ (x7 : Int) (M : Mm), K66 (x7, M) → M.2.2.2 = n0 → WW p l e ({ frames := 5, cells := 0, slots := 0, locals := 129 }) s m args below meth c (ZQ below args s D cy G n0 Qp n0) 8 D cy G n0 66 [(0, vR (some o0)), (3, vI x3), (4, vI x4), (5, vR a5), (6, vR a6), (7, vI x7)] [] M) (h : F_X11_until_66 o0 x3 x4 a5 a6 Q  K66 x7 M) : WW p l e ({ frames := 5, cells := 0, slots := 0, locals := 129 }) s m args below meth c (ZQ below args s D cy G n0 Qp n0) 8 D cy G n0 66 [(0, vR (some o0)), (3, vI x3), (4, vI x4), (5, vR a5), (6, vR a6), (7, vI x7)] [] M := by
  unfold F_X11_until_66 at h
  refine w_iload C dX11_until_66 (mem_k 5 rfl) ?_
  refine w_bipush C dX11_until_68 (by decide) ?_
  refine w_icmp_gt (tgt := 113) C dX11_until_70 (by decide) (fun q => ?_) (fun q => ?_)
  · replace h := h.1 q
    refine w_bipush C dX11_until_113 (by decide) ?_
    exact x_iret C hr dX11_until_115 hn (hQ _ M h)
  · replace h := h.2 q
    refine w_aload_n C dX11_until_73 rfl (mem_k 0 rfl) ?_
    refine x_getR C dX11_until_74 fw_X11_36 (isO.n (ci := 11) ⟨rfl, ho0⟩ (hn.trans h3)) (fun r1 er1 => ?_)
    replace h := h r1 er1
    refine w_aload C dX11_until_77 (mem_k 3 rfl) ?_
    refine w_aload C dX11_until_79 (mem_k 4 rfl) ?_
    obtain ⟨o2, g3, h⟩ := h
    refine cl_X6_settle (ck_X11_240 ⟨by decide, by decide⟩) C dX11_until_81 hn h3 (Nat.le_of_ble_eq_true rfl) (isO.n g3 (hn.trans h3)) h (fun M4 h hn5 => ?_)
    refine w_aload_n C dX11_until_84 rfl (mem_k 0 rfl) ?_
    refine x_getR C dX11_until_85 fw_X11_36 (isO.n (ci := 11) ⟨rfl, ho0⟩ (hn5.trans h3)) (fun r6 er6 => ?_)
    replace h := h r6 er6
    obtain ⟨o7, g8, h⟩ := h
    refine cl_X6_mostWorn (ck_X11_260 ⟨by decide, by decide⟩) C dX11_until_88 hn5 h3 (Nat.le_of_ble_eq_true rfl) (isO.n g8 (hn5.trans h3)) h (fun v9 h => ?_)
    refine w_iload C dX11_until_91 (mem_k 2 rfl) ?_
    refine w_icmp_lt (tgt := 99) C dX11_until_93 (by decide) (fun q => ?_) (fun q => ?_)
    · replace h := h.1 q
      refine w_aload_n C dX11_until_99 rfl (mem_k 0 rfl) ?_
      refine x_getR C dX11_until_100 fw_X11_36 (isO.n (ci := 11) ⟨rfl, ho0⟩ (hn5.trans h3)) (fun r10 er10 => ?_)
      replace h := h r10 er10
      refine w_iload_n C dX11_until_103 rfl (mem_k 1 rfl) ?_
      obtain ⟨o11, g12, h⟩ := h
      refine cl_X6_wearOneYear (ck_X11_244 ⟨by decide, by decide⟩) C dX11_until_104 hn5 h3 (Nat.le_of_ble_eq_true rfl) (isO.n g12 (hn5.trans h3)) h (fun M13 h hn14 => ?_)
      obtain ⟨v15, ev15⟩ : ∃ z : Int, z = x7 + 1 := ⟨_, rfl⟩
      refine x_iinc (L' := [(7, vI v15), (0, vR (some o0)), (3, vI x3), (4, vI x4), (5, vR a5), (6, vR a6)]) C dX11_until_107 (mem_k 5 rfl) (by decide) h.1 ev15 rfl ?_
      replace h := h.2 v15 ev15
      refine w_goto (tgt := 66) C dX11_until_110 (by decide) ?_
      refine x_pc (pc2 := 66) rfl ?_
      refine x_pick (L' := [(0, vR (some o0)), (3, vI x3), (4, vI x4), (5, vR a5), (6, vR a6), (7, vI v15)]) [1, 2, 3, 4, 5, 0] rfl ?_
      exact hK66 v15 M13 h hn14
    · replace h := h.2 q
      refine w_iload C dX11_until_96 (mem_k 5 rfl) ?_
      exact x_iret C hr dX11_until_98 hn5 (hQ _ M4 h)
set_option maxRecDepth 100000 in
set_option maxHeartbeats 4000000 in
theorem k_X11_until_66 {o0 : Nat} {x3 : Int} {x4 : Int} {a5 : Option Nat} {a6 : Option Nat} {x7 : Int} {M : Mm} {Q : Int → Mm → Prop} (C : Cx p s m args meth c cX11_until 8 RX11 D cy G n0) (hr : meth.sig.returnType = some .int) (h3 : n0 = 243) (hn : M.2.2.2 = n0) (ho0 : o0 < 243 ∧ (SH o0).1 = 11) (hQ : ∀ x M, Q x M → Qp (some (vI x)) M) (h : P_X11_until_66 o0 x3 x4 a5 a6 x7 M Q ) : WW p l e ({ frames := 5, cells := 0, slots := 0, locals := 129 }) s m args below meth c (ZQ below args s D cy G n0 Qp n0) 8 D cy G n0 66 [(0, vR (some o0)), (3, vI x3), (4, vI x4), (5, vR a5), (6, vR a6), (7, vI x7)] [] M := by
  refine lpW_sound (P := fun y : Int × Mm => y.2.2.2.2 = n0 → WW p l e ({ frames := 5, cells := 0, slots := 0, locals := 129 }) s m args below meth c (ZQ below args s D cy G n0 Qp n0) 8 D cy G n0 66 [(0, vR (some o0)), (3, vI x3), (4, vI x4), (5, vR a5), (6, vR a6), (7, vI y.1)] [] y.2) ?_ h hn
  intro K y hK hF
  obtain ⟨x7, M⟩ := y
  intro hn
  exact f_X11_until_66 C hr h3 hn ho0 hQ  (fun x7 M hk => hK (x7, M) hk) hF
set_option maxRecDepth 100000 in
set_option maxHeartbeats 4000000 in
theorem k_X11_until_0 {o0 : Nat} {x1 : Int} {x2 : Int} {x3 : Int} {x4 : Int} {M : Mm} {Q : Int → Mm → Prop} (C : Cx p s m args meth c cX11_until 8 RX11 D cy G n0) (hr : meth.sig.returnType = some .int) (h3 : n0 = 243) (hn : M.2.2.2 = n0) (ho0 : o0 < 243 ∧ (SH o0).1 = 11) (hQ : ∀ x M, Q x M → Qp (some (vI x)) M) (h : P_X11_until o0 x1 x2 x3 x4 M Q ) : WW p l e ({ frames := 5, cells := 0, slots := 0, locals := 129 }) s m args below meth c (ZQ below args s D cy G n0 Qp n0) 8 D cy G n0 0 [(0, vR (some o0)), (1, vI x1), (2, vI x2), (3, vI x3), (4, vI x4)] [] M := by
  unfold P_X11_until at h
  refine w_aload_n C dX11_until_0 rfl (mem_k 0 rfl) ?_
  refine x_getR C dX11_until_1 fw_X11_29 (isO.n (ci := 11) ⟨rfl, ho0⟩ (hn.trans h3)) (fun r16 er16 => ?_)
  replace h := h r16 er16
  refine w_iload_n C dX11_until_4 rfl (mem_k 2 rfl) ?_
  obtain ⟨o17, g18, h⟩ := h
  refine cl_X1_bodyAt (ck_X11_111 ⟨by decide, by decide⟩) C dX11_until_5 hn h3 (Nat.le_of_ble_eq_true rfl) (isO.n g18 (hn.trans h3)) h (fun r19 h => ?_)
  refine x_astore (L' := [(5, vR r19), (0, vR (some o0)), (1, vI x1), (2, vI x2), (3, vI x3), (4, vI x4)]) C dX11_until_8 (by decide) rfl ?_
  refine w_aload_n C dX11_until_10 rfl (mem_k 1 rfl) ?_
  refine x_getR C dX11_until_11 fw_X11_19 (isO.n (ci := 11) ⟨rfl, ho0⟩ (hn.trans h3)) (fun r20 er20 => ?_)
  replace h := h r20 er20
  refine w_iload_n C dX11_until_14 rfl (mem_k 2 rfl) ?_
  obtain ⟨o21, g22, h⟩ := h
  refine cl_X5_seatAt (ck_X11_154 ⟨by decide, by decide⟩) C dX11_until_15 hn h3 (Nat.le_of_ble_eq_true rfl) (isO.n g22 (hn.trans h3)) h (fun r23 h => ?_)
  refine x_astore (L' := [(6, vR r23), (5, vR r19), (0, vR (some o0)), (1, vI x1), (2, vI x2), (3, vI x3), (4, vI x4)]) C dX11_until_18 (by decide) rfl ?_
  refine w_aload C dX11_until_20 (mem_k 1 rfl) ?_
  refine w_ifnull (tgt := 52) C dX11_until_22 (by decide) (fun q => ?_) (fun z24 q => ?_)
  · replace h := h.1 q
    refine w_iconst C dX11_until_52 ⟨by decide, by decide⟩ ?_
    exact x_iret C hr dX11_until_53 hn (hQ _ M h)
  · replace h := h.2 z24 q
    refine w_aload C dX11_until_25 (mem_k 0 rfl) ?_
    refine w_ifnull (tgt := 52) C dX11_until_27 (by decide) (fun q => ?_) (fun z25 q => ?_)
    · replace h := h.1 q
      refine w_iconst C dX11_until_52 ⟨by decide, by decide⟩ ?_
      exact x_iret C hr dX11_until_53 hn (hQ _ M h)
    · replace h := h.2 z25 q
      refine w_iload_n C dX11_until_30 rfl (mem_k 5 rfl) ?_
      refine w_iconst C dX11_until_31 ⟨by decide, by decide⟩ ?_
      refine w_sipush C dX11_until_32 (by decide) ?_
      refine cl_X11_isWithin (ck_X11_61 ⟨by decide, by decide⟩) C dX11_until_35 hn h3 (Nat.le_of_ble_eq_true rfl) h (fun v26 h => ?_)
      refine w_if_eq (tgt := 52) C dX11_until_38 (by decide) (fun q => ?_) (fun q => ?_)
      · replace h := h.1 q
        refine w_iconst C dX11_until_52 ⟨by decide, by decide⟩ ?_
        exact x_iret C hr dX11_until_53 hn (hQ _ M h)
      · replace h := h.2 q
        refine w_iload C dX11_until_41 (mem_k 6 rfl) ?_
        refine w_iconst C dX11_until_43 ⟨by decide, by decide⟩ ?_
        refine w_bipush C dX11_until_44 (by decide) ?_
        refine cl_X11_isWithin (ck_X11_61 ⟨by decide, by decide⟩) C dX11_until_46 hn h3 (Nat.le_of_ble_eq_true rfl) h (fun v27 h => ?_)
        refine w_if_ne (tgt := 54) C dX11_until_49 (by decide) (fun q => ?_) (fun q => ?_)
        · replace h := h.1 q
          refine w_aload_n C dX11_until_54 rfl (mem_k 2 rfl) ?_
          refine x_getR C dX11_until_55 fw_X11_36 (isO.n (ci := 11) ⟨rfl, ho0⟩ (hn.trans h3)) (fun r28 er28 => ?_)
          replace h := h r28 er28
          refine w_aload C dX11_until_58 (mem_k 0 rfl) ?_
          obtain ⟨o29, g30, h⟩ := h
          refine cl_X6_takeWorn (ck_X11_236 ⟨by decide, by decide⟩) C dX11_until_60 hn h3 (Nat.le_of_ble_eq_true rfl) (isO.n g30 (hn.trans h3)) h (fun M31 h hn32 => ?_)
          refine w_iconst C dX11_until_63 ⟨by decide, by decide⟩ ?_
          refine x_istore (L' := [(7, vI 0), (6, vR r23), (5, vR r19), (0, vR (some o0)), (1, vI x1), (2, vI x2), (3, vI x3), (4, vI x4)]) C dX11_until_64 (by decide) rfl ?_
          refine x_pc (pc2 := 66) rfl ?_
          refine x_pick (L' := [(0, vR (some o0)), (3, vI x3), (4, vI x4), (5, vR r19), (6, vR r23), (7, vI 0)]) [3, 6, 7, 2, 1, 0] rfl ?_
          exact k_X11_until_66 C hr h3 hn32 ho0 hQ  h
        · replace h := h.2 q
          refine w_iconst C dX11_until_52 ⟨by decide, by decide⟩ ?_
          exact x_iret C hr dX11_until_53 hn (hQ _ M h)
set_option maxRecDepth 100000 in
set_option maxHeartbeats 4000000 in
theorem con_X11_until (l : Launch) (D : va_G) (cy : Nat → ClassId) : Con l D cy yX11_until cX11_until 8 (some .int) ({ frames := 5, cells := 0, slots := 0, locals := 129 }) 0 0 SP_X11_until := by
  refine con_of (by decide) (fun as M Qp h => ?_) ?_
  · obtain ⟨-, o0, x1, x2, x3, x4, rfl, -⟩ := h
    exact Nat.le_of_ble_eq_true rfl
  · intro p e s m args below meth c G as M Qp h C hr hnm
    obtain ⟨hn, o0, x1, x2, x3, x4, rfl, ho1, ho2, Q0, hQ, h⟩ := h
    refine x_pick (L' := [(0, vR (some o0)), (1, vI x1), (2, vI x2), (3, vI x3), (4, vI x4)]) [0, 1, 2, 3, 4] rfl ?_
    exact k_X11_until_0 C hr hn rfl ⟨ho1, ho2⟩ hQ h
set_option maxRecDepth 100000 in
set_option maxHeartbeats 4000000 in
theorem cl_X11_until {p : Program} {l : Launch} {e : Env} {R : Room} {s : State} {m : MethodId} {args : Array Value} {below : List Frame} {meth : Method} {c : Code} {Q : State → Prop} {cc : ByteArray} {nL : Nat} {own : String} {D : va_G} {cy : Nat → ClassId} {G : Nat × Nat} {n0 pc : Nat} {L : List (Nat × PV)} {st : List PV} {M : Mm} {op : Instr} (K : CallOK l D cy R own op 0 0 (spV 11 4 SP_X11_until)) (C : Cx p s m args meth c cc nL own D cy G n0) (hd : decode cc pc = .ok (op, 3)) (hn : M.2.2.2 = n0) (h3 : n0 = 243) (hlen : argN st ≤ 8) {r : Option Nat} {o0 : Nat} (ho : isOn 11 M.2.2.2 r o0) {x1 : Int} {x2 : Int} {x3 : Int} {x4 : Int} {Q0 : Int → Mm → Prop} (h : P_X11_until o0 x1 x2 x3 x4 M Q0) (k : ∀ x M2, Q0 x M2 → M2.2.2.2 = n0 → WW p l e R s m args below meth c Q nL D cy G n0  (pc + 3) L (vI x :: st) M2) : WW p l e R s m args below meth c Q nL D cy G n0  pc L (vI x4 :: vI x3 :: vI x2 :: vI x1 :: vR r :: st) M := by
  obtain ⟨rfl, ho1, ho2⟩ := ho
  refine x_call0 K C hd (as := [vR (some o0), vI x1, vI x2, vI x3, vI x4]) rfl hn hlen (fun v M2 => ∃ x, v = some (vI x) ∧ Q0 x M2) ⟨⟨o0, [vI x1, vI x2, vI x3, vI x4], rfl, rfl, ho1, ho2⟩, hn.trans h3, o0, x1, x2, x3, x4, rfl, (hn.trans h3) ▸ ho1, ho2, Q0, fun x M2 hx => ⟨x, rfl, hx⟩, h⟩ ?_
  rintro _ _ ⟨x, rfl, hx⟩ hm
  exact k x _ hx hm
end W_X11_until
theorem dX11_trial_0 : decode cX11_trial 0 = .ok (.aload_n 0, 1) := by decide +kernel
theorem dX11_trial_1 : decode cX11_trial 1 = .ok (.getfield 29, 3) := by decide +kernel
theorem dX11_trial_4 : decode cX11_trial 4 = .ok (.iload_n 1, 1) := by decide +kernel
theorem dX11_trial_5 : decode cX11_trial 5 = .ok (.invokevirtual 111, 3) := by decide +kernel
theorem dX11_trial_8 : decode cX11_trial 8 = .ok (.astore 4, 2) := by decide +kernel
theorem dX11_trial_10 : decode cX11_trial 10 = .ok (.aload 4, 2) := by decide +kernel
theorem dX11_trial_12 : decode cX11_trial 12 = .ok (.ifnull 24, 3) := by decide +kernel
theorem dX11_trial_15 : decode cX11_trial 15 = .ok (.aload_n 0, 1) := by decide +kernel
theorem dX11_trial_16 : decode cX11_trial 16 = .ok (.getfield 19, 3) := by decide +kernel
theorem dX11_trial_19 : decode cX11_trial 19 = .ok (.iload_n 2, 1) := by decide +kernel
theorem dX11_trial_20 : decode cX11_trial 20 = .ok (.invokevirtual 154, 3) := by decide +kernel
theorem dX11_trial_23 : decode cX11_trial 23 = .ok (.ifnull 13, 3) := by decide +kernel
theorem dX11_trial_26 : decode cX11_trial 26 = .ok (.iload_n 3, 1) := by decide +kernel
theorem dX11_trial_27 : decode cX11_trial 27 = .ok (.iconst 0, 1) := by decide +kernel
theorem dX11_trial_28 : decode cX11_trial 28 = .ok (.bipush 100, 2) := by decide +kernel
theorem dX11_trial_30 : decode cX11_trial 30 = .ok (.invokestatic 61, 3) := by decide +kernel
theorem dX11_trial_33 : decode cX11_trial 33 = .ok (.ifCond .ne 5, 3) := by decide +kernel
theorem dX11_trial_36 : decode cX11_trial 36 = .ok (.iconst (-1), 1) := by decide +kernel
theorem dX11_trial_37 : decode cX11_trial 37 = .ok (.ireturn, 1) := by decide +kernel
theorem dX11_trial_38 : decode cX11_trial 38 = .ok (.aload_n 0, 1) := by decide +kernel
theorem dX11_trial_39 : decode cX11_trial 39 = .ok (.getfield 57, 3) := by decide +kernel
theorem dX11_trial_42 : decode cX11_trial 42 = .ok (.getfield 263, 3) := by decide +kernel
theorem dX11_trial_45 : decode cX11_trial 45 = .ok (.bipush 60, 2) := by decide +kernel
theorem dX11_trial_47 : decode cX11_trial 47 = .ok (.if_icmp .lt 6, 3) := by decide +kernel
theorem dX11_trial_50 : decode cX11_trial 50 = .ok (.bipush (-3), 2) := by decide +kernel
theorem dX11_trial_52 : decode cX11_trial 52 = .ok (.ireturn, 1) := by decide +kernel
theorem dX11_trial_53 : decode cX11_trial 53 = .ok (.aload 4, 2) := by decide +kernel
theorem dX11_trial_55 : decode cX11_trial 55 = .ok (.iload_n 2, 1) := by decide +kernel
theorem dX11_trial_56 : decode cX11_trial 56 = .ok (.iload_n 3, 1) := by decide +kernel
theorem dX11_trial_57 : decode cX11_trial 57 = .ok (.invokevirtual 266, 3) := by decide +kernel
theorem dX11_trial_60 : decode cX11_trial 60 = .ok (.aload_n 0, 1) := by decide +kernel
theorem dX11_trial_61 : decode cX11_trial 61 = .ok (.getfield 57, 3) := by decide +kernel
theorem dX11_trial_64 : decode cX11_trial 64 = .ok (.dup, 1) := by decide +kernel
theorem dX11_trial_65 : decode cX11_trial 65 = .ok (.getfield 263, 3) := by decide +kernel
theorem dX11_trial_68 : decode cX11_trial 68 = .ok (.iconst 1, 1) := by decide +kernel
theorem dX11_trial_69 : decode cX11_trial 69 = .ok (.iadd, 1) := by decide +kernel
theorem dX11_trial_70 : decode cX11_trial 70 = .ok (.putfield 263, 3) := by decide +kernel
theorem dX11_trial_73 : decode cX11_trial 73 = .ok (.aload_n 0, 1) := by decide +kernel
theorem dX11_trial_74 : decode cX11_trial 74 = .ok (.getfield 57, 3) := by decide +kernel
theorem dX11_trial_77 : decode cX11_trial 77 = .ok (.getfield 263, 3) := by decide +kernel
theorem dX11_trial_80 : decode cX11_trial 80 = .ok (.ireturn, 1) := by decide +kernel
theorem fw_X11_57 : fR RX11 57 11 7 := ⟨⟨lwG_2 (i := 69) rfl rfl, by decide, by decide⟩, fun _ _ => rfl, fun r => ⟨r, rfl⟩⟩
theorem fw_X11_263 : fI RX11 263 10 0 := ⟨⟨lwG_2 (i := 46) rfl rfl, by decide, by decide⟩, rfl⟩
theorem ck_X11_266 {l : Launch} {D : va_G} {cy : Nat → ClassId} {R : Room} (hR : 2 ≤ R.frames ∧ 44 ≤ R.locals) : CallOK l D cy R RX11 (.invokevirtual 266) 0 0 (spV 0 2 SP_X0_say) := call_V (ci := 0) (con_X0_say l D cy) (lwG_4 (i := 4) rfl rfl) (lwG_4 (i := 5) rfl rfl) (lwG_4 (i := 6) rfl rfl) (lwG_1 (i := 8) rfl rfl) (lwG_4 (i := 7) rfl rfl) (by decide) ⟨rfl, by decide, by decide, rfl⟩ ⟨rfl, rfl⟩ hR
section W_X11_trial
variable {p : Program} {l : Launch} {e : Env} {s : State} {m : MethodId} {args : Array Value} {below : List Frame} {meth : Method} {c : Code} {D : va_G} {cy : Nat → ClassId} {G : Nat × Nat} {n0 : Nat} {Qp : Option PV → Mm → Prop}
set_option maxRecDepth 100000 in
set_option maxHeartbeats 4000000 in
theorem k_X11_trial_0 {o0 : Nat} {x1 : Int} {x2 : Int} {x3 : Int} {M : Mm} {Q : Int → Mm → Prop} (C : Cx p s m args meth c cX11_trial 5 RX11 D cy G n0) (hr : meth.sig.returnType = some .int) (h3 : n0 = 243) (hn : M.2.2.2 = n0) (ho0 : o0 < 243 ∧ (SH o0).1 = 11) (hQ : ∀ x M, Q x M → Qp (some (vI x)) M) (h : P_X11_trial o0 x1 x2 x3 M Q ) : WW p l e ({ frames := 2, cells := 0, slots := 0, locals := 44 }) s m args below meth c (ZQ below args s D cy G n0 Qp n0) 5 D cy G n0 0 [(0, vR (some o0)), (1, vI x1), (2, vI x2), (3, vI x3)] [] M := by
  unfold P_X11_trial at h
  refine w_aload_n C dX11_trial_0 rfl (mem_k 0 rfl) ?_
  refine x_getR C dX11_trial_1 fw_X11_29 (isO.n (ci := 11) ⟨rfl, ho0⟩ (hn.trans h3)) (fun r1 er1 => ?_)
  replace h := h r1 er1
  refine w_iload_n C dX11_trial_4 rfl (mem_k 1 rfl) ?_
  obtain ⟨o2, g3, h⟩ := h
  refine cl_X1_bodyAt (ck_X11_111 ⟨by decide, by decide⟩) C dX11_trial_5 hn h3 (Nat.le_of_ble_eq_true rfl) (isO.n g3 (hn.trans h3)) h (fun r4 h => ?_)
  refine x_astore (L' := [(4, vR r4), (0, vR (some o0)), (1, vI x1), (2, vI x2), (3, vI x3)]) C dX11_trial_8 (by decide) rfl ?_
  refine w_aload C dX11_trial_10 (mem_k 0 rfl) ?_
  refine w_ifnull (tgt := 36) C dX11_trial_12 (by decide) (fun q => ?_) (fun z5 q => ?_)
  · replace h := h.1 q
    refine w_iconst C dX11_trial_36 ⟨by decide, by decide⟩ ?_
    exact x_iret C hr dX11_trial_37 hn (hQ _ M h)
  · replace h := h.2 z5 q
    refine w_aload_n C dX11_trial_15 rfl (mem_k 1 rfl) ?_
    refine x_getR C dX11_trial_16 fw_X11_19 (isO.n (ci := 11) ⟨rfl, ho0⟩ (hn.trans h3)) (fun r6 er6 => ?_)
    replace h := h r6 er6
    refine w_iload_n C dX11_trial_19 rfl (mem_k 3 rfl) ?_
    obtain ⟨o7, g8, h⟩ := h
    refine cl_X5_seatAt (ck_X11_154 ⟨by decide, by decide⟩) C dX11_trial_20 hn h3 (Nat.le_of_ble_eq_true rfl) (isO.n g8 (hn.trans h3)) h (fun r9 h => ?_)
    refine w_ifnull (tgt := 36) C dX11_trial_23 (by decide) (fun q => ?_) (fun z10 q => ?_)
    · replace h := h.1 q
      refine w_iconst C dX11_trial_36 ⟨by decide, by decide⟩ ?_
      exact x_iret C hr dX11_trial_37 hn (hQ _ M h)
    · replace h := h.2 z10 q
      refine w_iload_n C dX11_trial_26 rfl (mem_k 4 rfl) ?_
      refine w_iconst C dX11_trial_27 ⟨by decide, by decide⟩ ?_
      refine w_bipush C dX11_trial_28 (by decide) ?_
      refine cl_X11_isWithin (ck_X11_61 ⟨by decide, by decide⟩) C dX11_trial_30 hn h3 (Nat.le_of_ble_eq_true rfl) h (fun v11 h => ?_)
      refine w_if_ne (tgt := 38) C dX11_trial_33 (by decide) (fun q => ?_) (fun q => ?_)
      · replace h := h.1 q
        refine w_aload_n C dX11_trial_38 rfl (mem_k 1 rfl) ?_
        refine x_getR C dX11_trial_39 fw_X11_57 (isO.n (ci := 11) ⟨rfl, ho0⟩ (hn.trans h3)) (fun r12 er12 => ?_)
        replace h := h r12 er12
        obtain ⟨o13, g14, h⟩ := h
        refine x_getI C dX11_trial_42 fw_X11_263 (isO.n g14 (hn.trans h3)) ?_
        refine w_bipush C dX11_trial_45 (by decide) ?_
        refine w_icmp_lt (tgt := 53) C dX11_trial_47 (by decide) (fun q => ?_) (fun q => ?_)
        · replace h := h.1 q
          refine w_aload C dX11_trial_53 (mem_k 0 rfl) ?_
          refine w_iload_n C dX11_trial_55 rfl (mem_k 3 rfl) ?_
          refine w_iload_n C dX11_trial_56 rfl (mem_k 4 rfl) ?_
          obtain ⟨o15, g16, h⟩ := h
          refine cl_X0_say (ck_X11_266 ⟨by decide, by decide⟩) C dX11_trial_57 hn h3 (Nat.le_of_ble_eq_true rfl) (isO.n g16 (hn.trans h3)) h (fun M17 h hn18 => ?_)
          refine w_aload_n C dX11_trial_60 rfl (mem_k 1 rfl) ?_
          refine x_getR C dX11_trial_61 fw_X11_57 (isO.n (ci := 11) ⟨rfl, ho0⟩ (hn18.trans h3)) (fun r19 er19 => ?_)
          replace h := h r19 er19
          refine w_dup C dX11_trial_64 rfl ?_
          obtain ⟨o20, g21, h⟩ := h
          refine x_getI C dX11_trial_65 fw_X11_263 (isO.n g21 (hn18.trans h3)) ?_
          refine w_iconst C dX11_trial_68 ⟨by decide, by decide⟩ ?_
          refine w_iadd C dX11_trial_69 h.1 ?_
          replace h := h.2
          refine x_putI C dX11_trial_70 fw_X11_263 (isO.n g21 (hn18.trans h3)) (Or.inl rfl) (fun M22 eM22 hn23 => ?_)
          replace h := h M22 eM22
          replace hn23 := hn23.trans hn18
          refine w_aload_n C dX11_trial_73 rfl (mem_k 1 rfl) ?_
          refine x_getR C dX11_trial_74 fw_X11_57 (isO.n (ci := 11) ⟨rfl, ho0⟩ (hn23.trans h3)) (fun r24 er24 => ?_)
          replace h := h r24 er24
          obtain ⟨o25, g26, h⟩ := h
          refine x_getI C dX11_trial_77 fw_X11_263 (isO.n g26 (hn23.trans h3)) ?_
          exact x_iret C hr dX11_trial_80 hn23 (hQ _ M22 h)
        · replace h := h.2 q
          refine w_bipush C dX11_trial_50 (by decide) ?_
          exact x_iret C hr dX11_trial_52 hn (hQ _ M h)
      · replace h := h.2 q
        refine w_iconst C dX11_trial_36 ⟨by decide, by decide⟩ ?_
        exact x_iret C hr dX11_trial_37 hn (hQ _ M h)
set_option maxRecDepth 100000 in
set_option maxHeartbeats 4000000 in
theorem con_X11_trial (l : Launch) (D : va_G) (cy : Nat → ClassId) : Con l D cy yX11_trial cX11_trial 5 (some .int) ({ frames := 2, cells := 0, slots := 0, locals := 44 }) 0 0 SP_X11_trial := by
  refine con_of (by decide) (fun as M Qp h => ?_) ?_
  · obtain ⟨-, o0, x1, x2, x3, rfl, -⟩ := h
    exact Nat.le_of_ble_eq_true rfl
  · intro p e s m args below meth c G as M Qp h C hr hnm
    obtain ⟨hn, o0, x1, x2, x3, rfl, ho1, ho2, Q0, hQ, h⟩ := h
    refine x_pick (L' := [(0, vR (some o0)), (1, vI x1), (2, vI x2), (3, vI x3)]) [0, 1, 2, 3] rfl ?_
    exact k_X11_trial_0 C hr hn rfl ⟨ho1, ho2⟩ hQ h
set_option maxRecDepth 100000 in
set_option maxHeartbeats 4000000 in
theorem cl_X11_trial {p : Program} {l : Launch} {e : Env} {R : Room} {s : State} {m : MethodId} {args : Array Value} {below : List Frame} {meth : Method} {c : Code} {Q : State → Prop} {cc : ByteArray} {nL : Nat} {own : String} {D : va_G} {cy : Nat → ClassId} {G : Nat × Nat} {n0 pc : Nat} {L : List (Nat × PV)} {st : List PV} {M : Mm} {op : Instr} (K : CallOK l D cy R own op 0 0 (spV 11 3 SP_X11_trial)) (C : Cx p s m args meth c cc nL own D cy G n0) (hd : decode cc pc = .ok (op, 3)) (hn : M.2.2.2 = n0) (h3 : n0 = 243) (hlen : argN st ≤ 8) {r : Option Nat} {o0 : Nat} (ho : isOn 11 M.2.2.2 r o0) {x1 : Int} {x2 : Int} {x3 : Int} {Q0 : Int → Mm → Prop} (h : P_X11_trial o0 x1 x2 x3 M Q0) (k : ∀ x M2, Q0 x M2 → M2.2.2.2 = n0 → WW p l e R s m args below meth c Q nL D cy G n0  (pc + 3) L (vI x :: st) M2) : WW p l e R s m args below meth c Q nL D cy G n0  pc L (vI x3 :: vI x2 :: vI x1 :: vR r :: st) M := by
  obtain ⟨rfl, ho1, ho2⟩ := ho
  refine x_call0 K C hd (as := [vR (some o0), vI x1, vI x2, vI x3]) rfl hn hlen (fun v M2 => ∃ x, v = some (vI x) ∧ Q0 x M2) ⟨⟨o0, [vI x1, vI x2, vI x3], rfl, rfl, ho1, ho2⟩, hn.trans h3, o0, x1, x2, x3, rfl, (hn.trans h3) ▸ ho1, ho2, Q0, fun x M2 hx => ⟨x, rfl, hx⟩, h⟩ ?_
  rintro _ _ ⟨x, rfl, hx⟩ hm
  exact k x _ hx hm
end W_X11_trial
theorem dX11_against_0 : decode cX11_against 0 = .ok (.aload_n 0, 1) := by decide +kernel
theorem dX11_against_1 : decode cX11_against 1 = .ok (.getfield 19, 3) := by decide +kernel
theorem dX11_against_4 : decode cX11_against 4 = .ok (.iload_n 1, 1) := by decide +kernel
theorem dX11_against_5 : decode cX11_against 5 = .ok (.invokevirtual 154, 3) := by decide +kernel
theorem dX11_against_8 : decode cX11_against 8 = .ok (.ifnull 28, 3) := by decide +kernel
theorem dX11_against_11 : decode cX11_against 11 = .ok (.aload_n 0, 1) := by decide +kernel
theorem dX11_against_12 : decode cX11_against 12 = .ok (.getfield 19, 3) := by decide +kernel
theorem dX11_against_15 : decode cX11_against 15 = .ok (.iload_n 2, 1) := by decide +kernel
theorem dX11_against_16 : decode cX11_against 16 = .ok (.invokevirtual 154, 3) := by decide +kernel
theorem dX11_against_19 : decode cX11_against 19 = .ok (.ifnull 17, 3) := by decide +kernel
theorem dX11_against_22 : decode cX11_against 22 = .ok (.iload_n 1, 1) := by decide +kernel
theorem dX11_against_23 : decode cX11_against 23 = .ok (.iload_n 2, 1) := by decide +kernel
theorem dX11_against_24 : decode cX11_against 24 = .ok (.if_icmp .eq 12, 3) := by decide +kernel
theorem dX11_against_27 : decode cX11_against 27 = .ok (.iload_n 3, 1) := by decide +kernel
theorem dX11_against_28 : decode cX11_against 28 = .ok (.iconst 0, 1) := by decide +kernel
theorem dX11_against_29 : decode cX11_against 29 = .ok (.iconst 3, 1) := by decide +kernel
theorem dX11_against_30 : decode cX11_against 30 = .ok (.invokestatic 61, 3) := by decide +kernel
theorem dX11_against_33 : decode cX11_against 33 = .ok (.ifCond .ne 5, 3) := by decide +kernel
theorem dX11_against_36 : decode cX11_against 36 = .ok (.iconst (-1), 1) := by decide +kernel
theorem dX11_against_37 : decode cX11_against 37 = .ok (.ireturn, 1) := by decide +kernel
theorem dX11_against_38 : decode cX11_against 38 = .ok (.aload_n 0, 1) := by decide +kernel
theorem dX11_against_39 : decode cX11_against 39 = .ok (.getfield 57, 3) := by decide +kernel
theorem dX11_against_42 : decode cX11_against 42 = .ok (.aload_n 0, 1) := by decide +kernel
theorem dX11_against_43 : decode cX11_against 43 = .ok (.getfield 29, 3) := by decide +kernel
theorem dX11_against_46 : decode cX11_against 46 = .ok (.iload_n 1, 1) := by decide +kernel
theorem dX11_against_47 : decode cX11_against 47 = .ok (.iload_n 2, 1) := by decide +kernel
theorem dX11_against_48 : decode cX11_against 48 = .ok (.invokevirtual 270, 3) := by decide +kernel
theorem dX11_against_51 : decode cX11_against 51 = .ok (.iload_n 3, 1) := by decide +kernel
theorem dX11_against_52 : decode cX11_against 52 = .ok (.tableswitch 52 0 2 #[28, 36, 44], 28) := by decide +kernel
theorem dX11_against_80 : decode cX11_against 80 = .ok (.aload_n 0, 1) := by decide +kernel
theorem dX11_against_81 : decode cX11_against 81 = .ok (.getfield 57, 3) := by decide +kernel
theorem dX11_against_84 : decode cX11_against 84 = .ok (.getfield 274, 3) := by decide +kernel
theorem dX11_against_87 : decode cX11_against 87 = .ok (.ireturn, 1) := by decide +kernel
theorem dX11_against_88 : decode cX11_against 88 = .ok (.aload_n 0, 1) := by decide +kernel
theorem dX11_against_89 : decode cX11_against 89 = .ok (.getfield 57, 3) := by decide +kernel
theorem dX11_against_92 : decode cX11_against 92 = .ok (.getfield 277, 3) := by decide +kernel
theorem dX11_against_95 : decode cX11_against 95 = .ok (.ireturn, 1) := by decide +kernel
theorem dX11_against_96 : decode cX11_against 96 = .ok (.aload_n 0, 1) := by decide +kernel
theorem dX11_against_97 : decode cX11_against 97 = .ok (.getfield 57, 3) := by decide +kernel
theorem dX11_against_100 : decode cX11_against 100 = .ok (.getfield 280, 3) := by decide +kernel
theorem dX11_against_103 : decode cX11_against 103 = .ok (.ireturn, 1) := by decide +kernel
theorem dX11_against_104 : decode cX11_against 104 = .ok (.aload_n 0, 1) := by decide +kernel
theorem dX11_against_105 : decode cX11_against 105 = .ok (.getfield 57, 3) := by decide +kernel
theorem dX11_against_108 : decode cX11_against 108 = .ok (.invokevirtual 283, 3) := by decide +kernel
theorem dX11_against_111 : decode cX11_against 111 = .ok (.ireturn, 1) := by decide +kernel
theorem ck_X11_270 {l : Launch} {D : va_G} {cy : Nat → ClassId} {R : Room} (hR : 4 ≤ R.frames ∧ 90 ≤ R.locals) : CallOK l D cy R RX11 (.invokevirtual 270) 0 0 (spV 10 3 SP_X10_compare) := call_V (ci := 10) (con_X10_compare l D cy) (lwG_4 (i := 13) rfl rfl) (lwG_4 (i := 14) rfl rfl) (lwG_4 (i := 15) rfl rfl) (lwG_1 (i := 12) rfl rfl) (lwG_4 (i := 16) rfl rfl) (by decide) ⟨rfl, by decide, by decide, rfl⟩ ⟨rfl, rfl⟩ hR
theorem fw_X11_274 : fI RX11 274 10 1 := ⟨⟨lwG_2 (i := 48) rfl rfl, by decide, by decide⟩, rfl⟩
theorem fw_X11_277 : fI RX11 277 10 2 := ⟨⟨lwG_2 (i := 50) rfl rfl, by decide, by decide⟩, rfl⟩
theorem fw_X11_280 : fI RX11 280 10 3 := ⟨⟨lwG_2 (i := 52) rfl rfl, by decide, by decide⟩, rfl⟩
theorem ck_X11_283 {l : Launch} {D : va_G} {cy : Nat → ClassId} {R : Room} (hR : 1 ≤ R.frames ∧ 24 ≤ R.locals) : CallOK l D cy R RX11 (.invokevirtual 283) 0 0 (spV 10 0 SP_X10_odds) := call_V (ci := 10) (con_X10_odds l D cy) (lwG_4 (i := 29) rfl rfl) (lwG_4 (i := 30) rfl rfl) (lwG_4 (i := 31) rfl rfl) (lwG_1 (i := 12) rfl rfl) (lwG_4 (i := 32) rfl rfl) (by decide) ⟨rfl, by decide, by decide, rfl⟩ ⟨rfl, rfl⟩ hR
section W_X11_against
variable {p : Program} {l : Launch} {e : Env} {s : State} {m : MethodId} {args : Array Value} {below : List Frame} {meth : Method} {c : Code} {D : va_G} {cy : Nat → ClassId} {G : Nat × Nat} {n0 : Nat} {Qp : Option PV → Mm → Prop}
set_option maxRecDepth 100000 in
set_option maxHeartbeats 4000000 in
theorem k_X11_against_0 {o0 : Nat} {x1 : Int} {x2 : Int} {x3 : Int} {M : Mm} {Q : Int → Mm → Prop} (C : Cx p s m args meth c cX11_against 4 RX11 D cy G n0) (hr : meth.sig.returnType = some .int) (h3 : n0 = 243) (hn : M.2.2.2 = n0) (ho0 : o0 < 243 ∧ (SH o0).1 = 11) (hQ : ∀ x M, Q x M → Qp (some (vI x)) M) (h : P_X11_against o0 x1 x2 x3 M Q ) : WW p l e ({ frames := 4, cells := 0, slots := 0, locals := 90 }) s m args below meth c (ZQ below args s D cy G n0 Qp n0) 4 D cy G n0 0 [(0, vR (some o0)), (1, vI x1), (2, vI x2), (3, vI x3)] [] M := by
  unfold P_X11_against at h
  refine w_aload_n C dX11_against_0 rfl (mem_k 0 rfl) ?_
  refine x_getR C dX11_against_1 fw_X11_19 (isO.n (ci := 11) ⟨rfl, ho0⟩ (hn.trans h3)) (fun r1 er1 => ?_)
  replace h := h r1 er1
  refine w_iload_n C dX11_against_4 rfl (mem_k 1 rfl) ?_
  obtain ⟨o2, g3, h⟩ := h
  refine cl_X5_seatAt (ck_X11_154 ⟨by decide, by decide⟩) C dX11_against_5 hn h3 (Nat.le_of_ble_eq_true rfl) (isO.n g3 (hn.trans h3)) h (fun r4 h => ?_)
  refine w_ifnull (tgt := 36) C dX11_against_8 (by decide) (fun q => ?_) (fun z5 q => ?_)
  · replace h := h.1 q
    refine w_iconst C dX11_against_36 ⟨by decide, by decide⟩ ?_
    exact x_iret C hr dX11_against_37 hn (hQ _ M h)
  · replace h := h.2 z5 q
    refine w_aload_n C dX11_against_11 rfl (mem_k 0 rfl) ?_
    refine x_getR C dX11_against_12 fw_X11_19 (isO.n (ci := 11) ⟨rfl, ho0⟩ (hn.trans h3)) (fun r6 er6 => ?_)
    replace h := h r6 er6
    refine w_iload_n C dX11_against_15 rfl (mem_k 2 rfl) ?_
    obtain ⟨o7, g8, h⟩ := h
    refine cl_X5_seatAt (ck_X11_154 ⟨by decide, by decide⟩) C dX11_against_16 hn h3 (Nat.le_of_ble_eq_true rfl) (isO.n g8 (hn.trans h3)) h (fun r9 h => ?_)
    refine w_ifnull (tgt := 36) C dX11_against_19 (by decide) (fun q => ?_) (fun z10 q => ?_)
    · replace h := h.1 q
      refine w_iconst C dX11_against_36 ⟨by decide, by decide⟩ ?_
      exact x_iret C hr dX11_against_37 hn (hQ _ M h)
    · replace h := h.2 z10 q
      refine w_iload_n C dX11_against_22 rfl (mem_k 1 rfl) ?_
      refine w_iload_n C dX11_against_23 rfl (mem_k 2 rfl) ?_
      refine w_icmp_eq (tgt := 36) C dX11_against_24 (by decide) (fun q => ?_) (fun q => ?_)
      · replace h := h.1 q
        refine w_iconst C dX11_against_36 ⟨by decide, by decide⟩ ?_
        exact x_iret C hr dX11_against_37 hn (hQ _ M h)
      · replace h := h.2 q
        refine w_iload_n C dX11_against_27 rfl (mem_k 3 rfl) ?_
        refine w_iconst C dX11_against_28 ⟨by decide, by decide⟩ ?_
        refine w_iconst C dX11_against_29 ⟨by decide, by decide⟩ ?_
        refine cl_X11_isWithin (ck_X11_61 ⟨by decide, by decide⟩) C dX11_against_30 hn h3 (Nat.le_of_ble_eq_true rfl) h (fun v11 h => ?_)
        refine w_if_ne (tgt := 38) C dX11_against_33 (by decide) (fun q => ?_) (fun q => ?_)
        · replace h := h.1 q
          refine w_aload_n C dX11_against_38 rfl (mem_k 0 rfl) ?_
          refine x_getR C dX11_against_39 fw_X11_57 (isO.n (ci := 11) ⟨rfl, ho0⟩ (hn.trans h3)) (fun r12 er12 => ?_)
          replace h := h r12 er12
          refine w_aload_n C dX11_against_42 rfl (mem_k 0 rfl) ?_
          refine x_getR C dX11_against_43 fw_X11_29 (isO.n (ci := 11) ⟨rfl, ho0⟩ (hn.trans h3)) (fun r13 er13 => ?_)
          replace h := h r13 er13
          refine w_iload_n C dX11_against_46 rfl (mem_k 1 rfl) ?_
          refine w_iload_n C dX11_against_47 rfl (mem_k 2 rfl) ?_
          obtain ⟨o14, g15, h⟩ := h
          refine cl_X10_compare (ck_X11_270 ⟨by decide, by decide⟩) C dX11_against_48 hn h3 (Nat.le_of_ble_eq_true rfl) (isO.n g15 (hn.trans h3)) h (fun M16 h hn17 => ?_)
          refine w_iload_n C dX11_against_51 rfl (mem_k 3 rfl) ?_
          refine w_table C dX11_against_52 104 (by decide) (fun z hz1 hz2 => ?_) (fun q => ?_)
          · have hz : z = 0 ∨ z = 1 ∨ z = 2 := by omega
            rcases hz with rfl | rfl | rfl
            · refine ⟨_, 80, rfl, by decide, fun q => ?_⟩
              replace h := h.1 q
              refine w_aload_n C dX11_against_80 rfl (mem_k 0 rfl) ?_
              refine x_getR C dX11_against_81 fw_X11_57 (isO.n (ci := 11) ⟨rfl, ho0⟩ (hn17.trans h3)) (fun r18 er18 => ?_)
              replace h := h r18 er18
              obtain ⟨o19, g20, h⟩ := h
              refine x_getI C dX11_against_84 fw_X11_274 (isO.n g20 (hn17.trans h3)) ?_
              exact x_iret C hr dX11_against_87 hn17 (hQ _ M16 h)
            · refine ⟨_, 88, rfl, by decide, fun q => ?_⟩
              replace h := h.2.1 q
              refine w_aload_n C dX11_against_88 rfl (mem_k 0 rfl) ?_
              refine x_getR C dX11_against_89 fw_X11_57 (isO.n (ci := 11) ⟨rfl, ho0⟩ (hn17.trans h3)) (fun r21 er21 => ?_)
              replace h := h r21 er21
              obtain ⟨o22, g23, h⟩ := h
              refine x_getI C dX11_against_92 fw_X11_277 (isO.n g23 (hn17.trans h3)) ?_
              exact x_iret C hr dX11_against_95 hn17 (hQ _ M16 h)
            · refine ⟨_, 96, rfl, by decide, fun q => ?_⟩
              replace h := h.2.2.1 q
              refine w_aload_n C dX11_against_96 rfl (mem_k 0 rfl) ?_
              refine x_getR C dX11_against_97 fw_X11_57 (isO.n (ci := 11) ⟨rfl, ho0⟩ (hn17.trans h3)) (fun r24 er24 => ?_)
              replace h := h r24 er24
              obtain ⟨o25, g26, h⟩ := h
              refine x_getI C dX11_against_100 fw_X11_280 (isO.n g26 (hn17.trans h3)) ?_
              exact x_iret C hr dX11_against_103 hn17 (hQ _ M16 h)
          · replace h := h.2.2.2 q
            refine w_aload_n C dX11_against_104 rfl (mem_k 0 rfl) ?_
            refine x_getR C dX11_against_105 fw_X11_57 (isO.n (ci := 11) ⟨rfl, ho0⟩ (hn17.trans h3)) (fun r27 er27 => ?_)
            replace h := h r27 er27
            obtain ⟨o28, g29, h⟩ := h
            refine cl_X10_odds (ck_X11_283 ⟨by decide, by decide⟩) C dX11_against_108 hn17 h3 (Nat.le_of_ble_eq_true rfl) (isO.n g29 (hn17.trans h3)) h (fun v30 h => ?_)
            exact x_iret C hr dX11_against_111 hn17 (hQ _ M16 h)
        · replace h := h.2 q
          refine w_iconst C dX11_against_36 ⟨by decide, by decide⟩ ?_
          exact x_iret C hr dX11_against_37 hn (hQ _ M h)
set_option maxRecDepth 100000 in
set_option maxHeartbeats 4000000 in
theorem con_X11_against (l : Launch) (D : va_G) (cy : Nat → ClassId) : Con l D cy yX11_against cX11_against 4 (some .int) ({ frames := 4, cells := 0, slots := 0, locals := 90 }) 0 0 SP_X11_against := by
  refine con_of (by decide) (fun as M Qp h => ?_) ?_
  · obtain ⟨-, o0, x1, x2, x3, rfl, -⟩ := h
    exact Nat.le_of_ble_eq_true rfl
  · intro p e s m args below meth c G as M Qp h C hr hnm
    obtain ⟨hn, o0, x1, x2, x3, rfl, ho1, ho2, Q0, hQ, h⟩ := h
    refine x_pick (L' := [(0, vR (some o0)), (1, vI x1), (2, vI x2), (3, vI x3)]) [0, 1, 2, 3] rfl ?_
    exact k_X11_against_0 C hr hn rfl ⟨ho1, ho2⟩ hQ h
set_option maxRecDepth 100000 in
set_option maxHeartbeats 4000000 in
theorem cl_X11_against {p : Program} {l : Launch} {e : Env} {R : Room} {s : State} {m : MethodId} {args : Array Value} {below : List Frame} {meth : Method} {c : Code} {Q : State → Prop} {cc : ByteArray} {nL : Nat} {own : String} {D : va_G} {cy : Nat → ClassId} {G : Nat × Nat} {n0 pc : Nat} {L : List (Nat × PV)} {st : List PV} {M : Mm} {op : Instr} (K : CallOK l D cy R own op 0 0 (spV 11 3 SP_X11_against)) (C : Cx p s m args meth c cc nL own D cy G n0) (hd : decode cc pc = .ok (op, 3)) (hn : M.2.2.2 = n0) (h3 : n0 = 243) (hlen : argN st ≤ 8) {r : Option Nat} {o0 : Nat} (ho : isOn 11 M.2.2.2 r o0) {x1 : Int} {x2 : Int} {x3 : Int} {Q0 : Int → Mm → Prop} (h : P_X11_against o0 x1 x2 x3 M Q0) (k : ∀ x M2, Q0 x M2 → M2.2.2.2 = n0 → WW p l e R s m args below meth c Q nL D cy G n0  (pc + 3) L (vI x :: st) M2) : WW p l e R s m args below meth c Q nL D cy G n0  pc L (vI x3 :: vI x2 :: vI x1 :: vR r :: st) M := by
  obtain ⟨rfl, ho1, ho2⟩ := ho
  refine x_call0 K C hd (as := [vR (some o0), vI x1, vI x2, vI x3]) rfl hn hlen (fun v M2 => ∃ x, v = some (vI x) ∧ Q0 x M2) ⟨⟨o0, [vI x1, vI x2, vI x3], rfl, rfl, ho1, ho2⟩, hn.trans h3, o0, x1, x2, x3, rfl, (hn.trans h3) ▸ ho1, ho2, Q0, fun x M2 hx => ⟨x, rfl, hx⟩, h⟩ ?_
  rintro _ _ ⟨x, rfl, hx⟩ hm
  exact k x _ hx hm
end W_X11_against
theorem dX11_score_0 : decode cX11_score 0 = .ok (.aload_n 0, 1) := by decide +kernel
theorem dX11_score_1 : decode cX11_score 1 = .ok (.getfield 19, 3) := by decide +kernel
theorem dX11_score_4 : decode cX11_score 4 = .ok (.iload_n 1, 1) := by decide +kernel
theorem dX11_score_5 : decode cX11_score 5 = .ok (.invokevirtual 154, 3) := by decide +kernel
theorem dX11_score_8 : decode cX11_score 8 = .ok (.ifnull 12, 3) := by decide +kernel
theorem dX11_score_11 : decode cX11_score 11 = .ok (.iload_n 2, 1) := by decide +kernel
theorem dX11_score_12 : decode cX11_score 12 = .ok (.iconst 0, 1) := by decide +kernel
theorem dX11_score_13 : decode cX11_score 13 = .ok (.iconst 1, 1) := by decide +kernel
theorem dX11_score_14 : decode cX11_score 14 = .ok (.invokestatic 61, 3) := by decide +kernel
theorem dX11_score_17 : decode cX11_score 17 = .ok (.ifCond .ne 6, 3) := by decide +kernel
theorem dX11_score_20 : decode cX11_score 20 = .ok (.ldc 123, 2) := by decide +kernel
theorem dX11_score_22 : decode cX11_score 22 = .ok (.ireturn, 1) := by decide +kernel
theorem dX11_score_23 : decode cX11_score 23 = .ok (.aload_n 0, 1) := by decide +kernel
theorem dX11_score_24 : decode cX11_score 24 = .ok (.getfield 57, 3) := by decide +kernel
theorem dX11_score_27 : decode cX11_score 27 = .ok (.aload_n 0, 1) := by decide +kernel
theorem dX11_score_28 : decode cX11_score 28 = .ok (.getfield 29, 3) := by decide +kernel
theorem dX11_score_31 : decode cX11_score 31 = .ok (.iload_n 1, 1) := by decide +kernel
theorem dX11_score_32 : decode cX11_score 32 = .ok (.invokevirtual 286, 3) := by decide +kernel
theorem dX11_score_35 : decode cX11_score 35 = .ok (.istore_n 3, 1) := by decide +kernel
theorem dX11_score_36 : decode cX11_score 36 = .ok (.iload_n 3, 1) := by decide +kernel
theorem dX11_score_37 : decode cX11_score 37 = .ok (.bipush 60, 2) := by decide +kernel
theorem dX11_score_39 : decode cX11_score 39 = .ok (.invokestatic 137, 3) := by decide +kernel
theorem dX11_score_42 : decode cX11_score 42 = .ok (.istore 4, 2) := by decide +kernel
theorem dX11_score_44 : decode cX11_score 44 = .ok (.iload_n 2, 1) := by decide +kernel
theorem dX11_score_45 : decode cX11_score 45 = .ok (.ifCond .ne 7, 3) := by decide +kernel
theorem dX11_score_48 : decode cX11_score 48 = .ok (.iload_n 3, 1) := by decide +kernel
theorem dX11_score_49 : decode cX11_score 49 = .ok (.goto 5, 3) := by decide +kernel
theorem dX11_score_52 : decode cX11_score 52 = .ok (.bipush 60, 2) := by decide +kernel
theorem dX11_score_54 : decode cX11_score 54 = .ok (.iload 4, 2) := by decide +kernel
theorem dX11_score_56 : decode cX11_score 56 = .ok (.idiv, 1) := by decide +kernel
theorem dX11_score_57 : decode cX11_score 57 = .ok (.ireturn, 1) := by decide +kernel
theorem ck_X11_286 {l : Launch} {D : va_G} {cy : Nat → ClassId} {R : Room} (hR : 5 ≤ R.frames ∧ 112 ≤ R.locals) : CallOK l D cy R RX11 (.invokevirtual 286) 0 0 (spV 10 2 SP_X10_sixtiethsOf) := call_V (ci := 10) (con_X10_sixtiethsOf l D cy) (lwG_4 (i := 37) rfl rfl) (lwG_4 (i := 38) rfl rfl) (lwG_4 (i := 39) rfl rfl) (lwG_1 (i := 12) rfl rfl) (lwG_4 (i := 40) rfl rfl) (by decide) ⟨rfl, by decide, by decide, rfl⟩ ⟨rfl, rfl⟩ hR
section W_X11_score
variable {p : Program} {l : Launch} {e : Env} {s : State} {m : MethodId} {args : Array Value} {below : List Frame} {meth : Method} {c : Code} {D : va_G} {cy : Nat → ClassId} {G : Nat × Nat} {n0 : Nat} {Qp : Option PV → Mm → Prop}
set_option maxRecDepth 100000 in
set_option maxHeartbeats 4000000 in
theorem k_X11_score_0 {o0 : Nat} {x1 : Int} {x2 : Int} {M : Mm} {Q : Int → Prop} (C : Cx p s m args meth c cX11_score 5 RX11 D cy G n0) (hr : meth.sig.returnType = some .int) (h3 : n0 = 243) (hn : M.2.2.2 = n0) (ho0 : o0 < 243 ∧ (SH o0).1 = 11) (hQ : ∀ x, Q x → Qp (some (vI x)) M) (h : P_X11_score o0 x1 x2 M Q ) : WW p l e ({ frames := 5, cells := 0, slots := 0, locals := 112 }) s m args below meth c (ZQ below args s D cy G n0 Qp n0) 5 D cy G n0 0 [(0, vR (some o0)), (1, vI x1), (2, vI x2)] [] M := by
  unfold P_X11_score at h
  refine w_aload_n C dX11_score_0 rfl (mem_k 0 rfl) ?_
  refine x_getR C dX11_score_1 fw_X11_19 (isO.n (ci := 11) ⟨rfl, ho0⟩ (hn.trans h3)) (fun r1 er1 => ?_)
  replace h := h r1 er1
  refine w_iload_n C dX11_score_4 rfl (mem_k 1 rfl) ?_
  obtain ⟨o2, g3, h⟩ := h
  refine cl_X5_seatAt (ck_X11_154 ⟨by decide, by decide⟩) C dX11_score_5 hn h3 (Nat.le_of_ble_eq_true rfl) (isO.n g3 (hn.trans h3)) h (fun r4 h => ?_)
  refine w_ifnull (tgt := 20) C dX11_score_8 (by decide) (fun q => ?_) (fun z5 q => ?_)
  · replace h := h.1 q
    refine w_ldc (x := (-1000000000)) C dX11_score_20 cn_X11_123 ⟨by decide, by decide⟩ ?_
    exact x_iret C hr dX11_score_22 hn (hQ _ h)
  · replace h := h.2 z5 q
    refine w_iload_n C dX11_score_11 rfl (mem_k 2 rfl) ?_
    refine w_iconst C dX11_score_12 ⟨by decide, by decide⟩ ?_
    refine w_iconst C dX11_score_13 ⟨by decide, by decide⟩ ?_
    refine cl_X11_isWithin (ck_X11_61 ⟨by decide, by decide⟩) C dX11_score_14 hn h3 (Nat.le_of_ble_eq_true rfl) h (fun v6 h => ?_)
    refine w_if_ne (tgt := 23) C dX11_score_17 (by decide) (fun q => ?_) (fun q => ?_)
    · replace h := h.1 q
      refine w_aload_n C dX11_score_23 rfl (mem_k 0 rfl) ?_
      refine x_getR C dX11_score_24 fw_X11_57 (isO.n (ci := 11) ⟨rfl, ho0⟩ (hn.trans h3)) (fun r7 er7 => ?_)
      replace h := h r7 er7
      refine w_aload_n C dX11_score_27 rfl (mem_k 0 rfl) ?_
      refine x_getR C dX11_score_28 fw_X11_29 (isO.n (ci := 11) ⟨rfl, ho0⟩ (hn.trans h3)) (fun r8 er8 => ?_)
      replace h := h r8 er8
      refine w_iload_n C dX11_score_31 rfl (mem_k 1 rfl) ?_
      obtain ⟨o9, g10, h⟩ := h
      refine cl_X10_sixtiethsOf (ck_X11_286 ⟨by decide, by decide⟩) C dX11_score_32 hn h3 (Nat.le_of_ble_eq_true rfl) (isO.n g10 (hn.trans h3)) h (fun v11 h => ?_)
      refine x_istore_n (L' := [(3, vI v11), (0, vR (some o0)), (1, vI x1), (2, vI x2)]) C dX11_score_35 rfl (by decide) rfl ?_
      refine w_iload_n C dX11_score_36 rfl (mem_k 0 rfl) ?_
      refine w_bipush C dX11_score_37 (by decide) ?_
      refine cl_X11_commonDivisor (ck_X11_137 ⟨by decide, by decide⟩) C dX11_score_39 hn h3 (Nat.le_of_ble_eq_true rfl) h (fun v12 h => ?_)
      refine x_istore (L' := [(4, vI v12), (3, vI v11), (0, vR (some o0)), (1, vI x1), (2, vI x2)]) C dX11_score_42 (by decide) rfl ?_
      refine w_iload_n C dX11_score_44 rfl (mem_k 4 rfl) ?_
      refine w_if_ne (tgt := 52) C dX11_score_45 (by decide) (fun q => ?_) (fun q => ?_)
      · replace h := h.1 q
        refine w_bipush C dX11_score_52 (by decide) ?_
        refine w_iload C dX11_score_54 (mem_k 0 rfl) ?_
        refine x_idiv C dX11_score_56 h.1 ?_
        replace h := h.2
        exact x_iret C hr dX11_score_57 hn (hQ _ h)
      · replace h := h.2 q
        refine w_iload_n C dX11_score_48 rfl (mem_k 1 rfl) ?_
        refine w_goto (tgt := 54) C dX11_score_49 (by decide) ?_
        refine w_iload C dX11_score_54 (mem_k 0 rfl) ?_
        refine x_idiv C dX11_score_56 h.1 ?_
        replace h := h.2
        exact x_iret C hr dX11_score_57 hn (hQ _ h)
    · replace h := h.2 q
      refine w_ldc (x := (-1000000000)) C dX11_score_20 cn_X11_123 ⟨by decide, by decide⟩ ?_
      exact x_iret C hr dX11_score_22 hn (hQ _ h)
set_option maxRecDepth 100000 in
set_option maxHeartbeats 4000000 in
theorem con_X11_score (l : Launch) (D : va_G) (cy : Nat → ClassId) : Con l D cy yX11_score cX11_score 5 (some .int) ({ frames := 5, cells := 0, slots := 0, locals := 112 }) 0 0 SP_X11_score := by
  refine con_of (by decide) (fun as M Qp h => ?_) ?_
  · obtain ⟨-, o0, x1, x2, rfl, -⟩ := h
    exact Nat.le_of_ble_eq_true rfl
  · intro p e s m args below meth c G as M Qp h C hr hnm
    obtain ⟨hn, o0, x1, x2, rfl, ho1, ho2, Q0, hQ, h⟩ := h
    refine x_pick (L' := [(0, vR (some o0)), (1, vI x1), (2, vI x2)]) [0, 1, 2] rfl ?_
    exact k_X11_score_0 C hr hn rfl ⟨ho1, ho2⟩ hQ h
set_option maxRecDepth 100000 in
set_option maxHeartbeats 4000000 in
theorem cl_X11_score {p : Program} {l : Launch} {e : Env} {R : Room} {s : State} {m : MethodId} {args : Array Value} {below : List Frame} {meth : Method} {c : Code} {Q : State → Prop} {cc : ByteArray} {nL : Nat} {own : String} {D : va_G} {cy : Nat → ClassId} {G : Nat × Nat} {n0 pc : Nat} {L : List (Nat × PV)} {st : List PV} {M : Mm} {op : Instr} (K : CallOK l D cy R own op 0 0 (spV 11 2 SP_X11_score)) (C : Cx p s m args meth c cc nL own D cy G n0) (hd : decode cc pc = .ok (op, 3)) (hn : M.2.2.2 = n0) (h3 : n0 = 243) (hlen : argN st ≤ 8) {r : Option Nat} {o0 : Nat} (ho : isOn 11 M.2.2.2 r o0) {x1 : Int} {x2 : Int} {Q0 : Int → Prop} (h : P_X11_score o0 x1 x2 M Q0) (k : ∀ x, Q0 x → WW p l e R s m args below meth c Q nL D cy G n0  (pc + 3) L (vI x :: st) M) : WW p l e R s m args below meth c Q nL D cy G n0  pc L (vI x2 :: vI x1 :: vR r :: st) M := by
  obtain ⟨rfl, ho1, ho2⟩ := ho
  refine x_call0 K C hd (as := [vR (some o0), vI x1, vI x2]) rfl hn hlen (fun v M2 => ∃ x, v = some (vI x) ∧ M2 = M ∧ Q0 x) ⟨⟨o0, [vI x1, vI x2], rfl, rfl, ho1, ho2⟩, hn.trans h3, o0, x1, x2, rfl, (hn.trans h3) ▸ ho1, ho2, Q0, fun x hx => ⟨x, rfl, rfl, hx⟩, h⟩ ?_
  rintro _ _ ⟨x, rfl, rfl, hx⟩ hm
  exact k x hx
end W_X11_score
theorem dX11_count_0 : decode cX11_count 0 = .ok (.iload_n 1, 1) := by decide +kernel
theorem dX11_count_1 : decode cX11_count 1 = .ok (.tableswitch 99 0 6 #[43, 51, 59, 67, 75, 83, 91], 43) := by decide +kernel
theorem dX11_count_44 : decode cX11_count 44 = .ok (.aload_n 0, 1) := by decide +kernel
theorem dX11_count_45 : decode cX11_count 45 = .ok (.getfield 10, 3) := by decide +kernel
theorem dX11_count_48 : decode cX11_count 48 = .ok (.getfield 69, 3) := by decide +kernel
theorem dX11_count_51 : decode cX11_count 51 = .ok (.ireturn, 1) := by decide +kernel
theorem dX11_count_52 : decode cX11_count 52 = .ok (.aload_n 0, 1) := by decide +kernel
theorem dX11_count_53 : decode cX11_count 53 = .ok (.getfield 19, 3) := by decide +kernel
theorem dX11_count_56 : decode cX11_count 56 = .ok (.getfield 290, 3) := by decide +kernel
theorem dX11_count_59 : decode cX11_count 59 = .ok (.ireturn, 1) := by decide +kernel
theorem dX11_count_60 : decode cX11_count 60 = .ok (.aload_n 0, 1) := by decide +kernel
theorem dX11_count_61 : decode cX11_count 61 = .ok (.getfield 19, 3) := by decide +kernel
theorem dX11_count_64 : decode cX11_count 64 = .ok (.getfield 81, 3) := by decide +kernel
theorem dX11_count_67 : decode cX11_count 67 = .ok (.ireturn, 1) := by decide +kernel
theorem dX11_count_68 : decode cX11_count 68 = .ok (.aload_n 0, 1) := by decide +kernel
theorem dX11_count_69 : decode cX11_count 69 = .ok (.getfield 19, 3) := by decide +kernel
theorem dX11_count_72 : decode cX11_count 72 = .ok (.invokevirtual 293, 3) := by decide +kernel
theorem dX11_count_75 : decode cX11_count 75 = .ok (.ireturn, 1) := by decide +kernel
theorem dX11_count_76 : decode cX11_count 76 = .ok (.aload_n 0, 1) := by decide +kernel
theorem dX11_count_77 : decode cX11_count 77 = .ok (.getfield 29, 3) := by decide +kernel
theorem dX11_count_80 : decode cX11_count 80 = .ok (.getfield 108, 3) := by decide +kernel
theorem dX11_count_83 : decode cX11_count 83 = .ok (.ireturn, 1) := by decide +kernel
theorem dX11_count_84 : decode cX11_count 84 = .ok (.aload_n 0, 1) := by decide +kernel
theorem dX11_count_85 : decode cX11_count 85 = .ok (.getfield 29, 3) := by decide +kernel
theorem dX11_count_88 : decode cX11_count 88 = .ok (.invokevirtual 166, 3) := by decide +kernel
theorem dX11_count_91 : decode cX11_count 91 = .ok (.ireturn, 1) := by decide +kernel
theorem dX11_count_92 : decode cX11_count 92 = .ok (.aload_n 0, 1) := by decide +kernel
theorem dX11_count_93 : decode cX11_count 93 = .ok (.getfield 57, 3) := by decide +kernel
theorem dX11_count_96 : decode cX11_count 96 = .ok (.getfield 263, 3) := by decide +kernel
theorem dX11_count_99 : decode cX11_count 99 = .ok (.ireturn, 1) := by decide +kernel
theorem dX11_count_100 : decode cX11_count 100 = .ok (.iconst (-1), 1) := by decide +kernel
theorem dX11_count_101 : decode cX11_count 101 = .ok (.ireturn, 1) := by decide +kernel
theorem fw_X11_290 : fI RX11 290 5 1 := ⟨⟨lwG_1 (i := 138) rfl rfl, by decide, by decide⟩, rfl⟩
theorem ck_X11_293 {l : Launch} {D : va_G} {cy : Nat → ClassId} {R : Room} (hR : 1 ≤ R.frames ∧ 22 ≤ R.locals) : CallOK l D cy R RX11 (.invokevirtual 293) 0 0 (spV 5 0 SP_X5_patchesOfAll) := call_V (ci := 5) (con_X5_patchesOfAll l D cy) (lwG_4 (i := 54) rfl rfl) (lwG_4 (i := 55) rfl rfl) (lwG_4 (i := 56) rfl rfl) (lwG_1 (i := 3) rfl rfl) (lwG_4 (i := 57) rfl rfl) (by decide) ⟨rfl, by decide, by decide, rfl⟩ ⟨rfl, rfl⟩ hR
section W_X11_count
variable {p : Program} {l : Launch} {e : Env} {s : State} {m : MethodId} {args : Array Value} {below : List Frame} {meth : Method} {c : Code} {D : va_G} {cy : Nat → ClassId} {G : Nat × Nat} {n0 : Nat} {Qp : Option PV → Mm → Prop}
set_option maxRecDepth 100000 in
set_option maxHeartbeats 4000000 in
theorem k_X11_count_0 {o0 : Nat} {x1 : Int} {M : Mm} {Q : Int → Prop} (C : Cx p s m args meth c cX11_count 2 RX11 D cy G n0) (hr : meth.sig.returnType = some .int) (h3 : n0 = 243) (hn : M.2.2.2 = n0) (ho0 : o0 < 243 ∧ (SH o0).1 = 11) (hQ : ∀ x, Q x → Qp (some (vI x)) M) (h : P_X11_count o0 x1 M Q ) : WW p l e ({ frames := 2, cells := 0, slots := 0, locals := 43 }) s m args below meth c (ZQ below args s D cy G n0 Qp n0) 2 D cy G n0 0 [(0, vR (some o0)), (1, vI x1)] [] M := by
  unfold P_X11_count at h
  refine w_iload_n C dX11_count_0 rfl (mem_k 1 rfl) ?_
  refine w_table C dX11_count_1 100 (by decide) (fun z hz1 hz2 => ?_) (fun q => ?_)
  · have hz : z = 0 ∨ z = 1 ∨ z = 2 ∨ z = 3 ∨ z = 4 ∨ z = 5 ∨ z = 6 := by omega
    rcases hz with rfl | rfl | rfl | rfl | rfl | rfl | rfl
    · refine ⟨_, 44, rfl, by decide, fun q => ?_⟩
      replace h := h.1 q
      refine w_aload_n C dX11_count_44 rfl (mem_k 0 rfl) ?_
      refine x_getR C dX11_count_45 fw_X11_10 (isO.n (ci := 11) ⟨rfl, ho0⟩ (hn.trans h3)) (fun r1 er1 => ?_)
      replace h := h r1 er1
      obtain ⟨o2, g3, h⟩ := h
      refine x_getI C dX11_count_48 fw_X11_69 (isO.n g3 (hn.trans h3)) ?_
      exact x_iret C hr dX11_count_51 hn (hQ _ h)
    · refine ⟨_, 52, rfl, by decide, fun q => ?_⟩
      replace h := h.2.1 q
      refine w_aload_n C dX11_count_52 rfl (mem_k 0 rfl) ?_
      refine x_getR C dX11_count_53 fw_X11_19 (isO.n (ci := 11) ⟨rfl, ho0⟩ (hn.trans h3)) (fun r4 er4 => ?_)
      replace h := h r4 er4
      obtain ⟨o5, g6, h⟩ := h
      refine x_getI C dX11_count_56 fw_X11_290 (isO.n g6 (hn.trans h3)) ?_
      exact x_iret C hr dX11_count_59 hn (hQ _ h)
    · refine ⟨_, 60, rfl, by decide, fun q => ?_⟩
      replace h := h.2.2.1 q
      refine w_aload_n C dX11_count_60 rfl (mem_k 0 rfl) ?_
      refine x_getR C dX11_count_61 fw_X11_19 (isO.n (ci := 11) ⟨rfl, ho0⟩ (hn.trans h3)) (fun r7 er7 => ?_)
      replace h := h r7 er7
      obtain ⟨o8, g9, h⟩ := h
      refine x_getI C dX11_count_64 fw_X11_81 (isO.n g9 (hn.trans h3)) ?_
      exact x_iret C hr dX11_count_67 hn (hQ _ h)
    · refine ⟨_, 68, rfl, by decide, fun q => ?_⟩
      replace h := h.2.2.2.1 q
      refine w_aload_n C dX11_count_68 rfl (mem_k 0 rfl) ?_
      refine x_getR C dX11_count_69 fw_X11_19 (isO.n (ci := 11) ⟨rfl, ho0⟩ (hn.trans h3)) (fun r10 er10 => ?_)
      replace h := h r10 er10
      obtain ⟨o11, g12, h⟩ := h
      refine cl_X5_patchesOfAll (ck_X11_293 ⟨by decide, by decide⟩) C dX11_count_72 hn h3 (Nat.le_of_ble_eq_true rfl) (isO.n g12 (hn.trans h3)) h (fun v13 h => ?_)
      exact x_iret C hr dX11_count_75 hn (hQ _ h)
    · refine ⟨_, 76, rfl, by decide, fun q => ?_⟩
      replace h := h.2.2.2.2.1 q
      refine w_aload_n C dX11_count_76 rfl (mem_k 0 rfl) ?_
      refine x_getR C dX11_count_77 fw_X11_29 (isO.n (ci := 11) ⟨rfl, ho0⟩ (hn.trans h3)) (fun r14 er14 => ?_)
      replace h := h r14 er14
      obtain ⟨o15, g16, h⟩ := h
      refine x_getI C dX11_count_80 fw_X11_108 (isO.n g16 (hn.trans h3)) ?_
      exact x_iret C hr dX11_count_83 hn (hQ _ h)
    · refine ⟨_, 84, rfl, by decide, fun q => ?_⟩
      replace h := h.2.2.2.2.2.1 q
      refine w_aload_n C dX11_count_84 rfl (mem_k 0 rfl) ?_
      refine x_getR C dX11_count_85 fw_X11_29 (isO.n (ci := 11) ⟨rfl, ho0⟩ (hn.trans h3)) (fun r17 er17 => ?_)
      replace h := h r17 er17
      obtain ⟨o18, g19, h⟩ := h
      refine cl_X1_people (ck_X11_166 ⟨by decide, by decide⟩) C dX11_count_88 hn h3 (Nat.le_of_ble_eq_true rfl) (isO.n g19 (hn.trans h3)) h (fun v20 h => ?_)
      exact x_iret C hr dX11_count_91 hn (hQ _ h)
    · refine ⟨_, 92, rfl, by decide, fun q => ?_⟩
      replace h := h.2.2.2.2.2.2.1 q
      refine w_aload_n C dX11_count_92 rfl (mem_k 0 rfl) ?_
      refine x_getR C dX11_count_93 fw_X11_57 (isO.n (ci := 11) ⟨rfl, ho0⟩ (hn.trans h3)) (fun r21 er21 => ?_)
      replace h := h r21 er21
      obtain ⟨o22, g23, h⟩ := h
      refine x_getI C dX11_count_96 fw_X11_263 (isO.n g23 (hn.trans h3)) ?_
      exact x_iret C hr dX11_count_99 hn (hQ _ h)
  · replace h := h.2.2.2.2.2.2.2 q
    refine w_iconst C dX11_count_100 ⟨by decide, by decide⟩ ?_
    exact x_iret C hr dX11_count_101 hn (hQ _ h)
set_option maxRecDepth 100000 in
set_option maxHeartbeats 4000000 in
theorem con_X11_count (l : Launch) (D : va_G) (cy : Nat → ClassId) : Con l D cy yX11_count cX11_count 2 (some .int) ({ frames := 2, cells := 0, slots := 0, locals := 43 }) 0 0 SP_X11_count := by
  refine con_of (by decide) (fun as M Qp h => ?_) ?_
  · obtain ⟨-, o0, x1, rfl, -⟩ := h
    exact Nat.le_of_ble_eq_true rfl
  · intro p e s m args below meth c G as M Qp h C hr hnm
    obtain ⟨hn, o0, x1, rfl, ho1, ho2, Q0, hQ, h⟩ := h
    refine x_pick (L' := [(0, vR (some o0)), (1, vI x1)]) [0, 1] rfl ?_
    exact k_X11_count_0 C hr hn rfl ⟨ho1, ho2⟩ hQ h
set_option maxRecDepth 100000 in
set_option maxHeartbeats 4000000 in
theorem cl_X11_count {p : Program} {l : Launch} {e : Env} {R : Room} {s : State} {m : MethodId} {args : Array Value} {below : List Frame} {meth : Method} {c : Code} {Q : State → Prop} {cc : ByteArray} {nL : Nat} {own : String} {D : va_G} {cy : Nat → ClassId} {G : Nat × Nat} {n0 pc : Nat} {L : List (Nat × PV)} {st : List PV} {M : Mm} {op : Instr} (K : CallOK l D cy R own op 0 0 (spV 11 1 SP_X11_count)) (C : Cx p s m args meth c cc nL own D cy G n0) (hd : decode cc pc = .ok (op, 3)) (hn : M.2.2.2 = n0) (h3 : n0 = 243) (hlen : argN st ≤ 8) {r : Option Nat} {o0 : Nat} (ho : isOn 11 M.2.2.2 r o0) {x1 : Int} {Q0 : Int → Prop} (h : P_X11_count o0 x1 M Q0) (k : ∀ x, Q0 x → WW p l e R s m args below meth c Q nL D cy G n0  (pc + 3) L (vI x :: st) M) : WW p l e R s m args below meth c Q nL D cy G n0  pc L (vI x1 :: vR r :: st) M := by
  obtain ⟨rfl, ho1, ho2⟩ := ho
  refine x_call0 K C hd (as := [vR (some o0), vI x1]) rfl hn hlen (fun v M2 => ∃ x, v = some (vI x) ∧ M2 = M ∧ Q0 x) ⟨⟨o0, [vI x1], rfl, rfl, ho1, ho2⟩, hn.trans h3, o0, x1, rfl, (hn.trans h3) ▸ ho1, ho2, Q0, fun x hx => ⟨x, rfl, rfl, hx⟩, h⟩ ?_
  rintro _ _ ⟨x, rfl, rfl, hx⟩ hm
  exact k x hx
end W_X11_count
