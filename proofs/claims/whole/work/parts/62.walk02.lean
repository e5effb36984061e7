/-! seats: pure predicates, decode rows, walks, contracts; by program (wip/gen/walk.py) -/
theorem dX2_nextRow_0 : decode cX2_nextRow 0 = .ok (.iload_n 2, 1) := by decide +kernel
theorem dX2_nextRow_1 : decode cX2_nextRow 1 = .ok (.iconst 3, 1) := by decide +kernel
theorem dX2_nextRow_2 : decode cX2_nextRow 2 = .ok (.invokestatic 45, 3) := by decide +kernel
theorem dX2_nextRow_5 : decode cX2_nextRow 5 = .ok (.iconst 1, 1) := by decide +kernel
theorem dX2_nextRow_6 : decode cX2_nextRow 6 = .ok (.isub, 1) := by decide +kernel
theorem dX2_nextRow_7 : decode cX2_nextRow 7 = .ok (.istore_n 3, 1) := by decide +kernel
theorem dX2_nextRow_8 : decode cX2_nextRow 8 = .ok (.iload_n 3, 1) := by decide +kernel
theorem dX2_nextRow_9 : decode cX2_nextRow 9 = .ok (.ifCond .lt 61, 3) := by decide +kernel
theorem dX2_nextRow_12 : decode cX2_nextRow 12 = .ok (.aload_n 0, 1) := by decide +kernel
theorem dX2_nextRow_13 : decode cX2_nextRow 13 = .ok (.getfield 18, 3) := by decide +kernel
theorem dX2_nextRow_16 : decode cX2_nextRow 16 = .ok (.iload_n 3, 1) := by decide +kernel
theorem dX2_nextRow_17 : decode cX2_nextRow 17 = .ok (.iaload, 1) := by decide +kernel
theorem dX2_nextRow_18 : decode cX2_nextRow 18 = .ok (.iload_n 1, 1) := by decide +kernel
theorem dX2_nextRow_19 : decode cX2_nextRow 19 = .ok (.if_icmp .ge 45, 3) := by decide +kernel
theorem dX2_nextRow_22 : decode cX2_nextRow 22 = .ok (.aload_n 0, 1) := by decide +kernel
theorem dX2_nextRow_23 : decode cX2_nextRow 23 = .ok (.getfield 18, 3) := by decide +kernel
theorem dX2_nextRow_26 : decode cX2_nextRow 26 = .ok (.iload_n 3, 1) := by decide +kernel
theorem dX2_nextRow_27 : decode cX2_nextRow 27 = .ok (.iaload, 1) := by decide +kernel
theorem dX2_nextRow_28 : decode cX2_nextRow 28 = .ok (.iconst 1, 1) := by decide +kernel
theorem dX2_nextRow_29 : decode cX2_nextRow 29 = .ok (.iadd, 1) := by decide +kernel
theorem dX2_nextRow_30 : decode cX2_nextRow 30 = .ok (.istore 4, 2) := by decide +kernel
theorem dX2_nextRow_32 : decode cX2_nextRow 32 = .ok (.iload_n 3, 1) := by decide +kernel
theorem dX2_nextRow_33 : decode cX2_nextRow 33 = .ok (.istore 5, 2) := by decide +kernel
theorem dX2_nextRow_35 : decode cX2_nextRow 35 = .ok (.iload 5, 2) := by decide +kernel
theorem dX2_nextRow_37 : decode cX2_nextRow 37 = .ok (.iload_n 2, 1) := by decide +kernel
theorem dX2_nextRow_38 : decode cX2_nextRow 38 = .ok (.if_icmp .ge 24, 3) := by decide +kernel
theorem dX2_nextRow_41 : decode cX2_nextRow 41 = .ok (.iload 5, 2) := by decide +kernel
theorem dX2_nextRow_43 : decode cX2_nextRow 43 = .ok (.iconst 3, 1) := by decide +kernel
theorem dX2_nextRow_44 : decode cX2_nextRow 44 = .ok (.if_icmp .ge 18, 3) := by decide +kernel
theorem dX2_nextRow_47 : decode cX2_nextRow 47 = .ok (.aload_n 0, 1) := by decide +kernel
theorem dX2_nextRow_48 : decode cX2_nextRow 48 = .ok (.getfield 18, 3) := by decide +kernel
theorem dX2_nextRow_51 : decode cX2_nextRow 51 = .ok (.iload 5, 2) := by decide +kernel
theorem dX2_nextRow_53 : decode cX2_nextRow 53 = .ok (.iload 4, 2) := by decide +kernel
theorem dX2_nextRow_55 : decode cX2_nextRow 55 = .ok (.iastore, 1) := by decide +kernel
theorem dX2_nextRow_56 : decode cX2_nextRow 56 = .ok (.iinc 5 1, 3) := by decide +kernel
theorem dX2_nextRow_59 : decode cX2_nextRow 59 = .ok (.goto (-24), 3) := by decide +kernel
theorem dX2_nextRow_62 : decode cX2_nextRow 62 = .ok (.iconst 1, 1) := by decide +kernel
theorem dX2_nextRow_63 : decode cX2_nextRow 63 = .ok (.ireturn, 1) := by decide +kernel
theorem dX2_nextRow_64 : decode cX2_nextRow 64 = .ok (.iinc 3 (-1), 3) := by decide +kernel
theorem dX2_nextRow_67 : decode cX2_nextRow 67 = .ok (.goto (-59), 3) := by decide +kernel
theorem dX2_nextRow_70 : decode cX2_nextRow 70 = .ok (.iconst 0, 1) := by decide +kernel
theorem dX2_nextRow_71 : decode cX2_nextRow 71 = .ok (.ireturn, 1) := by decide +kernel
theorem mt_X2_45 : mtOK RX2 45 Lib.Math.min.name := lwG_3 (i := 143) rfl rfl
section W_X2_nextRow
variable {p : Program} {l : Launch} {e : Env} {s : State} {m : MethodId} {args : Array Value} {below : List Frame} {meth : Method} {c : Code} {D : va_G} {cy : Nat → ClassId} {G : Nat × Nat} {n0 : Nat} {Qp : Option PV → Mm → Prop}
set_option maxRecDepth 100000 in
set_option maxHeartbeats 4000000 in
theorem f_X2_nextRow_35 {o0 : Nat} {x2 : Int} {x4 : Int} {x5 : Int} {M : Mm} {Q : Int → Mm → Prop} {K35 : Int × Mm → Prop} (C : Cx p s m args meth c cX2_nextRow 6 RX2 D cy G n0) (hr : meth.sig.returnType = some .boolean) (h3 : n0 = 243) (hn : M.2.2.2 = n0) (ho0 : o0 < 243 ∧ (SH o0).1 = 2) (hQ : ∀ x M, Q x M → Qp (some (vI x)) M) (hK35 : ∀ (x5 : Int) (M : Mm), K35 (x5, M) → M.2.2.2 = n0 → WW p l e ({ frames := 1, cells := 0, slots := 0, locals := 21 }) s m args below meth c (ZQ below args s D cy G n0 Qp n0) 6 D cy G n0 35 [(0, vR (some o0)), (2, vI x2), (4, vI x4), (5, vI x5)] [] M) (h : F_X2_nextRow_35 o0 x2 x4 Q  K35 x5 M) : WW p l e ({ frames := 1, cells := 0, slots := 0, locals := 21 }) s m args below meth c (ZQ below args s D cy G n0 Qp n0) 6 D cy G n0 35 [(0, vR (some o0)), (2, vI x2), (4, vI x4), (5, vI x5)] [] M := by
  unfold F_X2_nextRow_35 at h
  refine w_iload C dX2_nextRow_35 (mem_k 3 rfl) ?_
  refine w_iload_n C dX2_nextRow_37 rfl (mem_k 1 rfl) ?_
  refine w_icmp_ge (tgt := 62) C dX2_nextRow_38 (by decide) (fun q => ?_) (fun q => ?_)
  · replace h := h.1 q
    refine w_iconst C dX2_nextRow_62 ⟨by decide, by decide⟩ ?_
    exact x_zret C hr dX2_nextRow_63 hn (by decide) (hQ _ M h)
  · replace h := h.2 q
    refine w_iload C dX2_nextRow_41 (mem_k 3 rfl) ?_
    refine w_iconst C dX2_nextRow_43 ⟨by decide, by decide⟩ ?_
    refine w_icmp_ge (tgt := 62) C dX2_nextRow_44 (by decide) (fun q => ?_) (fun q => ?_)
    · replace h := h.1 q
      refine w_iconst C dX2_nextRow_62 ⟨by decide, by decide⟩ ?_
      exact x_zret C hr dX2_nextRow_63 hn (by decide) (hQ _ M h)
    · replace h := h.2 q
      refine w_aload_n C dX2_nextRow_47 rfl (mem_k 0 rfl) ?_
      refine x_getR C dX2_nextRow_48 fw_X2_18 (isO.n (ci := 2) ⟨rfl, ho0⟩ (hn.trans h3)) (fun r1 er1 => ?_)
      replace h := h r1 er1
      refine w_iload C dX2_nextRow_51 (mem_k 3 rfl) ?_
      refine w_iload C dX2_nextRow_53 (mem_k 2 rfl) ?_
      obtain ⟨o2, g3, h⟩ := h
      refine x_iast C dX2_nextRow_55 (isA.n g3 (hn.trans h3)) (fun M4 eM4 hn5 => ?_)
      replace h := h M4 eM4
      replace hn5 := hn5.trans hn
      obtain ⟨v6, ev6⟩ : ∃ z : Int, z = x5 + 1 := ⟨_, rfl⟩
      refine x_iinc (L' := [(5, vI v6), (0, vR (some o0)), (2, vI x2), (4, vI x4)]) C dX2_nextRow_56 (mem_k 3 rfl) (by decide) h.1 ev6 rfl ?_
      replace h := h.2 v6 ev6
      refine w_goto (tgt := 35) C dX2_nextRow_59 (by decide) ?_
      refine x_pc (pc2 := 35) rfl ?_
      refine x_pick (L' := [(0, vR (some o0)), (2, vI x2), (4, vI x4), (5, vI v6)]) [1, 2, 3, 0] rfl ?_
      exact hK35 v6 M4 h hn5
set_option maxRecDepth 100000 in
set_option maxHeartbeats 4000000 in
theorem k_X2_nextRow_35 {o0 : Nat} {x2 : Int} {x4 : Int} {x5 : Int} {M : Mm} {Q : Int → Mm → Prop} (C : Cx p s m args meth c cX2_nextRow 6 RX2 D cy G n0) (hr : meth.sig.returnType = some .boolean) (h3 : n0 = 243) (hn : M.2.2.2 = n0) (ho0 : o0 < 243 ∧ (SH o0).1 = 2) (hQ : ∀ x M, Q x M → Qp (some (vI x)) M) (h : P_X2_nextRow_35 o0 x2 x4 x5 M Q ) : WW p l e ({ frames := 1, cells := 0, slots := 0, locals := 21 }) s m args below meth c (ZQ below args s D cy G n0 Qp n0) 6 D cy G n0 35 [(0, vR (some o0)), (2, vI x2), (4, vI x4), (5, vI x5)] [] M := by
  refine lpW_sound (P := fun y : Int × Mm => y.2.2.2.2 = n0 → WW p l e ({ frames := 1, cells := 0, slots := 0, locals := 21 }) s m args below meth c (ZQ below args s D cy G n0 Qp n0) 6 D cy G n0 35 [(0, vR (some o0)), (2, vI x2), (4, vI x4), (5, vI y.1)] [] y.2) ?_ h hn
  intro K y hK hF
  obtain ⟨x5, M⟩ := y
  intro hn
  exact f_X2_nextRow_35 C hr h3 hn ho0 hQ  (fun x5 M hk => hK (x5, M) hk) hF
set_option maxRecDepth 100000 in
set_option maxHeartbeats 4000000 in
theorem f_X2_nextRow_8 {o0 : Nat} {x1 : Int} {x2 : Int} {x3 : Int} {M : Mm} {Q : Int → Mm → Prop} {K8 : Int → Prop} (C : Cx p s m args meth c cX2_nextRow 6 RX2 D cy G n0) (hr : meth.sig.returnType = some .boolean) (h3 : n0 = 243) (hn : M.2.2.2 = n0) (ho0 : o0 < 243 ∧ (SH o0).1 = 2) (hQ : ∀ x M, Q x M → Qp (some (vI x)) M) (hK8 : ∀ (x3 : Int), K8 (x3) → WW p l e ({ frames := 1, cells := 0, slots := 0, locals := 21 }) s m args below meth c (ZQ below args s D cy G n0 Qp n0) 6 D cy G n0 8 [(0, vR (some o0)), (1, vI x1), (2, vI x2), (3, vI x3)] [] M) (h : F_X2_nextRow_8 o0 x1 x2 M Q  K8 x3) : WW p l e ({ frames := 1, cells := 0, slots := 0, locals := 21 }) s m args below meth c (ZQ below args s D cy G n0 Qp n0) 6 D cy G n0 8 [(0, vR (some o0)), (1, vI x1), (2, vI x2), (3, vI x3)] [] M := by
  unfold F_X2_nextRow_8 at h
  refine w_iload_n C dX2_nextRow_8 rfl (mem_k 3 rfl) ?_
  refine w_if_lt (tgt := 70) C dX2_nextRow_9 (by decide) (fun q => ?_) (fun q => ?_)
  · replace h := h.1 q
    refine w_iconst C dX2_nextRow_70 ⟨by decide, by decide⟩ ?_
    exact x_zret C hr dX2_nextRow_71 hn (by decide) (hQ _ M h)
  · replace h := h.2 q
    refine w_aload_n C dX2_nextRow_12 rfl (mem_k 0 rfl) ?_
    refine x_getR C dX2_nextRow_13 fw_X2_18 (isO.n (ci := 2) ⟨rfl, ho0⟩ (hn.trans h3)) (fun r7 er7 => ?_)
    replace h := h r7 er7
    refine w_iload_n C dX2_nextRow_16 rfl (mem_k 3 rfl) ?_
    obtain ⟨o8, g9, h⟩ := h
    refine x_iald C dX2_nextRow_17 (isA.n g9 (hn.trans h3)) ?_
    refine w_iload_n C dX2_nextRow_18 rfl (mem_k 1 rfl) ?_
    refine w_icmp_ge (tgt := 64) C dX2_nextRow_19 (by decide) (fun q => ?_) (fun q => ?_)
    · replace h := h.1 q
      obtain ⟨v10, ev10⟩ : ∃ z : Int, z = x3 + (-1) := ⟨_, rfl⟩
      refine x_iinc (L' := [(3, vI v10), (0, vR (some o0)), (1, vI x1), (2, vI x2)]) C dX2_nextRow_64 (mem_k 3 rfl) (by decide) h.1 ev10 rfl ?_
      replace h := h.2 v10 ev10
      refine w_goto (tgt := 8) C dX2_nextRow_67 (by decide) ?_
      refine x_pc (pc2 := 8) rfl ?_
      refine x_pick (L' := [(0, vR (some o0)), (1, vI x1), (2, vI x2), (3, vI v10)]) [1, 2, 3, 0] rfl ?_
      exact hK8 v10 h
    · replace h := h.2 q
      refine w_aload_n C dX2_nextRow_22 rfl (mem_k 0 rfl) ?_
      refine x_getR C dX2_nextRow_23 fw_X2_18 (isO.n (ci := 2) ⟨rfl, ho0⟩ (hn.trans h3)) (fun r11 er11 => ?_)
      replace h := h r11 er11
      refine w_iload_n C dX2_nextRow_26 rfl (mem_k 3 rfl) ?_
      obtain ⟨o12, g13, h⟩ := h
      refine x_iald C dX2_nextRow_27 (isA.n g13 (hn.trans h3)) ?_
      refine w_iconst C dX2_nextRow_28 ⟨by decide, by decide⟩ ?_
      refine w_iadd C dX2_nextRow_29 h.1 ?_
      replace h := h.2
      refine x_nmI (fun v14 ev14 => ?_)
      replace h := h v14 ev14
      refine x_istore (L' := [(4, vI v14), (0, vR (some o0)), (1, vI x1), (2, vI x2), (3, vI x3)]) C dX2_nextRow_30 (by decide) rfl ?_
      refine w_iload_n C dX2_nextRow_32 rfl (mem_k 4 rfl) ?_
      refine x_istore (L' := [(5, vI x3), (4, vI v14), (0, vR (some o0)), (1, vI x1), (2, vI x2), (3, vI x3)]) C dX2_nextRow_33 (by decide) rfl ?_
      refine x_pc (pc2 := 35) rfl ?_
      refine x_pick (L' := [(0, vR (some o0)), (2, vI x2), (4, vI v14), (5, vI x3)]) [2, 4, 1, 0] rfl ?_
      exact k_X2_nextRow_35 C hr h3 hn ho0 hQ  h
set_option maxRecDepth 100000 in
set_option maxHeartbeats 4000000 in
theorem k_X2_nextRow_8 {o0 : Nat} {x1 : Int} {x2 : Int} {x3 : Int} {M : Mm} {Q : Int → Mm → Prop} (C : Cx p s m args meth c cX2_nextRow 6 RX2 D cy G n0) (hr : meth.sig.returnType = some .boolean) (h3 : n0 = 243) (hn : M.2.2.2 = n0) (ho0 : o0 < 243 ∧ (SH o0).1 = 2) (hQ : ∀ x M, Q x M → Qp (some (vI x)) M) (h : P_X2_nextRow_8 o0 x1 x2 x3 M Q ) : WW p l e ({ frames := 1, cells := 0, slots := 0, locals := 21 }) s m args below meth c (ZQ below args s D cy G n0 Qp n0) 6 D cy G n0 8 [(0, vR (some o0)), (1, vI x1), (2, vI x2), (3, vI x3)] [] M := by
  refine lpW_sound (P := fun y : Int => WW p l e ({ frames := 1, cells := 0, slots := 0, locals := 21 }) s m args below meth c (ZQ below args s D cy G n0 Qp n0) 6 D cy G n0 8 [(0, vR (some o0)), (1, vI x1), (2, vI x2), (3, vI y)] [] M) ?_ h
  intro K y hK hF
  exact f_X2_nextRow_8 C hr h3 hn ho0 hQ  (fun x3 hk => hK x3 hk) hF
set_option maxRecDepth 100000 in
set_option maxHeartbeats 4000000 in
theorem k_X2_nextRow_0 {o0 : Nat} {x1 : Int} {x2 : Int} {M : Mm} {Q : Int → Mm → Prop} (C : Cx p s m args meth c cX2_nextRow 6 RX2 D cy G n0) (hr : meth.sig.returnType = some .boolean) (h3 : n0 = 243) (hn : M.2.2.2 = n0) (ho0 : o0 < 243 ∧ (SH o0).1 = 2) (hQ : ∀ x M, Q x M → Qp (some (vI x)) M) (h : P_X2_nextRow o0 x1 x2 M Q ) : WW p l e ({ frames := 1, cells := 0, slots := 0, locals := 21 }) s m args below meth c (ZQ below args s D cy G n0 Qp n0) 6 D cy G n0 0 [(0, vR (some o0)), (1, vI x1), (2, vI x2)] [] M := by
  unfold P_X2_nextRow at h
  refine w_iload_n C dX2_nextRow_0 rfl (mem_k 2 rfl) ?_
  refine w_iconst C dX2_nextRow_1 ⟨by decide, by decide⟩ ?_
  refine x_min C dX2_nextRow_2 hn mt_X2_45 (Nat.le_of_ble_eq_true rfl) ⟨by decide, by decide⟩ ?_
  refine w_iconst C dX2_nextRow_5 ⟨by decide, by decide⟩ ?_
  refine w_isub C dX2_nextRow_6 h.1 ?_
  replace h := h.2
  refine x_nmI (fun v15 ev15 => ?_)
  replace h := h v15 ev15
  refine x_istore_n (L' := [(3, vI v15), (0, vR (some o0)), (1, vI x1), (2, vI x2)]) C dX2_nextRow_7 rfl (by decide) rfl ?_
  refine x_pc (pc2 := 8) rfl ?_
  refine x_pick (L' := [(0, vR (some o0)), (1, vI x1), (2, vI x2), (3, vI v15)]) [1, 2, 3, 0] rfl ?_
  exact k_X2_nextRow_8 C hr h3 hn ho0 hQ  h
set_option maxRecDepth 100000 in
set_option maxHeartbeats 4000000 in
theorem con_X2_nextRow (l : Launch) (D : va_G) (cy : Nat → ClassId) : Con l D cy yX2_nextRow cX2_nextRow 6 (some .boolean) ({ frames := 1, cells := 0, slots := 0, locals := 21 }) 0 0 SP_X2_nextRow := by
  refine con_of (by decide) (fun as M Qp h => ?_) ?_
  · obtain ⟨-, o0, x1, x2, rfl, -⟩ := h
    exact Nat.le_of_ble_eq_true rfl
  · intro p e s m args below meth c G as M Qp h C hr hnm
    obtain ⟨hn, o0, x1, x2, rfl, ho1, ho2, Q0, hQ, h⟩ := h
    refine x_pick (L' := [(0, vR (some o0)), (1, vI x1), (2, vI x2)]) [0, 1, 2] rfl ?_
    exact k_X2_nextRow_0 C hr hn rfl ⟨ho1, ho2⟩ hQ h
set_option maxRecDepth 100000 in
set_option maxHeartbeats 4000000 in
theorem cl_X2_nextRow {p : Program} {l : Launch} {e : Env} {R : Room} {s : State} {m : MethodId} {args : Array Value} {below : List Frame} {meth : Method} {c : Code} {Q : State → Prop} {cc : ByteArray} {nL : Nat} {own : String} {D : va_G} {cy : Nat → ClassId} {G : Nat × Nat} {n0 pc : Nat} {L : List (Nat × PV)} {st : List PV} {M : Mm} {op : Instr} (K : CallOK l D cy R own op 0 0 (spV 2 2 SP_X2_nextRow)) (C : Cx p s m args meth c cc nL own D cy G n0) (hd : decode cc pc = .ok (op, 3)) (hn : M.2.2.2 = n0) (h3 : n0 = 243) (hlen : argN st ≤ 8) {r : Option Nat} {o0 : Nat} (ho : isOn 2 M.2.2.2 r o0) {x1 : Int} {x2 : Int} {Q0 : Int → Mm → Prop} (h : P_X2_nextRow o0 x1 x2 M Q0) (k : ∀ x M2, Q0 x M2 → M2.2.2.2 = n0 → WW p l e R s m args below meth c Q nL D cy G n0  (pc + 3) L (vI x :: st) M2) : WW p l e R s m args below meth c Q nL D cy G n0  pc L (vI x2 :: vI x1 :: vR r :: st) M := by
  obtain ⟨rfl, ho1, ho2⟩ := ho
  refine x_call0 K C hd (as := [vR (some o0), vI x1, vI x2]) rfl hn hlen (fun v M2 => ∃ x, v = some (vI x) ∧ Q0 x M2) ⟨⟨o0, [vI x1, vI x2], rfl, rfl, ho1, ho2⟩, hn.trans h3, o0, x1, x2, rfl, (hn.trans h3) ▸ ho1, ho2, Q0, fun x M2 hx => ⟨x, rfl, hx⟩, h⟩ ?_
  rintro _ _ ⟨x, rfl, hx⟩ hm
  exact k x _ hx hm
end W_X2_nextRow
theorem dX2_placeStops_0 : decode cX2_placeStops 0 = .ok (.iload_n 3, 1) := by decide +kernel
theorem dX2_placeStops_1 : decode cX2_placeStops 1 = .ok (.iconst 3, 1) := by decide +kernel
theorem dX2_placeStops_2 : decode cX2_placeStops 2 = .ok (.invokestatic 45, 3) := by decide +kernel
theorem dX2_placeStops_5 : decode cX2_placeStops 5 = .ok (.istore 4, 2) := by decide +kernel
theorem dX2_placeStops_7 : decode cX2_placeStops 7 = .ok (.aload_n 0, 1) := by decide +kernel
theorem dX2_placeStops_8 : decode cX2_placeStops 8 = .ok (.aload_n 1, 1) := by decide +kernel
theorem dX2_placeStops_9 : decode cX2_placeStops 9 = .ok (.invokevirtual 41, 3) := by decide +kernel
theorem dX2_placeStops_12 : decode cX2_placeStops 12 = .ok (.istore 5, 2) := by decide +kernel
theorem dX2_placeStops_14 : decode cX2_placeStops 14 = .ok (.iconst 0, 1) := by decide +kernel
theorem dX2_placeStops_15 : decode cX2_placeStops 15 = .ok (.istore 6, 2) := by decide +kernel
theorem dX2_placeStops_17 : decode cX2_placeStops 17 = .ok (.iload 6, 2) := by decide +kernel
theorem dX2_placeStops_19 : decode cX2_placeStops 19 = .ok (.iload 4, 2) := by decide +kernel
theorem dX2_placeStops_21 : decode cX2_placeStops 21 = .ok (.if_icmp .ge 25, 3) := by decide +kernel
theorem dX2_placeStops_24 : decode cX2_placeStops 24 = .ok (.aload_n 0, 1) := by decide +kernel
theorem dX2_placeStops_25 : decode cX2_placeStops 25 = .ok (.getfield 18, 3) := by decide +kernel
theorem dX2_placeStops_28 : decode cX2_placeStops 28 = .ok (.iload 6, 2) := by decide +kernel
theorem dX2_placeStops_30 : decode cX2_placeStops 30 = .ok (.iconst 1, 1) := by decide +kernel
theorem dX2_placeStops_31 : decode cX2_placeStops 31 = .ok (.iastore, 1) := by decide +kernel
theorem dX2_placeStops_32 : decode cX2_placeStops 32 = .ok (.aload_n 0, 1) := by decide +kernel
theorem dX2_placeStops_33 : decode cX2_placeStops 33 = .ok (.getfield 22, 3) := by decide +kernel
theorem dX2_placeStops_36 : decode cX2_placeStops 36 = .ok (.iload 6, 2) := by decide +kernel
theorem dX2_placeStops_38 : decode cX2_placeStops 38 = .ok (.iconst 1, 1) := by decide +kernel
theorem dX2_placeStops_39 : decode cX2_placeStops 39 = .ok (.iastore, 1) := by decide +kernel
theorem dX2_placeStops_40 : decode cX2_placeStops 40 = .ok (.iinc 6 1, 3) := by decide +kernel
theorem dX2_placeStops_43 : decode cX2_placeStops 43 = .ok (.goto (-26), 3) := by decide +kernel
theorem dX2_placeStops_46 : decode cX2_placeStops 46 = .ok (.aload_n 0, 1) := by decide +kernel
theorem dX2_placeStops_47 : decode cX2_placeStops 47 = .ok (.iload 5, 2) := by decide +kernel
theorem dX2_placeStops_49 : decode cX2_placeStops 49 = .ok (.iload_n 2, 1) := by decide +kernel
theorem dX2_placeStops_50 : decode cX2_placeStops 50 = .ok (.iload 4, 2) := by decide +kernel
theorem dX2_placeStops_52 : decode cX2_placeStops 52 = .ok (.invokevirtual 48, 3) := by decide +kernel
theorem dX2_placeStops_55 : decode cX2_placeStops 55 = .ok (.istore 6, 2) := by decide +kernel
theorem dX2_placeStops_57 : decode cX2_placeStops 57 = .ok (.iconst 1, 1) := by decide +kernel
theorem dX2_placeStops_58 : decode cX2_placeStops 58 = .ok (.istore 7, 2) := by decide +kernel
theorem dX2_placeStops_60 : decode cX2_placeStops 60 = .ok (.iload 7, 2) := by decide +kernel
theorem dX2_placeStops_62 : decode cX2_placeStops 62 = .ok (.sipush 1000, 3) := by decide +kernel
theorem dX2_placeStops_65 : decode cX2_placeStops 65 = .ok (.if_icmp .ge 71, 3) := by decide +kernel
theorem dX2_placeStops_68 : decode cX2_placeStops 68 = .ok (.aload_n 0, 1) := by decide +kernel
theorem dX2_placeStops_69 : decode cX2_placeStops 69 = .ok (.iload_n 2, 1) := by decide +kernel
theorem dX2_placeStops_70 : decode cX2_placeStops 70 = .ok (.iload 4, 2) := by decide +kernel
theorem dX2_placeStops_72 : decode cX2_placeStops 72 = .ok (.invokevirtual 52, 3) := by decide +kernel
theorem dX2_placeStops_75 : decode cX2_placeStops 75 = .ok (.ifCond .eq 61, 3) := by decide +kernel
theorem dX2_placeStops_78 : decode cX2_placeStops 78 = .ok (.aload_n 0, 1) := by decide +kernel
theorem dX2_placeStops_79 : decode cX2_placeStops 79 = .ok (.iload 5, 2) := by decide +kernel
theorem dX2_placeStops_81 : decode cX2_placeStops 81 = .ok (.iload_n 2, 1) := by decide +kernel
theorem dX2_placeStops_82 : decode cX2_placeStops 82 = .ok (.iload 4, 2) := by decide +kernel
theorem dX2_placeStops_84 : decode cX2_placeStops 84 = .ok (.invokevirtual 48, 3) := by decide +kernel
theorem dX2_placeStops_87 : decode cX2_placeStops 87 = .ok (.istore 8, 2) := by decide +kernel
theorem dX2_placeStops_89 : decode cX2_placeStops 89 = .ok (.iload 8, 2) := by decide +kernel
theorem dX2_placeStops_91 : decode cX2_placeStops 91 = .ok (.iload 6, 2) := by decide +kernel
theorem dX2_placeStops_93 : decode cX2_placeStops 93 = .ok (.if_icmp .ge 37, 3) := by decide +kernel
theorem dX2_placeStops_96 : decode cX2_placeStops 96 = .ok (.iload 8, 2) := by decide +kernel
theorem dX2_placeStops_98 : decode cX2_placeStops 98 = .ok (.istore 6, 2) := by decide +kernel
theorem dX2_placeStops_100 : decode cX2_placeStops 100 = .ok (.iconst 0, 1) := by decide +kernel
theorem dX2_placeStops_101 : decode cX2_placeStops 101 = .ok (.istore 9, 2) := by decide +kernel
theorem dX2_placeStops_103 : decode cX2_placeStops 103 = .ok (.iload 9, 2) := by decide +kernel
theorem dX2_placeStops_105 : decode cX2_placeStops 105 = .ok (.iload 4, 2) := by decide +kernel
theorem dX2_placeStops_107 : decode cX2_placeStops 107 = .ok (.if_icmp .ge 23, 3) := by decide +kernel
theorem dX2_placeStops_110 : decode cX2_placeStops 110 = .ok (.aload_n 0, 1) := by decide +kernel
theorem dX2_placeStops_111 : decode cX2_placeStops 111 = .ok (.getfield 22, 3) := by decide +kernel
theorem dX2_placeStops_114 : decode cX2_placeStops 114 = .ok (.iload 9, 2) := by decide +kernel
theorem dX2_placeStops_116 : decode cX2_placeStops 116 = .ok (.aload_n 0, 1) := by decide +kernel
theorem dX2_placeStops_117 : decode cX2_placeStops 117 = .ok (.getfield 18, 3) := by decide +kernel
theorem dX2_placeStops_120 : decode cX2_placeStops 120 = .ok (.iload 9, 2) := by decide +kernel
theorem dX2_placeStops_122 : decode cX2_placeStops 122 = .ok (.iaload, 1) := by decide +kernel
theorem dX2_placeStops_123 : decode cX2_placeStops 123 = .ok (.iastore, 1) := by decide +kernel
theorem dX2_placeStops_124 : decode cX2_placeStops 124 = .ok (.iinc 9 1, 3) := by decide +kernel
theorem dX2_placeStops_127 : decode cX2_placeStops 127 = .ok (.goto (-24), 3) := by decide +kernel
theorem dX2_placeStops_130 : decode cX2_placeStops 130 = .ok (.iinc 7 1, 3) := by decide +kernel
theorem dX2_placeStops_133 : decode cX2_placeStops 133 = .ok (.goto (-73), 3) := by decide +kernel
theorem dX2_placeStops_136 : decode cX2_placeStops 136 = .ok (.iload 6, 2) := by decide +kernel
theorem dX2_placeStops_138 : decode cX2_placeStops 138 = .ok (.ireturn, 1) := by decide +kernel
theorem fw_X2_22 : fR RX2 22 2 3 := ⟨⟨lwG_2 (i := 20) rfl rfl, by decide, by decide⟩, fun _ _ => rfl, fun r => ⟨r, rfl⟩⟩
theorem ck_X2_52 {l : Launch} {D : va_G} {cy : Nat → ClassId} {R : Room} (hR : 2 ≤ R.frames ∧ 46 ≤ R.locals) : CallOK l D cy R RX2 (.invokevirtual 52) 0 0 (spV 2 2 SP_X2_nextRow) := call_V (ci := 2) (con_X2_nextRow l D cy) (lwG_3 (i := 148) rfl rfl) (lwG_3 (i := 150) rfl rfl) (lwG_p (i := 14) rfl rfl) (lwG_1 (i := 10) rfl rfl) (lwG_3 (i := 151) rfl rfl) (by decide) ⟨rfl, by decide, by decide, rfl⟩ ⟨rfl, rfl⟩ hR
theorem ck_X2_48 {l : Launch} {D : va_G} {cy : Nat → ClassId} {R : Room} (hR : 2 ≤ R.frames ∧ 48 ≤ R.locals) : CallOK l D cy R RX2 (.invokevirtual 48) 0 0 (spV 2 3 SP_X2_greatestHurt) := call_V (ci := 2) (con_X2_greatestHurt l D cy) (lwG_3 (i := 144) rfl rfl) (lwG_3 (i := 146) rfl rfl) (lwG_p (i := 13) rfl rfl) (lwG_1 (i := 10) rfl rfl) (lwG_3 (i := 147) rfl rfl) (by decide) ⟨rfl, by decide, by decide, rfl⟩ ⟨rfl, rfl⟩ hR
section W_X2_placeStops
variable {p : Program} {l : Launch} {e : Env} {s : State} {m : MethodId} {args : Array Value} {below : List Frame} {meth : Method} {c : Code} {D : va_G} {cy : Nat → ClassId} {G : Nat × Nat} {n0 : Nat} {Qp : Option PV → Mm → Prop}
set_option maxRecDepth 100000 in
set_option maxHeartbeats 4000000 in
theorem f_X2_placeStops_103 {o0 : Nat} {x2 : Int} {x4 : Int} {x5 : Int} {x6 : Int} {x7 : Int} {x9 : Int} {M : Mm} {Q : Int → Mm → Prop} {K60 : Int × Int × Mm → Prop} {K103 : Int × Mm → Prop} (C : Cx p s m args meth c cX2_placeStops 10 RX2 D cy G n0) (hr : meth.sig.returnType = some .int) (h3 : n0 = 243) (hn : M.2.2.2 = n0) (ho0 : o0 < 243 ∧ (SH o0).1 = 2) (hQ : ∀ x M, Q x M → Qp (some (vI x)) M) (hK60 : ∀ (x6 : Int) (x7 : Int) (M : Mm), K60 (x6, x7, M) → M.2.2.2 = n0 → WW p l e ({ frames := 4, cells := 0, slots := 0, locals := 85 }) s m args below meth c (ZQ below args s D cy G n0 Qp n0) 10 D cy G n0 60 [(0, vR (some o0)), (2, vI x2), (4, vI x4), (5, vI x5), (6, vI x6), (7, vI x7)] [] M) (hK103 : ∀ (x9 : Int) (M : Mm), K103 (x9, M) → M.2.2.2 = n0 → WW p l e ({ frames := 4, cells := 0, slots := 0, locals := 85 }) s m args below meth c (ZQ below args s D cy G n0 Qp n0) 10 D cy G n0 103 [(0, vR (some o0)), (2, vI x2), (4, vI x4), (5, vI x5), (6, vI x6), (7, vI x7), (9, vI x9)] [] M) (h : F_X2_placeStops_103 o0 x2 x4 x5 x6 x7 Q K60 K103 x9 M) : WW p l e ({ frames := 4, cells := 0, slots := 0, locals := 85 }) s m args below meth c (ZQ below args s D cy G n0 Qp n0) 10 D cy G n0 103 [(0, vR (some o0)), (2, vI x2), (4, vI x4), (5, vI x5), (6, vI x6), (7, vI x7), (9, vI x9)] [] M := by
  unfold F_X2_placeStops_103 at h
  refine w_iload C dX2_placeStops_103 (mem_k 6 rfl) ?_
  refine w_iload C dX2_placeStops_105 (mem_k 2 rfl) ?_
  refine w_icmp_ge (tgt := 130) C dX2_placeStops_107 (by decide) (fun q => ?_) (fun q => ?_)
  · replace h := h.1 q
    obtain ⟨v1, ev1⟩ : ∃ z : Int, z = x7 + 1 := ⟨_, rfl⟩
    refine x_iinc (L' := [(7, vI v1), (0, vR (some o0)), (2, vI x2), (4, vI x4), (5, vI x5), (6, vI x6), (9, vI x9)]) C dX2_placeStops_130 (mem_k 5 rfl) (by decide) h.1 ev1 rfl ?_
    replace h := h.2 v1 ev1
    refine w_goto (tgt := 60) C dX2_placeStops_133 (by decide) ?_
    refine x_pc (pc2 := 60) rfl ?_
    refine x_pick (L' := [(0, vR (some o0)), (2, vI x2), (4, vI x4), (5, vI x5), (6, vI x6), (7, vI v1)]) [1, 2, 3, 4, 5, 0] rfl ?_
    exact hK60 x6 v1 M h hn
  · replace h := h.2 q
    refine w_aload_n C dX2_placeStops_110 rfl (mem_k 0 rfl) ?_
    refine x_getR C dX2_placeStops_111 fw_X2_22 (isO.n (ci := 2) ⟨rfl, ho0⟩ (hn.trans h3)) (fun r2 er2 => ?_)
    replace h := h r2 er2
    refine w_iload C dX2_placeStops_114 (mem_k 6 rfl) ?_
    refine w_aload_n C dX2_placeStops_116 rfl (mem_k 0 rfl) ?_
    refine x_getR C dX2_placeStops_117 fw_X2_18 (isO.n (ci := 2) ⟨rfl, ho0⟩ (hn.trans h3)) (fun r3 er3 => ?_)
    replace h := h r3 er3
    refine w_iload C dX2_placeStops_120 (mem_k 6 rfl) ?_
    obtain ⟨o4, g5, h⟩ := h
    refine x_iald C dX2_placeStops_122 (isA.n g5 (hn.trans h3)) ?_
    obtain ⟨o6, g7, h⟩ := h
    refine x_iast C dX2_placeStops_123 (isA.n g7 (hn.trans h3)) (fun M8 eM8 hn9 => ?_)
    replace h := h M8 eM8
    replace hn9 := hn9.trans hn
    obtain ⟨v10, ev10⟩ : ∃ z : Int, z = x9 + 1 := ⟨_, rfl⟩
    refine x_iinc (L' := [(9, vI v10), (0, vR (some o0)), (2, vI x2), (4, vI x4), (5, vI x5), (6, vI x6), (7, vI x7)]) C dX2_placeStops_124 (mem_k 6 rfl) (by decide) h.1 ev10 rfl ?_
    replace h := h.2 v10 ev10
    refine w_goto (tgt := 103) C dX2_placeStops_127 (by decide) ?_
    refine x_pc (pc2 := 103) rfl ?_
    refine x_pick (L' := [(0, vR (some o0)), (2, vI x2), (4, vI x4), (5, vI x5), (6, vI x6), (7, vI x7), (9, vI v10)]) [1, 2, 3, 4, 5, 6, 0] rfl ?_
    exact hK103 v10 M8 h hn9
set_option maxRecDepth 100000 in
set_option maxHeartbeats 4000000 in
theorem k_X2_placeStops_103 {o0 : Nat} {x2 : Int} {x4 : Int} {x5 : Int} {x6 : Int} {x7 : Int} {x9 : Int} {M : Mm} {Q : Int → Mm → Prop} {K60 : Int × Int × Mm → Prop} (C : Cx p s m args meth c cX2_placeStops 10 RX2 D cy G n0) (hr : meth.sig.returnType = some .int) (h3 : n0 = 243) (hn : M.2.2.2 = n0) (ho0 : o0 < 243 ∧ (SH o0).1 = 2) (hQ : ∀ x M, Q x M → Qp (some (vI x)) M) (hK60 : ∀ (x6 : Int) (x7 : Int) (M : Mm), K60 (x6, x7, M) → M.2.2.2 = n0 → WW p l e ({ frames := 4, cells := 0, slots := 0, locals := 85 }) s m args below meth c (ZQ below args s D cy G n0 Qp n0) 10 D cy G n0 60 [(0, vR (some o0)), (2, vI x2), (4, vI x4), (5, vI x5), (6, vI x6), (7, vI x7)] [] M) (h : P_X2_placeStops_103 o0 x2 x4 x5 x6 x7 x9 M Q K60) : WW p l e ({ frames := 4, cells := 0, slots := 0, locals := 85 }) s m args below meth c (ZQ below args s D cy G n0 Qp n0) 10 D cy G n0 103 [(0, vR (some o0)), (2, vI x2), (4, vI x4), (5, vI x5), (6, vI x6), (7, vI x7), (9, vI x9)] [] M := by
  refine lpW_sound (P := fun y : Int × Mm => y.2.2.2.2 = n0 → WW p l e ({ frames := 4, cells := 0, slots := 0, locals := 85 }) s m args below meth c (ZQ below args s D cy G n0 Qp n0) 10 D cy G n0 103 [(0, vR (some o0)), (2, vI x2), (4, vI x4), (5, vI x5), (6, vI x6), (7, vI x7), (9, vI y.1)] [] y.2) ?_ h hn
  intro K y hK hF
  obtain ⟨x9, M⟩ := y
  intro hn
  exact f_X2_placeStops_103 C hr h3 hn ho0 hQ hK60 (fun x9 M hk => hK (x9, M) hk) hF
set_option maxRecDepth 100000 in
set_option maxHeartbeats 4000000 in
theorem f_X2_placeStops_60 {o0 : Nat} {x2 : Int} {x4 : Int} {x5 : Int} {x6 : Int} {x7 : Int} {M : Mm} {Q : Int → Mm → Prop} {K60 : Int × Int × Mm → Prop} (C : Cx p s m args meth c cX2_placeStops 10 RX2 D cy G n0) (hr : meth.sig.returnType = some .int) (h3 : n0 = 243) (hn : M.2.2.2 = n0) (ho0 : o0 < 243 ∧ (SH o0).1 = 2) (hQ : ∀ x M, Q x M → Qp (some (vI x)) M) (hK60 : ∀ (x6 : Int) (x7 : Int) (M : Mm), K60 (x6, x7, M) → M.2.2.2 = n0 → WW p l e ({ frames := 4, cells := 0, slots := 0, locals := 85 }) s m args below meth c (ZQ below args s D cy G n0 Qp n0) 10 D cy G n0 60 [(0, vR (some o0)), (2, vI x2), (4, vI x4), (5, vI x5), (6, vI x6), (7, vI x7)] [] M) (h : F_X2_placeStops_60 o0 x2 x4 x5 Q  K60 x6 x7 M) : WW p l e ({ frames := 4, cells := 0, slots := 0, locals := 85 }) s m args below meth c (ZQ below args s D cy G n0 Qp n0) 10 D cy G n0 60 [(0, vR (some o0)), (2, vI x2), (4, vI x4), (5, vI x5), (6, vI x6), (7, vI x7)] [] M := by
  unfold F_X2_placeStops_60 at h
  refine w_iload C dX2_placeStops_60 (mem_k 5 rfl) ?_
  refine w_sipush C dX2_placeStops_62 (by decide) ?_
  refine w_icmp_ge (tgt := 136) C dX2_placeStops_65 (by decide) (fun q => ?_) (fun q => ?_)
  · replace h := h.1 q
    refine w_iload C dX2_placeStops_136 (mem_k 4 rfl) ?_
    exact x_iret C hr dX2_placeStops_138 hn (hQ _ M h)
  · replace h := h.2 q
    refine w_aload_n C dX2_placeStops_68 rfl (mem_k 0 rfl) ?_
    refine w_iload_n C dX2_placeStops_69 rfl (mem_k 1 rfl) ?_
    refine w_iload C dX2_placeStops_70 (mem_k 2 rfl) ?_
    refine cl_X2_nextRow (ck_X2_52 ⟨by decide, by decide⟩) C dX2_placeStops_72 hn h3 (Nat.le_of_ble_eq_true rfl) (isO.n (ci := 2) ⟨rfl, ho0⟩ (hn.trans h3)) h (fun v11 M12 h hn13 => ?_)
    refine w_if_eq (tgt := 136) C dX2_placeStops_75 (by decide) (fun q => ?_) (fun q => ?_)
    · replace h := h.1 q
      refine w_iload C dX2_placeStops_136 (mem_k 4 rfl) ?_
      exact x_iret C hr dX2_placeStops_138 hn13 (hQ _ M12 h)
    · replace h := h.2 q
      refine w_aload_n C dX2_placeStops_78 rfl (mem_k 0 rfl) ?_
      refine w_iload C dX2_placeStops_79 (mem_k 3 rfl) ?_
      refine w_iload_n C dX2_placeStops_81 rfl (mem_k 1 rfl) ?_
      refine w_iload C dX2_placeStops_82 (mem_k 2 rfl) ?_
      refine cl_X2_greatestHurt (ck_X2_48 ⟨by decide, by decide⟩) C dX2_placeStops_84 hn13 h3 (Nat.le_of_ble_eq_true rfl) (isO.n (ci := 2) ⟨rfl, ho0⟩ (hn13.trans h3)) h (fun v14 h => ?_)
      refine x_istore (L' := [(8, vI v14), (0, vR (some o0)), (2, vI x2), (4, vI x4), (5, vI x5), (6, vI x6), (7, vI x7)]) C dX2_placeStops_87 (by decide) rfl ?_
      refine w_iload C dX2_placeStops_89 (mem_k 0 rfl) ?_
      refine w_iload C dX2_placeStops_91 (mem_k 5 rfl) ?_
      refine w_icmp_ge (tgt := 130) C dX2_placeStops_93 (by decide) (fun q => ?_) (fun q => ?_)
      · replace h := h.1 q
        obtain ⟨v15, ev15⟩ : ∃ z : Int, z = x7 + 1 := ⟨_, rfl⟩
        refine x_iinc (L' := [(7, vI v15), (8, vI v14), (0, vR (some o0)), (2, vI x2), (4, vI x4), (5, vI x5), (6, vI x6)]) C dX2_placeStops_130 (mem_k 6 rfl) (by decide) h.1 ev15 rfl ?_
        replace h := h.2 v15 ev15
        refine w_goto (tgt := 60) C dX2_placeStops_133 (by decide) ?_
        refine x_pc (pc2 := 60) rfl ?_
        refine x_pick (L' := [(0, vR (some o0)), (2, vI x2), (4, vI x4), (5, vI x5), (6, vI x6), (7, vI v15)]) [2, 3, 4, 5, 6, 0] rfl ?_
        exact hK60 x6 v15 M12 h hn13
      · replace h := h.2 q
        refine w_iload C dX2_placeStops_96 (mem_k 0 rfl) ?_
        refine x_istore (L' := [(6, vI v14), (8, vI v14), (0, vR (some o0)), (2, vI x2), (4, vI x4), (5, vI x5), (7, vI x7)]) C dX2_placeStops_98 (by decide) rfl ?_
        refine w_iconst C dX2_placeStops_100 ⟨by decide, by decide⟩ ?_
        refine x_istore (L' := [(9, vI 0), (6, vI v14), (8, vI v14), (0, vR (some o0)), (2, vI x2), (4, vI x4), (5, vI x5), (7, vI x7)]) C dX2_placeStops_101 (by decide) rfl ?_
        refine x_pc (pc2 := 103) rfl ?_
        refine x_pick (L' := [(0, vR (some o0)), (2, vI x2), (4, vI x4), (5, vI x5), (6, vI v14), (7, vI x7), (9, vI 0)]) [3, 4, 5, 6, 1, 7, 0] rfl ?_
        exact k_X2_placeStops_103 C hr h3 hn13 ho0 hQ hK60 h
set_option maxRecDepth 100000 in
set_option maxHeartbeats 4000000 in
theorem k_X2_placeStops_60 {o0 : Nat} {x2 : Int} {x4 : Int} {x5 : Int} {x6 : Int} {x7 : Int} {M : Mm} {Q : Int → Mm → Prop} (C : Cx p s m args meth c cX2_placeStops 10 RX2 D cy G n0) (hr : meth.sig.returnType = some .int) (h3 : n0 = 243) (hn : M.2.2.2 = n0) (ho0 : o0 < 243 ∧ (SH o0).1 = 2) (hQ : ∀ x M, Q x M → Qp (some (vI x)) M) (h : P_X2_placeStops_60 o0 x2 x4 x5 x6 x7 M Q ) : WW p l e ({ frames := 4, cells := 0, slots := 0, locals := 85 }) s m args below meth c (ZQ below args s D cy G n0 Qp n0) 10 D cy G n0 60 [(0, vR (some o0)), (2, vI x2), (4, vI x4), (5, vI x5), (6, vI x6), (7, vI x7)] [] M := by
  refine lpW_sound (P := fun y : Int × Int × Mm => y.2.2.2.2.2 = n0 → WW p l e ({ frames := 4, cells := 0, slots := 0, locals := 85 }) s m args below meth c (ZQ below args s D cy G n0 Qp n0) 10 D cy G n0 60 [(0, vR (some o0)), (2, vI x2), (4, vI x4), (5, vI x5), (6, vI y.1), (7, vI y.2.1)] [] y.2.2) ?_ h hn
  intro K y hK hF
  obtain ⟨x6, x7, M⟩ := y
  intro hn
  exact f_X2_placeStops_60 C hr h3 hn ho0 hQ  (fun x6 x7 M hk => hK (x6, x7, M) hk) hF
set_option maxRecDepth 100000 in
set_option maxHeartbeats 4000000 in
theorem f_X2_placeStops_17 {o0 : Nat} {x2 : Int} {x4 : Int} {x5 : Int} {x6 : Int} {M : Mm} {Q : Int → Mm → Prop} {K17 : Int × Mm → Prop} (C : Cx p s m args meth c cX2_placeStops 10 RX2 D cy G n0) (hr : meth.sig.returnType = some .int) (h3 : n0 = 243) (hn : M.2.2.2 = n0) (ho0 : o0 < 243 ∧ (SH o0).1 = 2) (hQ : ∀ x M, Q x M → Qp (some (vI x)) M) (hK17 : ∀ (x6 : Int) (M : Mm), K17 (x6, M) → M.2.2.2 = n0 → WW p l e ({ frames := 4, cells := 0, slots := 0, locals := 85 }) s m args below meth c (ZQ below args s D cy G n0 Qp n0) 10 D cy G n0 17 [(0, vR (some o0)), (2, vI x2), (4, vI x4), (5, vI x5), (6, vI x6)] [] M) (h : F_X2_placeStops_17 o0 x2 x4 x5 Q  K17 x6 M) : WW p l e ({ frames := 4, cells := 0, slots := 0, locals := 85 }) s m args below meth c (ZQ below args s D cy G n0 Qp n0) 10 D cy G n0 17 [(0, vR (some o0)), (2, vI x2), (4, vI x4), (5, vI x5), (6, vI x6)] [] M := by
  unfold F_X2_placeStops_17 at h
  refine w_iload C dX2_placeStops_17 (mem_k 4 rfl) ?_
  refine w_iload C dX2_placeStops_19 (mem_k 2 rfl) ?_
  refine w_icmp_ge (tgt := 46) C dX2_placeStops_21 (by decide) (fun q => ?_) (fun q => ?_)
  · replace h := h.1 q
    refine w_aload_n C dX2_placeStops_46 rfl (mem_k 0 rfl) ?_
    refine w_iload C dX2_placeStops_47 (mem_k 3 rfl) ?_
    refine w_iload_n C dX2_placeStops_49 rfl (mem_k 1 rfl) ?_
    refine w_iload C dX2_placeStops_50 (mem_k 2 rfl) ?_
    refine cl_X2_greatestHurt (ck_X2_48 ⟨by decide, by decide⟩) C dX2_placeStops_52 hn h3 (Nat.le_of_ble_eq_true rfl) (isO.n (ci := 2) ⟨rfl, ho0⟩ (hn.trans h3)) h (fun v16 h => ?_)
    refine x_istore (L' := [(6, vI v16), (0, vR (some o0)), (2, vI x2), (4, vI x4), (5, vI x5)]) C dX2_placeStops_55 (by decide) rfl ?_
    refine w_iconst C dX2_placeStops_57 ⟨by decide, by decide⟩ ?_
    refine x_istore (L' := [(7, vI 1), (6, vI v16), (0, vR (some o0)), (2, vI x2), (4, vI x4), (5, vI x5)]) C dX2_placeStops_58 (by decide) rfl ?_
    refine x_pc (pc2 := 60) rfl ?_
    refine x_pick (L' := [(0, vR (some o0)), (2, vI x2), (4, vI x4), (5, vI x5), (6, vI v16), (7, vI 1)]) [2, 3, 4, 5, 1, 0] rfl ?_
    exact k_X2_placeStops_60 C hr h3 hn ho0 hQ  h
  · replace h := h.2 q
    refine w_aload_n C dX2_placeStops_24 rfl (mem_k 0 rfl) ?_
    refine x_getR C dX2_placeStops_25 fw_X2_18 (isO.n (ci := 2) ⟨rfl, ho0⟩ (hn.trans h3)) (fun r17 er17 => ?_)
    replace h := h r17 er17
    refine w_iload C dX2_placeStops_28 (mem_k 4 rfl) ?_
    refine w_iconst C dX2_placeStops_30 ⟨by decide, by decide⟩ ?_
    obtain ⟨o18, g19, h⟩ := h
    refine x_iast C dX2_placeStops_31 (isA.n g19 (hn.trans h3)) (fun M20 eM20 hn21 => ?_)
    replace h := h M20 eM20
    replace hn21 := hn21.trans hn
    refine w_aload_n C dX2_placeStops_32 rfl (mem_k 0 rfl) ?_
    refine x_getR C dX2_placeStops_33 fw_X2_22 (isO.n (ci := 2) ⟨rfl, ho0⟩ (hn21.trans h3)) (fun r22 er22 => ?_)
    replace h := h r22 er22
    refine w_iload C dX2_placeStops_36 (mem_k 4 rfl) ?_
    refine w_iconst C dX2_placeStops_38 ⟨by decide, by decide⟩ ?_
    obtain ⟨o23, g24, h⟩ := h
    refine x_iast C dX2_placeStops_39 (isA.n g24 (hn21.trans h3)) (fun M25 eM25 hn26 => ?_)
    replace h := h M25 eM25
    replace hn26 := hn26.trans hn21
    obtain ⟨v27, ev27⟩ : ∃ z : Int, z = x6 + 1 := ⟨_, rfl⟩
    refine x_iinc (L' := [(6, vI v27), (0, vR (some o0)), (2, vI x2), (4, vI x4), (5, vI x5)]) C dX2_placeStops_40 (mem_k 4 rfl) (by decide) h.1 ev27 rfl ?_
    replace h := h.2 v27 ev27
    refine w_goto (tgt := 17) C dX2_placeStops_43 (by decide) ?_
    refine x_pc (pc2 := 17) rfl ?_
    refine x_pick (L' := [(0, vR (some o0)), (2, vI x2), (4, vI x4), (5, vI x5), (6, vI v27)]) [1, 2, 3, 4, 0] rfl ?_
    exact hK17 v27 M25 h hn26
set_option maxRecDepth 100000 in
set_option maxHeartbeats 4000000 in
theorem k_X2_placeStops_17 {o0 : Nat} {x2 : Int} {x4 : Int} {x5 : Int} {x6 : Int} {M : Mm} {Q : Int → Mm → Prop} (C : Cx p s m args meth c cX2_placeStops 10 RX2 D cy G n0) (hr : meth.sig.returnType = some .int) (h3 : n0 = 243) (hn : M.2.2.2 = n0) (ho0 : o0 < 243 ∧ (SH o0).1 = 2) (hQ : ∀ x M, Q x M → Qp (some (vI x)) M) (h : P_X2_placeStops_17 o0 x2 x4 x5 x6 M Q ) : WW p l e ({ frames := 4, cells := 0, slots := 0, locals := 85 }) s m args below meth c (ZQ below args s D cy G n0 Qp n0) 10 D cy G n0 17 [(0, vR (some o0)), (2, vI x2), (4, vI x4), (5, vI x5), (6, vI x6)] [] M := by
  refine lpW_sound (P := fun y : Int × Mm => y.2.2.2.2 = n0 → WW p l e ({ frames := 4, cells := 0, slots := 0, locals := 85 }) s m args below meth c (ZQ below args s D cy G n0 Qp n0) 10 D cy G n0 17 [(0, vR (some o0)), (2, vI x2), (4, vI x4), (5, vI x5), (6, vI y.1)] [] y.2) ?_ h hn
  intro K y hK hF
  obtain ⟨x6, M⟩ := y
  intro hn
  exact f_X2_placeStops_17 C hr h3 hn ho0 hQ  (fun x6 M hk => hK (x6, M) hk) hF
set_option maxRecDepth 100000 in
set_option maxHeartbeats 4000000 in
theorem k_X2_placeStops_0 {o0 : Nat} {a1 : Option Nat} {x2 : Int} {x3 : Int} {M : Mm} {Q : Int → Mm → Prop} (C : Cx p s m args meth c cX2_placeStops 10 RX2 D cy G n0) (hr : meth.sig.returnType = some .int) (h3 : n0 = 243) (hn : M.2.2.2 = n0) (ho0 : o0 < 243 ∧ (SH o0).1 = 2) (hQ : ∀ x M, Q x M → Qp (some (vI x)) M) (h : P_X2_placeStops o0 a1 x2 x3 M Q ) : WW p l e ({ frames := 4, cells := 0, slots := 0, locals := 85 }) s m args below meth c (ZQ below args s D cy G n0 Qp n0) 10 D cy G n0 0 [(0, vR (some o0)), (1, vR a1), (2, vI x2), (3, vI x3)] [] M := by
  unfold P_X2_placeStops at h
  refine w_iload_n C dX2_placeStops_0 rfl (mem_k 3 rfl) ?_
  refine w_iconst C dX2_placeStops_1 ⟨by decide, by decide⟩ ?_
  refine x_min C dX2_placeStops_2 hn mt_X2_45 (Nat.le_of_ble_eq_true rfl) ⟨by decide, by decide⟩ ?_
  refine x_nmI (fun v28 ev28 => ?_)
  replace h := h v28 ev28
  refine x_istore (L' := [(4, vI v28), (0, vR (some o0)), (1, vR a1), (2, vI x2), (3, vI x3)]) C dX2_placeStops_5 (by decide) rfl ?_
  refine w_aload_n C dX2_placeStops_7 rfl (mem_k 1 rfl) ?_
  refine w_aload_n C dX2_placeStops_8 rfl (mem_k 2 rfl) ?_
  refine cl_X2_hurtOfHour (ck_X2_41 ⟨by decide, by decide⟩) C dX2_placeStops_9 hn h3 (Nat.le_of_ble_eq_true rfl) (isO.n (ci := 2) ⟨rfl, ho0⟩ (hn.trans h3)) h (fun v29 h => ?_)
  refine x_istore (L' := [(5, vI v29), (4, vI v28), (0, vR (some o0)), (1, vR a1), (2, vI x2), (3, vI x3)]) C dX2_placeStops_12 (by decide) rfl ?_
  refine w_iconst C dX2_placeStops_14 ⟨by decide, by decide⟩ ?_
  refine x_istore (L' := [(6, vI 0), (5, vI v29), (4, vI v28), (0, vR (some o0)), (1, vR a1), (2, vI x2), (3, vI x3)]) C dX2_placeStops_15 (by decide) rfl ?_
  refine x_pc (pc2 := 17) rfl ?_
  refine x_pick (L' := [(0, vR (some o0)), (2, vI x2), (4, vI v28), (5, vI v29), (6, vI 0)]) [3, 5, 2, 1, 0] rfl ?_
  exact k_X2_placeStops_17 C hr h3 hn ho0 hQ  h
set_option maxRecDepth 100000 in
set_option maxHeartbeats 4000000 in
theorem con_X2_placeStops (l : Launch) (D : va_G) (cy : Nat → ClassId) : Con l D cy yX2_placeStops cX2_placeStops 10 (some .int) ({ frames := 4, cells := 0, slots := 0, locals := 85 }) 0 0 SP_X2_placeStops := by
  refine con_of (by decide) (fun as M Qp h => ?_) ?_
  · obtain ⟨-, o0, a1, x2, x3, rfl, -⟩ := h
    exact Nat.le_of_ble_eq_true rfl
  · intro p e s m args below meth c G as M Qp h C hr hnm
    obtain ⟨hn, o0, a1, x2, x3, rfl, ho1, ho2, Q0, hQ, h⟩ := h
    refine x_pick (L' := [(0, vR (some o0)), (1, vR a1), (2, vI x2), (3, vI x3)]) [0, 1, 2, 3] rfl ?_
    exact k_X2_placeStops_0 C hr hn rfl ⟨ho1, ho2⟩ hQ h
set_option maxRecDepth 100000 in
set_option maxHeartbeats 4000000 in
theorem cl_X2_placeStops {p : Program} {l : Launch} {e : Env} {R : Room} {s : State} {m : MethodId} {args : Array Value} {below : List Frame} {meth : Method} {c : Code} {Q : State → Prop} {cc : ByteArray} {nL : Nat} {own : String} {D : va_G} {cy : Nat → ClassId} {G : Nat × Nat} {n0 pc : Nat} {L : List (Nat × PV)} {st : List PV} {M : Mm} {op : Instr} (K : CallOK l D cy R own op 0 0 (spV 2 3 SP_X2_placeStops)) (C : Cx p s m args meth c cc nL own D cy G n0) (hd : decode cc pc = .ok (op, 3)) (hn : M.2.2.2 = n0) (h3 : n0 = 243) (hlen : argN st ≤ 8) {r : Option Nat} {o0 : Nat} (ho : isOn 2 M.2.2.2 r o0) {a1 : Option Nat} {x2 : Int} {x3 : Int} {Q0 : Int → Mm → Prop} (h : P_X2_placeStops o0 a1 x2 x3 M Q0) (k : ∀ x M2, Q0 x M2 → M2.2.2.2 = n0 → WW p l e R s m args below meth c Q nL D cy G n0  (pc + 3) L (vI x :: st) M2) : WW p l e R s m args below meth c Q nL D cy G n0  pc L (vI x3 :: vI x2 :: vR a1 :: vR r :: st) M := by
  obtain ⟨rfl, ho1, ho2⟩ := ho
  refine x_call0 K C hd (as := [vR (some o0), vR a1, vI x2, vI x3]) rfl hn hlen (fun v M2 => ∃ x, v = some (vI x) ∧ Q0 x M2) ⟨⟨o0, [vR a1, vI x2, vI x3], rfl, rfl, ho1, ho2⟩, hn.trans h3, o0, a1, x2, x3, rfl, (hn.trans h3) ▸ ho1, ho2, Q0, fun x M2 hx => ⟨x, rfl, hx⟩, h⟩ ?_
  rintro _ _ ⟨x, rfl, hx⟩ hm
  exact k x _ hx hm
end W_X2_placeStops
theorem dX2_stopAt_0 : decode cX2_stopAt 0 = .ok (.iload_n 1, 1) := by decide +kernel
theorem dX2_stopAt_1 : decode cX2_stopAt 1 = .ok (.iconst 0, 1) := by decide +kernel
theorem dX2_stopAt_2 : decode cX2_stopAt 2 = .ok (.iconst 2, 1) := by decide +kernel
theorem dX2_stopAt_3 : decode cX2_stopAt 3 = .ok (.invokestatic 56, 3) := by decide +kernel
theorem dX2_stopAt_6 : decode cX2_stopAt 6 = .ok (.ifCond .eq 12, 3) := by decide +kernel
theorem dX2_stopAt_9 : decode cX2_stopAt 9 = .ok (.aload_n 0, 1) := by decide +kernel
theorem dX2_stopAt_10 : decode cX2_stopAt 10 = .ok (.getfield 22, 3) := by decide +kernel
theorem dX2_stopAt_13 : decode cX2_stopAt 13 = .ok (.iload_n 1, 1) := by decide +kernel
theorem dX2_stopAt_14 : decode cX2_stopAt 14 = .ok (.iaload, 1) := by decide +kernel
theorem dX2_stopAt_15 : decode cX2_stopAt 15 = .ok (.goto 5, 3) := by decide +kernel
theorem dX2_stopAt_18 : decode cX2_stopAt 18 = .ok (.bipush (-4), 2) := by decide +kernel
theorem dX2_stopAt_20 : decode cX2_stopAt 20 = .ok (.ireturn, 1) := by decide +kernel
theorem ck_X2_56 {l : Launch} {D : va_G} {cy : Nat → ClassId} {R : Room} (hR : 1 ≤ R.frames ∧ 22 ≤ R.locals) : CallOK l D cy R RX2 (.invokestatic 56) 0 0 (spS 3 SP_X11_isWithin) := call_SN (con_X11_isWithin l D cy) (List.mem_append_right _ (List.mem_append_right _ (List.mem_append_right _ (List.mem_append_left _ (List.mem_of_getElem? (i := 156) rfl))))) (lwG_2 (i := 92) rfl rfl) (lwG_1 (i := 1) rfl rfl) (lwG_2 (i := 93) rfl rfl) ⟨by decide, by decide, rfl⟩ ⟨rfl, rfl⟩ hR
section W_X2_stopAt
variable {p : Program} {l : Launch} {e : Env} {s : State} {m : MethodId} {args : Array Value} {below : List Frame} {meth : Method} {c : Code} {D : va_G} {cy : Nat → ClassId} {G : Nat × Nat} {n0 : Nat} {Qp : Option PV → Mm → Prop}
set_option maxRecDepth 100000 in
set_option maxHeartbeats 4000000 in
theorem k_X2_stopAt_0 {o0 : Nat} {x1 : Int} {M : Mm} {Q : Int → Prop} (C : Cx p s m args meth c cX2_stopAt 2 RX2 D cy G n0) (hr : meth.sig.returnType = some .int) (h3 : n0 = 243) (hn : M.2.2.2 = n0) (ho0 : o0 < 243 ∧ (SH o0).1 = 2) (hQ : ∀ x, Q x → Qp (some (vI x)) M) (h : P_X2_stopAt o0 x1 M Q ) : WW p l e ({ frames := 1, cells := 0, slots := 0, locals := 22 }) s m args below meth c (ZQ below args s D cy G n0 Qp n0) 2 D cy G n0 0 [(0, vR (some o0)), (1, vI x1)] [] M := by
  unfold P_X2_stopAt at h
  refine w_iload_n C dX2_stopAt_0 rfl (mem_k 1 rfl) ?_
  refine w_iconst C dX2_stopAt_1 ⟨by decide, by decide⟩ ?_
  refine w_iconst C dX2_stopAt_2 ⟨by decide, by decide⟩ ?_
  refine cl_X11_isWithin (ck_X2_56 ⟨by decide, by decide⟩) C dX2_stopAt_3 hn h3 (Nat.le_of_ble_eq_true rfl) h (fun v1 h => ?_)
  refine w_if_eq (tgt := 18) C dX2_stopAt_6 (by decide) (fun q => ?_) (fun q => ?_)
  · replace h := h.1 q
    refine w_bipush C dX2_stopAt_18 (by decide) ?_
    exact x_iret C hr dX2_stopAt_20 hn (hQ _ h)
  · replace h := h.2 q
    refine w_aload_n C dX2_stopAt_9 rfl (mem_k 0 rfl) ?_
    refine x_getR C dX2_stopAt_10 fw_X2_22 (isO.n (ci := 2) ⟨rfl, ho0⟩ (hn.trans h3)) (fun r2 er2 => ?_)
    replace h := h r2 er2
    refine w_iload_n C dX2_stopAt_13 rfl (mem_k 1 rfl) ?_
    obtain ⟨o3, g4, h⟩ := h
    refine x_iald C dX2_stopAt_14 (isA.n g4 (hn.trans h3)) ?_
    refine w_goto (tgt := 20) C dX2_stopAt_15 (by decide) ?_
    exact x_iret C hr dX2_stopAt_20 hn (hQ _ h)
set_option maxRecDepth 100000 in
set_option maxHeartbeats 4000000 in
theorem con_X2_stopAt (l : Launch) (D : va_G) (cy : Nat → ClassId) : Con l D cy yX2_stopAt cX2_stopAt 2 (some .int) ({ frames := 1, cells := 0, slots := 0, locals := 22 }) 0 0 SP_X2_stopAt := by
  refine con_of (by decide) (fun as M Qp h => ?_) ?_
  · obtain ⟨-, o0, x1, rfl, -⟩ := h
    exact Nat.le_of_ble_eq_true rfl
  · intro p e s m args below meth c G as M Qp h C hr hnm
    obtain ⟨hn, o0, x1, rfl, ho1, ho2, Q0, hQ, h⟩ := h
    refine x_pick (L' := [(0, vR (some o0)), (1, vI x1)]) [0, 1] rfl ?_
    exact k_X2_stopAt_0 C hr hn rfl ⟨ho1, ho2⟩ hQ h
set_option maxRecDepth 100000 in
set_option maxHeartbeats 4000000 in
theorem cl_X2_stopAt {p : Program} {l : Launch} {e : Env} {R : Room} {s : State} {m : MethodId} {args : Array Value} {below : List Frame} {meth : Method} {c : Code} {Q : State → Prop} {cc : ByteArray} {nL : Nat} {own : String} {D : va_G} {cy : Nat → ClassId} {G : Nat × Nat} {n0 pc : Nat} {L : List (Nat × PV)} {st : List PV} {M : Mm} {op : Instr} (K : CallOK l D cy R own op 0 0 (spV 2 1 SP_X2_stopAt)) (C : Cx p s m args meth c cc nL own D cy G n0) (hd : decode cc pc = .ok (op, 3)) (hn : M.2.2.2 = n0) (h3 : n0 = 243) (hlen : argN st ≤ 8) {r : Option Nat} {o0 : Nat} (ho : isOn 2 M.2.2.2 r o0) {x1 : Int} {Q0 : Int → Prop} (h : P_X2_stopAt o0 x1 M Q0) (k : ∀ x, Q0 x → WW p l e R s m args below meth c Q nL D cy G n0  (pc + 3) L (vI x :: st) M) : WW p l e R s m args below meth c Q nL D cy G n0  pc L (vI x1 :: vR r :: st) M := by
  obtain ⟨rfl, ho1, ho2⟩ := ho
  refine x_call0 K C hd (as := [vR (some o0), vI x1]) rfl hn hlen (fun v M2 => ∃ x, v = some (vI x) ∧ M2 = M ∧ Q0 x) ⟨⟨o0, [vI x1], rfl, rfl, ho1, ho2⟩, hn.trans h3, o0, x1, rfl, (hn.trans h3) ▸ ho1, ho2, Q0, fun x hx => ⟨x, rfl, rfl, hx⟩, h⟩ ?_
  rintro _ _ ⟨x, rfl, rfl, hx⟩ hm
  exact k x hx
end W_X2_stopAt
theorem dX3_begin_0 : decode cX3_begin 0 = .ok (.aload_n 0, 1) := by decide +kernel
theorem dX3_begin_1 : decode cX3_begin 1 = .ok (.iconst 0, 1) := by decide +kernel
theorem dX3_begin_2 : decode cX3_begin 2 = .ok (.putfield 21, 3) := by decide +kernel
theorem dX3_begin_5 : decode cX3_begin 5 = .ok (.iconst 0, 1) := by decide +kernel
theorem dX3_begin_6 : decode cX3_begin 6 = .ok (.istore_n 3, 1) := by decide +kernel
theorem dX3_begin_7 : decode cX3_begin 7 = .ok (.iload_n 3, 1) := by decide +kernel
theorem dX3_begin_8 : decode cX3_begin 8 = .ok (.iload_n 2, 1) := by decide +kernel
theorem dX3_begin_9 : decode cX3_begin 9 = .ok (.if_icmp .ge 58, 3) := by decide +kernel
theorem dX3_begin_12 : decode cX3_begin 12 = .ok (.iload_n 3, 1) := by decide +kernel
theorem dX3_begin_13 : decode cX3_begin 13 = .ok (.iconst 4, 1) := by decide +kernel
theorem dX3_begin_14 : decode cX3_begin 14 = .ok (.if_icmp .ge 53, 3) := by decide +kernel
theorem dX3_begin_17 : decode cX3_begin 17 = .ok (.iconst 2, 1) := by decide +kernel
theorem dX3_begin_18 : decode cX3_begin 18 = .ok (.iload_n 3, 1) := by decide +kernel
theorem dX3_begin_19 : decode cX3_begin 19 = .ok (.imul, 1) := by decide +kernel
theorem dX3_begin_20 : decode cX3_begin 20 = .ok (.iconst 1, 1) := by decide +kernel
theorem dX3_begin_21 : decode cX3_begin 21 = .ok (.iadd, 1) := by decide +kernel
theorem dX3_begin_22 : decode cX3_begin 22 = .ok (.aload_n 1, 1) := by decide +kernel
theorem dX3_begin_23 : decode cX3_begin 23 = .ok (.arraylength, 1) := by decide +kernel
theorem dX3_begin_24 : decode cX3_begin 24 = .ok (.if_icmp .ge 43, 3) := by decide +kernel
theorem dX3_begin_27 : decode cX3_begin 27 = .ok (.aload_n 0, 1) := by decide +kernel
theorem dX3_begin_28 : decode cX3_begin 28 = .ok (.getfield 9, 3) := by decide +kernel
theorem dX3_begin_31 : decode cX3_begin 31 = .ok (.iload_n 3, 1) := by decide +kernel
theorem dX3_begin_32 : decode cX3_begin 32 = .ok (.aload_n 1, 1) := by decide +kernel
theorem dX3_begin_33 : decode cX3_begin 33 = .ok (.iconst 2, 1) := by decide +kernel
theorem dX3_begin_34 : decode cX3_begin 34 = .ok (.iload_n 3, 1) := by decide +kernel
theorem dX3_begin_35 : decode cX3_begin 35 = .ok (.imul, 1) := by decide +kernel
theorem dX3_begin_36 : decode cX3_begin 36 = .ok (.iaload, 1) := by decide +kernel
theorem dX3_begin_37 : decode cX3_begin 37 = .ok (.iastore, 1) := by decide +kernel
theorem dX3_begin_38 : decode cX3_begin 38 = .ok (.aload_n 0, 1) := by decide +kernel
theorem dX3_begin_39 : decode cX3_begin 39 = .ok (.getfield 15, 3) := by decide +kernel
theorem dX3_begin_42 : decode cX3_begin 42 = .ok (.iload_n 3, 1) := by decide +kernel
theorem dX3_begin_43 : decode cX3_begin 43 = .ok (.aload_n 1, 1) := by decide +kernel
theorem dX3_begin_44 : decode cX3_begin 44 = .ok (.iconst 2, 1) := by decide +kernel
theorem dX3_begin_45 : decode cX3_begin 45 = .ok (.iload_n 3, 1) := by decide +kernel
theorem dX3_begin_46 : decode cX3_begin 46 = .ok (.imul, 1) := by decide +kernel
theorem dX3_begin_47 : decode cX3_begin 47 = .ok (.iconst 1, 1) := by decide +kernel
theorem dX3_begin_48 : decode cX3_begin 48 = .ok (.iadd, 1) := by decide +kernel
theorem dX3_begin_49 : decode cX3_begin 49 = .ok (.iaload, 1) := by decide +kernel
theorem dX3_begin_50 : decode cX3_begin 50 = .ok (.iastore, 1) := by decide +kernel
theorem dX3_begin_51 : decode cX3_begin 51 = .ok (.aload_n 0, 1) := by decide +kernel
theorem dX3_begin_52 : decode cX3_begin 52 = .ok (.dup, 1) := by decide +kernel
theorem dX3_begin_53 : decode cX3_begin 53 = .ok (.getfield 21, 3) := by decide +kernel
theorem dX3_begin_56 : decode cX3_begin 56 = .ok (.iconst 1, 1) := by decide +kernel
theorem dX3_begin_57 : decode cX3_begin 57 = .ok (.iadd, 1) := by decide +kernel
theorem dX3_begin_58 : decode cX3_begin 58 = .ok (.putfield 21, 3) := by decide +kernel
theorem dX3_begin_61 : decode cX3_begin 61 = .ok (.iinc 3 1, 3) := by decide +kernel
theorem dX3_begin_64 : decode cX3_begin 64 = .ok (.goto (-57), 3) := by decide +kernel
theorem dX3_begin_67 : decode cX3_begin 67 = .ok (.iconst 0, 1) := by decide +kernel
theorem dX3_begin_68 : decode cX3_begin 68 = .ok (.istore_n 3, 1) := by decide +kernel
theorem dX3_begin_69 : decode cX3_begin 69 = .ok (.iload_n 3, 1) := by decide +kernel
theorem dX3_begin_70 : decode cX3_begin 70 = .ok (.iconst 4, 1) := by decide +kernel
theorem dX3_begin_71 : decode cX3_begin 71 = .ok (.if_icmp .ge 17, 3) := by decide +kernel
theorem dX3_begin_74 : decode cX3_begin 74 = .ok (.aload_n 0, 1) := by decide +kernel
theorem dX3_begin_75 : decode cX3_begin 75 = .ok (.getfield 18, 3) := by decide +kernel
theorem dX3_begin_78 : decode cX3_begin 78 = .ok (.iload_n 3, 1) := by decide +kernel
theorem dX3_begin_79 : decode cX3_begin 79 = .ok (.bipush 100, 2) := by decide +kernel
theorem dX3_begin_81 : decode cX3_begin 81 = .ok (.iastore, 1) := by decide +kernel
theorem dX3_begin_82 : decode cX3_begin 82 = .ok (.iinc 3 1, 3) := by decide +kernel
theorem dX3_begin_85 : decode cX3_begin 85 = .ok (.goto (-16), 3) := by decide +kernel
theorem dX3_begin_88 : decode cX3_begin 88 = .ok (.return_, 1) := by decide +kernel
theorem fw_X3_18 : fR RX3 18 3 3 := ⟨⟨lwG_1 (i := 64) rfl rfl, by decide, by decide⟩, fun _ _ => rfl, fun r => ⟨r, rfl⟩⟩
section W_X3_begin
variable {p : Program} {l : Launch} {e : Env} {s : State} {m : MethodId} {args : Array Value} {below : List Frame} {meth : Method} {c : Code} {D : va_G} {cy : Nat → ClassId} {G : Nat × Nat} {n0 : Nat} {Qp : Option PV → Mm → Prop}
set_option maxRecDepth 100000 in
set_option maxHeartbeats 4000000 in
theorem f_X3_begin_69 {o0 : Nat} {x3 : Int} {M : Mm} {Q : Mm → Prop} {K69 : Int × Mm → Prop} (C : Cx p s m args meth c cX3_begin 4 RX3 D cy G n0) (hr : meth.sig.returnType = none) (h3 : n0 = 243) (hn : M.2.2.2 = n0) (ho0 : o0 < 243 ∧ (SH o0).1 = 3) (hQ : ∀ M, Q M → Qp none M) (hK69 : ∀ (x3 : Int) (M : Mm), K69 (x3, M) → M.2.2.2 = n0 → WW p l e ({ frames := 0, cells := 0, slots := 0, locals := 0 }) s m args below meth c (ZQ below args s D cy G n0 Qp n0) 4 D cy G n0 69 [(0, vR (some o0)), (3, vI x3)] [] M) (h : F_X3_begin_69 o0 Q  K69 x3 M) : WW p l e ({ frames := 0, cells := 0, slots := 0, locals := 0 }) s m args below meth c (ZQ below args s D cy G n0 Qp n0) 4 D cy G n0 69 [(0, vR (some o0)), (3, vI x3)] [] M := by
  unfold F_X3_begin_69 at h
  refine w_iload_n C dX3_begin_69 rfl (mem_k 1 rfl) ?_
  refine w_iconst C dX3_begin_70 ⟨by decide, by decide⟩ ?_
  refine w_icmp_ge (tgt := 88) C dX3_begin_71 (by decide) (fun q => ?_) (fun q => ?_)
  · replace h := h.1 q
    exact x_vret C hr dX3_begin_88 hn (hQ M h)
  · replace h := h.2 q
    refine w_aload_n C dX3_begin_74 rfl (mem_k 0 rfl) ?_
    refine x_getR C dX3_begin_75 fw_X3_18 (isO.n (ci := 3) ⟨rfl, ho0⟩ (hn.trans h3)) (fun r1 er1 => ?_)
    replace h := h r1 er1
    refine w_iload_n C dX3_begin_78 rfl (mem_k 1 rfl) ?_
    refine w_bipush C dX3_begin_79 (by decide) ?_
    obtain ⟨o2, g3, h⟩ := h
    refine x_iast C dX3_begin_81 (isA.n g3 (hn.trans h3)) (fun M4 eM4 hn5 => ?_)
    replace h := h M4 eM4
    replace hn5 := hn5.trans hn
    obtain ⟨v6, ev6⟩ : ∃ z : Int, z = x3 + 1 := ⟨_, rfl⟩
    refine x_iinc (L' := [(3, vI v6), (0, vR (some o0))]) C dX3_begin_82 (mem_k 1 rfl) (by decide) h.1 ev6 rfl ?_
    replace h := h.2 v6 ev6
    refine w_goto (tgt := 69) C dX3_begin_85 (by decide) ?_
    refine x_pc (pc2 := 69) rfl ?_
    refine x_pick (L' := [(0, vR (some o0)), (3, vI v6)]) [1, 0] rfl ?_
    exact hK69 v6 M4 h hn5
set_option maxRecDepth 100000 in
set_option maxHeartbeats 4000000 in
theorem k_X3_begin_69 {o0 : Nat} {x3 : Int} {M : Mm} {Q : Mm → Prop} (C : Cx p s m args meth c cX3_begin 4 RX3 D cy G n0) (hr : meth.sig.returnType = none) (h3 : n0 = 243) (hn : M.2.2.2 = n0) (ho0 : o0 < 243 ∧ (SH o0).1 = 3) (hQ : ∀ M, Q M → Qp none M) (h : P_X3_begin_69 o0 x3 M Q ) : WW p l e ({ frames := 0, cells := 0, slots := 0, locals := 0 }) s m args below meth c (ZQ below args s D cy G n0 Qp n0) 4 D cy G n0 69 [(0, vR (some o0)), (3, vI x3)] [] M := by
  refine lpW_sound (P := fun y : Int × Mm => y.2.2.2.2 = n0 → WW p l e ({ frames := 0, cells := 0, slots := 0, locals := 0 }) s m args below meth c (ZQ below args s D cy G n0 Qp n0) 4 D cy G n0 69 [(0, vR (some o0)), (3, vI y.1)] [] y.2) ?_ h hn
  intro K y hK hF
  obtain ⟨x3, M⟩ := y
  intro hn
  exact f_X3_begin_69 C hr h3 hn ho0 hQ  (fun x3 M hk => hK (x3, M) hk) hF
set_option maxRecDepth 100000 in
set_option maxHeartbeats 4000000 in
theorem f_X3_begin_7 {o0 : Nat} {a1 : Option Nat} {x2 : Int} {x3 : Int} {M : Mm} {Q : Mm → Prop} {K7 : Int × Mm → Prop} (C : Cx p s m args meth c cX3_begin 4 RX3 D cy G n0) (hr : meth.sig.returnType = none) (h3 : n0 = 243) (hn : M.2.2.2 = n0) (ho0 : o0 < 243 ∧ (SH o0).1 = 3) (hQ : ∀ M, Q M → Qp none M) (hK7 : ∀ (x3 : Int) (M : Mm), K7 (x3, M) → M.2.2.2 = n0 → WW p l e ({ frames := 0, cells := 0, slots := 0, locals := 0 }) s m args below meth c (ZQ below args s D cy G n0 Qp n0) 4 D cy G n0 7 [(0, vR (some o0)), (1, vR a1), (2, vI x2), (3, vI x3)] [] M) (h : F_X3_begin_7 o0 a1 x2 Q  K7 x3 M) : WW p l e ({ frames := 0, cells := 0, slots := 0, locals := 0 }) s m args below meth c (ZQ below args s D cy G n0 Qp n0) 4 D cy G n0 7 [(0, vR (some o0)), (1, vR a1), (2, vI x2), (3, vI x3)] [] M := by
  unfold F_X3_begin_7 at h
  refine w_iload_n C dX3_begin_7 rfl (mem_k 3 rfl) ?_
  refine w_iload_n C dX3_begin_8 rfl (mem_k 2 rfl) ?_
  refine w_icmp_ge (tgt := 67) C dX3_begin_9 (by decide) (fun q => ?_) (fun q => ?_)
  · replace h := h.1 q
    refine w_iconst C dX3_begin_67 ⟨by decide, by decide⟩ ?_
    refine x_istore_n (L' := [(3, vI 0), (0, vR (some o0)), (1, vR a1), (2, vI x2)]) C dX3_begin_68 rfl (by decide) rfl ?_
    refine x_pc (pc2 := 69) rfl ?_
    refine x_pick (L' := [(0, vR (some o0)), (3, vI 0)]) [1, 0] rfl ?_
    exact k_X3_begin_69 C hr h3 hn ho0 hQ  h
  · replace h := h.2 q
    refine w_iload_n C dX3_begin_12 rfl (mem_k 3 rfl) ?_
    refine w_iconst C dX3_begin_13 ⟨by decide, by decide⟩ ?_
    refine w_icmp_ge (tgt := 67) C dX3_begin_14 (by decide) (fun q => ?_) (fun q => ?_)
    · replace h := h.1 q
      refine w_iconst C dX3_begin_67 ⟨by decide, by decide⟩ ?_
      refine x_istore_n (L' := [(3, vI 0), (0, vR (some o0)), (1, vR a1), (2, vI x2)]) C dX3_begin_68 rfl (by decide) rfl ?_
      refine x_pc (pc2 := 69) rfl ?_
      refine x_pick (L' := [(0, vR (some o0)), (3, vI 0)]) [1, 0] rfl ?_
      exact k_X3_begin_69 C hr h3 hn ho0 hQ  h
    · replace h := h.2 q
      refine w_iconst C dX3_begin_17 ⟨by decide, by decide⟩ ?_
      refine w_iload_n C dX3_begin_18 rfl (mem_k 3 rfl) ?_
      refine w_imul C dX3_begin_19 h.1 ?_
      replace h := h.2
      refine w_iconst C dX3_begin_20 ⟨by decide, by decide⟩ ?_
      refine w_iadd C dX3_begin_21 h.1 ?_
      replace h := h.2
      refine w_aload_n C dX3_begin_22 rfl (mem_k 1 rfl) ?_
      obtain ⟨o7, g8, h⟩ := h
      refine x_alen C dX3_begin_23 (isO.n g8 (hn.trans h3)) (Nat.le_of_eq (hn.trans h3)) ?_
      refine w_icmp_ge (tgt := 67) C dX3_begin_24 (by decide) (fun q => ?_) (fun q => ?_)
      · replace h := h.1 q
        refine w_iconst C dX3_begin_67 ⟨by decide, by decide⟩ ?_
        refine x_istore_n (L' := [(3, vI 0), (0, vR (some o0)), (1, vR a1), (2, vI x2)]) C dX3_begin_68 rfl (by decide) rfl ?_
        refine x_pc (pc2 := 69) rfl ?_
        refine x_pick (L' := [(0, vR (some o0)), (3, vI 0)]) [1, 0] rfl ?_
        exact k_X3_begin_69 C hr h3 hn ho0 hQ  h
      · replace h := h.2 q
        refine w_aload_n C dX3_begin_27 rfl (mem_k 0 rfl) ?_
        refine x_getR C dX3_begin_28 fw_X3_9 (isO.n (ci := 3) ⟨rfl, ho0⟩ (hn.trans h3)) (fun r9 er9 => ?_)
        replace h := h r9 er9
        refine w_iload_n C dX3_begin_31 rfl (mem_k 3 rfl) ?_
        refine w_aload_n C dX3_begin_32 rfl (mem_k 1 rfl) ?_
        refine w_iconst C dX3_begin_33 ⟨by decide, by decide⟩ ?_
        refine w_iload_n C dX3_begin_34 rfl (mem_k 3 rfl) ?_
        refine w_imul C dX3_begin_35 h.1 ?_
        replace h := h.2
        obtain ⟨o10, g11, h⟩ := h
        refine x_iald C dX3_begin_36 (isA.n g11 (hn.trans h3)) ?_
        obtain ⟨o12, g13, h⟩ := h
        refine x_iast C dX3_begin_37 (isA.n g13 (hn.trans h3)) (fun M14 eM14 hn15 => ?_)
        replace h := h M14 eM14
        replace hn15 := hn15.trans hn
        refine w_aload_n C dX3_begin_38 rfl (mem_k 0 rfl) ?_
        refine x_getR C dX3_begin_39 fw_X3_15 (isO.n (ci := 3) ⟨rfl, ho0⟩ (hn15.trans h3)) (fun r16 er16 => ?_)
        replace h := h r16 er16
        refine w_iload_n C dX3_begin_42 rfl (mem_k 3 rfl) ?_
        refine w_aload_n C dX3_begin_43 rfl (mem_k 1 rfl) ?_
        refine w_iconst C dX3_begin_44 ⟨by decide, by decide⟩ ?_
        refine w_iload_n C dX3_begin_45 rfl (mem_k 3 rfl) ?_
        refine w_imul C dX3_begin_46 h.1 ?_
        replace h := h.2
        refine w_iconst C dX3_begin_47 ⟨by decide, by decide⟩ ?_
        refine w_iadd C dX3_begin_48 h.1 ?_
        replace h := h.2
        obtain ⟨o17, g18, h⟩ := h
        refine x_iald C dX3_begin_49 (isA.n g18 (hn15.trans h3)) ?_
        obtain ⟨o19, g20, h⟩ := h
        refine x_iast C dX3_begin_50 (isA.n g20 (hn15.trans h3)) (fun M21 eM21 hn22 => ?_)
        replace h := h M21 eM21
        replace hn22 := hn22.trans hn15
        refine w_aload_n C dX3_begin_51 rfl (mem_k 0 rfl) ?_
        refine w_dup C dX3_begin_52 rfl ?_
        refine x_getI C dX3_begin_53 fw_X3_21 (isO.n (ci := 3) ⟨rfl, ho0⟩ (hn22.trans h3)) ?_
        refine w_iconst C dX3_begin_56 ⟨by decide, by decide⟩ ?_
        refine w_iadd C dX3_begin_57 h.1 ?_
        replace h := h.2
        refine x_putI C dX3_begin_58 fw_X3_21 (isO.n (ci := 3) ⟨rfl, ho0⟩ (hn22.trans h3)) (Or.inl rfl) (fun M23 eM23 hn24 => ?_)
        replace h := h M23 eM23
        replace hn24 := hn24.trans hn22
        obtain ⟨v25, ev25⟩ : ∃ z : Int, z = x3 + 1 := ⟨_, rfl⟩
        refine x_iinc (L' := [(3, vI v25), (0, vR (some o0)), (1, vR a1), (2, vI x2)]) C dX3_begin_61 (mem_k 3 rfl) (by decide) h.1 ev25 rfl ?_
        replace h := h.2 v25 ev25
        refine w_goto (tgt := 7) C dX3_begin_64 (by decide) ?_
        refine x_pc (pc2 := 7) rfl ?_
        refine x_pick (L' := [(0, vR (some o0)), (1, vR a1), (2, vI x2), (3, vI v25)]) [1, 2, 3, 0] rfl ?_
        exact hK7 v25 M23 h hn24
set_option maxRecDepth 100000 in
set_option maxHeartbeats 4000000 in
theorem k_X3_begin_7 {o0 : Nat} {a1 : Option Nat} {x2 : Int} {x3 : Int} {M : Mm} {Q : Mm → Prop} (C : Cx p s m args meth c cX3_begin 4 RX3 D cy G n0) (hr : meth.sig.returnType = none) (h3 : n0 = 243) (hn : M.2.2.2 = n0) (ho0 : o0 < 243 ∧ (SH o0).1 = 3) (hQ : ∀ M, Q M → Qp none M) (h : P_X3_begin_7 o0 a1 x2 x3 M Q ) : WW p l e ({ frames := 0, cells := 0, slots := 0, locals := 0 }) s m args below meth c (ZQ below args s D cy G n0 Qp n0) 4 D cy G n0 7 [(0, vR (some o0)), (1, vR a1), (2, vI x2), (3, vI x3)] [] M := by
  refine lpW_sound (P := fun y : Int × Mm => y.2.2.2.2 = n0 → WW p l e ({ frames := 0, cells := 0, slots := 0, locals := 0 }) s m args below meth c (ZQ below args s D cy G n0 Qp n0) 4 D cy G n0 7 [(0, vR (some o0)), (1, vR a1), (2, vI x2), (3, vI y.1)] [] y.2) ?_ h hn
  intro K y hK hF
  obtain ⟨x3, M⟩ := y
  intro hn
  exact f_X3_begin_7 C hr h3 hn ho0 hQ  (fun x3 M hk => hK (x3, M) hk) hF
set_option maxRecDepth 100000 in
set_option maxHeartbeats 4000000 in
theorem k_X3_begin_0 {o0 : Nat} {a1 : Option Nat} {x2 : Int} {M : Mm} {Q : Mm → Prop} (C : Cx p s m args meth c cX3_begin 4 RX3 D cy G n0) (hr : meth.sig.returnType = none) (h3 : n0 = 243) (hn : M.2.2.2 = n0) (ho0 : o0 < 243 ∧ (SH o0).1 = 3) (hQ : ∀ M, Q M → Qp none M) (h : P_X3_begin o0 a1 x2 M Q ) : WW p l e ({ frames := 0, cells := 0, slots := 0, locals := 0 }) s m args below meth c (ZQ below args s D cy G n0 Qp n0) 4 D cy G n0 0 [(0, vR (some o0)), (1, vR a1), (2, vI x2)] [] M := by
  unfold P_X3_begin at h
  refine w_aload_n C dX3_begin_0 rfl (mem_k 0 rfl) ?_
  refine w_iconst C dX3_begin_1 ⟨by decide, by decide⟩ ?_
  refine x_putI C dX3_begin_2 fw_X3_21 (isO.n (ci := 3) ⟨rfl, ho0⟩ (hn.trans h3)) (Or.inl rfl) (fun M26 eM26 hn27 => ?_)
  replace h := h M26 eM26
  replace hn27 := hn27.trans hn
  refine w_iconst C dX3_begin_5 ⟨by decide, by decide⟩ ?_
  refine x_istore_n (L' := [(3, vI 0), (0, vR (some o0)), (1, vR a1), (2, vI x2)]) C dX3_begin_6 rfl (by decide) rfl ?_
  refine x_pc (pc2 := 7) rfl ?_
  refine x_pick (L' := [(0, vR (some o0)), (1, vR a1), (2, vI x2), (3, vI 0)]) [1, 2, 3, 0] rfl ?_
  exact k_X3_begin_7 C hr h3 hn27 ho0 hQ  h
set_option maxRecDepth 100000 in
set_option maxHeartbeats 4000000 in
theorem con_X3_begin (l : Launch) (D : va_G) (cy : Nat → ClassId) : Con l D cy yX3_begin cX3_begin 4 (none) ({ frames := 0, cells := 0, slots := 0, locals := 0 }) 0 0 SP_X3_begin := by
  refine con_of (by decide) (fun as M Qp h => ?_) ?_
  · obtain ⟨-, o0, a1, x2, rfl, -⟩ := h
    exact Nat.le_of_ble_eq_true rfl
  · intro p e s m args below meth c G as M Qp h C hr hnm
    obtain ⟨hn, o0, a1, x2, rfl, ho1, ho2, Q0, hQ, h⟩ := h
    refine x_pick (L' := [(0, vR (some o0)), (1, vR a1), (2, vI x2)]) [0, 1, 2] rfl ?_
    exact k_X3_begin_0 C hr hn rfl ⟨ho1, ho2⟩ hQ h
set_option maxRecDepth 100000 in
set_option maxHeartbeats 4000000 in
theorem cl_X3_begin {p : Program} {l : Launch} {e : Env} {R : Room} {s : State} {m : MethodId} {args : Array Value} {below : List Frame} {meth : Method} {c : Code} {Q : State → Prop} {cc : ByteArray} {nL : Nat} {own : String} {D : va_G} {cy : Nat → ClassId} {G : Nat × Nat} {n0 pc : Nat} {L : List (Nat × PV)} {st : List PV} {M : Mm} {op : Instr} (K : CallOK l D cy R own op 0 0 (spV 3 2 SP_X3_begin)) (C : Cx p s m args meth c cc nL own D cy G n0) (hd : decode cc pc = .ok (op, 3)) (hn : M.2.2.2 = n0) (h3 : n0 = 243) (hlen : argN st ≤ 8) {r : Option Nat} {o0 : Nat} (ho : isOn 3 M.2.2.2 r o0) {a1 : Option Nat} {x2 : Int} {Q0 : Mm → Prop} (h : P_X3_begin o0 a1 x2 M Q0) (k : ∀ M2, Q0 M2 → M2.2.2.2 = n0 → WW p l e R s m args below meth c Q nL D cy G n0  (pc + 3) L (st) M2) : WW p l e R s m args below meth c Q nL D cy G n0  pc L (vI x2 :: vR a1 :: vR r :: st) M := by
  obtain ⟨rfl, ho1, ho2⟩ := ho
  refine x_call0 K C hd (as := [vR (some o0), vR a1, vI x2]) rfl hn hlen (fun v M2 => v = none ∧ Q0 M2) ⟨⟨o0, [vR a1, vI x2], rfl, rfl, ho1, ho2⟩, hn.trans h3, o0, a1, x2, rfl, (hn.trans h3) ▸ ho1, ho2, Q0, fun M2 hx => ⟨rfl, hx⟩, h⟩ ?_
  rintro _ _ ⟨rfl, hx⟩ hm
  exact k _ hx hm
end W_X3_begin
theorem dX5_clear_0 : decode cX5_clear 0 = .ok (.aload_n 0, 1) := by decide +kernel
theorem dX5_clear_1 : decode cX5_clear 1 = .ok (.iconst 0, 1) := by decide +kernel
theorem dX5_clear_2 : decode cX5_clear 2 = .ok (.putfield 27, 3) := by decide +kernel
theorem dX5_clear_5 : decode cX5_clear 5 = .ok (.aload_n 0, 1) := by decide +kernel
theorem dX5_clear_6 : decode cX5_clear 6 = .ok (.iconst 0, 1) := by decide +kernel
theorem dX5_clear_7 : decode cX5_clear 7 = .ok (.putfield 31, 3) := by decide +kernel
theorem dX5_clear_10 : decode cX5_clear 10 = .ok (.return_, 1) := by decide +kernel
theorem fw_X5_27 : fI RX5 27 5 1 := ⟨⟨lwG_1 (i := 137) rfl rfl, by decide, by decide⟩, rfl⟩
theorem fw_X5_31 : fI RX5 31 5 3 := ⟨⟨lwG_1 (i := 141) rfl rfl, by decide, by decide⟩, rfl⟩
section W_X5_clear
variable {p : Program} {l : Launch} {e : Env} {s : State} {m : MethodId} {args : Array Value} {below : List Frame} {meth : Method} {c : Code} {D : va_G} {cy : Nat → ClassId} {G : Nat × Nat} {n0 : Nat} {Qp : Option PV → Mm → Prop}
set_option maxRecDepth 100000 in
set_option maxHeartbeats 4000000 in
theorem k_X5_clear_0 {o0 : Nat} {M : Mm} {Q : Mm → Prop} (C : Cx p s m args meth c cX5_clear 1 RX5 D cy G n0) (hr : meth.sig.returnType = none) (h3 : n0 = 243) (hn : M.2.2.2 = n0) (ho0 : o0 < 243 ∧ (SH o0).1 = 5) (hQ : ∀ M, Q M → Qp none M) (h : P_X5_clear o0 M Q ) : WW p l e ({ frames := 0, cells := 0, slots := 0, locals := 0 }) s m args below meth c (ZQ below args s D cy G n0 Qp n0) 1 D cy G n0 0 [(0, vR (some o0))] [] M := by
  unfold P_X5_clear at h
  refine w_aload_n C dX5_clear_0 rfl (mem_k 0 rfl) ?_
  refine w_iconst C dX5_clear_1 ⟨by decide, by decide⟩ ?_
  refine x_putI C dX5_clear_2 fw_X5_27 (isO.n (ci := 5) ⟨rfl, ho0⟩ (hn.trans h3)) (Or.inl rfl) (fun M1 eM1 hn2 => ?_)
  replace h := h M1 eM1
  replace hn2 := hn2.trans hn
  refine w_aload_n C dX5_clear_5 rfl (mem_k 0 rfl) ?_
  refine w_iconst C dX5_clear_6 ⟨by decide, by decide⟩ ?_
  refine x_putI C dX5_clear_7 fw_X5_31 (isO.n (ci := 5) ⟨rfl, ho0⟩ (hn2.trans h3)) (Or.inl rfl) (fun M3 eM3 hn4 => ?_)
  replace h := h M3 eM3
  replace hn4 := hn4.trans hn2
  exact x_vret C hr dX5_clear_10 hn4 (hQ M3 h)
set_option maxRecDepth 100000 in
set_option maxHeartbeats 4000000 in
theorem con_X5_clear (l : Launch) (D : va_G) (cy : Nat → ClassId) : Con l D cy yX5_clear cX5_clear 1 (none) ({ frames := 0, cells := 0, slots := 0, locals := 0 }) 0 0 SP_X5_clear := by
  refine con_of (by decide) (fun as M Qp h => ?_) ?_
  · obtain ⟨-, o0, rfl, -⟩ := h
    exact Nat.le_of_ble_eq_true rfl
  · intro p e s m args below meth c G as M Qp h C hr hnm
    obtain ⟨hn, o0, rfl, ho1, ho2, Q0, hQ, h⟩ := h
    refine x_pick (L' := [(0, vR (some o0))]) [0] rfl ?_
    exact k_X5_clear_0 C hr hn rfl ⟨ho1, ho2⟩ hQ h
set_option maxRecDepth 100000 in
set_option maxHeartbeats 4000000 in
theorem cl_X5_clear {p : Program} {l : Launch} {e : Env} {R : Room} {s : State} {m : MethodId} {args : Array Value} {below : List Frame} {meth : Method} {c : Code} {Q : State → Prop} {cc : ByteArray} {nL : Nat} {own : String} {D : va_G} {cy : Nat → ClassId} {G : Nat × Nat} {n0 pc : Nat} {L : List (Nat × PV)} {st : List PV} {M : Mm} {op : Instr} (K : CallOK l D cy R own op 0 0 (spV 5 0 SP_X5_clear)) (C : Cx p s m args meth c cc nL own D cy G n0) (hd : decode cc pc = .ok (op, 3)) (hn : M.2.2.2 = n0) (h3 : n0 = 243) (hlen : argN st ≤ 8) {r : Option Nat} {o0 : Nat} (ho : isOn 5 M.2.2.2 r o0)  {Q0 : Mm → Prop} (h : P_X5_clear o0 M Q0) (k : ∀ M2, Q0 M2 → M2.2.2.2 = n0 → WW p l e R s m args below meth c Q nL D cy G n0  (pc + 3) L (st) M2) : WW p l e R s m args below meth c Q nL D cy G n0  pc L (vR r :: st) M := by
  obtain ⟨rfl, ho1, ho2⟩ := ho
  refine x_call0 K C hd (as := [vR (some o0)]) rfl hn hlen (fun v M2 => v = none ∧ Q0 M2) ⟨⟨o0, [], rfl, rfl, ho1, ho2⟩, hn.trans h3, o0, rfl, (hn.trans h3) ▸ ho1, ho2, Q0, fun M2 hx => ⟨rfl, hx⟩, h⟩ ?_
  rintro _ _ ⟨rfl, hx⟩ hm
  exact k _ hx hm
end W_X5_clear
theorem dX5_layerAt_0 : decode cX5_layerAt 0 = .ok (.iload_n 1, 1) := by decide +kernel
theorem dX5_layerAt_1 : decode cX5_layerAt 1 = .ok (.iconst 0, 1) := by decide +kernel
theorem dX5_layerAt_2 : decode cX5_layerAt 2 = .ok (.aload_n 0, 1) := by decide +kernel
theorem dX5_layerAt_3 : decode cX5_layerAt 3 = .ok (.getfield 27, 3) := by decide +kernel
theorem dX5_layerAt_6 : decode cX5_layerAt 6 = .ok (.iconst 1, 1) := by decide +kernel
theorem dX5_layerAt_7 : decode cX5_layerAt 7 = .ok (.isub, 1) := by decide +kernel
theorem dX5_layerAt_8 : decode cX5_layerAt 8 = .ok (.invokestatic 34, 3) := by decide +kernel
theorem dX5_layerAt_11 : decode cX5_layerAt 11 = .ok (.ifCond .eq 12, 3) := by decide +kernel
theorem dX5_layerAt_14 : decode cX5_layerAt 14 = .ok (.aload_n 0, 1) := by decide +kernel
theorem dX5_layerAt_15 : decode cX5_layerAt 15 = .ok (.getfield 11, 3) := by decide +kernel
theorem dX5_layerAt_18 : decode cX5_layerAt 18 = .ok (.iload_n 1, 1) := by decide +kernel
theorem dX5_layerAt_19 : decode cX5_layerAt 19 = .ok (.aaload, 1) := by decide +kernel
theorem dX5_layerAt_20 : decode cX5_layerAt 20 = .ok (.goto 4, 3) := by decide +kernel
theorem dX5_layerAt_23 : decode cX5_layerAt 23 = .ok (.aconst_null, 1) := by decide +kernel
theorem dX5_layerAt_24 : decode cX5_layerAt 24 = .ok (.areturn, 1) := by decide +kernel
theorem ck_X5_34 {l : Launch} {D : va_G} {cy : Nat → ClassId} {R : Room} (hR : 1 ≤ R.frames ∧ 22 ≤ R.locals) : CallOK l D cy R RX5 (.invokestatic 34) 0 0 (spS 3 SP_X11_isWithin) := call_SN (con_X11_isWithin l D cy) (List.mem_append_right _ (List.mem_append_right _ (List.mem_append_left _ (List.mem_of_getElem? (i := 126) rfl)))) (lwG_2 (i := 92) rfl rfl) (lwG_1 (i := 1) rfl rfl) (lwG_2 (i := 93) rfl rfl) ⟨by decide, by decide, rfl⟩ ⟨rfl, rfl⟩ hR
theorem fw_X5_11 : fR RX5 11 5 0 := ⟨⟨lwG_1 (i := 136) rfl rfl, by decide, by decide⟩, fun _ _ => rfl, fun r => ⟨r, rfl⟩⟩
section W_X5_layerAt
variable {p : Program} {l : Launch} {e : Env} {s : State} {m : MethodId} {args : Array Value} {below : List Frame} {meth : Method} {c : Code} {D : va_G} {cy : Nat → ClassId} {G : Nat × Nat} {n0 : Nat} {Qp : Option PV → Mm → Prop}
set_option maxRecDepth 100000 in
set_option maxHeartbeats 4000000 in
theorem k_X5_layerAt_0 {o0 : Nat} {x1 : Int} {M : Mm} {Q : Option Nat → Prop} (C : Cx p s m args meth c cX5_layerAt 2 RX5 D cy G n0) (hr : meth.sig.returnType = some (.object "LongSeats$Layer")) (h3 : n0 = 243) (hn : M.2.2.2 = n0) (ho0 : o0 < 243 ∧ (SH o0).1 = 5) (hQ : ∀ x, Q x → Qp (some (vR x)) M) (h : P_X5_layerAt o0 x1 M Q ) : WW p l e ({ frames := 1, cells := 0, slots := 0, locals := 22 }) s m args below meth c (ZQ below args s D cy G n0 Qp n0) 2 D cy G n0 0 [(0, vR (some o0)), (1, vI x1)] [] M := by
  unfold P_X5_layerAt at h
  refine w_iload_n C dX5_layerAt_0 rfl (mem_k 1 rfl) ?_
  refine w_iconst C dX5_layerAt_1 ⟨by decide, by decide⟩ ?_
  refine w_aload_n C dX5_layerAt_2 rfl (mem_k 0 rfl) ?_
  refine x_getI C dX5_layerAt_3 fw_X5_27 (isO.n (ci := 5) ⟨rfl, ho0⟩ (hn.trans h3)) ?_
  refine w_iconst C dX5_layerAt_6 ⟨by decide, by decide⟩ ?_
  refine w_isub C dX5_layerAt_7 h.1 ?_
  replace h := h.2
  refine cl_X11_isWithin (ck_X5_34 ⟨by decide, by decide⟩) C dX5_layerAt_8 hn h3 (Nat.le_of_ble_eq_true rfl) h (fun v1 h => ?_)
  refine w_if_eq (tgt := 23) C dX5_layerAt_11 (by decide) (fun q => ?_) (fun q => ?_)
  · replace h := h.1 q
    refine w_null C dX5_layerAt_23 ?_
    exact x_aret C hr (Or.inl ⟨_, rfl⟩) dX5_layerAt_24 hn (hQ _ h)
  · replace h := h.2 q
    refine w_aload_n C dX5_layerAt_14 rfl (mem_k 0 rfl) ?_
    refine x_getR C dX5_layerAt_15 fw_X5_11 (isO.n (ci := 5) ⟨rfl, ho0⟩ (hn.trans h3)) (fun r2 er2 => ?_)
    replace h := h r2 er2
    refine w_iload_n C dX5_layerAt_18 rfl (mem_k 1 rfl) ?_
    obtain ⟨o3, g4, h⟩ := h
    refine x_aald C dX5_layerAt_19 (isA.n g4 (hn.trans h3)) (by decide) (fun r5 er5 => ?_)
    replace h := h r5 er5
    refine w_goto (tgt := 24) C dX5_layerAt_20 (by decide) ?_
    exact x_aret C hr (Or.inl ⟨_, rfl⟩) dX5_layerAt_24 hn (hQ _ h)
set_option maxRecDepth 100000 in
set_option maxHeartbeats 4000000 in
theorem con_X5_layerAt (l : Launch) (D : va_G) (cy : Nat → ClassId) : Con l D cy yX5_layerAt cX5_layerAt 2 (some (.object "LongSeats$Layer")) ({ frames := 1, cells := 0, slots := 0, locals := 22 }) 0 0 SP_X5_layerAt := by
  refine con_of (by decide) (fun as M Qp h => ?_) ?_
  · obtain ⟨-, o0, x1, rfl, -⟩ := h
    exact Nat.le_of_ble_eq_true rfl
  · intro p e s m args below meth c G as M Qp h C hr hnm
    obtain ⟨hn, o0, x1, rfl, ho1, ho2, Q0, hQ, h⟩ := h
    refine x_pick (L' := [(0, vR (some o0)), (1, vI x1)]) [0, 1] rfl ?_
    exact k_X5_layerAt_0 C hr hn rfl ⟨ho1, ho2⟩ hQ h
set_option maxRecDepth 100000 in
set_option maxHeartbeats 4000000 in
theorem cl_X5_layerAt {p : Program} {l : Launch} {e : Env} {R : Room} {s : State} {m : MethodId} {args : Array Value} {below : List Frame} {meth : Method} {c : Code} {Q : State → Prop} {cc : ByteArray} {nL : Nat} {own : String} {D : va_G} {cy : Nat → ClassId} {G : Nat × Nat} {n0 pc : Nat} {L : List (Nat × PV)} {st : List PV} {M : Mm} {op : Instr} (K : CallOK l D cy R own op 0 0 (spV 5 1 SP_X5_layerAt)) (C : Cx p s m args meth c cc nL own D cy G n0) (hd : decode cc pc = .ok (op, 3)) (hn : M.2.2.2 = n0) (h3 : n0 = 243) (hlen : argN st ≤ 8) {r : Option Nat} {o0 : Nat} (ho : isOn 5 M.2.2.2 r o0) {x1 : Int} {Q0 : Option Nat → Prop} (h : P_X5_layerAt o0 x1 M Q0) (k : ∀ x, Q0 x → WW p l e R s m args below meth c Q nL D cy G n0  (pc + 3) L (vR x :: st) M) : WW p l e R s m args below meth c Q nL D cy G n0  pc L (vI x1 :: vR r :: st) M := by
  obtain ⟨rfl, ho1, ho2⟩ := ho
  refine x_call0 K C hd (as := [vR (some o0), vI x1]) rfl hn hlen (fun v M2 => ∃ x, v = some (vR x) ∧ M2 = M ∧ Q0 x) ⟨⟨o0, [vI x1], rfl, rfl, ho1, ho2⟩, hn.trans h3, o0, x1, rfl, (hn.trans h3) ▸ ho1, ho2, Q0, fun x hx => ⟨x, rfl, rfl, hx⟩, h⟩ ?_
  rintro _ _ ⟨x, rfl, rfl, hx⟩ hm
  exact k x hx
end W_X5_layerAt
theorem dX5_seatAt_0 : decode cX5_seatAt 0 = .ok (.iload_n 1, 1) := by decide +kernel
theorem dX5_seatAt_1 : decode cX5_seatAt 1 = .ok (.iconst 0, 1) := by decide +kernel
theorem dX5_seatAt_2 : decode cX5_seatAt 2 = .ok (.aload_n 0, 1) := by decide +kernel
theorem dX5_seatAt_3 : decode cX5_seatAt 3 = .ok (.getfield 31, 3) := by decide +kernel
theorem dX5_seatAt_6 : decode cX5_seatAt 6 = .ok (.iconst 1, 1) := by decide +kernel
theorem dX5_seatAt_7 : decode cX5_seatAt 7 = .ok (.isub, 1) := by decide +kernel
theorem dX5_seatAt_8 : decode cX5_seatAt 8 = .ok (.invokestatic 34, 3) := by decide +kernel
theorem dX5_seatAt_11 : decode cX5_seatAt 11 = .ok (.ifCond .eq 12, 3) := by decide +kernel
theorem dX5_seatAt_14 : decode cX5_seatAt 14 = .ok (.aload_n 0, 1) := by decide +kernel
theorem dX5_seatAt_15 : decode cX5_seatAt 15 = .ok (.getfield 19, 3) := by decide +kernel
theorem dX5_seatAt_18 : decode cX5_seatAt 18 = .ok (.iload_n 1, 1) := by decide +kernel
theorem dX5_seatAt_19 : decode cX5_seatAt 19 = .ok (.aaload, 1) := by decide +kernel
theorem dX5_seatAt_20 : decode cX5_seatAt 20 = .ok (.goto 4, 3) := by decide +kernel
theorem dX5_seatAt_23 : decode cX5_seatAt 23 = .ok (.aconst_null, 1) := by decide +kernel
theorem dX5_seatAt_24 : decode cX5_seatAt 24 = .ok (.areturn, 1) := by decide +kernel
theorem fw_X5_19 : fR RX5 19 5 2 := ⟨⟨lwG_1 (i := 139) rfl rfl, by decide, by decide⟩, fun _ _ => rfl, fun r => ⟨r, rfl⟩⟩
section W_X5_seatAt
variable {p : Program} {l : Launch} {e : Env} {s : State} {m : MethodId} {args : Array Value} {below : List Frame} {meth : Method} {c : Code} {D : va_G} {cy : Nat → ClassId} {G : Nat × Nat} {n0 : Nat} {Qp : Option PV → Mm → Prop}
set_option maxRecDepth 100000 in
set_option maxHeartbeats 4000000 in
theorem k_X5_seatAt_0 {o0 : Nat} {x1 : Int} {M : Mm} {Q : Option Nat → Prop} (C : Cx p s m args meth c cX5_seatAt 2 RX5 D cy G n0) (hr : meth.sig.returnType = some (.object "LongSeats$Seat")) (h3 : n0 = 243) (hn : M.2.2.2 = n0) (ho0 : o0 < 243 ∧ (SH o0).1 = 5) (hQ : ∀ x, Q x → Qp (some (vR x)) M) (h : P_X5_seatAt o0 x1 M Q ) : WW p l e ({ frames := 1, cells := 0, slots := 0, locals := 22 }) s m args below meth c (ZQ below args s D cy G n0 Qp n0) 2 D cy G n0 0 [(0, vR (some o0)), (1, vI x1)] [] M := by
  unfold P_X5_seatAt at h
  refine w_iload_n C dX5_seatAt_0 rfl (mem_k 1 rfl) ?_
  refine w_iconst C dX5_seatAt_1 ⟨by decide, by decide⟩ ?_
  refine w_aload_n C dX5_seatAt_2 rfl (mem_k 0 rfl) ?_
  refine x_getI C dX5_seatAt_3 fw_X5_31 (isO.n (ci := 5) ⟨rfl, ho0⟩ (hn.trans h3)) ?_
  refine w_iconst C dX5_seatAt_6 ⟨by decide, by decide⟩ ?_
  refine w_isub C dX5_seatAt_7 h.1 ?_
  replace h := h.2
  refine cl_X11_isWithin (ck_X5_34 ⟨by decide, by decide⟩) C dX5_seatAt_8 hn h3 (Nat.le_of_ble_eq_true rfl) h (fun v1 h => ?_)
  refine w_if_eq (tgt := 23) C dX5_seatAt_11 (by decide) (fun q => ?_) (fun q => ?_)
  · replace h := h.1 q
    refine w_null C dX5_seatAt_23 ?_
    exact x_aret C hr (Or.inl ⟨_, rfl⟩) dX5_seatAt_24 hn (hQ _ h)
  · replace h := h.2 q
    refine w_aload_n C dX5_seatAt_14 rfl (mem_k 0 rfl) ?_
    refine x_getR C dX5_seatAt_15 fw_X5_19 (isO.n (ci := 5) ⟨rfl, ho0⟩ (hn.trans h3)) (fun r2 er2 => ?_)
    replace h := h r2 er2
    refine w_iload_n C dX5_seatAt_18 rfl (mem_k 1 rfl) ?_
    obtain ⟨o3, g4, h⟩ := h
    refine x_aald C dX5_seatAt_19 (isA.n g4 (hn.trans h3)) (by decide) (fun r5 er5 => ?_)
    replace h := h r5 er5
    refine w_goto (tgt := 24) C dX5_seatAt_20 (by decide) ?_
    exact x_aret C hr (Or.inl ⟨_, rfl⟩) dX5_seatAt_24 hn (hQ _ h)
set_option maxRecDepth 100000 in
set_option maxHeartbeats 4000000 in
theorem con_X5_seatAt (l : Launch) (D : va_G) (cy : Nat → ClassId) : Con l D cy yX5_seatAt cX5_seatAt 2 (some (.object "LongSeats$Seat")) ({ frames := 1, cells := 0, slots := 0, locals := 22 }) 0 0 SP_X5_seatAt := by
  refine con_of (by decide) (fun as M Qp h => ?_) ?_
  · obtain ⟨-, o0, x1, rfl, -⟩ := h
    exact Nat.le_of_ble_eq_true rfl
  · intro p e s m args below meth c G as M Qp h C hr hnm
    obtain ⟨hn, o0, x1, rfl, ho1, ho2, Q0, hQ, h⟩ := h
    refine x_pick (L' := [(0, vR (some o0)), (1, vI x1)]) [0, 1] rfl ?_
    exact k_X5_seatAt_0 C hr hn rfl ⟨ho1, ho2⟩ hQ h
set_option maxRecDepth 100000 in
set_option maxHeartbeats 4000000 in
theorem cl_X5_seatAt {p : Program} {l : Launch} {e : Env} {R : Room} {s : State} {m : MethodId} {args : Array Value} {below : List Frame} {meth : Method} {c : Code} {Q : State → Prop} {cc : ByteArray} {nL : Nat} {own : String} {D : va_G} {cy : Nat → ClassId} {G : Nat × Nat} {n0 pc : Nat} {L : List (Nat × PV)} {st : List PV} {M : Mm} {op : Instr} (K : CallOK l D cy R own op 0 0 (spV 5 1 SP_X5_seatAt)) (C : Cx p s m args meth c cc nL own D cy G n0) (hd : decode cc pc = .ok (op, 3)) (hn : M.2.2.2 = n0) (h3 : n0 = 243) (hlen : argN st ≤ 8) {r : Option Nat} {o0 : Nat} (ho : isOn 5 M.2.2.2 r o0) {x1 : Int} {Q0 : Option Nat → Prop} (h : P_X5_seatAt o0 x1 M Q0) (k : ∀ x, Q0 x → WW p l e R s m args below meth c Q nL D cy G n0  (pc + 3) L (vR x :: st) M) : WW p l e R s m args below meth c Q nL D cy G n0  pc L (vI x1 :: vR r :: st) M := by
  obtain ⟨rfl, ho1, ho2⟩ := ho
  refine x_call0 K C hd (as := [vR (some o0), vI x1]) rfl hn hlen (fun v M2 => ∃ x, v = some (vR x) ∧ M2 = M ∧ Q0 x) ⟨⟨o0, [vI x1], rfl, rfl, ho1, ho2⟩, hn.trans h3, o0, x1, rfl, (hn.trans h3) ▸ ho1, ho2, Q0, fun x hx => ⟨x, rfl, rfl, hx⟩, h⟩ ?_
  rintro _ _ ⟨x, rfl, rfl, hx⟩ hm
  exact k x hx
end W_X5_seatAt
theorem dX5_takeLayer_0 : decode cX5_takeLayer 0 = .ok (.aload_n 0, 1) := by decide +kernel
theorem dX5_takeLayer_1 : decode cX5_takeLayer 1 = .ok (.getfield 27, 3) := by decide +kernel
theorem dX5_takeLayer_4 : decode cX5_takeLayer 4 = .ok (.bipush 8, 2) := by decide +kernel
theorem dX5_takeLayer_6 : decode cX5_takeLayer 6 = .ok (.if_icmp .eq 14, 3) := by decide +kernel
theorem dX5_takeLayer_9 : decode cX5_takeLayer 9 = .ok (.iload_n 2, 1) := by decide +kernel
theorem dX5_takeLayer_10 : decode cX5_takeLayer 10 = .ok (.iconst 2, 1) := by decide +kernel
theorem dX5_takeLayer_11 : decode cX5_takeLayer 11 = .ok (.if_icmp .lt 9, 3) := by decide +kernel
theorem dX5_takeLayer_14 : decode cX5_takeLayer 14 = .ok (.iload_n 2, 1) := by decide +kernel
theorem dX5_takeLayer_15 : decode cX5_takeLayer 15 = .ok (.iconst 2, 1) := by decide +kernel
theorem dX5_takeLayer_16 : decode cX5_takeLayer 16 = .ok (.irem, 1) := by decide +kernel
theorem dX5_takeLayer_17 : decode cX5_takeLayer 17 = .ok (.ifCond .eq 5, 3) := by decide +kernel
theorem dX5_takeLayer_20 : decode cX5_takeLayer 20 = .ok (.iconst 0, 1) := by decide +kernel
theorem dX5_takeLayer_21 : decode cX5_takeLayer 21 = .ok (.ireturn, 1) := by decide +kernel
theorem dX5_takeLayer_22 : decode cX5_takeLayer 22 = .ok (.iconst 0, 1) := by decide +kernel
theorem dX5_takeLayer_23 : decode cX5_takeLayer 23 = .ok (.istore_n 3, 1) := by decide +kernel
theorem dX5_takeLayer_24 : decode cX5_takeLayer 24 = .ok (.iload_n 3, 1) := by decide +kernel
theorem dX5_takeLayer_25 : decode cX5_takeLayer 25 = .ok (.iconst 1, 1) := by decide +kernel
theorem dX5_takeLayer_26 : decode cX5_takeLayer 26 = .ok (.iadd, 1) := by decide +kernel
theorem dX5_takeLayer_27 : decode cX5_takeLayer 27 = .ok (.iload_n 2, 1) := by decide +kernel
theorem dX5_takeLayer_28 : decode cX5_takeLayer 28 = .ok (.if_icmp .ge 38, 3) := by decide +kernel
theorem dX5_takeLayer_31 : decode cX5_takeLayer 31 = .ok (.aload_n 1, 1) := by decide +kernel
theorem dX5_takeLayer_32 : decode cX5_takeLayer 32 = .ok (.iload_n 3, 1) := by decide +kernel
theorem dX5_takeLayer_33 : decode cX5_takeLayer 33 = .ok (.iaload, 1) := by decide +kernel
theorem dX5_takeLayer_34 : decode cX5_takeLayer 34 = .ok (.iconst 1, 1) := by decide +kernel
theorem dX5_takeLayer_35 : decode cX5_takeLayer 35 = .ok (.bipush 100, 2) := by decide +kernel
theorem dX5_takeLayer_37 : decode cX5_takeLayer 37 = .ok (.invokestatic 34, 3) := by decide +kernel
theorem dX5_takeLayer_40 : decode cX5_takeLayer 40 = .ok (.ifCond .eq 18, 3) := by decide +kernel
theorem dX5_takeLayer_43 : decode cX5_takeLayer 43 = .ok (.aload_n 1, 1) := by decide +kernel
theorem dX5_takeLayer_44 : decode cX5_takeLayer 44 = .ok (.iload_n 3, 1) := by decide +kernel
theorem dX5_takeLayer_45 : decode cX5_takeLayer 45 = .ok (.iconst 1, 1) := by decide +kernel
theorem dX5_takeLayer_46 : decode cX5_takeLayer 46 = .ok (.iadd, 1) := by decide +kernel
theorem dX5_takeLayer_47 : decode cX5_takeLayer 47 = .ok (.iaload, 1) := by decide +kernel
theorem dX5_takeLayer_48 : decode cX5_takeLayer 48 = .ok (.iconst 1, 1) := by decide +kernel
theorem dX5_takeLayer_49 : decode cX5_takeLayer 49 = .ok (.sipush 200, 3) := by decide +kernel
theorem dX5_takeLayer_52 : decode cX5_takeLayer 52 = .ok (.invokestatic 34, 3) := by decide +kernel
theorem dX5_takeLayer_55 : decode cX5_takeLayer 55 = .ok (.ifCond .ne 5, 3) := by decide +kernel
theorem dX5_takeLayer_58 : decode cX5_takeLayer 58 = .ok (.iconst 0, 1) := by decide +kernel
theorem dX5_takeLayer_59 : decode cX5_takeLayer 59 = .ok (.ireturn, 1) := by decide +kernel
theorem dX5_takeLayer_60 : decode cX5_takeLayer 60 = .ok (.iinc 3 2, 3) := by decide +kernel
theorem dX5_takeLayer_63 : decode cX5_takeLayer 63 = .ok (.goto (-39), 3) := by decide +kernel
theorem dX5_takeLayer_66 : decode cX5_takeLayer 66 = .ok (.aload_n 0, 1) := by decide +kernel
theorem dX5_takeLayer_67 : decode cX5_takeLayer 67 = .ok (.getfield 11, 3) := by decide +kernel
theorem dX5_takeLayer_70 : decode cX5_takeLayer 70 = .ok (.aload_n 0, 1) := by decide +kernel
theorem dX5_takeLayer_71 : decode cX5_takeLayer 71 = .ok (.getfield 27, 3) := by decide +kernel
theorem dX5_takeLayer_74 : decode cX5_takeLayer 74 = .ok (.aaload, 1) := by decide +kernel
theorem dX5_takeLayer_75 : decode cX5_takeLayer 75 = .ok (.aload_n 1, 1) := by decide +kernel
theorem dX5_takeLayer_76 : decode cX5_takeLayer 76 = .ok (.iload_n 2, 1) := by decide +kernel
theorem dX5_takeLayer_77 : decode cX5_takeLayer 77 = .ok (.iconst 2, 1) := by decide +kernel
theorem dX5_takeLayer_78 : decode cX5_takeLayer 78 = .ok (.idiv, 1) := by decide +kernel
theorem dX5_takeLayer_79 : decode cX5_takeLayer 79 = .ok (.invokevirtual 62, 3) := by decide +kernel
theorem dX5_takeLayer_82 : decode cX5_takeLayer 82 = .ok (.aload_n 0, 1) := by decide +kernel
theorem dX5_takeLayer_83 : decode cX5_takeLayer 83 = .ok (.dup, 1) := by decide +kernel
theorem dX5_takeLayer_84 : decode cX5_takeLayer 84 = .ok (.getfield 27, 3) := by decide +kernel
theorem dX5_takeLayer_87 : decode cX5_takeLayer 87 = .ok (.iconst 1, 1) := by decide +kernel
theorem dX5_takeLayer_88 : decode cX5_takeLayer 88 = .ok (.iadd, 1) := by decide +kernel
theorem dX5_takeLayer_89 : decode cX5_takeLayer 89 = .ok (.putfield 27, 3) := by decide +kernel
theorem dX5_takeLayer_92 : decode cX5_takeLayer 92 = .ok (.iconst 1, 1) := by decide +kernel
theorem dX5_takeLayer_93 : decode cX5_takeLayer 93 = .ok (.ireturn, 1) := by decide +kernel
theorem ck_X5_62 {l : Launch} {D : va_G} {cy : Nat → ClassId} {R : Room} (hR : 1 ≤ R.frames ∧ 23 ≤ R.locals) : CallOK l D cy R RX5 (.invokevirtual 62) 0 0 (spV 3 2 SP_X3_begin) := call_V (ci := 3) (con_X3_begin l D cy) (lwG_2 (i := 127) rfl rfl) (lwG_2 (i := 128) rfl rfl) (lwG_2 (i := 129) rfl rfl) (lwG_1 (i := 4) rfl rfl) (lwG_2 (i := 130) rfl rfl) (by decide) ⟨rfl, by decide, by decide, rfl⟩ ⟨rfl, rfl⟩ hR
section W_X5_takeLayer
variable {p : Program} {l : Launch} {e : Env} {s : State} {m : MethodId} {args : Array Value} {below : List Frame} {meth : Method} {c : Code} {D : va_G} {cy : Nat → ClassId} {G : Nat × Nat} {n0 : Nat} {Qp : Option PV → Mm → Prop}
set_option maxRecDepth 100000 in
set_option maxHeartbeats 4000000 in
theorem f_X5_takeLayer_24 {o0 : Nat} {a1 : Option Nat} {x2 : Int} {x3 : Int} {M : Mm} {Q : Int → Mm → Prop} {K24 : Int → Prop} (C : Cx p s m args meth c cX5_takeLayer 4 RX5 D cy G n0) (hr : meth.sig.returnType = some .boolean) (h3 : n0 = 243) (hn : M.2.2.2 = n0) (ho0 : o0 < 243 ∧ (SH o0).1 = 5) (hQ : ∀ x M, Q x M → Qp (some (vI x)) M) (hK24 : ∀ (x3 : Int), K24 (x3) → WW p l e ({ frames := 1, cells := 0, slots := 0, locals := 23 }) s m args below meth c (ZQ below args s D cy G n0 Qp n0) 4 D cy G n0 24 [(0, vR (some o0)), (1, vR a1), (2, vI x2), (3, vI x3)] [] M) (h : F_X5_takeLayer_24 o0 a1 x2 M Q  K24 x3) : WW p l e ({ frames := 1, cells := 0, slots := 0, locals := 23 }) s m args below meth c (ZQ below args s D cy G n0 Qp n0) 4 D cy G n0 24 [(0, vR (some o0)), (1, vR a1), (2, vI x2), (3, vI x3)] [] M := by
  unfold F_X5_takeLayer_24 at h
  refine w_iload_n C dX5_takeLayer_24 rfl (mem_k 3 rfl) ?_
  refine w_iconst C dX5_takeLayer_25 ⟨by decide, by decide⟩ ?_
  refine w_iadd C dX5_takeLayer_26 h.1 ?_
  replace h := h.2
  refine w_iload_n C dX5_takeLayer_27 rfl (mem_k 2 rfl) ?_
  refine w_icmp_ge (tgt := 66) C dX5_takeLayer_28 (by decide) (fun q => ?_) (fun q => ?_)
  · replace h := h.1 q
    refine w_aload_n C dX5_takeLayer_66 rfl (mem_k 0 rfl) ?_
    refine x_getR C dX5_takeLayer_67 fw_X5_11 (isO.n (ci := 5) ⟨rfl, ho0⟩ (hn.trans h3)) (fun r1 er1 => ?_)
    replace h := h r1 er1
    refine w_aload_n C dX5_takeLayer_70 rfl (mem_k 0 rfl) ?_
    refine x_getI C dX5_takeLayer_71 fw_X5_27 (isO.n (ci := 5) ⟨rfl, ho0⟩ (hn.trans h3)) ?_
    obtain ⟨o2, g3, h⟩ := h
    refine x_aald C dX5_takeLayer_74 (isA.n g3 (hn.trans h3)) (by decide) (fun r4 er4 => ?_)
    replace h := h r4 er4
    refine w_aload_n C dX5_takeLayer_75 rfl (mem_k 1 rfl) ?_
    refine w_iload_n C dX5_takeLayer_76 rfl (mem_k 2 rfl) ?_
    refine w_iconst C dX5_takeLayer_77 ⟨by decide, by decide⟩ ?_
    refine x_idiv C dX5_takeLayer_78 (by decide) ?_
    obtain ⟨o5, g6, h⟩ := h
    refine cl_X3_begin (ck_X5_62 ⟨by decide, by decide⟩) C dX5_takeLayer_79 hn h3 (Nat.le_of_ble_eq_true rfl) (isO.n g6 (hn.trans h3)) h (fun M7 h hn8 => ?_)
    refine w_aload_n C dX5_takeLayer_82 rfl (mem_k 0 rfl) ?_
    refine w_dup C dX5_takeLayer_83 rfl ?_
    refine x_getI C dX5_takeLayer_84 fw_X5_27 (isO.n (ci := 5) ⟨rfl, ho0⟩ (hn8.trans h3)) ?_
    refine w_iconst C dX5_takeLayer_87 ⟨by decide, by decide⟩ ?_
    refine w_iadd C dX5_takeLayer_88 h.1 ?_
    replace h := h.2
    refine x_putI C dX5_takeLayer_89 fw_X5_27 (isO.n (ci := 5) ⟨rfl, ho0⟩ (hn8.trans h3)) (Or.inl rfl) (fun M9 eM9 hn10 => ?_)
    replace h := h M9 eM9
    replace hn10 := hn10.trans hn8
    refine w_iconst C dX5_takeLayer_92 ⟨by decide, by decide⟩ ?_
    exact x_zret C hr dX5_takeLayer_93 hn10 (by decide) (hQ _ M9 h)
  · replace h := h.2 q
    refine w_aload_n C dX5_takeLayer_31 rfl (mem_k 1 rfl) ?_
    refine w_iload_n C dX5_takeLayer_32 rfl (mem_k 3 rfl) ?_
    obtain ⟨o11, g12, h⟩ := h
    refine x_iald C dX5_takeLayer_33 (isA.n g12 (hn.trans h3)) ?_
    refine w_iconst C dX5_takeLayer_34 ⟨by decide, by decide⟩ ?_
    refine w_bipush C dX5_takeLayer_35 (by decide) ?_
    refine cl_X11_isWithin (ck_X5_34 ⟨by decide, by decide⟩) C dX5_takeLayer_37 hn h3 (Nat.le_of_ble_eq_true rfl) h (fun v13 h => ?_)
    refine w_if_eq (tgt := 58) C dX5_takeLayer_40 (by decide) (fun q => ?_) (fun q => ?_)
    · replace h := h.1 q
      refine w_iconst C dX5_takeLayer_58 ⟨by decide, by decide⟩ ?_
      exact x_zret C hr dX5_takeLayer_59 hn (by decide) (hQ _ M h)
    · replace h := h.2 q
      refine w_aload_n C dX5_takeLayer_43 rfl (mem_k 1 rfl) ?_
      refine w_iload_n C dX5_takeLayer_44 rfl (mem_k 3 rfl) ?_
      refine w_iconst C dX5_takeLayer_45 ⟨by decide, by decide⟩ ?_
      refine w_iadd C dX5_takeLayer_46 h.1 ?_
      replace h := h.2
      obtain ⟨o14, g15, h⟩ := h
      refine x_iald C dX5_takeLayer_47 (isA.n g15 (hn.trans h3)) ?_
      refine w_iconst C dX5_takeLayer_48 ⟨by decide, by decide⟩ ?_
      refine w_sipush C dX5_takeLayer_49 (by decide) ?_
      refine cl_X11_isWithin (ck_X5_34 ⟨by decide, by decide⟩) C dX5_takeLayer_52 hn h3 (Nat.le_of_ble_eq_true rfl) h (fun v16 h => ?_)
      refine w_if_ne (tgt := 60) C dX5_takeLayer_55 (by decide) (fun q => ?_) (fun q => ?_)
      · replace h := h.1 q
        obtain ⟨v17, ev17⟩ : ∃ z : Int, z = x3 + 2 := ⟨_, rfl⟩
        refine x_iinc (L' := [(3, vI v17), (0, vR (some o0)), (1, vR a1), (2, vI x2)]) C dX5_takeLayer_60 (mem_k 3 rfl) (by decide) h.1 ev17 rfl ?_
        replace h := h.2 v17 ev17
        refine w_goto (tgt := 24) C dX5_takeLayer_63 (by decide) ?_
        refine x_pc (pc2 := 24) rfl ?_
        refine x_pick (L' := [(0, vR (some o0)), (1, vR a1), (2, vI x2), (3, vI v17)]) [1, 2, 3, 0] rfl ?_
        exact hK24 v17 h
      · replace h := h.2 q
        refine w_iconst C dX5_takeLayer_58 ⟨by decide, by decide⟩ ?_
        exact x_zret C hr dX5_takeLayer_59 hn (by decide) (hQ _ M h)
set_option maxRecDepth 100000 in
set_option maxHeartbeats 4000000 in
theorem k_X5_takeLayer_24 {o0 : Nat} {a1 : Option Nat} {x2 : Int} {x3 : Int} {M : Mm} {Q : Int → Mm → Prop} (C : Cx p s m args meth c cX5_takeLayer 4 RX5 D cy G n0) (hr : meth.sig.returnType = some .boolean) (h3 : n0 = 243) (hn : M.2.2.2 = n0) (ho0 : o0 < 243 ∧ (SH o0).1 = 5) (hQ : ∀ x M, Q x M → Qp (some (vI x)) M) (h : P_X5_takeLayer_24 o0 a1 x2 x3 M Q ) : WW p l e ({ frames := 1, cells := 0, slots := 0, locals := 23 }) s m args below meth c (ZQ below args s D cy G n0 Qp n0) 4 D cy G n0 24 [(0, vR (some o0)), (1, vR a1), (2, vI x2), (3, vI x3)] [] M := by
  refine lpW_sound (P := fun y : Int => WW p l e ({ frames := 1, cells := 0, slots := 0, locals := 23 }) s m args below meth c (ZQ below args s D cy G n0 Qp n0) 4 D cy G n0 24 [(0, vR (some o0)), (1, vR a1), (2, vI x2), (3, vI y)] [] M) ?_ h
  intro K y hK hF
  exact f_X5_takeLayer_24 C hr h3 hn ho0 hQ  (fun x3 hk => hK x3 hk) hF
set_option maxRecDepth 100000 in
set_option maxHeartbeats 4000000 in
theorem k_X5_takeLayer_0 {o0 : Nat} {a1 : Option Nat} {x2 : Int} {M : Mm} {Q : Int → Mm → Prop} (C : Cx p s m args meth c cX5_takeLayer 4 RX5 D cy G n0) (hr : meth.sig.returnType = some .boolean) (h3 : n0 = 243) (hn : M.2.2.2 = n0) (ho0 : o0 < 243 ∧ (SH o0).1 = 5) (hQ : ∀ x M, Q x M → Qp (some (vI x)) M) (h : P_X5_takeLayer o0 a1 x2 M Q ) : WW p l e ({ frames := 1, cells := 0, slots := 0, locals := 23 }) s m args below meth c (ZQ below args s D cy G n0 Qp n0) 4 D cy G n0 0 [(0, vR (some o0)), (1, vR a1), (2, vI x2)] [] M := by
  unfold P_X5_takeLayer at h
  refine w_aload_n C dX5_takeLayer_0 rfl (mem_k 0 rfl) ?_
  refine x_getI C dX5_takeLayer_1 fw_X5_27 (isO.n (ci := 5) ⟨rfl, ho0⟩ (hn.trans h3)) ?_
  refine w_bipush C dX5_takeLayer_4 (by decide) ?_
  refine w_icmp_eq (tgt := 20) C dX5_takeLayer_6 (by decide) (fun q => ?_) (fun q => ?_)
  · replace h := h.1 q
    refine w_iconst C dX5_takeLayer_20 ⟨by decide, by decide⟩ ?_
    exact x_zret C hr dX5_takeLayer_21 hn (by decide) (hQ _ M h)
  · replace h := h.2 q
    refine w_iload_n C dX5_takeLayer_9 rfl (mem_k 2 rfl) ?_
    refine w_iconst C dX5_takeLayer_10 ⟨by decide, by decide⟩ ?_
    refine w_icmp_lt (tgt := 20) C dX5_takeLayer_11 (by decide) (fun q => ?_) (fun q => ?_)
    · replace h := h.1 q
      refine w_iconst C dX5_takeLayer_20 ⟨by decide, by decide⟩ ?_
      exact x_zret C hr dX5_takeLayer_21 hn (by decide) (hQ _ M h)
    · replace h := h.2 q
      refine w_iload_n C dX5_takeLayer_14 rfl (mem_k 2 rfl) ?_
      refine w_iconst C dX5_takeLayer_15 ⟨by decide, by decide⟩ ?_
      refine x_irem C dX5_takeLayer_16 (by decide) ?_
      refine w_if_eq (tgt := 22) C dX5_takeLayer_17 (by decide) (fun q => ?_) (fun q => ?_)
      · replace h := h.1 q
        refine w_iconst C dX5_takeLayer_22 ⟨by decide, by decide⟩ ?_
        refine x_istore_n (L' := [(3, vI 0), (0, vR (some o0)), (1, vR a1), (2, vI x2)]) C dX5_takeLayer_23 rfl (by decide) rfl ?_
        refine x_pc (pc2 := 24) rfl ?_
        refine x_pick (L' := [(0, vR (some o0)), (1, vR a1), (2, vI x2), (3, vI 0)]) [1, 2, 3, 0] rfl ?_
        exact k_X5_takeLayer_24 C hr h3 hn ho0 hQ  h
      · replace h := h.2 q
        refine w_iconst C dX5_takeLayer_20 ⟨by decide, by decide⟩ ?_
        exact x_zret C hr dX5_takeLayer_21 hn (by decide) (hQ _ M h)
set_option maxRecDepth 100000 in
set_option maxHeartbeats 4000000 in
theorem con_X5_takeLayer (l : Launch) (D : va_G) (cy : Nat → ClassId) : Con l D cy yX5_takeLayer cX5_takeLayer 4 (some .boolean) ({ frames := 1, cells := 0, slots := 0, locals := 23 }) 0 0 SP_X5_takeLayer := by
  refine con_of (by decide) (fun as M Qp h => ?_) ?_
  · obtain ⟨-, o0, a1, x2, rfl, -⟩ := h
    exact Nat.le_of_ble_eq_true rfl
  · intro p e s m args below meth c G as M Qp h C hr hnm
    obtain ⟨hn, o0, a1, x2, rfl, ho1, ho2, Q0, hQ, h⟩ := h
    refine x_pick (L' := [(0, vR (some o0)), (1, vR a1), (2, vI x2)]) [0, 1, 2] rfl ?_
    exact k_X5_takeLayer_0 C hr hn rfl ⟨ho1, ho2⟩ hQ h
set_option maxRecDepth 100000 in
set_option maxHeartbeats 4000000 in
theorem cl_X5_takeLayer {p : Program} {l : Launch} {e : Env} {R : Room} {s : State} {m : MethodId} {args : Array Value} {below : List Frame} {meth : Method} {c : Code} {Q : State → Prop} {cc : ByteArray} {nL : Nat} {own : String} {D : va_G} {cy : Nat → ClassId} {G : Nat × Nat} {n0 pc : Nat} {L : List (Nat × PV)} {st : List PV} {M : Mm} {op : Instr} (K : CallOK l D cy R own op 0 0 (spV 5 2 SP_X5_takeLayer)) (C : Cx p s m args meth c cc nL own D cy G n0) (hd : decode cc pc = .ok (op, 3)) (hn : M.2.2.2 = n0) (h3 : n0 = 243) (hlen : argN st ≤ 8) {r : Option Nat} {o0 : Nat} (ho : isOn 5 M.2.2.2 r o0) {a1 : Option Nat} {x2 : Int} {Q0 : Int → Mm → Prop} (h : P_X5_takeLayer o0 a1 x2 M Q0) (k : ∀ x M2, Q0 x M2 → M2.2.2.2 = n0 → WW p l e R s m args below meth c Q nL D cy G n0  (pc + 3) L (vI x :: st) M2) : WW p l e R s m args below meth c Q nL D cy G n0  pc L (vI x2 :: vR a1 :: vR r :: st) M := by
  obtain ⟨rfl, ho1, ho2⟩ := ho
  refine x_call0 K C hd (as := [vR (some o0), vR a1, vI x2]) rfl hn hlen (fun v M2 => ∃ x, v = some (vI x) ∧ Q0 x M2) ⟨⟨o0, [vR a1, vI x2], rfl, rfl, ho1, ho2⟩, hn.trans h3, o0, a1, x2, rfl, (hn.trans h3) ▸ ho1, ho2, Q0, fun x M2 hx => ⟨x, rfl, hx⟩, h⟩ ?_
  rintro _ _ ⟨x, rfl, hx⟩ hm
  exact k x _ hx hm
end W_X5_takeLayer
theorem dX5_takeLets_0 : decode cX5_takeLets 0 = .ok (.aload_n 1, 1) := by decide +kernel
theorem dX5_takeLets_1 : decode cX5_takeLets 1 = .ok (.ifnonnull 5, 3) := by decide +kernel
theorem dX5_takeLets_4 : decode cX5_takeLets 4 = .ok (.iconst 0, 1) := by decide +kernel
theorem dX5_takeLets_5 : decode cX5_takeLets 5 = .ok (.ireturn, 1) := by decide +kernel
theorem dX5_takeLets_6 : decode cX5_takeLets 6 = .ok (.iconst 0, 1) := by decide +kernel
theorem dX5_takeLets_7 : decode cX5_takeLets 7 = .ok (.istore_n 3, 1) := by decide +kernel
theorem dX5_takeLets_8 : decode cX5_takeLets 8 = .ok (.iload_n 3, 1) := by decide +kernel
theorem dX5_takeLets_9 : decode cX5_takeLets 9 = .ok (.iconst 4, 1) := by decide +kernel
theorem dX5_takeLets_10 : decode cX5_takeLets 10 = .ok (.if_icmp .ge 26, 3) := by decide +kernel
theorem dX5_takeLets_13 : decode cX5_takeLets 13 = .ok (.aload_n 2, 1) := by decide +kernel
theorem dX5_takeLets_14 : decode cX5_takeLets 14 = .ok (.iconst 1, 1) := by decide +kernel
theorem dX5_takeLets_15 : decode cX5_takeLets 15 = .ok (.iload_n 3, 1) := by decide +kernel
theorem dX5_takeLets_16 : decode cX5_takeLets 16 = .ok (.iadd, 1) := by decide +kernel
theorem dX5_takeLets_17 : decode cX5_takeLets 17 = .ok (.iaload, 1) := by decide +kernel
theorem dX5_takeLets_18 : decode cX5_takeLets 18 = .ok (.iconst 0, 1) := by decide +kernel
theorem dX5_takeLets_19 : decode cX5_takeLets 19 = .ok (.sipush 300, 3) := by decide +kernel
theorem dX5_takeLets_22 : decode cX5_takeLets 22 = .ok (.invokestatic 34, 3) := by decide +kernel
theorem dX5_takeLets_25 : decode cX5_takeLets 25 = .ok (.ifCond .ne 5, 3) := by decide +kernel
theorem dX5_takeLets_28 : decode cX5_takeLets 28 = .ok (.iconst 0, 1) := by decide +kernel
theorem dX5_takeLets_29 : decode cX5_takeLets 29 = .ok (.ireturn, 1) := by decide +kernel
theorem dX5_takeLets_30 : decode cX5_takeLets 30 = .ok (.iinc 3 1, 3) := by decide +kernel
theorem dX5_takeLets_33 : decode cX5_takeLets 33 = .ok (.goto (-25), 3) := by decide +kernel
theorem dX5_takeLets_36 : decode cX5_takeLets 36 = .ok (.iconst 0, 1) := by decide +kernel
theorem dX5_takeLets_37 : decode cX5_takeLets 37 = .ok (.istore_n 3, 1) := by decide +kernel
theorem dX5_takeLets_38 : decode cX5_takeLets 38 = .ok (.iload_n 3, 1) := by decide +kernel
theorem dX5_takeLets_39 : decode cX5_takeLets 39 = .ok (.iconst 4, 1) := by decide +kernel
theorem dX5_takeLets_40 : decode cX5_takeLets 40 = .ok (.if_icmp .ge 20, 3) := by decide +kernel
theorem dX5_takeLets_43 : decode cX5_takeLets 43 = .ok (.aload_n 1, 1) := by decide +kernel
theorem dX5_takeLets_44 : decode cX5_takeLets 44 = .ok (.getfield 66, 3) := by decide +kernel
theorem dX5_takeLets_47 : decode cX5_takeLets 47 = .ok (.iload_n 3, 1) := by decide +kernel
theorem dX5_takeLets_48 : decode cX5_takeLets 48 = .ok (.aload_n 2, 1) := by decide +kernel
theorem dX5_takeLets_49 : decode cX5_takeLets 49 = .ok (.iconst 1, 1) := by decide +kernel
theorem dX5_takeLets_50 : decode cX5_takeLets 50 = .ok (.iload_n 3, 1) := by decide +kernel
theorem dX5_takeLets_51 : decode cX5_takeLets 51 = .ok (.iadd, 1) := by decide +kernel
theorem dX5_takeLets_52 : decode cX5_takeLets 52 = .ok (.iaload, 1) := by decide +kernel
theorem dX5_takeLets_53 : decode cX5_takeLets 53 = .ok (.iastore, 1) := by decide +kernel
theorem dX5_takeLets_54 : decode cX5_takeLets 54 = .ok (.iinc 3 1, 3) := by decide +kernel
theorem dX5_takeLets_57 : decode cX5_takeLets 57 = .ok (.goto (-19), 3) := by decide +kernel
theorem dX5_takeLets_60 : decode cX5_takeLets 60 = .ok (.iconst 1, 1) := by decide +kernel
theorem dX5_takeLets_61 : decode cX5_takeLets 61 = .ok (.ireturn, 1) := by decide +kernel
theorem fw_X5_66 : fR RX5 66 3 3 := ⟨⟨lwG_1 (i := 66) rfl rfl, by decide, by decide⟩, fun _ _ => rfl, fun r => ⟨r, rfl⟩⟩
section W_X5_takeLets
variable {p : Program} {l : Launch} {e : Env} {s : State} {m : MethodId} {args : Array Value} {below : List Frame} {meth : Method} {c : Code} {D : va_G} {cy : Nat → ClassId} {G : Nat × Nat} {n0 : Nat} {Qp : Option PV → Mm → Prop}
set_option maxRecDepth 100000 in
set_option maxHeartbeats 4000000 in
theorem f_X5_takeLets_38 {a1 : Option Nat} {a2 : Option Nat} {x3 : Int} {M : Mm} {Q : Int → Mm → Prop} {o0 : Nat} {K38 : Int × Mm → Prop} (C : Cx p s m args meth c cX5_takeLets 4 RX5 D cy G n0) (hr : meth.sig.returnType = some .boolean) (h3 : n0 = 243) (hn : M.2.2.2 = n0) (ho0 : o0 < 243 ∧ (SH o0).1 = 5) (hQ : ∀ x M, Q x M → Qp (some (vI x)) M) (hK38 : ∀ (x3 : Int) (M : Mm), K38 (x3, M) → M.2.2.2 = n0 → WW p l e ({ frames := 1, cells := 0, slots := 0, locals := 22 }) s m args below meth c (ZQ below args s D cy G n0 Qp n0) 4 D cy G n0 38 [(1, vR a1), (2, vR a2), (3, vI x3)] [] M) (h : F_X5_takeLets_38 a1 a2 Q  K38 x3 M) : WW p l e ({ frames := 1, cells := 0, slots := 0, locals := 22 }) s m args below meth c (ZQ below args s D cy G n0 Qp n0) 4 D cy G n0 38 [(1, vR a1), (2, vR a2), (3, vI x3)] [] M := by
  unfold F_X5_takeLets_38 at h
  refine w_iload_n C dX5_takeLets_38 rfl (mem_k 2 rfl) ?_
  refine w_iconst C dX5_takeLets_39 ⟨by decide, by decide⟩ ?_
  refine w_icmp_ge (tgt := 60) C dX5_takeLets_40 (by decide) (fun q => ?_) (fun q => ?_)
  · replace h := h.1 q
    refine w_iconst C dX5_takeLets_60 ⟨by decide, by decide⟩ ?_
    exact x_zret C hr dX5_takeLets_61 hn (by decide) (hQ _ M h)
  · replace h := h.2 q
    refine w_aload_n C dX5_takeLets_43 rfl (mem_k 0 rfl) ?_
    obtain ⟨o1, g2, h⟩ := h
    refine x_getR C dX5_takeLets_44 fw_X5_66 (isO.n g2 (hn.trans h3)) (fun r3 er3 => ?_)
    replace h := h r3 er3
    refine w_iload_n C dX5_takeLets_47 rfl (mem_k 2 rfl) ?_
    refine w_aload_n C dX5_takeLets_48 rfl (mem_k 1 rfl) ?_
    refine w_iconst C dX5_takeLets_49 ⟨by decide, by decide⟩ ?_
    refine w_iload_n C dX5_takeLets_50 rfl (mem_k 2 rfl) ?_
    refine w_iadd C dX5_takeLets_51 h.1 ?_
    replace h := h.2
    obtain ⟨o4, g5, h⟩ := h
    refine x_iald C dX5_takeLets_52 (isA.n g5 (hn.trans h3)) ?_
    obtain ⟨o6, g7, h⟩ := h
    refine x_iast C dX5_takeLets_53 (isA.n g7 (hn.trans h3)) (fun M8 eM8 hn9 => ?_)
    replace h := h M8 eM8
    replace hn9 := hn9.trans hn
    obtain ⟨v10, ev10⟩ : ∃ z : Int, z = x3 + 1 := ⟨_, rfl⟩
    refine x_iinc (L' := [(3, vI v10), (1, vR a1), (2, vR a2)]) C dX5_takeLets_54 (mem_k 2 rfl) (by decide) h.1 ev10 rfl ?_
    replace h := h.2 v10 ev10
    refine w_goto (tgt := 38) C dX5_takeLets_57 (by decide) ?_
    refine x_pc (pc2 := 38) rfl ?_
    refine x_pick (L' := [(1, vR a1), (2, vR a2), (3, vI v10)]) [1, 2, 0] rfl ?_
    exact hK38 v10 M8 h hn9
set_option maxRecDepth 100000 in
set_option maxHeartbeats 4000000 in
theorem k_X5_takeLets_38 {a1 : Option Nat} {a2 : Option Nat} {x3 : Int} {M : Mm} {Q : Int → Mm → Prop} {o0 : Nat} (C : Cx p s m args meth c cX5_takeLets 4 RX5 D cy G n0) (hr : meth.sig.returnType = some .boolean) (h3 : n0 = 243) (hn : M.2.2.2 = n0) (ho0 : o0 < 243 ∧ (SH o0).1 = 5) (hQ : ∀ x M, Q x M → Qp (some (vI x)) M) (h : P_X5_takeLets_38 a1 a2 x3 M Q ) : WW p l e ({ frames := 1, cells := 0, slots := 0, locals := 22 }) s m args below meth c (ZQ below args s D cy G n0 Qp n0) 4 D cy G n0 38 [(1, vR a1), (2, vR a2), (3, vI x3)] [] M := by
  refine lpW_sound (P := fun y : Int × Mm => y.2.2.2.2 = n0 → WW p l e ({ frames := 1, cells := 0, slots := 0, locals := 22 }) s m args below meth c (ZQ below args s D cy G n0 Qp n0) 4 D cy G n0 38 [(1, vR a1), (2, vR a2), (3, vI y.1)] [] y.2) ?_ h hn
  intro K y hK hF
  obtain ⟨x3, M⟩ := y
  intro hn
  exact f_X5_takeLets_38 C hr h3 hn ho0 hQ  (fun x3 M hk => hK (x3, M) hk) hF
set_option maxRecDepth 100000 in
set_option maxHeartbeats 4000000 in
theorem f_X5_takeLets_8 {a1 : Option Nat} {a2 : Option Nat} {x3 : Int} {M : Mm} {Q : Int → Mm → Prop} {o0 : Nat} {K8 : Int → Prop} (C : Cx p s m args meth c cX5_takeLets 4 RX5 D cy G n0) (hr : meth.sig.returnType = some .boolean) (h3 : n0 = 243) (hn : M.2.2.2 = n0) (ho0 : o0 < 243 ∧ (SH o0).1 = 5) (hQ : ∀ x M, Q x M → Qp (some (vI x)) M) (hK8 : ∀ (x3 : Int), K8 (x3) → WW p l e ({ frames := 1, cells := 0, slots := 0, locals := 22 }) s m args below meth c (ZQ below args s D cy G n0 Qp n0) 4 D cy G n0 8 [(1, vR a1), (2, vR a2), (3, vI x3)] [] M) (h : F_X5_takeLets_8 a1 a2 M Q  K8 x3) : WW p l e ({ frames := 1, cells := 0, slots := 0, locals := 22 }) s m args below meth c (ZQ below args s D cy G n0 Qp n0) 4 D cy G n0 8 [(1, vR a1), (2, vR a2), (3, vI x3)] [] M := by
  unfold F_X5_takeLets_8 at h
  refine w_iload_n C dX5_takeLets_8 rfl (mem_k 2 rfl) ?_
  refine w_iconst C dX5_takeLets_9 ⟨by decide, by decide⟩ ?_
  refine w_icmp_ge (tgt := 36) C dX5_takeLets_10 (by decide) (fun q => ?_) (fun q => ?_)
  · replace h := h.1 q
    refine w_iconst C dX5_takeLets_36 ⟨by decide, by decide⟩ ?_
    refine x_istore_n (L' := [(3, vI 0), (1, vR a1), (2, vR a2)]) C dX5_takeLets_37 rfl (by decide) rfl ?_
    refine x_pc (pc2 := 38) rfl ?_
    refine x_pick (L' := [(1, vR a1), (2, vR a2), (3, vI 0)]) [1, 2, 0] rfl ?_
    exact k_X5_takeLets_38 C hr h3 hn ho0 hQ  h
  · replace h := h.2 q
    refine w_aload_n C dX5_takeLets_13 rfl (mem_k 1 rfl) ?_
    refine w_iconst C dX5_takeLets_14 ⟨by decide, by decide⟩ ?_
    refine w_iload_n C dX5_takeLets_15 rfl (mem_k 2 rfl) ?_
    refine w_iadd C dX5_takeLets_16 h.1 ?_
    replace h := h.2
    obtain ⟨o11, g12, h⟩ := h
    refine x_iald C dX5_takeLets_17 (isA.n g12 (hn.trans h3)) ?_
    refine w_iconst C dX5_takeLets_18 ⟨by decide, by decide⟩ ?_
    refine w_sipush C dX5_takeLets_19 (by decide) ?_
    refine cl_X11_isWithin (ck_X5_34 ⟨by decide, by decide⟩) C dX5_takeLets_22 hn h3 (Nat.le_of_ble_eq_true rfl) h (fun v13 h => ?_)
    refine w_if_ne (tgt := 30) C dX5_takeLets_25 (by decide) (fun q => ?_) (fun q => ?_)
    · replace h := h.1 q
      obtain ⟨v14, ev14⟩ : ∃ z : Int, z = x3 + 1 := ⟨_, rfl⟩
      refine x_iinc (L' := [(3, vI v14), (1, vR a1), (2, vR a2)]) C dX5_takeLets_30 (mem_k 2 rfl) (by decide) h.1 ev14 rfl ?_
      replace h := h.2 v14 ev14
      refine w_goto (tgt := 8) C dX5_takeLets_33 (by decide) ?_
      refine x_pc (pc2 := 8) rfl ?_
      refine x_pick (L' := [(1, vR a1), (2, vR a2), (3, vI v14)]) [1, 2, 0] rfl ?_
      exact hK8 v14 h
    · replace h := h.2 q
      refine w_iconst C dX5_takeLets_28 ⟨by decide, by decide⟩ ?_
      exact x_zret C hr dX5_takeLets_29 hn (by decide) (hQ _ M h)
set_option maxRecDepth 100000 in
set_option maxHeartbeats 4000000 in
theorem k_X5_takeLets_8 {a1 : Option Nat} {a2 : Option Nat} {x3 : Int} {M : Mm} {Q : Int → Mm → Prop} {o0 : Nat} (C : Cx p s m args meth c cX5_takeLets 4 RX5 D cy G n0) (hr : meth.sig.returnType = some .boolean) (h3 : n0 = 243) (hn : M.2.2.2 = n0) (ho0 : o0 < 243 ∧ (SH o0).1 = 5) (hQ : ∀ x M, Q x M → Qp (some (vI x)) M) (h : P_X5_takeLets_8 a1 a2 x3 M Q ) : WW p l e ({ frames := 1, cells := 0, slots := 0, locals := 22 }) s m args below meth c (ZQ below args s D cy G n0 Qp n0) 4 D cy G n0 8 [(1, vR a1), (2, vR a2), (3, vI x3)] [] M := by
  refine lpW_sound (P := fun y : Int => WW p l e ({ frames := 1, cells := 0, slots := 0, locals := 22 }) s m args below meth c (ZQ below args s D cy G n0 Qp n0) 4 D cy G n0 8 [(1, vR a1), (2, vR a2), (3, vI y)] [] M) ?_ h
  intro K y hK hF
  exact f_X5_takeLets_8 C hr h3 hn ho0 hQ  (fun x3 hk => hK x3 hk) hF
set_option maxRecDepth 100000 in
set_option maxHeartbeats 4000000 in
theorem k_X5_takeLets_0 {o0 : Nat} {a1 : Option Nat} {a2 : Option Nat} {M : Mm} {Q : Int → Mm → Prop} (C : Cx p s m args meth c cX5_takeLets 4 RX5 D cy G n0) (hr : meth.sig.returnType = some .boolean) (h3 : n0 = 243) (hn : M.2.2.2 = n0) (ho0 : o0 < 243 ∧ (SH o0).1 = 5) (hQ : ∀ x M, Q x M → Qp (some (vI x)) M) (h : P_X5_takeLets o0 a1 a2 M Q ) : WW p l e ({ frames := 1, cells := 0, slots := 0, locals := 22 }) s m args below meth c (ZQ below args s D cy G n0 Qp n0) 4 D cy G n0 0 [(0, vR (some o0)), (1, vR a1), (2, vR a2)] [] M := by
  unfold P_X5_takeLets at h
  refine w_aload_n C dX5_takeLets_0 rfl (mem_k 1 rfl) ?_
  refine w_ifnonnull (tgt := 6) C dX5_takeLets_1 (by decide) (fun z15 q => ?_) (fun q => ?_)
  · replace h := h.1 z15 q
    refine w_iconst C dX5_takeLets_6 ⟨by decide, by decide⟩ ?_
    refine x_istore_n (L' := [(3, vI 0), (0, vR (some o0)), (1, vR a1), (2, vR a2)]) C dX5_takeLets_7 rfl (by decide) rfl ?_
    refine x_pc (pc2 := 8) rfl ?_
    refine x_pick (L' := [(1, vR a1), (2, vR a2), (3, vI 0)]) [2, 3, 0] rfl ?_
    exact k_X5_takeLets_8 C hr h3 hn ho0 hQ  h
  · replace h := h.2 q
    refine w_iconst C dX5_takeLets_4 ⟨by decide, by decide⟩ ?_
    exact x_zret C hr dX5_takeLets_5 hn (by decide) (hQ _ M h)
set_option maxRecDepth 100000 in
set_option maxHeartbeats 4000000 in
theorem con_X5_takeLets (l : Launch) (D : va_G) (cy : Nat → ClassId) : Con l D cy yX5_takeLets cX5_takeLets 4 (some .boolean) ({ frames := 1, cells := 0, slots := 0, locals := 22 }) 0 0 SP_X5_takeLets := by
  refine con_of (by decide) (fun as M Qp h => ?_) ?_
  · obtain ⟨-, o0, a1, a2, rfl, -⟩ := h
    exact Nat.le_of_ble_eq_true rfl
  · intro p e s m args below meth c G as M Qp h C hr hnm
    obtain ⟨hn, o0, a1, a2, rfl, ho1, ho2, Q0, hQ, h⟩ := h
    refine x_pick (L' := [(0, vR (some o0)), (1, vR a1), (2, vR a2)]) [0, 1, 2] rfl ?_
    exact k_X5_takeLets_0 C hr hn rfl ⟨ho1, ho2⟩ hQ h
set_option maxRecDepth 100000 in
set_option maxHeartbeats 4000000 in
theorem cl_X5_takeLets {p : Program} {l : Launch} {e : Env} {R : Room} {s : State} {m : MethodId} {args : Array Value} {below : List Frame} {meth : Method} {c : Code} {Q : State → Prop} {cc : ByteArray} {nL : Nat} {own : String} {D : va_G} {cy : Nat → ClassId} {G : Nat × Nat} {n0 pc : Nat} {L : List (Nat × PV)} {st : List PV} {M : Mm} {op : Instr} (K : CallOK l D cy R own op 0 0 (spV 5 2 SP_X5_takeLets)) (C : Cx p s m args meth c cc nL own D cy G n0) (hd : decode cc pc = .ok (op, 3)) (hn : M.2.2.2 = n0) (h3 : n0 = 243) (hlen : argN st ≤ 8) {r : Option Nat} {o0 : Nat} (ho : isOn 5 M.2.2.2 r o0) {a1 : Option Nat} {a2 : Option Nat} {Q0 : Int → Mm → Prop} (h : P_X5_takeLets o0 a1 a2 M Q0) (k : ∀ x M2, Q0 x M2 → M2.2.2.2 = n0 → WW p l e R s m args below meth c Q nL D cy G n0  (pc + 3) L (vI x :: st) M2) : WW p l e R s m args below meth c Q nL D cy G n0  pc L (vR a2 :: vR a1 :: vR r :: st) M := by
  obtain ⟨rfl, ho1, ho2⟩ := ho
  refine x_call0 K C hd (as := [vR (some o0), vR a1, vR a2]) rfl hn hlen (fun v M2 => ∃ x, v = some (vI x) ∧ Q0 x M2) ⟨⟨o0, [vR a1, vR a2], rfl, rfl, ho1, ho2⟩, hn.trans h3, o0, a1, a2, rfl, (hn.trans h3) ▸ ho1, ho2, Q0, fun x M2 hx => ⟨x, rfl, hx⟩, h⟩ ?_
  rintro _ _ ⟨x, rfl, hx⟩ hm
  exact k x _ hx hm
end W_X5_takeLets
theorem dX8_begin_0 : decode cX8_begin 0 = .ok (.aload_n 1, 1) := by decide +kernel
theorem dX8_begin_1 : decode cX8_begin 1 = .ok (.arraylength, 1) := by decide +kernel
theorem dX8_begin_2 : decode cX8_begin 2 = .ok (.iconst 4, 1) := by decide +kernel
theorem dX8_begin_3 : decode cX8_begin 3 = .ok (.if_icmp .ge 4, 3) := by decide +kernel
theorem dX8_begin_6 : decode cX8_begin 6 = .ok (.return_, 1) := by decide +kernel
theorem dX8_begin_7 : decode cX8_begin 7 = .ok (.aload_n 0, 1) := by decide +kernel
theorem dX8_begin_8 : decode cX8_begin 8 = .ok (.aload_n 1, 1) := by decide +kernel
theorem dX8_begin_9 : decode cX8_begin 9 = .ok (.iconst 0, 1) := by decide +kernel
theorem dX8_begin_10 : decode cX8_begin 10 = .ok (.iaload, 1) := by decide +kernel
theorem dX8_begin_11 : decode cX8_begin 11 = .ok (.putfield 20, 3) := by decide +kernel
theorem dX8_begin_14 : decode cX8_begin 14 = .ok (.aload_n 0, 1) := by decide +kernel
theorem dX8_begin_15 : decode cX8_begin 15 = .ok (.aload_n 1, 1) := by decide +kernel
theorem dX8_begin_16 : decode cX8_begin 16 = .ok (.iconst 1, 1) := by decide +kernel
theorem dX8_begin_17 : decode cX8_begin 17 = .ok (.iaload, 1) := by decide +kernel
theorem dX8_begin_18 : decode cX8_begin 18 = .ok (.putfield 24, 3) := by decide +kernel
theorem dX8_begin_21 : decode cX8_begin 21 = .ok (.aload_n 0, 1) := by decide +kernel
theorem dX8_begin_22 : decode cX8_begin 22 = .ok (.aload_n 1, 1) := by decide +kernel
theorem dX8_begin_23 : decode cX8_begin 23 = .ok (.iconst 2, 1) := by decide +kernel
theorem dX8_begin_24 : decode cX8_begin 24 = .ok (.iaload, 1) := by decide +kernel
theorem dX8_begin_25 : decode cX8_begin 25 = .ok (.putfield 27, 3) := by decide +kernel
theorem dX8_begin_28 : decode cX8_begin 28 = .ok (.aload_n 0, 1) := by decide +kernel
theorem dX8_begin_29 : decode cX8_begin 29 = .ok (.aload_n 1, 1) := by decide +kernel
theorem dX8_begin_30 : decode cX8_begin 30 = .ok (.iconst 3, 1) := by decide +kernel
theorem dX8_begin_31 : decode cX8_begin 31 = .ok (.iaload, 1) := by decide +kernel
theorem dX8_begin_32 : decode cX8_begin 32 = .ok (.putfield 30, 3) := by decide +kernel
theorem dX8_begin_35 : decode cX8_begin 35 = .ok (.aload_n 0, 1) := by decide +kernel
theorem dX8_begin_36 : decode cX8_begin 36 = .ok (.iconst 0, 1) := by decide +kernel
theorem dX8_begin_37 : decode cX8_begin 37 = .ok (.putfield 33, 3) := by decide +kernel
theorem dX8_begin_40 : decode cX8_begin 40 = .ok (.aload_n 0, 1) := by decide +kernel
theorem dX8_begin_41 : decode cX8_begin 41 = .ok (.iconst 0, 1) := by decide +kernel
theorem dX8_begin_42 : decode cX8_begin 42 = .ok (.putfield 36, 3) := by decide +kernel
theorem dX8_begin_45 : decode cX8_begin 45 = .ok (.return_, 1) := by decide +kernel
theorem fw_X8_27 : fI RX8 27 8 2 := ⟨⟨lwG_1 (i := 110) rfl rfl, by decide, by decide⟩, rfl⟩
theorem fw_X8_30 : fI RX8 30 8 3 := ⟨⟨lwG_1 (i := 112) rfl rfl, by decide, by decide⟩, rfl⟩
theorem fw_X8_33 : fI RX8 33 8 4 := ⟨⟨lwG_1 (i := 114) rfl rfl, by decide, by decide⟩, rfl⟩
theorem fw_X8_36 : fI RX8 36 8 6 := ⟨⟨lwG_1 (i := 119) rfl rfl, by decide, by decide⟩, rfl⟩
section W_X8_begin
variable {p : Program} {l : Launch} {e : Env} {s : State} {m : MethodId} {args : Array Value} {below : List Frame} {meth : Method} {c : Code} {D : va_G} {cy : Nat → ClassId} {G : Nat × Nat} {n0 : Nat} {Qp : Option PV → Mm → Prop}
set_option maxRecDepth 100000 in
set_option maxHeartbeats 4000000 in
theorem k_X8_begin_0 {o0 : Nat} {a1 : Option Nat} {M : Mm} {Q : Mm → Prop} (C : Cx p s m args meth c cX8_begin 2 RX8 D cy G n0) (hr : meth.sig.returnType = none) (h3 : n0 = 243) (hn : M.2.2.2 = n0) (ho0 : o0 < 243 ∧ (SH o0).1 = 8) (hQ : ∀ M, Q M → Qp none M) (h : P_X8_begin o0 a1 M Q ) : WW p l e ({ frames := 0, cells := 0, slots := 0, locals := 0 }) s m args below meth c (ZQ below args s D cy G n0 Qp n0) 2 D cy G n0 0 [(0, vR (some o0)), (1, vR a1)] [] M := by
  unfold P_X8_begin at h
  refine w_aload_n C dX8_begin_0 rfl (mem_k 1 rfl) ?_
  obtain ⟨o1, g2, h⟩ := h
  refine x_alen C dX8_begin_1 (isO.n g2 (hn.trans h3)) (Nat.le_of_eq (hn.trans h3)) ?_
  refine w_iconst C dX8_begin_2 ⟨by decide, by decide⟩ ?_
  refine w_icmp_ge (tgt := 7) C dX8_begin_3 (by decide) (fun q => ?_) (fun q => ?_)
  · replace h := h.1 q
    refine w_aload_n C dX8_begin_7 rfl (mem_k 0 rfl) ?_
    refine w_aload_n C dX8_begin_8 rfl (mem_k 1 rfl) ?_
    refine w_iconst C dX8_begin_9 ⟨by decide, by decide⟩ ?_
    obtain ⟨o3, g4, h⟩ := h
    refine x_iald C dX8_begin_10 (isA.n g4 (hn.trans h3)) ?_
    refine x_putI C dX8_begin_11 fw_X8_20 (isO.n (ci := 8) ⟨rfl, ho0⟩ (hn.trans h3)) (Or.inl rfl) (fun M5 eM5 hn6 => ?_)
    replace h := h M5 eM5
    replace hn6 := hn6.trans hn
    refine w_aload_n C dX8_begin_14 rfl (mem_k 0 rfl) ?_
    refine w_aload_n C dX8_begin_15 rfl (mem_k 1 rfl) ?_
    refine w_iconst C dX8_begin_16 ⟨by decide, by decide⟩ ?_
    obtain ⟨o7, g8, h⟩ := h
    refine x_iald C dX8_begin_17 (isA.n g8 (hn6.trans h3)) ?_
    refine x_putI C dX8_begin_18 fw_X8_24 (isO.n (ci := 8) ⟨rfl, ho0⟩ (hn6.trans h3)) (Or.inl rfl) (fun M9 eM9 hn10 => ?_)
    replace h := h M9 eM9
    replace hn10 := hn10.trans hn6
    refine w_aload_n C dX8_begin_21 rfl (mem_k 0 rfl) ?_
    refine w_aload_n C dX8_begin_22 rfl (mem_k 1 rfl) ?_
    refine w_iconst C dX8_begin_23 ⟨by decide, by decide⟩ ?_
    obtain ⟨o11, g12, h⟩ := h
    refine x_iald C dX8_begin_24 (isA.n g12 (hn10.trans h3)) ?_
    refine x_putI C dX8_begin_25 fw_X8_27 (isO.n (ci := 8) ⟨rfl, ho0⟩ (hn10.trans h3)) (Or.inl rfl) (fun M13 eM13 hn14 => ?_)
    replace h := h M13 eM13
    replace hn14 := hn14.trans hn10
    refine w_aload_n C dX8_begin_28 rfl (mem_k 0 rfl) ?_
    refine w_aload_n C dX8_begin_29 rfl (mem_k 1 rfl) ?_
    refine w_iconst C dX8_begin_30 ⟨by decide, by decide⟩ ?_
    obtain ⟨o15, g16, h⟩ := h
    refine x_iald C dX8_begin_31 (isA.n g16 (hn14.trans h3)) ?_
    refine x_putI C dX8_begin_32 fw_X8_30 (isO.n (ci := 8) ⟨rfl, ho0⟩ (hn14.trans h3)) (Or.inl rfl) (fun M17 eM17 hn18 => ?_)
    replace h := h M17 eM17
    replace hn18 := hn18.trans hn14
    refine w_aload_n C dX8_begin_35 rfl (mem_k 0 rfl) ?_
    refine w_iconst C dX8_begin_36 ⟨by decide, by decide⟩ ?_
    refine x_putI C dX8_begin_37 fw_X8_33 (isO.n (ci := 8) ⟨rfl, ho0⟩ (hn18.trans h3)) (Or.inl rfl) (fun M19 eM19 hn20 => ?_)
    replace h := h M19 eM19
    replace hn20 := hn20.trans hn18
    refine w_aload_n C dX8_begin_40 rfl (mem_k 0 rfl) ?_
    refine w_iconst C dX8_begin_41 ⟨by decide, by decide⟩ ?_
    refine x_putI C dX8_begin_42 fw_X8_36 (isO.n (ci := 8) ⟨rfl, ho0⟩ (hn20.trans h3)) (Or.inl rfl) (fun M21 eM21 hn22 => ?_)
    replace h := h M21 eM21
    replace hn22 := hn22.trans hn20
    exact x_vret C hr dX8_begin_45 hn22 (hQ M21 h)
  · replace h := h.2 q
    exact x_vret C hr dX8_begin_6 hn (hQ M h)
set_option maxRecDepth 100000 in
set_option maxHeartbeats 4000000 in
theorem con_X8_begin (l : Launch) (D : va_G) (cy : Nat → ClassId) : Con l D cy yX8_begin cX8_begin 2 (none) ({ frames := 0, cells := 0, slots := 0, locals := 0 }) 0 0 SP_X8_begin := by
  refine con_of (by decide) (fun as M Qp h => ?_) ?_
  · obtain ⟨-, o0, a1, rfl, -⟩ := h
    exact Nat.le_of_ble_eq_true rfl
  · intro p e s m args below meth c G as M Qp h C hr hnm
    obtain ⟨hn, o0, a1, rfl, ho1, ho2, Q0, hQ, h⟩ := h
    refine x_pick (L' := [(0, vR (some o0)), (1, vR a1)]) [0, 1] rfl ?_
    exact k_X8_begin_0 C hr hn rfl ⟨ho1, ho2⟩ hQ h
set_option maxRecDepth 100000 in
set_option maxHeartbeats 4000000 in
theorem cl_X8_begin {p : Program} {l : Launch} {e : Env} {R : Room} {s : State} {m : MethodId} {args : Array Value} {below : List Frame} {meth : Method} {c : Code} {Q : State → Prop} {cc : ByteArray} {nL : Nat} {own : String} {D : va_G} {cy : Nat → ClassId} {G : Nat × Nat} {n0 pc : Nat} {L : List (Nat × PV)} {st : List PV} {M : Mm} {op : Instr} (K : CallOK l D cy R own op 0 0 (spV 8 1 SP_X8_begin)) (C : Cx p s m args meth c cc nL own D cy G n0) (hd : decode cc pc = .ok (op, 3)) (hn : M.2.2.2 = n0) (h3 : n0 = 243) (hlen : argN st ≤ 8) {r : Option Nat} {o0 : Nat} (ho : isOn 8 M.2.2.2 r o0) {a1 : Option Nat} {Q0 : Mm → Prop} (h : P_X8_begin o0 a1 M Q0) (k : ∀ M2, Q0 M2 → M2.2.2.2 = n0 → WW p l e R s m args below meth c Q nL D cy G n0  (pc + 3) L (st) M2) : WW p l e R s m args below meth c Q nL D cy G n0  pc L (vR a1 :: vR r :: st) M := by
  obtain ⟨rfl, ho1, ho2⟩ := ho
  refine x_call0 K C hd (as := [vR (some o0), vR a1]) rfl hn hlen (fun v M2 => v = none ∧ Q0 M2) ⟨⟨o0, [vR a1], rfl, rfl, ho1, ho2⟩, hn.trans h3, o0, a1, rfl, (hn.trans h3) ▸ ho1, ho2, Q0, fun M2 hx => ⟨rfl, hx⟩, h⟩ ?_
  rintro _ _ ⟨rfl, hx⟩ hm
  exact k _ hx hm
end W_X8_begin
theorem dX5_takeSeat_0 : decode cX5_takeSeat 0 = .ok (.aload_n 0, 1) := by decide +kernel
theorem dX5_takeSeat_1 : decode cX5_takeSeat 1 = .ok (.getfield 31, 3) := by decide +kernel
theorem dX5_takeSeat_4 : decode cX5_takeSeat 4 = .ok (.bipush 6, 2) := by decide +kernel
theorem dX5_takeSeat_6 : decode cX5_takeSeat 6 = .ok (.if_icmp .eq 62, 3) := by decide +kernel
theorem dX5_takeSeat_9 : decode cX5_takeSeat 9 = .ok (.aload_n 1, 1) := by decide +kernel
theorem dX5_takeSeat_10 : decode cX5_takeSeat 10 = .ok (.iconst 0, 1) := by decide +kernel
theorem dX5_takeSeat_11 : decode cX5_takeSeat 11 = .ok (.iaload, 1) := by decide +kernel
theorem dX5_takeSeat_12 : decode cX5_takeSeat 12 = .ok (.bipush 100, 2) := by decide +kernel
theorem dX5_takeSeat_14 : decode cX5_takeSeat 14 = .ok (.sipush 600, 3) := by decide +kernel
theorem dX5_takeSeat_17 : decode cX5_takeSeat 17 = .ok (.invokestatic 34, 3) := by decide +kernel
theorem dX5_takeSeat_20 : decode cX5_takeSeat 20 = .ok (.ifCond .eq 48, 3) := by decide +kernel
theorem dX5_takeSeat_23 : decode cX5_takeSeat 23 = .ok (.aload_n 1, 1) := by decide +kernel
theorem dX5_takeSeat_24 : decode cX5_takeSeat 24 = .ok (.iconst 1, 1) := by decide +kernel
theorem dX5_takeSeat_25 : decode cX5_takeSeat 25 = .ok (.iaload, 1) := by decide +kernel
theorem dX5_takeSeat_26 : decode cX5_takeSeat 26 = .ok (.sipush 300, 3) := by decide +kernel
theorem dX5_takeSeat_29 : decode cX5_takeSeat 29 = .ok (.sipush 900, 3) := by decide +kernel
theorem dX5_takeSeat_32 : decode cX5_takeSeat 32 = .ok (.invokestatic 34, 3) := by decide +kernel
theorem dX5_takeSeat_35 : decode cX5_takeSeat 35 = .ok (.ifCond .eq 33, 3) := by decide +kernel
theorem dX5_takeSeat_38 : decode cX5_takeSeat 38 = .ok (.aload_n 1, 1) := by decide +kernel
theorem dX5_takeSeat_39 : decode cX5_takeSeat 39 = .ok (.iconst 2, 1) := by decide +kernel
theorem dX5_takeSeat_40 : decode cX5_takeSeat 40 = .ok (.iaload, 1) := by decide +kernel
theorem dX5_takeSeat_41 : decode cX5_takeSeat 41 = .ok (.sipush 600, 3) := by decide +kernel
theorem dX5_takeSeat_44 : decode cX5_takeSeat 44 = .ok (.sipush 1600, 3) := by decide +kernel
theorem dX5_takeSeat_47 : decode cX5_takeSeat 47 = .ok (.invokestatic 34, 3) := by decide +kernel
theorem dX5_takeSeat_50 : decode cX5_takeSeat 50 = .ok (.ifCond .eq 18, 3) := by decide +kernel
theorem dX5_takeSeat_53 : decode cX5_takeSeat 53 = .ok (.aload_n 1, 1) := by decide +kernel
theorem dX5_takeSeat_54 : decode cX5_takeSeat 54 = .ok (.iconst 3, 1) := by decide +kernel
theorem dX5_takeSeat_55 : decode cX5_takeSeat 55 = .ok (.iaload, 1) := by decide +kernel
theorem dX5_takeSeat_56 : decode cX5_takeSeat 56 = .ok (.sipush 200, 3) := by decide +kernel
theorem dX5_takeSeat_59 : decode cX5_takeSeat 59 = .ok (.sipush 700, 3) := by decide +kernel
theorem dX5_takeSeat_62 : decode cX5_takeSeat 62 = .ok (.invokestatic 34, 3) := by decide +kernel
theorem dX5_takeSeat_65 : decode cX5_takeSeat 65 = .ok (.ifCond .ne 5, 3) := by decide +kernel
theorem dX5_takeSeat_68 : decode cX5_takeSeat 68 = .ok (.iconst 0, 1) := by decide +kernel
theorem dX5_takeSeat_69 : decode cX5_takeSeat 69 = .ok (.ireturn, 1) := by decide +kernel
theorem dX5_takeSeat_70 : decode cX5_takeSeat 70 = .ok (.aload_n 0, 1) := by decide +kernel
theorem dX5_takeSeat_71 : decode cX5_takeSeat 71 = .ok (.getfield 19, 3) := by decide +kernel
theorem dX5_takeSeat_74 : decode cX5_takeSeat 74 = .ok (.aload_n 0, 1) := by decide +kernel
theorem dX5_takeSeat_75 : decode cX5_takeSeat 75 = .ok (.getfield 31, 3) := by decide +kernel
theorem dX5_takeSeat_78 : decode cX5_takeSeat 78 = .ok (.aaload, 1) := by decide +kernel
theorem dX5_takeSeat_79 : decode cX5_takeSeat 79 = .ok (.aload_n 1, 1) := by decide +kernel
theorem dX5_takeSeat_80 : decode cX5_takeSeat 80 = .ok (.invokevirtual 70, 3) := by decide +kernel
theorem dX5_takeSeat_83 : decode cX5_takeSeat 83 = .ok (.aload_n 0, 1) := by decide +kernel
theorem dX5_takeSeat_84 : decode cX5_takeSeat 84 = .ok (.dup, 1) := by decide +kernel
theorem dX5_takeSeat_85 : decode cX5_takeSeat 85 = .ok (.getfield 31, 3) := by decide +kernel
theorem dX5_takeSeat_88 : decode cX5_takeSeat 88 = .ok (.iconst 1, 1) := by decide +kernel
theorem dX5_takeSeat_89 : decode cX5_takeSeat 89 = .ok (.iadd, 1) := by decide +kernel
theorem dX5_takeSeat_90 : decode cX5_takeSeat 90 = .ok (.putfield 31, 3) := by decide +kernel
theorem dX5_takeSeat_93 : decode cX5_takeSeat 93 = .ok (.iconst 1, 1) := by decide +kernel
theorem dX5_takeSeat_94 : decode cX5_takeSeat 94 = .ok (.ireturn, 1) := by decide +kernel
theorem ck_X5_70 {l : Launch} {D : va_G} {cy : Nat → ClassId} {R : Room} (hR : 1 ≤ R.frames ∧ 21 ≤ R.locals) : CallOK l D cy R RX5 (.invokevirtual 70) 0 0 (spV 8 1 SP_X8_begin) := call_V (ci := 8) (con_X8_begin l D cy) (lwG_2 (i := 143) rfl rfl) (lwG_2 (i := 144) rfl rfl) (lwG_2 (i := 145) rfl rfl) (lwG_1 (i := 5) rfl rfl) (lwG_2 (i := 146) rfl rfl) (by decide) ⟨rfl, by decide, by decide, rfl⟩ ⟨rfl, rfl⟩ hR
section W_X5_takeSeat
variable {p : Program} {l : Launch} {e : Env} {s : State} {m : MethodId} {args : Array Value} {below : List Frame} {meth : Method} {c : Code} {D : va_G} {cy : Nat → ClassId} {G : Nat × Nat} {n0 : Nat} {Qp : Option PV → Mm → Prop}
set_option maxRecDepth 100000 in
set_option maxHeartbeats 4000000 in
theorem k_X5_takeSeat_0 {o0 : Nat} {a1 : Option Nat} {M : Mm} {Q : Int → Mm → Prop} (C : Cx p s m args meth c cX5_takeSeat 2 RX5 D cy G n0) (hr : meth.sig.returnType = some .boolean) (h3 : n0 = 243) (hn : M.2.2.2 = n0) (ho0 : o0 < 243 ∧ (SH o0).1 = 5) (hQ : ∀ x M, Q x M → Qp (some (vI x)) M) (h : P_X5_takeSeat o0 a1 M Q ) : WW p l e ({ frames := 1, cells := 0, slots := 0, locals := 22 }) s m args below meth c (ZQ below args s D cy G n0 Qp n0) 2 D cy G n0 0 [(0, vR (some o0)), (1, vR a1)] [] M := by
  unfold P_X5_takeSeat at h
  refine w_aload_n C dX5_takeSeat_0 rfl (mem_k 0 rfl) ?_
  refine x_getI C dX5_takeSeat_1 fw_X5_31 (isO.n (ci := 5) ⟨rfl, ho0⟩ (hn.trans h3)) ?_
  refine w_bipush C dX5_takeSeat_4 (by decide) ?_
  refine w_icmp_eq (tgt := 68) C dX5_takeSeat_6 (by decide) (fun q => ?_) (fun q => ?_)
  · replace h := h.1 q
    refine w_iconst C dX5_takeSeat_68 ⟨by decide, by decide⟩ ?_
    exact x_zret C hr dX5_takeSeat_69 hn (by decide) (hQ _ M h)
  · replace h := h.2 q
    refine w_aload_n C dX5_takeSeat_9 rfl (mem_k 1 rfl) ?_
    refine w_iconst C dX5_takeSeat_10 ⟨by decide, by decide⟩ ?_
    obtain ⟨o1, g2, h⟩ := h
    refine x_iald C dX5_takeSeat_11 (isA.n g2 (hn.trans h3)) ?_
    refine w_bipush C dX5_takeSeat_12 (by decide) ?_
    refine w_sipush C dX5_takeSeat_14 (by decide) ?_
    refine cl_X11_isWithin (ck_X5_34 ⟨by decide, by decide⟩) C dX5_takeSeat_17 hn h3 (Nat.le_of_ble_eq_true rfl) h (fun v3 h => ?_)
    refine w_if_eq (tgt := 68) C dX5_takeSeat_20 (by decide) (fun q => ?_) (fun q => ?_)
    · replace h := h.1 q
      refine w_iconst C dX5_takeSeat_68 ⟨by decide, by decide⟩ ?_
      exact x_zret C hr dX5_takeSeat_69 hn (by decide) (hQ _ M h)
    · replace h := h.2 q
      refine w_aload_n C dX5_takeSeat_23 rfl (mem_k 1 rfl) ?_
      refine w_iconst C dX5_takeSeat_24 ⟨by decide, by decide⟩ ?_
      obtain ⟨o4, g5, h⟩ := h
      refine x_iald C dX5_takeSeat_25 (isA.n g5 (hn.trans h3)) ?_
      refine w_sipush C dX5_takeSeat_26 (by decide) ?_
      refine w_sipush C dX5_takeSeat_29 (by decide) ?_
      refine cl_X11_isWithin (ck_X5_34 ⟨by decide, by decide⟩) C dX5_takeSeat_32 hn h3 (Nat.le_of_ble_eq_true rfl) h (fun v6 h => ?_)
      refine w_if_eq (tgt := 68) C dX5_takeSeat_35 (by decide) (fun q => ?_) (fun q => ?_)
      · replace h := h.1 q
        refine w_iconst C dX5_takeSeat_68 ⟨by decide, by decide⟩ ?_
        exact x_zret C hr dX5_takeSeat_69 hn (by decide) (hQ _ M h)
      · replace h := h.2 q
        refine w_aload_n C dX5_takeSeat_38 rfl (mem_k 1 rfl) ?_
        refine w_iconst C dX5_takeSeat_39 ⟨by decide, by decide⟩ ?_
        obtain ⟨o7, g8, h⟩ := h
        refine x_iald C dX5_takeSeat_40 (isA.n g8 (hn.trans h3)) ?_
        refine w_sipush C dX5_takeSeat_41 (by decide) ?_
        refine w_sipush C dX5_takeSeat_44 (by decide) ?_
        refine cl_X11_isWithin (ck_X5_34 ⟨by decide, by decide⟩) C dX5_takeSeat_47 hn h3 (Nat.le_of_ble_eq_true rfl) h (fun v9 h => ?_)
        refine w_if_eq (tgt := 68) C dX5_takeSeat_50 (by decide) (fun q => ?_) (fun q => ?_)
        · replace h := h.1 q
          refine w_iconst C dX5_takeSeat_68 ⟨by decide, by decide⟩ ?_
          exact x_zret C hr dX5_takeSeat_69 hn (by decide) (hQ _ M h)
        · replace h := h.2 q
          refine w_aload_n C dX5_takeSeat_53 rfl (mem_k 1 rfl) ?_
          refine w_iconst C dX5_takeSeat_54 ⟨by decide, by decide⟩ ?_
          obtain ⟨o10, g11, h⟩ := h
          refine x_iald C dX5_takeSeat_55 (isA.n g11 (hn.trans h3)) ?_
          refine w_sipush C dX5_takeSeat_56 (by decide) ?_
          refine w_sipush C dX5_takeSeat_59 (by decide) ?_
          refine cl_X11_isWithin (ck_X5_34 ⟨by decide, by decide⟩) C dX5_takeSeat_62 hn h3 (Nat.le_of_ble_eq_true rfl) h (fun v12 h => ?_)
          refine w_if_ne (tgt := 70) C dX5_takeSeat_65 (by decide) (fun q => ?_) (fun q => ?_)
          · replace h := h.1 q
            refine w_aload_n C dX5_takeSeat_70 rfl (mem_k 0 rfl) ?_
            refine x_getR C dX5_takeSeat_71 fw_X5_19 (isO.n (ci := 5) ⟨rfl, ho0⟩ (hn.trans h3)) (fun r13 er13 => ?_)
            replace h := h r13 er13
            refine w_aload_n C dX5_takeSeat_74 rfl (mem_k 0 rfl) ?_
            refine x_getI C dX5_takeSeat_75 fw_X5_31 (isO.n (ci := 5) ⟨rfl, ho0⟩ (hn.trans h3)) ?_
            obtain ⟨o14, g15, h⟩ := h
            refine x_aald C dX5_takeSeat_78 (isA.n g15 (hn.trans h3)) (by decide) (fun r16 er16 => ?_)
            replace h := h r16 er16
            refine w_aload_n C dX5_takeSeat_79 rfl (mem_k 1 rfl) ?_
            obtain ⟨o17, g18, h⟩ := h
            refine cl_X8_begin (ck_X5_70 ⟨by decide, by decide⟩) C dX5_takeSeat_80 hn h3 (Nat.le_of_ble_eq_true rfl) (isO.n g18 (hn.trans h3)) h (fun M19 h hn20 => ?_)
            refine w_aload_n C dX5_takeSeat_83 rfl (mem_k 0 rfl) ?_
            refine w_dup C dX5_takeSeat_84 rfl ?_
            refine x_getI C dX5_takeSeat_85 fw_X5_31 (isO.n (ci := 5) ⟨rfl, ho0⟩ (hn20.trans h3)) ?_
            refine w_iconst C dX5_takeSeat_88 ⟨by decide, by decide⟩ ?_
            refine w_iadd C dX5_takeSeat_89 h.1 ?_
            replace h := h.2
            refine x_putI C dX5_takeSeat_90 fw_X5_31 (isO.n (ci := 5) ⟨rfl, ho0⟩ (hn20.trans h3)) (Or.inl rfl) (fun M21 eM21 hn22 => ?_)
            replace h := h M21 eM21
            replace hn22 := hn22.trans hn20
            refine w_iconst C dX5_takeSeat_93 ⟨by decide, by decide⟩ ?_
            exact x_zret C hr dX5_takeSeat_94 hn22 (by decide) (hQ _ M21 h)
          · replace h := h.2 q
            refine w_iconst C dX5_takeSeat_68 ⟨by decide, by decide⟩ ?_
            exact x_zret C hr dX5_takeSeat_69 hn (by decide) (hQ _ M h)
set_option maxRecDepth 100000 in
set_option maxHeartbeats 4000000 in
theorem con_X5_takeSeat (l : Launch) (D : va_G) (cy : Nat → ClassId) : Con l D cy yX5_takeSeat cX5_takeSeat 2 (some .boolean) ({ frames := 1, cells := 0, slots := 0, locals := 22 }) 0 0 SP_X5_takeSeat := by
  refine con_of (by decide) (fun as M Qp h => ?_) ?_
  · obtain ⟨-, o0, a1, rfl, -⟩ := h
    exact Nat.le_of_ble_eq_true rfl
  · intro p e s m args below meth c G as M Qp h C hr hnm
    obtain ⟨hn, o0, a1, rfl, ho1, ho2, Q0, hQ, h⟩ := h
    refine x_pick (L' := [(0, vR (some o0)), (1, vR a1)]) [0, 1] rfl ?_
    exact k_X5_takeSeat_0 C hr hn rfl ⟨ho1, ho2⟩ hQ h
set_option maxRecDepth 100000 in
set_option maxHeartbeats 4000000 in
theorem cl_X5_takeSeat {p : Program} {l : Launch} {e : Env} {R : Room} {s : State} {m : MethodId} {args : Array Value} {below : List Frame} {meth : Method} {c : Code} {Q : State → Prop} {cc : ByteArray} {nL : Nat} {own : String} {D : va_G} {cy : Nat → ClassId} {G : Nat × Nat} {n0 pc : Nat} {L : List (Nat × PV)} {st : List PV} {M : Mm} {op : Instr} (K : CallOK l D cy R own op 0 0 (spV 5 1 SP_X5_takeSeat)) (C : Cx p s m args meth c cc nL own D cy G n0) (hd : decode cc pc = .ok (op, 3)) (hn : M.2.2.2 = n0) (h3 : n0 = 243) (hlen : argN st ≤ 8) {r : Option Nat} {o0 : Nat} (ho : isOn 5 M.2.2.2 r o0) {a1 : Option Nat} {Q0 : Int → Mm → Prop} (h : P_X5_takeSeat o0 a1 M Q0) (k : ∀ x M2, Q0 x M2 → M2.2.2.2 = n0 → WW p l e R s m args below meth c Q nL D cy G n0  (pc + 3) L (vI x :: st) M2) : WW p l e R s m args below meth c Q nL D cy G n0  pc L (vR a1 :: vR r :: st) M := by
  obtain ⟨rfl, ho1, ho2⟩ := ho
  refine x_call0 K C hd (as := [vR (some o0), vR a1]) rfl hn hlen (fun v M2 => ∃ x, v = some (vI x) ∧ Q0 x M2) ⟨⟨o0, [vR a1], rfl, rfl, ho1, ho2⟩, hn.trans h3, o0, a1, rfl, (hn.trans h3) ▸ ho1, ho2, Q0, fun x M2 hx => ⟨x, rfl, hx⟩, h⟩ ?_
  rintro _ _ ⟨x, rfl, hx⟩ hm
  exact k x _ hx hm
end W_X5_takeSeat
theorem dX8_addPatch_0 : decode cX8_addPatch 0 = .ok (.aload_n 0, 1) := by decide +kernel
theorem dX8_addPatch_1 : decode cX8_addPatch 1 = .ok (.getfield 36, 3) := by decide +kernel
theorem dX8_addPatch_4 : decode cX8_addPatch 4 = .ok (.bipush 6, 2) := by decide +kernel
theorem dX8_addPatch_6 : decode cX8_addPatch 6 = .ok (.if_icmp .ne 5, 3) := by decide +kernel
theorem dX8_addPatch_9 : decode cX8_addPatch 9 = .ok (.iconst 0, 1) := by decide +kernel
theorem dX8_addPatch_10 : decode cX8_addPatch 10 = .ok (.ireturn, 1) := by decide +kernel
theorem dX8_addPatch_11 : decode cX8_addPatch 11 = .ok (.aload_n 0, 1) := by decide +kernel
theorem dX8_addPatch_12 : decode cX8_addPatch 12 = .ok (.getfield 11, 3) := by decide +kernel
theorem dX8_addPatch_15 : decode cX8_addPatch 15 = .ok (.aload_n 0, 1) := by decide +kernel
theorem dX8_addPatch_16 : decode cX8_addPatch 16 = .ok (.getfield 36, 3) := by decide +kernel
theorem dX8_addPatch_19 : decode cX8_addPatch 19 = .ok (.aaload, 1) := by decide +kernel
theorem dX8_addPatch_20 : decode cX8_addPatch 20 = .ok (.astore 4, 2) := by decide +kernel
theorem dX8_addPatch_22 : decode cX8_addPatch 22 = .ok (.aload 4, 2) := by decide +kernel
theorem dX8_addPatch_24 : decode cX8_addPatch 24 = .ok (.aload_n 1, 1) := by decide +kernel
theorem dX8_addPatch_25 : decode cX8_addPatch 25 = .ok (.putfield 39, 3) := by decide +kernel
theorem dX8_addPatch_28 : decode cX8_addPatch 28 = .ok (.aload 4, 2) := by decide +kernel
theorem dX8_addPatch_30 : decode cX8_addPatch 30 = .ok (.iload_n 2, 1) := by decide +kernel
theorem dX8_addPatch_31 : decode cX8_addPatch 31 = .ok (.putfield 43, 3) := by decide +kernel
theorem dX8_addPatch_34 : decode cX8_addPatch 34 = .ok (.aload 4, 2) := by decide +kernel
theorem dX8_addPatch_36 : decode cX8_addPatch 36 = .ok (.iload_n 3, 1) := by decide +kernel
theorem dX8_addPatch_37 : decode cX8_addPatch 37 = .ok (.putfield 46, 3) := by decide +kernel
theorem dX8_addPatch_40 : decode cX8_addPatch 40 = .ok (.aload 4, 2) := by decide +kernel
theorem dX8_addPatch_42 : decode cX8_addPatch 42 = .ok (.iconst 0, 1) := by decide +kernel
theorem dX8_addPatch_43 : decode cX8_addPatch 43 = .ok (.putfield 49, 3) := by decide +kernel
theorem dX8_addPatch_46 : decode cX8_addPatch 46 = .ok (.aload_n 0, 1) := by decide +kernel
theorem dX8_addPatch_47 : decode cX8_addPatch 47 = .ok (.dup, 1) := by decide +kernel
theorem dX8_addPatch_48 : decode cX8_addPatch 48 = .ok (.getfield 36, 3) := by decide +kernel
theorem dX8_addPatch_51 : decode cX8_addPatch 51 = .ok (.iconst 1, 1) := by decide +kernel
theorem dX8_addPatch_52 : decode cX8_addPatch 52 = .ok (.iadd, 1) := by decide +kernel
theorem dX8_addPatch_53 : decode cX8_addPatch 53 = .ok (.putfield 36, 3) := by decide +kernel
theorem dX8_addPatch_56 : decode cX8_addPatch 56 = .ok (.iconst 1, 1) := by decide +kernel
theorem dX8_addPatch_57 : decode cX8_addPatch 57 = .ok (.ireturn, 1) := by decide +kernel
theorem fw_X8_11 : fR RX8 11 8 5 := ⟨⟨lwG_1 (i := 116) rfl rfl, by decide, by decide⟩, fun _ _ => rfl, fun r => ⟨r, rfl⟩⟩
theorem fw_X8_39 : fR RX8 39 4 0 := ⟨⟨lwG_1 (i := 89) rfl rfl, by decide, by decide⟩, fun _ _ => rfl, fun r => ⟨r, rfl⟩⟩
theorem fw_X8_43 : fI RX8 43 4 1 := ⟨⟨lwG_1 (i := 91) rfl rfl, by decide, by decide⟩, rfl⟩
theorem fw_X8_46 : fI RX8 46 4 2 := ⟨⟨lwG_1 (i := 94) rfl rfl, by decide, by decide⟩, rfl⟩
theorem fw_X8_49 : fI RX8 49 4 3 := ⟨⟨lwG_1 (i := 97) rfl rfl, by decide, by decide⟩, rfl⟩
section W_X8_addPatch
variable {p : Program} {l : Launch} {e : Env} {s : State} {m : MethodId} {args : Array Value} {below : List Frame} {meth : Method} {c : Code} {D : va_G} {cy : Nat → ClassId} {G : Nat × Nat} {n0 : Nat} {Qp : Option PV → Mm → Prop}
set_option maxRecDepth 100000 in
set_option maxHeartbeats 4000000 in
theorem k_X8_addPatch_0 {o0 : Nat} {a1 : Option Nat} {x2 : Int} {x3 : Int} {M : Mm} {Q : Int → Mm → Prop} (C : Cx p s m args meth c cX8_addPatch 5 RX8 D cy G n0) (hr : meth.sig.returnType = some .boolean) (h3 : n0 = 243) (hn : M.2.2.2 = n0) (ho0 : o0 < 243 ∧ (SH o0).1 = 8) (hQ : ∀ x M, Q x M → Qp (some (vI x)) M) (h : P_X8_addPatch o0 a1 x2 x3 M Q ) : WW p l e ({ frames := 0, cells := 0, slots := 0, locals := 0 }) s m args below meth c (ZQ below args s D cy G n0 Qp n0) 5 D cy G n0 0 [(0, vR (some o0)), (1, vR a1), (2, vI x2), (3, vI x3)] [] M := by
  unfold P_X8_addPatch at h
  refine w_aload_n C dX8_addPatch_0 rfl (mem_k 0 rfl) ?_
  refine x_getI C dX8_addPatch_1 fw_X8_36 (isO.n (ci := 8) ⟨rfl, ho0⟩ (hn.trans h3)) ?_
  refine w_bipush C dX8_addPatch_4 (by decide) ?_
  refine w_icmp_ne (tgt := 11) C dX8_addPatch_6 (by decide) (fun q => ?_) (fun q => ?_)
  · replace h := h.1 q
    refine w_aload_n C dX8_addPatch_11 rfl (mem_k 0 rfl) ?_
    refine x_getR C dX8_addPatch_12 fw_X8_11 (isO.n (ci := 8) ⟨rfl, ho0⟩ (hn.trans h3)) (fun r1 er1 => ?_)
    replace h := h r1 er1
    refine w_aload_n C dX8_addPatch_15 rfl (mem_k 0 rfl) ?_
    refine x_getI C dX8_addPatch_16 fw_X8_36 (isO.n (ci := 8) ⟨rfl, ho0⟩ (hn.trans h3)) ?_
    obtain ⟨o2, g3, h⟩ := h
    refine x_aald C dX8_addPatch_19 (isA.n g3 (hn.trans h3)) (by decide) (fun r4 er4 => ?_)
    replace h := h r4 er4
    refine x_astore (L' := [(4, vR r4), (0, vR (some o0)), (1, vR a1), (2, vI x2), (3, vI x3)]) C dX8_addPatch_20 (by decide) rfl ?_
    refine w_aload C dX8_addPatch_22 (mem_k 0 rfl) ?_
    refine w_aload_n C dX8_addPatch_24 rfl (mem_k 2 rfl) ?_
    obtain ⟨o5, g6, h⟩ := h
    refine x_putR C dX8_addPatch_25 fw_X8_39 (isO.n g6 (hn.trans h3)) (Or.inl rfl) (fun M7 eM7 hn8 => ?_)
    replace h := h M7 eM7
    replace hn8 := hn8.trans hn
    refine w_aload C dX8_addPatch_28 (mem_k 0 rfl) ?_
    refine w_iload_n C dX8_addPatch_30 rfl (mem_k 3 rfl) ?_
    refine x_putI C dX8_addPatch_31 fw_X8_43 (isO.n g6 (hn8.trans h3)) (Or.inl rfl) (fun M9 eM9 hn10 => ?_)
    replace h := h M9 eM9
    replace hn10 := hn10.trans hn8
    refine w_aload C dX8_addPatch_34 (mem_k 0 rfl) ?_
    refine w_iload_n C dX8_addPatch_36 rfl (mem_k 4 rfl) ?_
    refine x_putI C dX8_addPatch_37 fw_X8_46 (isO.n g6 (hn10.trans h3)) (Or.inl rfl) (fun M11 eM11 hn12 => ?_)
    replace h := h M11 eM11
    replace hn12 := hn12.trans hn10
    refine w_aload C dX8_addPatch_40 (mem_k 0 rfl) ?_
    refine w_iconst C dX8_addPatch_42 ⟨by decide, by decide⟩ ?_
    refine x_putI C dX8_addPatch_43 fw_X8_49 (isO.n g6 (hn12.trans h3)) (Or.inl rfl) (fun M13 eM13 hn14 => ?_)
    replace h := h M13 eM13
    replace hn14 := hn14.trans hn12
    refine w_aload_n C dX8_addPatch_46 rfl (mem_k 1 rfl) ?_
    refine w_dup C dX8_addPatch_47 rfl ?_
    refine x_getI C dX8_addPatch_48 fw_X8_36 (isO.n (ci := 8) ⟨rfl, ho0⟩ (hn14.trans h3)) ?_
    refine w_iconst C dX8_addPatch_51 ⟨by decide, by decide⟩ ?_
    refine w_iadd C dX8_addPatch_52 h.1 ?_
    replace h := h.2
    refine x_putI C dX8_addPatch_53 fw_X8_36 (isO.n (ci := 8) ⟨rfl, ho0⟩ (hn14.trans h3)) (Or.inl rfl) (fun M15 eM15 hn16 => ?_)
    replace h := h M15 eM15
    replace hn16 := hn16.trans hn14
    refine w_iconst C dX8_addPatch_56 ⟨by decide, by decide⟩ ?_
    exact x_zret C hr dX8_addPatch_57 hn16 (by decide) (hQ _ M15 h)
  · replace h := h.2 q
    refine w_iconst C dX8_addPatch_9 ⟨by decide, by decide⟩ ?_
    exact x_zret C hr dX8_addPatch_10 hn (by decide) (hQ _ M h)
set_option maxRecDepth 100000 in
set_option maxHeartbeats 4000000 in
theorem con_X8_addPatch (l : Launch) (D : va_G) (cy : Nat → ClassId) : Con l D cy yX8_addPatch cX8_addPatch 5 (some .boolean) ({ frames := 0, cells := 0, slots := 0, locals := 0 }) 0 0 SP_X8_addPatch := by
  refine con_of (by decide) (fun as M Qp h => ?_) ?_
  · obtain ⟨-, o0, a1, x2, x3, rfl, -⟩ := h
    exact Nat.le_of_ble_eq_true rfl
  · intro p e s m args below meth c G as M Qp h C hr hnm
    obtain ⟨hn, o0, a1, x2, x3, rfl, ho1, ho2, Q0, hQ, h⟩ := h
    refine x_pick (L' := [(0, vR (some o0)), (1, vR a1), (2, vI x2), (3, vI x3)]) [0, 1, 2, 3] rfl ?_
    exact k_X8_addPatch_0 C hr hn rfl ⟨ho1, ho2⟩ hQ h
set_option maxRecDepth 100000 in
set_option maxHeartbeats 4000000 in
theorem cl_X8_addPatch {p : Program} {l : Launch} {e : Env} {R : Room} {s : State} {m : MethodId} {args : Array Value} {below : List Frame} {meth : Method} {c : Code} {Q : State → Prop} {cc : ByteArray} {nL : Nat} {own : String} {D : va_G} {cy : Nat → ClassId} {G : Nat × Nat} {n0 pc : Nat} {L : List (Nat × PV)} {st : List PV} {M : Mm} {op : Instr} (K : CallOK l D cy R own op 0 0 (spV 8 3 SP_X8_addPatch)) (C : Cx p s m args meth c cc nL own D cy G n0) (hd : decode cc pc = .ok (op, 3)) (hn : M.2.2.2 = n0) (h3 : n0 = 243) (hlen : argN st ≤ 8) {r : Option Nat} {o0 : Nat} (ho : isOn 8 M.2.2.2 r o0) {a1 : Option Nat} {x2 : Int} {x3 : Int} {Q0 : Int → Mm → Prop} (h : P_X8_addPatch o0 a1 x2 x3 M Q0) (k : ∀ x M2, Q0 x M2 → M2.2.2.2 = n0 → WW p l e R s m args below meth c Q nL D cy G n0  (pc + 3) L (vI x :: st) M2) : WW p l e R s m args below meth c Q nL D cy G n0  pc L (vI x3 :: vI x2 :: vR a1 :: vR r :: st) M := by
  obtain ⟨rfl, ho1, ho2⟩ := ho
  refine x_call0 K C hd (as := [vR (some o0), vR a1, vI x2, vI x3]) rfl hn hlen (fun v M2 => ∃ x, v = some (vI x) ∧ Q0 x M2) ⟨⟨o0, [vR a1, vI x2, vI x3], rfl, rfl, ho1, ho2⟩, hn.trans h3, o0, a1, x2, x3, rfl, (hn.trans h3) ▸ ho1, ho2, Q0, fun x M2 hx => ⟨x, rfl, hx⟩, h⟩ ?_
  rintro _ _ ⟨x, rfl, hx⟩ hm
  exact k x _ hx hm
end W_X8_addPatch
theorem dX5_takePatch_0 : decode cX5_takePatch 0 = .ok (.aload_n 1, 1) := by decide +kernel
theorem dX5_takePatch_1 : decode cX5_takePatch 1 = .ok (.ifnull 33, 3) := by decide +kernel
theorem dX5_takePatch_4 : decode cX5_takePatch 4 = .ok (.aload_n 2, 1) := by decide +kernel
theorem dX5_takePatch_5 : decode cX5_takePatch 5 = .ok (.ifnull 29, 3) := by decide +kernel
theorem dX5_takePatch_8 : decode cX5_takePatch 8 = .ok (.aload_n 3, 1) := by decide +kernel
theorem dX5_takePatch_9 : decode cX5_takePatch 9 = .ok (.iconst 1, 1) := by decide +kernel
theorem dX5_takePatch_10 : decode cX5_takePatch 10 = .ok (.iaload, 1) := by decide +kernel
theorem dX5_takePatch_11 : decode cX5_takePatch 11 = .ok (.iconst 0, 1) := by decide +kernel
theorem dX5_takePatch_12 : decode cX5_takePatch 12 = .ok (.sipush 200, 3) := by decide +kernel
theorem dX5_takePatch_15 : decode cX5_takePatch 15 = .ok (.invokestatic 34, 3) := by decide +kernel
theorem dX5_takePatch_18 : decode cX5_takePatch 18 = .ok (.ifCond .eq 16, 3) := by decide +kernel
theorem dX5_takePatch_21 : decode cX5_takePatch 21 = .ok (.aload_n 3, 1) := by decide +kernel
theorem dX5_takePatch_22 : decode cX5_takePatch 22 = .ok (.iconst 2, 1) := by decide +kernel
theorem dX5_takePatch_23 : decode cX5_takePatch 23 = .ok (.iaload, 1) := by decide +kernel
theorem dX5_takePatch_24 : decode cX5_takePatch 24 = .ok (.iconst 1, 1) := by decide +kernel
theorem dX5_takePatch_25 : decode cX5_takePatch 25 = .ok (.sipush 400, 3) := by decide +kernel
theorem dX5_takePatch_28 : decode cX5_takePatch 28 = .ok (.invokestatic 34, 3) := by decide +kernel
theorem dX5_takePatch_31 : decode cX5_takePatch 31 = .ok (.ifCond .ne 5, 3) := by decide +kernel
theorem dX5_takePatch_34 : decode cX5_takePatch 34 = .ok (.iconst 0, 1) := by decide +kernel
theorem dX5_takePatch_35 : decode cX5_takePatch 35 = .ok (.ireturn, 1) := by decide +kernel
theorem dX5_takePatch_36 : decode cX5_takePatch 36 = .ok (.aload_n 1, 1) := by decide +kernel
theorem dX5_takePatch_37 : decode cX5_takePatch 37 = .ok (.aload_n 2, 1) := by decide +kernel
theorem dX5_takePatch_38 : decode cX5_takePatch 38 = .ok (.aload_n 3, 1) := by decide +kernel
theorem dX5_takePatch_39 : decode cX5_takePatch 39 = .ok (.iconst 1, 1) := by decide +kernel
theorem dX5_takePatch_40 : decode cX5_takePatch 40 = .ok (.iaload, 1) := by decide +kernel
theorem dX5_takePatch_41 : decode cX5_takePatch 41 = .ok (.aload_n 3, 1) := by decide +kernel
theorem dX5_takePatch_42 : decode cX5_takePatch 42 = .ok (.iconst 2, 1) := by decide +kernel
theorem dX5_takePatch_43 : decode cX5_takePatch 43 = .ok (.iaload, 1) := by decide +kernel
theorem dX5_takePatch_44 : decode cX5_takePatch 44 = .ok (.invokevirtual 73, 3) := by decide +kernel
theorem dX5_takePatch_47 : decode cX5_takePatch 47 = .ok (.ireturn, 1) := by decide +kernel
theorem ck_X5_73 {l : Launch} {D : va_G} {cy : Nat → ClassId} {R : Room} (hR : 1 ≤ R.frames ∧ 24 ≤ R.locals) : CallOK l D cy R RX5 (.invokevirtual 73) 0 0 (spV 8 3 SP_X8_addPatch) := call_V (ci := 8) (con_X8_addPatch l D cy) (lwG_2 (i := 155) rfl rfl) (lwG_2 (i := 156) rfl rfl) (lwG_2 (i := 157) rfl rfl) (lwG_1 (i := 5) rfl rfl) (lwG_2 (i := 158) rfl rfl) (by decide) ⟨rfl, by decide, by decide, rfl⟩ ⟨rfl, rfl⟩ hR
section W_X5_takePatch
variable {p : Program} {l : Launch} {e : Env} {s : State} {m : MethodId} {args : Array Value} {below : List Frame} {meth : Method} {c : Code} {D : va_G} {cy : Nat → ClassId} {G : Nat × Nat} {n0 : Nat} {Qp : Option PV → Mm → Prop}
set_option maxRecDepth 100000 in
set_option maxHeartbeats 4000000 in
theorem k_X5_takePatch_0 {o0 : Nat} {a1 : Option Nat} {a2 : Option Nat} {a3 : Option Nat} {M : Mm} {Q : Int → Mm → Prop} (C : Cx p s m args meth c cX5_takePatch 4 RX5 D cy G n0) (hr : meth.sig.returnType = some .boolean) (h3 : n0 = 243) (hn : M.2.2.2 = n0) (ho0 : o0 < 243 ∧ (SH o0).1 = 5) (hQ : ∀ x M, Q x M → Qp (some (vI x)) M) (h : P_X5_takePatch o0 a1 a2 a3 M Q ) : WW p l e ({ frames := 1, cells := 0, slots := 0, locals := 24 }) s m args below meth c (ZQ below args s D cy G n0 Qp n0) 4 D cy G n0 0 [(0, vR (some o0)), (1, vR a1), (2, vR a2), (3, vR a3)] [] M := by
  unfold P_X5_takePatch at h
  refine w_aload_n C dX5_takePatch_0 rfl (mem_k 1 rfl) ?_
  refine w_ifnull (tgt := 34) C dX5_takePatch_1 (by decide) (fun q => ?_) (fun z1 q => ?_)
  · replace h := h.1 q
    refine w_iconst C dX5_takePatch_34 ⟨by decide, by decide⟩ ?_
    exact x_zret C hr dX5_takePatch_35 hn (by decide) (hQ _ M h)
  · replace h := h.2 z1 q
    refine w_aload_n C dX5_takePatch_4 rfl (mem_k 2 rfl) ?_
    refine w_ifnull (tgt := 34) C dX5_takePatch_5 (by decide) (fun q => ?_) (fun z2 q => ?_)
    · replace h := h.1 q
      refine w_iconst C dX5_takePatch_34 ⟨by decide, by decide⟩ ?_
      exact x_zret C hr dX5_takePatch_35 hn (by decide) (hQ _ M h)
    · replace h := h.2 z2 q
      refine w_aload_n C dX5_takePatch_8 rfl (mem_k 3 rfl) ?_
      refine w_iconst C dX5_takePatch_9 ⟨by decide, by decide⟩ ?_
      obtain ⟨o3, g4, h⟩ := h
      refine x_iald C dX5_takePatch_10 (isA.n g4 (hn.trans h3)) ?_
      refine w_iconst C dX5_takePatch_11 ⟨by decide, by decide⟩ ?_
      refine w_sipush C dX5_takePatch_12 (by decide) ?_
      refine cl_X11_isWithin (ck_X5_34 ⟨by decide, by decide⟩) C dX5_takePatch_15 hn h3 (Nat.le_of_ble_eq_true rfl) h (fun v5 h => ?_)
      refine w_if_eq (tgt := 34) C dX5_takePatch_18 (by decide) (fun q => ?_) (fun q => ?_)
      · replace h := h.1 q
        refine w_iconst C dX5_takePatch_34 ⟨by decide, by decide⟩ ?_
        exact x_zret C hr dX5_takePatch_35 hn (by decide) (hQ _ M h)
      · replace h := h.2 q
        refine w_aload_n C dX5_takePatch_21 rfl (mem_k 3 rfl) ?_
        refine w_iconst C dX5_takePatch_22 ⟨by decide, by decide⟩ ?_
        obtain ⟨o6, g7, h⟩ := h
        refine x_iald C dX5_takePatch_23 (isA.n g7 (hn.trans h3)) ?_
        refine w_iconst C dX5_takePatch_24 ⟨by decide, by decide⟩ ?_
        refine w_sipush C dX5_takePatch_25 (by decide) ?_
        refine cl_X11_isWithin (ck_X5_34 ⟨by decide, by decide⟩) C dX5_takePatch_28 hn h3 (Nat.le_of_ble_eq_true rfl) h (fun v8 h => ?_)
        refine w_if_ne (tgt := 36) C dX5_takePatch_31 (by decide) (fun q => ?_) (fun q => ?_)
        · replace h := h.1 q
          refine w_aload_n C dX5_takePatch_36 rfl (mem_k 1 rfl) ?_
          refine w_aload_n C dX5_takePatch_37 rfl (mem_k 2 rfl) ?_
          refine w_aload_n C dX5_takePatch_38 rfl (mem_k 3 rfl) ?_
          refine w_iconst C dX5_takePatch_39 ⟨by decide, by decide⟩ ?_
          obtain ⟨o9, g10, h⟩ := h
          refine x_iald C dX5_takePatch_40 (isA.n g10 (hn.trans h3)) ?_
          refine w_aload_n C dX5_takePatch_41 rfl (mem_k 3 rfl) ?_
          refine w_iconst C dX5_takePatch_42 ⟨by decide, by decide⟩ ?_
          obtain ⟨o11, g12, h⟩ := h
          refine x_iald C dX5_takePatch_43 (isA.n g12 (hn.trans h3)) ?_
          obtain ⟨o13, g14, h⟩ := h
          refine cl_X8_addPatch (ck_X5_73 ⟨by decide, by decide⟩) C dX5_takePatch_44 hn h3 (Nat.le_of_ble_eq_true rfl) (isO.n g14 (hn.trans h3)) h (fun v15 M16 h hn17 => ?_)
          exact x_zret C hr dX5_takePatch_47 hn17 h.1 (hQ _ M16 h.2)
        · replace h := h.2 q
          refine w_iconst C dX5_takePatch_34 ⟨by decide, by decide⟩ ?_
          exact x_zret C hr dX5_takePatch_35 hn (by decide) (hQ _ M h)
set_option maxRecDepth 100000 in
set_option maxHeartbeats 4000000 in
theorem con_X5_takePatch (l : Launch) (D : va_G) (cy : Nat → ClassId) : Con l D cy yX5_takePatch cX5_takePatch 4 (some .boolean) ({ frames := 1, cells := 0, slots := 0, locals := 24 }) 0 0 SP_X5_takePatch := by
  refine con_of (by decide) (fun as M Qp h => ?_) ?_
  · obtain ⟨-, o0, a1, a2, a3, rfl, -⟩ := h
    exact Nat.le_of_ble_eq_true rfl
  · intro p e s m args below meth c G as M Qp h C hr hnm
    obtain ⟨hn, o0, a1, a2, a3, rfl, ho1, ho2, Q0, hQ, h⟩ := h
    refine x_pick (L' := [(0, vR (some o0)), (1, vR a1), (2, vR a2), (3, vR a3)]) [0, 1, 2, 3] rfl ?_
    exact k_X5_takePatch_0 C hr hn rfl ⟨ho1, ho2⟩ hQ h
set_option maxRecDepth 100000 in
set_option maxHeartbeats 4000000 in
theorem cl_X5_takePatch {p : Program} {l : Launch} {e : Env} {R : Room} {s : State} {m : MethodId} {args : Array Value} {below : List Frame} {meth : Method} {c : Code} {Q : State → Prop} {cc : ByteArray} {nL : Nat} {own : String} {D : va_G} {cy : Nat → ClassId} {G : Nat × Nat} {n0 pc : Nat} {L : List (Nat × PV)} {st : List PV} {M : Mm} {op : Instr} (K : CallOK l D cy R own op 0 0 (spV 5 3 SP_X5_takePatch)) (C : Cx p s m args meth c cc nL own D cy G n0) (hd : decode cc pc = .ok (op, 3)) (hn : M.2.2.2 = n0) (h3 : n0 = 243) (hlen : argN st ≤ 8) {r : Option Nat} {o0 : Nat} (ho : isOn 5 M.2.2.2 r o0) {a1 : Option Nat} {a2 : Option Nat} {a3 : Option Nat} {Q0 : Int → Mm → Prop} (h : P_X5_takePatch o0 a1 a2 a3 M Q0) (k : ∀ x M2, Q0 x M2 → M2.2.2.2 = n0 → WW p l e R s m args below meth c Q nL D cy G n0  (pc + 3) L (vI x :: st) M2) : WW p l e R s m args below meth c Q nL D cy G n0  pc L (vR a3 :: vR a2 :: vR a1 :: vR r :: st) M := by
  obtain ⟨rfl, ho1, ho2⟩ := ho
  refine x_call0 K C hd (as := [vR (some o0), vR a1, vR a2, vR a3]) rfl hn hlen (fun v M2 => ∃ x, v = some (vI x) ∧ Q0 x M2) ⟨⟨o0, [vR a1, vR a2, vR a3], rfl, rfl, ho1, ho2⟩, hn.trans h3, o0, a1, a2, a3, rfl, (hn.trans h3) ▸ ho1, ho2, Q0, fun x M2 hx => ⟨x, rfl, hx⟩, h⟩ ?_
  rintro _ _ ⟨x, rfl, hx⟩ hm
  exact k x _ hx hm
end W_X5_takePatch
