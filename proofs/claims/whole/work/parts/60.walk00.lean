/-! Integer, Layer, gcd: pure predicates, decode rows, walks, contracts; by program (wip/gen/walk.py) -/
theorem dX11_isWithin_0 : decode cX11_isWithin 0 = .ok (.iload_n 0, 1) := by decide +kernel
theorem dX11_isWithin_1 : decode cX11_isWithin 1 = .ok (.iload_n 1, 1) := by decide +kernel
theorem dX11_isWithin_2 : decode cX11_isWithin 2 = .ok (.if_icmp .lt 12, 3) := by decide +kernel
theorem dX11_isWithin_5 : decode cX11_isWithin 5 = .ok (.iload_n 0, 1) := by decide +kernel
theorem dX11_isWithin_6 : decode cX11_isWithin 6 = .ok (.iload_n 2, 1) := by decide +kernel
theorem dX11_isWithin_7 : decode cX11_isWithin 7 = .ok (.if_icmp .gt 7, 3) := by decide +kernel
theorem dX11_isWithin_10 : decode cX11_isWithin 10 = .ok (.iconst 1, 1) := by decide +kernel
theorem dX11_isWithin_11 : decode cX11_isWithin 11 = .ok (.goto 4, 3) := by decide +kernel
theorem dX11_isWithin_14 : decode cX11_isWithin 14 = .ok (.iconst 0, 1) := by decide +kernel
theorem dX11_isWithin_15 : decode cX11_isWithin 15 = .ok (.ireturn, 1) := by decide +kernel
section W_X11_isWithin
variable {p : Program} {l : Launch} {e : Env} {s : State} {m : MethodId} {args : Array Value} {below : List Frame} {meth : Method} {c : Code} {D : va_G} {cy : Nat → ClassId} {G : Nat × Nat} {n0 : Nat} {Qp : Option PV → Mm → Prop}
set_option maxRecDepth 100000 in
set_option maxHeartbeats 4000000 in
theorem k_X11_isWithin_0 {x0 : Int} {x1 : Int} {x2 : Int} {M : Mm} {Q : Int → Prop} (C : Cx p s m args meth c cX11_isWithin 3 RX11 D cy G n0) (hr : meth.sig.returnType = some .boolean) (h3 : n0 = 243) (hn : M.2.2.2 = n0) (hQ : ∀ x, Q x → Qp (some (vI x)) M) (h : P_X11_isWithin x0 x1 x2 M Q ) : WW p l e ({ frames := 0, cells := 0, slots := 0, locals := 0 }) s m args below meth c (ZQ below args s D cy G n0 Qp n0) 3 D cy G n0 0 [(0, vI x0), (1, vI x1), (2, vI x2)] [] M := by
  unfold P_X11_isWithin at h
  refine w_iload_n C dX11_isWithin_0 rfl (mem_k 0 rfl) ?_
  refine w_iload_n C dX11_isWithin_1 rfl (mem_k 1 rfl) ?_
  refine w_icmp_lt (tgt := 14) C dX11_isWithin_2 (by decide) (fun q => ?_) (fun q => ?_)
  · replace h := h.1 q
    refine w_iconst C dX11_isWithin_14 ⟨by decide, by decide⟩ ?_
    exact x_zret C hr dX11_isWithin_15 hn (by decide) (hQ _ h)
  · replace h := h.2 q
    refine w_iload_n C dX11_isWithin_5 rfl (mem_k 0 rfl) ?_
    refine w_iload_n C dX11_isWithin_6 rfl (mem_k 2 rfl) ?_
    refine w_icmp_gt (tgt := 14) C dX11_isWithin_7 (by decide) (fun q => ?_) (fun q => ?_)
    · replace h := h.1 q
      refine w_iconst C dX11_isWithin_14 ⟨by decide, by decide⟩ ?_
      exact x_zret C hr dX11_isWithin_15 hn (by decide) (hQ _ h)
    · replace h := h.2 q
      refine w_iconst C dX11_isWithin_10 ⟨by decide, by decide⟩ ?_
      refine w_goto (tgt := 15) C dX11_isWithin_11 (by decide) ?_
      exact x_zret C hr dX11_isWithin_15 hn (by decide) (hQ _ h)
set_option maxRecDepth 100000 in
set_option maxHeartbeats 4000000 in
theorem con_X11_isWithin (l : Launch) (D : va_G) (cy : Nat → ClassId) : Con l D cy yX11_isWithin cX11_isWithin 3 (some .boolean) ({ frames := 0, cells := 0, slots := 0, locals := 0 }) 0 0 SP_X11_isWithin := by
  refine con_of (by decide) (fun as M Qp h => ?_) ?_
  · obtain ⟨-, x0, x1, x2, rfl, -⟩ := h
    exact Nat.le_of_ble_eq_true rfl
  · intro p e s m args below meth c G as M Qp h C hr hnm
    obtain ⟨hn, x0, x1, x2, rfl, Q0, hQ, h⟩ := h
    refine x_pick (L' := [(0, vI x0), (1, vI x1), (2, vI x2)]) [0, 1, 2] rfl ?_
    exact k_X11_isWithin_0 C hr hn rfl hQ h
set_option maxRecDepth 100000 in
set_option maxHeartbeats 4000000 in
theorem cl_X11_isWithin {p : Program} {l : Launch} {e : Env} {R : Room} {s : State} {m : MethodId} {args : Array Value} {below : List Frame} {meth : Method} {c : Code} {Q : State → Prop} {cc : ByteArray} {nL : Nat} {own : String} {D : va_G} {cy : Nat → ClassId} {G : Nat × Nat} {n0 pc : Nat} {L : List (Nat × PV)} {st : List PV} {M : Mm} {op : Instr} (K : CallOK l D cy R own op 0 0 (spS 3 SP_X11_isWithin)) (C : Cx p s m args meth c cc nL own D cy G n0) (hd : decode cc pc = .ok (op, 3)) (hn : M.2.2.2 = n0) (h3 : n0 = 243) (hlen : argN st ≤ 8) {x0 : Int} {x1 : Int} {x2 : Int} {Q0 : Int → Prop} (h : P_X11_isWithin x0 x1 x2 M Q0) (k : ∀ x, Q0 x → WW p l e R s m args below meth c Q nL D cy G n0  (pc + 3) L (vI x :: st) M) : WW p l e R s m args below meth c Q nL D cy G n0  pc L (vI x2 :: vI x1 :: vI x0 :: st) M := by
  refine x_call0 K C hd (as := [vI x0, vI x1, vI x2]) rfl hn hlen (fun v M2 => ∃ x, v = some (vI x) ∧ M2 = M ∧ Q0 x) ⟨rfl, hn.trans h3, x0, x1, x2, rfl, Q0, fun x hx => ⟨x, rfl, rfl, hx⟩, h⟩ ?_
  rintro _ _ ⟨x, rfl, rfl, hx⟩ hm
  exact k x hx
end W_X11_isWithin
theorem dJ6_bitCount_0f7a4_0 : decode cJ6_bitCount_0f7a4 0 = .ok (.iload_n 0, 1) := by decide +kernel
theorem dJ6_bitCount_0f7a4_1 : decode cJ6_bitCount_0f7a4 1 = .ok (.iload_n 0, 1) := by decide +kernel
theorem dJ6_bitCount_0f7a4_2 : decode cJ6_bitCount_0f7a4 2 = .ok (.iconst 1, 1) := by decide +kernel
theorem dJ6_bitCount_0f7a4_3 : decode cJ6_bitCount_0f7a4 3 = .ok (.iushr, 1) := by decide +kernel
theorem dJ6_bitCount_0f7a4_4 : decode cJ6_bitCount_0f7a4 4 = .ok (.ldc_w 265, 3) := by decide +kernel
theorem dJ6_bitCount_0f7a4_7 : decode cJ6_bitCount_0f7a4 7 = .ok (.iand, 1) := by decide +kernel
theorem dJ6_bitCount_0f7a4_8 : decode cJ6_bitCount_0f7a4 8 = .ok (.isub, 1) := by decide +kernel
theorem dJ6_bitCount_0f7a4_9 : decode cJ6_bitCount_0f7a4 9 = .ok (.istore_n 0, 1) := by decide +kernel
theorem dJ6_bitCount_0f7a4_10 : decode cJ6_bitCount_0f7a4 10 = .ok (.iload_n 0, 1) := by decide +kernel
theorem dJ6_bitCount_0f7a4_11 : decode cJ6_bitCount_0f7a4 11 = .ok (.ldc_w 266, 3) := by decide +kernel
theorem dJ6_bitCount_0f7a4_14 : decode cJ6_bitCount_0f7a4 14 = .ok (.iand, 1) := by decide +kernel
theorem dJ6_bitCount_0f7a4_15 : decode cJ6_bitCount_0f7a4 15 = .ok (.iload_n 0, 1) := by decide +kernel
theorem dJ6_bitCount_0f7a4_16 : decode cJ6_bitCount_0f7a4 16 = .ok (.iconst 2, 1) := by decide +kernel
theorem dJ6_bitCount_0f7a4_17 : decode cJ6_bitCount_0f7a4 17 = .ok (.iushr, 1) := by decide +kernel
theorem dJ6_bitCount_0f7a4_18 : decode cJ6_bitCount_0f7a4 18 = .ok (.ldc_w 266, 3) := by decide +kernel
theorem dJ6_bitCount_0f7a4_21 : decode cJ6_bitCount_0f7a4 21 = .ok (.iand, 1) := by decide +kernel
theorem dJ6_bitCount_0f7a4_22 : decode cJ6_bitCount_0f7a4 22 = .ok (.iadd, 1) := by decide +kernel
theorem dJ6_bitCount_0f7a4_23 : decode cJ6_bitCount_0f7a4 23 = .ok (.istore_n 0, 1) := by decide +kernel
theorem dJ6_bitCount_0f7a4_24 : decode cJ6_bitCount_0f7a4 24 = .ok (.iload_n 0, 1) := by decide +kernel
theorem dJ6_bitCount_0f7a4_25 : decode cJ6_bitCount_0f7a4 25 = .ok (.iload_n 0, 1) := by decide +kernel
theorem dJ6_bitCount_0f7a4_26 : decode cJ6_bitCount_0f7a4 26 = .ok (.iconst 4, 1) := by decide +kernel
theorem dJ6_bitCount_0f7a4_27 : decode cJ6_bitCount_0f7a4 27 = .ok (.iushr, 1) := by decide +kernel
theorem dJ6_bitCount_0f7a4_28 : decode cJ6_bitCount_0f7a4 28 = .ok (.iadd, 1) := by decide +kernel
theorem dJ6_bitCount_0f7a4_29 : decode cJ6_bitCount_0f7a4 29 = .ok (.ldc_w 267, 3) := by decide +kernel
theorem dJ6_bitCount_0f7a4_32 : decode cJ6_bitCount_0f7a4 32 = .ok (.iand, 1) := by decide +kernel
theorem dJ6_bitCount_0f7a4_33 : decode cJ6_bitCount_0f7a4 33 = .ok (.istore_n 0, 1) := by decide +kernel
theorem dJ6_bitCount_0f7a4_34 : decode cJ6_bitCount_0f7a4 34 = .ok (.iload_n 0, 1) := by decide +kernel
theorem dJ6_bitCount_0f7a4_35 : decode cJ6_bitCount_0f7a4 35 = .ok (.iload_n 0, 1) := by decide +kernel
theorem dJ6_bitCount_0f7a4_36 : decode cJ6_bitCount_0f7a4 36 = .ok (.bipush 8, 2) := by decide +kernel
theorem dJ6_bitCount_0f7a4_38 : decode cJ6_bitCount_0f7a4 38 = .ok (.iushr, 1) := by decide +kernel
theorem dJ6_bitCount_0f7a4_39 : decode cJ6_bitCount_0f7a4 39 = .ok (.iadd, 1) := by decide +kernel
theorem dJ6_bitCount_0f7a4_40 : decode cJ6_bitCount_0f7a4 40 = .ok (.istore_n 0, 1) := by decide +kernel
theorem dJ6_bitCount_0f7a4_41 : decode cJ6_bitCount_0f7a4 41 = .ok (.iload_n 0, 1) := by decide +kernel
theorem dJ6_bitCount_0f7a4_42 : decode cJ6_bitCount_0f7a4 42 = .ok (.iload_n 0, 1) := by decide +kernel
theorem dJ6_bitCount_0f7a4_43 : decode cJ6_bitCount_0f7a4 43 = .ok (.bipush 16, 2) := by decide +kernel
theorem dJ6_bitCount_0f7a4_45 : decode cJ6_bitCount_0f7a4 45 = .ok (.iushr, 1) := by decide +kernel
theorem dJ6_bitCount_0f7a4_46 : decode cJ6_bitCount_0f7a4 46 = .ok (.iadd, 1) := by decide +kernel
theorem dJ6_bitCount_0f7a4_47 : decode cJ6_bitCount_0f7a4 47 = .ok (.istore_n 0, 1) := by decide +kernel
theorem dJ6_bitCount_0f7a4_48 : decode cJ6_bitCount_0f7a4 48 = .ok (.iload_n 0, 1) := by decide +kernel
theorem dJ6_bitCount_0f7a4_49 : decode cJ6_bitCount_0f7a4 49 = .ok (.bipush 63, 2) := by decide +kernel
theorem dJ6_bitCount_0f7a4_51 : decode cJ6_bitCount_0f7a4 51 = .ok (.iand, 1) := by decide +kernel
theorem dJ6_bitCount_0f7a4_52 : decode cJ6_bitCount_0f7a4 52 = .ok (.ireturn, 1) := by decide +kernel
theorem cn_J6_265 : Cond.constant RJ6 265 (Int32.ofInt 1431655765) ∈ lwG := lwG_3 (i := 111) rfl rfl
theorem cn_J6_266 : Cond.constant RJ6 266 (Int32.ofInt 858993459) ∈ lwG := lwG_3 (i := 112) rfl rfl
theorem cn_J6_267 : Cond.constant RJ6 267 (Int32.ofInt 252645135) ∈ lwG := lwG_3 (i := 113) rfl rfl
section W_J6_bitCount_0f7a4
variable {p : Program} {l : Launch} {e : Env} {s : State} {m : MethodId} {args : Array Value} {below : List Frame} {meth : Method} {c : Code} {D : va_G} {cy : Nat → ClassId} {G : Nat × Nat} {n0 : Nat} {Qp : Option PV → Mm → Prop}
set_option maxRecDepth 100000 in
set_option maxHeartbeats 4000000 in
theorem k_J6_bitCount_0f7a4_0 {x0 : Int} {M : Mm} {Q : Int → Prop} (C : Cx p s m args meth c cJ6_bitCount_0f7a4 1 RJ6 D cy G n0) (hr : meth.sig.returnType = some .int) (h3 : n0 = 243) (hn : M.2.2.2 = n0) (hQ : ∀ x, Q x → Qp (some (vI x)) M) (h : P_J6_bitCount_0f7a4 x0 M Q ) : WW p l e ({ frames := 0, cells := 0, slots := 0, locals := 0 }) s m args below meth c (ZQ below args s D cy G n0 Qp n0) 1 D cy G n0 0 [(0, vI x0)] [] M := by
  unfold P_J6_bitCount_0f7a4 at h
  refine w_iload_n C dJ6_bitCount_0f7a4_0 rfl (mem_k 0 rfl) ?_
  refine w_iload_n C dJ6_bitCount_0f7a4_1 rfl (mem_k 0 rfl) ?_
  refine w_iconst C dJ6_bitCount_0f7a4_2 ⟨by decide, by decide⟩ ?_
  refine w_iushr C dJ6_bitCount_0f7a4_3 ?_
  refine w_ldcw (x := 1431655765) C dJ6_bitCount_0f7a4_4 cn_J6_265 ⟨by decide, by decide⟩ ?_
  refine w_iand C dJ6_bitCount_0f7a4_7 ?_
  refine w_isub C dJ6_bitCount_0f7a4_8 h.1 ?_
  replace h := h.2
  refine x_nmI (fun v1 ev1 => ?_)
  replace h := h v1 ev1
  refine x_istore_n (L' := [(0, vI v1)]) C dJ6_bitCount_0f7a4_9 rfl (by decide) rfl ?_
  refine w_iload_n C dJ6_bitCount_0f7a4_10 rfl (mem_k 0 rfl) ?_
  refine w_ldcw (x := 858993459) C dJ6_bitCount_0f7a4_11 cn_J6_266 ⟨by decide, by decide⟩ ?_
  refine w_iand C dJ6_bitCount_0f7a4_14 ?_
  refine w_iload_n C dJ6_bitCount_0f7a4_15 rfl (mem_k 0 rfl) ?_
  refine w_iconst C dJ6_bitCount_0f7a4_16 ⟨by decide, by decide⟩ ?_
  refine w_iushr C dJ6_bitCount_0f7a4_17 ?_
  refine w_ldcw (x := 858993459) C dJ6_bitCount_0f7a4_18 cn_J6_266 ⟨by decide, by decide⟩ ?_
  refine w_iand C dJ6_bitCount_0f7a4_21 ?_
  refine w_iadd C dJ6_bitCount_0f7a4_22 h.1 ?_
  replace h := h.2
  refine x_nmI (fun v2 ev2 => ?_)
  replace h := h v2 ev2
  refine x_istore_n (L' := [(0, vI v2)]) C dJ6_bitCount_0f7a4_23 rfl (by decide) rfl ?_
  refine w_iload_n C dJ6_bitCount_0f7a4_24 rfl (mem_k 0 rfl) ?_
  refine w_iload_n C dJ6_bitCount_0f7a4_25 rfl (mem_k 0 rfl) ?_
  refine w_iconst C dJ6_bitCount_0f7a4_26 ⟨by decide, by decide⟩ ?_
  refine w_iushr C dJ6_bitCount_0f7a4_27 ?_
  refine w_iadd C dJ6_bitCount_0f7a4_28 h.1 ?_
  replace h := h.2
  refine w_ldcw (x := 252645135) C dJ6_bitCount_0f7a4_29 cn_J6_267 ⟨by decide, by decide⟩ ?_
  refine w_iand C dJ6_bitCount_0f7a4_32 ?_
  refine x_nmI (fun v3 ev3 => ?_)
  replace h := h v3 ev3
  refine x_istore_n (L' := [(0, vI v3)]) C dJ6_bitCount_0f7a4_33 rfl (by decide) rfl ?_
  refine w_iload_n C dJ6_bitCount_0f7a4_34 rfl (mem_k 0 rfl) ?_
  refine w_iload_n C dJ6_bitCount_0f7a4_35 rfl (mem_k 0 rfl) ?_
  refine w_bipush C dJ6_bitCount_0f7a4_36 (by decide) ?_
  refine w_iushr C dJ6_bitCount_0f7a4_38 ?_
  refine w_iadd C dJ6_bitCount_0f7a4_39 h.1 ?_
  replace h := h.2
  refine x_nmI (fun v4 ev4 => ?_)
  replace h := h v4 ev4
  refine x_istore_n (L' := [(0, vI v4)]) C dJ6_bitCount_0f7a4_40 rfl (by decide) rfl ?_
  refine w_iload_n C dJ6_bitCount_0f7a4_41 rfl (mem_k 0 rfl) ?_
  refine w_iload_n C dJ6_bitCount_0f7a4_42 rfl (mem_k 0 rfl) ?_
  refine w_bipush C dJ6_bitCount_0f7a4_43 (by decide) ?_
  refine w_iushr C dJ6_bitCount_0f7a4_45 ?_
  refine w_iadd C dJ6_bitCount_0f7a4_46 h.1 ?_
  replace h := h.2
  refine x_nmI (fun v5 ev5 => ?_)
  replace h := h v5 ev5
  refine x_istore_n (L' := [(0, vI v5)]) C dJ6_bitCount_0f7a4_47 rfl (by decide) rfl ?_
  refine w_iload_n C dJ6_bitCount_0f7a4_48 rfl (mem_k 0 rfl) ?_
  refine w_bipush C dJ6_bitCount_0f7a4_49 (by decide) ?_
  refine w_iand C dJ6_bitCount_0f7a4_51 ?_
  exact x_iret C hr dJ6_bitCount_0f7a4_52 hn (hQ _ h)
set_option maxRecDepth 100000 in
set_option maxHeartbeats 4000000 in
theorem con_J6_bitCount_0f7a4 (l : Launch) (D : va_G) (cy : Nat → ClassId) : Con l D cy yJ6_bitCount_0f7a4 cJ6_bitCount_0f7a4 1 (some .int) ({ frames := 0, cells := 0, slots := 0, locals := 0 }) 0 0 SP_J6_bitCount_0f7a4 := by
  refine con_of (by decide) (fun as M Qp h => ?_) ?_
  · obtain ⟨-, x0, rfl, -⟩ := h
    exact Nat.le_of_ble_eq_true rfl
  · intro p e s m args below meth c G as M Qp h C hr hnm
    obtain ⟨hn, x0, rfl, Q0, hQ, h⟩ := h
    refine x_pick (L' := [(0, vI x0)]) [0] rfl ?_
    exact k_J6_bitCount_0f7a4_0 C hr hn rfl hQ h
set_option maxRecDepth 100000 in
set_option maxHeartbeats 4000000 in
theorem cl_J6_bitCount_0f7a4 {p : Program} {l : Launch} {e : Env} {R : Room} {s : State} {m : MethodId} {args : Array Value} {below : List Frame} {meth : Method} {c : Code} {Q : State → Prop} {cc : ByteArray} {nL : Nat} {own : String} {D : va_G} {cy : Nat → ClassId} {G : Nat × Nat} {n0 pc : Nat} {L : List (Nat × PV)} {st : List PV} {M : Mm} {op : Instr} (K : CallOK l D cy R own op 0 0 (spS 1 SP_J6_bitCount_0f7a4)) (C : Cx p s m args meth c cc nL own D cy G n0) (hd : decode cc pc = .ok (op, 3)) (hn : M.2.2.2 = n0) (h3 : n0 = 243) (hlen : argN st ≤ 8) {x0 : Int} {Q0 : Int → Prop} (h : P_J6_bitCount_0f7a4 x0 M Q0) (k : ∀ x, Q0 x → WW p l e R s m args below meth c Q nL D cy G n0  (pc + 3) L (vI x :: st) M) : WW p l e R s m args below meth c Q nL D cy G n0  pc L (vI x0 :: st) M := by
  refine x_call0 K C hd (as := [vI x0]) rfl hn hlen (fun v M2 => ∃ x, v = some (vI x) ∧ M2 = M ∧ Q0 x) ⟨rfl, hn.trans h3, x0, rfl, Q0, fun x hx => ⟨x, rfl, rfl, hx⟩, h⟩ ?_
  rintro _ _ ⟨x, rfl, rfl, hx⟩ hm
  exact k x hx
end W_J6_bitCount_0f7a4
theorem dX3_wholeLength_0 : decode cX3_wholeLength 0 = .ok (.iconst 0, 1) := by decide +kernel
theorem dX3_wholeLength_1 : decode cX3_wholeLength 1 = .ok (.istore_n 1, 1) := by decide +kernel
theorem dX3_wholeLength_2 : decode cX3_wholeLength 2 = .ok (.iconst 0, 1) := by decide +kernel
theorem dX3_wholeLength_3 : decode cX3_wholeLength 3 = .ok (.istore_n 2, 1) := by decide +kernel
theorem dX3_wholeLength_4 : decode cX3_wholeLength 4 = .ok (.iload_n 2, 1) := by decide +kernel
theorem dX3_wholeLength_5 : decode cX3_wholeLength 5 = .ok (.aload_n 0, 1) := by decide +kernel
theorem dX3_wholeLength_6 : decode cX3_wholeLength 6 = .ok (.getfield 21, 3) := by decide +kernel
theorem dX3_wholeLength_9 : decode cX3_wholeLength 9 = .ok (.if_icmp .ge 18, 3) := by decide +kernel
theorem dX3_wholeLength_12 : decode cX3_wholeLength 12 = .ok (.iload_n 1, 1) := by decide +kernel
theorem dX3_wholeLength_13 : decode cX3_wholeLength 13 = .ok (.aload_n 0, 1) := by decide +kernel
theorem dX3_wholeLength_14 : decode cX3_wholeLength 14 = .ok (.getfield 9, 3) := by decide +kernel
theorem dX3_wholeLength_17 : decode cX3_wholeLength 17 = .ok (.iload_n 2, 1) := by decide +kernel
theorem dX3_wholeLength_18 : decode cX3_wholeLength 18 = .ok (.iaload, 1) := by decide +kernel
theorem dX3_wholeLength_19 : decode cX3_wholeLength 19 = .ok (.iadd, 1) := by decide +kernel
theorem dX3_wholeLength_20 : decode cX3_wholeLength 20 = .ok (.istore_n 1, 1) := by decide +kernel
theorem dX3_wholeLength_21 : decode cX3_wholeLength 21 = .ok (.iinc 2 1, 3) := by decide +kernel
theorem dX3_wholeLength_24 : decode cX3_wholeLength 24 = .ok (.goto (-20), 3) := by decide +kernel
theorem dX3_wholeLength_27 : decode cX3_wholeLength 27 = .ok (.iload_n 1, 1) := by decide +kernel
theorem dX3_wholeLength_28 : decode cX3_wholeLength 28 = .ok (.ireturn, 1) := by decide +kernel
theorem fw_X3_21 : fI RX3 21 3 2 := ⟨⟨lwG_1 (i := 63) rfl rfl, by decide, by decide⟩, rfl⟩
theorem fw_X3_9 : fR RX3 9 3 0 := ⟨⟨lwG_1 (i := 61) rfl rfl, by decide, by decide⟩, fun _ _ => rfl, fun r => ⟨r, rfl⟩⟩
section W_X3_wholeLength
variable {p : Program} {l : Launch} {e : Env} {s : State} {m : MethodId} {args : Array Value} {below : List Frame} {meth : Method} {c : Code} {D : va_G} {cy : Nat → ClassId} {G : Nat × Nat} {n0 : Nat} {Qp : Option PV → Mm → Prop}
set_option maxRecDepth 100000 in
set_option maxHeartbeats 4000000 in
theorem f_X3_wholeLength_4 {o0 : Nat} {x1 : Int} {x2 : Int} {M : Mm} {Q : Int → Prop} {K4 : Int × Int → Prop} (C : Cx p s m args meth c cX3_wholeLength 3 RX3 D cy G n0) (hr : meth.sig.returnType = some .int) (h3 : n0 = 243) (hn : M.2.2.2 = n0) (ho0 : o0 < 243 ∧ (SH o0).1 = 3) (hQ : ∀ x, Q x → Qp (some (vI x)) M) (hK4 : ∀ (x1 : Int) (x2 : Int), K4 (x1, x2) → WW p l e ({ frames := 0, cells := 0, slots := 0, locals := 0 }) s m args below meth c (ZQ below args s D cy G n0 Qp n0) 3 D cy G n0 4 [(0, vR (some o0)), (1, vI x1), (2, vI x2)] [] M) (h : F_X3_wholeLength_4 o0 M Q  K4 x1 x2) : WW p l e ({ frames := 0, cells := 0, slots := 0, locals := 0 }) s m args below meth c (ZQ below args s D cy G n0 Qp n0) 3 D cy G n0 4 [(0, vR (some o0)), (1, vI x1), (2, vI x2)] [] M := by
  unfold F_X3_wholeLength_4 at h
  refine w_iload_n C dX3_wholeLength_4 rfl (mem_k 2 rfl) ?_
  refine w_aload_n C dX3_wholeLength_5 rfl (mem_k 0 rfl) ?_
  refine x_getI C dX3_wholeLength_6 fw_X3_21 (isO.n (ci := 3) ⟨rfl, ho0⟩ (hn.trans h3)) ?_
  refine w_icmp_ge (tgt := 27) C dX3_wholeLength_9 (by decide) (fun q => ?_) (fun q => ?_)
  · replace h := h.1 q
    refine w_iload_n C dX3_wholeLength_27 rfl (mem_k 1 rfl) ?_
    exact x_iret C hr dX3_wholeLength_28 hn (hQ _ h)
  · replace h := h.2 q
    refine w_iload_n C dX3_wholeLength_12 rfl (mem_k 1 rfl) ?_
    refine w_aload_n C dX3_wholeLength_13 rfl (mem_k 0 rfl) ?_
    refine x_getR C dX3_wholeLength_14 fw_X3_9 (isO.n (ci := 3) ⟨rfl, ho0⟩ (hn.trans h3)) (fun r1 er1 => ?_)
    replace h := h r1 er1
    refine w_iload_n C dX3_wholeLength_17 rfl (mem_k 2 rfl) ?_
    obtain ⟨o2, g3, h⟩ := h
    refine x_iald C dX3_wholeLength_18 (isA.n g3 (hn.trans h3)) ?_
    refine w_iadd C dX3_wholeLength_19 h.1 ?_
    replace h := h.2
    refine x_nmI (fun v4 ev4 => ?_)
    replace h := h v4 ev4
    refine x_istore_n (L' := [(1, vI v4), (0, vR (some o0)), (2, vI x2)]) C dX3_wholeLength_20 rfl (by decide) rfl ?_
    obtain ⟨v5, ev5⟩ : ∃ z : Int, z = x2 + 1 := ⟨_, rfl⟩
    refine x_iinc (L' := [(2, vI v5), (1, vI v4), (0, vR (some o0))]) C dX3_wholeLength_21 (mem_k 2 rfl) (by decide) h.1 ev5 rfl ?_
    replace h := h.2 v5 ev5
    refine w_goto (tgt := 4) C dX3_wholeLength_24 (by decide) ?_
    refine x_pc (pc2 := 4) rfl ?_
    refine x_pick (L' := [(0, vR (some o0)), (1, vI v4), (2, vI v5)]) [2, 1, 0] rfl ?_
    exact hK4 v4 v5 h
set_option maxRecDepth 100000 in
set_option maxHeartbeats 4000000 in
theorem k_X3_wholeLength_4 {o0 : Nat} {x1 : Int} {x2 : Int} {M : Mm} {Q : Int → Prop} (C : Cx p s m args meth c cX3_wholeLength 3 RX3 D cy G n0) (hr : meth.sig.returnType = some .int) (h3 : n0 = 243) (hn : M.2.2.2 = n0) (ho0 : o0 < 243 ∧ (SH o0).1 = 3) (hQ : ∀ x, Q x → Qp (some (vI x)) M) (h : P_X3_wholeLength_4 o0 x1 x2 M Q ) : WW p l e ({ frames := 0, cells := 0, slots := 0, locals := 0 }) s m args below meth c (ZQ below args s D cy G n0 Qp n0) 3 D cy G n0 4 [(0, vR (some o0)), (1, vI x1), (2, vI x2)] [] M := by
  refine lpW_sound (P := fun y : Int × Int => WW p l e ({ frames := 0, cells := 0, slots := 0, locals := 0 }) s m args below meth c (ZQ below args s D cy G n0 Qp n0) 3 D cy G n0 4 [(0, vR (some o0)), (1, vI y.1), (2, vI y.2)] [] M) ?_ h
  intro K y hK hF
  obtain ⟨x1, x2⟩ := y
  exact f_X3_wholeLength_4 C hr h3 hn ho0 hQ  (fun x1 x2 hk => hK (x1, x2) hk) hF
set_option maxRecDepth 100000 in
set_option maxHeartbeats 4000000 in
theorem k_X3_wholeLength_0 {o0 : Nat} {M : Mm} {Q : Int → Prop} (C : Cx p s m args meth c cX3_wholeLength 3 RX3 D cy G n0) (hr : meth.sig.returnType = some .int) (h3 : n0 = 243) (hn : M.2.2.2 = n0) (ho0 : o0 < 243 ∧ (SH o0).1 = 3) (hQ : ∀ x, Q x → Qp (some (vI x)) M) (h : P_X3_wholeLength o0 M Q ) : WW p l e ({ frames := 0, cells := 0, slots := 0, locals := 0 }) s m args below meth c (ZQ below args s D cy G n0 Qp n0) 3 D cy G n0 0 [(0, vR (some o0))] [] M := by
  unfold P_X3_wholeLength at h
  refine w_iconst C dX3_wholeLength_0 ⟨by decide, by decide⟩ ?_
  refine x_istore_n (L' := [(1, vI 0), (0, vR (some o0))]) C dX3_wholeLength_1 rfl (by decide) rfl ?_
  refine w_iconst C dX3_wholeLength_2 ⟨by decide, by decide⟩ ?_
  refine x_istore_n (L' := [(2, vI 0), (1, vI 0), (0, vR (some o0))]) C dX3_wholeLength_3 rfl (by decide) rfl ?_
  refine x_pc (pc2 := 4) rfl ?_
  refine x_pick (L' := [(0, vR (some o0)), (1, vI 0), (2, vI 0)]) [2, 1, 0] rfl ?_
  exact k_X3_wholeLength_4 C hr h3 hn ho0 hQ  h
set_option maxRecDepth 100000 in
set_option maxHeartbeats 4000000 in
theorem con_X3_wholeLength (l : Launch) (D : va_G) (cy : Nat → ClassId) : Con l D cy yX3_wholeLength cX3_wholeLength 3 (some .int) ({ frames := 0, cells := 0, slots := 0, locals := 0 }) 0 0 SP_X3_wholeLength := by
  refine con_of (by decide) (fun as M Qp h => ?_) ?_
  · obtain ⟨-, o0, rfl, -⟩ := h
    exact Nat.le_of_ble_eq_true rfl
  · intro p e s m args below meth c G as M Qp h C hr hnm
    obtain ⟨hn, o0, rfl, ho1, ho2, Q0, hQ, h⟩ := h
    refine x_pick (L' := [(0, vR (some o0))]) [0] rfl ?_
    exact k_X3_wholeLength_0 C hr hn rfl ⟨ho1, ho2⟩ hQ h
set_option maxRecDepth 100000 in
set_option maxHeartbeats 4000000 in
theorem cl_X3_wholeLength {p : Program} {l : Launch} {e : Env} {R : Room} {s : State} {m : MethodId} {args : Array Value} {below : List Frame} {meth : Method} {c : Code} {Q : State → Prop} {cc : ByteArray} {nL : Nat} {own : String} {D : va_G} {cy : Nat → ClassId} {G : Nat × Nat} {n0 pc : Nat} {L : List (Nat × PV)} {st : List PV} {M : Mm} {op : Instr} (K : CallOK l D cy R own op 0 0 (spV 3 0 SP_X3_wholeLength)) (C : Cx p s m args meth c cc nL own D cy G n0) (hd : decode cc pc = .ok (op, 3)) (hn : M.2.2.2 = n0) (h3 : n0 = 243) (hlen : argN st ≤ 8) {r : Option Nat} {o0 : Nat} (ho : isOn 3 M.2.2.2 r o0)  {Q0 : Int → Prop} (h : P_X3_wholeLength o0 M Q0) (k : ∀ x, Q0 x → WW p l e R s m args below meth c Q nL D cy G n0  (pc + 3) L (vI x :: st) M) : WW p l e R s m args below meth c Q nL D cy G n0  pc L (vR r :: st) M := by
  obtain ⟨rfl, ho1, ho2⟩ := ho
  refine x_call0 K C hd (as := [vR (some o0)]) rfl hn hlen (fun v M2 => ∃ x, v = some (vI x) ∧ M2 = M ∧ Q0 x) ⟨⟨o0, [], rfl, rfl, ho1, ho2⟩, hn.trans h3, o0, rfl, (hn.trans h3) ▸ ho1, ho2, Q0, fun x hx => ⟨x, rfl, rfl, hx⟩, h⟩ ?_
  rintro _ _ ⟨x, rfl, rfl, hx⟩ hm
  exact k x hx
end W_X3_wholeLength
theorem dX3_pushOf_0 : decode cX3_pushOf 0 = .ok (.iconst 0, 1) := by decide +kernel
theorem dX3_pushOf_1 : decode cX3_pushOf 1 = .ok (.iload_n 1, 1) := by decide +kernel
theorem dX3_pushOf_2 : decode cX3_pushOf 2 = .ok (.invokestatic 25, 3) := by decide +kernel
theorem dX3_pushOf_5 : decode cX3_pushOf 5 = .ok (.istore_n 3, 1) := by decide +kernel
theorem dX3_pushOf_6 : decode cX3_pushOf 6 = .ok (.iconst 0, 1) := by decide +kernel
theorem dX3_pushOf_7 : decode cX3_pushOf 7 = .ok (.istore 4, 2) := by decide +kernel
theorem dX3_pushOf_9 : decode cX3_pushOf 9 = .ok (.iconst 0, 1) := by decide +kernel
theorem dX3_pushOf_10 : decode cX3_pushOf 10 = .ok (.istore 5, 2) := by decide +kernel
theorem dX3_pushOf_12 : decode cX3_pushOf 12 = .ok (.iload 5, 2) := by decide +kernel
theorem dX3_pushOf_14 : decode cX3_pushOf 14 = .ok (.aload_n 0, 1) := by decide +kernel
theorem dX3_pushOf_15 : decode cX3_pushOf 15 = .ok (.getfield 21, 3) := by decide +kernel
theorem dX3_pushOf_18 : decode cX3_pushOf 18 = .ok (.if_icmp .ge 44, 3) := by decide +kernel
theorem dX3_pushOf_21 : decode cX3_pushOf 21 = .ok (.iload_n 3, 1) := by decide +kernel
theorem dX3_pushOf_22 : decode cX3_pushOf 22 = .ok (.aload_n 0, 1) := by decide +kernel
theorem dX3_pushOf_23 : decode cX3_pushOf 23 = .ok (.getfield 9, 3) := by decide +kernel
theorem dX3_pushOf_26 : decode cX3_pushOf 26 = .ok (.iload 5, 2) := by decide +kernel
theorem dX3_pushOf_28 : decode cX3_pushOf 28 = .ok (.iaload, 1) := by decide +kernel
theorem dX3_pushOf_29 : decode cX3_pushOf 29 = .ok (.iload_n 2, 1) := by decide +kernel
theorem dX3_pushOf_30 : decode cX3_pushOf 30 = .ok (.imul, 1) := by decide +kernel
theorem dX3_pushOf_31 : decode cX3_pushOf 31 = .ok (.invokestatic 31, 3) := by decide +kernel
theorem dX3_pushOf_34 : decode cX3_pushOf 34 = .ok (.istore 6, 2) := by decide +kernel
theorem dX3_pushOf_36 : decode cX3_pushOf 36 = .ok (.iload 4, 2) := by decide +kernel
theorem dX3_pushOf_38 : decode cX3_pushOf 38 = .ok (.iload 6, 2) := by decide +kernel
theorem dX3_pushOf_40 : decode cX3_pushOf 40 = .ok (.aload_n 0, 1) := by decide +kernel
theorem dX3_pushOf_41 : decode cX3_pushOf 41 = .ok (.getfield 15, 3) := by decide +kernel
theorem dX3_pushOf_44 : decode cX3_pushOf 44 = .ok (.iload 5, 2) := by decide +kernel
theorem dX3_pushOf_46 : decode cX3_pushOf 46 = .ok (.iaload, 1) := by decide +kernel
theorem dX3_pushOf_47 : decode cX3_pushOf 47 = .ok (.imul, 1) := by decide +kernel
theorem dX3_pushOf_48 : decode cX3_pushOf 48 = .ok (.iadd, 1) := by decide +kernel
theorem dX3_pushOf_49 : decode cX3_pushOf 49 = .ok (.istore 4, 2) := by decide +kernel
theorem dX3_pushOf_51 : decode cX3_pushOf 51 = .ok (.iload_n 3, 1) := by decide +kernel
theorem dX3_pushOf_52 : decode cX3_pushOf 52 = .ok (.iload 6, 2) := by decide +kernel
theorem dX3_pushOf_54 : decode cX3_pushOf 54 = .ok (.isub, 1) := by decide +kernel
theorem dX3_pushOf_55 : decode cX3_pushOf 55 = .ok (.istore_n 3, 1) := by decide +kernel
theorem dX3_pushOf_56 : decode cX3_pushOf 56 = .ok (.iinc 5 1, 3) := by decide +kernel
theorem dX3_pushOf_59 : decode cX3_pushOf 59 = .ok (.goto (-47), 3) := by decide +kernel
theorem dX3_pushOf_62 : decode cX3_pushOf 62 = .ok (.iload 4, 2) := by decide +kernel
theorem dX3_pushOf_64 : decode cX3_pushOf 64 = .ok (.iload_n 3, 1) := by decide +kernel
theorem dX3_pushOf_65 : decode cX3_pushOf 65 = .ok (.sipush 1000, 3) := by decide +kernel
theorem dX3_pushOf_68 : decode cX3_pushOf 68 = .ok (.imul, 1) := by decide +kernel
theorem dX3_pushOf_69 : decode cX3_pushOf 69 = .ok (.iadd, 1) := by decide +kernel
theorem dX3_pushOf_70 : decode cX3_pushOf 70 = .ok (.ireturn, 1) := by decide +kernel
theorem mt_X3_31 : mtOK RX3 31 Lib.Math.min.name := lwG_2 (i := 221) rfl rfl
theorem fw_X3_15 : fR RX3 15 3 1 := ⟨⟨lwG_1 (i := 62) rfl rfl, by decide, by decide⟩, fun _ _ => rfl, fun r => ⟨r, rfl⟩⟩
theorem mt_X3_25 : mtOK RX3 25 Lib.Math.max.name := lwG_2 (i := 218) rfl rfl
section W_X3_pushOf
variable {p : Program} {l : Launch} {e : Env} {s : State} {m : MethodId} {args : Array Value} {below : List Frame} {meth : Method} {c : Code} {D : va_G} {cy : Nat → ClassId} {G : Nat × Nat} {n0 : Nat} {Qp : Option PV → Mm → Prop}
set_option maxRecDepth 100000 in
set_option maxHeartbeats 4000000 in
theorem f_X3_pushOf_12 {o0 : Nat} {x2 : Int} {x3 : Int} {x4 : Int} {x5 : Int} {M : Mm} {Q : Int → Prop} {K12 : Int × Int × Int → Prop} (C : Cx p s m args meth c cX3_pushOf 7 RX3 D cy G n0) (hr : meth.sig.returnType = some .int) (h3 : n0 = 243) (hn : M.2.2.2 = n0) (ho0 : o0 < 243 ∧ (SH o0).1 = 3) (hQ : ∀ x, Q x → Qp (some (vI x)) M) (hK12 : ∀ (x3 : Int) (x4 : Int) (x5 : Int), K12 (x3, x4, x5) → WW p l e ({ frames := 1, cells := 0, slots := 0, locals := 21 }) s m args below meth c (ZQ below args s D cy G n0 Qp n0) 7 D cy G n0 12 [(0, vR (some o0)), (2, vI x2), (3, vI x3), (4, vI x4), (5, vI x5)] [] M) (h : F_X3_pushOf_12 o0 x2 M Q  K12 x3 x4 x5) : WW p l e ({ frames := 1, cells := 0, slots := 0, locals := 21 }) s m args below meth c (ZQ below args s D cy G n0 Qp n0) 7 D cy G n0 12 [(0, vR (some o0)), (2, vI x2), (3, vI x3), (4, vI x4), (5, vI x5)] [] M := by
  unfold F_X3_pushOf_12 at h
  refine w_iload C dX3_pushOf_12 (mem_k 4 rfl) ?_
  refine w_aload_n C dX3_pushOf_14 rfl (mem_k 0 rfl) ?_
  refine x_getI C dX3_pushOf_15 fw_X3_21 (isO.n (ci := 3) ⟨rfl, ho0⟩ (hn.trans h3)) ?_
  refine w_icmp_ge (tgt := 62) C dX3_pushOf_18 (by decide) (fun q => ?_) (fun q => ?_)
  · replace h := h.1 q
    refine w_iload C dX3_pushOf_62 (mem_k 3 rfl) ?_
    refine w_iload_n C dX3_pushOf_64 rfl (mem_k 2 rfl) ?_
    refine w_sipush C dX3_pushOf_65 (by decide) ?_
    refine w_imul C dX3_pushOf_68 h.1 ?_
    replace h := h.2
    refine w_iadd C dX3_pushOf_69 h.1 ?_
    replace h := h.2
    exact x_iret C hr dX3_pushOf_70 hn (hQ _ h)
  · replace h := h.2 q
    refine w_iload_n C dX3_pushOf_21 rfl (mem_k 2 rfl) ?_
    refine w_aload_n C dX3_pushOf_22 rfl (mem_k 0 rfl) ?_
    refine x_getR C dX3_pushOf_23 fw_X3_9 (isO.n (ci := 3) ⟨rfl, ho0⟩ (hn.trans h3)) (fun r1 er1 => ?_)
    replace h := h r1 er1
    refine w_iload C dX3_pushOf_26 (mem_k 4 rfl) ?_
    obtain ⟨o2, g3, h⟩ := h
    refine x_iald C dX3_pushOf_28 (isA.n g3 (hn.trans h3)) ?_
    refine w_iload_n C dX3_pushOf_29 rfl (mem_k 1 rfl) ?_
    refine w_imul C dX3_pushOf_30 h.1 ?_
    replace h := h.2
    refine x_min C dX3_pushOf_31 hn mt_X3_31 (Nat.le_of_ble_eq_true rfl) ⟨by decide, by decide⟩ ?_
    refine x_nmI (fun v4 ev4 => ?_)
    replace h := h v4 ev4
    refine x_istore (L' := [(6, vI v4), (0, vR (some o0)), (2, vI x2), (3, vI x3), (4, vI x4), (5, vI x5)]) C dX3_pushOf_34 (by decide) rfl ?_
    refine w_iload C dX3_pushOf_36 (mem_k 4 rfl) ?_
    refine w_iload C dX3_pushOf_38 (mem_k 0 rfl) ?_
    refine w_aload_n C dX3_pushOf_40 rfl (mem_k 1 rfl) ?_
    refine x_getR C dX3_pushOf_41 fw_X3_15 (isO.n (ci := 3) ⟨rfl, ho0⟩ (hn.trans h3)) (fun r5 er5 => ?_)
    replace h := h r5 er5
    refine w_iload C dX3_pushOf_44 (mem_k 5 rfl) ?_
    obtain ⟨o6, g7, h⟩ := h
    refine x_iald C dX3_pushOf_46 (isA.n g7 (hn.trans h3)) ?_
    refine w_imul C dX3_pushOf_47 h.1 ?_
    replace h := h.2
    refine w_iadd C dX3_pushOf_48 h.1 ?_
    replace h := h.2
    refine x_nmI (fun v8 ev8 => ?_)
    replace h := h v8 ev8
    refine x_istore (L' := [(4, vI v8), (6, vI v4), (0, vR (some o0)), (2, vI x2), (3, vI x3), (5, vI x5)]) C dX3_pushOf_49 (by decide) rfl ?_
    refine w_iload_n C dX3_pushOf_51 rfl (mem_k 4 rfl) ?_
    refine w_iload C dX3_pushOf_52 (mem_k 1 rfl) ?_
    refine w_isub C dX3_pushOf_54 h.1 ?_
    replace h := h.2
    refine x_nmI (fun v9 ev9 => ?_)
    replace h := h v9 ev9
    refine x_istore_n (L' := [(3, vI v9), (4, vI v8), (6, vI v4), (0, vR (some o0)), (2, vI x2), (5, vI x5)]) C dX3_pushOf_55 rfl (by decide) rfl ?_
    obtain ⟨v10, ev10⟩ : ∃ z : Int, z = x5 + 1 := ⟨_, rfl⟩
    refine x_iinc (L' := [(5, vI v10), (3, vI v9), (4, vI v8), (6, vI v4), (0, vR (some o0)), (2, vI x2)]) C dX3_pushOf_56 (mem_k 5 rfl) (by decide) h.1 ev10 rfl ?_
    replace h := h.2 v10 ev10
    refine w_goto (tgt := 12) C dX3_pushOf_59 (by decide) ?_
    refine x_pc (pc2 := 12) rfl ?_
    refine x_pick (L' := [(0, vR (some o0)), (2, vI x2), (3, vI v9), (4, vI v8), (5, vI v10)]) [4, 5, 1, 2, 0] rfl ?_
    exact hK12 v9 v8 v10 h
set_option maxRecDepth 100000 in
set_option maxHeartbeats 4000000 in
theorem k_X3_pushOf_12 {o0 : Nat} {x2 : Int} {x3 : Int} {x4 : Int} {x5 : Int} {M : Mm} {Q : Int → Prop} (C : Cx p s m args meth c cX3_pushOf 7 RX3 D cy G n0) (hr : meth.sig.returnType = some .int) (h3 : n0 = 243) (hn : M.2.2.2 = n0) (ho0 : o0 < 243 ∧ (SH o0).1 = 3) (hQ : ∀ x, Q x → Qp (some (vI x)) M) (h : P_X3_pushOf_12 o0 x2 x3 x4 x5 M Q ) : WW p l e ({ frames := 1, cells := 0, slots := 0, locals := 21 }) s m args below meth c (ZQ below args s D cy G n0 Qp n0) 7 D cy G n0 12 [(0, vR (some o0)), (2, vI x2), (3, vI x3), (4, vI x4), (5, vI x5)] [] M := by
  refine lpW_sound (P := fun y : Int × Int × Int => WW p l e ({ frames := 1, cells := 0, slots := 0, locals := 21 }) s m args below meth c (ZQ below args s D cy G n0 Qp n0) 7 D cy G n0 12 [(0, vR (some o0)), (2, vI x2), (3, vI y.1), (4, vI y.2.1), (5, vI y.2.2)] [] M) ?_ h
  intro K y hK hF
  obtain ⟨x3, x4, x5⟩ := y
  exact f_X3_pushOf_12 C hr h3 hn ho0 hQ  (fun x3 x4 x5 hk => hK (x3, x4, x5) hk) hF
set_option maxRecDepth 100000 in
set_option maxHeartbeats 4000000 in
theorem k_X3_pushOf_0 {o0 : Nat} {x1 : Int} {x2 : Int} {M : Mm} {Q : Int → Prop} (C : Cx p s m args meth c cX3_pushOf 7 RX3 D cy G n0) (hr : meth.sig.returnType = some .int) (h3 : n0 = 243) (hn : M.2.2.2 = n0) (ho0 : o0 < 243 ∧ (SH o0).1 = 3) (hQ : ∀ x, Q x → Qp (some (vI x)) M) (h : P_X3_pushOf o0 x1 x2 M Q ) : WW p l e ({ frames := 1, cells := 0, slots := 0, locals := 21 }) s m args below meth c (ZQ below args s D cy G n0 Qp n0) 7 D cy G n0 0 [(0, vR (some o0)), (1, vI x1), (2, vI x2)] [] M := by
  unfold P_X3_pushOf at h
  refine w_iconst C dX3_pushOf_0 ⟨by decide, by decide⟩ ?_
  refine w_iload_n C dX3_pushOf_1 rfl (mem_k 1 rfl) ?_
  refine x_max C dX3_pushOf_2 hn mt_X3_25 (Nat.le_of_ble_eq_true rfl) ⟨by decide, by decide⟩ ?_
  refine x_nmI (fun v11 ev11 => ?_)
  replace h := h v11 ev11
  refine x_istore_n (L' := [(3, vI v11), (0, vR (some o0)), (1, vI x1), (2, vI x2)]) C dX3_pushOf_5 rfl (by decide) rfl ?_
  refine w_iconst C dX3_pushOf_6 ⟨by decide, by decide⟩ ?_
  refine x_istore (L' := [(4, vI 0), (3, vI v11), (0, vR (some o0)), (1, vI x1), (2, vI x2)]) C dX3_pushOf_7 (by decide) rfl ?_
  refine w_iconst C dX3_pushOf_9 ⟨by decide, by decide⟩ ?_
  refine x_istore (L' := [(5, vI 0), (4, vI 0), (3, vI v11), (0, vR (some o0)), (1, vI x1), (2, vI x2)]) C dX3_pushOf_10 (by decide) rfl ?_
  refine x_pc (pc2 := 12) rfl ?_
  refine x_pick (L' := [(0, vR (some o0)), (2, vI x2), (3, vI v11), (4, vI 0), (5, vI 0)]) [3, 5, 2, 1, 0] rfl ?_
  exact k_X3_pushOf_12 C hr h3 hn ho0 hQ  h
set_option maxRecDepth 100000 in
set_option maxHeartbeats 4000000 in
theorem con_X3_pushOf (l : Launch) (D : va_G) (cy : Nat → ClassId) : Con l D cy yX3_pushOf cX3_pushOf 7 (some .int) ({ frames := 1, cells := 0, slots := 0, locals := 21 }) 0 0 SP_X3_pushOf := by
  refine con_of (by decide) (fun as M Qp h => ?_) ?_
  · obtain ⟨-, o0, x1, x2, rfl, -⟩ := h
    exact Nat.le_of_ble_eq_true rfl
  · intro p e s m args below meth c G as M Qp h C hr hnm
    obtain ⟨hn, o0, x1, x2, rfl, ho1, ho2, Q0, hQ, h⟩ := h
    refine x_pick (L' := [(0, vR (some o0)), (1, vI x1), (2, vI x2)]) [0, 1, 2] rfl ?_
    exact k_X3_pushOf_0 C hr hn rfl ⟨ho1, ho2⟩ hQ h
set_option maxRecDepth 100000 in
set_option maxHeartbeats 4000000 in
theorem cl_X3_pushOf {p : Program} {l : Launch} {e : Env} {R : Room} {s : State} {m : MethodId} {args : Array Value} {below : List Frame} {meth : Method} {c : Code} {Q : State → Prop} {cc : ByteArray} {nL : Nat} {own : String} {D : va_G} {cy : Nat → ClassId} {G : Nat × Nat} {n0 pc : Nat} {L : List (Nat × PV)} {st : List PV} {M : Mm} {op : Instr} (K : CallOK l D cy R own op 0 0 (spV 3 2 SP_X3_pushOf)) (C : Cx p s m args meth c cc nL own D cy G n0) (hd : decode cc pc = .ok (op, 3)) (hn : M.2.2.2 = n0) (h3 : n0 = 243) (hlen : argN st ≤ 8) {r : Option Nat} {o0 : Nat} (ho : isOn 3 M.2.2.2 r o0) {x1 : Int} {x2 : Int} {Q0 : Int → Prop} (h : P_X3_pushOf o0 x1 x2 M Q0) (k : ∀ x, Q0 x → WW p l e R s m args below meth c Q nL D cy G n0  (pc + 3) L (vI x :: st) M) : WW p l e R s m args below meth c Q nL D cy G n0  pc L (vI x2 :: vI x1 :: vR r :: st) M := by
  obtain ⟨rfl, ho1, ho2⟩ := ho
  refine x_call0 K C hd (as := [vR (some o0), vI x1, vI x2]) rfl hn hlen (fun v M2 => ∃ x, v = some (vI x) ∧ M2 = M ∧ Q0 x) ⟨⟨o0, [vI x1, vI x2], rfl, rfl, ho1, ho2⟩, hn.trans h3, o0, x1, x2, rfl, (hn.trans h3) ▸ ho1, ho2, Q0, fun x hx => ⟨x, rfl, rfl, hx⟩, h⟩ ?_
  rintro _ _ ⟨x, rfl, rfl, hx⟩ hm
  exact k x hx
end W_X3_pushOf
theorem dX11_commonDivisor_0 : decode cX11_commonDivisor 0 = .ok (.iload_n 0, 1) := by decide +kernel
theorem dX11_commonDivisor_1 : decode cX11_commonDivisor 1 = .ok (.invokestatic 296, 3) := by decide +kernel
theorem dX11_commonDivisor_4 : decode cX11_commonDivisor 4 = .ok (.istore_n 2, 1) := by decide +kernel
theorem dX11_commonDivisor_5 : decode cX11_commonDivisor 5 = .ok (.iload_n 1, 1) := by decide +kernel
theorem dX11_commonDivisor_6 : decode cX11_commonDivisor 6 = .ok (.invokestatic 296, 3) := by decide +kernel
theorem dX11_commonDivisor_9 : decode cX11_commonDivisor 9 = .ok (.istore_n 3, 1) := by decide +kernel
theorem dX11_commonDivisor_10 : decode cX11_commonDivisor 10 = .ok (.iconst 0, 1) := by decide +kernel
theorem dX11_commonDivisor_11 : decode cX11_commonDivisor 11 = .ok (.istore 4, 2) := by decide +kernel
theorem dX11_commonDivisor_13 : decode cX11_commonDivisor 13 = .ok (.iload 4, 2) := by decide +kernel
theorem dX11_commonDivisor_15 : decode cX11_commonDivisor 15 = .ok (.bipush 100, 2) := by decide +kernel
theorem dX11_commonDivisor_17 : decode cX11_commonDivisor 17 = .ok (.if_icmp .ge 23, 3) := by decide +kernel
theorem dX11_commonDivisor_20 : decode cX11_commonDivisor 20 = .ok (.iload_n 3, 1) := by decide +kernel
theorem dX11_commonDivisor_21 : decode cX11_commonDivisor 21 = .ok (.ifCond .le 19, 3) := by decide +kernel
theorem dX11_commonDivisor_24 : decode cX11_commonDivisor 24 = .ok (.iload_n 2, 1) := by decide +kernel
theorem dX11_commonDivisor_25 : decode cX11_commonDivisor 25 = .ok (.iload_n 3, 1) := by decide +kernel
theorem dX11_commonDivisor_26 : decode cX11_commonDivisor 26 = .ok (.irem, 1) := by decide +kernel
theorem dX11_commonDivisor_27 : decode cX11_commonDivisor 27 = .ok (.istore 5, 2) := by decide +kernel
theorem dX11_commonDivisor_29 : decode cX11_commonDivisor 29 = .ok (.iload_n 3, 1) := by decide +kernel
theorem dX11_commonDivisor_30 : decode cX11_commonDivisor 30 = .ok (.istore_n 2, 1) := by decide +kernel
theorem dX11_commonDivisor_31 : decode cX11_commonDivisor 31 = .ok (.iload 5, 2) := by decide +kernel
theorem dX11_commonDivisor_33 : decode cX11_commonDivisor 33 = .ok (.istore_n 3, 1) := by decide +kernel
theorem dX11_commonDivisor_34 : decode cX11_commonDivisor 34 = .ok (.iinc 4 1, 3) := by decide +kernel
theorem dX11_commonDivisor_37 : decode cX11_commonDivisor 37 = .ok (.goto (-24), 3) := by decide +kernel
theorem dX11_commonDivisor_40 : decode cX11_commonDivisor 40 = .ok (.iconst 1, 1) := by decide +kernel
theorem dX11_commonDivisor_41 : decode cX11_commonDivisor 41 = .ok (.iload_n 2, 1) := by decide +kernel
theorem dX11_commonDivisor_42 : decode cX11_commonDivisor 42 = .ok (.invokestatic 301, 3) := by decide +kernel
theorem dX11_commonDivisor_45 : decode cX11_commonDivisor 45 = .ok (.ireturn, 1) := by decide +kernel
theorem mt_X11_301 : mtOK RX11 301 Lib.Math.max.name := lwG_2 (i := 231) rfl rfl
theorem mt_X11_296 : mtOK RX11 296 Lib.Math.abs.name := lwG_2 (i := 228) rfl rfl
section W_X11_commonDivisor
variable {p : Program} {l : Launch} {e : Env} {s : State} {m : MethodId} {args : Array Value} {below : List Frame} {meth : Method} {c : Code} {D : va_G} {cy : Nat → ClassId} {G : Nat × Nat} {n0 : Nat} {Qp : Option PV → Mm → Prop}
set_option maxRecDepth 100000 in
set_option maxHeartbeats 4000000 in
theorem k_X11_commonDivisor_40 {x2 : Int} {M : Mm} {Q : Int → Prop} (C : Cx p s m args meth c cX11_commonDivisor 6 RX11 D cy G n0) (hr : meth.sig.returnType = some .int) (h3 : n0 = 243) (hn : M.2.2.2 = n0) (hQ : ∀ x, Q x → Qp (some (vI x)) M) (h : P_X11_commonDivisor_40 x2 M Q ) : WW p l e ({ frames := 1, cells := 0, slots := 0, locals := 21 }) s m args below meth c (ZQ below args s D cy G n0 Qp n0) 6 D cy G n0 40 [(2, vI x2)] [] M := by
  unfold P_X11_commonDivisor_40 at h
  refine w_iconst C dX11_commonDivisor_40 ⟨by decide, by decide⟩ ?_
  refine w_iload_n C dX11_commonDivisor_41 rfl (mem_k 0 rfl) ?_
  refine x_max C dX11_commonDivisor_42 hn mt_X11_301 (Nat.le_of_ble_eq_true rfl) ⟨by decide, by decide⟩ ?_
  exact x_iret C hr dX11_commonDivisor_45 hn (hQ _ h)
set_option maxRecDepth 100000 in
set_option maxHeartbeats 4000000 in
theorem f_X11_commonDivisor_13 {x2 : Int} {x3 : Int} {x4 : Int} {M : Mm} {Q : Int → Prop} {K13 : Int × Int × Int → Prop} (C : Cx p s m args meth c cX11_commonDivisor 6 RX11 D cy G n0) (hr : meth.sig.returnType = some .int) (h3 : n0 = 243) (hn : M.2.2.2 = n0) (hQ : ∀ x, Q x → Qp (some (vI x)) M) (hK13 : ∀ (x2 : Int) (x3 : Int) (x4 : Int), K13 (x2, x3, x4) → WW p l e ({ frames := 1, cells := 0, slots := 0, locals := 21 }) s m args below meth c (ZQ below args s D cy G n0 Qp n0) 6 D cy G n0 13 [(2, vI x2), (3, vI x3), (4, vI x4)] [] M) (h : F_X11_commonDivisor_13  M Q  K13 x2 x3 x4) : WW p l e ({ frames := 1, cells := 0, slots := 0, locals := 21 }) s m args below meth c (ZQ below args s D cy G n0 Qp n0) 6 D cy G n0 13 [(2, vI x2), (3, vI x3), (4, vI x4)] [] M := by
  unfold F_X11_commonDivisor_13 at h
  refine w_iload C dX11_commonDivisor_13 (mem_k 2 rfl) ?_
  refine w_bipush C dX11_commonDivisor_15 (by decide) ?_
  refine w_icmp_ge (tgt := 40) C dX11_commonDivisor_17 (by decide) (fun q => ?_) (fun q => ?_)
  · replace h := h.1 q
    refine x_pc (pc2 := 40) rfl ?_
    refine x_pick (L' := [(2, vI x2)]) [0] rfl ?_
    exact k_X11_commonDivisor_40 C hr h3 hn hQ  h
  · replace h := h.2 q
    refine w_iload_n C dX11_commonDivisor_20 rfl (mem_k 1 rfl) ?_
    refine w_if_le (tgt := 40) C dX11_commonDivisor_21 (by decide) (fun q => ?_) (fun q => ?_)
    · replace h := h.1 q
      refine x_pc (pc2 := 40) rfl ?_
      refine x_pick (L' := [(2, vI x2)]) [0] rfl ?_
      exact k_X11_commonDivisor_40 C hr h3 hn hQ  h
    · replace h := h.2 q
      refine w_iload_n C dX11_commonDivisor_24 rfl (mem_k 0 rfl) ?_
      refine w_iload_n C dX11_commonDivisor_25 rfl (mem_k 1 rfl) ?_
      refine x_irem C dX11_commonDivisor_26 h.1 ?_
      replace h := h.2
      refine x_nmI (fun v1 ev1 => ?_)
      replace h := h v1 ev1
      refine x_istore (L' := [(5, vI v1), (2, vI x2), (3, vI x3), (4, vI x4)]) C dX11_commonDivisor_27 (by decide) rfl ?_
      refine w_iload_n C dX11_commonDivisor_29 rfl (mem_k 2 rfl) ?_
      refine x_istore_n (L' := [(2, vI x3), (5, vI v1), (3, vI x3), (4, vI x4)]) C dX11_commonDivisor_30 rfl (by decide) rfl ?_
      refine w_iload C dX11_commonDivisor_31 (mem_k 1 rfl) ?_
      refine x_istore_n (L' := [(3, vI v1), (2, vI x3), (5, vI v1), (4, vI x4)]) C dX11_commonDivisor_33 rfl (by decide) rfl ?_
      obtain ⟨v2, ev2⟩ : ∃ z : Int, z = x4 + 1 := ⟨_, rfl⟩
      refine x_iinc (L' := [(4, vI v2), (3, vI v1), (2, vI x3), (5, vI v1)]) C dX11_commonDivisor_34 (mem_k 3 rfl) (by decide) h.1 ev2 rfl ?_
      replace h := h.2 v2 ev2
      refine w_goto (tgt := 13) C dX11_commonDivisor_37 (by decide) ?_
      refine x_pc (pc2 := 13) rfl ?_
      refine x_pick (L' := [(2, vI x3), (3, vI v1), (4, vI v2)]) [2, 1, 0] rfl ?_
      exact hK13 x3 v1 v2 h
set_option maxRecDepth 100000 in
set_option maxHeartbeats 4000000 in
theorem k_X11_commonDivisor_13 {x2 : Int} {x3 : Int} {x4 : Int} {M : Mm} {Q : Int → Prop} (C : Cx p s m args meth c cX11_commonDivisor 6 RX11 D cy G n0) (hr : meth.sig.returnType = some .int) (h3 : n0 = 243) (hn : M.2.2.2 = n0) (hQ : ∀ x, Q x → Qp (some (vI x)) M) (h : P_X11_commonDivisor_13 x2 x3 x4 M Q ) : WW p l e ({ frames := 1, cells := 0, slots := 0, locals := 21 }) s m args below meth c (ZQ below args s D cy G n0 Qp n0) 6 D cy G n0 13 [(2, vI x2), (3, vI x3), (4, vI x4)] [] M := by
  refine lpW_sound (P := fun y : Int × Int × Int => WW p l e ({ frames := 1, cells := 0, slots := 0, locals := 21 }) s m args below meth c (ZQ below args s D cy G n0 Qp n0) 6 D cy G n0 13 [(2, vI y.1), (3, vI y.2.1), (4, vI y.2.2)] [] M) ?_ h
  intro K y hK hF
  obtain ⟨x2, x3, x4⟩ := y
  exact f_X11_commonDivisor_13 C hr h3 hn hQ  (fun x2 x3 x4 hk => hK (x2, x3, x4) hk) hF
set_option maxRecDepth 100000 in
set_option maxHeartbeats 4000000 in
theorem k_X11_commonDivisor_0 {x0 : Int} {x1 : Int} {M : Mm} {Q : Int → Prop} (C : Cx p s m args meth c cX11_commonDivisor 6 RX11 D cy G n0) (hr : meth.sig.returnType = some .int) (h3 : n0 = 243) (hn : M.2.2.2 = n0) (hQ : ∀ x, Q x → Qp (some (vI x)) M) (h : P_X11_commonDivisor x0 x1 M Q ) : WW p l e ({ frames := 1, cells := 0, slots := 0, locals := 21 }) s m args below meth c (ZQ below args s D cy G n0 Qp n0) 6 D cy G n0 0 [(0, vI x0), (1, vI x1)] [] M := by
  unfold P_X11_commonDivisor at h
  refine w_iload_n C dX11_commonDivisor_0 rfl (mem_k 0 rfl) ?_
  refine x_abs C dX11_commonDivisor_1 hn mt_X11_296 (Nat.le_of_ble_eq_true rfl) ⟨by decide, by decide⟩ h.1 ?_
  replace h := h.2
  refine x_nmI (fun v3 ev3 => ?_)
  replace h := h v3 ev3
  refine x_istore_n (L' := [(2, vI v3), (0, vI x0), (1, vI x1)]) C dX11_commonDivisor_4 rfl (by decide) rfl ?_
  refine w_iload_n C dX11_commonDivisor_5 rfl (mem_k 2 rfl) ?_
  refine x_abs C dX11_commonDivisor_6 hn mt_X11_296 (Nat.le_of_ble_eq_true rfl) ⟨by decide, by decide⟩ h.1 ?_
  replace h := h.2
  refine x_nmI (fun v4 ev4 => ?_)
  replace h := h v4 ev4
  refine x_istore_n (L' := [(3, vI v4), (2, vI v3), (0, vI x0), (1, vI x1)]) C dX11_commonDivisor_9 rfl (by decide) rfl ?_
  refine w_iconst C dX11_commonDivisor_10 ⟨by decide, by decide⟩ ?_
  refine x_istore (L' := [(4, vI 0), (3, vI v4), (2, vI v3), (0, vI x0), (1, vI x1)]) C dX11_commonDivisor_11 (by decide) rfl ?_
  refine x_pc (pc2 := 13) rfl ?_
  refine x_pick (L' := [(2, vI v3), (3, vI v4), (4, vI 0)]) [2, 1, 0] rfl ?_
  exact k_X11_commonDivisor_13 C hr h3 hn hQ  h
set_option maxRecDepth 100000 in
set_option maxHeartbeats 4000000 in
theorem con_X11_commonDivisor (l : Launch) (D : va_G) (cy : Nat → ClassId) : Con l D cy yX11_commonDivisor cX11_commonDivisor 6 (some .int) ({ frames := 1, cells := 0, slots := 0, locals := 21 }) 0 0 SP_X11_commonDivisor := by
  refine con_of (by decide) (fun as M Qp h => ?_) ?_
  · obtain ⟨-, x0, x1, rfl, -⟩ := h
    exact Nat.le_of_ble_eq_true rfl
  · intro p e s m args below meth c G as M Qp h C hr hnm
    obtain ⟨hn, x0, x1, rfl, Q0, hQ, h⟩ := h
    refine x_pick (L' := [(0, vI x0), (1, vI x1)]) [0, 1] rfl ?_
    exact k_X11_commonDivisor_0 C hr hn rfl hQ h
set_option maxRecDepth 100000 in
set_option maxHeartbeats 4000000 in
theorem cl_X11_commonDivisor {p : Program} {l : Launch} {e : Env} {R : Room} {s : State} {m : MethodId} {args : Array Value} {below : List Frame} {meth : Method} {c : Code} {Q : State → Prop} {cc : ByteArray} {nL : Nat} {own : String} {D : va_G} {cy : Nat → ClassId} {G : Nat × Nat} {n0 pc : Nat} {L : List (Nat × PV)} {st : List PV} {M : Mm} {op : Instr} (K : CallOK l D cy R own op 0 0 (spS 2 SP_X11_commonDivisor)) (C : Cx p s m args meth c cc nL own D cy G n0) (hd : decode cc pc = .ok (op, 3)) (hn : M.2.2.2 = n0) (h3 : n0 = 243) (hlen : argN st ≤ 8) {x0 : Int} {x1 : Int} {Q0 : Int → Prop} (h : P_X11_commonDivisor x0 x1 M Q0) (k : ∀ x, Q0 x → WW p l e R s m args below meth c Q nL D cy G n0  (pc + 3) L (vI x :: st) M) : WW p l e R s m args below meth c Q nL D cy G n0  pc L (vI x1 :: vI x0 :: st) M := by
  refine x_call0 K C hd (as := [vI x0, vI x1]) rfl hn hlen (fun v M2 => ∃ x, v = some (vI x) ∧ M2 = M ∧ Q0 x) ⟨rfl, hn.trans h3, x0, x1, rfl, Q0, fun x hx => ⟨x, rfl, rfl, hx⟩, h⟩ ?_
  rintro _ _ ⟨x, rfl, rfl, hx⟩ hm
  exact k x hx
end W_X11_commonDivisor
theorem dJ6_compare_7cf53_0 : decode cJ6_compare_7cf53 0 = .ok (.iload_n 0, 1) := by decide +kernel
theorem dJ6_compare_7cf53_1 : decode cJ6_compare_7cf53 1 = .ok (.iload_n 1, 1) := by decide +kernel
theorem dJ6_compare_7cf53_2 : decode cJ6_compare_7cf53 2 = .ok (.if_icmp .ge 7, 3) := by decide +kernel
theorem dJ6_compare_7cf53_5 : decode cJ6_compare_7cf53 5 = .ok (.iconst (-1), 1) := by decide +kernel
theorem dJ6_compare_7cf53_6 : decode cJ6_compare_7cf53 6 = .ok (.goto 13, 3) := by decide +kernel
theorem dJ6_compare_7cf53_9 : decode cJ6_compare_7cf53 9 = .ok (.iload_n 0, 1) := by decide +kernel
theorem dJ6_compare_7cf53_10 : decode cJ6_compare_7cf53 10 = .ok (.iload_n 1, 1) := by decide +kernel
theorem dJ6_compare_7cf53_11 : decode cJ6_compare_7cf53 11 = .ok (.if_icmp .ne 7, 3) := by decide +kernel
theorem dJ6_compare_7cf53_14 : decode cJ6_compare_7cf53 14 = .ok (.iconst 0, 1) := by decide +kernel
theorem dJ6_compare_7cf53_15 : decode cJ6_compare_7cf53 15 = .ok (.goto 4, 3) := by decide +kernel
theorem dJ6_compare_7cf53_18 : decode cJ6_compare_7cf53 18 = .ok (.iconst 1, 1) := by decide +kernel
theorem dJ6_compare_7cf53_19 : decode cJ6_compare_7cf53 19 = .ok (.ireturn, 1) := by decide +kernel
section W_J6_compare_7cf53
variable {p : Program} {l : Launch} {e : Env} {s : State} {m : MethodId} {args : Array Value} {below : List Frame} {meth : Method} {c : Code} {D : va_G} {cy : Nat → ClassId} {G : Nat × Nat} {n0 : Nat} {Qp : Option PV → Mm → Prop}
set_option maxRecDepth 100000 in
set_option maxHeartbeats 4000000 in
theorem k_J6_compare_7cf53_0 {x0 : Int} {x1 : Int} {M : Mm} {Q : Int → Prop} (C : Cx p s m args meth c cJ6_compare_7cf53 2 RJ6 D cy G n0) (hr : meth.sig.returnType = some .int) (h3 : n0 = 243) (hn : M.2.2.2 = n0) (hQ : ∀ x, Q x → Qp (some (vI x)) M) (h : P_J6_compare_7cf53 x0 x1 M Q ) : WW p l e ({ frames := 0, cells := 0, slots := 0, locals := 0 }) s m args below meth c (ZQ below args s D cy G n0 Qp n0) 2 D cy G n0 0 [(0, vI x0), (1, vI x1)] [] M := by
  unfold P_J6_compare_7cf53 at h
  refine w_iload_n C dJ6_compare_7cf53_0 rfl (mem_k 0 rfl) ?_
  refine w_iload_n C dJ6_compare_7cf53_1 rfl (mem_k 1 rfl) ?_
  refine w_icmp_ge (tgt := 9) C dJ6_compare_7cf53_2 (by decide) (fun q => ?_) (fun q => ?_)
  · replace h := h.1 q
    refine w_iload_n C dJ6_compare_7cf53_9 rfl (mem_k 0 rfl) ?_
    refine w_iload_n C dJ6_compare_7cf53_10 rfl (mem_k 1 rfl) ?_
    refine w_icmp_ne (tgt := 18) C dJ6_compare_7cf53_11 (by decide) (fun q => ?_) (fun q => ?_)
    · replace h := h.1 q
      refine w_iconst C dJ6_compare_7cf53_18 ⟨by decide, by decide⟩ ?_
      exact x_iret C hr dJ6_compare_7cf53_19 hn (hQ _ h)
    · replace h := h.2 q
      refine w_iconst C dJ6_compare_7cf53_14 ⟨by decide, by decide⟩ ?_
      refine w_goto (tgt := 19) C dJ6_compare_7cf53_15 (by decide) ?_
      exact x_iret C hr dJ6_compare_7cf53_19 hn (hQ _ h)
  · replace h := h.2 q
    refine w_iconst C dJ6_compare_7cf53_5 ⟨by decide, by decide⟩ ?_
    refine w_goto (tgt := 19) C dJ6_compare_7cf53_6 (by decide) ?_
    exact x_iret C hr dJ6_compare_7cf53_19 hn (hQ _ h)
set_option maxRecDepth 100000 in
set_option maxHeartbeats 4000000 in
theorem con_J6_compare_7cf53 (l : Launch) (D : va_G) (cy : Nat → ClassId) : Con l D cy yJ6_compare_7cf53 cJ6_compare_7cf53 2 (some .int) ({ frames := 0, cells := 0, slots := 0, locals := 0 }) 0 0 SP_J6_compare_7cf53 := by
  refine con_of (by decide) (fun as M Qp h => ?_) ?_
  · obtain ⟨-, x0, x1, rfl, -⟩ := h
    exact Nat.le_of_ble_eq_true rfl
  · intro p e s m args below meth c G as M Qp h C hr hnm
    obtain ⟨hn, x0, x1, rfl, Q0, hQ, h⟩ := h
    refine x_pick (L' := [(0, vI x0), (1, vI x1)]) [0, 1] rfl ?_
    exact k_J6_compare_7cf53_0 C hr hn rfl hQ h
set_option maxRecDepth 100000 in
set_option maxHeartbeats 4000000 in
theorem cl_J6_compare_7cf53 {p : Program} {l : Launch} {e : Env} {R : Room} {s : State} {m : MethodId} {args : Array Value} {below : List Frame} {meth : Method} {c : Code} {Q : State → Prop} {cc : ByteArray} {nL : Nat} {own : String} {D : va_G} {cy : Nat → ClassId} {G : Nat × Nat} {n0 pc : Nat} {L : List (Nat × PV)} {st : List PV} {M : Mm} {op : Instr} (K : CallOK l D cy R own op 0 0 (spS 2 SP_J6_compare_7cf53)) (C : Cx p s m args meth c cc nL own D cy G n0) (hd : decode cc pc = .ok (op, 3)) (hn : M.2.2.2 = n0) (h3 : n0 = 243) (hlen : argN st ≤ 8) {x0 : Int} {x1 : Int} {Q0 : Int → Prop} (h : P_J6_compare_7cf53 x0 x1 M Q0) (k : ∀ x, Q0 x → WW p l e R s m args below meth c Q nL D cy G n0  (pc + 3) L (vI x :: st) M) : WW p l e R s m args below meth c Q nL D cy G n0  pc L (vI x1 :: vI x0 :: st) M := by
  refine x_call0 K C hd (as := [vI x0, vI x1]) rfl hn hlen (fun v M2 => ∃ x, v = some (vI x) ∧ M2 = M ∧ Q0 x) ⟨rfl, hn.trans h3, x0, x1, rfl, Q0, fun x hx => ⟨x, rfl, rfl, hx⟩, h⟩ ?_
  rintro _ _ ⟨x, rfl, rfl, hx⟩ hm
  exact k x hx
end W_J6_compare_7cf53
