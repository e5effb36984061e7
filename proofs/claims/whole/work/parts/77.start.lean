/-! THE START: the tables' words as the walks want them, and the law from its entry -/
theorem kw_of {s : State} {args : Array Value} (hts : ∀ w ∈ lw_tbl, w.before args s = true) : ∃ (D : va_G) (cy : Nat → ClassId), KW D cy s := by
  obtain ⟨c0, i0, k0⟩ := u_known (C := RX0) (T := TX0) (N := 8) (n := 8) hts (fun w h => (inG0 w h).1) (hts (.instantiable RX0 8) (List.mem_append_right _ (List.mem_append_left _ (List.mem_of_getElem? (i := 161) rfl))))
  obtain ⟨c1, i1, k1⟩ := u_known (C := RX1) (T := TX1) (N := 4) (n := 4) hts (fun w h => (inG1 w h).1) (hts (.instantiable RX1 4) (List.mem_append_right _ (List.mem_append_left _ (List.mem_of_getElem? (i := 154) rfl))))
  obtain ⟨c2, i2, k2⟩ := u_known (C := RX2) (T := TX2) (N := 4) (n := 4) hts (fun w h => (inG2 w h).1) (hts (.instantiable RX2 4) (List.mem_append_right _ (List.mem_append_right _ (List.mem_append_left _ (List.mem_of_getElem? (i := 10) rfl)))))
  obtain ⟨c3, i3, k3⟩ := u_known (C := RX3) (T := TX3) (N := 4) (n := 4) hts (fun w h => (inG3 w h).1) (hts (.instantiable RX3 4) (List.mem_append_right _ (List.mem_append_left _ (List.mem_of_getElem? (i := 56) rfl))))
  obtain ⟨c4, i4, k4⟩ := u_known (C := RX4) (T := TX4) (N := 4) (n := 4) hts (fun w h => (inG4 w h).1) (hts (.instantiable RX4 4) (List.mem_append_right _ (List.mem_append_left _ (List.mem_of_getElem? (i := 83) rfl))))
  obtain ⟨c5, i5, k5⟩ := u_known (C := RX5) (T := TX5) (N := 4) (n := 4) hts (fun w h => (inG5 w h).1) (hts (.instantiable RX5 4) (List.mem_append_right _ (List.mem_append_left _ (List.mem_of_getElem? (i := 47) rfl))))
  obtain ⟨c6, i6, k6⟩ := u_known (C := RX6) (T := TX6) (N := 8) (n := 8) hts (fun w h => (inG6 w h).1) (hts (.instantiable RX6 8) (List.mem_append_right _ (List.mem_append_left _ (List.mem_of_getElem? (i := 217) rfl))))
  obtain ⟨c7, i7, k7⟩ := u_known (C := RX7) (T := TX7) (N := 1) (n := 1) hts (fun w h => (inG7 w h).1) (hts (.instantiable RX7 1) (List.mem_append_right _ (List.mem_append_right _ (List.mem_append_left _ (List.mem_of_getElem? (i := 31) rfl)))))
  obtain ⟨c8, i8, k8⟩ := u_known (C := RX8) (T := TX8) (N := 7) (n := 7) hts (fun w h => (inG8 w h).1) (hts (.instantiable RX8 7) (List.mem_append_right _ (List.mem_append_left _ (List.mem_of_getElem? (i := 76) rfl))))
  obtain ⟨c9, i9, k9⟩ := u_known (C := RX9) (T := TX9) (N := 4) (n := 4) hts (fun w h => (inG9 w h).1) (hts (.instantiable RX9 4) (List.mem_append_right _ (List.mem_append_left _ (List.mem_of_getElem? (i := 25) rfl))))
  obtain ⟨c10, i10, k10⟩ := u_known (C := RX10) (T := TX10) (N := 4) (n := 4) hts (fun w h => (inG10 w h).1) (hts (.instantiable RX10 4) (List.mem_append_right _ (List.mem_append_right _ (List.mem_append_left _ (List.mem_of_getElem? (i := 41) rfl)))))
  obtain ⟨c11, i11, k11⟩ := u_known (C := RX11) (T := TX11) (N := 8) (n := 8) hts (fun w h => (inG11 w h).1) (hts (.instantiable RX11 8) (List.mem_append_right _ (List.mem_append_left _ (List.mem_of_getElem? (i := 17) rfl))))
  obtain ⟨c12, i12, k12⟩ := u_known (C := RX12) (T := TX12) (N := 30) (n := 30) hts (fun w h => (inG12 w h).1) (hts (.instantiable RX12 30) (List.mem_append_right _ (List.mem_append_right _ (List.mem_append_right _ (List.mem_append_right _ (List.mem_append_left _ (List.mem_of_getElem? (i := 59) rfl)))))))
  obtain ⟨a13, ka13, co13, f13, g13, h13⟩ := Cond.arrayClass_spec (hts (.arrayClass .byte) (List.mem_append_right _ (List.mem_append_left _ (List.mem_of_getElem? (i := 44) rfl))))
  obtain ⟨a14, ka14, co14, f14, g14, h14⟩ := Cond.arrayClass_spec (hts (.arrayClass .int) (List.mem_append_right _ (List.mem_append_left _ (List.mem_of_getElem? (i := 45) rfl))))
  have ao15 : (Cond.arrayOver (.object RX0)).before args s = true := hts _ (List.mem_append_right _ (List.mem_append_left _ (List.mem_of_getElem? (i := 160) rfl)))
  obtain ⟨co15, a15, ka15, e15, -, g15, h15, f15⟩ := Cond.arrayOver_spec ao15
  have ao16 : (Cond.arrayOver (.object RX3)).before args s = true := hts _ (List.mem_append_right _ (List.mem_append_left _ (List.mem_of_getElem? (i := 53) rfl)))
  obtain ⟨co16, a16, ka16, e16, -, g16, h16, f16⟩ := Cond.arrayOver_spec ao16
  have ao17 : (Cond.arrayOver (.object RX4)).before args s = true := hts _ (List.mem_append_right _ (List.mem_append_left _ (List.mem_of_getElem? (i := 82) rfl)))
  obtain ⟨co17, a17, ka17, e17, -, g17, h17, f17⟩ := Cond.arrayOver_spec ao17
  have ao18 : (Cond.arrayOver (.object RX8)).before args s = true := hts _ (List.mem_append_right _ (List.mem_append_left _ (List.mem_of_getElem? (i := 55) rfl)))
  obtain ⟨co18, a18, ka18, e18, -, g18, h18, f18⟩ := Cond.arrayOver_spec ao18
  refine ⟨(fun k => match k with | 0 => c0 | 1 => c1 | 2 => c2 | 3 => c3 | 4 => c4 | 5 => c5 | 6 => c6 | 7 => c7 | 8 => c8 | 9 => c9 | 10 => c10 | 11 => c11 | _ => c12, fun k => match k with | 0 => i0 | 1 => i1 | 2 => i2 | 3 => i3 | 4 => i4 | 5 => i5 | 6 => i6 | 7 => i7 | 8 => i8 | 9 => i9 | 10 => i10 | 11 => i11 | _ => i12), fun k => match k with | 13 => a13 | 14 => a14 | 15 => a15 | 16 => a16 | 17 => a17 | _ => a18, ⟨fun k q hq => ?_, fun k q hq => ?_⟩, fun w hw => ?_, fun C hC => ?_⟩
  · match k, hq with
    | 0, hq => cases hq; exact k0
    | 1, hq => cases hq; exact k1
    | 2, hq => cases hq; exact k2
    | 3, hq => cases hq; exact k3
    | 4, hq => cases hq; exact k4
    | 5, hq => cases hq; exact k5
    | 6, hq => cases hq; exact k6
    | 7, hq => cases hq; exact k7
    | 8, hq => cases hq; exact k8
    | 9, hq => cases hq; exact k9
    | 10, hq => cases hq; exact k10
    | 11, hq => cases hq; exact k11
    | 12, hq => cases hq; exact k12
    | k + 13, hq => simp [vwCl] at hq
  · match k, hq with
    | 0, hq => cases hq; exact ⟨fun n z => ⟨fun j h => (by cases h), ka13, g13, co13, h13⟩, f13⟩
    | 1, hq => cases hq; exact ⟨fun n z => ⟨fun j h => (by cases h), ka14, g14, co14, h14⟩, f14⟩
    | 2, hq => cases hq; exact ⟨fun n z => ⟨fun j h => (by cases h), ka15, g15, co15, h15⟩, ka15, co15, g15, h15, e15, f15⟩
    | 3, hq => cases hq; exact ⟨fun n z => ⟨fun j h => (by cases h), ka16, g16, co16, h16⟩, ka16, co16, g16, h16, e16, f16⟩
    | 4, hq => cases hq; exact ⟨fun n z => ⟨fun j h => (by cases h), ka17, g17, co17, h17⟩, ka17, co17, g17, h17, e17, f17⟩
    | 5, hq => cases hq; exact ⟨fun n z => ⟨fun j h => (by cases h), ka18, g18, co18, h18⟩, ka18, co18, g18, h18, e18, f18⟩
    | k + 6, hq => simp [aTys] at hq
  · have h1 := List.mem_filter.mp hw
    have h2 := h1.2
    have h3 := hts w h1.1
    cases w <;> first | exact va_Nw.of rfl h3 | cases h2
  · simp only [aoL, List.mem_cons, List.not_mem_nil, or_false] at hC
    rcases hC with rfl | rfl | rfl | rfl
    · exact ao15
    · exact ao16
    · exact ao17
    · exact ao18
set_option maxHeartbeats 4000000 in
theorem start_of {p : Program} {e : Env} {s : State} {m : MethodId} {below : List Frame} {meth : Method} {c : Code} (l : Launch) {b L : Nat} {xs : Nat → Int32} (hL : L ≤ 3584) (C0 : lw_At p s m meth c b L xs) (hp : P_L_law L xs M0z 0) : W p l e room_1 s m #[Value.ref b] below meth c s.heap [] 0 0 (lw_Z below #[Value.ref b] s) (entryFrame m ([Value.ref b] : List Value).toArray 4) := by
  obtain ⟨hx, hb, hr, hml, hown, hts, hX, hbl, hlocks, hgv⟩ := C0
  obtain ⟨D, cy, hK⟩ := kw_of hts
  have C : Cx p s m #[Value.ref b] meth c cL_law 4 RL D cy (s.heap.size, b) 0 := ⟨hx, hb, hml, hown, fun w hw => hts w (List.mem_filter.mp hw).1, hK, hlocks, rfl⟩
  have g := k_L_law_0 (G := (s.heap.size, b)) (l := l) (e := e) (below := below) C hr hX hbl (by omega) rfl hp
  have hl := lv_entry ([.ref b]) (n := 4) (Nat.le_of_ble_eq_true rfl)
  rw [lg_entry_eq]
  exact g (Nat.le_refl _) (fun q hq => by simp at hq; rw [hq]; trivial) (fun v hv => by cases hv) s.heap [] _ ⟨rfl, fun o ho => absurd ho (Nat.not_lt_zero o), fun o j => in0, fun o j => in0l, Nat.zero_le _⟩ va_S.rf hl
