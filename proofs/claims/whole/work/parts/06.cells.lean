/-! ARRAYS, NEW CELLS, CALLS over the pure layer -/
theorem vin {i : Int} {n : Nat} (h : 0 ≤ i ∧ i < n) (hi : inI i) : vp_in (Int32.ofInt i) n := vp_in_iff.mpr (by rw [i32t hi]; exact h)
theorem SL_mono {a b : Nat} (h : a ≤ b) : SL a ≤ SL b := by
  induction h with
  | refl => exact Nat.le_refl _
  | step _ ih => exact Nat.le_trans ih (Nat.le_add_right _ _)
theorem rfmap (G : Nat × Nat) (r : Option Nat) : va_rf (r.map (ad G)) = pv G (vR r) := by cases r <;> rfl
section ARR
variable {p : Program} {l : Launch} {e : Env} {R : Room} {s : State} {m : MethodId} {args : Array Value} {below : List Frame} {meth : Method} {c : Code} {Q : State → Prop} {cc : ByteArray} {nL : Nat} {own : String} {D : va_G} {cy : Nat → ClassId} {G : Nat × Nat} {n0 pc : Nat} {L : List (Nat × PV)} {st : List PV} {M : Mm}
theorem w_iald {o n : Nat} {i : Int} (C : Cx p s m args meth c cc nL own D cy G n0) (hd : decode cc pc = .ok (.iaload, 1)) (ho : o < M.2.2.2) (hs : SH o = (14, n)) (hi : 0 ≤ i ∧ i < n) (k : WW p l e R s m args below meth c Q nL D cy G n0  (pc + 1) L (vI (M.1 o i.toNat) :: st) M) : WW p l e R s m args below meth c Q nL D cy G n0  pc L (vI i :: vR (some o) :: st) M := by
  intro h0 hL hst H locs ls hW hS hls
  obtain ⟨hx, hb, hml, hown, hts, hK, hlk, hsz⟩ := C
  have hik : inI i := ok_h hst
  have hP := hW.one ho
  rw [cellI hs (by omega) (by omega)] at hP
  have g := k h0 hL (ok_push (hW.2.2.1 _ _) (ok_t (ok_t hst))) H locs ls hW hS hls
  refine va_iald hx hb hK.1 hP 0 1 rfl rfl (vin hi hik) hd ?_
  rw [clampt hi.1 hik]
  exact g
theorem w_bald {o n : Nat} {i : Int} (C : Cx p s m args meth c cc nL own D cy G n0) (hd : decode cc pc = .ok (.baload, 1)) (ho : o < M.2.2.2) (hs : SH o = (13, n)) (hi : 0 ≤ i ∧ i < n) (k : WW p l e R s m args below meth c Q nL D cy G n0  (pc + 1) L (vI (M.1 o i.toNat) :: st) M) : WW p l e R s m args below meth c Q nL D cy G n0  pc L (vI i :: vR (some o) :: st) M := by
  intro h0 hL hst H locs ls hW hS hls
  obtain ⟨hx, hb, hml, hown, hts, hK, hlk, hsz⟩ := C
  have hik : inI i := ok_h hst
  have hP := hW.one ho
  rw [cellI hs (by omega) (by omega)] at hP
  have g := k h0 hL (ok_push (hW.2.2.1 _ _) (ok_t (ok_t hst))) H locs ls hW hS hls
  refine va_bald hx hb hK.1 hP 0 0 rfl rfl (vin hi hik) hd ?_
  rw [clampt hi.1 hik]
  exact g
theorem w_aald15 {o n : Nat} {i : Int} (C : Cx p s m args meth c cc nL own D cy G n0) (hd : decode cc pc = .ok (.aaload, 1)) (ho : o < M.2.2.2) (hs : SH o = (15, n)) (hi : 0 ≤ i ∧ i < n) (k : WW p l e R s m args below meth c Q nL D cy G n0  (pc + 1) L (vR (M.2.2.1 o i.toNat) :: st) M) : WW p l e R s m args below meth c Q nL D cy G n0  pc L (vI i :: vR (some o) :: st) M := by
  intro h0 hL hst H locs ls hW hS hls
  obtain ⟨hx, hb, hml, hown, hts, hK, hlk, hsz⟩ := C
  have hik : inI i := ok_h hst
  have hP := hW.one ho
  rw [cellR hs (by omega)] at hP
  have g := k h0 hL (ok_push (v := vR _) trivial (ok_t (ok_t hst))) H locs ls hW hS hls
  refine va_aldq hx hb hK.1 hP 0 2 rfl rfl (vin hi hik) hd ?_
  rw [clampt hi.1 hik, rfmap]
  exact g
theorem w_aald16 {o n : Nat} {i : Int} (C : Cx p s m args meth c cc nL own D cy G n0) (hd : decode cc pc = .ok (.aaload, 1)) (ho : o < M.2.2.2) (hs : SH o = (16, n)) (hi : 0 ≤ i ∧ i < n) (k : WW p l e R s m args below meth c Q nL D cy G n0  (pc + 1) L (vR (M.2.2.1 o i.toNat) :: st) M) : WW p l e R s m args below meth c Q nL D cy G n0  pc L (vI i :: vR (some o) :: st) M := by
  intro h0 hL hst H locs ls hW hS hls
  obtain ⟨hx, hb, hml, hown, hts, hK, hlk, hsz⟩ := C
  have hik : inI i := ok_h hst
  have hP := hW.one ho
  rw [cellR hs (by omega)] at hP
  have g := k h0 hL (ok_push (v := vR _) trivial (ok_t (ok_t hst))) H locs ls hW hS hls
  refine va_aldq hx hb hK.1 hP 0 3 rfl rfl (vin hi hik) hd ?_
  rw [clampt hi.1 hik, rfmap]
  exact g
theorem w_aald17 {o n : Nat} {i : Int} (C : Cx p s m args meth c cc nL own D cy G n0) (hd : decode cc pc = .ok (.aaload, 1)) (ho : o < M.2.2.2) (hs : SH o = (17, n)) (hi : 0 ≤ i ∧ i < n) (k : WW p l e R s m args below meth c Q nL D cy G n0  (pc + 1) L (vR (M.2.2.1 o i.toNat) :: st) M) : WW p l e R s m args below meth c Q nL D cy G n0  pc L (vI i :: vR (some o) :: st) M := by
  intro h0 hL hst H locs ls hW hS hls
  obtain ⟨hx, hb, hml, hown, hts, hK, hlk, hsz⟩ := C
  have hik : inI i := ok_h hst
  have hP := hW.one ho
  rw [cellR hs (by omega)] at hP
  have g := k h0 hL (ok_push (v := vR _) trivial (ok_t (ok_t hst))) H locs ls hW hS hls
  refine va_aldq hx hb hK.1 hP 0 4 rfl rfl (vin hi hik) hd ?_
  rw [clampt hi.1 hik, rfmap]
  exact g
theorem w_aald18 {o n : Nat} {i : Int} (C : Cx p s m args meth c cc nL own D cy G n0) (hd : decode cc pc = .ok (.aaload, 1)) (ho : o < M.2.2.2) (hs : SH o = (18, n)) (hi : 0 ≤ i ∧ i < n) (k : WW p l e R s m args below meth c Q nL D cy G n0  (pc + 1) L (vR (M.2.2.1 o i.toNat) :: st) M) : WW p l e R s m args below meth c Q nL D cy G n0  pc L (vI i :: vR (some o) :: st) M := by
  intro h0 hL hst H locs ls hW hS hls
  obtain ⟨hx, hb, hml, hown, hts, hK, hlk, hsz⟩ := C
  have hik : inI i := ok_h hst
  have hP := hW.one ho
  rw [cellR hs (by omega)] at hP
  have g := k h0 hL (ok_push (v := vR _) trivial (ok_t (ok_t hst))) H locs ls hW hS hls
  refine va_aldq hx hb hK.1 hP 0 5 rfl rfl (vin hi hik) hd ?_
  rw [clampt hi.1 hik, rfmap]
  exact g
theorem w_alen {o n : Nat} (C : Cx p s m args meth c cc nL own D cy G n0) (hd : decode cc pc = .ok (.arraylength, 1)) (ho : o < M.2.2.2) (hs : SH o = (14, n)) (hn : n < 100000) (k : WW p l e R s m args below meth c Q nL D cy G n0  (pc + 1) L (vI n :: st) M) : WW p l e R s m args below meth c Q nL D cy G n0  pc L (vR (some o) :: st) M := by
  intro h0 hL hst H locs ls hW hS hls
  obtain ⟨hx, hb, hml, hown, hts, hK, hlk, hsz⟩ := C
  have hP := hW.one ho
  rw [cellI hs (by omega) (by omega)] at hP
  have g := k h0 hL (ok_push (v := vI n) ⟨by omega, by omega⟩ (ok_t hst)) H locs ls hW hS hls
  exact va_alen hx hb hK.1 hP 0 1 rfl rfl (v := Int32.ofInt n) (by first | rfl | exact (Int32.ofInt_eq_ofNat).symm) hd g
theorem w_sld {Lx : Nat} {xs : Nat → Int32} {i : Int} (C : Cx p s m args meth c cc nL own D cy G n0) (hX : va_X G.2 Lx xs s s.heap) (hG : G.2 < G.1) (hd : decode cc pc = .ok (.iaload, 1)) (hi : 0 ≤ i ∧ i < Lx) (k : WW p l e R s m args below meth c Q nL D cy G n0  (pc + 1) L (vI (xs i.toNat).toInt :: st) M) : WW p l e R s m args below meth c Q nL D cy G n0  pc L (vI i :: vR (some 1000) :: st) M := by
  intro h0 hL hst H locs ls hW hS hls
  obtain ⟨hx, hb, hml, hown, hts, hK, hlk, hsz⟩ := C
  have hik : inI i := ok_h hst
  have g := k h0 hL (ok_push (i32in _) (ok_t (ok_t hst))) H locs ls hW hS hls
  have g : W _ _ _ _ _ _ _ _ _ _ _ _ _ _ _ (F0 m (pc + 1) ls (.int (Int32.ofInt (xs i.toNat).toInt) :: st.map (pv G))) := g
  rw [i32o] at g
  refine va_sld (b := G.2) (A := fun q => G.1 ≤ q) hx hb hX (by rw [hsz]; omega) (by omega) hS (vin hi hik) hd ?_
  rw [clampt hi.1 hik]
  exact g
theorem w_slen {Lx : Nat} {xs : Nat → Int32} (C : Cx p s m args meth c cc nL own D cy G n0) (hX : va_X G.2 Lx xs s s.heap) (hG : G.2 < G.1) (hn : Lx < 100000) (hd : decode cc pc = .ok (.arraylength, 1)) (k : WW p l e R s m args below meth c Q nL D cy G n0  (pc + 1) L (vI Lx :: st) M) : WW p l e R s m args below meth c Q nL D cy G n0  pc L (vR (some 1000) :: st) M := by
  intro h0 hL hst H locs ls hW hS hls
  obtain ⟨hx, hb, hml, hown, hts, hK, hlk, hsz⟩ := C
  have g := k h0 hL (ok_push (v := vI Lx) ⟨by omega, by omega⟩ (ok_t hst)) H locs ls hW hS hls
  refine va_slen (b := G.2) (A := fun q => G.1 ≤ q) hx hb hX (by rw [hsz]; omega) (by omega) hS hd ?_
  rw [show Int32.ofNat Lx = Int32.ofInt Lx by first | rfl | exact (Int32.ofInt_eq_ofNat).symm]
  exact g
theorem w_iast {o n : Nat} {i x : Int} (C : Cx p s m args meth c cc nL own D cy G n0) (hd : decode cc pc = .ok (.iastore, 1)) (ho : o < M.2.2.2) (hs : SH o = (14, n)) (hi : 0 ≤ i ∧ i < n) (k : WW p l e R s m args below meth c Q nL D cy G n0  (pc + 1) L st (setI M o i.toNat x)) : WW p l e R s m args below meth c Q nL D cy G n0  pc L (vI x :: vI i :: vR (some o) :: st) M := by
  intro h0 hL hst H locs ls hW hS hls
  obtain ⟨hx, hb, hml, hown, hts, hK, hlk, hsz⟩ := C
  have hik : inI i := ok_h (ok_t hst)
  have hxk : inI x := ok_h hst
  have hP := hW.one ho
  have had := hW.lt ho
  rw [cellI hs (by omega) (by omega)] at hP
  refine W.iast hx hb (hP 0 _ rfl) ((hK.1.2 1 _ rfl).1 n (fun j => .int (Int32.ofInt (M.1 o j)))) (fun q => by cases q) (by show ¬ (_ < 0 ∨ (arrV _ _ _).slots.size ≤ _); rw [arrV_size]; exact vin hi hik) rfl rfl hd fun H' e1 e2 e3 => ?_
  have hnew : va_at D vwCl (G.1 + o, cellOf cy G (stF M o i.toNat (vI x)) o) H' := by
    rw [cellI hs (by omega) (by omega), ← had]
    show H'[ad G o]? = some (vp_cell _ _)
    rw [e1, clampt hi.1 hik, vp_cell_i, vp_cell_i, arrV_store]
    congr 2
    funext q
    by_cases hq : q = i.toNat
    · subst hq
      simp [updV, stF, setI, up2]
    · simp [updV, stF, setI, up2, hq]
  exact k h0 hL (ok_t (ok_t (ok_t hst))) H' _ ls (hW.st ho (v := vI x) hxk hnew e2 (fun q hq => e3 q (by rw [had]; exact hq))) (hS.put e2 e3 (by show G.1 ≤ ad G o; rw [had]; omega)) hls
theorem w_bast {o n : Nat} {i x : Int} (C : Cx p s m args meth c cc nL own D cy G n0) (hd : decode cc pc = .ok (.bastore, 1)) (ho : o < M.2.2.2) (hs : SH o = (13, n)) (hi : 0 ≤ i ∧ i < n) (hx8 : (Int32.ofInt x).toInt8.toInt32 = Int32.ofInt x) (k : WW p l e R s m args below meth c Q nL D cy G n0  (pc + 1) L st (setI M o i.toNat x)) : WW p l e R s m args below meth c Q nL D cy G n0  pc L (vI x :: vI i :: vR (some o) :: st) M := by
  intro h0 hL hst H locs ls hW hS hls
  obtain ⟨hx, hb, hml, hown, hts, hK, hlk, hsz⟩ := C
  have hik : inI i := ok_h (ok_t hst)
  have hxk : inI x := ok_h hst
  have hP := hW.one ho
  have had := hW.lt ho
  rw [cellI hs (by omega) (by omega)] at hP
  refine W.bast hx hb (hP 0 _ rfl) ((hK.1.2 0 _ rfl).1 n (fun j => .int (Int32.ofInt (M.1 o j)))) (fun q => by cases q) (by show ¬ (_ < 0 ∨ (arrV _ _ _).slots.size ≤ _); rw [arrV_size]; exact vin hi hik) rfl rfl hd fun H' e1 e2 e3 => ?_
  have hnew : va_at D vwCl (G.1 + o, cellOf cy G (stF M o i.toNat (vI x)) o) H' := by
    rw [cellI hs (by omega) (by omega), ← had]
    show H'[ad G o]? = some (vp_cell _ _)
    rw [e1, clampt hi.1 hik, vp_cell_i, vp_cell_i, arrV_store]
    congr 2
    funext q
    by_cases hq : q = i.toNat
    · subst hq
      simp [updV, stF, setI, up2, narrow]
      simpa using hx8
    · simp [updV, stF, setI, up2, hq]
  exact k h0 hL (ok_t (ok_t (ok_t hst))) H' _ ls (hW.st ho (v := vI x) hxk hnew e2 (fun q hq => e3 q (by rw [had]; exact hq))) (hS.put e2 e3 (by show G.1 ≤ ad G o; rw [had]; omega)) hls
theorem w_aast15 {o n v : Nat} {i : Int} (C : Cx p s m args meth c cc nL own D cy G n0) (hd : decode cc pc = .ok (.aastore, 1)) (ho : o < M.2.2.2) (hs : SH o = (15, n)) (hi : 0 ≤ i ∧ i < n) (hv : v < M.2.2.2) (hvs : (SH v).1 = 0) (k : WW p l e R s m args below meth c Q nL D cy G n0  (pc + 1) L st (setR M o i.toNat (some v))) : WW p l e R s m args below meth c Q nL D cy G n0  pc L (vR (some v) :: vI i :: vR (some o) :: st) M := by
  intro h0 hL hst H locs ls hW hS hls
  obtain ⟨hx, hb, hml, hown, hts, hK, hlk, hsz⟩ := C
  have hik : inI i := ok_h (ok_t hst)
  have hP := hW.one ho
  have hPv := hW.one hv
  have had := hW.lt ho
  rw [cellR hs (by omega)] at hP
  rw [cellO (k := 0) (n := (SH v).2) (by rw [← hvs]) (by omega)] at hPv
  obtain ⟨r', hr', cellV, g1, g2, g3, -⟩ := hPv 0 _ rfl
  have hcls := (hK.1.1 0 _ rfl).2
  obtain ⟨kA, comp, k1, k2, k3, -⟩ := (hK.1.2 2 _ rfl).2
  have hcomp : comp = D.1 0 := Option.some.inj (k3.symm.trans hcls.1)
  subst hcomp
  obtain ⟨kC, hkC, -⟩ := hcls.2
  have hin := vin hi hik
  refine W.aast hx hb (hP 0 _ rfl) (fun q h => by cases h) (fun h => by cases h) k1 k2 rfl hkC ⟨fun q => hin (Or.inl q), by show _ < (arrV _ _ _).slots.size; rw [arrV_size]; exact Nat.not_le.mp fun q => hin (Or.inr q)⟩ g1 (fun q h => by rw [g3] at h; cases h) (by rw [g2]; exact hkC) (by rw [g2]; exact va_assign hcls) rfl rfl hd fun H' e1 e2 e3 => ?_
  have hnew : va_at D vwCl (G.1 + o, cellOf cy G (stF M o i.toNat (vR (some v))) o) H' := by
    rw [cellR hs (by omega), ← had]
    show H'[ad G o]? = some (vp_cell _ _)
    rw [e1, clampt hi.1 hik, vp_cell_q, vp_cell_q, arrV_store]
    congr 2
    funext q
    by_cases hq : q = i.toNat
    · subst hq
      simp [updV, stF, setR, up2, va_rf]
    · simp [updV, stF, setR, up2, hq]
  exact k h0 hL (ok_t (ok_t (ok_t hst))) H' _ ls (hW.st ho (v := vR (some v)) trivial hnew e2 (fun q hq => e3 q (by rw [had]; exact hq))) (hS.put e2 e3 (by show G.1 ≤ ad G o; rw [had]; omega)) hls
theorem w_aast16 {o n v : Nat} {i : Int} (C : Cx p s m args meth c cc nL own D cy G n0) (hd : decode cc pc = .ok (.aastore, 1)) (ho : o < M.2.2.2) (hs : SH o = (16, n)) (hi : 0 ≤ i ∧ i < n) (hv : v < M.2.2.2) (hvs : (SH v).1 = 3) (k : WW p l e R s m args below meth c Q nL D cy G n0  (pc + 1) L st (setR M o i.toNat (some v))) : WW p l e R s m args below meth c Q nL D cy G n0  pc L (vR (some v) :: vI i :: vR (some o) :: st) M := by
  intro h0 hL hst H locs ls hW hS hls
  obtain ⟨hx, hb, hml, hown, hts, hK, hlk, hsz⟩ := C
  have hik : inI i := ok_h (ok_t hst)
  have hP := hW.one ho
  have hPv := hW.one hv
  have had := hW.lt ho
  rw [cellR hs (by omega)] at hP
  rw [cellO (k := 3) (n := (SH v).2) (by rw [← hvs]) (by omega)] at hPv
  obtain ⟨r', hr', cellV, g1, g2, g3, -⟩ := hPv 0 _ rfl
  have hcls := (hK.1.1 3 _ rfl).2
  obtain ⟨kA, comp, k1, k2, k3, -⟩ := (hK.1.2 3 _ rfl).2
  have hcomp : comp = D.1 3 := Option.some.inj (k3.symm.trans hcls.1)
  subst hcomp
  obtain ⟨kC, hkC, -⟩ := hcls.2
  have hin := vin hi hik
  refine W.aast hx hb (hP 0 _ rfl) (fun q h => by cases h) (fun h => by cases h) k1 k2 rfl hkC ⟨fun q => hin (Or.inl q), by show _ < (arrV _ _ _).slots.size; rw [arrV_size]; exact Nat.not_le.mp fun q => hin (Or.inr q)⟩ g1 (fun q h => by rw [g3] at h; cases h) (by rw [g2]; exact hkC) (by rw [g2]; exact va_assign hcls) rfl rfl hd fun H' e1 e2 e3 => ?_
  have hnew : va_at D vwCl (G.1 + o, cellOf cy G (stF M o i.toNat (vR (some v))) o) H' := by
    rw [cellR hs (by omega), ← had]
    show H'[ad G o]? = some (vp_cell _ _)
    rw [e1, clampt hi.1 hik, vp_cell_q, vp_cell_q, arrV_store]
    congr 2
    funext q
    by_cases hq : q = i.toNat
    · subst hq
      simp [updV, stF, setR, up2, va_rf]
    · simp [updV, stF, setR, up2, hq]
  exact k h0 hL (ok_t (ok_t (ok_t hst))) H' _ ls (hW.st ho (v := vR (some v)) trivial hnew e2 (fun q hq => e3 q (by rw [had]; exact hq))) (hS.put e2 e3 (by show G.1 ≤ ad G o; rw [had]; omega)) hls
theorem w_aast17 {o n v : Nat} {i : Int} (C : Cx p s m args meth c cc nL own D cy G n0) (hd : decode cc pc = .ok (.aastore, 1)) (ho : o < M.2.2.2) (hs : SH o = (17, n)) (hi : 0 ≤ i ∧ i < n) (hv : v < M.2.2.2) (hvs : (SH v).1 = 4) (k : WW p l e R s m args below meth c Q nL D cy G n0  (pc + 1) L st (setR M o i.toNat (some v))) : WW p l e R s m args below meth c Q nL D cy G n0  pc L (vR (some v) :: vI i :: vR (some o) :: st) M := by
  intro h0 hL hst H locs ls hW hS hls
  obtain ⟨hx, hb, hml, hown, hts, hK, hlk, hsz⟩ := C
  have hik : inI i := ok_h (ok_t hst)
  have hP := hW.one ho
  have hPv := hW.one hv
  have had := hW.lt ho
  rw [cellR hs (by omega)] at hP
  rw [cellO (k := 4) (n := (SH v).2) (by rw [← hvs]) (by omega)] at hPv
  obtain ⟨r', hr', cellV, g1, g2, g3, -⟩ := hPv 0 _ rfl
  have hcls := (hK.1.1 4 _ rfl).2
  obtain ⟨kA, comp, k1, k2, k3, -⟩ := (hK.1.2 4 _ rfl).2
  have hcomp : comp = D.1 4 := Option.some.inj (k3.symm.trans hcls.1)
  subst hcomp
  obtain ⟨kC, hkC, -⟩ := hcls.2
  have hin := vin hi hik
  refine W.aast hx hb (hP 0 _ rfl) (fun q h => by cases h) (fun h => by cases h) k1 k2 rfl hkC ⟨fun q => hin (Or.inl q), by show _ < (arrV _ _ _).slots.size; rw [arrV_size]; exact Nat.not_le.mp fun q => hin (Or.inr q)⟩ g1 (fun q h => by rw [g3] at h; cases h) (by rw [g2]; exact hkC) (by rw [g2]; exact va_assign hcls) rfl rfl hd fun H' e1 e2 e3 => ?_
  have hnew : va_at D vwCl (G.1 + o, cellOf cy G (stF M o i.toNat (vR (some v))) o) H' := by
    rw [cellR hs (by omega), ← had]
    show H'[ad G o]? = some (vp_cell _ _)
    rw [e1, clampt hi.1 hik, vp_cell_q, vp_cell_q, arrV_store]
    congr 2
    funext q
    by_cases hq : q = i.toNat
    · subst hq
      simp [updV, stF, setR, up2, va_rf]
    · simp [updV, stF, setR, up2, hq]
  exact k h0 hL (ok_t (ok_t (ok_t hst))) H' _ ls (hW.st ho (v := vR (some v)) trivial hnew e2 (fun q hq => e3 q (by rw [had]; exact hq))) (hS.put e2 e3 (by show G.1 ≤ ad G o; rw [had]; omega)) hls
theorem w_aast18 {o n v : Nat} {i : Int} (C : Cx p s m args meth c cc nL own D cy G n0) (hd : decode cc pc = .ok (.aastore, 1)) (ho : o < M.2.2.2) (hs : SH o = (18, n)) (hi : 0 ≤ i ∧ i < n) (hv : v < M.2.2.2) (hvs : (SH v).1 = 8) (k : WW p l e R s m args below meth c Q nL D cy G n0  (pc + 1) L st (setR M o i.toNat (some v))) : WW p l e R s m args below meth c Q nL D cy G n0  pc L (vR (some v) :: vI i :: vR (some o) :: st) M := by
  intro h0 hL hst H locs ls hW hS hls
  obtain ⟨hx, hb, hml, hown, hts, hK, hlk, hsz⟩ := C
  have hik : inI i := ok_h (ok_t hst)
  have hP := hW.one ho
  have hPv := hW.one hv
  have had := hW.lt ho
  rw [cellR hs (by omega)] at hP
  rw [cellO (k := 8) (n := (SH v).2) (by rw [← hvs]) (by omega)] at hPv
  obtain ⟨r', hr', cellV, g1, g2, g3, -⟩ := hPv 0 _ rfl
  have hcls := (hK.1.1 8 _ rfl).2
  obtain ⟨kA, comp, k1, k2, k3, -⟩ := (hK.1.2 5 _ rfl).2
  have hcomp : comp = D.1 8 := Option.some.inj (k3.symm.trans hcls.1)
  subst hcomp
  obtain ⟨kC, hkC, -⟩ := hcls.2
  have hin := vin hi hik
  refine W.aast hx hb (hP 0 _ rfl) (fun q h => by cases h) (fun h => by cases h) k1 k2 rfl hkC ⟨fun q => hin (Or.inl q), by show _ < (arrV _ _ _).slots.size; rw [arrV_size]; exact Nat.not_le.mp fun q => hin (Or.inr q)⟩ g1 (fun q h => by rw [g3] at h; cases h) (by rw [g2]; exact hkC) (by rw [g2]; exact va_assign hcls) rfl rfl hd fun H' e1 e2 e3 => ?_
  have hnew : va_at D vwCl (G.1 + o, cellOf cy G (stF M o i.toNat (vR (some v))) o) H' := by
    rw [cellR hs (by omega), ← had]
    show H'[ad G o]? = some (vp_cell _ _)
    rw [e1, clampt hi.1 hik, vp_cell_q, vp_cell_q, arrV_store]
    congr 2
    funext q
    by_cases hq : q = i.toNat
    · subst hq
      simp [updV, stF, setR, up2, va_rf]
    · simp [updV, stF, setR, up2, hq]
  exact k h0 hL (ok_t (ok_t (ok_t hst))) H' _ ls (hW.st ho (v := vR (some v)) trivial hnew e2 (fun q hq => e3 q (by rw [had]; exact hq))) (hS.put e2 e3 (by show G.1 ≤ ad G o; rw [had]; omega)) hls
theorem new_fs {G : Nat × Nat} {ci : Nat} (hc : ci < 13) {M : Mm} {j : Nat} (hj : j < Nk ci) : defaultValue (TYk ci j) = vp_V (fsOf G ci (Nk ci) (newM M) M.2.2.2) j := by
  have h1 : vp_V (fsOf G ci (Nk ci) (newM M) M.2.2.2) j = pv G (fvOf ci (newM M) M.2.2.2 j) := by
    unfold vp_V
    rw [List.getD_eq_getElem?_getD, fsOf_get hj]
    rfl
  rw [h1]
  unfold fvOf
  have key : ∀ ci, ci < 13 → ∀ j, j < Nk ci → TYk ci j = .int ∨ TYk ci j = .long ∨ (∃ x, TYk ci j = .object x) ∨ ∃ x, TYk ci j = .array x := by
    intro ci hc j hj
    match ci, hc with
    | 0, _ =>
      match j, hj with
      | 0, _ => first | exact Or.inl rfl | exact Or.inr (Or.inl rfl) | exact Or.inr (Or.inr (Or.inl ⟨_, rfl⟩)) | exact Or.inr (Or.inr (Or.inr ⟨_, rfl⟩))
      | 1, _ => first | exact Or.inl rfl | exact Or.inr (Or.inl rfl) | exact Or.inr (Or.inr (Or.inl ⟨_, rfl⟩)) | exact Or.inr (Or.inr (Or.inr ⟨_, rfl⟩))
      | 2, _ => first | exact Or.inl rfl | exact Or.inr (Or.inl rfl) | exact Or.inr (Or.inr (Or.inl ⟨_, rfl⟩)) | exact Or.inr (Or.inr (Or.inr ⟨_, rfl⟩))
      | 3, _ => first | exact Or.inl rfl | exact Or.inr (Or.inl rfl) | exact Or.inr (Or.inr (Or.inl ⟨_, rfl⟩)) | exact Or.inr (Or.inr (Or.inr ⟨_, rfl⟩))
      | 4, _ => first | exact Or.inl rfl | exact Or.inr (Or.inl rfl) | exact Or.inr (Or.inr (Or.inl ⟨_, rfl⟩)) | exact Or.inr (Or.inr (Or.inr ⟨_, rfl⟩))
      | 5, _ => first | exact Or.inl rfl | exact Or.inr (Or.inl rfl) | exact Or.inr (Or.inr (Or.inl ⟨_, rfl⟩)) | exact Or.inr (Or.inr (Or.inr ⟨_, rfl⟩))
      | 6, _ => first | exact Or.inl rfl | exact Or.inr (Or.inl rfl) | exact Or.inr (Or.inr (Or.inl ⟨_, rfl⟩)) | exact Or.inr (Or.inr (Or.inr ⟨_, rfl⟩))
      | 7, _ => first | exact Or.inl rfl | exact Or.inr (Or.inl rfl) | exact Or.inr (Or.inr (Or.inl ⟨_, rfl⟩)) | exact Or.inr (Or.inr (Or.inr ⟨_, rfl⟩))
      | j + 8, hj => exact absurd hj (by show ¬ _ < 8; omega)
    | 1, _ =>
      match j, hj with
      | 0, _ => first | exact Or.inl rfl | exact Or.inr (Or.inl rfl) | exact Or.inr (Or.inr (Or.inl ⟨_, rfl⟩)) | exact Or.inr (Or.inr (Or.inr ⟨_, rfl⟩))
      | 1, _ => first | exact Or.inl rfl | exact Or.inr (Or.inl rfl) | exact Or.inr (Or.inr (Or.inl ⟨_, rfl⟩)) | exact Or.inr (Or.inr (Or.inr ⟨_, rfl⟩))
      | 2, _ => first | exact Or.inl rfl | exact Or.inr (Or.inl rfl) | exact Or.inr (Or.inr (Or.inl ⟨_, rfl⟩)) | exact Or.inr (Or.inr (Or.inr ⟨_, rfl⟩))
      | 3, _ => first | exact Or.inl rfl | exact Or.inr (Or.inl rfl) | exact Or.inr (Or.inr (Or.inl ⟨_, rfl⟩)) | exact Or.inr (Or.inr (Or.inr ⟨_, rfl⟩))
      | j + 4, hj => exact absurd hj (by show ¬ _ < 4; omega)
    | 2, _ =>
      match j, hj with
      | 0, _ => first | exact Or.inl rfl | exact Or.inr (Or.inl rfl) | exact Or.inr (Or.inr (Or.inl ⟨_, rfl⟩)) | exact Or.inr (Or.inr (Or.inr ⟨_, rfl⟩))
      | 1, _ => first | exact Or.inl rfl | exact Or.inr (Or.inl rfl) | exact Or.inr (Or.inr (Or.inl ⟨_, rfl⟩)) | exact Or.inr (Or.inr (Or.inr ⟨_, rfl⟩))
      | 2, _ => first | exact Or.inl rfl | exact Or.inr (Or.inl rfl) | exact Or.inr (Or.inr (Or.inl ⟨_, rfl⟩)) | exact Or.inr (Or.inr (Or.inr ⟨_, rfl⟩))
      | 3, _ => first | exact Or.inl rfl | exact Or.inr (Or.inl rfl) | exact Or.inr (Or.inr (Or.inl ⟨_, rfl⟩)) | exact Or.inr (Or.inr (Or.inr ⟨_, rfl⟩))
      | j + 4, hj => exact absurd hj (by show ¬ _ < 4; omega)
    | 3, _ =>
      match j, hj with
      | 0, _ => first | exact Or.inl rfl | exact Or.inr (Or.inl rfl) | exact Or.inr (Or.inr (Or.inl ⟨_, rfl⟩)) | exact Or.inr (Or.inr (Or.inr ⟨_, rfl⟩))
      | 1, _ => first | exact Or.inl rfl | exact Or.inr (Or.inl rfl) | exact Or.inr (Or.inr (Or.inl ⟨_, rfl⟩)) | exact Or.inr (Or.inr (Or.inr ⟨_, rfl⟩))
      | 2, _ => first | exact Or.inl rfl | exact Or.inr (Or.inl rfl) | exact Or.inr (Or.inr (Or.inl ⟨_, rfl⟩)) | exact Or.inr (Or.inr (Or.inr ⟨_, rfl⟩))
      | 3, _ => first | exact Or.inl rfl | exact Or.inr (Or.inl rfl) | exact Or.inr (Or.inr (Or.inl ⟨_, rfl⟩)) | exact Or.inr (Or.inr (Or.inr ⟨_, rfl⟩))
      | j + 4, hj => exact absurd hj (by show ¬ _ < 4; omega)
    | 4, _ =>
      match j, hj with
      | 0, _ => first | exact Or.inl rfl | exact Or.inr (Or.inl rfl) | exact Or.inr (Or.inr (Or.inl ⟨_, rfl⟩)) | exact Or.inr (Or.inr (Or.inr ⟨_, rfl⟩))
      | 1, _ => first | exact Or.inl rfl | exact Or.inr (Or.inl rfl) | exact Or.inr (Or.inr (Or.inl ⟨_, rfl⟩)) | exact Or.inr (Or.inr (Or.inr ⟨_, rfl⟩))
      | 2, _ => first | exact Or.inl rfl | exact Or.inr (Or.inl rfl) | exact Or.inr (Or.inr (Or.inl ⟨_, rfl⟩)) | exact Or.inr (Or.inr (Or.inr ⟨_, rfl⟩))
      | 3, _ => first | exact Or.inl rfl | exact Or.inr (Or.inl rfl) | exact Or.inr (Or.inr (Or.inl ⟨_, rfl⟩)) | exact Or.inr (Or.inr (Or.inr ⟨_, rfl⟩))
      | j + 4, hj => exact absurd hj (by show ¬ _ < 4; omega)
    | 5, _ =>
      match j, hj with
      | 0, _ => first | exact Or.inl rfl | exact Or.inr (Or.inl rfl) | exact Or.inr (Or.inr (Or.inl ⟨_, rfl⟩)) | exact Or.inr (Or.inr (Or.inr ⟨_, rfl⟩))
      | 1, _ => first | exact Or.inl rfl | exact Or.inr (Or.inl rfl) | exact Or.inr (Or.inr (Or.inl ⟨_, rfl⟩)) | exact Or.inr (Or.inr (Or.inr ⟨_, rfl⟩))
      | 2, _ => first | exact Or.inl rfl | exact Or.inr (Or.inl rfl) | exact Or.inr (Or.inr (Or.inl ⟨_, rfl⟩)) | exact Or.inr (Or.inr (Or.inr ⟨_, rfl⟩))
      | 3, _ => first | exact Or.inl rfl | exact Or.inr (Or.inl rfl) | exact Or.inr (Or.inr (Or.inl ⟨_, rfl⟩)) | exact Or.inr (Or.inr (Or.inr ⟨_, rfl⟩))
      | j + 4, hj => exact absurd hj (by show ¬ _ < 4; omega)
    | 6, _ =>
      match j, hj with
      | 0, _ => first | exact Or.inl rfl | exact Or.inr (Or.inl rfl) | exact Or.inr (Or.inr (Or.inl ⟨_, rfl⟩)) | exact Or.inr (Or.inr (Or.inr ⟨_, rfl⟩))
      | 1, _ => first | exact Or.inl rfl | exact Or.inr (Or.inl rfl) | exact Or.inr (Or.inr (Or.inl ⟨_, rfl⟩)) | exact Or.inr (Or.inr (Or.inr ⟨_, rfl⟩))
      | 2, _ => first | exact Or.inl rfl | exact Or.inr (Or.inl rfl) | exact Or.inr (Or.inr (Or.inl ⟨_, rfl⟩)) | exact Or.inr (Or.inr (Or.inr ⟨_, rfl⟩))
      | 3, _ => first | exact Or.inl rfl | exact Or.inr (Or.inl rfl) | exact Or.inr (Or.inr (Or.inl ⟨_, rfl⟩)) | exact Or.inr (Or.inr (Or.inr ⟨_, rfl⟩))
      | 4, _ => first | exact Or.inl rfl | exact Or.inr (Or.inl rfl) | exact Or.inr (Or.inr (Or.inl ⟨_, rfl⟩)) | exact Or.inr (Or.inr (Or.inr ⟨_, rfl⟩))
      | 5, _ => first | exact Or.inl rfl | exact Or.inr (Or.inl rfl) | exact Or.inr (Or.inr (Or.inl ⟨_, rfl⟩)) | exact Or.inr (Or.inr (Or.inr ⟨_, rfl⟩))
      | 6, _ => first | exact Or.inl rfl | exact Or.inr (Or.inl rfl) | exact Or.inr (Or.inr (Or.inl ⟨_, rfl⟩)) | exact Or.inr (Or.inr (Or.inr ⟨_, rfl⟩))
      | 7, _ => first | exact Or.inl rfl | exact Or.inr (Or.inl rfl) | exact Or.inr (Or.inr (Or.inl ⟨_, rfl⟩)) | exact Or.inr (Or.inr (Or.inr ⟨_, rfl⟩))
      | j + 8, hj => exact absurd hj (by show ¬ _ < 8; omega)
    | 7, _ =>
      match j, hj with
      | 0, _ => first | exact Or.inl rfl | exact Or.inr (Or.inl rfl) | exact Or.inr (Or.inr (Or.inl ⟨_, rfl⟩)) | exact Or.inr (Or.inr (Or.inr ⟨_, rfl⟩))
      | j + 1, hj => exact absurd hj (by show ¬ _ < 1; omega)
    | 8, _ =>
      match j, hj with
      | 0, _ => first | exact Or.inl rfl | exact Or.inr (Or.inl rfl) | exact Or.inr (Or.inr (Or.inl ⟨_, rfl⟩)) | exact Or.inr (Or.inr (Or.inr ⟨_, rfl⟩))
      | 1, _ => first | exact Or.inl rfl | exact Or.inr (Or.inl rfl) | exact Or.inr (Or.inr (Or.inl ⟨_, rfl⟩)) | exact Or.inr (Or.inr (Or.inr ⟨_, rfl⟩))
      | 2, _ => first | exact Or.inl rfl | exact Or.inr (Or.inl rfl) | exact Or.inr (Or.inr (Or.inl ⟨_, rfl⟩)) | exact Or.inr (Or.inr (Or.inr ⟨_, rfl⟩))
      | 3, _ => first | exact Or.inl rfl | exact Or.inr (Or.inl rfl) | exact Or.inr (Or.inr (Or.inl ⟨_, rfl⟩)) | exact Or.inr (Or.inr (Or.inr ⟨_, rfl⟩))
      | 4, _ => first | exact Or.inl rfl | exact Or.inr (Or.inl rfl) | exact Or.inr (Or.inr (Or.inl ⟨_, rfl⟩)) | exact Or.inr (Or.inr (Or.inr ⟨_, rfl⟩))
      | 5, _ => first | exact Or.inl rfl | exact Or.inr (Or.inl rfl) | exact Or.inr (Or.inr (Or.inl ⟨_, rfl⟩)) | exact Or.inr (Or.inr (Or.inr ⟨_, rfl⟩))
      | 6, _ => first | exact Or.inl rfl | exact Or.inr (Or.inl rfl) | exact Or.inr (Or.inr (Or.inl ⟨_, rfl⟩)) | exact Or.inr (Or.inr (Or.inr ⟨_, rfl⟩))
      | j + 7, hj => exact absurd hj (by show ¬ _ < 7; omega)
    | 9, _ =>
      match j, hj with
      | 0, _ => first | exact Or.inl rfl | exact Or.inr (Or.inl rfl) | exact Or.inr (Or.inr (Or.inl ⟨_, rfl⟩)) | exact Or.inr (Or.inr (Or.inr ⟨_, rfl⟩))
      | 1, _ => first | exact Or.inl rfl | exact Or.inr (Or.inl rfl) | exact Or.inr (Or.inr (Or.inl ⟨_, rfl⟩)) | exact Or.inr (Or.inr (Or.inr ⟨_, rfl⟩))
      | 2, _ => first | exact Or.inl rfl | exact Or.inr (Or.inl rfl) | exact Or.inr (Or.inr (Or.inl ⟨_, rfl⟩)) | exact Or.inr (Or.inr (Or.inr ⟨_, rfl⟩))
      | 3, _ => first | exact Or.inl rfl | exact Or.inr (Or.inl rfl) | exact Or.inr (Or.inr (Or.inl ⟨_, rfl⟩)) | exact Or.inr (Or.inr (Or.inr ⟨_, rfl⟩))
      | j + 4, hj => exact absurd hj (by show ¬ _ < 4; omega)
    | 10, _ =>
      match j, hj with
      | 0, _ => first | exact Or.inl rfl | exact Or.inr (Or.inl rfl) | exact Or.inr (Or.inr (Or.inl ⟨_, rfl⟩)) | exact Or.inr (Or.inr (Or.inr ⟨_, rfl⟩))
      | 1, _ => first | exact Or.inl rfl | exact Or.inr (Or.inl rfl) | exact Or.inr (Or.inr (Or.inl ⟨_, rfl⟩)) | exact Or.inr (Or.inr (Or.inr ⟨_, rfl⟩))
      | 2, _ => first | exact Or.inl rfl | exact Or.inr (Or.inl rfl) | exact Or.inr (Or.inr (Or.inl ⟨_, rfl⟩)) | exact Or.inr (Or.inr (Or.inr ⟨_, rfl⟩))
      | 3, _ => first | exact Or.inl rfl | exact Or.inr (Or.inl rfl) | exact Or.inr (Or.inr (Or.inl ⟨_, rfl⟩)) | exact Or.inr (Or.inr (Or.inr ⟨_, rfl⟩))
      | j + 4, hj => exact absurd hj (by show ¬ _ < 4; omega)
    | 11, _ =>
      match j, hj with
      | 0, _ => first | exact Or.inl rfl | exact Or.inr (Or.inl rfl) | exact Or.inr (Or.inr (Or.inl ⟨_, rfl⟩)) | exact Or.inr (Or.inr (Or.inr ⟨_, rfl⟩))
      | 1, _ => first | exact Or.inl rfl | exact Or.inr (Or.inl rfl) | exact Or.inr (Or.inr (Or.inl ⟨_, rfl⟩)) | exact Or.inr (Or.inr (Or.inr ⟨_, rfl⟩))
      | 2, _ => first | exact Or.inl rfl | exact Or.inr (Or.inl rfl) | exact Or.inr (Or.inr (Or.inl ⟨_, rfl⟩)) | exact Or.inr (Or.inr (Or.inr ⟨_, rfl⟩))
      | 3, _ => first | exact Or.inl rfl | exact Or.inr (Or.inl rfl) | exact Or.inr (Or.inr (Or.inl ⟨_, rfl⟩)) | exact Or.inr (Or.inr (Or.inr ⟨_, rfl⟩))
      | 4, _ => first | exact Or.inl rfl | exact Or.inr (Or.inl rfl) | exact Or.inr (Or.inr (Or.inl ⟨_, rfl⟩)) | exact Or.inr (Or.inr (Or.inr ⟨_, rfl⟩))
      | 5, _ => first | exact Or.inl rfl | exact Or.inr (Or.inl rfl) | exact Or.inr (Or.inr (Or.inl ⟨_, rfl⟩)) | exact Or.inr (Or.inr (Or.inr ⟨_, rfl⟩))
      | 6, _ => first | exact Or.inl rfl | exact Or.inr (Or.inl rfl) | exact Or.inr (Or.inr (Or.inl ⟨_, rfl⟩)) | exact Or.inr (Or.inr (Or.inr ⟨_, rfl⟩))
      | 7, _ => first | exact Or.inl rfl | exact Or.inr (Or.inl rfl) | exact Or.inr (Or.inr (Or.inl ⟨_, rfl⟩)) | exact Or.inr (Or.inr (Or.inr ⟨_, rfl⟩))
      | j + 8, hj => exact absurd hj (by show ¬ _ < 8; omega)
    | 12, _ =>
      match j, hj with
      | 0, _ => first | exact Or.inl rfl | exact Or.inr (Or.inl rfl) | exact Or.inr (Or.inr (Or.inl ⟨_, rfl⟩)) | exact Or.inr (Or.inr (Or.inr ⟨_, rfl⟩))
      | 1, _ => first | exact Or.inl rfl | exact Or.inr (Or.inl rfl) | exact Or.inr (Or.inr (Or.inl ⟨_, rfl⟩)) | exact Or.inr (Or.inr (Or.inr ⟨_, rfl⟩))
      | 2, _ => first | exact Or.inl rfl | exact Or.inr (Or.inl rfl) | exact Or.inr (Or.inr (Or.inl ⟨_, rfl⟩)) | exact Or.inr (Or.inr (Or.inr ⟨_, rfl⟩))
      | 3, _ => first | exact Or.inl rfl | exact Or.inr (Or.inl rfl) | exact Or.inr (Or.inr (Or.inl ⟨_, rfl⟩)) | exact Or.inr (Or.inr (Or.inr ⟨_, rfl⟩))
      | 4, _ => first | exact Or.inl rfl | exact Or.inr (Or.inl rfl) | exact Or.inr (Or.inr (Or.inl ⟨_, rfl⟩)) | exact Or.inr (Or.inr (Or.inr ⟨_, rfl⟩))
      | 5, _ => first | exact Or.inl rfl | exact Or.inr (Or.inl rfl) | exact Or.inr (Or.inr (Or.inl ⟨_, rfl⟩)) | exact Or.inr (Or.inr (Or.inr ⟨_, rfl⟩))
      | 6, _ => first | exact Or.inl rfl | exact Or.inr (Or.inl rfl) | exact Or.inr (Or.inr (Or.inl ⟨_, rfl⟩)) | exact Or.inr (Or.inr (Or.inr ⟨_, rfl⟩))
      | 7, _ => first | exact Or.inl rfl | exact Or.inr (Or.inl rfl) | exact Or.inr (Or.inr (Or.inl ⟨_, rfl⟩)) | exact Or.inr (Or.inr (Or.inr ⟨_, rfl⟩))
      | 8, _ => first | exact Or.inl rfl | exact Or.inr (Or.inl rfl) | exact Or.inr (Or.inr (Or.inl ⟨_, rfl⟩)) | exact Or.inr (Or.inr (Or.inr ⟨_, rfl⟩))
      | 9, _ => first | exact Or.inl rfl | exact Or.inr (Or.inl rfl) | exact Or.inr (Or.inr (Or.inl ⟨_, rfl⟩)) | exact Or.inr (Or.inr (Or.inr ⟨_, rfl⟩))
      | 10, _ => first | exact Or.inl rfl | exact Or.inr (Or.inl rfl) | exact Or.inr (Or.inr (Or.inl ⟨_, rfl⟩)) | exact Or.inr (Or.inr (Or.inr ⟨_, rfl⟩))
      | 11, _ => first | exact Or.inl rfl | exact Or.inr (Or.inl rfl) | exact Or.inr (Or.inr (Or.inl ⟨_, rfl⟩)) | exact Or.inr (Or.inr (Or.inr ⟨_, rfl⟩))
      | 12, _ => first | exact Or.inl rfl | exact Or.inr (Or.inl rfl) | exact Or.inr (Or.inr (Or.inl ⟨_, rfl⟩)) | exact Or.inr (Or.inr (Or.inr ⟨_, rfl⟩))
      | 13, _ => first | exact Or.inl rfl | exact Or.inr (Or.inl rfl) | exact Or.inr (Or.inr (Or.inl ⟨_, rfl⟩)) | exact Or.inr (Or.inr (Or.inr ⟨_, rfl⟩))
      | 14, _ => first | exact Or.inl rfl | exact Or.inr (Or.inl rfl) | exact Or.inr (Or.inr (Or.inl ⟨_, rfl⟩)) | exact Or.inr (Or.inr (Or.inr ⟨_, rfl⟩))
      | 15, _ => first | exact Or.inl rfl | exact Or.inr (Or.inl rfl) | exact Or.inr (Or.inr (Or.inl ⟨_, rfl⟩)) | exact Or.inr (Or.inr (Or.inr ⟨_, rfl⟩))
      | 16, _ => first | exact Or.inl rfl | exact Or.inr (Or.inl rfl) | exact Or.inr (Or.inr (Or.inl ⟨_, rfl⟩)) | exact Or.inr (Or.inr (Or.inr ⟨_, rfl⟩))
      | 17, _ => first | exact Or.inl rfl | exact Or.inr (Or.inl rfl) | exact Or.inr (Or.inr (Or.inl ⟨_, rfl⟩)) | exact Or.inr (Or.inr (Or.inr ⟨_, rfl⟩))
      | 18, _ => first | exact Or.inl rfl | exact Or.inr (Or.inl rfl) | exact Or.inr (Or.inr (Or.inl ⟨_, rfl⟩)) | exact Or.inr (Or.inr (Or.inr ⟨_, rfl⟩))
      | 19, _ => first | exact Or.inl rfl | exact Or.inr (Or.inl rfl) | exact Or.inr (Or.inr (Or.inl ⟨_, rfl⟩)) | exact Or.inr (Or.inr (Or.inr ⟨_, rfl⟩))
      | 20, _ => first | exact Or.inl rfl | exact Or.inr (Or.inl rfl) | exact Or.inr (Or.inr (Or.inl ⟨_, rfl⟩)) | exact Or.inr (Or.inr (Or.inr ⟨_, rfl⟩))
      | 21, _ => first | exact Or.inl rfl | exact Or.inr (Or.inl rfl) | exact Or.inr (Or.inr (Or.inl ⟨_, rfl⟩)) | exact Or.inr (Or.inr (Or.inr ⟨_, rfl⟩))
      | 22, _ => first | exact Or.inl rfl | exact Or.inr (Or.inl rfl) | exact Or.inr (Or.inr (Or.inl ⟨_, rfl⟩)) | exact Or.inr (Or.inr (Or.inr ⟨_, rfl⟩))
      | 23, _ => first | exact Or.inl rfl | exact Or.inr (Or.inl rfl) | exact Or.inr (Or.inr (Or.inl ⟨_, rfl⟩)) | exact Or.inr (Or.inr (Or.inr ⟨_, rfl⟩))
      | 24, _ => first | exact Or.inl rfl | exact Or.inr (Or.inl rfl) | exact Or.inr (Or.inr (Or.inl ⟨_, rfl⟩)) | exact Or.inr (Or.inr (Or.inr ⟨_, rfl⟩))
      | 25, _ => first | exact Or.inl rfl | exact Or.inr (Or.inl rfl) | exact Or.inr (Or.inr (Or.inl ⟨_, rfl⟩)) | exact Or.inr (Or.inr (Or.inr ⟨_, rfl⟩))
      | 26, _ => first | exact Or.inl rfl | exact Or.inr (Or.inl rfl) | exact Or.inr (Or.inr (Or.inl ⟨_, rfl⟩)) | exact Or.inr (Or.inr (Or.inr ⟨_, rfl⟩))
      | 27, _ => first | exact Or.inl rfl | exact Or.inr (Or.inl rfl) | exact Or.inr (Or.inr (Or.inl ⟨_, rfl⟩)) | exact Or.inr (Or.inr (Or.inr ⟨_, rfl⟩))
      | 28, _ => first | exact Or.inl rfl | exact Or.inr (Or.inl rfl) | exact Or.inr (Or.inr (Or.inl ⟨_, rfl⟩)) | exact Or.inr (Or.inr (Or.inr ⟨_, rfl⟩))
      | 29, _ => first | exact Or.inl rfl | exact Or.inr (Or.inl rfl) | exact Or.inr (Or.inr (Or.inl ⟨_, rfl⟩)) | exact Or.inr (Or.inr (Or.inr ⟨_, rfl⟩))
      | j + 30, hj => exact absurd hj (by show ¬ _ < 30; omega)
    | k + 13, hk => exact absurd hk (by omega)
  rcases key ci hc j hj with h | h | ⟨x, h⟩ | ⟨x, h⟩ <;> rw [h] <;> simp [defaultValue, pv, up1] <;> rfl
theorem w_new {idx ci : Nat} (C : Cx p s m args meth c cc nL own D cy G n0) (hd : decode cc pc = .ok (.new idx, 3)) (hcl : Cond.classLink own idx (Rk ci) ∈ lwG) (hin : Cond.instantiable (Rk ci) (Nk ci) ∈ lwG) (hini : Cond.initialized (Rk ci) ∈ lwG) (hc : ci < 13) (hs : SH M.2.2.2 = (ci, Nk ci)) (hn : M.2.2.2 < 1000) (hr1 : M.2.2.2 + 1 - n0 ≤ R.cells) (hr2 : SL (M.2.2.2 + 1) - SL n0 ≤ R.slots) (k : WW p l e R s m args below meth c Q nL D cy G n0  (pc + 3) L (vR (some M.2.2.2) :: st) (newM M)) : WW p l e R s m args below meth c Q nL D cy G n0  pc L st M := by
  intro h0 hL hst H locs ls hW hS hls
  obtain ⟨hx, hb, hml, hown, hts, hK, hlk, hsz⟩ := C
  obtain ⟨c1, c2, c3, c4⟩ := clOK ci hc
  have hm := SL_mono h0
  have hSL : SL (M.2.2.2 + 1) = SL M.2.2.2 + Nk ci := by show SL _ + (SH _).2 = _; rw [hs]
  have hKn := hK.1.1 ci _ c1
  refine W.newcK hx hb hown (hts _ hcl) (hts _ hin) (hts _ hini) rfl hd (by omega) (by omega) hKn.2.1 hW.1 fun H1 kC hkC e1 z1 o1 => ?_
  have hnew : va_at D vwCl (G.1 + M.2.2.2, cellOf cy G (newM M) M.2.2.2) H1 := by
    rw [cellO hs hc]
    exact ⟨_, c1, (u_born (TYk ci) hts c2 hKn hkC e1 c3).to (fun j hj => new_fs hc hj)⟩
  have hW' := hW.new hn hnew (by rw [z1, hW.1]) (fun q hq => o1 q (by rw [← hW.1]; exact hq))
  have g := k (by show n0 ≤ M.2.2.2 + 1; omega) hL (ok_push (v := vR _) trivial hst) H1 locs ls hW' ⟨by rw [z1]; have := hS.1; rw [hW.1] at this; omega, fun q h1 h2 => (o1 q (by have := hS.1; rw [hW.1] at this; omega)).trans (hS.2.1 q h1 h2), hS.2.2⟩ hls
  have e1 : (newM M).2.2.2 - n0 = M.2.2.2 - n0 + 1 := by show M.2.2.2 + 1 - n0 = _; omega
  have e2 : SL (newM M).2.2.2 - SL n0 = SL M.2.2.2 - SL n0 + Nk ci := by show SL (M.2.2.2 + 1) - SL n0 = _; omega
  rw [e1, e2] at g
  have g : W _ _ _ _ _ _ _ _ _ _ _ _ _ _ _ (F0 m (pc + 3) ls (.ref (ad G M.2.2.2) :: st.map (pv G))) := g
  rw [ad_lt hn] at g
  exact g
theorem w_newi {n : Nat} (C : Cx p s m args meth c cc nL own D cy G n0) (hd : decode cc pc = .ok (.newarray .int, 2)) (harr : Cond.arrayClass .int ∈ lwG) (hs : SH M.2.2.2 = (14, n)) (hn : M.2.2.2 < 1000) (hnn : n < 100000) (hr1 : M.2.2.2 + 1 - n0 ≤ R.cells) (hr2 : SL (M.2.2.2 + 1) - SL n0 ≤ R.slots) (k : WW p l e R s m args below meth c Q nL D cy G n0  (pc + 2) L (vR (some M.2.2.2) :: st) (newM M)) : WW p l e R s m args below meth c Q nL D cy G n0  pc L (vI n :: st) M := by
  intro h0 hL hst H locs ls hW hS hls
  obtain ⟨hx, hb, hml, hown, hts, hK, hlk, hsz⟩ := C
  have hm := SL_mono h0
  have hSL : SL (M.2.2.2 + 1) = SL M.2.2.2 + n := by show SL _ + (SH _).2 = _; rw [hs]
  have hnk : inI (n : Int) := ok_h hst
  refine va_newaK (atype := .int) (N := n) hx hb (hts _ harr) rfl hd rfl (fun q => by have q2 := (i32lt hnk in0).mp (by rw [i320]; exact q); omega) (by show (Int32.ofInt (n : Int)).toNatClampNeg = n; rw [clampt (by omega) hnk]; rfl) (by show n * 4 ≤ _; omega) (by omega) (by omega) hW.1 fun H1 cA e1 z1 o1 hAr hNm => ?_
  have hcA : cA = cy 14 := by
    have h2 := (hK.1.2 1 _ rfl).2
    exact Option.some.inj (hNm.symm.trans h2)
  subst hcA
  have hnew : va_at D vwCl (G.1 + M.2.2.2, cellOf cy G (newM M) M.2.2.2) H1 := by
    rw [cellI hs (by omega) (by omega)]
    show H1[G.1 + M.2.2.2]? = some (vp_cell _ _)
    rw [e1, vp_cell_i]
    congr 2
    funext j
    simp [newM, up1]
    rfl
  have hW' := hW.new hn hnew (by rw [z1, hW.1]) (fun q hq => o1 q (by rw [← hW.1]; exact hq))
  have g := k (by show n0 ≤ M.2.2.2 + 1; omega) hL (ok_push (v := vR _) trivial (ok_t hst)) H1 locs ls hW' ⟨by rw [z1]; have := hS.1; rw [hW.1] at this; omega, fun q h1 h2 => (o1 q (by have := hS.1; rw [hW.1] at this; omega)).trans (hS.2.1 q h1 h2), hS.2.2⟩ hls
  have e1 : (newM M).2.2.2 - n0 = M.2.2.2 - n0 + 1 := by show M.2.2.2 + 1 - n0 = _; omega
  have e2 : SL (newM M).2.2.2 - SL n0 = SL M.2.2.2 - SL n0 + n := by show SL (M.2.2.2 + 1) - SL n0 = _; omega
  rw [e1, e2] at g
  have g : W _ _ _ _ _ _ _ _ _ _ _ _ _ _ _ (F0 m (pc + 2) ls (.ref (ad G M.2.2.2) :: st.map (pv G))) := g
  rw [ad_lt hn] at g
  exact g
theorem w_newb {n : Nat} (C : Cx p s m args meth c cc nL own D cy G n0) (hd : decode cc pc = .ok (.newarray .byte, 2)) (harr : Cond.arrayClass .byte ∈ lwG) (hs : SH M.2.2.2 = (13, n)) (hn : M.2.2.2 < 1000) (hnn : n < 100000) (hr1 : M.2.2.2 + 1 - n0 ≤ R.cells) (hr2 : SL (M.2.2.2 + 1) - SL n0 ≤ R.slots) (k : WW p l e R s m args below meth c Q nL D cy G n0  (pc + 2) L (vR (some M.2.2.2) :: st) (newM M)) : WW p l e R s m args below meth c Q nL D cy G n0  pc L (vI n :: st) M := by
  intro h0 hL hst H locs ls hW hS hls
  obtain ⟨hx, hb, hml, hown, hts, hK, hlk, hsz⟩ := C
  have hm := SL_mono h0
  have hSL : SL (M.2.2.2 + 1) = SL M.2.2.2 + n := by show SL _ + (SH _).2 = _; rw [hs]
  have hnk : inI (n : Int) := ok_h hst
  refine va_newaK (atype := .byte) (N := n) hx hb (hts _ harr) rfl hd rfl (fun q => by have q2 := (i32lt hnk in0).mp (by rw [i320]; exact q); omega) (by show (Int32.ofInt (n : Int)).toNatClampNeg = n; rw [clampt (by omega) hnk]; rfl) (by show n * 1 ≤ _; omega) (by omega) (by omega) hW.1 fun H1 cA e1 z1 o1 hAr hNm => ?_
  have hcA : cA = cy 13 := by
    have h2 := (hK.1.2 0 _ rfl).2
    exact Option.some.inj (hNm.symm.trans h2)
  subst hcA
  have hnew : va_at D vwCl (G.1 + M.2.2.2, cellOf cy G (newM M) M.2.2.2) H1 := by
    rw [cellI hs (by omega) (by omega)]
    show H1[G.1 + M.2.2.2]? = some (vp_cell _ _)
    rw [e1, vp_cell_i]
    congr 2
    funext j
    simp [newM, up1]
    rfl
  have hW' := hW.new hn hnew (by rw [z1, hW.1]) (fun q hq => o1 q (by rw [← hW.1]; exact hq))
  have g := k (by show n0 ≤ M.2.2.2 + 1; omega) hL (ok_push (v := vR _) trivial (ok_t hst)) H1 locs ls hW' ⟨by rw [z1]; have := hS.1; rw [hW.1] at this; omega, fun q h1 h2 => (o1 q (by have := hS.1; rw [hW.1] at this; omega)).trans (hS.2.1 q h1 h2), hS.2.2⟩ hls
  have e1 : (newM M).2.2.2 - n0 = M.2.2.2 - n0 + 1 := by show M.2.2.2 + 1 - n0 = _; omega
  have e2 : SL (newM M).2.2.2 - SL n0 = SL M.2.2.2 - SL n0 + n := by show SL (M.2.2.2 + 1) - SL n0 = _; omega
  rw [e1, e2] at g
  have g : W _ _ _ _ _ _ _ _ _ _ _ _ _ _ _ (F0 m (pc + 2) ls (.ref (ad G M.2.2.2) :: st.map (pv G))) := g
  rw [ad_lt hn] at g
  exact g
theorem w_newq15 {idx n : Nat} (C : Cx p s m args meth c cc nL own D cy G n0) (hd : decode cc pc = .ok (.anewarray idx, 3)) (hcl : Cond.classLink own idx RX0 ∈ lwG) (hs : SH M.2.2.2 = (15, n)) (hn : M.2.2.2 < 1000) (hnn : n < 100000) (hr1 : M.2.2.2 + 1 - n0 ≤ R.cells) (hr2 : SL (M.2.2.2 + 1) - SL n0 ≤ R.slots) (k : WW p l e R s m args below meth c Q nL D cy G n0  (pc + 3) L (vR (some M.2.2.2) :: st) (newM M)) : WW p l e R s m args below meth c Q nL D cy G n0  pc L (vI n :: st) M := by
  intro h0 hL hst H locs ls hW hS hls
  obtain ⟨hx, hb, hml, hown, hts, hK, hlk, hsz⟩ := C
  have hm := SL_mono h0
  have hSL : SL (M.2.2.2 + 1) = SL M.2.2.2 + n := by show SL _ + (SH _).2 = _; rw [hs]
  have hnk : inI (n : Int) := ok_h hst
  have hcn : (Int32.ofInt (n : Int)).toNatClampNeg = n := by rw [clampt (by omega) hnk]; rfl
  refine W.anew hx hb hown (hts _ hcl) (va_AO.use (hK.2.2 RX0 (by simp [aoL]))) rfl hd rfl (fun q => by have q2 := (i32lt hnk in0).mp (by rw [i320]; exact q); omega) (by show (Int32.ofInt (n : Int)).toNatClampNeg * 4 ≤ _; rw [hcn]; omega) (by omega) (by show _ + (Int32.ofInt (n : Int)).toNatClampNeg ≤ _; rw [hcn]; omega) fun cA kA comp f1 f2 f3 f4 => ?_
  have hcA : cA = cy 15 := by
    obtain ⟨kB, cmp, q1, q2, q3, q4⟩ := (hK.1.2 2 _ rfl).2
    exact Option.some.inj (f1.symm.trans q4)
  subst hcA
  show W _ _ _ _ _ _ _ _ _ _ (H.push ({ cls := cy 15, slots := Array.replicate (Int32.ofInt (n : Int)).toNatClampNeg .null, vm := .none } : Cell)) _ _ (SL M.2.2.2 - SL n0 + (Int32.ofInt (n : Int)).toNatClampNeg) _ (F0 m (pc + 3) ls (.ref H.size :: st.map (pv G)))
  rw [hcn]
  generalize hH1 : H.push ({ cls := cy 15, slots := Array.replicate n .null, vm := .none } : Cell) = H1
  have z1 : H1.size = H.size + 1 := by rw [← hH1, Array.size_push]
  have e1 : H1[H.size]? = some (arrV (cy 15) n (fun _ => .null)) := by rw [← hH1, Array.getElem?_push_size, ← arrV_new]
  have o1 : ∀ q : Nat, q < H.size → H1[q]? = H[q]? := fun q hq => by rw [← hH1, Array.getElem?_push, if_neg (Nat.ne_of_lt hq)]
  have hnew : va_at D vwCl (G.1 + M.2.2.2, cellOf cy G (newM M) M.2.2.2) H1 := by
    rw [cellR hs (by omega), ← hW.1]
    show H1[H.size]? = some (vp_cell _ _)
    rw [e1, vp_cell_q]
    congr 2
    funext j
    simp [newM, up1]
    rfl
  have hW' := hW.new hn hnew z1 o1
  have g := k (by show n0 ≤ M.2.2.2 + 1; omega) hL (ok_push (v := vR _) trivial (ok_t hst)) H1 locs ls hW' ⟨by rw [z1]; have := hS.1; omega, fun q h1 h2 => (o1 q (by have := hS.1; omega)).trans (hS.2.1 q h1 h2), hS.2.2⟩ hls
  have e1 : (newM M).2.2.2 - n0 = M.2.2.2 - n0 + 1 := by show M.2.2.2 + 1 - n0 = _; omega
  have e2 : SL (newM M).2.2.2 - SL n0 = SL M.2.2.2 - SL n0 + n := by show SL (M.2.2.2 + 1) - SL n0 = _; omega
  rw [e1, e2] at g
  have g : W _ _ _ _ _ _ _ _ _ _ _ _ _ _ _ (F0 m (pc + 3) ls (.ref (ad G M.2.2.2) :: st.map (pv G))) := g
  rw [ad_lt hn, ← hW.1] at g
  exact g
theorem w_newq16 {idx n : Nat} (C : Cx p s m args meth c cc nL own D cy G n0) (hd : decode cc pc = .ok (.anewarray idx, 3)) (hcl : Cond.classLink own idx RX3 ∈ lwG) (hs : SH M.2.2.2 = (16, n)) (hn : M.2.2.2 < 1000) (hnn : n < 100000) (hr1 : M.2.2.2 + 1 - n0 ≤ R.cells) (hr2 : SL (M.2.2.2 + 1) - SL n0 ≤ R.slots) (k : WW p l e R s m args below meth c Q nL D cy G n0  (pc + 3) L (vR (some M.2.2.2) :: st) (newM M)) : WW p l e R s m args below meth c Q nL D cy G n0  pc L (vI n :: st) M := by
  intro h0 hL hst H locs ls hW hS hls
  obtain ⟨hx, hb, hml, hown, hts, hK, hlk, hsz⟩ := C
  have hm := SL_mono h0
  have hSL : SL (M.2.2.2 + 1) = SL M.2.2.2 + n := by show SL _ + (SH _).2 = _; rw [hs]
  have hnk : inI (n : Int) := ok_h hst
  have hcn : (Int32.ofInt (n : Int)).toNatClampNeg = n := by rw [clampt (by omega) hnk]; rfl
  refine W.anew hx hb hown (hts _ hcl) (va_AO.use (hK.2.2 RX3 (by simp [aoL]))) rfl hd rfl (fun q => by have q2 := (i32lt hnk in0).mp (by rw [i320]; exact q); omega) (by show (Int32.ofInt (n : Int)).toNatClampNeg * 4 ≤ _; rw [hcn]; omega) (by omega) (by show _ + (Int32.ofInt (n : Int)).toNatClampNeg ≤ _; rw [hcn]; omega) fun cA kA comp f1 f2 f3 f4 => ?_
  have hcA : cA = cy 16 := by
    obtain ⟨kB, cmp, q1, q2, q3, q4⟩ := (hK.1.2 3 _ rfl).2
    exact Option.some.inj (f1.symm.trans q4)
  subst hcA
  show W _ _ _ _ _ _ _ _ _ _ (H.push ({ cls := cy 16, slots := Array.replicate (Int32.ofInt (n : Int)).toNatClampNeg .null, vm := .none } : Cell)) _ _ (SL M.2.2.2 - SL n0 + (Int32.ofInt (n : Int)).toNatClampNeg) _ (F0 m (pc + 3) ls (.ref H.size :: st.map (pv G)))
  rw [hcn]
  generalize hH1 : H.push ({ cls := cy 16, slots := Array.replicate n .null, vm := .none } : Cell) = H1
  have z1 : H1.size = H.size + 1 := by rw [← hH1, Array.size_push]
  have e1 : H1[H.size]? = some (arrV (cy 16) n (fun _ => .null)) := by rw [← hH1, Array.getElem?_push_size, ← arrV_new]
  have o1 : ∀ q : Nat, q < H.size → H1[q]? = H[q]? := fun q hq => by rw [← hH1, Array.getElem?_push, if_neg (Nat.ne_of_lt hq)]
  have hnew : va_at D vwCl (G.1 + M.2.2.2, cellOf cy G (newM M) M.2.2.2) H1 := by
    rw [cellR hs (by omega), ← hW.1]
    show H1[H.size]? = some (vp_cell _ _)
    rw [e1, vp_cell_q]
    congr 2
    funext j
    simp [newM, up1]
    rfl
  have hW' := hW.new hn hnew z1 o1
  have g := k (by show n0 ≤ M.2.2.2 + 1; omega) hL (ok_push (v := vR _) trivial (ok_t hst)) H1 locs ls hW' ⟨by rw [z1]; have := hS.1; omega, fun q h1 h2 => (o1 q (by have := hS.1; omega)).trans (hS.2.1 q h1 h2), hS.2.2⟩ hls
  have e1 : (newM M).2.2.2 - n0 = M.2.2.2 - n0 + 1 := by show M.2.2.2 + 1 - n0 = _; omega
  have e2 : SL (newM M).2.2.2 - SL n0 = SL M.2.2.2 - SL n0 + n := by show SL (M.2.2.2 + 1) - SL n0 = _; omega
  rw [e1, e2] at g
  have g : W _ _ _ _ _ _ _ _ _ _ _ _ _ _ _ (F0 m (pc + 3) ls (.ref (ad G M.2.2.2) :: st.map (pv G))) := g
  rw [ad_lt hn, ← hW.1] at g
  exact g
theorem w_newq17 {idx n : Nat} (C : Cx p s m args meth c cc nL own D cy G n0) (hd : decode cc pc = .ok (.anewarray idx, 3)) (hcl : Cond.classLink own idx RX4 ∈ lwG) (hs : SH M.2.2.2 = (17, n)) (hn : M.2.2.2 < 1000) (hnn : n < 100000) (hr1 : M.2.2.2 + 1 - n0 ≤ R.cells) (hr2 : SL (M.2.2.2 + 1) - SL n0 ≤ R.slots) (k : WW p l e R s m args below meth c Q nL D cy G n0  (pc + 3) L (vR (some M.2.2.2) :: st) (newM M)) : WW p l e R s m args below meth c Q nL D cy G n0  pc L (vI n :: st) M := by
  intro h0 hL hst H locs ls hW hS hls
  obtain ⟨hx, hb, hml, hown, hts, hK, hlk, hsz⟩ := C
  have hm := SL_mono h0
  have hSL : SL (M.2.2.2 + 1) = SL M.2.2.2 + n := by show SL _ + (SH _).2 = _; rw [hs]
  have hnk : inI (n : Int) := ok_h hst
  have hcn : (Int32.ofInt (n : Int)).toNatClampNeg = n := by rw [clampt (by omega) hnk]; rfl
  refine W.anew hx hb hown (hts _ hcl) (va_AO.use (hK.2.2 RX4 (by simp [aoL]))) rfl hd rfl (fun q => by have q2 := (i32lt hnk in0).mp (by rw [i320]; exact q); omega) (by show (Int32.ofInt (n : Int)).toNatClampNeg * 4 ≤ _; rw [hcn]; omega) (by omega) (by show _ + (Int32.ofInt (n : Int)).toNatClampNeg ≤ _; rw [hcn]; omega) fun cA kA comp f1 f2 f3 f4 => ?_
  have hcA : cA = cy 17 := by
    obtain ⟨kB, cmp, q1, q2, q3, q4⟩ := (hK.1.2 4 _ rfl).2
    exact Option.some.inj (f1.symm.trans q4)
  subst hcA
  show W _ _ _ _ _ _ _ _ _ _ (H.push ({ cls := cy 17, slots := Array.replicate (Int32.ofInt (n : Int)).toNatClampNeg .null, vm := .none } : Cell)) _ _ (SL M.2.2.2 - SL n0 + (Int32.ofInt (n : Int)).toNatClampNeg) _ (F0 m (pc + 3) ls (.ref H.size :: st.map (pv G)))
  rw [hcn]
  generalize hH1 : H.push ({ cls := cy 17, slots := Array.replicate n .null, vm := .none } : Cell) = H1
  have z1 : H1.size = H.size + 1 := by rw [← hH1, Array.size_push]
  have e1 : H1[H.size]? = some (arrV (cy 17) n (fun _ => .null)) := by rw [← hH1, Array.getElem?_push_size, ← arrV_new]
  have o1 : ∀ q : Nat, q < H.size → H1[q]? = H[q]? := fun q hq => by rw [← hH1, Array.getElem?_push, if_neg (Nat.ne_of_lt hq)]
  have hnew : va_at D vwCl (G.1 + M.2.2.2, cellOf cy G (newM M) M.2.2.2) H1 := by
    rw [cellR hs (by omega), ← hW.1]
    show H1[H.size]? = some (vp_cell _ _)
    rw [e1, vp_cell_q]
    congr 2
    funext j
    simp [newM, up1]
    rfl
  have hW' := hW.new hn hnew z1 o1
  have g := k (by show n0 ≤ M.2.2.2 + 1; omega) hL (ok_push (v := vR _) trivial (ok_t hst)) H1 locs ls hW' ⟨by rw [z1]; have := hS.1; omega, fun q h1 h2 => (o1 q (by have := hS.1; omega)).trans (hS.2.1 q h1 h2), hS.2.2⟩ hls
  have e1 : (newM M).2.2.2 - n0 = M.2.2.2 - n0 + 1 := by show M.2.2.2 + 1 - n0 = _; omega
  have e2 : SL (newM M).2.2.2 - SL n0 = SL M.2.2.2 - SL n0 + n := by show SL (M.2.2.2 + 1) - SL n0 = _; omega
  rw [e1, e2] at g
  have g : W _ _ _ _ _ _ _ _ _ _ _ _ _ _ _ (F0 m (pc + 3) ls (.ref (ad G M.2.2.2) :: st.map (pv G))) := g
  rw [ad_lt hn, ← hW.1] at g
  exact g
theorem w_newq18 {idx n : Nat} (C : Cx p s m args meth c cc nL own D cy G n0) (hd : decode cc pc = .ok (.anewarray idx, 3)) (hcl : Cond.classLink own idx RX8 ∈ lwG) (hs : SH M.2.2.2 = (18, n)) (hn : M.2.2.2 < 1000) (hnn : n < 100000) (hr1 : M.2.2.2 + 1 - n0 ≤ R.cells) (hr2 : SL (M.2.2.2 + 1) - SL n0 ≤ R.slots) (k : WW p l e R s m args below meth c Q nL D cy G n0  (pc + 3) L (vR (some M.2.2.2) :: st) (newM M)) : WW p l e R s m args below meth c Q nL D cy G n0  pc L (vI n :: st) M := by
  intro h0 hL hst H locs ls hW hS hls
  obtain ⟨hx, hb, hml, hown, hts, hK, hlk, hsz⟩ := C
  have hm := SL_mono h0
  have hSL : SL (M.2.2.2 + 1) = SL M.2.2.2 + n := by show SL _ + (SH _).2 = _; rw [hs]
  have hnk : inI (n : Int) := ok_h hst
  have hcn : (Int32.ofInt (n : Int)).toNatClampNeg = n := by rw [clampt (by omega) hnk]; rfl
  refine W.anew hx hb hown (hts _ hcl) (va_AO.use (hK.2.2 RX8 (by simp [aoL]))) rfl hd rfl (fun q => by have q2 := (i32lt hnk in0).mp (by rw [i320]; exact q); omega) (by show (Int32.ofInt (n : Int)).toNatClampNeg * 4 ≤ _; rw [hcn]; omega) (by omega) (by show _ + (Int32.ofInt (n : Int)).toNatClampNeg ≤ _; rw [hcn]; omega) fun cA kA comp f1 f2 f3 f4 => ?_
  have hcA : cA = cy 18 := by
    obtain ⟨kB, cmp, q1, q2, q3, q4⟩ := (hK.1.2 5 _ rfl).2
    exact Option.some.inj (f1.symm.trans q4)
  subst hcA
  show W _ _ _ _ _ _ _ _ _ _ (H.push ({ cls := cy 18, slots := Array.replicate (Int32.ofInt (n : Int)).toNatClampNeg .null, vm := .none } : Cell)) _ _ (SL M.2.2.2 - SL n0 + (Int32.ofInt (n : Int)).toNatClampNeg) _ (F0 m (pc + 3) ls (.ref H.size :: st.map (pv G)))
  rw [hcn]
  generalize hH1 : H.push ({ cls := cy 18, slots := Array.replicate n .null, vm := .none } : Cell) = H1
  have z1 : H1.size = H.size + 1 := by rw [← hH1, Array.size_push]
  have e1 : H1[H.size]? = some (arrV (cy 18) n (fun _ => .null)) := by rw [← hH1, Array.getElem?_push_size, ← arrV_new]
  have o1 : ∀ q : Nat, q < H.size → H1[q]? = H[q]? := fun q hq => by rw [← hH1, Array.getElem?_push, if_neg (Nat.ne_of_lt hq)]
  have hnew : va_at D vwCl (G.1 + M.2.2.2, cellOf cy G (newM M) M.2.2.2) H1 := by
    rw [cellR hs (by omega), ← hW.1]
    show H1[H.size]? = some (vp_cell _ _)
    rw [e1, vp_cell_q]
    congr 2
    funext j
    simp [newM, up1]
    rfl
  have hW' := hW.new hn hnew z1 o1
  have g := k (by show n0 ≤ M.2.2.2 + 1; omega) hL (ok_push (v := vR _) trivial (ok_t hst)) H1 locs ls hW' ⟨by rw [z1]; have := hS.1; omega, fun q h1 h2 => (o1 q (by have := hS.1; omega)).trans (hS.2.1 q h1 h2), hS.2.2⟩ hls
  have e1 : (newM M).2.2.2 - n0 = M.2.2.2 - n0 + 1 := by show M.2.2.2 + 1 - n0 = _; omega
  have e2 : SL (newM M).2.2.2 - SL n0 = SL M.2.2.2 - SL n0 + n := by show SL (M.2.2.2 + 1) - SL n0 = _; omega
  rw [e1, e2] at g
  have g : W _ _ _ _ _ _ _ _ _ _ _ _ _ _ _ (F0 m (pc + 3) ls (.ref (ad G M.2.2.2) :: st.map (pv G))) := g
  rw [ad_lt hn, ← hW.1] at g
  exact g
end ARR
