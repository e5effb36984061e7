/-! TYPED ROWS, RETURNS, A METHOD'S ENTRY, LOOPS: what the walks by program are made of -/
/-- a reference to an object of class ci among the system's 243 cells -/
def isO (ci : Nat) (r : Option Nat) (o : Nat) : Prop := r = some o ∧ o < 243 ∧ (SH o).1 = ci
def isOn (ci : Nat) (n : Nat) (r : Option Nat) (o : Nat) : Prop := r = some o ∧ o < n ∧ (SH o).1 = ci
/-- a place of an array of kind k -/
def isA (k : Nat) (r : Option Nat) (o : Nat) (i : Int) : Prop := r = some o ∧ o < 243 ∧ (SH o).1 = k ∧ 0 ≤ i ∧ i < ((SH o).2 : Int)
def isAn (k : Nat) (n : Nat) (r : Option Nat) (o : Nat) (i : Int) : Prop := r = some o ∧ o < n ∧ (SH o).1 = k ∧ 0 ≤ i ∧ i < ((SH o).2 : Int)
/-- a loop: an invariant, and a measure that falls -/
def lpW {S : Type} (F : (S → Prop) → S → Prop) (s : S) : Prop := ∃ (I : S → Prop) (μ : S → Nat), I s ∧ ∀ x, I x → F (fun y => I y ∧ μ y < μ x) x
theorem lpW_sound {S : Type} {F : (S → Prop) → S → Prop} {P : S → Prop} (hF : ∀ (K : S → Prop) (x : S), (∀ y, K y → P y) → F K x → P x) {s : S} (h : lpW F s) : P s := by
  obtain ⟨I, μ, h0, hs⟩ := h
  have key : ∀ n x, μ x < n → I x → P x := by
    intro n
    induction n with
    | zero => intro x h; omega
    | succ n ih => exact fun x hx hI => hF _ x (fun y hy => ih y (by omega) hy.1) (hs x hI)
  exact key _ s (Nat.lt_succ_self _) h0
/-- a field's link -/
def fOK (own : String) (idx ci j : Nat) : Prop := Cond.fieldLink own idx (Tk ci j).1 (Tk ci j).2.1 (Tk ci j).2.2.1 ∈ lwG ∧ ci < 13 ∧ j < Nk ci
def fI (own : String) (idx ci j : Nat) : Prop := fOK own idx ci j ∧ TYk ci j = .int
def fJ (own : String) (idx ci j : Nat) : Prop := fOK own idx ci j ∧ TYk ci j = .long
def fR (own : String) (idx ci j : Nat) : Prop := fOK own idx ci j ∧ (∀ M o, fvOf ci M o j = vR (M.2.2.1 o j)) ∧ ∀ r, tyv (TYk ci j) (vR r)
theorem mem_k {α : Type} {L : List α} {a : α} (k : Nat) (h : L[k]? = some a) : a ∈ L := List.mem_of_getElem? h
section TYPED
variable {p : Program} {l : Launch} {e : Env} {R : Room} {s : State} {m : MethodId} {args : Array Value} {below : List Frame} {meth : Method} {c : Code} {Q : State → Prop} {cc : ByteArray} {nL : Nat} {own : String} {D : va_G} {cy : Nat → ClassId} {G : Nat × Nat} {n0 pc : Nat} {L L' : List (Nat × PV)} {st : List PV} {M : Mm}
theorem x_getI {idx o ci j : Nat} {r : Option Nat} (C : Cx p s m args meth c cc nL own D cy G n0) (hd : decode cc pc = .ok (.getfield idx, 3)) (hf : fI own idx ci j) (hr : isOn ci M.2.2.2 r o)
    (k : WW p l e R s m args below meth c Q nL D cy G n0 (pc + 3) L (vI (M.1 o j) :: st) M) : WW p l e R s m args below meth c Q nL D cy G n0 pc L (vR r :: st) M := by
  obtain ⟨rfl, ho, hs⟩ := hr
  refine w_get C hd hf.1.1 ho hs hf.1.2.1 hf.1.2.2 ?_
  have e : fvOf ci M o j = vI (M.1 o j) := by unfold fvOf; rw [hf.2]
  rw [e]
  exact k
theorem x_getJ {idx o ci j : Nat} {r : Option Nat} (C : Cx p s m args meth c cc nL own D cy G n0) (hd : decode cc pc = .ok (.getfield idx, 3)) (hf : fJ own idx ci j) (hr : isOn ci M.2.2.2 r o)
    (k : WW p l e R s m args below meth c Q nL D cy G n0 (pc + 3) L (vL (M.2.1 o j) :: st) M) : WW p l e R s m args below meth c Q nL D cy G n0 pc L (vR r :: st) M := by
  obtain ⟨rfl, ho, hs⟩ := hr
  refine w_get C hd hf.1.1 ho hs hf.1.2.1 hf.1.2.2 ?_
  have e : fvOf ci M o j = vL (M.2.1 o j) := by unfold fvOf; rw [hf.2]
  rw [e]
  exact k
theorem x_getR {idx o ci j : Nat} {r : Option Nat} (C : Cx p s m args meth c cc nL own D cy G n0) (hd : decode cc pc = .ok (.getfield idx, 3)) (hf : fR own idx ci j) (hr : isOn ci M.2.2.2 r o)
    (k : ∀ r2, r2 = M.2.2.1 o j → WW p l e R s m args below meth c Q nL D cy G n0 (pc + 3) L (vR r2 :: st) M) : WW p l e R s m args below meth c Q nL D cy G n0 pc L (vR r :: st) M := by
  obtain ⟨rfl, ho, hs⟩ := hr
  refine w_get C hd hf.1.1 ho hs hf.1.2.1 hf.1.2.2 ?_
  rw [hf.2.1]
  exact k _ rfl
theorem x_putI {idx o ci j : Nat} {r : Option Nat} {x : Int} (C : Cx p s m args meth c cc nL own D cy G n0) (hd : decode cc pc = .ok (.putfield idx, 3)) (hf : fI own idx ci j) (hr : isOn ci M.2.2.2 r o) (hfin : (Tk ci j).2.2.2 = false ∨ (meth.name = "<init>" ∧ (Tk ci j).1 = own))
    (k : ∀ M2, M2 = setI M o j x → M2.2.2.2 = M.2.2.2 → WW p l e R s m args below meth c Q nL D cy G n0 (pc + 3) L st M2) : WW p l e R s m args below meth c Q nL D cy G n0 pc L (vI x :: vR r :: st) M := by
  obtain ⟨rfl, ho, hs⟩ := hr
  exact w_put C hd hf.1.1 ho hs hf.1.2.1 hf.1.2.2 (by rw [hf.2]; exact ⟨x, rfl⟩) hfin (k _ rfl rfl)
theorem x_putJ {idx o ci j : Nat} {r : Option Nat} {x : Int} (C : Cx p s m args meth c cc nL own D cy G n0) (hd : decode cc pc = .ok (.putfield idx, 3)) (hf : fJ own idx ci j) (hr : isOn ci M.2.2.2 r o) (hfin : (Tk ci j).2.2.2 = false ∨ (meth.name = "<init>" ∧ (Tk ci j).1 = own))
    (k : ∀ M2, M2 = setJ M o j x → M2.2.2.2 = M.2.2.2 → WW p l e R s m args below meth c Q nL D cy G n0 (pc + 3) L st M2) : WW p l e R s m args below meth c Q nL D cy G n0 pc L (vL x :: vR r :: st) M := by
  obtain ⟨rfl, ho, hs⟩ := hr
  exact w_put C hd hf.1.1 ho hs hf.1.2.1 hf.1.2.2 (by rw [hf.2]; exact ⟨x, rfl⟩) hfin (k _ rfl rfl)
theorem x_putR {idx o ci j : Nat} {r : Option Nat} {x : Option Nat} (C : Cx p s m args meth c cc nL own D cy G n0) (hd : decode cc pc = .ok (.putfield idx, 3)) (hf : fR own idx ci j) (hr : isOn ci M.2.2.2 r o) (hfin : (Tk ci j).2.2.2 = false ∨ (meth.name = "<init>" ∧ (Tk ci j).1 = own))
    (k : ∀ M2, M2 = setR M o j x → M2.2.2.2 = M.2.2.2 → WW p l e R s m args below meth c Q nL D cy G n0 (pc + 3) L st M2) : WW p l e R s m args below meth c Q nL D cy G n0 pc L (vR x :: vR r :: st) M := by
  obtain ⟨rfl, ho, hs⟩ := hr
  exact w_put C hd hf.1.1 ho hs hf.1.2.1 hf.1.2.2 (hf.2.2 x) hfin (k _ rfl rfl)
theorem sh2 {o k : Nat} (h : (SH o).1 = k) : SH o = (k, (SH o).2) := by rw [← h]
theorem x_iald {o : Nat} {r : Option Nat} {i : Int} (C : Cx p s m args meth c cc nL own D cy G n0) (hd : decode cc pc = .ok (.iaload, 1)) (h : isAn 14 M.2.2.2 r o i) (k : WW p l e R s m args below meth c Q nL D cy G n0 (pc + 1) L (vI (M.1 o i.toNat) :: st) M) : WW p l e R s m args below meth c Q nL D cy G n0 pc L (vI i :: vR r :: st) M := by
  obtain ⟨rfl, ho, hs, hi⟩ := h
  exact w_iald C hd ho (sh2 hs) hi k
theorem x_bald {o : Nat} {r : Option Nat} {i : Int} (C : Cx p s m args meth c cc nL own D cy G n0) (hd : decode cc pc = .ok (.baload, 1)) (h : isAn 13 M.2.2.2 r o i) (k : WW p l e R s m args below meth c Q nL D cy G n0 (pc + 1) L (vI (M.1 o i.toNat) :: st) M) : WW p l e R s m args below meth c Q nL D cy G n0 pc L (vI i :: vR r :: st) M := by
  obtain ⟨rfl, ho, hs, hi⟩ := h
  exact w_bald C hd ho (sh2 hs) hi k
theorem x_aald {o ka : Nat} {r : Option Nat} {i : Int} (C : Cx p s m args meth c cc nL own D cy G n0) (hd : decode cc pc = .ok (.aaload, 1)) (h : isAn ka M.2.2.2 r o i) (hka : ka = 15 ∨ ka = 16 ∨ ka = 17 ∨ ka = 18) (k : ∀ r2, r2 = M.2.2.1 o i.toNat → WW p l e R s m args below meth c Q nL D cy G n0 (pc + 1) L (vR r2 :: st) M) : WW p l e R s m args below meth c Q nL D cy G n0 pc L (vI i :: vR r :: st) M := by
  obtain ⟨rfl, ho, hs, hi⟩ := h
  rcases hka with rfl | rfl | rfl | rfl
  · exact w_aald15 C hd ho (sh2 hs) hi (k _ rfl)
  · exact w_aald16 C hd ho (sh2 hs) hi (k _ rfl)
  · exact w_aald17 C hd ho (sh2 hs) hi (k _ rfl)
  · exact w_aald18 C hd ho (sh2 hs) hi (k _ rfl)
theorem shle : ∀ o, o < 243 → (SH o).2 ≤ 300 := by decide +kernel
theorem x_alen {o : Nat} {r : Option Nat} (C : Cx p s m args meth c cc nL own D cy G n0) (hd : decode cc pc = .ok (.arraylength, 1)) (h : isOn 14 M.2.2.2 r o) (ho2 : M.2.2.2 ≤ 243) (k : WW p l e R s m args below meth c Q nL D cy G n0 (pc + 1) L (vI ((SH o).2 : Int) :: st) M) : WW p l e R s m args below meth c Q nL D cy G n0 pc L (vR r :: st) M := by
  obtain ⟨rfl, ho, hs⟩ := h
  exact w_alen C hd ho (sh2 hs) (by have := shle o (by omega); omega) k
theorem x_iast {o : Nat} {r : Option Nat} {i x : Int} (C : Cx p s m args meth c cc nL own D cy G n0) (hd : decode cc pc = .ok (.iastore, 1)) (h : isAn 14 M.2.2.2 r o i) (k : ∀ M2, M2 = setI M o i.toNat x → M2.2.2.2 = M.2.2.2 → WW p l e R s m args below meth c Q nL D cy G n0 (pc + 1) L st M2) : WW p l e R s m args below meth c Q nL D cy G n0 pc L (vI x :: vI i :: vR r :: st) M := by
  obtain ⟨rfl, ho, hs, hi⟩ := h
  exact w_iast C hd ho (sh2 hs) hi (k _ rfl rfl)
theorem x_bast {o : Nat} {r : Option Nat} {i x : Int} (C : Cx p s m args meth c cc nL own D cy G n0) (hd : decode cc pc = .ok (.bastore, 1)) (h : isAn 13 M.2.2.2 r o i) (hx8 : (Int32.ofInt x).toInt8.toInt32 = Int32.ofInt x) (k : ∀ M2, M2 = setI M o i.toNat x → M2.2.2.2 = M.2.2.2 → WW p l e R s m args below meth c Q nL D cy G n0 (pc + 1) L st M2) : WW p l e R s m args below meth c Q nL D cy G n0 pc L (vI x :: vI i :: vR r :: st) M := by
  obtain ⟨rfl, ho, hs, hi⟩ := h
  exact w_bast C hd ho (sh2 hs) hi hx8 (k _ rfl rfl)
theorem x_aast {o v ka : Nat} {r rv : Option Nat} {i : Int} (C : Cx p s m args meth c cc nL own D cy G n0) (hd : decode cc pc = .ok (.aastore, 1)) (ci : Nat) (h : isAn ka M.2.2.2 r o i) (hv : isOn ci M.2.2.2 rv v) (hka : (ka = 15 ∧ ci = 0) ∨ (ka = 16 ∧ ci = 3) ∨ (ka = 17 ∧ ci = 4) ∨ (ka = 18 ∧ ci = 8)) (k : ∀ M2, M2 = setR M o i.toNat (some v) → M2.2.2.2 = M.2.2.2 → WW p l e R s m args below meth c Q nL D cy G n0 (pc + 1) L st M2) : WW p l e R s m args below meth c Q nL D cy G n0 pc L (vR rv :: vI i :: vR r :: st) M := by
  obtain ⟨rfl, ho, hs, hi⟩ := h
  obtain ⟨rfl, hvo, hvs⟩ := hv
  rcases hka with ⟨rfl, rfl⟩ | ⟨rfl, rfl⟩ | ⟨rfl, rfl⟩ | ⟨rfl, rfl⟩
  · exact w_aast15 C hd ho (sh2 hs) hi hvo hvs (k _ rfl rfl)
  · exact w_aast16 C hd ho (sh2 hs) hi hvo hvs (k _ rfl rfl)
  · exact w_aast17 C hd ho (sh2 hs) hi hvo hvs (k _ rfl rfl)
  · exact w_aast18 C hd ho (sh2 hs) hi hvo hvs (k _ rfl rfl)
theorem x_istore {i : Nat} {x : Int} (C : Cx p s m args meth c cc nL own D cy G n0) (hd : decode cc pc = .ok (.istore i, 2)) (hn : i < nL) (hL : stL L i (vI x) = L') (k : WW p l e R s m args below meth c Q nL D cy G n0 (pc + 2) L' st M) : WW p l e R s m args below meth c Q nL D cy G n0 pc L (vI x :: st) M := w_istore C hd hn (hL ▸ k)
theorem x_istore_n {j : Fin 4} {i : Nat} {x : Int} (C : Cx p s m args meth c cc nL own D cy G n0) (hd : decode cc pc = .ok (.istore_n j, 1)) (hj : (j : Nat) = i) (hn : i < nL) (hL : stL L i (vI x) = L') (k : WW p l e R s m args below meth c Q nL D cy G n0 (pc + 1) L' st M) : WW p l e R s m args below meth c Q nL D cy G n0 pc L (vI x :: st) M := w_istore_n C hd hj hn (hL ▸ k)
theorem x_lstore {i : Nat} {x : Int} (C : Cx p s m args meth c cc nL own D cy G n0) (hd : decode cc pc = .ok (.lstore i, 2)) (hn : i + 1 < nL) (hL : stL2 L i (vL x) = L') (k : WW p l e R s m args below meth c Q nL D cy G n0 (pc + 2) L' st M) : WW p l e R s m args below meth c Q nL D cy G n0 pc L (vL x :: st) M := w_lstore C hd hn (hL ▸ k)
theorem x_lstore_n {j : Fin 4} {i : Nat} {x : Int} (C : Cx p s m args meth c cc nL own D cy G n0) (hd : decode cc pc = .ok (.lstore_n j, 1)) (hj : (j : Nat) = i) (hn : i + 1 < nL) (hL : stL2 L i (vL x) = L') (k : WW p l e R s m args below meth c Q nL D cy G n0 (pc + 1) L' st M) : WW p l e R s m args below meth c Q nL D cy G n0 pc L (vL x :: st) M := w_lstore_n C hd hj hn (hL ▸ k)
theorem x_astore {i : Nat} {r : Option Nat} (C : Cx p s m args meth c cc nL own D cy G n0) (hd : decode cc pc = .ok (.astore i, 2)) (hn : i < nL) (hL : stL L i (vR r) = L') (k : WW p l e R s m args below meth c Q nL D cy G n0 (pc + 2) L' st M) : WW p l e R s m args below meth c Q nL D cy G n0 pc L (vR r :: st) M := w_astore C hd hn (hL ▸ k)
theorem x_astore_n {j : Fin 4} {i : Nat} {r : Option Nat} (C : Cx p s m args meth c cc nL own D cy G n0) (hd : decode cc pc = .ok (.astore_n j, 1)) (hj : (j : Nat) = i) (hn : i < nL) (hL : stL L i (vR r) = L') (k : WW p l e R s m args below meth c Q nL D cy G n0 (pc + 1) L' st M) : WW p l e R s m args below meth c Q nL D cy G n0 pc L (vR r :: st) M := w_astore_n C hd hj hn (hL ▸ k)
theorem x_iinc {i : Nat} {n x y : Int} (C : Cx p s m args meth c cc nL own D cy G n0) (hd : decode cc pc = .ok (.iinc i n, 3)) (hm : (i, vI x) ∈ L) (hn : i < nL) (h : inI (x + n)) (hy : y = x + n) (hL : stL L i (vI y) = L') (k : WW p l e R s m args below meth c Q nL D cy G n0 (pc + 3) L' st M) : WW p l e R s m args below meth c Q nL D cy G n0 pc L st M := by
  subst hy
  exact w_iinc C hd hm hn h (hL ▸ k)
theorem x_topI {x y : Int} (hy : y = x) (k : WW p l e R s m args below meth c Q nL D cy G n0 pc L (vI y :: st) M) : WW p l e R s m args below meth c Q nL D cy G n0 pc L (vI x :: st) M := hy ▸ k
theorem x_topL {x y : Int} (hy : y = x) (k : WW p l e R s m args below meth c Q nL D cy G n0 pc L (vL y :: st) M) : WW p l e R s m args below meth c Q nL D cy G n0 pc L (vL x :: st) M := hy ▸ k
theorem x_pick (ks : List Nat) (h : ks.filterMap (fun k => L[k]?) = L') (k : WW p l e R s m args below meth c Q nL D cy G n0 pc L' st M) : WW p l e R s m args below meth c Q nL D cy G n0 pc L st M := by
  refine w_drop (fun q hq => ?_) k
  rw [← h] at hq
  obtain ⟨i, -, hi⟩ := List.mem_filterMap.mp hq
  exact List.mem_of_getElem? hi
theorem x_pc {pc2 : Nat} (h : pc = pc2) (k : WW p l e R s m args below meth c Q nL D cy G n0 pc2 L st M) : WW p l e R s m args below meth c Q nL D cy G n0 pc L st M := h ▸ k
end TYPED
section RET
variable {p : Program} {l : Launch} {e : Env} {R : Room} {s : State} {m : MethodId} {args : Array Value} {below : List Frame} {meth : Method} {c : Code} {cc : ByteArray} {nL : Nat} {own : String} {D : va_G} {cy : Nat → ClassId} {G : Nat × Nat} {n0 pc : Nat} {L : List (Nat × PV)} {M : Mm} {Qp : Option PV → Mm → Prop} {nn : Nat}
/-- the end of a method's walk -/
abbrev ZQ (below : List Frame) (args : Array Value) (s : State) (D : va_G) (cy : Nat → ClassId) (G : Nat × Nat) (n0 : Nat) (Qp : Option PV → Mm → Prop) (nn : Nat) : State → Prop := MQ below (QC D cy G Qp nn) args s (nn - n0) (SL nn - SL n0) (fun q => G.1 ≤ q)
theorem x_iret {x : Int} (C : Cx p s m args meth c cc nL own D cy G n0) (hr : meth.sig.returnType = some .int) (hd : decode cc pc = .ok (.ireturn, 1)) (hn : M.2.2.2 = nn) (hq : Qp (some (vI x)) M) : WW p l e R s m args below meth c (ZQ below args s D cy G n0 Qp nn) nL D cy G n0 pc L [vI x] M := by
  intro h0 hL hst H locs ls hW hS hls
  subst hn
  have hlk := C.2.2.2.2.2.2.1
  exact W.iret C.1 C.2.1 hr (fun t ht hWm => ⟨⟨some (vI x), M, rfl, fun w hw => (by cases hw; exact ok_h hst), hq, rfl, by rw [ht]; exact hW⟩, hS.F ht⟩) hS.2.2 hd
theorem x_zret {x : Int} (C : Cx p s m args meth c cc nL own D cy G n0) (hr : meth.sig.returnType = some .boolean) (hd : decode cc pc = .ok (.ireturn, 1)) (hn : M.2.2.2 = nn) (hx : x = 0 ∨ x = 1) (hq : Qp (some (vI x)) M) : WW p l e R s m args below meth c (ZQ below args s D cy G n0 Qp nn) nL D cy G n0 pc L [vI x] M := by
  intro h0 hL hst H locs ls hW hS hls
  subst hn
  have hlk := C.2.2.2.2.2.2.1
  exact W.zret C.1 C.2.1 hr (by rcases hx with rfl | rfl <;> rfl) (fun t ht hWm => ⟨⟨some (vI x), M, rfl, fun w hw => (by cases hw; exact ok_h hst), hq, rfl, by rw [ht]; exact hW⟩, hS.F ht⟩) hS.2.2 hd
theorem x_lret {x : Int} (C : Cx p s m args meth c cc nL own D cy G n0) (hr : meth.sig.returnType = some .long) (hd : decode cc pc = .ok (.lreturn, 1)) (hn : M.2.2.2 = nn) (hq : Qp (some (vL x)) M) : WW p l e R s m args below meth c (ZQ below args s D cy G n0 Qp nn) nL D cy G n0 pc L [vL x] M := by
  intro h0 hL hst H locs ls hW hS hls
  subst hn
  have hlk := C.2.2.2.2.2.2.1
  exact W.lret C.1 C.2.1 hr (fun t ht hWm => ⟨⟨some (vL x), M, rfl, fun w hw => (by cases hw; exact ok_h hst), hq, rfl, by rw [ht]; exact hW⟩, hS.F ht⟩) hS.2.2 hd
theorem x_aret {r : Option Nat} {rt : FieldType} (C : Cx p s m args meth c cc nL own D cy G n0) (hr : meth.sig.returnType = some rt) (hrt : (∃ n, rt = .object n) ∨ ∃ t, rt = .array t) (hd : decode cc pc = .ok (.areturn, 1)) (hn : M.2.2.2 = nn) (hq : Qp (some (vR r)) M) : WW p l e R s m args below meth c (ZQ below args s D cy G n0 Qp nn) nL D cy G n0 pc L [vR r] M := by
  intro h0 hL hst H locs ls hW hS hls
  subst hn
  have hlk := C.2.2.2.2.2.2.1
  exact W.aret C.1 C.2.1 hr hrt (by cases r <;> first | exact Or.inl rfl | exact Or.inr ⟨_, rfl⟩) (fun t ht hWm => ⟨⟨some (vR r), M, rfl, fun w hw => (by cases hw; exact ok_h hst), hq, rfl, by rw [ht]; exact hW⟩, hS.F ht⟩) hS.2.2 hd
theorem x_vret (C : Cx p s m args meth c cc nL own D cy G n0) (hr : meth.sig.returnType = none) (hd : decode cc pc = .ok (.return_, 1)) (hn : M.2.2.2 = nn) (hq : Qp none M) : WW p l e R s m args below meth c (ZQ below args s D cy G n0 Qp nn) nL D cy G n0 pc L [] M := by
  intro h0 hL hst H locs ls hW hS hls
  subst hn
  have hlk := C.2.2.2.2.2.2.1
  exact W.vret C.1 C.2.1 hr (fun t ht hWm => ⟨⟨none, M, rfl, fun w hw => (by cases hw), hq, rfl, by rw [ht]; exact hW⟩, hS.F ht⟩) hS.2.2 hd
end RET
def argL : Nat → List PV → List (Nat × PV)
  | _, [] => []
  | i, v :: vs => (i, v) :: argL (if isLg v then i + 2 else i + 1) vs
theorem cat2 (G : Nat × Nat) (v : PV) : ((pv G v).category = 2) ↔ isLg v = true := by rcases v with x | x | (_ | x) <;> simp [pv, Value.category, isLg]
theorem argL_map (G : Nat × Nat) (as : List PV) : ∀ i, lv_args i (as.map (pv G)) = (argL i as).map (fun q => (q.1, pv G q.2)) := by
  induction as with
  | nil => intro i; rfl
  | cons v vs ih =>
    intro i
    simp only [List.map_cons, lv_args, argL, ih, cat2]
theorem argN_sl (G : Nat × Nat) (as : List PV) : (lg_sl (as.map (pv G))).length = argN as := by
  induction as with
  | nil => rfl
  | cons v vs ih =>
    have : lg_sl ((v :: vs).map (pv G)) = (if (pv G v).category = 2 then [.val (pv G v), .second] else [.val (pv G v)]) ++ lg_sl (vs.map (pv G)) := by simp [lg_sl]
    rw [this, List.length_append, ih]
    show _ = (if isLg v then 2 else 1) + argN vs
    by_cases h : isLg v = true
    · rw [if_pos ((cat2 G v).mpr h), if_pos h]; rfl
    · rw [if_neg (fun q => h ((cat2 G v).mp q)), if_neg h]; rfl
theorem argL_ok {as : List PV} (h : ∀ a ∈ as, okv a) : ∀ i, ∀ q ∈ argL i as, okv q.2 := by
  induction as with
  | nil => intro i q hq; cases hq
  | cons v vs ih =>
    intro i q hq
    rcases List.mem_cons.mp hq with rfl | hq
    · exact h _ List.mem_cons_self
    · exact ih (fun a ha => h a (List.mem_cons_of_mem _ ha)) _ q hq
/-- a method's contract out of its walk -/
theorem con_of {l : Launch} {D : va_G} {cy : Nat → ClassId} {y : MethodName} {code : ByteArray} {maxL : Nat} {ret : Option FieldType} {rm : Room} {mc ms : Nat} {SP : SPt} (hpl : plainName y.cls = true) (hlen : ∀ as M Qp, SP as M Qp → argN as ≤ maxL)
    (body : ∀ (p : Program) (e : Env) (s : State) (m : MethodId) (args : Array Value) (below : List Frame) (meth : Method) (c : Code) (G : Nat × Nat) (as : List PV) (M : Mm) (Qp : Option PV → Mm → Prop), SP as M Qp → Cx p s m args meth c code maxL y.cls D cy G M.2.2.2 → meth.sig.returnType = ret → meth.name = y.name → WW p l e rm s m args below meth c (ZQ below args s D cy G M.2.2.2 Qp (M.2.2.2 + mc)) maxL D cy G M.2.2.2 0 (argL 0 as) [] M) : Con l D cy y code maxL ret rm mc ms SP := by
  intro G as M Qp hok hM hSP hSL
  refine Met.ofW (cc := code) (maxL := maxL) (ret := ret) hpl rfl ?_
  intro p e s m args below meth c s₁ B hml hv
  obtain ⟨rfl, hW, hK⟩ := hv
  have hts := atoms_spec (ws := .code y code maxL ret :: lwG) B.pre
  have hown : s.vm.findClass y.cls = some m.cls := findClass_of_methodNamed B.named
  have hnm := (name_of_methodNamed B.named B.method).1
  have hl := lv_entry (as.map (pv G)) (n := maxL) (by rw [argN_sl]; exact hlen _ _ _ hSP)
  rw [argL_map] at hl
  rw [lg_entry_eq]
  have g := body p e s m _ below meth c G as M Qp hSP ⟨B.exec, B.bytes, hml, hown, fun w hw => hts w (List.mem_cons_of_mem _ hw), hK, B.notSynchronized, hW.1⟩ B.returns hnm (Nat.le_refl _) (argL_ok hok 0) (fun v hv => by cases hv) s.heap [] _ hW va_S.rf hl
  have e1 : M.2.2.2 + mc - M.2.2.2 = mc := by omega
  have e2 : SL (M.2.2.2 + mc) - SL M.2.2.2 = ms := by omega
  unfold ZQ at g
  rw [e1, e2, Nat.sub_self, Nat.sub_self] at g
  exact g
