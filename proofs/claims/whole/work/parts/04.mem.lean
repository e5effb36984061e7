/-! THE JUDGEMENT, and what a memory's change does to the heap's picture -/
theorem shBig {o : Nat} (h : 222 ≤ o) : SH o = (14, shRef.getD (o - 222) 0) := by
  unfold SH
  rw [if_neg (by omega), if_neg (by omega), if_neg (by omega), if_neg (by omega), if_neg (by omega), if_neg (by omega), if_neg (by omega)]
theorem shSmall : ∀ o, o < 222 → (SH o).1 < 13 → (SH o).2 = Nk (SH o).1 := by decide +kernel
theorem shN (o : Nat) (h : (SH o).1 < 13) : (SH o).2 = Nk (SH o).1 := by
  by_cases ho : o < 222
  · exact shSmall o ho h
  · rw [shBig (by omega)] at h
    exact absurd h (by show ¬ 14 < 13; omega)
theorem ad_lt {G : Nat × Nat} {o : Nat} (h : o < 1000) : ad G o = G.1 + o := if_neg (by omega)
theorem cellO {cy : Nat → ClassId} {G : Nat × Nat} {M : Mm} {o k n : Nat} (h : SH o = (k, n)) (hk : k < 13) : cellOf cy G M o = .inr (k, (List.range n).map (fun j => pv G (fvOf k M o j))) := by simp [cellOf, h, hk]
theorem cellI {cy : Nat → ClassId} {G : Nat × Nat} {M : Mm} {o k n : Nat} (h : SH o = (k, n)) (hk : 13 ≤ k) (hk2 : k < 15) : cellOf cy G M o = .inl (cy k, n, .inl (fun j => Int32.ofInt (M.1 o j))) := by
  have : ¬ k < 13 := by omega
  simp [cellOf, h, hk2, this]
theorem cellR {cy : Nat → ClassId} {G : Nat × Nat} {M : Mm} {o k n : Nat} (h : SH o = (k, n)) (hk : 15 ≤ k) : cellOf cy G M o = .inl (cy k, n, .inr (.inr (.inr (.inr (fun j => (M.2.2.1 o j).map (ad G)))))) := by
  have h1 : ¬ k < 13 := by omega
  have h2 : ¬ k < 15 := by omega
  simp [cellOf, h, h1, h2]
theorem cell_congr {cy : Nat → ClassId} {G : Nat × Nat} {M M' : Mm} {o : Nat} (h1 : ∀ j, M'.1 o j = M.1 o j) (h2 : ∀ j, M'.2.1 o j = M.2.1 o j) (h3 : ∀ j, M'.2.2.1 o j = M.2.2.1 o j) : cellOf cy G M' o = cellOf cy G M o := by
  have e : ∀ k j, fvOf k M' o j = fvOf k M o j := fun k j => by unfold fvOf; rw [h1, h2, h3]
  unfold cellOf
  simp only [e, h1, h3]
def fsOf (G : Nat × Nat) (k n : Nat) (M : Mm) (o : Nat) : List Value := (List.range n).map (fun j => pv G (fvOf k M o j))
theorem fsOf_get {G : Nat × Nat} {k n : Nat} {M : Mm} {o j : Nat} (hj : j < n) : (fsOf G k n M o)[j]? = some (pv G (fvOf k M o j)) := by simp [fsOf, hj]
theorem fsOf_len {G : Nat × Nat} {k n : Nat} {M : Mm} {o : Nat} : (fsOf G k n M o).length = n := by simp [fsOf]
/-- a value of a field's type -/
def tyv (t : FieldType) (v : PV) : Prop := match t with
  | .int => ∃ x, v = vI x
  | .long => ∃ x, v = vL x
  | .object _ => ∃ r, v = vR r
  | .array _ => ∃ r, v = vR r
  | _ => False
def stF (M : Mm) (o j : Nat) : PV → Mm
  | .inl x => setI M o j x
  | .inr (.inl x) => setJ M o j x
  | .inr (.inr r) => setR M o j r
theorem fv_st {k : Nat} {M : Mm} {o j : Nat} {v : PV} (hv : tyv (TYk k j) v) (i : Nat) : fvOf k (stF M o j v) o i = if i = j then v else fvOf k M o i := by
  by_cases hi : i = j
  · subst hi
    rw [if_pos rfl]
    unfold fvOf
    cases ht : TYk k i <;> rw [ht] at hv <;> first | (exact absurd hv id) | (obtain ⟨x, rfl⟩ := hv; simp [stF, setI, setJ, setR, up2_s])
  · rw [if_neg hi]
    unfold fvOf
    rcases v with x | x | x <;> simp [stF, setI, setJ, setR, up2_k _ _ _ _ hi]
theorem fsOf_set {G : Nat × Nat} {k n : Nat} {M : Mm} {o j : Nat} {v : PV} (hv : tyv (TYk k j) v) : (fsOf G k n M o).set j (pv G v) = fsOf G k n (stF M o j v) o := by
  apply List.ext_getElem?
  intro i
  by_cases hi : i < n
  · rw [fsOf_get hi, fv_st hv, List.getElem?_set, fsOf_get hi, fsOf_len]
    by_cases hj : j = i
    · subst hj
      simp [hi]
    · have : ¬ i = j := fun q => hj q.symm
      simp [hj, this]
  · rw [List.getElem?_eq_none (by rw [List.length_set, fsOf_len]; omega), List.getElem?_eq_none (by rw [fsOf_len]; omega)]
theorem st_other {M : Mm} {o j : Nat} {v : PV} {a : Nat} (h : a ≠ o) : (∀ i, (stF M o j v).1 a i = M.1 a i) ∧ (∀ i, (stF M o j v).2.1 a i = M.2.1 a i) ∧ ∀ i, (stF M o j v).2.2.1 a i = M.2.2.1 a i := by
  rcases v with x | x | x <;> simp [stF, setI, setJ, setR, up2_o _ _ _ _ h]
theorem st_n {M : Mm} {o j : Nat} {v : PV} : (stF M o j v).2.2.2 = M.2.2.2 := by rcases v with x | x | x <;> rfl
theorem st_ok {M : Mm} {o j : Nat} {v : PV} (h : okM M) (hv : okv v) : okM (stF M o j v) := by
  obtain ⟨h1, h2, h3⟩ := h
  have e : ∀ {P : Int → Prop} {f : Nat → Nat → Int} {x : Int}, (∀ a b, P (f a b)) → P x → ∀ a b, P (up2 f o j x a b) := by
    intro P f x hf hx a b
    unfold up2
    split
    · exact hx
    · exact hf a b
  rcases v with x | x | x
  · exact ⟨e h1 hv, h2, h3⟩
  · exact ⟨h1, e h2 hv, h3⟩
  · exact ⟨h1, h2, h3⟩
theorem Wd.st {D : va_G} {cy : Nat → ClassId} {G : Nat × Nat} {M : Mm} {H H' : Heap} {o j : Nat} {v : PV} (h : Wd D cy G M H) (ho : o < M.2.2.2) (hv : okv v) (he : va_at D vwCl (G.1 + o, cellOf cy G (stF M o j v) o) H') (hz : H'.size = H.size) (oq : ∀ q : Nat, q ≠ G.1 + o → H'[q]? = H[q]?) : Wd D cy G (stF M o j v) H' := by
  refine ⟨by rw [hz, h.1, st_n], fun a ha => ?_, st_ok h.2.2 hv⟩
  rw [st_n] at ha
  by_cases hao : a = o
  · subst hao; exact he
  · obtain ⟨e1, e2, e3⟩ := st_other (M := M) (j := j) (v := v) hao
    rw [cell_congr e1 e2 e3]
    exact (h.2.1 a ha).kept (oq _ (by show ¬ G.1 + a = G.1 + o; omega))
theorem Wd.one {D : va_G} {cy : Nat → ClassId} {G : Nat × Nat} {M : Mm} {H : Heap} {o : Nat} (h : Wd D cy G M H) (ho : o < M.2.2.2) : va_P D vwCl [(ad G o, cellOf cy G M o)] H := by
  intro k q hq
  have hk : k = 0 := by
    have := (List.getElem?_eq_some_iff.mp hq).1
    simp at this; exact this
  subst hk
  cases hq
  rw [ad_lt (by have := h.2.2.2.2; omega)]
  exact h.2.1 o ho
theorem Wd.lt {D : va_G} {cy : Nat → ClassId} {G : Nat × Nat} {M : Mm} {H : Heap} {o : Nat} (h : Wd D cy G M H) (ho : o < M.2.2.2) : ad G o = G.1 + o := ad_lt (by have := h.2.2.2.2; omega)
theorem new_ok {M : Mm} (h : okM M) (hn : M.2.2.2 < 1000) : okM (newM M) := by
  obtain ⟨h1, h2, h3⟩ := h
  refine ⟨fun a b => ?_, fun a b => ?_, hn⟩
  · show inI (up1 _ _ _ a b)
    unfold up1
    split
    · exact in0
    · exact h1 a b
  · show inL (up1 _ _ _ a b)
    unfold up1
    split
    · exact in0l
    · exact h2 a b
theorem Wd.new {D : va_G} {cy : Nat → ClassId} {G : Nat × Nat} {M : Mm} {H H' : Heap} (h : Wd D cy G M H) (hn : M.2.2.2 < 1000) (he : va_at D vwCl (G.1 + M.2.2.2, cellOf cy G (newM M) M.2.2.2) H') (hz : H'.size = H.size + 1) (oq : ∀ q : Nat, q < H.size → H'[q]? = H[q]?) : Wd D cy G (newM M) H' := by
  refine ⟨by rw [hz, h.1]; rfl, fun a ha => ?_, new_ok h.2.2 hn⟩
  have ha : a < M.2.2.2 + 1 := ha
  by_cases hao : a = M.2.2.2
  · subst hao; exact he
  · rw [cell_congr (M := M) (fun j => up1_o _ _ _ hao) (fun j => up1_o _ _ _ hao) (fun j => up1_o _ _ _ hao)]
    exact (h.2.1 a (by omega)).kept (oq _ (by show G.1 + a < H.size; rw [h.1]; omega))
/-- the method stands: its code, its tables, its own start -/
def Cx (p : Program) (s : State) (m : MethodId) (args : Array Value) (meth : Method) (c : Code) (cc : ByteArray) (nL : Nat) (own : String) (D : va_G) (cy : Nat → ClassId) (G : Nat × Nat) (n0 : Nat) : Prop :=
  p.tables.exec = Jvm.exec ∧ c.code = cc ∧ c.maxLocals = nL ∧ s.vm.findClass own = some m.cls ∧ (∀ w ∈ lwG, w.before args s = true) ∧ KW D cy s ∧ meth.locks = false ∧ s.heap.size = G.1 + n0
/-- the kit's W over the pure layer -/
def WW (p : Program) (l : Launch) (e : Env) (R : Room) (s : State) (m : MethodId) (args : Array Value) (below : List Frame) (meth : Method) (c : Code) (Q : State → Prop) (nL : Nat) (D : va_G) (cy : Nat → ClassId) (G : Nat × Nat) (n0 : Nat) (pc : Nat) (L : List (Nat × PV)) (st : List PV) (M : Mm) : Prop :=
  n0 ≤ M.2.2.2 → (∀ q ∈ L, okv q.2) → (∀ v ∈ st, okv v) → ∀ (H : Heap) (locs : List Loc) (ls : Array Slot), Wd D cy G M H → va_S (fun q => G.1 ≤ q) s.heap H locs → lv_has ls nL (L.map (fun q => (q.1, pv G q.2))) → W p l e R s m args below meth c H locs (M.2.2.2 - n0) (SL M.2.2.2 - SL n0) Q (F0 m pc ls (st.map (pv G)))
section MEM
variable {p : Program} {l : Launch} {e : Env} {R : Room} {s : State} {m : MethodId} {args : Array Value} {below : List Frame} {meth : Method} {c : Code} {Q : State → Prop} {cc : ByteArray} {nL : Nat} {own : String} {D : va_G} {cy : Nat → ClassId} {G : Nat × Nat} {n0 pc : Nat} {L : List (Nat × PV)} {st : List PV} {M : Mm}
theorem w_get {idx o ci j : Nat} (C : Cx p s m args meth c cc nL own D cy G n0) (hd : decode cc pc = .ok (.getfield idx, 3)) (hl : Cond.fieldLink own idx (Tk ci j).1 (Tk ci j).2.1 (Tk ci j).2.2.1 ∈ lwG) (ho : o < M.2.2.2) (hs : (SH o).1 = ci) (hc : ci < 13) (hj : j < Nk ci)
    (k : WW p l e R s m args below meth c Q nL D cy G n0 (pc + 3) L (fvOf ci M o j :: st) M) : WW p l e R s m args below meth c Q nL D cy G n0 pc L (vR (some o) :: st) M := by
  intro h0 hL hst H locs ls hW hS hls
  obtain ⟨hx, hb, hml, hown, hts, hK, hlk, hsz⟩ := C
  obtain ⟨c1, c2, c3, c4⟩ := clOK ci hc
  have hn : (SH o).2 = Nk ci := by rw [← hs]; exact shN o (by omega)
  have hcell : cellOf cy G M o = .inr (ci, fsOf G ci (Nk ci) M o) := cellO (by rw [← hs, ← shN o (by omega)]) hc
  have hP := hW.one ho
  rw [hcell] at hP
  refine va_get (D := D) (ci := ci) (C := Rk ci) (T := Tk ci) (N := Nk ci) hx hb hts c2 hown hK.1 hP 0 rfl c1 j hj (hts _ hl) (fun _ h9 => h9) (fsOf_get hj) hd ?_
  refine k h0 hL (fun v hv => ?_) H locs ls hW hS hls
  rcases List.mem_cons.mp hv with rfl | hv
  · unfold fvOf
    split
    · exact hW.2.2.1 _ _
    · exact hW.2.2.2.1 _ _
    · trivial
  · exact hst v (List.mem_cons_of_mem _ hv)
theorem narv {t : FieldType} {v : PV} (h : tyv t v) : narrow t (pv G v) = pv G v ∧ fits t (pv G v) = true := by
  cases t <;> first | exact absurd h id | skip
  all_goals (obtain ⟨x, rfl⟩ := h)
  all_goals first | exact ⟨rfl, rfl⟩ | (cases x <;> exact ⟨rfl, rfl⟩)
theorem w_put {idx o ci j : Nat} {v : PV} (C : Cx p s m args meth c cc nL own D cy G n0) (hd : decode cc pc = .ok (.putfield idx, 3)) (hl : Cond.fieldLink own idx (Tk ci j).1 (Tk ci j).2.1 (Tk ci j).2.2.1 ∈ lwG) (ho : o < M.2.2.2) (hs : (SH o).1 = ci) (hc : ci < 13) (hj : j < Nk ci) (hv : tyv (TYk ci j) v) (hfin : (Tk ci j).2.2.2 = false ∨ (meth.name = "<init>" ∧ (Tk ci j).1 = own))
    (k : WW p l e R s m args below meth c Q nL D cy G n0 (pc + 3) L st (stF M o j v)) : WW p l e R s m args below meth c Q nL D cy G n0 pc L (v :: vR (some o) :: st) M := by
  intro h0 hL hst H locs ls hW hS hls
  obtain ⟨hx, hb, hml, hown, hts, hK, hlk, hsz⟩ := C
  obtain ⟨c1, c2, c3, c4⟩ := clOK ci hc
  have hcell : ∀ M : Mm, cellOf cy G M o = .inr (ci, fsOf G ci (Nk ci) M o) := fun M => cellO (by rw [← hs, ← shN o (by omega)]) hc
  have hP := hW.one ho
  rw [hcell] at hP
  have had := hW.lt ho
  have hap := va_apart (own := own) hts c2 (TYk ci) c3 c4 hK.1 c1
  obtain ⟨r, h1, cell, q1, q2, q3, q4⟩ := hP 0 _ rfl
  have hr : r = (Rk ci, Tk ci, Nk ci) := Option.some.inj (h1.symm.trans c1)
  subst hr
  obtain ⟨hSl, hfc, kC, hkC, hkind⟩ := hK.1.1 ci _ c1
  obtain ⟨cf, kf, fi, f, hi, hsl⟩ := hSl j hj
  have hst' := (u_facts hfc hkC (u_lays hts c2 hj) hi).1
  have hlay := hts _ (c2 _ (u_in_lay hj))
  obtain ⟨hn1, hn2⟩ := narv (G := G) hv
  have fin : ∀ H' : Heap, H'[ad G o]? = some (cell.setSlot f.slot (pv G v)) → H'.size = H.size → (∀ q, q ≠ ad G o → H'[q]? = H[q]?) → W p l e R s m args below meth c H' (locs ++ [⟨ad G o, f.slot⟩]) (M.2.2.2 - n0) (SL M.2.2.2 - SL n0) Q (F0 m (pc + 3) ls (st.map (pv G))) := by
    intro H' e1 e2 e3
    rw [hsl] at e1
    have hnew : va_at D vwCl (G.1 + o, cellOf cy G (stF M o j v) o) H' := by
      rw [hcell, ← fsOf_set hv, ← had]
      exact ⟨_, c1, t_OB.to (V := updV (vp_V (fsOf G ci (Nk ci) M o)) j (pv G v)) ⟨_, e1, q2, q3, t_set q4 hap hj (pv G v)⟩ (fun i _ => vp_updV_set (by rw [fsOf_len]; exact hj) (pv G v) i)⟩
    have hW' := hW.st ho (hst v List.mem_cons_self) hnew e2 (fun q hq => e3 q (by rw [had]; exact hq))
    have := k (by rw [st_n]; exact h0) hL (fun w hw => hst w (List.mem_cons_of_mem _ (List.mem_cons_of_mem _ hw))) H' (locs ++ [⟨ad G o, f.slot⟩]) ls hW' (hS.put e2 e3 (by show G.1 ≤ ad G o; rw [had]; omega)) hls
    rw [st_n] at this
    exact this
  rcases hfin with hfin | ⟨hin2, hdecl⟩
  · unfold u_lay at hlay
    rw [if_neg (by rw [hfin]; decide)] at hlay
    have h6 := u_store hfc hkC hkind hlay hi (c3 j hj) hn1 hn2
    exact W.putK hx hb (f := f) ⟨hown, hts _ hl, ⟨_, _, _, hi⟩, hst'⟩ (by rw [q2]; exact h6) q1 q3 (by rw [hsl]; exact k2_hasslot (q4 j hj)) rfl rfl hd fin
  · by_cases hf2 : (Tk ci j).2.2.2 = true
    · unfold u_lay at hlay
      rw [if_pos hf2] at hlay
      have hcf : m.cls = cf := by
        obtain ⟨_, _, c', _, _, _, -, -, hf', -, -, -, hown2, -⟩ := Cond.laysFinal_spec hlay
        have e1 : c' = cf := by have := hi.symm.trans hf'; simp at this; exact this.1.symm
        rw [hdecl] at hown2
        rw [← e1]; exact Option.some.inj (hown.symm.trans hown2)
      have h6 := u_fits hfc hkC hkind (Or.inr hlay) hi (c3 j hj) hn1 hn2
      exact W.putFinK hx hb hown (hts _ hl) hi hst' hcf hin2 (by rw [q2]; exact h6) q1 q3 (by rw [hsl]; exact k2_hasslot (q4 j hj)) rfl rfl hd fin
    · unfold u_lay at hlay
      rw [if_neg hf2] at hlay
      have h6 := u_store hfc hkC hkind hlay hi (c3 j hj) hn1 hn2
      exact W.putK hx hb (f := f) ⟨hown, hts _ hl, ⟨_, _, _, hi⟩, hst'⟩ (by rw [q2]; exact h6) q1 q3 (by rw [hsl]; exact k2_hasslot (q4 j hj)) rfl rfl hd fin
end MEM
