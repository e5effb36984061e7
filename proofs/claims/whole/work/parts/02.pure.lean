/-! THE PURE LAYER: values are integers, longs as integers, references as numbers of cells; a memory is four functions; every cell has a fixed kind by its number -/
abbrev PV : Type := Int ⊕ (Int ⊕ Option Nat)
abbrev vI (x : Int) : PV := Sum.inl x
abbrev vL (x : Int) : PV := Sum.inr (Sum.inl x)
abbrev vR (r : Option Nat) : PV := Sum.inr (Sum.inr r)
def inI (x : Int) : Prop := -2147483648 ≤ x ∧ x < 2147483648
def inL (x : Int) : Prop := -9223372036854775808 ≤ x ∧ x < 9223372036854775808
/-- cell number to address: the system's cells lie one behind another from G.1 on; number 1000 is the script -/
def ad (G : Nat × Nat) (o : Nat) : Nat := if o = 1000 then G.2 else G.1 + o
def pv (G : Nat × Nat) : PV → Value
  | .inl x => .int (Int32.ofInt x)
  | .inr (.inl x) => .long (Int64.ofInt x)
  | .inr (.inr none) => .null
  | .inr (.inr (some o)) => .ref (ad G o)
def okv : PV → Prop
  | .inl x => inI x
  | .inr (.inl x) => inL x
  | .inr (.inr _) => True
def isLg : PV → Bool
  | .inr (.inl _) => true
  | _ => false
/-- a memory: int slots, long slots, reference slots, the number of cells -/
abbrev Mm : Type := (Nat → Nat → Int) × (Nat → Nat → Int) × (Nat → Nat → Option Nat) × Nat
def up2 {α : Type} (f : Nat → Nat → α) (o k : Nat) (v : α) : Nat → Nat → α := fun a j => if a = o ∧ j = k then v else f a j
def up1 {α : Type} (f : Nat → Nat → α) (o : Nat) (v : α) : Nat → Nat → α := fun a j => if a = o then v else f a j
abbrev setI (M : Mm) (o k : Nat) (v : Int) : Mm := (up2 M.1 o k v, M.2.1, M.2.2.1, M.2.2.2)
abbrev setJ (M : Mm) (o k : Nat) (v : Int) : Mm := (M.1, up2 M.2.1 o k v, M.2.2.1, M.2.2.2)
abbrev setR (M : Mm) (o k : Nat) (v : Option Nat) : Mm := (M.1, M.2.1, up2 M.2.2.1 o k v, M.2.2.2)
abbrev newM (M : Mm) : Mm := (up1 M.1 M.2.2.2 0, up1 M.2.1 M.2.2.2 0, up1 M.2.2.1 M.2.2.2 none, M.2.2.2 + 1)
theorem up2_s {α : Type} (f : Nat → Nat → α) (o k : Nat) (v : α) : up2 f o k v o k = v := by simp [up2]
theorem up2_n {α : Type} (f : Nat → Nat → α) (o k : Nat) (v : α) {a j : Nat} (h : ¬ (a = o ∧ j = k)) : up2 f o k v a j = f a j := by simp [up2, h]
theorem up2_o {α : Type} (f : Nat → Nat → α) (o k : Nat) (v : α) {a j : Nat} (h : a ≠ o) : up2 f o k v a j = f a j := by simp [up2, h]
theorem up2_k {α : Type} (f : Nat → Nat → α) (o k : Nat) (v : α) {a j : Nat} (h : j ≠ k) : up2 f o k v a j = f a j := by simp [up2, h]
theorem up1_s {α : Type} (f : Nat → Nat → α) (o : Nat) (v : α) (j : Nat) : up1 f o v o j = v := by simp [up1]
theorem up1_o {α : Type} (f : Nat → Nat → α) (o : Nat) (v : α) {a j : Nat} (h : a ≠ o) : up1 f o v a j = f a j := by simp [up1, h]
/-- kinds: 0 to 12 objects by their class, 13 bytes, 14 ints, 15 to 18 rows of Body, Layer, Patch, Seat; and the size -/
def shPlan (o : Nat) : Nat × Nat :=
  if o = 0 then (5, 4) else if o = 1 then (16, 8) else if o = 2 then (18, 6)
  else if o < 35 then (if (o - 3) % 4 = 0 then (3, 4) else (14, 4))
  else if (o - 35) % 8 = 0 then (8, 7) else if (o - 35) % 8 = 1 then (17, 6) else (4, 4)
def shRef : List Nat := [300, 2, 16, 128, 64, 2, 48, 12, 216, 36, 6, 72, 72, 72, 16, 8, 6, 12, 3, 3, 6]
def SH (o : Nat) : Nat × Nat :=
  if o < 4 then (if o = 0 then (11, 8) else if o = 1 then (9, 4) else if o = 2 then (13, 300) else (14, 8))
  else if o < 87 then shPlan (o - 4)
  else if o < 170 then shPlan (o - 87)
  else if o < 173 then (if o = 170 then (1, 4) else if o = 171 then (15, 12) else (14, 6))
  else if o < 209 then (if (o - 173) % 3 = 0 then (0, 8) else (14, 6))
  else if o < 221 then (if o = 209 then (6, 8) else if o < 214 then (14, 6) else if o = 214 then (14, 24) else if o = 215 then (2, 4) else if o < 218 then (14, 3) else if o = 218 then (7, 1) else if o = 219 then (14, 16) else (10, 4))
  else if o = 221 then (12, 30)
  else (14, shRef.getD (o - 222) 0)
def SL : Nat → Nat
  | 0 => 0
  | n + 1 => SL n + (SH n).2
def TYk (k : Nat) : Nat → FieldType := match k with
  | 0 => tyX0 | 1 => tyX1 | 2 => tyX2 | 3 => tyX3 | 4 => tyX4 | 5 => tyX5 | 6 => tyX6 | 7 => tyX7 | 8 => tyX8 | 9 => tyX9 | 10 => tyX10 | 11 => tyX11 | _ => tyX12
def fvOf (k : Nat) (M : Mm) (o j : Nat) : PV := match TYk k j with
  | .int => vI (M.1 o j)
  | .long => vL (M.2.1 o j)
  | _ => vR (M.2.2.1 o j)
def cellOf (cy : Nat → ClassId) (G : Nat × Nat) (M : Mm) (o : Nat) : va_E :=
  if (SH o).1 < 13 then .inr ((SH o).1, (List.range (SH o).2).map (fun j => pv G (fvOf (SH o).1 M o j)))
  else if (SH o).1 < 15 then .inl (cy (SH o).1, (SH o).2, .inl (fun j => Int32.ofInt (M.1 o j)))
  else .inl (cy (SH o).1, (SH o).2, .inr (.inr (.inr (.inr (fun j => (M.2.2.1 o j).map (ad G))))))
def okM (M : Mm) : Prop := (∀ o j, inI (M.1 o j)) ∧ (∀ o j, inL (M.2.1 o j)) ∧ M.2.2.2 ≤ 1000
def Wd (D : va_G) (cy : Nat → ClassId) (G : Nat × Nat) (M : Mm) (H : Heap) : Prop := H.size = G.1 + M.2.2.2 ∧ (∀ o, o < M.2.2.2 → va_at D vwCl (G.1 + o, cellOf cy G M o) H) ∧ okM M
-- numbers
theorem i32t {x : Int} (h : inI x) : (Int32.ofInt x).toInt = x := by
  obtain ⟨h1, h2⟩ := h
  rw [Int32.toInt_ofInt]
  exact Int.bmod_eq_of_le (by simpa using h1) (by simpa using h2)
theorem i64t {x : Int} (h : inL x) : (Int64.ofInt x).toInt = x := by
  obtain ⟨h1, h2⟩ := h
  rw [Int64.toInt_ofInt]
  exact Int.bmod_eq_of_le (by simpa using h1) (by simpa using h2)
theorem i32o (x : Int32) : Int32.ofInt x.toInt = x := Int32.ofInt_toInt x
theorem i64o (x : Int64) : Int64.ofInt x.toInt = x := Int64.ofInt_toInt x
theorem i32in (x : Int32) : inI x.toInt := ⟨by have := Int32.le_toInt x; simpa using this, by have := Int32.toInt_lt x; simpa using this⟩
theorem i64in (x : Int64) : inL x.toInt := ⟨by have := Int64.le_toInt x; simpa using this, by have := Int64.toInt_lt x; simpa using this⟩
theorem i32lt {x y : Int} (hx : inI x) (hy : inI y) : Int32.ofInt x < Int32.ofInt y ↔ x < y := by rw [Int32.lt_iff_toInt_lt, i32t hx, i32t hy]
theorem i32le {x y : Int} (hx : inI x) (hy : inI y) : Int32.ofInt x ≤ Int32.ofInt y ↔ x ≤ y := by rw [Int32.le_iff_toInt_le, i32t hx, i32t hy]
theorem i32eq {x y : Int} (hx : inI x) (hy : inI y) : Int32.ofInt x = Int32.ofInt y ↔ x = y := ⟨fun h => by have := congrArg Int32.toInt h; rwa [i32t hx, i32t hy] at this, fun h => by rw [h]⟩
theorem i64lt {x y : Int} (hx : inL x) (hy : inL y) : Int64.ofInt x < Int64.ofInt y ↔ x < y := by rw [Int64.lt_iff_toInt_lt, i64t hx, i64t hy]
theorem i64le {x y : Int} (hx : inL x) (hy : inL y) : Int64.ofInt x ≤ Int64.ofInt y ↔ x ≤ y := by rw [Int64.le_iff_toInt_le, i64t hx, i64t hy]
theorem i64eq {x y : Int} (hx : inL x) (hy : inL y) : Int64.ofInt x = Int64.ofInt y ↔ x = y := ⟨fun h => by have := congrArg Int64.toInt h; rwa [i64t hx, i64t hy] at this, fun h => by rw [h]⟩
theorem in0 : inI 0 := by unfold inI; omega
theorem in0l : inL 0 := by unfold inL; omega
theorem i320 : Int32.ofInt 0 = 0 := rfl
theorem i640 : Int64.ofInt 0 = 0 := rfl
theorem i32add (x y : Int) : Int32.ofInt x + Int32.ofInt y = Int32.ofInt (x + y) := (Int32.ofInt_add x y).symm
theorem i32sub (x y : Int) : Int32.ofInt x - Int32.ofInt y = Int32.ofInt (x - y) := (Int32.ofInt_sub x y).symm
theorem i32mul (x y : Int) : Int32.ofInt x * Int32.ofInt y = Int32.ofInt (x * y) := (Int32.ofInt_mul x y).symm
theorem i32neg (x : Int) : -Int32.ofInt x = Int32.ofInt (-x) := (Int32.ofInt_neg x).symm
theorem i64add (x y : Int) : Int64.ofInt x + Int64.ofInt y = Int64.ofInt (x + y) := (Int64.ofInt_add x y).symm
theorem i64sub (x y : Int) : Int64.ofInt x - Int64.ofInt y = Int64.ofInt (x - y) := (Int64.ofInt_sub x y).symm
theorem i64mul (x y : Int) : Int64.ofInt x * Int64.ofInt y = Int64.ofInt (x * y) := (Int64.ofInt_mul x y).symm
theorem i64neg (x : Int) : -Int64.ofInt x = Int64.ofInt (-x) := (Int64.ofInt_neg x).symm
theorem i32div {x y : Int} (hx : inI x) (hy : inI y) (h : inI (x.tdiv y)) : Int32.ofInt x / Int32.ofInt y = Int32.ofInt (x.tdiv y) := by
  apply Int32.toInt_inj.mp
  rw [Int32.toInt_div, i32t hx, i32t hy, i32t h]
  exact Int.bmod_eq_of_le (by simpa using h.1) (by simpa using h.2)
theorem i64div {x y : Int} (hx : inL x) (hy : inL y) (h : inL (x.tdiv y)) : Int64.ofInt x / Int64.ofInt y = Int64.ofInt (x.tdiv y) := by
  apply Int64.toInt_inj.mp
  rw [Int64.toInt_div, i64t hx, i64t hy, i64t h]
  exact Int.bmod_eq_of_le (by simpa using h.1) (by simpa using h.2)
theorem i32rem {x y : Int} (hx : inI x) (hy : inI y) (h : inI (x.tdiv y)) : Int32.ofInt x - Int32.ofInt x / Int32.ofInt y * Int32.ofInt y = Int32.ofInt (x.tmod y) := by
  rw [i32div hx hy h, i32mul, i32sub, Int.tmod_def, Int.mul_comm]
theorem i64rem {x y : Int} (hx : inL x) (hy : inL y) (h : inL (x.tdiv y)) : Int64.ofInt x - Int64.ofInt x / Int64.ofInt y * Int64.ofInt y = Int64.ofInt (x.tmod y) := by
  rw [i64div hx hy h, i64mul, i64sub, Int.tmod_def, Int.mul_comm]
theorem i2lt {x : Int} (hx : inI x) : (Int32.ofInt x).toInt64 = Int64.ofInt x := by
  apply Int64.toInt_inj.mp
  rw [Int32.toInt_toInt64, i32t hx, i64t ⟨by have := hx.1; omega, by have := hx.2; omega⟩]
theorem clampt {x : Int} (h0 : 0 ≤ x) (hx : inI x) : (Int32.ofInt x).toNatClampNeg = x.toNat := by
  unfold Int32.toNatClampNeg
  rw [i32t hx]
