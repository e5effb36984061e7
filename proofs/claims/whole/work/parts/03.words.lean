/-! THE TABLES' WORDS AND THE JUDGEMENT: WW is the kit's W over the pure layer -/
def lwG : List Cond := lw_tbl.filter goodWord
def isNest : Cond → Bool
  | .methodLinkNest _ _ _ _ => true
  | _ => false
def nestL : List Cond := lw_tbl.filter isNest
theorem lwG_in {w : Cond} (h : w ∈ lw_tbl) (g : goodWord w = true) : w ∈ lwG := List.mem_filter.mpr ⟨h, g⟩
theorem lwG_good {w : Cond} (h : w ∈ lwG) : goodWord w = true := (List.mem_filter.mp h).2
theorem lwG_1 {w : Cond} {i : Nat} (h : tables_1_1[i]? = some w) (g : goodWord w = true) : w ∈ lwG := lwG_in (List.mem_append_right _ (List.mem_append_left _ (List.mem_of_getElem? h))) g
theorem lwG_2 {w : Cond} {i : Nat} (h : tables_1_2[i]? = some w) (g : goodWord w = true) : w ∈ lwG := lwG_in (List.mem_append_right _ (List.mem_append_right _ (List.mem_append_left _ (List.mem_of_getElem? h)))) g
theorem lwG_3 {w : Cond} {i : Nat} (h : tables_1_3[i]? = some w) (g : goodWord w = true) : w ∈ lwG := lwG_in (List.mem_append_right _ (List.mem_append_right _ (List.mem_append_right _ (List.mem_append_left _ (List.mem_of_getElem? h))))) g
theorem lwG_4 {w : Cond} {i : Nat} (h : tables_1_4[i]? = some w) (g : goodWord w = true) : w ∈ lwG := lwG_in (List.mem_append_right _ (List.mem_append_right _ (List.mem_append_right _ (List.mem_append_right _ (List.mem_append_left _ (List.mem_of_getElem? h)))))) g
theorem lwG_5 {w : Cond} {i : Nat} (h : tables_1_5[i]? = some w) (g : goodWord w = true) : w ∈ lwG := lwG_in (List.mem_append_right _ (List.mem_append_right _ (List.mem_append_right _ (List.mem_append_right _ (List.mem_append_right _ (List.mem_of_getElem? h)))))) g
theorem lwG_p {w : Cond} {i : Nat} (h : (k2_sels lw_privs)[i]? = some w) (g : goodWord w = true) : w ∈ lwG := lwG_in (List.mem_append_left _ (List.mem_of_getElem? h)) g
def aTys (cy : Nat → ClassId) : List (ClassId × FieldType) := [(cy 13, .byte), (cy 14, .int), (cy 15, .object RX0), (cy 16, .object RX3), (cy 17, .object RX4), (cy 18, .object RX8)]
def aoL : List String := [RX0, RX3, RX4, RX8]
/-- what the machine's tables say, for the whole system -/
def KW (D : va_G) (cy : Nat → ClassId) (U : State) : Prop := va_K D vwCl (aTys cy) U ∧ (∀ w ∈ nestL, va_Nw w U) ∧ ∀ C ∈ aoL, va_AO C U
theorem KW.warm {D : va_G} {cy : Nat → ClassId} {s U : State} (hW : s.WarmedH U.vm) (h : KW D cy s) : KW D cy U := by
  refine ⟨va_K.moved hW.alike h.1, fun w hw => ?_, fun C hC => va_AO.moved hW.alike (h.2.2 C hC)⟩
  have hn := (List.mem_filter.mp hw).2
  have h1 := h.2.1 w hw
  cases w <;> first | exact va_Nw.warmM hW h1 | cases hn
theorem KW.calling {D : va_G} {cy : Nat → ClassId} {U : State} {g : JFrame} {mk : MethodId} {a : Array Value} (h : KW D cy U) : KW D cy (U.calling g mk a) := by
  refine ⟨va_K.moved (u := U) (U := U.calling g mk a) (Vm.Alike.refl U.vm) h.1, fun w hw => ?_, fun C hC => va_AO.moved (u := U) (U := U.calling g mk a) (Vm.Alike.refl U.vm) (h.2.2 C hC)⟩
  have hn := (List.mem_filter.mp hw).2
  have h1 := h.2.1 w hw
  cases w <;> first | exact va_Nw.same rfl rfl h1 | cases hn
def Rk (k : Nat) : String := match k with
  | 0 => RX0 | 1 => RX1 | 2 => RX2 | 3 => RX3 | 4 => RX4 | 5 => RX5 | 6 => RX6 | 7 => RX7 | 8 => RX8 | 9 => RX9 | 10 => RX10 | 11 => RX11 | _ => RX12
def Tk (k : Nat) : u_T := match k with
  | 0 => TX0 | 1 => TX1 | 2 => TX2 | 3 => TX3 | 4 => TX4 | 5 => TX5 | 6 => TX6 | 7 => TX7 | 8 => TX8 | 9 => TX9 | 10 => TX10 | 11 => TX11 | _ => TX12
def Nk (k : Nat) : Nat := match k with
  | 0 => 8 | 1 => 4 | 2 => 4 | 3 => 4 | 4 => 4 | 5 => 4 | 6 => 8 | 7 => 1 | 8 => 7 | 9 => 4 | 10 => 4 | 11 => 8 | _ => 30
set_option maxRecDepth 100000 in
theorem inG0 : ∀ w ∈ u_ws RX0 TX0 8, w ∈ lw_tbl ∧ goodWord w = true := by decide +kernel
set_option maxRecDepth 100000 in
theorem inG1 : ∀ w ∈ u_ws RX1 TX1 4, w ∈ lw_tbl ∧ goodWord w = true := by decide +kernel
set_option maxRecDepth 100000 in
theorem inG2 : ∀ w ∈ u_ws RX2 TX2 4, w ∈ lw_tbl ∧ goodWord w = true := by decide +kernel
set_option maxRecDepth 100000 in
theorem inG3 : ∀ w ∈ u_ws RX3 TX3 4, w ∈ lw_tbl ∧ goodWord w = true := by decide +kernel
set_option maxRecDepth 100000 in
theorem inG4 : ∀ w ∈ u_ws RX4 TX4 4, w ∈ lw_tbl ∧ goodWord w = true := by decide +kernel
set_option maxRecDepth 100000 in
theorem inG5 : ∀ w ∈ u_ws RX5 TX5 4, w ∈ lw_tbl ∧ goodWord w = true := by decide +kernel
set_option maxRecDepth 100000 in
theorem inG6 : ∀ w ∈ u_ws RX6 TX6 8, w ∈ lw_tbl ∧ goodWord w = true := by decide +kernel
set_option maxRecDepth 100000 in
theorem inG7 : ∀ w ∈ u_ws RX7 TX7 1, w ∈ lw_tbl ∧ goodWord w = true := by decide +kernel
set_option maxRecDepth 100000 in
theorem inG8 : ∀ w ∈ u_ws RX8 TX8 7, w ∈ lw_tbl ∧ goodWord w = true := by decide +kernel
set_option maxRecDepth 100000 in
theorem inG9 : ∀ w ∈ u_ws RX9 TX9 4, w ∈ lw_tbl ∧ goodWord w = true := by decide +kernel
set_option maxRecDepth 100000 in
theorem inG10 : ∀ w ∈ u_ws RX10 TX10 4, w ∈ lw_tbl ∧ goodWord w = true := by decide +kernel
set_option maxRecDepth 100000 in
theorem inG11 : ∀ w ∈ u_ws RX11 TX11 8, w ∈ lw_tbl ∧ goodWord w = true := by decide +kernel
set_option maxRecDepth 100000 in
theorem inG12 : ∀ w ∈ u_ws RX12 TX12 30, w ∈ lw_tbl ∧ goodWord w = true := by decide +kernel
theorem clOK (k : Nat) (hk : k < 13) : vwCl[k]? = some (Rk k, Tk k, Nk k) ∧ (∀ w ∈ u_ws (Rk k) (Tk k) (Nk k), w ∈ lwG) ∧ (∀ j, j < Nk k → parseFieldDescriptor (Tk k j).2.2.1 = some (TYk k j)) ∧ (∀ a, a < Nk k → ∀ b, b < Nk k → a ≠ b → (Tk k a).2.1 ≠ (Tk k b).2.1) := by
  match k, hk with
  | 0, _ => exact ⟨rfl, fun w h => lwG_in (inG0 w h).1 (inG0 w h).2, tyX0_ok, nmX0⟩
  | 1, _ => exact ⟨rfl, fun w h => lwG_in (inG1 w h).1 (inG1 w h).2, tyX1_ok, nmX1⟩
  | 2, _ => exact ⟨rfl, fun w h => lwG_in (inG2 w h).1 (inG2 w h).2, tyX2_ok, nmX2⟩
  | 3, _ => exact ⟨rfl, fun w h => lwG_in (inG3 w h).1 (inG3 w h).2, tyX3_ok, nmX3⟩
  | 4, _ => exact ⟨rfl, fun w h => lwG_in (inG4 w h).1 (inG4 w h).2, tyX4_ok, nmX4⟩
  | 5, _ => exact ⟨rfl, fun w h => lwG_in (inG5 w h).1 (inG5 w h).2, tyX5_ok, nmX5⟩
  | 6, _ => exact ⟨rfl, fun w h => lwG_in (inG6 w h).1 (inG6 w h).2, tyX6_ok, nmX6⟩
  | 7, _ => exact ⟨rfl, fun w h => lwG_in (inG7 w h).1 (inG7 w h).2, tyX7_ok, nmX7⟩
  | 8, _ => exact ⟨rfl, fun w h => lwG_in (inG8 w h).1 (inG8 w h).2, tyX8_ok, nmX8⟩
  | 9, _ => exact ⟨rfl, fun w h => lwG_in (inG9 w h).1 (inG9 w h).2, tyX9_ok, nmX9⟩
  | 10, _ => exact ⟨rfl, fun w h => lwG_in (inG10 w h).1 (inG10 w h).2, tyX10_ok, nmX10⟩
  | 11, _ => exact ⟨rfl, fun w h => lwG_in (inG11 w h).1 (inG11 w h).2, tyX11_ok, nmX11⟩
  | 12, _ => exact ⟨rfl, fun w h => lwG_in (inG12 w h).1 (inG12 w h).2, tyX12_ok, nmX12⟩
  | k + 13, hk => exact absurd hk (by omega)
