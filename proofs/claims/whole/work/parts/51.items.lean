/-! ITEMS: a table S of what a text told so far: 0: layers, seats; 1: pieces; 2: their numbers; 3: lets; 4: seats' measures; 5: patches; 6: their numbers -/
def dsOk (S : IFn) : Prop := (0 ≤ S 0 0 ∧ S 0 0 ≤ 8) ∧ (0 ≤ S 0 1 ∧ S 0 1 ≤ 6) ∧ (∀ l : Nat, (l : Int) < S 0 0 → (1 ≤ S 1 l ∧ S 1 l ≤ 4) ∧ (∀ k : Nat, (k : Int) < S 1 l → (1 ≤ S 2 (8 * l + 2 * k) ∧ S 2 (8 * l + 2 * k) ≤ 100) ∧ 1 ≤ S 2 (8 * l + 2 * k + 1) ∧ S 2 (8 * l + 2 * k + 1) ≤ 200) ∧ ∀ t : Nat, t < 4 → 0 ≤ S 3 (4 * l + t) ∧ S 3 (4 * l + t) ≤ 300) ∧ ∀ s : Nat, (s : Int) < S 0 1 → SEAr (fun k => S 4 (4 * s + k)) ∧ (0 ≤ S 5 s ∧ S 5 s ≤ 6) ∧ ∀ i : Nat, (i : Int) < S 5 s → (0 ≤ S 6 (18 * s + 3 * i) ∧ S 6 (18 * s + 3 * i) < S 0 0) ∧ (0 ≤ S 6 (18 * s + 3 * i + 1) ∧ S 6 (18 * s + 3 * i + 1) ≤ 200) ∧ 1 ≤ S 6 (18 * s + 3 * i + 2) ∧ S 6 (18 * s + 3 * i + 2) ≤ 400
def lS (S : IFn) (c : Nat) (g : Nat → Int) : IFn := fun o j => if o = 0 ∧ j = 0 then S 0 0 + 1 else if o = 1 ∧ j = (S 0 0).toNat then ((c / 2 : Nat) : Int) else if o = 2 ∧ 8 * (S 0 0).toNat ≤ j then g (j - 8 * (S 0 0).toNat) else if o = 3 ∧ 4 * (S 0 0).toNat ≤ j then 100 else S o j
def tS (S : IFn) (g : Nat → Int) : IFn := fun o j => if o = 3 ∧ 4 * (g 0).toNat ≤ j ∧ j < 4 * (g 0).toNat + 4 then g (1 + (j - 4 * (g 0).toNat)) else S o j
def sS (S : IFn) (g : Nat → Int) : IFn := fun o j => if o = 0 ∧ j = 1 then S 0 1 + 1 else if o = 4 ∧ 4 * (S 0 1).toNat ≤ j then g (j - 4 * (S 0 1).toNat) else if o = 5 ∧ j = (S 0 1).toNat then 0 else S o j
def pS (S : IFn) (g : Nat → Int) : IFn := fun o j => if o = 5 ∧ j = (S 0 1).toNat - 1 then S 5 ((S 0 1).toNat - 1) + 1 else if o = 6 ∧ 18 * ((S 0 1).toNat - 1) + 3 * (S 5 ((S 0 1).toNat - 1)).toNat ≤ j then g (j - (18 * ((S 0 1).toNat - 1) + 3 * (S 5 ((S 0 1).toNat - 1)).toNat)) else S o j
abbrev lC (S : IFn) (c : Nat) (g : Nat → Int) : Prop := S 0 0 < 8 ∧ 2 ≤ c ∧ c % 2 = 0 ∧ ∀ k, k < c / 2 → (1 ≤ g (2 * k) ∧ g (2 * k) ≤ 100) ∧ 1 ≤ g (2 * k + 1) ∧ g (2 * k + 1) ≤ 200
abbrev tC (S : IFn) (c : Nat) (g : Nat → Int) : Prop := c = 5 ∧ g 0 < S 0 0 ∧ ∀ t, t < 4 → g (1 + t) ≤ 300
abbrev sC (S : IFn) (c : Nat) (g : Nat → Int) : Prop := c = 4 ∧ S 0 1 < 6 ∧ SEAr g
abbrev pC (S : IFn) (c : Nat) (g : Nat → Int) : Prop := c = 3 ∧ 0 < S 0 1 ∧ S 5 ((S 0 1).toNat - 1) < 6 ∧ g 0 < S 0 0 ∧ g 1 ≤ 200 ∧ 1 ≤ g 2 ∧ g 2 ≤ 400
noncomputable def oif (p : Prop) (a : IFn) : Option IFn := @ite _ p (Classical.propDecidable p) (some a) none
theorem oif_t {p : Prop} {a : IFn} (h : p) : oif p a = some a := by unfold oif; exact if_pos h
theorem oif_f {p : Prop} {a : IFn} (h : ¬ p) : oif p a = none := by unfold oif; exact if_neg h
noncomputable def itF (x : Int) (c : Nat) (g : Nat → Int) (S : IFn) : Option IFn := if x = 108 then oif (lC S c g) (lS S c g) else if x = 116 then oif (tC S c g) (tS S g) else if x = 115 then oif (sC S c g) (sS S g) else if x = 112 then oif (pC S c g) (pS S g) else none
section ITM
variable {S : IFn} {c : Nat} {g : Nat → Int}
theorem lS_0 : lS S c g 0 0 = S 0 0 + 1 := by unfold lS; rw [if_pos ⟨rfl, rfl⟩]
theorem lS_1 {j : Nat} : lS S c g 1 j = if j = (S 0 0).toNat then ((c / 2 : Nat) : Int) else S 1 j := by
  unfold lS
  rw [if_neg (by omega)]
  by_cases e : j = (S 0 0).toNat
  · rw [if_pos ⟨rfl, e⟩, if_pos e]
  · rw [if_neg (fun z => e z.2), if_neg (by omega), if_neg (by omega), if_neg e]
theorem lS_2 {j : Nat} : lS S c g 2 j = if 8 * (S 0 0).toNat ≤ j then g (j - 8 * (S 0 0).toNat) else S 2 j := by
  unfold lS
  rw [if_neg (by omega), if_neg (by omega)]
  by_cases e : 8 * (S 0 0).toNat ≤ j
  · rw [if_pos ⟨rfl, e⟩, if_pos e]
  · rw [if_neg (fun z => e z.2), if_neg (by omega), if_neg e]
theorem lS_3 {j : Nat} : lS S c g 3 j = if 4 * (S 0 0).toNat ≤ j then 100 else S 3 j := by
  unfold lS
  rw [if_neg (by omega), if_neg (by omega), if_neg (by omega)]
  by_cases e : 4 * (S 0 0).toNat ≤ j
  · rw [if_pos ⟨rfl, e⟩, if_pos e]
  · rw [if_neg (fun z => e z.2), if_neg e]
theorem lS_o {o j : Nat} (h : 4 ≤ o ∨ (o = 0 ∧ j ≠ 0)) : lS S c g o j = S o j := by
  unfold lS
  rw [if_neg (by omega), if_neg (by omega), if_neg (by omega), if_neg (by omega)]
theorem tS_3 {j : Nat} : tS S g 3 j = if 4 * (g 0).toNat ≤ j ∧ j < 4 * (g 0).toNat + 4 then g (1 + (j - 4 * (g 0).toNat)) else S 3 j := by
  unfold tS
  by_cases e : 4 * (g 0).toNat ≤ j ∧ j < 4 * (g 0).toNat + 4
  · rw [if_pos ⟨rfl, e⟩, if_pos e]
  · rw [if_neg (fun z => e z.2), if_neg e]
theorem tS_o {o j : Nat} (h : o ≠ 3) : tS S g o j = S o j := by unfold tS; rw [if_neg (fun z => h z.1)]
theorem sS_0 : sS S g 0 1 = S 0 1 + 1 := by unfold sS; rw [if_pos ⟨rfl, rfl⟩]
theorem sS_4 {j : Nat} : sS S g 4 j = if 4 * (S 0 1).toNat ≤ j then g (j - 4 * (S 0 1).toNat) else S 4 j := by
  unfold sS
  rw [if_neg (by omega)]
  by_cases e : 4 * (S 0 1).toNat ≤ j
  · rw [if_pos ⟨rfl, e⟩, if_pos e]
  · rw [if_neg (fun z => e z.2), if_neg (by omega), if_neg e]
theorem sS_5 {j : Nat} : sS S g 5 j = if j = (S 0 1).toNat then 0 else S 5 j := by
  unfold sS
  rw [if_neg (by omega), if_neg (by omega)]
  by_cases e : j = (S 0 1).toNat
  · rw [if_pos ⟨rfl, e⟩, if_pos e]
  · rw [if_neg (fun z => e z.2), if_neg e]
theorem sS_o {o j : Nat} (h : o = 1 ∨ o = 2 ∨ o = 3 ∨ o = 6 ∨ (o = 0 ∧ j ≠ 1)) : sS S g o j = S o j := by
  unfold sS
  rw [if_neg (by omega), if_neg (by omega), if_neg (by omega)]
theorem pS_5 {j : Nat} : pS S g 5 j = if j = (S 0 1).toNat - 1 then S 5 ((S 0 1).toNat - 1) + 1 else S 5 j := by
  unfold pS
  by_cases e : j = (S 0 1).toNat - 1
  · rw [if_pos ⟨rfl, e⟩, if_pos e]
  · rw [if_neg (fun z => e z.2), if_neg (by omega), if_neg e]
theorem pS_6 {j : Nat} : pS S g 6 j = if 18 * ((S 0 1).toNat - 1) + 3 * (S 5 ((S 0 1).toNat - 1)).toNat ≤ j then g (j - (18 * ((S 0 1).toNat - 1) + 3 * (S 5 ((S 0 1).toNat - 1)).toNat)) else S 6 j := by
  unfold pS
  rw [if_neg (by omega)]
  by_cases e : 18 * ((S 0 1).toNat - 1) + 3 * (S 5 ((S 0 1).toNat - 1)).toNat ≤ j
  · rw [if_pos ⟨rfl, e⟩, if_pos e]
  · rw [if_neg (fun z => e z.2), if_neg e]
theorem pS_o {o j : Nat} (h : o ≤ 4) : pS S g o j = S o j := by
  unfold pS
  rw [if_neg (by omega), if_neg (by omega)]
theorem lS_ok (h : dsOk S) (hc : lC S c g) (h8 : c ≤ 8) : dsOk (lS S c g) := by
  obtain ⟨h0, h1, h2, h3⟩ := h
  obtain ⟨c1, c2, c3, c4⟩ := hc
  refine ⟨by rw [lS_0]; omega, by rw [lS_o (Or.inr ⟨rfl, by decide⟩)]; exact h1, ?_, ?_⟩
  · intro l hl
    rw [lS_0] at hl
    by_cases e : l = (S 0 0).toNat
    · rw [lS_1, if_pos e]
      refine ⟨by omega, fun k hk => ?_, fun t ht => ?_⟩
      · rw [lS_2, if_pos (by omega), lS_2, if_pos (by omega), show 8 * l + 2 * k - 8 * (S 0 0).toNat = 2 * k by omega, show 8 * l + 2 * k + 1 - 8 * (S 0 0).toNat = 2 * k + 1 by omega]
        exact c4 k (by omega)
      · rw [lS_3, if_pos (by omega)]; omega
    · rw [lS_1, if_neg e]
      obtain ⟨a1, a2, a3⟩ := h2 l (by omega)
      refine ⟨a1, fun k hk => ?_, fun t ht => ?_⟩
      · rw [lS_2, if_neg (by omega), lS_2, if_neg (by omega)]; exact a2 k hk
      · rw [lS_3, if_neg (by omega)]; exact a3 t ht
  · intro s hs
    rw [lS_o (Or.inr ⟨rfl, by decide⟩)] at hs
    obtain ⟨a1, a2, a3⟩ := h3 s hs
    refine ⟨?_, by rw [lS_o (Or.inl (by decide))]; exact a2, fun i hi => ?_⟩
    · rw [show (fun k => lS S c g 4 (4 * s + k)) = (fun k => S 4 (4 * s + k)) from funext (fun k => lS_o (Or.inl (by decide)))]; exact a1
    · rw [lS_o (Or.inl (by decide))] at hi
      have := a3 i hi
      have q6 : ∀ j, lS S c g 6 j = S 6 j := fun j => lS_o (Or.inl (by decide))
      rw [q6, q6, q6, lS_0]; omega
theorem tS_ok (h : dsOk S) (hc : tC S c g) (hg : ∀ j, j < 5 → 0 ≤ g j) : dsOk (tS S g) := by
  obtain ⟨h0, h1, h2, h3⟩ := h
  obtain ⟨c1, c2, c3⟩ := hc
  refine ⟨by rw [tS_o (by decide)]; exact h0, by rw [tS_o (by decide)]; exact h1, fun l hl => ?_, fun s hs => ?_⟩
  · rw [tS_o (by decide)] at hl
    obtain ⟨a1, a2, a3⟩ := h2 l hl
    refine ⟨by rw [tS_o (by decide)]; exact a1, fun k hk => ?_, fun t ht => ?_⟩
    · rw [tS_o (by decide)] at hk
      rw [tS_o (by decide), tS_o (by decide)]; exact a2 k hk
    · rw [tS_3]
      by_cases e : 4 * (g 0).toNat ≤ 4 * l + t ∧ 4 * l + t < 4 * (g 0).toNat + 4
      · rw [if_pos e]
        exact ⟨hg _ (by omega), c3 _ (by omega)⟩
      · rw [if_neg e]; exact a3 t ht
  · rw [tS_o (by decide)] at hs
    obtain ⟨a1, a2, a3⟩ := h3 s hs
    refine ⟨?_, by rw [tS_o (by decide)]; exact a2, fun i hi => ?_⟩
    · rw [show (fun k => tS S g 4 (4 * s + k)) = (fun k => S 4 (4 * s + k)) from funext (fun k => tS_o (by decide))]; exact a1
    · rw [tS_o (by decide)] at hi
      rw [tS_o (by decide), tS_o (by decide), tS_o (by decide), tS_o (by decide)]; exact a3 i hi
theorem sS_ok (h : dsOk S) (hc : sC S c g) : dsOk (sS S g) := by
  obtain ⟨h0, h1, h2, h3⟩ := h
  obtain ⟨c1, c2, c3⟩ := hc
  have z0 : sS S g 0 0 = S 0 0 := sS_o (by omega)
  refine ⟨by rw [z0]; exact h0, by rw [sS_0]; omega, fun l hl => ?_, fun s hs => ?_⟩
  · rw [z0] at hl
    obtain ⟨a1, a2, a3⟩ := h2 l hl
    refine ⟨by rw [sS_o (by omega)]; exact a1, fun k hk => ?_, fun t ht => ?_⟩
    · rw [sS_o (by omega)] at hk
      rw [sS_o (by omega), sS_o (by omega)]; exact a2 k hk
    · rw [sS_o (by omega)]; exact a3 t ht
  · rw [sS_0] at hs
    by_cases e : s = (S 0 1).toNat
    · refine ⟨?_, by rw [sS_5, if_pos e]; omega, fun i hi => by rw [sS_5, if_pos e] at hi; omega⟩
      rw [show (fun k => sS S g 4 (4 * s + k)) = g from funext (fun k => by rw [sS_4, if_pos (by omega), show 4 * s + k - 4 * (S 0 1).toNat = k by omega])]
      exact c3
    · obtain ⟨a1, a2, a3⟩ := h3 s (by omega)
      unfold SEAr at a1
      have q4 : ∀ k, k < 4 → sS S g 4 (4 * s + k) = S 4 (4 * s + k) := fun k hk => by rw [sS_4, if_neg (by omega)]
      refine ⟨?_, by rw [sS_5, if_neg e]; exact a2, fun i hi => ?_⟩
      · unfold SEAr
        dsimp only at a1 ⊢
        rw [q4 0 (by decide), q4 1 (by decide), q4 2 (by decide), q4 3 (by decide)]; exact a1
      · rw [sS_5, if_neg e] at hi
        have q6 : ∀ j, sS S g 6 j = S 6 j := fun j => sS_o (by omega)
        rw [q6, q6, q6, z0]; exact a3 i hi
theorem pS_ok (h : dsOk S) (hc : pC S c g) (hg : ∀ j, j < 3 → 0 ≤ g j) : dsOk (pS S g) := by
  obtain ⟨h0, h1, h2, h3⟩ := h
  obtain ⟨c1, c2, c3, c4, c5, c6, c7⟩ := hc
  have g0 := hg 0 (by decide)
  have g1 := hg 1 (by decide)
  refine ⟨by rw [pS_o (by decide)]; exact h0, by rw [pS_o (by decide)]; exact h1, fun l hl => ?_, fun s hs => ?_⟩
  · rw [pS_o (by decide)] at hl
    obtain ⟨a1, a2, a3⟩ := h2 l hl
    refine ⟨by rw [pS_o (by decide)]; exact a1, fun k hk => ?_, fun t ht => ?_⟩
    · rw [pS_o (by decide)] at hk
      rw [pS_o (by decide), pS_o (by decide)]; exact a2 k hk
    · rw [pS_o (by decide)]; exact a3 t ht
  · rw [pS_o (by decide)] at hs
    obtain ⟨a1, a2, a3⟩ := h3 s hs
    refine ⟨?_, ?_, fun i hi => ?_⟩
    · rw [show (fun k => pS S g 4 (4 * s + k)) = (fun k => S 4 (4 * s + k)) from funext (fun k => pS_o (by decide))]; exact a1
    · rw [pS_5]
      by_cases e : s = (S 0 1).toNat - 1
      · rw [if_pos e]; rw [← e] at c3 ⊢; omega
      · rw [if_neg e]; exact a2
    · rw [pS_5] at hi
      rw [pS_6, pS_6, pS_6, pS_o (by decide)]
      by_cases e : s = (S 0 1).toNat - 1
      · rw [if_pos e] at hi
        rw [← e] at hi c3 ⊢
        by_cases e2 : i = (S 5 s).toNat
        · rw [if_pos (by omega), if_pos (by omega), if_pos (by omega), show 18 * s + 3 * i - (18 * s + 3 * (S 5 s).toNat) = 0 by omega, show 18 * s + 3 * i + 1 - (18 * s + 3 * (S 5 s).toNat) = 1 by omega, show 18 * s + 3 * i + 2 - (18 * s + 3 * (S 5 s).toNat) = 2 by omega]
          omega
        · rw [if_neg (by omega), if_neg (by omega), if_neg (by omega)]
          exact a3 i (by omega)
      · rw [if_neg e] at hi
        have := a3 i hi
        rw [if_neg (by omega), if_neg (by omega), if_neg (by omega)]
        exact this
end ITM
