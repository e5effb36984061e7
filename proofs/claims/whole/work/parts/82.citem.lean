/-! the class takes an item in -/
section CIM
variable {M : Mm} {S : IFn} {c q : Nat} {g : Nat → Int} {Q : Int → Mm → Prop} {x : Int}
theorem c_takeItem (hp : pl q) (hP : StrP M.2.2.1 q) (hd : cD M.1 M.2.2.1 q S) (hok : dsOk S) (h1 : 1 ≤ c) (hc : c ≤ 8) (hg : ∀ j, j < c → M.1 3 j = g j) (hgp : ∀ j, j < c → 0 ≤ g j) (hx : 0 ≤ x ∧ x ≤ 255) (h0 : itF x c g S = none → Q 0 M) (hq : ∀ S', itF x c g S = some S' → ∀ M' : Mm, M'.2.1 = M.2.1 → M'.2.2.2 = M.2.2.2 → rFr M.2.2.1 M'.2.2.1 q → (∀ o j, ¬ (q ≤ o ∧ o < q + 83) → M'.1 o j = M.1 o j) → cD M'.1 M'.2.2.1 q S' → Q 1 M') : P_X5_takeItem q (sb x) (some 3) c M Q := by
  have hsb : sb x = if x < 128 then x else x - 256 := rfl
  have kx : ∀ v : Int, 0 ≤ v → v < 128 → (sb x = v ↔ x = v) := fun v a b => by rw [hsb]; split <;> omega
  have frr : ∀ M' : Mm, M'.2 = M.2 → M'.2.1 = M.2.1 ∧ M'.2.2.2 = M.2.2.2 ∧ rFr M.2.2.1 M'.2.2.1 q := fun M' e => ⟨by rw [e], by rw [e], fun o j _ => by rw [e]⟩
  have none5 : ¬ (x = 108 ∨ x = 116 ∨ x = 115 ∨ x = 112) → Q 0 M := fun z => h0 (by unfold itF; rw [if_neg (fun y => z (by omega)), if_neg (fun y => z (by omega)), if_neg (fun y => z (by omega)), if_neg (fun y => z (by omega))])
  have non : ∀ v : Int, 0 ≤ v → v < 128 → v ≠ 108 → v ≠ 116 → v ≠ 115 → v ≠ 112 → sb x = v → Q 0 M := fun v a b n1 n2 n3 n4 e => none5 (by have := (kx v a b).mp e; omega)
  unfold P_X5_takeItem
  refine goO rfl (by decide) ⟨fun z => absurd z (by decide), fun _ => ⟨fun _ => ⟨fun e => ?_, non 109 (by decide) (by decide) (by decide) (by decide) (by decide) (by decide), non 110 (by decide) (by decide) (by decide) (by decide) (by decide) (by decide), non 111 (by decide) (by decide) (by decide) (by decide) (by decide) (by decide), fun e => ?_, non 113 (by decide) (by decide) (by decide) (by decide) (by decide) (by decide), non 114 (by decide) (by decide) (by decide) (by decide) (by decide) (by decide), fun e => ?_, fun e => ?_, fun e => none5 (fun y => by rw [hsb] at e; split at e <;> omega)⟩, fun z => by omega⟩⟩
  · have ex := (kx 108 (by decide) (by decide)).mp e
    have hi : itF x c g S = oif (lC S c g) (lS S c g) := by unfold itF; rw [if_pos ex]
    exact c_takeLayer hp hP hd hok h1 hc hg (fun z => ⟨Or.inl rfl, h0 (by rw [hi]; exact oif_f z)⟩) (fun z M' m1 m2 m3 => ⟨Or.inr rfl, hq _ (by rw [hi]; exact oif_t z) M' (frr M' m1).1 (frr M' m1).2.1 (frr M' m1).2.2 m2 m3⟩)
  · have ex := (kx 112 (by decide) (by decide)).mp e
    have hi : itF x c g S = oif (pC S c g) (pS S g) := by unfold itF; rw [if_neg (by omega), if_neg (by omega), if_neg (by omega), if_pos ex]
    have hs6 := hok.2.1
    refine ⟨fun z => h0 (by rw [hi]; exact oif_f (fun y => z (by have := y.1; omega))), fun z => ⟨inI_s (by rw [hd.2.1]; omega) (by rw [hd.2.1]; omega), ?_⟩⟩
    have hc3 : c = 3 := by omega
    subst hc3
    exact c_patchItem hp hP hd hok hg hgp (fun z => ⟨fun _ => h0 (by rw [hi]; exact oif_f z), fun y => absurd rfl y⟩) (fun z M' m1 m2 m3 m4 m5 => ⟨fun y => absurd y (by decide), fun _ => hq _ (by rw [hi]; exact oif_t z) M' m1 m2 m3 m4 m5⟩)
  · have ex := (kx 115 (by decide) (by decide)).mp e
    have hi : itF x c g S = oif (sC S c g) (sS S g) := by unfold itF; rw [if_neg (by omega), if_neg (by omega), if_pos ex]
    refine ⟨fun z => h0 (by rw [hi]; exact oif_f (fun y => z (by have := y.1; omega))), fun z => ?_⟩
    have hc4 : c = 4 := by omega
    subst hc4
    exact c_takeSeat hp hP hd hok hg (fun z => ⟨fun _ => h0 (by rw [hi]; exact oif_f z), fun y => absurd rfl y⟩) (fun z M' m1 m2 m3 => ⟨fun y => absurd y (by decide), fun _ => hq _ (by rw [hi]; exact oif_t z) M' (frr M' m1).1 (frr M' m1).2.1 (frr M' m1).2.2 m2 m3⟩)
  · have ex := (kx 116 (by decide) (by decide)).mp e
    have hi : itF x c g S = oif (tC S c g) (tS S g) := by unfold itF; rw [if_neg (by omega), if_pos ex]
    refine ⟨fun z => h0 (by rw [hi]; exact oif_f (fun y => z (by have := y.1; omega))), fun z => goA rfl (by decide) (by decide) ?_⟩
    have hc5 : c = 5 := by omega
    subst hc5
    exact c_takeLets hp hP hd hok hg hgp (fun z => ⟨fun _ => h0 (by rw [hi]; exact oif_f z), fun y => absurd rfl y⟩) (fun z M' m1 m2 m3 => ⟨fun y => absurd y (by decide), fun _ => hq _ (by rw [hi]; exact oif_t z) M' (frr M' m1).1 (frr M' m1).2.1 (frr M' m1).2.2 m2 m3⟩)
end CIM
