/-! the reference's stops, and the call -/
theorem sF_pos {W : Nat → Int} {o : Nat → Bool} (hW : ∀ n, 0 ≤ W n) (h0 : o 0 = true) : ∀ n, 1 ≤ n → 0 ≤ (sF W o n).1 := by
  intro n
  induction n with
  | zero => intro h; omega
  | succ n ih =>
    intro _
    show 0 ≤ (if o n = true ∧ ((sF W o n).1 < 0 ∨ W n < (sF W o n).1) then (W n, n) else sF W o n).1
    rcases Nat.eq_zero_or_pos n with z | z
    · subst z
      rw [if_pos ⟨h0, Or.inl (by show (-1 : Int) < 0; decide)⟩]; exact hW 0
    · split
      · exact hW n
      · exact ih z
theorem oC_0 {t k : Nat} : oC t k 0 = true := by
  have z0 : ∀ m j, dgF t m 0 j = 0 := by
    intro m j
    induction m with
    | zero => rfl
    | succ m ih => show (if j = m then 0 % t else dgF t m (0 / t) j) = 0; rw [Nat.zero_div, Nat.zero_mod, ih, ite_self]
  unfold oC
  rw [orB_i]
  intro m _
  rw [z0, z0]; exact Nat.le_refl _
section STP
variable {M : Mm} {t k : Nat} {d : Nat → Nat} {H ea : Int}
theorem r_worst {i : Int} {Q : Int → Prop} (hh : ∀ K : Int → Prop, K H → P_X12_hurts 221 i M K) (r27 : M.2.2.1 221 27 = some 240) (hk : k ≤ 3) (ht : t ≤ 12) (hd : ∀ j, j < k → M.1 240 j = ((1 + d j : Nat) : Int)) (he : M.1 221 19 = ea) (hea : 0 ≤ ea ∧ ea ≤ 1000) (hH : 0 ≤ H ∧ H ≤ 200000) (hq : Q (wF d k ea H t).2) : P_X12_worst 221 i t k M Q := by
  unfold P_X12_worst P_X12_worst_9
  refine lp_i (fun y : Int × Int × Int => ∃ n : Nat, y.2.2 = n + 1 ∧ n ≤ t ∧ y.1 = (wF d k ea H n).1 ∧ y.2.1 = (wF d k ea H n).2) (fun y => (14 - y.2.2).toNat) ⟨0, rfl, by omega, rfl, rfl⟩ ?_
  rintro ⟨x4, x5, x6⟩ ⟨n, f1, f2, f3, f4⟩
  dsimp only at f1 f3 f4
  show F_X12_worst_9 221 i t k M Q _ x4 x5 x6
  have hb := w_b (d := d) (k := k) hea.1 hH n
  unfold F_X12_worst_9
  refine ⟨fun hlt => ?_, fun hge => hh _ ⟨inI_s (by omega) (by omega), ?_⟩⟩
  · have : n = t := by omega
    subst this
    rw [f4]; exact hq
  · intro v9 e9
    have inner : ∀ v10 : Int, v10 = max x5 v9 → P_X12_worst_44 221 i t k v9 v10 x6 0 M Q (fun y => (∃ n : Nat, y.2.2 = n + 1 ∧ n ≤ t ∧ y.1 = (wF d k ea H n).1 ∧ y.2.1 = (wF d k ea H n).2) ∧ (14 - y.2.2).toNat < (14 - x6).toNat) := by
      intro v10 e10
      unfold P_X12_worst_44
      refine lp_i (fun y : Int × Int => ∃ j : Nat, y.2 = j ∧ j ≤ k ∧ y.1 = eaF d (n + 1) ea v9 j) (fun y => (3 - y.2).toNat) ⟨0, rfl, by omega, rfl⟩ ?_
      rintro ⟨y4, y7⟩ ⟨j, g1, g2, g3⟩
      dsimp only at g1 g3
      subst g1
      show F_X12_worst_44 221 i t k v10 x6 M Q _ _ y4 (j : Int)
      have hb2 := ea_b (d := d) (hr := n + 1) (u := v9) hea.1 (by omega) j
      have hsu : eaF d (n + 1) ea v9 (j + 1) = if 1 + d j = n + 1 then max 0 (eaF d (n + 1) ea v9 j - ea) else eaF d (n + 1) ea v9 j := rfl
      unfold F_X12_worst_44
      refine ⟨fun hle => ⟨inI_s (by omega) (by omega), ?_⟩, fun hlt => ?_⟩
      · have : j = k := by omega
        subst this
        intro v ev
        refine ⟨⟨n + 1, by dsimp only; omega, by omega, ?_, ?_⟩, by dsimp only; omega⟩
        · show y4 = eaF d (n + 1) ea ((wF d j ea H n).1 + H) j
          rw [g3, e9, f3]
        · show v10 = max (wF d j ea H n).2 ((wF d j ea H n).1 + H)
          rw [e10, e9, f3, f4]
      · rintro _ rfl
        refine goA r27 (by decide) ⟨by omega, by rw [show (SH 240).2 = 3 by decide]; omega⟩ ?_
        rw [show ((j : Int)).toNat = j by omega, hd j (by omega), he]
        refine ⟨fun g => ⟨inI_s (by omega) (by omega), ?_⟩, fun g => ⟨fun hz => ⟨inI_s (by omega) (by omega), ?_⟩, fun hz => ⟨inI_s (by omega) (by omega), ?_⟩⟩⟩
        · intro v ev
          refine ⟨⟨j + 1, by dsimp only; omega, by omega, ?_⟩, by dsimp only; omega⟩
          dsimp only
          rw [hsu, if_neg (by omega)]; exact g3
        · intro v8 e8
          refine ⟨⟨j + 1, by dsimp only; omega, by omega, ?_⟩, by dsimp only; omega⟩
          dsimp only
          rw [hsu, if_pos (by omega)]; omega
        · intro v7 e7
          refine ⟨inI_s (by omega) (by omega), ?_⟩
          intro v8 e8
          refine ⟨⟨j + 1, by dsimp only; omega, by omega, ?_⟩, by dsimp only; omega⟩
          dsimp only
          rw [hsu, if_pos (by omega)]; omega
    exact ⟨fun hle => inner x5 (by omega), fun hgt => inner v9 (by omega)⟩
theorem r_copyBest {K : Int × Int × Mm → Prop} {Q : Int → Mm → Prop} {x2 x3 x4 x5 x6 x7 x8 : Int} (r27 : M.2.2.1 221 27 = some 240) (r28 : M.2.2.1 221 28 = some 241) (h7 : 0 ≤ x8 ∧ x8 ≤ 10000) (hq : ∀ M' : Mm, M'.2 = M.2 → (∀ o j, o ≠ 241 → M'.1 o j = M.1 o j) → (∀ j, j < 3 → M'.1 241 j = M.1 240 j) → K (x6, x8 + 1, M')) : P_X12_stops_268 221 x2 x3 x4 x5 x6 x7 x8 0 M Q K := by
  unfold P_X12_stops_268
  refine lp_i (fun y : Int × Mm => ∃ j : Nat, y.1 = j ∧ j ≤ 3 ∧ y.2.2 = M.2 ∧ (∀ o j, o ≠ 241 → y.2.1 o j = M.1 o j) ∧ ∀ m, m < j → y.2.1 241 m = M.1 240 m) (fun y => (3 - y.1).toNat) ⟨0, rfl, by omega, rfl, fun _ _ _ => rfl, fun m hm => by omega⟩ ?_
  rintro ⟨y9, M1⟩ ⟨j, g1, g2, g3, g4, g5⟩
  dsimp only at g1 g3 g4 g5
  subst g1
  show F_X12_stops_268 221 x2 x3 x4 x5 x6 x7 x8 Q K _ (j : Int) M1
  unfold F_X12_stops_268
  refine ⟨fun hle => ⟨inI_s (by omega) (by omega), ?_⟩, fun hlt => ?_⟩
  · have : j = 3 := by omega
    subst this
    rintro _ rfl
    exact hq M1 g3 g4 g5
  · rintro _ rfl
    rintro _ rfl
    refine goA (k := 240) (by rw [g3]; exact r27) (by decide) ⟨by omega, by rw [show (SH 240).2 = 3 by decide]; omega⟩ ?_
    refine goA (k := 241) (by rw [g3]; exact r28) (by decide) ⟨by omega, by rw [show (SH 241).2 = 3 by decide]; omega⟩ ?_
    rw [show ((j : Int)).toNat = j by omega]
    intro M8 e8
    refine ⟨inI_s (by omega) (by omega), ?_⟩
    intro v ev
    subst e8
    refine ⟨⟨j + 1, by dsimp only; omega, by omega, g3, fun o m z => (setI_o M1 241 j _ z).trans (g4 o m z), fun m hm => ?_⟩, by dsimp only; omega⟩
    show (setI M1 241 j (M1.1 240 j)).1 241 m = _
    by_cases e : m = j
    · subst e; rw [setI_s]; exact g4 _ _ (by decide)
    · rw [setI_n _ _ _ _ (by omega)]; exact g5 m (by omega)
variable {I : IFn} {R : RFn} {p q s b : Nat} {w : Nat → Int} {x1 x2 x3 x4 x5 x6 : Int}
/-- the greatest over the patches, and the row taken or not -/
theorem r_row {n : Nat} {K : Int × Int × Mm → Prop} {Q : Int → Mm → Prop} {x7 x10 : Int} (h : RC M I R p q s b) (hw : okW I w s) (hv : ∀ i, i < npR I s → M.1 238 i = prL I w s b i) (hk : k ≤ 3) (h1 : 1 ≤ t) (ht : t ≤ 12) (hn : n < t ^ k) (h6 : x6 = (sF (wC t k (I 221 19) (huM I w s b)) (oC t k) n).1) (h10 : x10 = bi (oC t k n = true)) (hd : ∀ j, j < k → M.1 240 j = ((1 + dgF t k n j : Nat) : Int)) (hs0 : sF (wC t k (I 221 19) (huM I w s b)) (oC t k) (n + 1) = sF (wC t k (I 221 19) (huM I w s b)) (oC t k) n → K (x6, (n : Int) + 1, M)) (hs1 : sF (wC t k (I 221 19) (huM I w s b)) (oC t k) (n + 1) = (wC t k (I 221 19) (huM I w s b) n, n) → ∀ M' : Mm, M'.2 = M.2 → (∀ o j, o ≠ 241 → M'.1 o j = M.1 o j) → (∀ j, j < k → M'.1 241 j = ((1 + dgF t k n j : Nat) : Int)) → K (wC t k (I 221 19) (huM I w s b) n, (n : Int) + 1, M')) : P_X12_stops_192 221 s t k x5 x6 x7 n x10 0 0 M Q K := by
  have hnp := h.np
  have hf := fst_in (w := w) h
  have hmb := hu_b h hw hf
  have hea := h.1.2.2.2.2.2.1.2.2.1
  have hSM : StrM M.2.2.1 := by rw [h.2.1]; exact h.1.1.2.2.2.2.2.1
  have r27 := hSM.2.2.2.2.2.2.2.2.2.2.2.2.2.2.2.2.2.2.1
  have r28 := hSM.2.2.2.2.2.2.2.2.2.2.2.2.2.2.2.2.2.2.2.1
  have he : M.1 221 19 = I 221 19 := h.2.2.1 _ _ (Or.inr (Or.inr (Or.inr (Or.inr (Or.inl (Or.inr (Or.inr (Or.inr ⟨rfl, by omega⟩)))))))) (by omega)
  have hp3 := pow3_le ht hk h1
  have f6 : M.1 229 (6 + s) = (npR I s : Nat) := by rw [h.2.2.1 _ _ (dR_L (dP229 (by omega))) (by omega), hnp.1]
  have hst : sF (wC t k (I 221 19) (huM I w s b)) (oC t k) (n + 1) = if oC t k n = true ∧ ((sF (wC t k (I 221 19) (huM I w s b)) (oC t k) n).1 < 0 ∨ wC t k (I 221 19) (huM I w s b) n < (sF (wC t k (I 221 19) (huM I w s b)) (oC t k) n).1) then (wC t k (I 221 19) (huM I w s b) n, n) else sF (wC t k (I 221 19) (huM I w s b)) (oC t k) n := rfl
  have s244 : ∀ x11 : Int, (x10 = 1 → x11 = wC t k (I 221 19) (huM I w s b) n) → P_X12_stops_244 221 s t k x5 x6 x7 n x10 x11 M Q K := by
    intro x11 e11
    have cp : x10 = 1 → (x6 < 0 ∨ x11 < x6) → P_X12_stops_268 221 s t k x5 x11 x7 n 0 M Q K := by
      intro z1 z2
      have ho : oC t k n = true := by
        apply Classical.byContradiction
        intro hno
        rw [bi_f hno] at h10; omega
      have e := e11 z1
      subst e
      refine r_copyBest r27 r28 (by omega) (fun M' k1 k2 k3 => hs1 ?_ M' k1 k2 (fun j hj => (k3 j (by omega)).trans (hd j hj)))
      rw [hst, if_pos ⟨ho, by rw [← h6]; exact z2⟩]
    unfold P_X12_stops_244
    refine ⟨fun z => ⟨inI_s (by omega) (by omega), ?_⟩, fun z => ?_⟩
    · rintro _ rfl
      rw [h10, bi0] at z
      refine hs0 ?_
      rw [hst, if_neg (fun y => z y.1)]
    · have z1 : x10 = 1 := by
        rcases (bi01 (c := oC t k n = true)) with y | y
        · rw [h10] at z; exact absurd y z
        · rw [h10]; exact y
      refine ⟨fun y => cp z1 (Or.inl y), fun y => ⟨fun y2 => ⟨inI_s (by omega) (by omega), ?_⟩, fun y2 => cp z1 (Or.inr (by omega))⟩⟩
      rintro _ rfl
      refine hs0 ?_
      rw [hst, if_neg (fun y3 => by rw [← h6, ← e11 z1] at y3; omega)]
  unfold P_X12_stops_192
  refine lp_i (fun y : Int × Int => ∃ i : Nat, y.2 = i ∧ i ≤ npR I s ∧ 0 ≤ y.1 ∧ y.1 ≤ wC t k (I 221 19) (huM I w s b) n ∧ ∀ m, m < i → x10 = 1 → (wF (dgF t k n) k (I 221 19) (huL I w s b m) t).2 ≤ y.1) (fun y => (6 - y.2).toNat) ⟨0, rfl, by omega, Int.le_refl _, (w_b (d := dgF t k n) (k := k) (by omega) hmb t).2.1, fun m hm => by omega⟩ ?_
  rintro ⟨y1, y2⟩ ⟨i, f1, f2, f3, f4, f5⟩
  dsimp only at f1 f3 f4 f5
  subst f1
  show F_X12_stops_192 221 s t k x5 x6 x7 n x10 M Q K _ y1 (i : Int)
  unfold F_X12_stops_192
  rintro _ rfl
  refine ⟨inI_s (by omega) (by omega), goA hSM.2.2.2.2.2.2.2.1 (by decide) ⟨by omega, by rw [show (SH 229).2 = 12 by decide]; omega⟩ ?_⟩
  rw [show (6 + (s : Int)).toNat = 6 + s by omega, f6]
  refine ⟨fun hle => s244 y1 (fun z => ?_), fun hlt => ⟨fun z => s244 y1 (fun y => by omega), fun z => ?_⟩⟩
  · have := f5 _ (show fstF (prL I w s b) (npR I s) < i by omega) z
    have : wC t k (I 221 19) (huM I w s b) n ≤ y1 := this
    omega
  · have hi : i < npR I s := by omega
    have hm := (w_m (d := dgF t k n) (k := k) (ea := I 221 19) (hu_max (w := w) h hi) t).2
    have hm : (wF (dgF t k n) k (I 221 19) (huL I w s b i) t).2 ≤ wC t k (I 221 19) (huM I w s b) n := hm
    have hub := hu_b h hw hi
    have hwb := (w_b (d := dgF t k n) (k := k) (ea := I 221 19) (by omega) hub t).2
    refine r_worst (H := huL I w s b i) (d := dgF t k n) (fun K' hK => r_hurts h hw hi (hv i hi) hK) r27 hk ht hd he (by omega) hub ⟨fun hle => ⟨inI_s (by omega) (by omega), ?_⟩, fun hgt => ⟨inI_s (by omega) (by omega), ?_⟩⟩
    · intro v ev
      refine ⟨⟨i + 1, by dsimp only; omega, by omega, f3, f4, fun m hm1 hm2 => ?_⟩, by dsimp only; omega⟩
      by_cases e : m = i
      · subst e; exact hle
      · exact f5 m (by omega) hm2
    · intro v ev
      refine ⟨⟨i + 1, by dsimp only; omega, by omega, by dsimp only; omega, hm, fun m hm1 hm2 => ?_⟩, by dsimp only; omega⟩
      dsimp only
      by_cases e : m = i
      · subst e; exact Int.le_refl _
      · have := f5 m (by omega) hm2
        omega
theorem r_stops {Q : Int → Mm → Prop} (h : RC M I R p q s b) (hw : okW I w s) (hv : ∀ i, i < npR I s → M.1 238 i = prL I w s b i) (hk : k ≤ 3) (h1 : 1 ≤ t) (ht : t ≤ 12) (h5 : -1 ≤ x5 ∧ x5 < k) (hq : ∀ M' : Mm, M'.2 = M.2 → (∀ o j, o ≠ 240 → o ≠ 241 → M'.1 o j = M.1 o j) → Q (if x5 = -1 then (sF (wC t k (I 221 19) (huM I w s b)) (oC t k) (t ^ k)).1 else ((1 + dgF t k (sF (wC t k (I 221 19) (huM I w s b)) (oC t k) (t ^ k)).2 x5.toNat : Nat) : Int)) M') : P_X12_stops_74 221 s t k x5 (-1) 1 0 M Q := by
  have hf := fst_in (w := w) h
  have hnp := h.np
  have hmb := hu_b h hw hf
  have hea := h.1.2.2.2.2.2.1.2.2.1
  have hSM : StrM M.2.2.1 := by rw [h.2.1]; exact h.1.1.2.2.2.2.2.1
  have r27 := hSM.2.2.2.2.2.2.2.2.2.2.2.2.2.2.2.2.2.2.1
  have r28 := hSM.2.2.2.2.2.2.2.2.2.2.2.2.2.2.2.2.2.2.2.1
  have hp3 := pow3_le ht hk h1
  have hW : ∀ n, 0 ≤ wC t k (I 221 19) (huM I w s b) n := fun n => (w_b (d := dgF t k n) (k := k) (by omega) hmb t).2.1
  unfold P_X12_stops_74
  refine lp_i (fun y : Int × Int => ∃ j : Nat, y.2 = j ∧ j ≤ k ∧ y.1 = (t ^ j : Nat)) (fun y => (3 - y.2).toNat) ⟨0, rfl, by omega, rfl⟩ ?_
  rintro ⟨y7, y8⟩ ⟨j, f1, f2, f3⟩
  dsimp only at f1 f3
  subst f1
  show F_X12_stops_74 221 s t k x5 (-1) M Q _ y7 (j : Int)
  unfold F_X12_stops_74
  refine ⟨fun hle => ?_, fun hlt => ?_⟩
  · have : j = k := by omega
    subst this
    rw [f3]
    unfold P_X12_stops_96
    refine lp_i (fun y : Int × Int × Mm => ∃ n : Nat, y.2.1 = n ∧ n ≤ t ^ j ∧ y.1 = (sF (wC t j (I 221 19) (huM I w s b)) (oC t j) n).1 ∧ y.2.2.2 = M.2 ∧ (∀ o j, o ≠ 240 → o ≠ 241 → y.2.2.1 o j = M.1 o j) ∧ (1 ≤ n → ∀ i, i < j → y.2.2.1 241 i = ((1 + dgF t j (sF (wC t j (I 221 19) (huM I w s b)) (oC t j) n).2 i : Nat) : Int))) (fun y => (1728 - y.2.1).toNat) ⟨0, rfl, by omega, rfl, rfl, fun _ _ _ _ => rfl, fun z => by omega⟩ ?_
    rintro ⟨x6, x8, M1⟩ ⟨n, g1, g2, g3, g4, g5, g6⟩
    dsimp only at g1 g3 g4 g5 g6
    subst g1
    show F_X12_stops_96 221 s t j x5 (t ^ j : Nat) Q _ x6 (n : Int) M1
    have tp : 1 ≤ t ^ j := Nat.pow_pos h1
    unfold F_X12_stops_96
    refine ⟨fun hle => ?_, fun hlt => ⟨inI_s (by omega) (by omega), ?_⟩⟩
    · have hn : n = t ^ j := by omega
      have := hq M1 g4 g5
      refine ⟨fun z => ?_, fun z => ?_⟩
      · rw [if_neg (by omega)] at this
        obtain ⟨a, rfl⟩ := toN (x := x5) z
        rw [show ((a : Int)).toNat = a by omega] at this ⊢
        rintro _ rfl
        refine goA (k := 241) (by rw [g4]; exact r28) (by decide) ⟨by omega, by rw [show (SH 241).2 = 3 by decide]; omega⟩ ?_
        rw [g6 (by omega) a (by omega), hn]
        exact this
      · rw [if_pos (by omega)] at this
        rw [g3, hn]; exact this
    · intro v38 e38
      unfold P_X12_stops_116
      refine lp_i (fun y : Int × Int × Int × Mm => ∃ a c : Nat, y.2.2.1 = (a : Int) - 1 ∧ a ≤ j ∧ y.1 = c ∧ c < t ^ a ∧ (∀ i, i < a → dgF t a c i = dgF t j n i) ∧ y.2.2.2.2 = M.2 ∧ (∀ o i, o ≠ 240 → y.2.2.2.1 o i = M1.1 o i) ∧ (∀ i, a ≤ i → i < j → y.2.2.2.1 240 i = ((1 + dgF t j n i : Nat) : Int)) ∧ ((y.2.1 = 1 ∧ ∀ i, a ≤ i → i + 1 < j → dgF t j n i ≤ dgF t j n (i + 1)) ∨ (y.2.1 = 0 ∧ ¬ oC t j n = true))) (fun y => (y.2.2.1 + 1).toNat) ⟨j, n, by omega, by omega, rfl, by omega, fun i _ => rfl, g4, fun _ _ _ => rfl, fun i z1 z2 => by omega, Or.inl ⟨rfl, fun i z1 z2 => by omega⟩⟩ ?_
      rintro ⟨y9, y10, y11, M2⟩ ⟨a, c, k1, k2, k3, k4, k5, k6, k7, k8, k9⟩
      dsimp only at k1 k3 k6 k7 k8 k9
      subst k3
      show F_X12_stops_116 221 s t j x5 x6 (t ^ j : Nat) n Q _ _ (c : Int) y10 y11 M2
      unfold F_X12_stops_116
      refine ⟨fun hz => ?_, fun hz => ?_⟩
      · have ha : a = 0 := by omega
        subst ha
        have hRC2 : RC M2 I R p q s b := h.mv (by rw [k6]) (fun o i z _ => by
          have := dREL_sc h.1.1.1.p z
          exact (k7 o i (by omega)).trans (g5 o i (by omega) (by omega)))
        refine r_row (n := n) hRC2 hw (fun i hi => by rw [k7 _ _ (by decide), g5 _ _ (by decide) (by decide)]; exact hv i hi) hk h1 ht (by omega) g3 ?_ (fun i hi => k8 i (by omega) hi) (fun e => ?_) (fun e M3 l1 l2 l3 => ?_)
        · rcases k9 with ⟨z1, z2⟩ | ⟨z1, z2⟩
          · rw [z1, bi_t (by unfold oC; rw [orB_i]; exact fun i hi => z2 i (by omega) hi)]
          · rw [z1, bi_f z2]
        · have hn1 : 1 ≤ n := by
            rcases Nat.eq_zero_or_pos n with z | z
            · subst z
              have := sF_pos hW (oC_0 (t := t) (k := j)) 1 (by omega)
              rw [show (1 : Nat) = 0 + 1 from rfl, e] at this
              exact absurd this (by show ¬ (0 : Int) ≤ -1; decide)
            · exact z
          refine ⟨⟨n + 1, rfl, by omega, by dsimp only; rw [e]; exact g3, k6, fun o i z1 z2 => (k7 o i z1).trans (g5 o i z1 z2), fun _ i hi => ?_⟩, by dsimp only; omega⟩
          dsimp only
          rw [e, k7 _ _ (by decide)]; exact g6 hn1 i hi
        · refine ⟨⟨n + 1, rfl, by omega, by dsimp only; rw [e], l1.trans k6, fun o i z1 z2 => (l2 o i z2).trans ((k7 o i z1).trans (g5 o i z1 z2)), fun _ i hi => ?_⟩, by dsimp only; omega⟩
          dsimp only
          rw [e]; exact l3 i hi
      · obtain ⟨m, rfl⟩ : ∃ m : Nat, a = m + 1 := ⟨a - 1, by omega⟩
        have hy : y11 = (m : Int) := by omega
        subst hy
        have c3 : c < 1728 := Nat.lt_of_lt_of_le k4 (pow3_le ht (by omega) h1)
        have hdm : dgF t (m + 1) c m = c % t := by show (if m = m then c % t else dgF t m (c / t) m) = _; rw [if_pos rfl]
        have hdm2 : dgF t j n m = c % t := by rw [← k5 m (by omega)]; exact hdm
        have tm : Int.tmod (c : Int) t = ((c % t : Nat) : Int) := by rw [Int.tmod_eq_emod_of_nonneg (by omega)]; rfl
        have td : Int.tdiv (c : Int) t = ((c / t : Nat) : Int) := by rw [Int.tdiv_eq_ediv_of_nonneg (by omega)]; rfl
        have cm : c % t < t := Nat.mod_lt _ h1
        have cd2 : c / t < t ^ m := by rw [Nat.div_lt_iff_lt_mul h1, ← Nat.pow_succ]; exact k4
        rintro _ rfl
        rw [tm, td]
        refine ⟨by omega, inI_s (by omega) (by omega), goA (k := 240) (by rw [k6]; exact r27) (by decide) ⟨by omega, by rw [show (SH 240).2 = 3 by decide]; omega⟩ ?_⟩
        rw [show ((m : Int)).toNat = m by omega]
        intro M22 e22
        refine ⟨by omega, ?_⟩
        intro v24 e24
        have m1 : M22.2 = M.2 := by rw [e22]; exact k6
        have m2 : ∀ o i, o ≠ 240 → M22.1 o i = M1.1 o i := fun o i z => by rw [e22]; exact (setI_o M2 240 m _ z).trans (k7 o i z)
        have m3 : ∀ i, m ≤ i → i < j → M22.1 240 i = ((1 + dgF t j n i : Nat) : Int) := by
          intro i z1 z2
          rw [e22]
          by_cases e : i = m
          · subst e; rw [setI_s, hdm2]; omega
          · rw [setI_n _ _ _ _ (by omega)]; exact k8 i (by omega) z2
        have nx : ∀ r v : Int, v = (m : Int) + -1 → ((r = 1 ∧ ∀ i, m ≤ i → i + 1 < j → dgF t j n i ≤ dgF t j n (i + 1)) ∨ (r = 0 ∧ ¬ oC t j n = true)) → (∃ a c : Nat, v = (a : Int) - 1 ∧ a ≤ j ∧ v24 = c ∧ c < t ^ a ∧ (∀ i, i < a → dgF t a c i = dgF t j n i) ∧ M22.2 = M.2 ∧ (∀ o i, o ≠ 240 → M22.1 o i = M1.1 o i) ∧ (∀ i, a ≤ i → i < j → M22.1 240 i = ((1 + dgF t j n i : Nat) : Int)) ∧ ((r = 1 ∧ ∀ i, a ≤ i → i + 1 < j → dgF t j n i ≤ dgF t j n (i + 1)) ∨ (r = 0 ∧ ¬ oC t j n = true))) ∧ (v + 1).toNat < ((m : Int) + 1).toNat := by
          intro r v ev hr
          refine ⟨⟨m, c / t, by omega, by omega, e24, cd2, fun i hi => ?_, m1, m2, m3, hr⟩, by omega⟩
          rw [← k5 i (by omega)]
          show _ = (if i = m then c % t else dgF t m (c / t) i)
          rw [if_neg (by omega)]
        refine ⟨fun hz0 => ⟨inI_s (by omega) (by omega), ?_⟩, fun hz1 => ⟨inI_s (by omega) (by omega), fun hl => ⟨inI_s (by omega) (by omega), ?_⟩, fun hnl => ?_⟩⟩
        · intro v ev
          refine nx 0 v ev ?_
          rcases k9 with z | z
          · omega
          · exact Or.inr ⟨rfl, z.2⟩
        · intro v ev
          refine nx 1 v ev (Or.inl ⟨rfl, fun i z1 z2 => ?_⟩)
          omega
        · have hmj : m + 1 < j := by omega
          have k9' : ∀ i, m + 1 ≤ i → i + 1 < j → dgF t j n i ≤ dgF t j n (i + 1) := by
            rcases k9 with z | z
            · exact z.2
            · exact absurd z.1 hz1
          rintro _ rfl
          refine goA (k := 240) (by rw [m1]; exact r27) (by decide) ⟨by omega, by rw [show (SH 240).2 = 3 by decide]; omega⟩ ?_
          rintro _ rfl
          refine ⟨inI_s (by omega) (by omega), goA (k := 240) (by rw [m1]; exact r27) (by decide) ⟨by omega, by rw [show (SH 240).2 = 3 by decide]; omega⟩ ?_⟩
          rw [show ((m : Int) + 1).toNat = m + 1 by omega, m3 m (by omega) (by omega), m3 (m + 1) (by omega) hmj]
          refine ⟨fun hlt => ⟨inI_s (by omega) (by omega), ?_⟩, fun hge => ⟨inI_s (by omega) (by omega), ?_⟩⟩
          · intro v ev
            refine nx 0 v ev (Or.inr ⟨rfl, fun z => ?_⟩)
            unfold oC at z
            rw [orB_i] at z
            have := z m hmj
            omega
          · intro v ev
            refine nx 1 v ev (Or.inl ⟨rfl, fun i z1 z2 => ?_⟩)
            by_cases e : i = m
            · subst e; omega
            · exact k9' i (by omega) z2
  · have hj : t ^ j ≤ 1728 := pow3_le ht (by omega) h1
    have hj2 : t ^ (j + 1) ≤ 1728 := pow3_le ht (by omega) h1
    have e : y7 * (t : Int) = ((t ^ (j + 1) : Nat) : Int) := by rw [f3, ← Int.natCast_mul, ← Nat.pow_succ]
    rw [e]
    refine ⟨inI_s (by omega) (by omega), ?_⟩
    intro v ev
    refine ⟨inI_s (by omega) (by omega), ?_⟩
    intro v2 ev2
    exact ⟨⟨j + 1, by dsimp only; omega, by omega, ev⟩, by dsimp only; omega⟩
theorem st_stops (h : Rel M) : P_X11_stops 0 x1 x2 x3 x4 x5 M (fun r M1 => P_X12_stops 221 x1 x2 x3 x4 x5 M1 (fun r2 M2 => r = r2 ∧ Rel M2)) := by
  obtain ⟨p, q, hF⟩ := id h
  obtain ⟨hS, hT, hC, hH, hA, hM, hR, hL, hE⟩ := id hF
  have hCn : 0 ≤ M.1 221 12 ∧ M.1 221 12 ≤ 12 := ⟨hC.2.1, hC.2.2.1⟩
  have hEn : 0 ≤ M.1 227 1 ∧ M.1 227 1 ≤ 6 := ⟨hE.2.1, hE.2.2.1⟩
  have bad : ¬ (((0 ≤ x1 ∧ x1 < M.1 221 12) ∧ 0 ≤ x2 ∧ x2 < M.1 227 1) ∧ (1 ≤ x3 ∧ x3 ≤ 12) ∧ (0 ≤ x4 ∧ x4 ≤ 3) ∧ -1 ≤ x5) → P_X12_stops 221 x1 x2 x3 x4 x5 M (fun r2 M2 => -1 = r2 ∧ Rel M2) := by
    intro hb
    unfold P_X12_stops
    rw [r_isBody hCn]
    refine ⟨fun _ => ⟨rfl, h⟩, fun g1 => ?_⟩
    rw [r_isSeat hS.2.2.2.2.2.1 hEn]
    refine ⟨fun _ => ⟨rfl, h⟩, fun g2 => ?_⟩
    rw [p_in]
    refine ⟨fun _ => ⟨rfl, h⟩, fun g3 => ?_⟩
    rw [p_in]
    refine ⟨fun _ => ⟨rfl, h⟩, fun g4 => ⟨fun g5 => ?_, fun _ => ⟨rfl, h⟩⟩⟩
    rw [bi0] at g1 g2 g3 g4
    exact absurd ⟨⟨by omega, by omega⟩, by omega, by omega, g5⟩ hb
  unfold P_X11_stops
  rw [p_isWithin]
  refine ⟨fun z => bad (fun y => bi0.mp z y.2.1), fun g3 => ?_⟩
  rw [p_isWithin]
  refine ⟨fun z => bad (fun y => bi0.mp z y.2.2.1), fun g4 => ⟨fun z => bad (fun y => by omega), fun g5 => ?_⟩⟩
  refine c_settles hF (fun b s e1 e2 hb hs M' k1 k2 k3 => ?_) (fun hz => ⟨fun z => absurd rfl z, fun _ => bad (fun y => hz y.1)⟩)
  refine ⟨fun _ => ?_, fun z => absurd z (by decide)⟩
  obtain ⟨a1, a2, a3, a4, a5, a6⟩ := after hF hs hb k1 k2
  have hwo := w0_ok hE hs
  have hf := fst_in (w := w0 M.1 s) a1
  have hub := hu_b a1 hwo hf
  subst e1 e2
  have g3' := g3
  have g4' := g4
  rw [bi0] at g3' g4'
  obtain ⟨t, rfl⟩ := toN (x := x3) (by omega)
  obtain ⟨k, rfl⟩ := toN (x := x4) (by omega)
  have ref : ∀ (M1 : Mm) (Q : Int → Mm → Prop), M1.2 = M'.2 → (∀ o j, o ≠ 216 → o ≠ 217 → M1.1 o j = M'.1 o j) → (x5 < k → P_X12_layPresses 221 b s M1 (fun (M45 : Mm) => P_X12_stops_74 221 s t k x5 (-1) 1 0 M45 Q)) → (¬ x5 < k → Q (-4) M1) → P_X12_stops 221 b s t k x5 M1 Q := by
    intro M1 Q m1 m2 q1 q2
    have n12 : M1.1 221 12 = M.1 221 12 := (m2 _ _ (by decide) (by decide)).trans a4
    have n27 : M1.1 227 1 = M.1 227 1 := (m2 _ _ (by decide) (by decide)).trans a5
    unfold P_X12_stops
    rw [r_isBody (by rw [n12]; exact hCn), n12]
    refine ⟨fun z => by rw [bi0] at z; omega, fun _ => ?_⟩
    rw [r_isSeat (by rw [m1]; exact a3) (by rw [n27]; exact hEn), n27]
    refine ⟨fun z => by rw [bi0] at z; omega, fun _ => ?_⟩
    rw [p_in]
    refine ⟨fun z => absurd z g3, fun _ => ?_⟩
    rw [p_in]
    exact ⟨fun z => absurd z g4, fun _ => ⟨fun _ => ⟨q1, q2⟩, fun z => by omega⟩⟩
  refine ⟨fun hlt => ?_, fun hge => ?_⟩
  · rintro _ rfl
    intro r7 e7
    have hr7 : r7 = some 209 := by rw [e7]; exact k3.1.2.2.1
    subst hr7
    refine goO k3.1.2.2.2.1 (by decide) ?_
    unfold P_X2_placeStops
    intro v28 e28
    have e28' : v28 = (k : Int) := by omega
    subst e28'
    refine c_hurt a1 hwo k3 ((k2 _ _ (by decide)).trans hM.2.1.1) ?_
    refine c_place (ea := M.1 221 19) k3.1.2.2.2.2.2.2.2.2.2.2.2.2.2.1 k3.1.2.2.2.2.2.2.2.2.2.2.2.2.2.2.1 (by omega) (by omega) (by omega) ((k2 _ _ (by decide)).trans hM.2.2.1.1) hM.2.2.1.2 hub (fun M1 m1 m2 m3 => ?_)
    have a1' : RC M1 M.1 M.2.2.1 p q s b := a1.mv (by rw [m1]) (fun o j z _ => m2 o j (by have := dREL_sc hS.1.p z; omega) (by have := dREL_sc hS.1.p z; omega))
    have keep : ∀ M2 : Mm, M2.2.2 = M1.2.2 → (∀ o j, o < 238 → M2.1 o j = M1.1 o j) → Rel M2 := fun M2 l1 l2 => Rel.keep hF (by rw [l1, m1, k1]) (fun o j z1 z2 z3 z4 _ _ => by rw [l2 o j (by omega), m2 o j z3 z4]; exact k2 o j z1)
    have fin : ∀ Q : Int → Mm → Prop, (∀ M2 : Mm, Rel M2 → Q (if x5 = -1 then (sF (wC t k (M.1 221 19) (huM M.1 (w0 M.1 s) s b)) (oC t k) (t ^ k)).1 else ((1 + dgF t k (sF (wC t k (M.1 221 19) (huM M.1 (w0 M.1 s) s b)) (oC t k) (t ^ k)).2 x5.toNat : Nat) : Int)) M2) → P_X12_stops 221 b s t k x5 M1 Q := by
      intro Q hQ
      refine ref M1 Q m1 m2 (fun _ => ?_) (fun z => absurd hlt z)
      refine r_presses a1' hwo (fun i hi => (m2 _ _ (by decide) (by decide)).trans (a2 i hi)) (fun M2 l1 l2 l3 l4 => ?_)
      have a1'' : RC M2 M.1 M.2.2.1 p q s b := a1'.mv (by rw [l1]) (fun o j z _ => l3 o j (by have := dREL_sc hS.1.p z; omega))
      refine r_stops a1'' hwo l4 (by omega) (by omega) (by omega) (by omega) (fun M3 n1 n2 => hQ M3 (keep M3 (by rw [n1, l1]) (fun o j z => (n2 o j (by omega) (by omega)).trans (l3 o j (by omega)))))
    refine ⟨fun hne => ?_, fun heq => ?_⟩
    · obtain ⟨i, rfl⟩ := toN (x := x5) (by omega)
      rintro _ rfl
      refine goO (k := 215) (by rw [m1]; exact k3.1.2.2.2.1) (by decide) ?_
      unfold P_X2_stopAt
      rw [p_isWithin]
      refine ⟨fun z => by rw [bi0] at z; omega, fun _ => ?_⟩
      rintro _ rfl
      refine goA (k := 217) (by rw [m1]; exact k3.1.2.2.2.2.2.2.2.2.2.2.2.2.2.2.1) (by decide) ⟨by omega, by rw [show (SH 217).2 = 3 by decide]; omega⟩ ?_
      rw [show ((i : Int)).toNat = i by omega, m3 i (by omega)]
      refine fin _ (fun M2 hr => ⟨?_, hr⟩)
      rw [if_neg (by omega), show ((i : Int)).toNat = i by omega]
    · refine fin _ (fun M2 hr => ⟨?_, hr⟩)
      rw [if_pos heq]
  · refine ref M' _ rfl (fun _ _ _ _ => rfl) (fun z => absurd z hge) (fun _ => ⟨rfl, ?_⟩)
    exact Rel.keep hF (by rw [k1]) (fun o j z1 _ _ _ _ _ => k2 o j z1)
end STP
