/-! share, fewest -/
section SHR2
variable {M : Mm} {I : IFn} {R : RFn} {p q s b : Nat} {x1 x2 x3 x4 : Int}
theorem FA.ns (h : FA M I R p q) : ∃ n : Nat, I 227 1 = n ∧ n ≤ 6 ∧ M.1 p 3 = n ∧ M.1 227 1 = n := by
  obtain ⟨n, hn⟩ := toN (x := I 227 1) h.1.2.2.2.2.2.2.2.2.2.1
  have := h.1.2.2.2.2.2.2.2.2.2.2.1
  exact ⟨n, hn, by omega, by rw [h.2.2 _ _ (dR_P (by omega) (by omega)), h.1.2.2.2.2.2.2.2.2.1]; exact hn, by rw [h.2.2 _ _ (dR_L dP227)]; exact hn⟩
theorem p2_le {n k : Nat} (h : n ≤ k) : (2 : Nat) ^ n ≤ 2 ^ k := Nat.pow_le_pow_right (by decide) h
theorem c_note {ns N : Nat} {Q : Mm → Prop} (h : FA M I R p q) (hN : I 221 12 = N) (hns : I 227 1 = ns) (hq : ∀ M' : Mm, M'.2 = M.2 → (∀ o j, o ≠ 172 → M'.1 o j = M.1 o j) → (∀ s, s < ns → M'.1 172 s = (bitsF (fun b => fsB I b s 10) N : Nat)) → Q M') : P_X1_noteWhoFits 170 (some p) M Q := by
  obtain ⟨N', e0, e1, e2, e3⟩ := h.nb
  obtain ⟨ns', d0, d1, d2, d3⟩ := h.ns
  have : N' = N := by omega
  subst this
  have : ns' = ns := by omega
  subst this
  have hp := h.1.1.1.p
  have hpl : p ≤ 87 := by rcases hp with rfl | rfl <;> omega
  unfold P_X1_noteWhoFits P_X1_noteWhoFits_2
  refine lp_i (fun y : Int × Mm => ∃ i : Nat, y.1 = i ∧ i ≤ ns' ∧ y.2.2 = M.2 ∧ (∀ o j, o ≠ 172 → y.2.1 o j = M.1 o j) ∧ ∀ s, s < i → y.2.1 172 s = (bitsF (fun b => fsB I b s 10) N' : Nat)) (fun y => (6 - y.1).toNat) ⟨0, rfl, by omega, rfl, fun _ _ _ => rfl, fun s hs => by omega⟩ ?_
  rintro ⟨y2, M1⟩ ⟨i, f1, f2, f3, f4, f5⟩
  dsimp only at f1 f3 f4 f5
  subst f1
  show F_X1_noteWhoFits_2 170 (some p) Q _ (i : Int) M1
  have h1 : FA M1 I R p q := h.mv (by rw [f3]) (fun o j z _ => f4 o j z)
  have hB : StrB M1.2.2.1 := by rw [h1.2.1]; exact h.1.1.2.2.2.2.1
  have hP : StrP M1.2.2.1 p := by rw [h1.2.1]; exact h.1.1.P
  unfold F_X1_noteWhoFits_2
  refine goO rfl ⟨by omega, by rw [(sh_pl hp).1]⟩ ?_
  rw [f4 _ _ (by omega), d2]
  refine ⟨fun hle => ?_, fun hlt => ?_⟩
  · have : i = ns' := by omega
    subst this
    exact hq M1 f3 f4 f5
  · unfold P_X1_noteWhoFits_15
    refine lp_i (fun y : Int × Int => ∃ k : Nat, y.2 = k ∧ k ≤ N' ∧ y.1 = (bitsF (fun b => fsB I b i 10) k : Nat)) (fun y => (12 - y.2).toNat) ⟨0, rfl, by omega, rfl⟩ ?_
    rintro ⟨y3, y4⟩ ⟨k, g1, g2, g3⟩
    dsimp only at g1 g3
    subst g1
    show F_X1_noteWhoFits_15 170 (some p) i M1 Q _ _ y3 (k : Int)
    have hlt2 := bitsF_lt (f := fun b => fsB I b i 10) k
    have hp2 := p2_le (n := k) (k := 12) (by omega)
    unfold F_X1_noteWhoFits_15
    rw [f4 _ _ (by decide), e2]
    refine ⟨fun hle => ?_, fun hlt3 => ?_⟩
    · have : k = N' := by omega
      subst this
      rintro _ rfl
      refine goA hB.2.1 (by decide) ⟨by omega, by rw [show (SH 172).2 = 6 by decide]; omega⟩ ?_
      rw [show ((i : Int)).toNat = i by omega]
      intro M4 e4
      refine ⟨inI_s (by omega) (by omega), ?_⟩
      intro v6 e6
      subst e4
      refine ⟨⟨i + 1, by dsimp only; omega, by omega, f3, fun o j z => (setI_o M1 172 i y3 z).trans (f4 o j z), ?_⟩, by dsimp only; omega⟩
      intro s hs
      show (setI M1 172 i y3).1 172 s = _
      by_cases e : s = i
      · subst e; rw [setI_s]; exact g3
      · rw [setI_n _ _ _ _ (by omega)]; exact f5 s (by omega)
    · rintro _ rfl
      refine goA hB.1 (by decide) ⟨by omega, by rw [show (SH 171).2 = 12 by decide]; omega⟩ ?_
      rw [show ((k : Int)).toNat = k by omega, (hB.2.2 k (by omega)).1]
      rintro _ rfl
      refine goO rfl ⟨by omega, by rw [(sh_pl hp).1]⟩ ?_
      rintro _ rfl
      refine goA hP.2.1 ⟨by omega, by rw [(sh_pl hp).2.2]⟩ ⟨by omega, by rw [(sh_pl hp).2.2]; show (i : Int) < 6; omega⟩ ?_
      rw [show ((i : Int)).toNat = i by omega, (hP.2.2.2 i (by omega)).1]
      rintro _ rfl
      refine c_some h1 (by omega) (by omega) ⟨fun g => ⟨inI_s (by omega) (by omega), ?_⟩, fun g => ?_⟩
      · rw [bi0] at g
        intro v ev
        refine ⟨⟨k + 1, by dsimp only; omega, by omega, ?_⟩, by dsimp only; omega⟩
        dsimp only
        show y3 = ((if fsB I k i 10 then bitsF (fun b => fsB I b i 10) k ||| 2 ^ k else bitsF (fun b => fsB I b i 10) k : Nat) : Int)
        rw [if_neg g]; exact g3
      · rw [bi0] at g
        have g := Classical.not_not.mp g
        intro v ev
        refine ⟨inI_s (by omega) (by omega), ?_⟩
        intro v2 ev2
        refine ⟨⟨k + 1, by dsimp only; omega, by omega, ?_⟩, by dsimp only; omega⟩
        dsimp only
        show v = ((if fsB I k i 10 then bitsF (fun b => fsB I b i 10) k ||| 2 ^ k else bitsF (fun b => fsB I b i 10) k : Nat) : Int)
        have hk2 : (2 : Nat) ^ k < 2147483648 := Nat.lt_of_le_of_lt hp2 (by decide)
        rw [if_pos g, ev, g3, iShl_1 k (by omega), iOr_n (by omega) hk2]
theorem c_peopleOfSet {ns N t : Nat} {Q : Int → Prop} (h : FA M I R p q) (hN : I 221 12 = N) (hns : I 227 1 = ns) (hv : ∀ s, s < ns → M.1 172 s = (bitsF (fun b => fsB I b s 10) N : Nat)) (ht : t < 2 ^ ns) (hq : Q (shF I ns N t)) : P_X1_peopleOfSet 170 t M Q := by
  obtain ⟨N', e0, e1, e2, e3⟩ := h.nb
  obtain ⟨ns', d0, d1, d2, d3⟩ := h.ns
  have : N' = N := by omega
  subst this
  have : ns' = ns := by omega
  subst this
  have hB : StrB M.2.2.1 := by rw [h.2.1]; exact h.1.1.2.2.2.2.1
  have ht64 : t < 64 := Nat.lt_of_lt_of_le ht (p2_le (k := 6) d1)
  have hp2 := p2_le (n := N') (k := 12) (by omega)
  have gl : ∀ s, (if t.testBit s then bitsF (fun b => fsB I b s 10) N' else 0) < 2 ^ 12 := fun s => by
    have := bitsF_lt (f := fun b => fsB I b s 10) N'
    split <;> omega
  unfold P_X1_peopleOfSet P_X1_peopleOfSet_4
  refine lp_i (fun y : Int × Int => ∃ k : Nat, y.2 = k ∧ k ≤ 6 ∧ y.1 = (orF (fun s => if t.testBit s then bitsF (fun b => fsB I b s 10) N' else 0) k : Nat)) (fun y => (6 - y.2).toNat) ⟨0, rfl, by omega, rfl⟩ ?_
  rintro ⟨y2, y3⟩ ⟨k, f1, f2, f3⟩
  dsimp only at f1 f3
  subst f1
  show F_X1_peopleOfSet_4 170 t M Q _ y2 (k : Int)
  have hol := orF_lt (g := fun s => if t.testBit s then bitsF (fun b => fsB I b s 10) N' else 0) (k := 12) k (fun s _ => gl s)
  have hol : orF (fun s => if t.testBit s then bitsF (fun b => fsB I b s 10) N' else 0) k < 4096 := hol
  unfold F_X1_peopleOfSet_4
  refine ⟨fun hle => ?_, fun hlt => ?_⟩
  · have : k = 6 := by omega
    subst this
    rw [f3]
    refine c_peopleOf h hN hol ?_
    rw [show ppF I (fun b => (orF (fun s => if t.testBit s then bitsF (fun b => fsB I b s 10) N' else 0) 6).testBit b) N' = shF I ns' N' t from pp_c (fun b hb => ?_)]
    · exact hq
    · rw [orF_t]
      rw [Bool.eq_iff_iff, anF_i, anF_i]
      constructor
      · rintro ⟨s, s1, s2⟩
        by_cases hts : t.testBit s = true
        · rw [if_pos hts, bitsF_t] at s2
          simp only [Bool.and_eq_true] at s2
          refine ⟨s, ?_, by rw [hts]; exact s2.2⟩
          apply Classical.byContradiction
          intro hge
          have := Nat.testBit_lt_two_pow (Nat.lt_of_lt_of_le ht (p2_le (n := ns') (k := s) (by omega)))
          rw [this] at hts; cases hts
        · rw [if_neg hts] at s2; simp at s2
      · rintro ⟨s, s1, s2⟩
        simp only [Bool.and_eq_true] at s2
        exact ⟨s, by omega, by rw [if_pos s2.1, bitsF_t]; simp [hb, s2.2]⟩
  · have hbt := bit_n (n := t) (k := k) (by omega) (by omega)
    refine ⟨fun g => ⟨inI_s (by omega) (by omega), ?_⟩, fun g => ?_⟩
    · intro v ev
      refine ⟨⟨k + 1, by dsimp only; omega, by omega, ?_⟩, by dsimp only; omega⟩
      dsimp only
      show y2 = ((orF (fun s => if t.testBit s then bitsF (fun b => fsB I b s 10) N' else 0) k ||| (if t.testBit k then bitsF (fun b => fsB I b k 10) N' else 0) : Nat) : Int)
      rw [if_neg (fun z => g (hbt.mpr z)), Nat.or_zero]; exact f3
    · have hk := hbt.mp g
      have hkn : k < ns' := by
        apply Classical.byContradiction
        intro hge
        have := Nat.testBit_lt_two_pow (Nat.lt_of_lt_of_le ht (p2_le (n := ns') (k := k) (by omega)))
        rw [this] at hk; cases hk
      have := gl k
      rw [if_pos hk] at this
      rintro _ rfl
      refine goA hB.2.1 (by decide) ⟨by omega, by rw [show (SH 172).2 = 6 by decide]; omega⟩ ?_
      rw [show ((k : Int)).toNat = k by omega, hv k hkn, f3, iOr_n (by omega) (by omega)]
      intro v ev
      refine ⟨inI_s (by omega) (by omega), ?_⟩
      intro v2 ev2
      refine ⟨⟨k + 1, by dsimp only; omega, by omega, ?_⟩, by dsimp only; omega⟩
      dsimp only
      show v = ((orF (fun s => if t.testBit s then bitsF (fun b => fsB I b s 10) N' else 0) k ||| (if t.testBit k then bitsF (fun b => fsB I b k 10) N' else 0) : Nat) : Int)
      rw [if_pos hk]; exact ev
theorem r_layFitting {ns N : Nat} {Q : Mm → Prop} (h : FA M I R p q) (hN : I 221 12 = N) (hns : I 227 1 = ns) (hq : ∀ M' : Mm, M'.2 = M.2 → (∀ o j, o ≠ 239 → M'.1 o j = M.1 o j) → (∀ b, b < N → M'.1 239 b = (bitsF (fun s => fsB I b s 10) ns : Nat)) → Q M') : P_X12_layFitting 221 M Q := by
  obtain ⟨N', e0, e1, e2, e3⟩ := h.nb
  obtain ⟨ns', d0, d1, d2, d3⟩ := h.ns
  have : N' = N := by omega
  subst this
  have : ns' = ns := by omega
  subst this
  have hSM : StrM M.2.2.1 := by rw [h.2.1]; exact h.1.1.2.2.2.2.2.1
  have r26 := hSM.2.2.2.2.2.2.2.2.2.2.2.2.2.2.2.2.2.1
  have z39 : (SH 239).2 = 12 := by decide
  unfold P_X12_layFitting P_X12_layFitting_2
  refine lp_i (fun y : Int × Mm => ∃ i : Nat, y.1 = i ∧ i ≤ N' ∧ y.2.2 = M.2 ∧ (∀ o j, o ≠ 239 → y.2.1 o j = M.1 o j) ∧ ∀ b, b < i → y.2.1 239 b = (bitsF (fun s => fsB I b s 10) ns' : Nat)) (fun y => (12 - y.1).toNat) ⟨0, rfl, by omega, rfl, fun _ _ _ => rfl, fun s hs => by omega⟩ ?_
  rintro ⟨y1, M1⟩ ⟨i, f1, f2, f3, f4, f5⟩
  dsimp only at f1 f3 f4 f5
  subst f1
  show F_X12_layFitting_2 221 Q _ (i : Int) M1
  unfold F_X12_layFitting_2
  rw [f4 _ _ (by decide), e3]
  refine ⟨fun hle => ?_, fun hlt => ?_⟩
  · have : i = N' := by omega
    subst this
    exact hq M1 f3 f4 f5
  · rintro _ rfl
    refine goA (k := 239) (by rw [f3]; exact r26) (by decide) ⟨by omega, by rw [z39]; omega⟩ ?_
    rw [show ((i : Int)).toNat = i by omega]
    intro M22 e22
    unfold P_X12_layFitting_19
    refine lp_i (fun y : Int × Mm => ∃ k : Nat, y.1 = k ∧ k ≤ ns' ∧ y.2.2 = M.2 ∧ (∀ o j, o ≠ 239 → y.2.1 o j = M.1 o j) ∧ (∀ b, b < i → y.2.1 239 b = (bitsF (fun s => fsB I b s 10) ns' : Nat)) ∧ y.2.1 239 i = (bitsF (fun s => fsB I i s 10) k : Nat)) (fun y => (6 - y.1).toNat) ⟨0, rfl, by omega, by rw [e22]; exact f3, fun o j z => by rw [e22]; exact (setI_o M1 239 i 0 z).trans (f4 o j z), fun b hb => by dsimp only; rw [e22, setI_n _ _ _ _ (by omega)]; exact f5 b hb, by dsimp only; rw [e22, setI_s]; rfl⟩ ?_
    rintro ⟨y2, M3⟩ ⟨k, g1, g2, g3, g4, g5, g6⟩
    dsimp only at g1 g3 g4 g5 g6
    subst g1
    show F_X12_layFitting_19 221 i Q _ _ (k : Int) M3
    have h1 : FA M3 I R p q := h.mv (by rw [g3]) (fun o j _ z => g4 o j z)
    have hlt2 := bitsF_lt (f := fun s => fsB I i s 10) k
    have hp2 := p2_le (n := k) (k := 6) (by omega)
    unfold F_X12_layFitting_19
    rintro _ rfl
    refine goA (k := 227) (by rw [g3]; exact hSM.2.2.2.2.2.1) (by decide) (by decide) ?_
    rw [show ((1 : Int)).toNat = 1 from rfl, g4 _ _ (by decide), d3]
    refine ⟨fun hle => ⟨inI_s (by omega) (by omega), ?_⟩, fun hlt3 => ?_⟩
    · have : k = ns' := by omega
      subst this
      intro v ev
      refine ⟨⟨i + 1, by dsimp only; omega, by omega, g3, g4, fun b hb => ?_⟩, by dsimp only; omega⟩
      by_cases e : b = i
      · subst e; exact g6
      · exact g5 b (by omega)
    · have rk : M3.2.2.1 221 26 = some 239 := by rw [g3]; exact r26
      rintro _ rfl
      refine goA rk (by decide) ⟨by omega, by rw [z39]; omega⟩ ?_
      rw [show ((i : Int)).toNat = i by omega]
      have nx : ∀ (x : Int) (v : Int), x = (bitsF (fun s => fsB I i s 10) (k + 1) : Nat) → v = (k : Int) + 1 → (∃ k : Nat, v = k ∧ k ≤ ns' ∧ (setI M3 239 i x).2 = M.2 ∧ (∀ o j, o ≠ 239 → (setI M3 239 i x).1 o j = M.1 o j) ∧ (∀ b, b < i → (setI M3 239 i x).1 239 b = (bitsF (fun s => fsB I b s 10) ns' : Nat)) ∧ (setI M3 239 i x).1 239 i = (bitsF (fun s => fsB I i s 10) k : Nat)) ∧ (6 - v).toNat < (6 - (k : Int)).toNat := by
        intro x v ex ev
        refine ⟨⟨k + 1, by omega, by omega, g3, fun o j z => (setI_o M3 239 i x z).trans (g4 o j z), fun b hb => ?_, ?_⟩, by omega⟩
        · rw [setI_n _ _ _ _ (by omega)]; exact g5 b hb
        · rw [setI_s]; exact ex
      refine r_some h1 (by omega) (by omega) ⟨fun g => ?_, fun g => ?_⟩
      · rw [bi0] at g
        refine goA rk (by decide) ⟨by omega, by rw [z39]; omega⟩ ?_
        intro M11 e11
        refine ⟨inI_s (by omega) (by omega), ?_⟩
        intro v ev
        subst e11
        refine nx _ v ?_ ev
        show _ = ((if fsB I i k 10 then bitsF (fun s => fsB I i s 10) k ||| 2 ^ k else bitsF (fun s => fsB I i s 10) k : Nat) : Int)
        have := iOr_n (a := bitsF (fun s => fsB I i s 10) k) (b := 0) (by omega) (by decide)
        rw [Nat.or_zero] at this
        rw [if_neg g, g6]; exact this
      · rw [bi0] at g
        have g := Classical.not_not.mp g
        refine goA rk (by decide) ⟨by omega, by rw [z39]; omega⟩ ?_
        intro M11 e11
        refine ⟨inI_s (by omega) (by omega), ?_⟩
        intro v ev
        subst e11
        refine nx _ v ?_ ev
        show _ = ((if fsB I i k 10 then bitsF (fun s => fsB I i s 10) k ||| 2 ^ k else bitsF (fun s => fsB I i s 10) k : Nat) : Int)
        rw [if_pos g, g6, iShl_1 k (by omega), iOr_n (by omega) (Nat.lt_of_le_of_lt hp2 (by decide))]
theorem r_shareOf {ns N t : Nat} {Q : Int → Prop} (h : FA M I R p q) (hN : I 221 12 = N) (hns : I 227 1 = ns) (hv : ∀ b, b < N → M.1 239 b = (bitsF (fun s => fsB I b s 10) ns : Nat)) (ht : t < 64) (hq : Q (shF I ns N t)) : P_X12_shareOf 221 t M Q := by
  obtain ⟨N', e0, e1, e2, e3⟩ := h.nb
  obtain ⟨ns', d0, d1, d2, d3⟩ := h.ns
  have : N' = N := by omega
  subst this
  have : ns' = ns := by omega
  subst this
  have hSM : StrM M.2.2.1 := by rw [h.2.1]; exact h.1.1.2.2.2.2.2.1
  have r26 := hSM.2.2.2.2.2.2.2.2.2.2.2.2.2.2.2.2.2.1
  have hp2 := p2_le (n := ns') (k := 6) (by omega)
  unfold P_X12_shareOf P_X12_shareOf_4
  refine lp_i (fun y : Int × Int => ∃ i : Nat, y.2 = i ∧ i ≤ N' ∧ y.1 = shF I ns' i t) (fun y => (12 - y.2).toNat) ⟨0, rfl, by omega, rfl⟩ ?_
  rintro ⟨y2, y3⟩ ⟨i, f1, f2, f3⟩
  dsimp only at f1 f3
  subst f1
  show F_X12_shareOf_4 221 t M Q _ y2 (i : Int)
  have hpb := pp_b h (f := fun b => anF (fun s => t.testBit s && fsB I b s 10) ns') (n := i) (by omega)
  have hpb : 0 ≤ shF I ns' i t ∧ shF I ns' i t ≤ 1000 * i := hpb
  have hsu : shF I ns' (i + 1) t = shF I ns' i t + (if anF (fun s => t.testBit s && fsB I i s 10) ns' then I 233 (6 * i + 5) else 0) := rfl
  unfold F_X12_shareOf_4
  rw [e3]
  refine ⟨fun hle => ?_, fun hlt => ?_⟩
  · have : i = N' := by omega
    subst this
    rw [f3]; exact hq
  · have hp5 := h.hp (b := i) (by omega)
    have hbl := bitsF_lt (f := fun s => fsB I i s 10) ns'
    have han := and_any (g := fun s => fsB I i s 10) (n := ns') (t := t)
    rintro _ rfl
    refine goA r26 (by decide) ⟨by omega, by rw [show (SH 239).2 = 12 by decide]; omega⟩ ?_
    rw [show ((i : Int)).toNat = i by omega, hv i (by omega), iAnd_n (by omega) (by omega)]
    refine ⟨fun g => ⟨inI_s (by omega) (by omega), ?_⟩, fun g => ?_⟩
    · intro v4 e4
      refine ⟨inI_s (by omega) (by omega), ?_⟩
      intro v5 e5
      refine ⟨⟨i + 1, by dsimp only; omega, by omega, ?_⟩, by dsimp only; omega⟩
      dsimp only
      rw [hsu, if_neg (fun z => han.mpr z (by omega)), e4, f3]
    · rintro _ rfl
      refine ⟨inI_s (by omega) (by omega), inI_s (by omega) (by omega), goA hSM.2.2.2.2.2.2.2.2.2.2.2.1 (by decide) ⟨by omega, by rw [show (SH 233).2 = 72 by decide]; omega⟩ ?_⟩
      rw [show (6 * (i : Int) + 5).toNat = 6 * i + 5 by omega, h.2.2 _ _ dR_233]
      refine ⟨inI_s (by omega) (by omega), ?_⟩
      intro v4 e4
      refine ⟨inI_s (by omega) (by omega), ?_⟩
      intro v5 e5
      refine ⟨⟨i + 1, by dsimp only; omega, by omega, ?_⟩, by dsimp only; omega⟩
      dsimp only
      rw [hsu, if_pos (han.mp (fun z => g (by omega))), e4, f3]
theorem sh_b {ns N t : Nat} (h : FA M I R p q) (hN : I 221 12 = N) : 0 ≤ shF I ns N t ∧ shF I ns N t ≤ 12000 := by
  obtain ⟨N', e0, e1, e2, e3⟩ := h.nb
  have := pp_b h (f := fun b => anF (fun s => t.testBit s && fsB I b s 10) ns) (n := N) (by omega)
  unfold shF
  omega
theorem ok_share {ns N : Nat} (h : FA M I R p q) (hN : I 221 12 = N) : 0 ≤ ppF I allB N ∧ ppF I allB N ≤ 12000 := by
  obtain ⟨N', e0, e1, e2, e3⟩ := h.nb
  have := pp_b h (f := allB) (n := N) (by omega)
  omega
theorem st_share (h : Rel M) : P_X11_share 0 x1 x2 M (fun r M1 => P_X12_share 221 x1 x2 M1 (fun r2 M2 => r = r2 ∧ Rel M2)) := by
  obtain ⟨p, q, hF⟩ := id h
  obtain ⟨hS, hT, hC, hH, hA, hM, hR, hL, hE⟩ := id hF
  have hFA := FA.self hF
  obtain ⟨N, hN, hN12, hNc, hNr⟩ := hFA.nb
  obtain ⟨ns, hn, hn6, hnc, hnr⟩ := hFA.ns
  have hpl : p ≤ 87 := by rcases hS.1.p with rfl | rfl <;> omega
  have hp2 := p2_le (n := ns) (k := 6) (by omega)
  have hp1 : 1 ≤ (2 : Nat) ^ ns := Nat.one_le_two_pow
  have ref0 : ∀ (M1 : Mm) (Q : Int → Mm → Prop), M1.2 = M.2 → (∀ o j, o ≠ 172 → M1.1 o j = M.1 o j) → ((0 ≤ x1 ∧ x1 ≤ ((2 ^ ns : Nat) : Int) - 1) → (0 ≤ x2 ∧ x2 ≤ 1) → P_X12_layFitting 221 M1 (fun (M6 : Mm) => ((¬ x2 = 0 → P_X12_people 221 M6 (fun (v8 : Int) => Q v8 M6)) ∧ (x2 = 0 → P_X12_shareOf 221 x1 M6 (fun (v9 : Int) => Q v9 M6))))) → (¬ ((0 ≤ x1 ∧ x1 ≤ ((2 ^ ns : Nat) : Int) - 1) ∧ (0 ≤ x2 ∧ x2 ≤ 1)) → Q (-1) M1) → P_X12_share 221 x1 x2 M1 Q := by
    intro M1 Q k1 k2 q1 q2
    unfold P_X12_share
    rintro _ rfl
    refine goA (k := 227) (by rw [k1]; exact hS.2.2.2.2.2.1.2.2.2.2.2.1) (by decide) (by decide) ?_
    rw [show ((1 : Int)).toNat = 1 from rfl, k2 _ _ (by decide), hnr, iShl_1 ns (by omega)]
    refine ⟨inI_s (by omega) (by omega), ?_⟩
    rw [p_in]
    refine ⟨fun z => q2 (fun y => bi0.mp z y.1), fun g1 => ?_⟩
    rw [p_in]
    rw [bi0] at g1
    refine ⟨fun g2 => ?_, fun z => q2 (fun y => bi0.mp z y.2)⟩
    rw [bi0] at g2
    exact q1 (Classical.not_not.mp g1) (Classical.not_not.mp g2)
  have bad : ¬ ((0 ≤ x1 ∧ x1 ≤ ((2 ^ ns : Nat) : Int) - 1) ∧ (0 ≤ x2 ∧ x2 ≤ 1)) → P_X12_share 221 x1 x2 M (fun r2 M2 => -1 = r2 ∧ Rel M2) := fun hb => ref0 M _ rfl (fun _ _ _ => rfl) (fun y z => absurd ⟨y, z⟩ hb) (fun _ => ⟨rfl, h⟩)
  unfold P_X11_share
  rintro _ rfl
  refine goO hS.2.1 ⟨by omega, by rw [(sh_pl hS.1.p).1]⟩ ?_
  rw [hnc, iShl_1 ns (by omega)]
  refine ⟨inI_s (by omega) (by omega), ?_⟩
  rw [p_isWithin]
  refine ⟨fun z => bad (fun y => bi0.mp z y.1), fun g1 => ?_⟩
  rw [p_isWithin]
  refine ⟨fun g2 => ?_, fun z => bad (fun y => bi0.mp z y.2)⟩
  rw [bi0] at g1 g2
  have g1 := Classical.not_not.mp g1
  have g2 := Classical.not_not.mp g2
  obtain ⟨t, rfl⟩ := toN (x := x1) g1.1
  have keep : ∀ M2 : Mm, M2.2 = M.2 → (∀ o j, o ≠ 172 → o ≠ 239 → M2.1 o j = M.1 o j) → Rel M2 := fun M2 m1 m2 => Rel.keep hF (by rw [m1]) (fun o j _ z2 _ _ z5 _ => m2 o j z5 (by omega))
  refine ⟨fun hne => ?_, fun heq => ?_⟩
  · rintro _ rfl
    rw [hS.2.1]
    rintro _ rfl
    refine goO hS.2.2.2.1.2.1 (by decide) ?_
    refine c_note hFA hN hn (fun M1 m1 m2 m3 => ?_)
    have hFA1 : FA M1 M.1 M.2.2.1 p q := hFA.mv (by rw [m1]) (fun o j z _ => m2 o j z)
    rintro _ rfl
    refine goO (k := 170) (by rw [m1]; exact hS.2.2.2.1.2.1) (by decide) ?_
    refine c_peopleOfSet hFA1 hN hn m3 (by omega) ?_
    refine ref0 M1 _ m1 m2 (fun _ _ => ?_) (fun y => absurd ⟨g1, g2⟩ y)
    refine r_layFitting hFA1 hN hn (fun M2 k1 k2 k3 => ⟨fun z => by omega, fun _ => ?_⟩)
    have hFA2 : FA M2 M.1 M.2.2.1 p q := hFA1.mv (by rw [k1]) (fun o j _ z => k2 o j z)
    refine r_shareOf hFA2 hN hn k3 (by omega) ⟨rfl, keep M2 (k1.trans m1) (fun o j z1 z2 => (k2 o j z2).trans (m2 o j z1))⟩
  · rintro _ rfl
    refine goO hS.2.2.2.1.2.1 (by decide) ?_
    refine c_people hFA hN ?_
    refine ref0 M _ rfl (fun _ _ _ => rfl) (fun _ _ => ?_) (fun y => absurd ⟨g1, g2⟩ y)
    refine r_layFitting hFA hN hn (fun M2 k1 k2 k3 => ⟨fun _ => ?_, fun z => by omega⟩)
    have hFA2 : FA M2 M.1 M.2.2.1 p q := hFA.mv (by rw [k1]) (fun o j _ z => k2 o j z)
    exact r_people hFA2 hN ⟨rfl, keep M2 k1 (fun o j _ z2 => k2 o j z2)⟩
def okS (I : IFn) (ns N : Nat) (x : Int) (t : Nat) : Bool := decide (¬ shF I ns N t * 1000 < x * ppF I allB N)
theorem okS_i {ns N t : Nat} {x : Int} : okS I ns N x t = true ↔ ¬ shF I ns N t * 1000 < x * ppF I allB N := decide_eq_true_iff
theorem st_fewest (h : Rel M) : P_X11_fewest 0 x1 M (fun r M1 => P_X12_fewest 221 x1 M1 (fun r2 M2 => r = r2 ∧ Rel M2)) := by
  obtain ⟨p, q, hF⟩ := id h
  obtain ⟨hS, hT, hC, hH, hA, hM, hR, hL, hE⟩ := id hF
  have hFA := FA.self hF
  obtain ⟨N, hN, hN12, hNc, hNr⟩ := hFA.nb
  obtain ⟨ns, hn, hn6, hnc, hnr⟩ := hFA.ns
  have hpl : p ≤ 87 := by rcases hS.1.p with rfl | rfl <;> omega
  have hp2 := p2_le (n := ns) (k := 6) (by omega)
  have hp1 : 1 ≤ (2 : Nat) ^ ns := Nat.one_le_two_pow
  have hall := ok_share (ns := ns) hFA hN
  unfold P_X11_fewest
  rw [p_isWithin]
  refine ⟨fun g1 => ?_, fun g1 => ?_⟩
  · rw [bi0] at g1
    have g1 := Classical.not_not.mp g1
    obtain ⟨x, rfl⟩ := toN (x := x1) (by omega)
    have xp : 0 ≤ (x : Int) * ppF M.1 allB N ∧ (x : Int) * ppF M.1 allB N ≤ 12000000 := by
      constructor
      · exact Int.mul_nonneg (by omega) hall.1
      · have := Int.mul_le_mul (show (x : Int) ≤ 1000 by omega) hall.2 hall.1 (by decide)
        omega
    have hfb := fwF_b (ok := okS M.1 ns N x)
    rintro _ rfl
    rw [hS.2.1]
    rintro _ rfl
    refine goO hS.2.2.2.1.2.1 (by decide) ?_
    refine c_note hFA hN hn (fun M1 m1 m2 m3 => ?_)
    have hFA1 : FA M1 M.1 M.2.2.1 p q := hFA.mv (by rw [m1]) (fun o j z _ => m2 o j z)
    rintro _ rfl
    rintro _ rfl
    refine goO (k := p) (by rw [m1]; exact hS.2.1) ⟨by omega, by rw [(sh_pl hS.1.p).1]⟩ ?_
    refine goO (k := 170) (by rw [m1]; exact hS.2.2.2.1.2.1) (by decide) ?_
    rw [m2 _ _ (by omega), hnc]
    unfold P_X1_fewestSeats
    refine c_people hFA1 hN ?_
    unfold P_X1_fewestSeats_12
    refine lp_i (fun y : Int × Int => ∃ k : Nat, y.2 = k ∧ k ≤ 2 ^ ns ∧ y.1 = fwF (okS M.1 ns N x) k) (fun y => (64 - y.2).toNat) ⟨0, rfl, by omega, rfl⟩ ?_
    rintro ⟨y3, y5⟩ ⟨k, f1, f2, f3⟩
    dsimp only at f1 f3
    subst f1
    show F_X1_fewestSeats_12 170 ns x (ppF M.1 allB N) M1 _ _ y3 (k : Int)
    have hk := hfb k
    have hsu : fwF (okS M.1 ns N x) (k + 1) = if okS M.1 ns N x k = true ∧ (fwF (okS M.1 ns N x) k = -4 ∨ pop k < pop (fwF (okS M.1 ns N x) k).toNat) then (k : Int) else fwF (okS M.1 ns N x) k := rfl
    unfold F_X1_fewestSeats_12
    rw [iShl_1 ns (by omega)]
    refine ⟨fun hle => ?_, fun hlt => ?_⟩
    · have hke : k = 2 ^ ns := by omega
      show P_X12_fewest 221 x M1 _
      unfold P_X12_fewest
      rw [p_in]
      refine ⟨fun _ => ?_, fun z => absurd g1 (bi0.mp z)⟩
      refine r_layFitting hFA1 hN hn (fun M2 k1 k2 k3 => ?_)
      have hFA2 : FA M2 M.1 M.2.2.1 p q := hFA1.mv (by rw [k1]) (fun o j _ z => k2 o j z)
      unfold P_X12_fewest_23
      refine lp_i (fun y : Int × Int => ∃ k : Nat, y.2 = k ∧ k ≤ 2 ^ ns ∧ y.1 = fwF (okS M.1 ns N x) k) (fun y => (64 - y.2).toNat) ⟨0, rfl, by omega, rfl⟩ ?_
      rintro ⟨z2, z3⟩ ⟨j, j1, j2, j3⟩
      dsimp only at j1 j3
      subst j1
      show F_X12_fewest_23 221 x M2 _ _ z2 (j : Int)
      have hj := hfb j
      have hsj : fwF (okS M.1 ns N x) (j + 1) = if okS M.1 ns N x j = true ∧ (fwF (okS M.1 ns N x) j = -4 ∨ pop j < pop (fwF (okS M.1 ns N x) j).toNat) then (j : Int) else fwF (okS M.1 ns N x) j := rfl
      have hshb := sh_b (ns := ns) (t := j) hFA hN
      unfold F_X12_fewest_23
      rintro _ rfl
      refine goA (k := 227) (by rw [k1, m1]; exact hS.2.2.2.2.2.1.2.2.2.2.2.1) (by decide) (by decide) ?_
      rw [show ((1 : Int)).toNat = 1 from rfl, k2 _ _ (by decide), m2 _ _ (by decide), hnr, iShl_1 ns (by omega)]
      refine ⟨fun hle2 => ?_, fun hlt2 => ?_⟩
      · have : j = k := by omega
        subst this
        exact ⟨f3.trans j3.symm, Rel.keep hF (by rw [k1, m1]) (fun o i _ z2 _ _ z5 _ => (k2 o i (by omega)).trans (m2 o i z5))⟩
      · refine r_shareOf hFA2 hN hn k3 (by omega) ⟨inI_s (by omega) (by omega), r_people hFA2 hN ⟨inI_s (by omega) (by omega), fun g => ⟨inI_s (by omega) (by omega), ?_⟩, fun g => ?_⟩⟩
        · intro v ev
          refine ⟨⟨j + 1, by dsimp only; omega, by omega, ?_⟩, by dsimp only; omega⟩
          dsimp only
          rw [hsj, if_neg (fun z => okS_i.mp z.1 g)]; exact j3
        · have gk : okS M.1 ns N x j = true := decide_eq_true g
          refine ⟨fun z4 => ⟨inI_s (by omega) (by omega), ?_⟩, fun z4 => ?_⟩
          · intro v ev
            refine ⟨⟨j + 1, by dsimp only; omega, by omega, ?_⟩, by dsimp only; omega⟩
            dsimp only
            rw [hsj, if_pos ⟨gk, Or.inl (by omega)⟩]
          · have hj4 : 0 ≤ z2 ∧ z2 < j := by omega
            refine r_bits (n := j) (by omega) ?_
            obtain ⟨w, hw⟩ := toN (x := z2) hj4.1
            rw [hw]
            refine r_bits (n := w) (by omega) ⟨fun z5 => ⟨inI_s (by omega) (by omega), ?_⟩, fun z5 => ⟨inI_s (by omega) (by omega), ?_⟩⟩
            · intro v ev
              refine ⟨⟨j + 1, by dsimp only; omega, by omega, ?_⟩, by dsimp only; omega⟩
              dsimp only
              rw [hsj, ← j3, hw, show ((w : Int)).toNat = w by omega, if_neg (fun z => by omega)]
            · intro v ev
              refine ⟨⟨j + 1, by dsimp only; omega, by omega, ?_⟩, by dsimp only; omega⟩
              dsimp only
              rw [hsj, ← j3, hw, show ((w : Int)).toNat = w by omega, if_pos ⟨gk, by omega⟩]
    · have hshb := sh_b (ns := ns) (t := k) hFA hN
      have yes : (fwF (okS M.1 ns N x) k = -4 ∨ pop k < pop (fwF (okS M.1 ns N x) k).toNat) → P_X1_fewestSeats_43 170 ns x y3 (ppF M.1 allB N) k 1 M1 (fun v => P_X12_fewest 221 x M1 (fun r2 M2 => v = r2 ∧ Rel M2)) (fun y => (∃ k : Nat, y.2 = k ∧ k ≤ 2 ^ ns ∧ y.1 = fwF (okS M.1 ns N x) k) ∧ (64 - y.2).toNat < (64 - (k : Int)).toNat) := by
        intro hb
        unfold P_X1_fewestSeats_43
        refine ⟨fun z => absurd z (by decide), fun _ => ?_⟩
        refine c_peopleOfSet hFA1 hN hn m3 (by omega) ⟨inI_s (by omega) (by omega), inI_s (by omega) (by omega), fun g => ⟨inI_s (by omega) (by omega), ?_⟩, fun g => ⟨inI_s (by omega) (by omega), ?_⟩⟩
        · intro v ev
          refine ⟨⟨k + 1, by dsimp only; omega, by omega, ?_⟩, by dsimp only; omega⟩
          dsimp only
          rw [hsu, if_neg (fun z => okS_i.mp z.1 g)]; exact f3
        · intro v ev
          refine ⟨⟨k + 1, by dsimp only; omega, by omega, ?_⟩, by dsimp only; omega⟩
          dsimp only
          rw [hsu, if_pos ⟨decide_eq_true g, hb⟩]
      refine ⟨fun z4 => yes (Or.inl (by omega)), fun z4 => ?_⟩
      have hj4 : 0 ≤ y3 ∧ y3 < k := by omega
      refine c_bitCount (n := k) (by omega) ?_
      obtain ⟨w, hw⟩ := toN (x := y3) hj4.1
      rw [hw] at f3 yes ⊢
      refine c_bitCount (n := w) (by omega) ⟨fun z5 => ?_, fun z5 => yes (Or.inr (by rw [← f3, show ((w : Int)).toNat = w by omega]; omega))⟩
      unfold P_X1_fewestSeats_43
      refine ⟨fun _ => ⟨inI_s (by omega) (by omega), ?_⟩, fun z => absurd rfl z⟩
      intro v ev
      refine ⟨⟨k + 1, by dsimp only; omega, by omega, ?_⟩, by dsimp only; omega⟩
      dsimp only
      rw [hsu, ← f3, show ((w : Int)).toNat = w by omega, if_neg (fun z => by omega)]
  · show P_X12_fewest 221 x1 M _
    unfold P_X12_fewest
    rw [p_in]
    exact ⟨fun z => absurd g1 z, fun _ => ⟨rfl, h⟩⟩
end SHR2
