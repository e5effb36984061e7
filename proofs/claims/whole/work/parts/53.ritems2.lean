/-! the reference takes items in: lets, seats, patches -/
section RI2
variable {M : Mm} {S : IFn} {c : Nat} {g : Nat → Int} {Q : Int → Mm → Prop}
theorem r_letting (hS : StrM M.2.2.1) (hd : rD M.1 S) (hok : dsOk S) (hc : c ≤ 8) (hg : ∀ j, j < c → M.1 237 j = g j) (hp : ∀ j, j < c → 0 ≤ g j) (h0 : ¬ tC S c g → Q 0 M) (hq : tC S c g → ∀ M' : Mm, M'.2 = M.2 → (∀ o j, ¬ dLow o j → M'.1 o j = M.1 o j) → rD M'.1 (tS S g) → Q 1 M') : P_X12_letting 221 c M Q := by
  obtain ⟨lc, el⟩ := toN (x := S 0 0) hok.1.1
  have v0 : M.1 223 0 = lc := by rw [hd.1]; exact el
  have hl8 := hok.1.2
  have r22 := hS.2.2.2.2.2.2.2.2.2.2.2.2.2.2.2.1
  unfold P_X12_letting
  refine ⟨fun z => h0 (fun y => z (by have := y.1; omega)), fun z => ?_⟩
  have hc5 : c = 5 := by omega
  subst hc5
  have p0 := hp 0 (by decide)
  rintro _ rfl
  refine goA r22 (by decide) (by decide) ?_
  rintro _ rfl
  refine goA hS.2.1 (by decide) (by decide) ?_
  rw [show ((0 : Int)).toNat = 0 from rfl, v0, hg 0 (by decide)]
  refine ⟨fun z0 => ?_, fun z0 => h0 (fun y => by have := y.2.1; omega)⟩
  unfold P_X12_letting_24
  refine lp_i (fun y : Int => ∃ k : Nat, y = k + 1 ∧ k ≤ 4 ∧ ∀ t, t < k → g (1 + t) ≤ 300) (fun y => (5 - y).toNat) ⟨0, rfl, by omega, fun t ht => by omega⟩ ?_
  rintro y ⟨k, f1, f2, f3⟩
  show F_X12_letting_24 221 M Q _ y
  unfold F_X12_letting_24
  refine ⟨fun hle => ?_, fun hlt => ?_⟩
  · have hk : k = 4 := by omega
    subst hk
    have hC : tC S 5 g := ⟨rfl, by omega, f3⟩
    obtain ⟨l, hl⟩ := toN (x := g 0) p0
    have tl : (g 0).toNat = l := by omega
    unfold P_X12_letting_51
    refine lp_i (fun y : Int × Mm => ∃ k : Nat, y.1 = k + 1 ∧ k ≤ 4 ∧ y.2.2 = M.2 ∧ (∀ o j, ¬ (o = 226 ∧ 4 * l ≤ j ∧ j < 4 * l + 4) → y.2.1 o j = M.1 o j) ∧ ∀ t, t < k → y.2.1 226 (4 * l + t) = g (1 + t)) (fun y => (5 - y.1).toNat) ⟨0, rfl, by omega, rfl, fun _ _ _ => rfl, fun t ht => by omega⟩ ?_
    rintro ⟨x2, M1⟩ ⟨k, g1, g2, g3, g4, g5⟩
    dsimp only at g1 g3 g4 g5
    show F_X12_letting_51 221 Q _ x2 M1
    unfold F_X12_letting_51
    refine ⟨fun hle => ?_, fun hlt => ?_⟩
    · have hk : k = 4 := by omega
      subst hk
      obtain ⟨d1, d2, d3, d4⟩ := hd
      refine hq hC M1 g3 (fun o j z => g4 o j (fun y => z (Or.inr (Or.inr (Or.inr (Or.inl ⟨y.1, by omega⟩)))))) ⟨?_, ?_, fun m hm => ?_, fun s hs => ?_⟩
      · rw [g4 _ _ (by omega), tS_o (by decide)]; exact d1
      · rw [g4 _ _ (by omega), tS_o (by decide)]; exact d2
      · rw [tS_o (by decide)] at hm
        obtain ⟨b1, b2, b3⟩ := d3 m hm
        refine ⟨by rw [g4 _ _ (by omega), tS_o (by decide)]; exact b1, fun j hj => ?_, fun t ht => ?_⟩
        · rw [tS_o (by decide)] at hj
          rw [g4 _ _ (by omega), tS_o (by decide)]; exact b2 j hj
        · rw [tS_3, tl]
          by_cases e : m = l
          · subst e
            rw [if_pos (by omega), show 4 * m + t - 4 * m = t by omega]; exact g5 t ht
          · rw [if_neg (by omega), g4 _ _ (by omega)]; exact b3 t ht
      · rw [tS_o (by decide)] at hs
        obtain ⟨b1, b2, b3⟩ := d4 s hs
        refine ⟨fun k hk => ?_, ?_, fun j hj => ?_⟩
        · rw [g4 _ _ (by omega), tS_o (by decide)]; exact b1 k hk
        · rw [g4 _ _ (by omega), tS_o (by decide)]; exact b2
        · rw [tS_o (by decide)] at hj
          rw [g4 _ _ (by omega), tS_o (by decide)]; exact b3 j hj
    · have n0 : ∀ j, j < 5 → M1.1 237 j = g j := fun j hj => by rw [g4 _ _ (by omega)]; exact hg j hj
      have r22' : M1.2.2.1 221 22 = some 237 := by rw [g3]; exact r22
      rintro _ rfl
      rintro _ rfl
      refine goA r22' (by decide) (by decide) ?_
      rw [show ((0 : Int)).toNat = 0 from rfl, n0 0 (by decide), hl]
      refine ⟨inI_s (by omega) (by omega), inI_s (by omega) (by omega), inI_s (by omega) (by omega), ?_⟩
      rintro _ rfl
      refine goA r22' (by decide) ⟨by omega, by rw [show (SH 237).2 = 8 by decide]; omega⟩ ?_
      refine goA (k := 226) (by rw [g3]; exact hS.2.2.2.2.1) (by decide) ⟨by omega, by rw [show (SH 226).2 = 64 by decide]; omega⟩ ?_
      rw [show (4 * (l : Int) + x2 - 1).toNat = 4 * l + k by omega, show x2.toNat = 1 + k by omega, n0 (1 + k) (by omega)]
      intro M10 e10
      refine ⟨inI_s (by omega) (by omega), ?_⟩
      intro v ev
      refine ⟨⟨k + 1, by dsimp only; omega, by omega, by rw [e10]; exact g3, fun o j z => ?_, fun t ht => ?_⟩, by dsimp only; omega⟩
      · show M10.1 o j = _
        rw [e10, setI_n _ _ _ _ (by omega)]; exact g4 o j z
      · show M10.1 226 _ = _
        rw [e10]
        by_cases e : t = k
        · subst e; rw [setI_s]
        · rw [setI_n _ _ _ _ (by omega)]; exact g5 t (by omega)
  · rintro _ rfl
    refine goA r22 (by decide) ⟨by omega, by rw [show (SH 237).2 = 8 by decide]; omega⟩ ?_
    rw [show y.toNat = 1 + k by omega, hg (1 + k) (by omega)]
    refine ⟨fun z3 => ⟨inI_s (by omega) (by omega), ?_⟩, fun z3 => h0 (fun y => z3 (y.2.2 k (by omega)))⟩
    intro v ev
    refine ⟨⟨k + 1, by omega, by omega, fun t ht => ?_⟩, by omega⟩
    by_cases e : t = k
    · subst e; exact z3
    · exact f3 t (by omega)
theorem r_seat (hS : StrM M.2.2.1) (hd : rD M.1 S) (hok : dsOk S) (hc : c ≤ 8) (hg : ∀ j, j < c → M.1 237 j = g j) (h0 : ¬ sC S c g → Q 0 M) (hq : sC S c g → ∀ M' : Mm, M'.2 = M.2 → (∀ o j, ¬ dLow o j → M'.1 o j = M.1 o j) → rD M'.1 (sS S g) → Q 1 M') : P_X12_seat 221 c M Q := by
  obtain ⟨sc, es⟩ := toN (x := S 0 1) hok.2.1.1
  have ts : (S 0 1).toNat = sc := by omega
  have hs6 := hok.2.1.2
  have v0 : M.1 227 0 = sc := by rw [hd.2.1]; exact es
  have r22 := hS.2.2.2.2.2.2.2.2.2.2.2.2.2.2.2.1
  unfold P_X12_seat
  refine ⟨fun z => h0 (fun y => z (by have := y.1; omega)), fun z => ?_⟩
  have hc4 : c = 4 := by omega
  subst hc4
  rintro _ rfl
  refine goA hS.2.2.2.2.2.1 (by decide) (by decide) ?_
  rw [show ((0 : Int)).toNat = 0 from rfl, v0]
  refine ⟨fun z6 => h0 (fun y => by have := y.2.1; omega), fun z6 => ?_⟩
  rintro _ rfl
  refine goA r22 (by decide) (by decide) ?_
  rw [hg 0 (by decide), p_in]
  refine ⟨fun y => h0 (fun w => bi0.mp y ⟨w.2.2.1, w.2.2.2.1⟩), fun y0 => ?_⟩
  rintro _ rfl
  refine goA r22 (by decide) (by decide) ?_
  rw [show ((1 : Int)).toNat = 1 from rfl, hg 1 (by decide), p_in]
  refine ⟨fun y => h0 (fun w => bi0.mp y ⟨w.2.2.2.2.1, w.2.2.2.2.2.1⟩), fun y1 => ?_⟩
  rintro _ rfl
  refine goA r22 (by decide) (by decide) ?_
  rw [show ((2 : Int)).toNat = 2 from rfl, hg 2 (by decide), p_in]
  refine ⟨fun y => h0 (fun w => bi0.mp y ⟨w.2.2.2.2.2.2.1, w.2.2.2.2.2.2.2.1⟩), fun y2 => ?_⟩
  rintro _ rfl
  refine goA r22 (by decide) (by decide) ?_
  rw [show ((3 : Int)).toNat = 3 from rfl, hg 3 (by decide), p_in]
  refine ⟨fun y3 => ?_, fun y => h0 (fun w => bi0.mp y ⟨w.2.2.2.2.2.2.2.2.1, w.2.2.2.2.2.2.2.2.2⟩)⟩
  rw [bi0] at y0 y1 y2 y3
  have hC : sC S 4 g := ⟨rfl, by omega, by unfold SEAr; omega⟩
  unfold P_X12_seat_96
  refine lp_i (fun y : Int × Mm => ∃ k : Nat, y.1 = k ∧ k ≤ 4 ∧ y.2.2 = M.2 ∧ (∀ o j, ¬ (o = 228 ∧ 4 * sc ≤ j ∧ j < 4 * sc + 4) → y.2.1 o j = M.1 o j) ∧ ∀ t, t < k → y.2.1 228 (4 * sc + t) = g t) (fun y => (4 - y.1).toNat) ⟨0, rfl, by omega, rfl, fun _ _ _ => rfl, fun t ht => by omega⟩ ?_
  rintro ⟨x2, M1⟩ ⟨k, g1, g2, g3, g4, g5⟩
  dsimp only at g1 g3 g4 g5
  subst g1
  show F_X12_seat_96 221 Q _ (k : Int) M1
  have w0 : M1.1 227 0 = sc := by rw [g4 _ _ (by omega)]; exact v0
  have r6 : M1.2.2.1 221 6 = some 227 := by rw [g3]; exact hS.2.2.2.2.2.1
  unfold F_X12_seat_96
  refine ⟨fun hle => ?_, fun hlt => ?_⟩
  · have hk : k = 4 := by omega
    subst hk
    rintro _ rfl
    rintro _ rfl
    refine goA r6 (by decide) (by decide) ?_
    rw [show ((0 : Int)).toNat = 0 from rfl, w0]
    refine goA (k := 229) (by rw [g3]; exact hS.2.2.2.2.2.2.2.1) (by decide) ⟨by omega, by rw [show (SH 229).2 = 12 by decide]; omega⟩ ?_
    rw [show ((sc : Int)).toNat = sc by omega]
    intro M7 e7
    have r6' : M7.2.2.1 221 6 = some 227 := by rw [e7]; exact r6
    have w7 : M7.1 227 0 = sc := by rw [e7, setI_n _ _ _ _ (by omega)]; exact w0
    rintro _ rfl
    refine goA r6' (by decide) (by decide) ?_
    rw [w7]
    refine ⟨inI_s (by omega) (by omega), goA r6' (by decide) (by decide) ?_⟩
    intro M14 e14
    have w : ∀ o j, ¬ (o = 227 ∧ j = 0) → ¬ (o = 229 ∧ j = sc) → M14.1 o j = M1.1 o j := fun o j z1 z2 => by rw [e14, setI_n _ _ _ _ z1, e7, setI_n _ _ _ _ z2]
    have w2 : ∀ o j, ¬ (o = 227 ∧ j = 0) → ¬ (o = 229 ∧ j = sc) → ¬ (o = 228 ∧ 4 * sc ≤ j ∧ j < 4 * sc + 4) → M14.1 o j = M.1 o j := fun o j z1 z2 z3 => (w o j z1 z2).trans (g4 o j z3)
    obtain ⟨d1, d2, d3, d4⟩ := hd
    refine hq hC M14 (by rw [e14]; show M7.2 = _; rw [e7]; exact g3) (fun o j z => w2 o j (fun y => z (Or.inr (Or.inr (Or.inr (Or.inr (Or.inl y)))))) (fun y => z (Or.inr (Or.inr (Or.inr (Or.inr (Or.inr (Or.inr (Or.inl ⟨y.1, by omega⟩)))))))) (fun y => z (Or.inr (Or.inr (Or.inr (Or.inr (Or.inr (Or.inl ⟨y.1, by omega⟩)))))))) ⟨?_, ?_, fun m hm => ?_, fun s hs => ?_⟩
    · rw [w2 _ _ (by omega) (by omega) (by omega), sS_o (by omega)]; exact d1
    · rw [e14, setI_s, sS_0, es]
    · rw [sS_o (by omega)] at hm
      obtain ⟨b1, b2, b3⟩ := d3 m hm
      refine ⟨by rw [w2 _ _ (by omega) (by omega) (by omega), sS_o (by omega)]; exact b1, fun j hj => ?_, fun t ht => ?_⟩
      · rw [sS_o (by omega)] at hj
        rw [w2 _ _ (by omega) (by omega) (by omega), sS_o (by omega)]; exact b2 j hj
      · rw [w2 _ _ (by omega) (by omega) (by omega), sS_o (by omega)]; exact b3 t ht
    · rw [sS_0] at hs
      by_cases e : s = sc
      · subst e
        refine ⟨fun k hk => ?_, ?_, fun j hj => ?_⟩
        · rw [w _ _ (by omega) (by omega), g5 k hk, sS_4, ts, if_pos (by omega), show 4 * s + k - 4 * s = k by omega]
        · rw [e14, setI_n _ _ _ _ (by omega), e7, setI_s, sS_5, if_pos ts.symm]
        · rw [sS_5, if_pos ts.symm] at hj; omega
      · obtain ⟨b1, b2, b3⟩ := d4 s (by omega)
        refine ⟨fun k hk => ?_, ?_, fun j hj => ?_⟩
        · rw [w2 _ _ (by omega) (by omega) (by omega), sS_4, ts, if_neg (by omega)]; exact b1 k hk
        · rw [w2 _ _ (by omega) (by omega) (by omega), sS_5, ts, if_neg e]; exact b2
        · rw [sS_5, ts, if_neg e] at hj
          rw [w2 _ _ (by omega) (by omega) (by omega), sS_o (by omega)]; exact b3 j hj
  · have n0 : M1.1 237 k = g k := by rw [g4 _ _ (by omega)]; exact hg k (by omega)
    rintro _ rfl
    rintro _ rfl
    refine goA r6 (by decide) (by decide) ?_
    rw [show ((0 : Int)).toNat = 0 from rfl, w0]
    refine ⟨inI_s (by omega) (by omega), inI_s (by omega) (by omega), ?_⟩
    rintro _ rfl
    refine goA (k := 237) (by rw [g3]; exact r22) (by decide) ⟨by omega, by rw [show (SH 237).2 = 8 by decide]; omega⟩ ?_
    refine goA (k := 228) (by rw [g3]; exact hS.2.2.2.2.2.2.1) (by decide) ⟨by omega, by rw [show (SH 228).2 = 48 by decide]; omega⟩ ?_
    rw [show (4 * (sc : Int) + k).toNat = 4 * sc + k by omega, show ((k : Int)).toNat = k by omega, n0]
    intro M25 e25
    refine ⟨inI_s (by omega) (by omega), ?_⟩
    intro v ev
    refine ⟨⟨k + 1, by dsimp only; omega, by omega, by rw [e25]; exact g3, fun o j z => ?_, fun t ht => ?_⟩, by dsimp only; omega⟩
    · show M25.1 o j = _
      rw [e25, setI_n _ _ _ _ (by omega)]; exact g4 o j z
    · show M25.1 228 _ = _
      rw [e25]
      by_cases e : t = k
      · subst e; rw [setI_s]
      · rw [setI_n _ _ _ _ (by omega)]; exact g5 t (by omega)
end RI2
