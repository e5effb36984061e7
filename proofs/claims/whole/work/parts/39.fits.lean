/-! WHO FITS: fits, setting, people, count -/
abbrev ftP (I : IFn) (b s : Nat) (h w : Int) : Prop := I 233 (6 * b + 4) ≤ I 228 (24 + 4 * s + 3) ∧ I 228 (24 + 4 * s) + 20 * h ≤ I 233 (6 * b + 1) ∧ I 233 (6 * b + 1) ≤ I 228 (24 + 4 * s) + 20 * h + I 221 17 ∧ I 228 (24 + 4 * s + 1) + 30 * w ≤ I 233 (6 * b + 2) ∧ I 228 (24 + 4 * s + 2) ≤ I 233 (6 * b + 3) + (I 228 (24 + 4 * s) + 20 * h)
/-- at some height below n, at the least way -/
def fsB (I : IFn) (b s : Nat) : Nat → Bool
  | 0 => false
  | n + 1 => fsB I b s n || decide (ftP I b s n 0)
/-- a memory that holds all of I -/
def FA (M : Mm) (I : IFn) (R : RFn) (p q : Nat) : Prop := RelF I R p q ∧ M.2.2.1 = R ∧ ∀ o j, dREL p o j → M.1 o j = I o j
theorem dR_17 {p : Nat} : dREL p 221 17 := Or.inr (Or.inr (Or.inr (Or.inr (Or.inl (Or.inr (Or.inr (Or.inr ⟨rfl, by omega⟩)))))))
theorem dR_1702 {p : Nat} : dREL p 170 2 := Or.inr (Or.inr (Or.inr (Or.inr (Or.inl (Or.inl ⟨rfl, rfl⟩)))))
section FT
variable {M : Mm} {I : IFn} {R : RFn} {p q s b : Nat} {x1 x2 x3 x4 : Int}
theorem FA.self (h : RelF M.1 M.2.2.1 p q) : FA M M.1 M.2.2.1 p q := ⟨h, rfl, fun _ _ _ => rfl⟩
theorem FA.mv {M' : Mm} (h : FA M I R p q) (e : M'.2.2.1 = M.2.2.1) (ei : ∀ o j, o ≠ 172 → o ≠ 239 → M'.1 o j = M.1 o j) : FA M' I R p q := ⟨h.1, e.trans h.2.1, fun o j z => (ei o j (by have := dREL_sc h.1.1.1.p z; omega) (by have := dREL_sc h.1.1.1.p z; omega)).trans (h.2.2 o j z)⟩
theorem FA.bd (h : FA M I R p q) (hb : (b : Int) < I 221 12) : b < 12 ∧ BODr (fun k => I 233 (6 * b + k)) ∧ ∀ k, k < 6 → M.1 (173 + 3 * b) k = I 233 (6 * b + k) := by
  have hb12 : b < 12 := by have := h.1.2.2.1.2.2.1; omega
  have hg := h.1.2.2.1.2.2.2 b hb
  exact ⟨hb12, hg.2, fun k hk => by rw [h.2.2 _ _ (dR_B hb12)]; exact hg.1 k hk⟩
theorem FA.st (h : FA M I R p q) (hs : (s : Int) < I 227 1) : s < 6 ∧ SEAr (fun k => I 228 (24 + 4 * s + k)) ∧ ∀ k, k < 4 → M.1 (p + 35 + 8 * s) k = I 228 (24 + 4 * s + k) := by
  have hs6 : s < 6 := by have := h.1.2.2.2.2.2.2.2.2.2.2.1; omega
  have hg := h.1.2.2.2.2.2.2.2.2.2.2.2 s hs
  exact ⟨hs6, hg.2.1, fun k hk => by rw [h.2.2 _ _ (dR_P (by omega) (by omega))]; exact hg.1 k hk⟩
theorem c_fitsAt {h w : Int} {Q : Int → Prop} (hA : FA M I R p q) (hb : (b : Int) < I 221 12) (hs : (s : Int) < I 227 1) (hh : 0 ≤ h ∧ h ≤ 9) (hw : 0 ≤ w ∧ w ≤ 9) (hq : Q (bi (ftP I b s h w))) : P_X1_fitsAt 170 (some (173 + 3 * b)) (some (p + 35 + 8 * s)) h w M Q := by
  obtain ⟨b12, br, bv⟩ := hA.bd hb
  obtain ⟨s6, sr, sv⟩ := hA.st hs
  have hp := hA.1.1.1.p
  have hpl : p ≤ 87 := by rcases hp with rfl | rfl <;> omega
  have hsl : M.1 170 2 = I 221 17 := by rw [hA.2.2 _ _ dR_1702]; exact hA.1.2.2.2.2.2.1.1.1
  have hslb := hA.1.2.2.2.2.2.1.1
  unfold BODr at br
  unfold SEAr at sr
  dsimp only at br sr
  have s0 : M.1 (p + 35 + 8 * s) 0 = I 228 (24 + 4 * s) := sv 0 (by decide)
  have sr0 : 100 ≤ I 228 (24 + 4 * s) ∧ I 228 (24 + 4 * s) ≤ 600 := ⟨sr.1, sr.2.1⟩
  have s1 := sv 1 (by decide)
  have s2 := sv 2 (by decide)
  have s3 := sv 3 (by decide)
  have b1 := bv 1 (by decide)
  have b2 := bv 2 (by decide)
  have b3 := bv 3 (by decide)
  have b4 := bv 4 (by decide)
  unfold P_X1_fitsAt
  refine goO rfl ⟨by omega, by rw [(sh_S hp s6).1]⟩ ?_
  unfold P_X8_heightInMm
  rw [s0, s2, s3, hsl]
  refine ⟨inI_s (by omega) (by omega), inI_s (by omega) (by omega), goO rfl ⟨by omega, by rw [(sh_B b b12).1]⟩ ?_⟩
  rw [b1, b2, b3, b4]
  have neg : ¬ ftP I b s h w → Q 0 := fun z => by rw [bi_f z] at hq; exact hq
  refine ⟨fun g => neg (fun z => by have := z.1; omega), fun g1 => ⟨fun g => neg (fun z => by have := z.2.1; omega), fun g2 => ⟨inI_s (by omega) (by omega), fun g => neg (fun z => by have := z.2.2.1; omega), fun g3 => ?_⟩⟩⟩
  unfold P_X8_wayInMm
  rw [s1]
  refine ⟨inI_s (by omega) (by omega), inI_s (by omega) (by omega), fun g => neg (fun z => by have := z.2.2.2.1; omega), fun g4 => ⟨inI_s (by omega) (by omega), fun g => neg (fun z => by have := z.2.2.2.2; omega), fun g5 => ?_⟩⟩
  rw [bi_t (show ftP I b s h w from ⟨by omega, by omega, by omega, by omega, by omega⟩)] at hq
  exact hq
theorem r_fitsAt {h w : Int} {Q : Int → Prop} (hA : FA M I R p q) (hb : (b : Int) < I 221 12) (hs : (s : Int) < I 227 1) (hh : 0 ≤ h ∧ h ≤ 9) (hw : 0 ≤ w ∧ w ≤ 9) (hq : Q (bi (ftP I b s h w))) : P_X12_fitsAt 221 b s h w M Q := by
  obtain ⟨b12, br, bv⟩ := hA.bd hb
  obtain ⟨s6, sr, sv⟩ := hA.st hs
  have hSM : StrM M.2.2.1 := by rw [hA.2.1]; exact hA.1.1.2.2.2.2.2.1
  have hsl : M.1 221 17 = I 221 17 := hA.2.2 _ _ dR_17
  have hslb := hA.1.2.2.2.2.2.1.1
  unfold BODr at br
  unfold SEAr at sr
  dsimp only at br sr
  have sr0 : 100 ≤ I 228 (24 + 4 * s) ∧ I 228 (24 + 4 * s) ≤ 600 := ⟨sr.1, sr.2.1⟩
  have r7 := hSM.2.2.2.2.2.2.1
  have r13 := hSM.2.2.2.2.2.2.2.2.2.2.2.1
  have z28 : (SH 228).2 = 48 := by decide
  have z33 : (SH 233).2 = 72 := by decide
  have g28 : ∀ k, M.1 228 (24 + 4 * s + k) = I 228 (24 + 4 * s + k) := fun k => hA.2.2 _ _ (dR_L (dP228 (by omega)))
  have g280 : M.1 228 (24 + 4 * s) = I 228 (24 + 4 * s) := hA.2.2 _ _ (dR_L (dP228 (by omega)))
  have g33 : ∀ k, M.1 233 k = I 233 k := fun k => hA.2.2 _ _ dR_233
  unfold P_X12_fitsAt
  refine ⟨inI_s (by omega) (by omega), ?_⟩
  rintro _ rfl
  refine ⟨inI_s (by omega) (by omega), inI_s (by omega) (by omega), ?_⟩
  rintro _ rfl
  rintro _ rfl
  refine goA r7 (by decide) ⟨by omega, by rw [z28]; omega⟩ ?_
  rw [show (24 + 4 * (s : Int)).toNat = 24 + 4 * s by omega, g280]
  refine ⟨inI_s (by omega) (by omega), inI_s (by omega) (by omega), ?_⟩
  intro v6 e6
  rintro _ rfl
  refine ⟨inI_s (by omega) (by omega), goA r13 (by decide) ⟨by omega, by rw [z33]; omega⟩ ?_⟩
  rw [show (6 * (b : Int) + 1).toNat = 6 * b + 1 by omega, g33, hsl]
  refine ⟨inI_s (by omega) (by omega), ?_⟩
  rw [p_in]
  rintro _ rfl
  refine ⟨inI_s (by omega) (by omega), goA r13 (by decide) ⟨by omega, by rw [z33]; omega⟩ ?_⟩
  rintro _ rfl
  refine ⟨inI_s (by omega) (by omega), goA r7 (by decide) ⟨by omega, by rw [z28]; omega⟩ ?_⟩
  rw [show (24 + 4 * (s : Int) + 3).toNat = 24 + 4 * s + 3 by omega, g28, show (6 * (b : Int) + 4).toNat = 6 * b + 4 by omega, g33]
  have neg : ¬ ftP I b s h w → Q 0 := fun z => by rw [bi_f z] at hq; exact hq
  refine ⟨fun g => neg (fun z => by have := z.1; omega), fun g1 => ⟨fun g => neg (fun z => bi0.mp g ⟨by have := z.2.1; omega, by have := z.2.2.1; omega⟩), fun g2 => ?_⟩⟩
  rw [bi0] at g2
  rintro _ rfl
  refine ⟨inI_s (by omega) (by omega), goA r13 (by decide) ⟨by omega, by rw [z33]; omega⟩ ?_⟩
  rintro _ rfl
  refine ⟨inI_s (by omega) (by omega), goA r7 (by decide) ⟨by omega, by rw [z28]; omega⟩ ?_⟩
  rw [show (24 + 4 * (s : Int) + 1).toNat = 24 + 4 * s + 1 by omega, g28, show (6 * (b : Int) + 2).toNat = 6 * b + 2 by omega, g33]
  refine ⟨inI_s (by omega) (by omega), inI_s (by omega) (by omega), fun g => neg (fun z => by have := z.2.2.2.1; omega), fun g3 => ?_⟩
  rintro _ rfl
  refine ⟨inI_s (by omega) (by omega), goA r13 (by decide) ⟨by omega, by rw [z33]; omega⟩ ?_⟩
  rw [show (6 * (b : Int) + 3).toNat = 6 * b + 3 by omega, g33]
  refine ⟨inI_s (by omega) (by omega), ?_⟩
  rintro _ rfl
  refine ⟨inI_s (by omega) (by omega), goA r7 (by decide) ⟨by omega, by rw [z28]; omega⟩ ?_⟩
  rw [show (24 + 4 * (s : Int) + 2).toNat = 24 + 4 * s + 2 by omega, g28]
  refine ⟨fun g => neg (fun z => by have := z.2.2.2.2; omega), fun g4 => ?_⟩
  rw [bi_t (show ftP I b s h w from ⟨by omega, by omega, by omega, by omega, by omega⟩)] at hq
  exact hq
theorem c_some {Q : Int → Prop} (hA : FA M I R p q) (hb : (b : Int) < I 221 12) (hs : (s : Int) < I 227 1) (hq : Q (bi (fsB I b s 10 = true))) : P_X1_fitsSomehow 170 (some (173 + 3 * b)) (some (p + 35 + 8 * s)) M Q := by
  unfold P_X1_fitsSomehow P_X1_fitsSomehow_2
  refine lp_i (fun y : Int => ∃ n : Nat, y = n ∧ n ≤ 10 ∧ fsB I b s n = false) (fun y => (10 - y).toNat) ⟨0, rfl, by omega, rfl⟩ ?_
  rintro y ⟨n, e1, e2, e3⟩
  subst e1
  show F_X1_fitsSomehow_2 170 _ _ M Q _ (n : Int)
  unfold F_X1_fitsSomehow_2
  refine ⟨fun hle => ?_, fun hlt => ?_⟩
  · have : n = 10 := by omega
    subst this
    rw [bi_f (by rw [e3]; decide)] at hq
    exact hq
  · refine c_fitsAt hA hb hs (by omega) (by decide) ⟨fun g => ⟨inI_s (by omega) (by omega), ?_⟩, fun g => ?_⟩
    · rw [bi0] at g
      intro v ev
      refine ⟨⟨n + 1, by omega, by omega, ?_⟩, by omega⟩
      show (fsB I b s n || decide (ftP I b s n 0)) = false
      rw [e3, decide_eq_false g]; rfl
    · rw [bi0] at g
      have g := Classical.not_not.mp g
      have up : ∀ k : Nat, n < k → fsB I b s k = true := by
        intro k
        induction k with
        | zero => intro z; omega
        | succ k ih =>
          intro z
          show (fsB I b s k || decide (ftP I b s k 0)) = true
          by_cases e : k = n
          · subst e; rw [decide_eq_true g]; simp
          · rw [ih (by omega)]; rfl
      rw [bi_t (up 10 (by omega))] at hq
      exact hq
theorem fsB_or {n : Nat} : fsB I b s n = true ↔ ∃ h : Nat, h < n ∧ ftP I b s h 0 := by
  induction n with
  | zero => exact ⟨fun h => (by cases h), fun ⟨_, h, _⟩ => (by omega)⟩
  | succ n ih =>
    show (fsB I b s n || decide (ftP I b s n 0)) = true ↔ _
    rw [Bool.or_eq_true, ih, decide_eq_true_iff]
    constructor
    · rintro (⟨h, h1, h2⟩ | h)
      · exact ⟨h, by omega, h2⟩
      · exact ⟨n, by omega, h⟩
    · rintro ⟨h, h1, h2⟩
      by_cases e : h = n
      · subst e; exact Or.inr h2
      · exact Or.inl ⟨h, by omega, h2⟩
theorem r_some {Q : Int → Prop} (hA : FA M I R p q) (hb : (b : Int) < I 221 12) (hs : (s : Int) < I 227 1) (hq : Q (bi (fsB I b s 10 = true))) : P_X12_fitsSome 221 b s M Q := by
  unfold P_X12_fitsSome P_X12_fitsSome_5
  refine lp_i (fun y : Int × Int => ∃ n : Nat, y.2 = n ∧ n ≤ 10 ∧ y.1 = bi (fsB I b s n = true)) (fun y => (10 - y.2).toNat) ⟨0, rfl, by omega, by show (0 : Int) = bi (fsB I b s 0 = true); exact (bi_f (fun z => by cases z)).symm⟩ ?_
  rintro ⟨x3, x4⟩ ⟨n, e1, e2, e3⟩
  dsimp only at e1 e3
  subst e1
  show F_X12_fitsSome_5 221 b s M Q _ x3 (n : Int)
  unfold F_X12_fitsSome_5
  refine ⟨fun hle => ?_, fun hlt => ?_⟩
  · have : n = 10 := by omega
    subst this
    rw [e3]; exact ⟨bi01, hq⟩
  · unfold P_X12_fitsSome_15
    refine lp_i (fun y : Int × Int => ∃ k : Nat, y.2 = k ∧ k ≤ 10 ∧ (k = 0 → y.1 = bi (fsB I b s n = true)) ∧ (1 ≤ k → y.1 = bi (fsB I b s (n + 1) = true))) (fun y => (10 - y.2).toNat) ⟨0, rfl, by omega, fun _ => e3, fun z => by omega⟩ ?_
    rintro ⟨y3, y5⟩ ⟨k, f1, f2, f3, f4⟩
    dsimp only at f1 f3 f4
    subst f1
    show F_X12_fitsSome_15 221 b s n M Q _ _ y3 (k : Int)
    have es : fsB I b s (n + 1) = (fsB I b s n || decide (ftP I b s n 0)) := rfl
    unfold F_X12_fitsSome_15
    refine ⟨fun hle => ⟨inI_s (by omega) (by omega), ?_⟩, fun hlt2 => ?_⟩
    · intro v ev
      exact ⟨⟨n + 1, by dsimp only; omega, by omega, f4 (by omega)⟩, by dsimp only; omega⟩
    · have nx : ∀ r : Int, r = bi (fsB I b s (n + 1) = true) → ∀ v : Int, v = (k : Int) + 1 → (∃ k : Nat, v = k ∧ k ≤ 10 ∧ (k = 0 → r = bi (fsB I b s n = true)) ∧ (1 ≤ k → r = bi (fsB I b s (n + 1) = true))) ∧ (10 - v).toNat < (10 - (k : Int)).toNat := fun r er v ev => ⟨⟨k + 1, by omega, by omega, fun z => by omega, fun _ => er⟩, by omega⟩
      refine ⟨fun hne => ⟨inI_s (by omega) (by omega), nx 1 ?_⟩, fun he => ?_⟩
      · rcases Nat.eq_zero_or_pos k with hk | hk
        · rw [f3 hk, bi0] at hne
          have hne := Classical.not_not.mp hne
          rw [bi_t (by rw [es, hne]; rfl)]
        · have := f4 hk
          rcases (bi01 (c := fsB I b s (n + 1) = true)) with z | z
          · rw [this, z] at hne; exact absurd rfl hne
          · exact z.symm
      · refine r_fitsAt hA hb hs (by omega) (by omega) ⟨fun g => ⟨inI_s (by omega) (by omega), nx 0 ?_⟩, fun g => ⟨inI_s (by omega) (by omega), nx 1 ?_⟩⟩
        · rw [bi0] at g
          rcases Nat.eq_zero_or_pos k with hk | hk
          · subst hk
            rw [f3 rfl, bi0] at he
            rw [bi_f]
            rw [es, Bool.or_eq_true]
            rintro (z | z)
            · exact he z
            · exact g (decide_eq_true_iff.mp z)
          · rw [← f4 hk, he]
        · rw [bi0] at g
          have g := Classical.not_not.mp g
          have g0 : ftP I b s n 0 := ⟨g.1, g.2.1, g.2.2.1, by have := g.2.2.2.1; omega, g.2.2.2.2⟩
          rw [bi_t (by rw [es, decide_eq_true g0]; simp)]
theorem st_fits (h : Rel M) : P_X11_fits 0 x1 x2 x3 x4 M (fun r => P_X12_fits 221 x1 x2 x3 x4 M (fun r2 => r = r2)) := by
  obtain ⟨p, q, hF⟩ := id h
  obtain ⟨hS, hT, hC, hH, hA, hM, hR, hL, hE⟩ := id hF
  have hc := hC.1
  have he := hE.1
  have hCn : 0 ≤ M.1 221 12 ∧ M.1 221 12 ≤ 12 := ⟨hC.2.1, hC.2.2.1⟩
  have hEn : 0 ≤ M.1 227 1 ∧ M.1 227 1 ≤ 6 := ⟨hE.2.1, hE.2.2.1⟩
  have hpl : p ≤ 87 := by rcases hS.1.p with rfl | rfl <;> omega
  have hFA := FA.self hF
  have bad : ¬ (((0 ≤ x1 ∧ x1 < M.1 221 12) ∧ 0 ≤ x2 ∧ x2 < M.1 227 1) ∧ (x3 = -1 ∨ (0 ≤ x3 ∧ x3 ≤ 9) ∧ 0 ≤ x4 ∧ x4 ≤ 9)) → P_X12_fits 221 x1 x2 x3 x4 M (fun r2 => -1 = r2) := by
    intro hb
    unfold P_X12_fits
    rw [r_isBody hCn]
    refine ⟨fun _ => rfl, fun g1 => ?_⟩
    rw [r_isSeat hS.2.2.2.2.2.1 hEn]
    refine ⟨fun _ => rfl, fun g2 => ?_⟩
    rw [p_in]
    refine ⟨fun _ => rfl, fun g3 => ?_⟩
    rw [bi0] at g1 g2 g3
    refine ⟨fun g4 => absurd ⟨⟨by omega, by omega⟩, Or.inl (by omega)⟩ hb, fun g4 => ?_⟩
    rw [p_in]
    refine ⟨fun g5 => ?_, fun _ => rfl⟩
    rw [bi0] at g5
    exact absurd ⟨⟨by omega, by omega⟩, Or.inr ⟨by omega, by omega⟩⟩ hb
  unfold P_X11_fits
  rintro _ rfl
  refine goO hS.2.2.2.1.2.1 (by decide) ?_
  have hseat : ∀ (K : Option Nat → Prop), (∀ s : Nat, x2 = s → (s : Int) < M.1 227 1 → K (some (p + 35 + 8 * s))) → (¬ (0 ≤ x2 ∧ x2 < M.1 227 1) → K none) → ∀ r5 : Option Nat, r5 = M.2.2.1 0 1 → ∃ o6, isO 5 r5 o6 ∧ P_X5_seatAt o6 x2 M K := by
    intro K k1 k2
    rintro _ rfl
    exact goO hS.2.1 ⟨by omega, by rw [(sh_pl hS.1.p).1]⟩ (c_seatAt hS.1.p hS.P (by omega) (fun s e hs => k1 s e (by omega)) (fun z => k2 (by omega)))
  refine c_bodyAt hS.2.2.2.2.1 (by omega) (fun b e1 hb => ?_) (fun hz => ?_)
  · refine hseat _ (fun s e2 hs => ?_) (fun hz => ⟨fun z => (by cases z), fun _ _ => ⟨fun _ z => (by cases z), fun _ => bad (fun y => hz y.1.2)⟩⟩)
    refine ⟨fun z => (by cases z), fun _ _ => ⟨fun _ _ => ?_, fun z => (by cases z)⟩⟩
    have hb2 : (b : Int) < M.1 221 12 := by omega
    subst e1 e2
    have ref : ∀ Q : Int → Prop, (x3 = -1 ∨ (0 ≤ x3 ∧ x3 ≤ 9) ∧ 0 ≤ x4 ∧ x4 ≤ 9) → P_X12_fits_49 221 b s x3 x4 M Q → P_X12_fits 221 b s x3 x4 M Q := by
      intro Q hv hq
      unfold P_X12_fits
      rw [r_isBody hCn]
      refine ⟨fun z => by rw [bi0] at z; omega, fun _ => ?_⟩
      rw [r_isSeat hS.2.2.2.2.2.1 hEn]
      refine ⟨fun z => by rw [bi0] at z; omega, fun _ => ?_⟩
      rw [p_in]
      refine ⟨fun z => by rw [bi0] at z; omega, fun _ => ⟨fun _ => hq, fun g => ?_⟩⟩
      rw [p_in]
      exact ⟨fun _ => hq, fun z => by rw [bi0] at z; omega⟩
    refine ⟨fun h3 => ?_, fun h3 => ?_⟩
    · rw [p_isWithin]
      refine ⟨fun z => bad (fun y => by rw [bi0] at z; rcases y.2 with y2 | y2; exact h3 y2; exact z y2.1), fun g3 => ?_⟩
      rw [p_isWithin]
      refine ⟨fun g4 => ?_, fun z => bad (fun y => by rw [bi0] at z; rcases y.2 with y2 | y2; exact h3 y2; exact z y2.2)⟩
      rw [bi0] at g3 g4
      rintro _ rfl
      refine goO hS.2.2.2.1.2.1 (by decide) (c_fitsAt hFA hb2 hs (by omega) (by omega) ?_)
      have fin : ∀ r : Int, r = bi (ftP M.1 b s x3 x4) → P_X12_fits 221 b s x3 x4 M (fun r2 => r = r2) := by
        intro r er
        refine ref _ (Or.inr ⟨by omega, by omega⟩) ⟨fun _ => r_fitsAt hFA hb2 hs (by omega) (by omega) ⟨fun z => by rw [er]; exact z, fun z => ?_⟩, fun z => absurd (by omega) z⟩
        rcases (bi01 (c := ftP M.1 b s x3 x4)) with y | y
        · exact absurd y z
        · rw [er]; exact y
      refine ⟨fun z => fin 0 z.symm, fun z => fin 1 ?_⟩
      rcases (bi01 (c := ftP M.1 b s x3 x4)) with y | y
      · exact absurd y z
      · exact y.symm
    · rintro _ rfl
      refine goO hS.2.2.2.1.2.1 (by decide) (c_some hFA hb2 hs ?_)
      have fin : ∀ r : Int, r = bi (fsB M.1 b s 10 = true) → P_X12_fits 221 b s x3 x4 M (fun r2 => r = r2) := by
        intro r er
        refine ref _ (Or.inl h3) ⟨fun z => by omega, fun _ => r_some hFA hb2 hs ⟨fun z => by rw [er]; exact z, fun z => ?_⟩⟩
        rcases (bi01 (c := fsB M.1 b s 10 = true)) with y | y
        · exact absurd y z
        · rw [er]; exact y
      refine ⟨fun z => fin 0 z.symm, fun z => fin 1 ?_⟩
      rcases (bi01 (c := fsB M.1 b s 10 = true)) with y | y
      · exact absurd y z
      · exact y.symm
  · have hbd := bad (fun y => hz (by omega))
    exact hseat _ (fun s e1 hs => ⟨fun _ => hbd, fun _ z => (by cases z)⟩) (fun _ => ⟨fun _ => hbd, fun _ z => (by cases z)⟩)
end FT
