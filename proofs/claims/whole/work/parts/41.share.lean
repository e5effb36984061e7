/-! setting, share, fewest -/
def bsF (f : Nat → Int) : Nat → Nat × Int
  | 0 => (0, 0)
  | n + 1 => if (bsF f n).2 < f n then (n, f n) else bsF f n
theorem bsF_v {f : Nat → Int} (hf : ∀ n, 0 ≤ f n) : ∀ n, 1 ≤ n → f (bsF f n).1 = (bsF f n).2 := by
  intro n
  induction n with
  | zero => intro h; omega
  | succ n ih =>
    intro _
    show f (if (bsF f n).2 < f n then (n, f n) else bsF f n).1 = (if (bsF f n).2 < f n then (n, f n) else bsF f n).2
    split
    · rfl
    · rename_i h
      rcases Nat.eq_zero_or_pos n with h0 | h0
      · subst h0
        have h1 : ¬ (0 : Int) < f 0 := h
        have := hf 0
        show f 0 = 0
        omega
      · exact ih h0
theorem bsF_b {f : Nat → Int} {n : Nat} : (bsF f n).1 ≤ n - 1 := by
  induction n with
  | zero => exact Nat.le_refl _
  | succ n ih =>
    show (if (bsF f n).2 < f n then (n, f n) else bsF f n).1 ≤ n
    split
    · exact Nat.le_refl _
    · omega
def orF (g : Nat → Nat) : Nat → Nat
  | 0 => 0
  | n + 1 => orF g n ||| g n
def anF (g : Nat → Bool) : Nat → Bool
  | 0 => false
  | n + 1 => anF g n || g n
theorem anF_i {g : Nat → Bool} : ∀ n, anF g n = true ↔ ∃ s, s < n ∧ g s = true := by
  intro n
  induction n with
  | zero => exact ⟨fun h => (by cases h), fun ⟨_, h, _⟩ => (by omega)⟩
  | succ n ih =>
    show (anF g n || g n) = true ↔ _
    rw [Bool.or_eq_true, ih]
    constructor
    · rintro (⟨s, h1, h2⟩ | h)
      · exact ⟨s, by omega, h2⟩
      · exact ⟨n, by omega, h⟩
    · rintro ⟨s, h1, h2⟩
      by_cases e : s = n
      · subst e; exact Or.inr h2
      · exact Or.inl ⟨s, by omega, h2⟩
theorem orF_t {g : Nat → Nat} {b : Nat} : ∀ n, (orF g n).testBit b = anF (fun s => (g s).testBit b) n := by
  intro n
  induction n with
  | zero => simp [orF, anF]
  | succ n ih => show (orF g n ||| g n).testBit b = (anF _ n || (g n).testBit b); rw [Nat.testBit_or, ih]
theorem orF_lt {g : Nat → Nat} {k : Nat} : ∀ n, (∀ s, s < n → g s < 2 ^ k) → orF g n < 2 ^ k := by
  intro n
  induction n with
  | zero => intro _; exact Nat.two_pow_pos k
  | succ n ih => intro h; exact Nat.or_lt_two_pow (ih (fun s hs => h s (by omega))) (h n (by omega))
theorem and_any {g : Nat → Bool} {n t : Nat} : (bitsF g n &&& t) ≠ 0 ↔ anF (fun s => t.testBit s && g s) n = true := by
  rw [anF_i]
  constructor
  · intro h
    obtain ⟨i, hi⟩ := Nat.exists_testBit_of_ne_zero h
    rw [Nat.testBit_and, bitsF_t] at hi
    simp at hi
    exact ⟨i, hi.1.1, by simp [hi.1.2, hi.2]⟩
  · rintro ⟨s, h1, h2⟩ h0
    have : (bitsF g n &&& t).testBit s = true := by
      rw [Nat.testBit_and, bitsF_t]
      simp at h2
      simp [h1, h2.1, h2.2]
    rw [h0] at this
    simp at this
def popF (n : Nat) : Nat → Nat
  | 0 => 0
  | k + 1 => popF n k + (if n.testBit k then 1 else 0)
def pop (n : Nat) : Nat := popF n 12
theorem pop_step0 : ∀ a : Nat, a < 64 → ∀ c : Nat, c < 64 → 64 * a + c ≠ 0 → pop ((64 * a + c) &&& (64 * a + c - 1)) + 1 = pop (64 * a + c) ∧ ((64 * a + c) &&& (64 * a + c - 1)) < 64 * a + c := by decide +kernel
theorem pop_step (n : Nat) (h : n < 4096) (h0 : n ≠ 0) : pop (n &&& (n - 1)) + 1 = pop n ∧ (n &&& (n - 1)) < n := by
  have := pop_step0 (n / 64) (by omega) (n % 64) (by omega)
  rw [Nat.div_add_mod n 64] at this
  exact this h0
theorem popF_le (n : Nat) : ∀ k, popF n k ≤ k := by
  intro k
  induction k with
  | zero => exact Nat.le_refl _
  | succ k ih =>
    show popF n k + (if n.testBit k then 1 else 0) ≤ k + 1
    split <;> omega
theorem pop_12 (n : Nat) (_ : n < 4096) : pop n ≤ 12 := popF_le n 12
def bc1 (x : Int) : Int := x - (iAnd (iUshr x 1) 1431655765)
def bc2 (v : Int) : Int := (iAnd v 858993459) + (iAnd (iUshr v 2) 858993459)
def bc3 (v : Int) : Int := iAnd (v + (iUshr v 4)) 252645135
def bc4 (v : Int) : Int := v + (iUshr v 8)
def bc5 (v : Int) : Int := v + (iUshr v 16)
theorem bc_all : ∀ n : Nat, n < 64 → (-2147483648 ≤ bc1 n ∧ bc1 n < 2147483648) ∧ (-2147483648 ≤ bc2 (bc1 n) ∧ bc2 (bc1 n) < 2147483648) ∧ (-2147483648 ≤ bc2 (bc1 n) + iUshr (bc2 (bc1 n)) 4 ∧ bc2 (bc1 n) + iUshr (bc2 (bc1 n)) 4 < 2147483648) ∧ (-2147483648 ≤ bc4 (bc3 (bc2 (bc1 n))) ∧ bc4 (bc3 (bc2 (bc1 n))) < 2147483648) ∧ (-2147483648 ≤ bc5 (bc4 (bc3 (bc2 (bc1 n)))) ∧ bc5 (bc4 (bc3 (bc2 (bc1 n)))) < 2147483648) ∧ iAnd (bc5 (bc4 (bc3 (bc2 (bc1 n))))) 63 = (pop n : Int) := by decide +kernel
def fwF (ok : Nat → Bool) : Nat → Int
  | 0 => -4
  | n + 1 => if ok n = true ∧ (fwF ok n = -4 ∨ pop n < pop (fwF ok n).toNat) then (n : Int) else fwF ok n
theorem fwF_b {ok : Nat → Bool} : ∀ n : Nat, fwF ok n = -4 ∨ (0 ≤ fwF ok n ∧ fwF ok n < n) := by
  intro n
  induction n with
  | zero => exact Or.inl rfl
  | succ n ih =>
    show (if ok n = true ∧ (fwF ok n = -4 ∨ pop n < pop (fwF ok n).toNat) then (n : Int) else fwF ok n) = -4 ∨ _
    by_cases h : ok n = true ∧ (fwF ok n = -4 ∨ pop n < pop (fwF ok n).toNat)
    · right
      show 0 ≤ (if ok n = true ∧ (fwF ok n = -4 ∨ pop n < pop (fwF ok n).toNat) then (n : Int) else fwF ok n) ∧ (if ok n = true ∧ (fwF ok n = -4 ∨ pop n < pop (fwF ok n).toNat) then (n : Int) else fwF ok n) < _
      rw [if_pos h]; omega
    · rcases ih with ih | ih
      · left; rw [if_neg h]; exact ih
      · right
        show 0 ≤ (if ok n = true ∧ (fwF ok n = -4 ∨ pop n < pop (fwF ok n).toNat) then (n : Int) else fwF ok n) ∧ (if ok n = true ∧ (fwF ok n = -4 ∨ pop n < pop (fwF ok n).toNat) then (n : Int) else fwF ok n) < _
        rw [if_neg h]; omega
/-- people of bodies that some seat of the set fits -/
def shF (I : IFn) (ns N t : Nat) : Int := ppF I (fun b => anF (fun s => t.testBit s && fsB I b s 10) ns) N
section SHR
variable {M : Mm} {I : IFn} {R : RFn} {p q s b : Nat} {x1 x2 x3 x4 : Int}
theorem c_bitCount {n : Nat} {Q : Int → Prop} (hn : n < 64) (hq : Q (pop n : Nat)) : P_J6_bitCount_0f7a4 n M Q := by
  obtain ⟨h1, h2, h3, h4, h5, h6⟩ := bc_all n hn
  unfold P_J6_bitCount_0f7a4
  refine ⟨h1, ?_⟩
  intro v1 e1
  have e1 : v1 = bc1 n := e1
  subst e1
  refine ⟨h2, ?_⟩
  intro v2 e2
  have e2 : v2 = bc2 (bc1 n) := e2
  subst e2
  refine ⟨h3, ?_⟩
  intro v3 e3
  have e3 : v3 = bc3 (bc2 (bc1 n)) := e3
  subst e3
  refine ⟨h4, ?_⟩
  intro v4 e4
  have e4 : v4 = bc4 (bc3 (bc2 (bc1 n))) := e4
  subst e4
  refine ⟨h5, ?_⟩
  intro v5 e5
  have e5 : v5 = bc5 (bc4 (bc3 (bc2 (bc1 n)))) := e5
  subst e5
  rw [h6]
  exact hq
theorem r_bits {n : Nat} {Q : Int → Prop} (hn : n < 4096) (hq : Q (pop n : Nat)) : P_X12_bits n M Q := by
  unfold P_X12_bits P_X12_bits_4
  refine lp_i (fun y : Int × Int => ∃ c k : Nat, y.1 = c ∧ y.2 = k ∧ k < 4096 ∧ c + pop k = pop n) (fun y => y.2.toNat) ⟨0, n, rfl, rfl, hn, by omega⟩ ?_
  rintro ⟨y1, y2⟩ ⟨c, k, e1, e2, e3, e4⟩
  dsimp only at e1 e2
  subst e1 e2
  show F_X12_bits_4 M Q _ (c : Int) (k : Int)
  have hp12 := pop_12 n hn
  unfold F_X12_bits_4
  refine ⟨fun h0 => ?_, fun h0 => ⟨inI_s (by omega) (by omega), ?_⟩⟩
  · have : k = 0 := by omega
    subst this
    have hc : c = pop n := by rw [← e4]; show c = c + pop 0; rw [show pop 0 = 0 by decide]; rfl
    rw [hc]; exact hq
  · intro v1 ev1
    refine ⟨inI_s (by omega) (by omega), ?_⟩
    intro v2 ev2
    obtain ⟨g1, g2⟩ := pop_step k e3 (by omega)
    have e5 : v2 = ((k &&& (k - 1) : Nat) : Int) := by
      rw [ev2, show (k : Int) - 1 = ((k - 1 : Nat) : Int) by omega, iAnd_n (by omega) (by omega)]
    exact ⟨⟨c + 1, k &&& (k - 1), by dsimp only; omega, e5, by omega, by omega⟩, by dsimp only; omega⟩
theorem c_peopleAt {c N : Nat} {Q : Int → Prop} (h : FA M I R p q) (hN : I 221 12 = N) (hs : (s : Int) < I 227 1) (hc : c < 100) (hq : Q (ppF I (fun b => decide (ftP I b s (c / 10 : Nat) (c % 10 : Nat))) N)) : P_X1_peopleAt 170 (some (p + 35 + 8 * s)) (Int.tdiv c 10) (Int.tmod c 10) M Q := by
  obtain ⟨n', e0, e1, e2, e3⟩ := h.nb
  have hNn : n' = N := by omega
  subst hNn
  have hB : StrB M.2.2.1 := by rw [h.2.1]; exact h.1.1.2.2.2.2.1
  have d1 : Int.tdiv (c : Int) 10 = ((c / 10 : Nat) : Int) := by rw [Int.tdiv_eq_ediv_of_nonneg (by omega)]; omega
  have d2 : Int.tmod (c : Int) 10 = ((c % 10 : Nat) : Int) := by rw [Int.tmod_eq_emod_of_nonneg (by omega)]; omega
  rw [d1, d2]
  unfold P_X1_peopleAt P_X1_peopleAt_6
  refine lp_i (fun y : Int × Int => ∃ i : Nat, y.2 = i ∧ i ≤ n' ∧ y.1 = ppF I (fun b => decide (ftP I b s (c / 10 : Nat) (c % 10 : Nat))) i) (fun y => (12 - y.2).toNat) ⟨0, rfl, by omega, rfl⟩ ?_
  rintro ⟨y4, y5⟩ ⟨i, f1, f2, f3⟩
  dsimp only at f1 f3
  subst f1
  show F_X1_peopleAt_6 170 _ _ _ M Q _ y4 (i : Int)
  unfold F_X1_peopleAt_6
  rw [e2]
  have hpb := pp_b h (f := fun b => decide (ftP I b s (c / 10 : Nat) (c % 10 : Nat))) (n := i) (by omega)
  refine ⟨fun hle => ?_, fun hlt => ?_⟩
  · have : i = n' := by omega
    subst this
    rw [f3]; exact hq
  · have hp5 := h.hp (b := i) (by omega)
    have hr : M.2.2.1 171 ((i : Int)).toNat = some (173 + 3 * i) := by rw [show ((i : Int)).toNat = i by omega]; exact (hB.2.2 i (by omega)).1
    rintro _ rfl
    refine goA hB.1 (by decide) ⟨by omega, by rw [show (SH 171).2 = 12 by decide]; omega⟩ ?_
    intro r4 er4
    rw [hr] at er4
    subst er4
    refine c_fitsAt h (by omega) hs (by omega) (by omega) ⟨fun g => ⟨inI_s (by omega) (by omega), ?_⟩, fun g => ?_⟩
    · rw [bi0] at g
      intro v ev
      refine ⟨⟨i + 1, by dsimp only; omega, by omega, ?_⟩, by dsimp only; omega⟩
      dsimp only
      rw [pp_s, if_neg (fun z => g (decide_eq_true_iff.mp z)), f3]; simp
    · rw [bi0] at g
      have g := Classical.not_not.mp g
      rintro _ rfl
      refine goA hB.1 (by decide) ⟨by omega, by rw [show (SH 171).2 = 12 by decide]; omega⟩ ?_
      rintro _ rfl
      refine goO hr ⟨by omega, by rw [(sh_B i (by omega)).1]⟩ ?_
      rw [hp5.1]
      refine ⟨inI_s (by omega) (by omega), ?_⟩
      intro v13 e13
      refine ⟨inI_s (by omega) (by omega), ?_⟩
      intro v14 e14
      refine ⟨⟨i + 1, by dsimp only; omega, by omega, ?_⟩, by dsimp only; omega⟩
      dsimp only
      rw [pp_s, if_pos (decide_eq_true_iff.mpr g), e13, f3]
/-- people at a setting -/
def paF (I : IFn) (s N c : Nat) : Int := ppF I (fun b => decide (ftP I b s (c / 10 : Nat) (c % 10 : Nat))) N
theorem st_setting (h : Rel M) : P_X11_setting 0 x1 x2 M (fun r => P_X12_setting 221 x1 x2 M (fun r2 => r = r2)) := by
  obtain ⟨p, q, hF⟩ := id h
  obtain ⟨hS, hT, hC, hH, hA, hM, hR, hL, hE⟩ := id hF
  have hFA := FA.self hF
  obtain ⟨N, hN, hN12, hNc, hNr⟩ := hFA.nb
  have hpl : p ≤ 87 := by rcases hS.1.p with rfl | rfl <;> omega
  have hEn : 0 ≤ M.1 227 1 ∧ M.1 227 1 ≤ 6 := ⟨hE.2.1, hE.2.2.1⟩
  have he := hE.1
  have hSM := hS.2.2.2.2.2.1
  have bad : ¬ ((0 ≤ x1 ∧ x1 < M.1 227 1) ∧ 0 ≤ x2 ∧ x2 ≤ 1) → P_X12_setting 221 x1 x2 M (fun r2 => -1 = r2) := by
    intro hb
    unfold P_X12_setting
    rw [r_isSeat hSM hEn]
    refine ⟨fun _ => rfl, fun g1 => ?_⟩
    rw [p_in]
    refine ⟨fun g2 => ?_, fun _ => rfl⟩
    rw [bi0] at g1 g2
    exact absurd ⟨by omega, by omega⟩ hb
  unfold P_X11_setting
  rintro _ rfl
  refine goO hS.2.1 ⟨by omega, by rw [(sh_pl hS.1.p).1]⟩ ?_
  refine c_seatAt hS.1.p hS.P (by omega) (fun s e1 hs => ?_) (fun hz => ⟨fun _ => bad (fun y => hz (by omega)), fun _ z => (by cases z)⟩)
  refine ⟨fun z => (by cases z), fun _ _ => ?_⟩
  rw [p_isWithin]
  refine ⟨fun g2 => ?_, fun z => bad (fun y => bi0.mp z y.2)⟩
  have g2' := g2
  rw [bi0] at g2'
  have hs2 : (s : Int) < M.1 227 1 := by omega
  subst e1
  have fpos : ∀ c, 0 ≤ paF M.1 s N c := fun c => (pp_b hFA (f := fun b => decide (ftP M.1 b s (c / 10 : Nat) (c % 10 : Nat))) (n := N) (by omega)).1
  have fmax : ∀ c, paF M.1 s N c ≤ 12000 := fun c => by have := (pp_b hFA (f := fun b => decide (ftP M.1 b s (c / 10 : Nat) (c % 10 : Nat))) (n := N) (by omega)).2; unfold paF; omega
  have ref : ∀ Q : Int → Prop, Q (if x2 = 0 then ((bsF (paF M.1 s N) 100).1 : Int) else (bsF (paF M.1 s N) 100).2) → P_X12_setting 221 s x2 M Q := by
    intro Q hq
    unfold P_X12_setting
    rw [r_isSeat hSM hEn]
    refine ⟨fun z => by rw [bi0] at z; omega, fun _ => ?_⟩
    rw [p_in]
    refine ⟨fun _ => ?_, fun z => absurd z g2⟩
    unfold P_X12_setting_28
    refine lp_i (fun y : Int × Int × Int => ∃ c : Nat, y.2.2 = c ∧ c ≤ 100 ∧ y.1 = ((bsF (paF M.1 s N) c).1 : Nat) ∧ (c = 0 → y.2.1 = -1) ∧ (1 ≤ c → y.2.1 = (bsF (paF M.1 s N) c).2)) (fun y => (100 - y.2.2).toNat) ⟨0, rfl, by omega, rfl, fun _ => rfl, fun z => by omega⟩ ?_
    rintro ⟨y3, y4, y5⟩ ⟨c, f1, f2, f3, f4, f5⟩
    dsimp only at f1 f3 f4 f5
    subst f1
    show F_X12_setting_28 221 s x2 M Q _ y3 y4 (c : Int)
    unfold F_X12_setting_28
    refine ⟨fun hle => ?_, fun hlt => ?_⟩
    · have : c = 100 := by omega
      subst this
      refine ⟨fun z => ?_, fun z => ?_⟩
      · rw [if_neg z] at hq; rw [f5 (by omega)]; exact hq
      · rw [if_pos z] at hq; rw [f3]; exact hq
    · unfold P_X12_setting_41
      have d1 : Int.tdiv (c : Int) 10 = ((c / 10 : Nat) : Int) := by rw [Int.tdiv_eq_ediv_of_nonneg (by omega)]; omega
      have d2 : Int.tmod (c : Int) 10 = ((c % 10 : Nat) : Int) := by rw [Int.tmod_eq_emod_of_nonneg (by omega)]; omega
      refine lp_i (fun y : Int × Int => ∃ i : Nat, y.2 = i ∧ i ≤ N ∧ y.1 = ppF M.1 (fun b => decide (ftP M.1 b s (c / 10 : Nat) (c % 10 : Nat))) i) (fun y => (12 - y.2).toNat) ⟨0, rfl, by omega, rfl⟩ ?_
      rintro ⟨y6, y7⟩ ⟨i, g1, g3, g4⟩
      dsimp only at g1 g4
      subst g1
      show F_X12_setting_41 221 s x2 y3 y4 c M Q _ _ y6 (i : Int)
      have hpb := pp_b hFA (f := fun b => decide (ftP M.1 b s (c / 10 : Nat) (c % 10 : Nat))) (n := i) (by omega)
      unfold F_X12_setting_41
      rw [hNr]
      refine ⟨fun hle => ?_, fun hlt2 => ?_⟩
      · have : i = N := by omega
        subst this
        have e6 : y6 = paF M.1 s i c := g4
        have es : bsF (paF M.1 s i) (c + 1) = if (bsF (paF M.1 s i) c).2 < paF M.1 s i c then (c, paF M.1 s i c) else bsF (paF M.1 s i) c := rfl
        have fc := fpos c
        refine ⟨fun h1 => ⟨inI_s (by omega) (by omega), ?_⟩, fun h1 => ⟨inI_s (by omega) (by omega), ?_⟩⟩
        · intro v ev
          have hc1 : 1 ≤ c := by
            rcases Nat.eq_zero_or_pos c with z | z
            · have := f4 z; omega
            · exact z
          have := f5 hc1
          refine ⟨⟨c + 1, by dsimp only; omega, by omega, ?_, fun z => by omega, fun _ => ?_⟩, by dsimp only; omega⟩
          · dsimp only; rw [es, if_neg (by omega)]; exact f3
          · dsimp only; rw [es, if_neg (by omega)]; exact this
        · intro v ev
          refine ⟨⟨c + 1, by dsimp only; omega, by omega, ?_, fun z => by omega, fun _ => ?_⟩, by dsimp only; omega⟩
          · dsimp only
            rcases Nat.eq_zero_or_pos c with z | z
            · subst z
              have hb := bsF_b (f := paF M.1 s i) (n := 1)
              rw [show (bsF (paF M.1 s i) (0 + 1)).1 = 0 from by rw [Nat.zero_add]; omega]
            · have := f5 z
              rw [es, if_pos (by omega)]
          · dsimp only
            rcases Nat.eq_zero_or_pos c with z | z
            · subst z
              have hv := bsF_v fpos 1 (by omega)
              have hb := bsF_b (f := paF M.1 s i) (n := 1)
              rw [show (bsF (paF M.1 s i) 1).1 = 0 by omega] at hv
              rw [← hv]; exact e6
            · have := f5 z
              rw [es, if_pos (by omega)]; exact e6
      · have hp5 := hFA.hp (b := i) (by omega)
        rw [d1, d2]
        refine r_fitsAt hFA (by omega) hs2 (by omega) (by omega) ⟨fun g => ⟨inI_s (by omega) (by omega), ?_⟩, fun g => ?_⟩
        · rw [bi0] at g
          intro v4 ev4
          refine ⟨inI_s (by omega) (by omega), ?_⟩
          intro v5 ev5
          refine ⟨⟨i + 1, by dsimp only; omega, by omega, ?_⟩, by dsimp only; omega⟩
          dsimp only
          rw [pp_s, if_neg (fun z => g (decide_eq_true_iff.mp z)), ev4, g4]
        · rw [bi0] at g
          have g := Classical.not_not.mp g
          rintro _ rfl
          refine ⟨inI_s (by omega) (by omega), inI_s (by omega) (by omega), goA hSM.2.2.2.2.2.2.2.2.2.2.2.1 (by decide) ⟨by omega, by rw [show (SH 233).2 = 72 by decide]; omega⟩ ?_⟩
          rw [show (6 * (i : Int) + 5).toNat = 6 * i + 5 by omega]
          refine ⟨inI_s (by omega) (by omega), ?_⟩
          intro v9 ev9
          refine ⟨inI_s (by omega) (by omega), ?_⟩
          intro v10 ev10
          refine ⟨⟨i + 1, by dsimp only; omega, by omega, ?_⟩, by dsimp only; omega⟩
          dsimp only
          rw [pp_s, if_pos (decide_eq_true_iff.mpr g), ev9, g4]
  rintro _ rfl
  refine goO hS.2.2.2.1.2.1 (by decide) ?_
  unfold P_X1_bestSetting P_X1_bestSetting_7
  refine lp_i (fun y : Int × Int × Int => ∃ c : Nat, y.2.2 = c ∧ c ≤ 100 ∧ y.1 = ((bsF (paF M.1 s N) c).1 : Nat) ∧ y.2.1 = (bsF (paF M.1 s N) c).2) (fun y => (100 - y.2.2).toNat) ⟨0, rfl, by omega, rfl, rfl⟩ ?_
  rintro ⟨y2, y3, y4⟩ ⟨c, f1, f2, f3, f4⟩
  dsimp only at f1 f3 f4
  subst f1
  show F_X1_bestSetting_7 170 _ M _ _ y2 y3 (c : Int)
  unfold F_X1_bestSetting_7
  refine ⟨fun hle => ?_, fun hlt => ?_⟩
  · have : c = 100 := by omega
    subst this
    have hb := bsF_b (f := paF M.1 s N) (n := 100)
    subst f3
    refine ⟨fun z => ?_, fun z => ref _ (by rw [if_pos z])⟩
    rintro _ rfl
    refine goO hS.2.2.2.1.2.1 (by decide) (c_peopleAt hFA hN hs2 (by omega) (ref _ ?_))
    rw [if_neg z]
    exact bsF_v fpos 100 (by omega)
  · refine c_peopleAt hFA hN hs2 (by omega) ?_
    have es : bsF (paF M.1 s N) (c + 1) = if (bsF (paF M.1 s N) c).2 < paF M.1 s N c then (c, paF M.1 s N c) else bsF (paF M.1 s N) c := rfl
    refine ⟨fun h1 => ⟨inI_s (by omega) (by omega), ?_⟩, fun h1 => ⟨inI_s (by omega) (by omega), ?_⟩⟩
    · intro v ev
      have h1 : paF M.1 s N c ≤ y3 := h1
      exact ⟨⟨c + 1, by dsimp only; omega, by omega, by dsimp only; rw [es, if_neg (by omega)]; exact f3, by dsimp only; rw [es, if_neg (by omega)]; exact f4⟩, by dsimp only; omega⟩
    · intro v ev
      have h1 : ¬ paF M.1 s N c ≤ y3 := h1
      exact ⟨⟨c + 1, by dsimp only; omega, by omega, by dsimp only; rw [es, if_pos (by omega)], by dsimp only; rw [es, if_pos (by omega)]; rfl⟩, by dsimp only; omega⟩
end SHR
