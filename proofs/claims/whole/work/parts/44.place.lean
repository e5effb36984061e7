/-! the class's placing of stops -/
theorem or_c {d e : Nat → Nat} {k : Nat} (h : ∀ j, j < k → d j = e j) : orB d k = orB e k := by
  rw [Bool.eq_iff_iff, orB_i, orB_i]
  constructor
  · intro g i hi; rw [← h i (by omega), ← h (i + 1) hi]; exact g i hi
  · intro g i hi; rw [h i (by omega), h (i + 1) hi]; exact g i hi
theorem pow3_le {t k : Nat} (ht : t ≤ 12) (hk : k ≤ 3) (h1 : 1 ≤ t) : t ^ k ≤ 1728 := by
  have a := Nat.pow_le_pow_left ht k
  have b := Nat.pow_le_pow_right (show 0 < 12 by decide) hk
  exact Nat.le_trans a b
theorem cO_all {t k : Nat} (h1 : 1 ≤ t) (ht : t ≤ 12) (hk : k ≤ 3) : cO (oC t k) (t ^ k) ≤ 999 := by
  have hle := cO_le (o := oC t k) (t ^ k)
  by_cases hk3 : k = 3
  · subst hk3
    by_cases h12 : t = 12
    · subst h12; exact cO12
    · by_cases h11 : t = 11
      · subst h11; exact cO11
      · by_cases h10 : t = 10
        · subst h10; exact cO10
        · have : t ^ 3 ≤ 9 ^ 3 := Nat.pow_le_pow_left (by omega) 3
          omega
  · have a := Nat.pow_le_pow_left ht k
    have b := Nat.pow_le_pow_right (show 0 < 12 by decide) (show k ≤ 2 by omega)
    omega
/-- the hurt of the row of a code -/
def wC (t k : Nat) (ea H : Int) (n : Nat) : Int := (wF (dgF t k n) k ea H t).2
section PLC
variable {M : Mm} {t k : Nat} {d : Nat → Nat} {H ea : Int}
theorem c_greatest {Q : Int → Prop} (r2 : M.2.2.1 215 2 = some 216) (hk : k ≤ 3) (ht : t ≤ 12) (hd : ∀ j, j < k → M.1 216 j = ((1 + d j : Nat) : Int)) (he : M.1 215 1 = ea) (hea : 0 ≤ ea ∧ ea ≤ 1000) (hH : 0 ≤ H ∧ H ≤ 200000) (hq : Q (wF d k ea H t).2) : P_X2_greatestHurt 215 H t k M Q := by
  unfold P_X2_greatestHurt P_X2_greatestHurt_9
  refine lp_i (fun y : Int × Int × Int => ∃ n : Nat, y.2.2 = n + 1 ∧ n ≤ t ∧ y.1 = (wF d k ea H n).1 ∧ y.2.1 = (wF d k ea H n).2) (fun y => (14 - y.2.2).toNat) ⟨0, rfl, by omega, rfl, rfl⟩ ?_
  rintro ⟨x4, x5, x6⟩ ⟨n, f1, f2, f3, f4⟩
  dsimp only at f1 f3 f4
  show F_X2_greatestHurt_9 215 H t k M Q _ x4 x5 x6
  have hb := w_b (d := d) (k := k) hea.1 hH n
  unfold F_X2_greatestHurt_9
  refine ⟨fun hlt => ?_, fun hge => ⟨inI_s (by omega) (by omega), ?_⟩⟩
  · have : n = t := by omega
    subst this
    rw [f4]; exact hq
  · intro v9 e9 v10 e10
    unfold P_X2_greatestHurt_33
    refine lp_i (fun y : Int × Int => ∃ j : Nat, y.2 = j ∧ j ≤ k ∧ y.1 = eaF d (n + 1) ea v9 j) (fun y => (3 - y.2).toNat) ⟨0, rfl, by omega, rfl⟩ ?_
    rintro ⟨y4, y7⟩ ⟨j, g1, g2, g3⟩
    dsimp only at g1 g3
    subst g1
    show F_X2_greatestHurt_33 215 H t k v10 x6 M Q _ _ y4 (j : Int)
    have hb2 := ea_b (d := d) (hr := n + 1) (u := v9) hea.1 (by omega) j
    have hsu : eaF d (n + 1) ea v9 (j + 1) = if 1 + d j = n + 1 then max 0 (eaF d (n + 1) ea v9 j - ea) else eaF d (n + 1) ea v9 j := rfl
    unfold F_X2_greatestHurt_33
    refine ⟨fun hle => ⟨inI_s (by omega) (by omega), ?_⟩, fun hlt => ⟨fun z => by omega, fun _ => ?_⟩⟩
    · have : j = k := by omega
      subst this
      intro v ev
      refine ⟨⟨n + 1, by dsimp only; omega, by omega, ?_, ?_⟩, by dsimp only; omega⟩
      · show y4 = eaF d (n + 1) ea ((wF d j ea H n).1 + H) j
        rw [g3, e9, f3]
      · show v10 = max (wF d j ea H n).2 ((wF d j ea H n).1 + H)
        rw [e10, e9, f3, f4]
    · rintro _ rfl
      refine goA r2 (by decide) ⟨by omega, by rw [show (SH 216).2 = 3 by decide]; omega⟩ ?_
      rw [show ((j : Int)).toNat = j by omega, hd j (by omega), he]
      refine ⟨fun g => ⟨inI_s (by omega) (by omega), ?_⟩, fun g => ⟨inI_s (by omega) (by omega), ?_⟩⟩
      · intro v ev
        refine ⟨⟨j + 1, by dsimp only; omega, by omega, ?_⟩, by dsimp only; omega⟩
        dsimp only
        rw [hsu, if_neg (by omega)]; exact g3
      · intro v7 e7
        refine ⟨inI_s (by omega) (by omega), ?_⟩
        intro v8 e8
        refine ⟨⟨j + 1, by dsimp only; omega, by omega, ?_⟩, by dsimp only; omega⟩
        dsimp only
        rw [hsu, if_pos (by omega), e7, g3]
theorem c_nextRow {Q : Int → Mm → Prop} (r2 : M.2.2.1 215 2 = some 216) (hk : k ≤ 3) (ht : t ≤ 12) (hd : ∀ j, j < k → M.1 216 j = ((1 + d j : Nat) : Int)) (hdt : ∀ j, j < k → d j < t) (h0 : (∀ m, m < k → d m + 1 = t) → Q 0 M) (h1 : ∀ i, i < k → d i + 1 < t → (∀ j, i < j → j < k → d j + 1 = t) → ∀ M' : Mm, M'.2 = M.2 → (∀ o j, o ≠ 216 → M'.1 o j = M.1 o j) → (∀ j, j < k → M'.1 216 j = ((1 + nxD d i j : Nat) : Int)) → Q 1 M') : P_X2_nextRow 215 t k M Q := by
  unfold P_X2_nextRow
  refine ⟨inI_s (by omega) (by omega), ?_⟩
  intro v15 e15
  unfold P_X2_nextRow_8
  refine lp_i (fun y : Int => ∃ j : Nat, y = (j : Int) - 1 ∧ j ≤ k ∧ ∀ m, j ≤ m → m < k → d m + 1 = t) (fun y => (y + 1).toNat) ⟨k, by omega, by omega, fun m h2 h3 => by omega⟩ ?_
  rintro y ⟨j, f1, f2, f3⟩
  show F_X2_nextRow_8 215 t k M Q _ y
  unfold F_X2_nextRow_8
  refine ⟨fun hn => h0 (fun m hm => f3 m (by omega) hm), fun hge => ?_⟩
  obtain ⟨i, rfl⟩ : ∃ i : Nat, j = i + 1 := ⟨j - 1, by omega⟩
  have hyi : y = (i : Int) := by omega
  subst hyi
  have hdi := hdt i (by omega)
  rintro _ rfl
  refine goA r2 (by decide) ⟨by omega, by rw [show (SH 216).2 = 3 by decide]; omega⟩ ?_
  rw [show ((i : Int)).toNat = i by omega, hd i (by omega)]
  refine ⟨fun g => ⟨inI_s (by omega) (by omega), ?_⟩, fun g => ?_⟩
  · intro v ev
    refine ⟨⟨i, by omega, by omega, fun m h2 h3 => ?_⟩, by omega⟩
    by_cases e : m = i
    · subst e; omega
    · exact f3 m (by omega) h3
  · rintro _ rfl
    refine goA r2 (by decide) ⟨by omega, by rw [show (SH 216).2 = 3 by decide]; omega⟩ ⟨inI_s (by rw [hd i (by omega)]; omega) (by rw [hd i (by omega)]; omega), ?_⟩
    rw [hd i (by omega)]
    intro v14 e14
    unfold P_X2_nextRow_35
    refine lp_i (fun y : Int × Mm => ∃ j : Nat, y.1 = j ∧ i ≤ j ∧ j ≤ k ∧ y.2.2 = M.2 ∧ (∀ o j, o ≠ 216 → y.2.1 o j = M.1 o j) ∧ ∀ m, m < k → y.2.1 216 m = ((1 + (if m < j then nxD d i m else d m) : Nat) : Int)) (fun y => (3 - y.1).toNat) ⟨i, rfl, by omega, by omega, rfl, fun _ _ _ => rfl, fun m hm => ?_⟩ ?_
    · dsimp only
      rw [hd m hm]
      by_cases e : m < i
      · rw [if_pos e]; unfold nxD; rw [if_pos e]
      · rw [if_neg e]
    rintro ⟨y5, M1⟩ ⟨j, g1, g2, g3, g4, g5, g6⟩
    dsimp only at g1 g4 g5 g6
    subst g1
    show F_X2_nextRow_35 215 k v14 Q _ (j : Int) M1
    unfold F_X2_nextRow_35
    have fin : k ≤ j → Q 1 M1 := fun hle => h1 i (by omega) (by omega) (fun m h2 h3 => f3 m (by omega) h3) M1 g4 g5 (fun m hm => by rw [g6 m hm, if_pos (by omega)])
    refine ⟨fun hle => fin (by omega), fun hlt => ⟨fun h3 => fin (by omega), fun _ => ?_⟩⟩
    rintro _ rfl
    refine goA (k := 216) (by rw [g4]; exact r2) (by decide) ⟨by omega, by rw [show (SH 216).2 = 3 by decide]; omega⟩ ?_
    rw [show ((j : Int)).toNat = j by omega]
    intro M4 e4
    refine ⟨inI_s (by omega) (by omega), ?_⟩
    intro v6 e6
    subst e4
    refine ⟨⟨j + 1, by dsimp only; omega, by omega, by omega, g4, fun o m z => (setI_o M1 216 j v14 z).trans (g5 o m z), fun m hm => ?_⟩, by dsimp only; omega⟩
    show (setI M1 216 j v14).1 216 m = _
    by_cases e : m = j
    · subst e
      rw [setI_s, if_pos (by omega)]
      unfold nxD
      rw [if_neg (by omega), e14]; omega
    · rw [setI_n _ _ _ _ (by omega), g6 m hm]
      by_cases e2 : m < j
      · rw [if_pos e2, if_pos (by omega)]
      · rw [if_neg e2, if_neg (by omega)]
theorem c_copyBest {K : Int × Int × Mm → Prop} {Q : Int → Mm → Prop} {x2 x5 x6 x7 : Int} (r2 : M.2.2.1 215 2 = some 216) (r3 : M.2.2.1 215 3 = some 217) (hk : k ≤ 3) (h7 : 0 ≤ x7 ∧ x7 ≤ 1000) (hq : ∀ M' : Mm, M'.2 = M.2 → (∀ o j, o ≠ 217 → M'.1 o j = M.1 o j) → (∀ j, j < k → M'.1 217 j = M.1 216 j) → K (x6, x7 + 1, M')) : P_X2_placeStops_103 215 x2 k x5 x6 x7 0 M Q K := by
  unfold P_X2_placeStops_103
  refine lp_i (fun y : Int × Mm => ∃ j : Nat, y.1 = j ∧ j ≤ k ∧ y.2.2 = M.2 ∧ (∀ o j, o ≠ 217 → y.2.1 o j = M.1 o j) ∧ ∀ m, m < j → y.2.1 217 m = M.1 216 m) (fun y => (3 - y.1).toNat) ⟨0, rfl, by omega, rfl, fun _ _ _ => rfl, fun m hm => by omega⟩ ?_
  rintro ⟨y9, M1⟩ ⟨j, g1, g2, g3, g4, g5⟩
  dsimp only at g1 g3 g4 g5
  subst g1
  show F_X2_placeStops_103 215 x2 k x5 x6 x7 Q K _ (j : Int) M1
  unfold F_X2_placeStops_103
  refine ⟨fun hle => ⟨inI_s (by omega) (by omega), ?_⟩, fun hlt => ?_⟩
  · have : j = k := by omega
    subst this
    rintro _ rfl
    exact hq M1 g3 g4 g5
  · rintro _ rfl
    rintro _ rfl
    refine goA (k := 216) (by rw [g3]; exact r2) (by decide) ⟨by omega, by rw [show (SH 216).2 = 3 by decide]; omega⟩ ?_
    refine goA (k := 217) (by rw [g3]; exact r3) (by decide) ⟨by omega, by rw [show (SH 217).2 = 3 by decide]; omega⟩ ?_
    rw [show ((j : Int)).toNat = j by omega]
    intro M8 e8
    refine ⟨inI_s (by omega) (by omega), ?_⟩
    intro v ev
    subst e8
    refine ⟨⟨j + 1, by dsimp only; omega, by omega, g3, fun o m z => (setI_o M1 217 j _ z).trans (g4 o m z), fun m hm => ?_⟩, by dsimp only; omega⟩
    show (setI M1 217 j (M1.1 216 j)).1 217 m = _
    by_cases e : m = j
    · subst e; rw [setI_s]; exact g4 _ _ (by decide)
    · rw [setI_n _ _ _ _ (by omega)]; exact g5 m (by omega)
theorem c_place {Q : Int → Mm → Prop} (r2 : M.2.2.1 215 2 = some 216) (r3 : M.2.2.1 215 3 = some 217) (hk : k ≤ 3) (h1 : 1 ≤ t) (ht : t ≤ 12) (he : M.1 215 1 = ea) (hea : 0 ≤ ea ∧ ea ≤ 1000) (hH : 0 ≤ H ∧ H ≤ 200000) (hq : ∀ M' : Mm, M'.2 = M.2 → (∀ o j, o ≠ 216 → o ≠ 217 → M'.1 o j = M.1 o j) → (∀ j, j < k → M'.1 217 j = ((1 + dgF t k (sF (wC t k ea H) (oC t k) (t ^ k)).2 j : Nat) : Int)) → Q (sF (wC t k ea H) (oC t k) (t ^ k)).1 M') : P_X2_placeStops_17 215 t k H 0 M Q := by
  have hW : ∀ n, 0 ≤ wC t k ea H n := fun n => (w_b (d := dgF t k n) (k := k) hea.1 hH t).2.1
  have hcO := cO_all h1 ht hk
  unfold P_X2_placeStops_17
  refine lp_i (fun y : Int × Mm => ∃ i : Nat, y.1 = i ∧ i ≤ k ∧ y.2.2 = M.2 ∧ (∀ o j, o ≠ 216 → o ≠ 217 → y.2.1 o j = M.1 o j) ∧ ∀ j, j < i → y.2.1 216 j = 1 ∧ y.2.1 217 j = 1) (fun y => (3 - y.1).toNat) ⟨0, rfl, by omega, rfl, fun _ _ _ _ => rfl, fun m hm => by omega⟩ ?_
  rintro ⟨y6, M1⟩ ⟨i, f1, f2, f3, f4, f5⟩
  dsimp only at f1 f3 f4 f5
  subst f1
  show F_X2_placeStops_17 215 t k H Q _ (i : Int) M1
  unfold F_X2_placeStops_17
  refine ⟨fun hle => ?_, fun hlt => ?_⟩
  · have : i = k := by omega
    subst this
    have z0 : ∀ j, dgF t i 0 j = 0 := by
      intro j
      have : ∀ m, dgF t m 0 j = 0 := by
        intro m
        induction m with
        | zero => rfl
        | succ m ih => show (if j = m then 0 % t else dgF t m (0 / t) j) = 0; rw [Nat.zero_div, Nat.zero_mod, ih, ite_self]
      exact this i
    have c0 : cdF t (fun _ => 0) i = 0 := by
      have : ∀ m, cdF t (fun _ => 0) m = 0 := by
        intro m
        induction m with
        | zero => rfl
        | succ m ih => show cdF t (fun _ => 0) m * t + 0 = 0; rw [ih, Nat.zero_mul]
      exact this i
    have o0 : oC t i 0 = true := by
      unfold oC
      rw [orB_i]
      intro m _
      rw [z0, z0]; exact Nat.le_refl _
    have s1 : sF (wC t i ea H) (oC t i) 1 = (wC t i ea H 0, 0) := by
      show (if oC t i 0 = true ∧ ((-1 : Int) < 0 ∨ wC t i ea H 0 < -1) then (wC t i ea H 0, 0) else (-1, 0)) = _
      rw [if_pos ⟨o0, Or.inl (by decide)⟩]
    have q1 : cO (oC t i) 1 = 1 := by
      show (if oC t i 0 then 0 + 1 else 0) = 1
      rw [if_pos o0]
    refine c_greatest (d := fun _ => 0) (ea := ea) (by rw [f3]; exact r2) hk ht (fun j hj => (f5 j hj).1) (by rw [f4 _ _ (by decide) (by decide)]; exact he) hea hH ?_
    rw [show (wF (fun _ => 0) i ea H t).2 = wC t i ea H 0 by unfold wC; rw [w_c (fun j _ => z0 j) t]]
    unfold P_X2_placeStops_60
    refine lp_i (fun y : Int × Int × Mm => ∃ d : Nat → Nat, (∀ j, j < i → d j < t) ∧ orB d i = true ∧ y.2.1 = (cO (oC t i) (cdF t d i + 1) : Nat) ∧ y.1 = (sF (wC t i ea H) (oC t i) (cdF t d i + 1)).1 ∧ 0 ≤ y.1 ∧ y.2.2.2 = M.2 ∧ (∀ o j, o ≠ 216 → o ≠ 217 → y.2.2.1 o j = M.1 o j) ∧ (∀ j, j < i → y.2.2.1 216 j = ((1 + d j : Nat) : Int)) ∧ ∀ j, j < i → y.2.2.1 217 j = ((1 + dgF t i (sF (wC t i ea H) (oC t i) (cdF t d i + 1)).2 j : Nat) : Int)) (fun y => (1001 - y.2.1).toNat) ⟨fun _ => 0, fun j _ => h1, by rw [orB_i]; intro _ _; exact Nat.le_refl _, by dsimp only; rw [c0, q1]; rfl, by dsimp only; rw [c0, s1], hW 0, f3, f4, fun j hj => (f5 j hj).1, fun j hj => by dsimp only; rw [c0, s1, z0]; exact (f5 j hj).2⟩ ?_
    rintro ⟨x6, x7, M2⟩ ⟨d, g1, g2, g3, g4, g5, g6, g7, g8, g9⟩
    dsimp only at g3 g4 g5 g6 g7 g8 g9
    show F_X2_placeStops_60 215 t i H Q _ x6 x7 M2
    have clt := cd_lt (t := t) (d := d) i g1
    have cup := cO_up (o := oC t i) (a := cdF t d i + 1) (t ^ i - (cdF t d i + 1))
    rw [show cdF t d i + 1 + (t ^ i - (cdF t d i + 1)) = t ^ i by omega] at cup
    unfold F_X2_placeStops_60
    refine ⟨fun z => by omega, fun _ => ?_⟩
    refine c_nextRow (d := d) (by rw [g6]; exact r2) hk ht g8 g1 (fun htop => ?_) (fun a ha hat htop M3 k1 k2 k3 => ?_)
    · refine ⟨fun _ => ?_, fun z => absurd rfl z⟩
      have sk := sF_skip (W := wC t i ea H) (o := oC t i) (a := cdF t d i + 1) (t ^ i - (cdF t d i + 1)) (fun m h2 h3 => by
        have hm : m < t ^ i := by omega
        have e := cd_dg h1 i m hm
        obtain ⟨j, j1, j2, j3⟩ := cd_dec (t := t) (d := d) (e := dgF t i m) i (fun j _ => dg_lt h1 i m j) (by rw [e]; omega)
        have := htop j j1
        have := dg_lt h1 i m j
        omega)
      rw [show cdF t d i + 1 + (t ^ i - (cdF t d i + 1)) = t ^ i by omega] at sk
      rw [g4, ← sk.1]
      refine hq M2 g6 g7 (fun j hj => ?_)
      rw [sk.1]; exact g9 j hj
    · refine ⟨fun z => absurd z (by decide), fun _ => ?_⟩
      have n1 := nx_gt g1 ha
      have n2 := nx_or g2 ha
      have n3 := nx_d g1 hat
      have n4 := cd_lt (t := t) (d := nxD d a) i n3
      have sk := sF_skip (W := wC t i ea H) (o := oC t i) (a := cdF t d i + 1) (cdF t (nxD d a) i - (cdF t d i + 1)) (fun m h2 h3 => by
        have hm : m < t ^ i := by omega
        have e := cd_dg h1 i m hm
        by_cases ho : oC t i m = true
        · have := nx_no (f := dgF t i m) g1 (fun j _ => dg_lt h1 i m j) ha hat htop ho (by rw [e]; omega)
          rw [e] at this
          omega
        · simpa using ho)
      rw [show cdF t d i + 1 + (cdF t (nxD d a) i - (cdF t d i + 1)) = cdF t (nxD d a) i by omega] at sk
      have hdg := dg_cd i n3
      have ho : oC t i (cdF t (nxD d a) i) = true := by unfold oC; rw [or_c hdg]; exact n2
      have hw : wC t i ea H (cdF t (nxD d a) i) = (wF (nxD d a) i ea H t).2 := by unfold wC; rw [w_c hdg t]
      have hc1 : cO (oC t i) (cdF t (nxD d a) i + 1) = cO (oC t i) (cdF t d i + 1) + 1 := by
        show (if oC t i (cdF t (nxD d a) i) then cO (oC t i) (cdF t (nxD d a) i) + 1 else cO (oC t i) (cdF t (nxD d a) i)) = _
        rw [if_pos ho, sk.2]
      have hs1 : sF (wC t i ea H) (oC t i) (cdF t (nxD d a) i + 1) = if wC t i ea H (cdF t (nxD d a) i) < x6 then (wC t i ea H (cdF t (nxD d a) i), cdF t (nxD d a) i) else sF (wC t i ea H) (oC t i) (cdF t d i + 1) := by
        show (if oC t i (cdF t (nxD d a) i) = true ∧ ((sF (wC t i ea H) (oC t i) (cdF t (nxD d a) i)).1 < 0 ∨ wC t i ea H (cdF t (nxD d a) i) < (sF (wC t i ea H) (oC t i) (cdF t (nxD d a) i)).1) then (wC t i ea H (cdF t (nxD d a) i), cdF t (nxD d a) i) else sF (wC t i ea H) (oC t i) (cdF t (nxD d a) i)) = _
        rw [sk.1, ← g4]
        by_cases e : wC t i ea H (cdF t (nxD d a) i) < x6
        · rw [if_pos ⟨ho, Or.inr e⟩, if_pos e]
        · rw [if_neg (fun z => by omega), if_neg e]
      refine c_greatest (d := nxD d a) (ea := ea) (by rw [k1, g6]; exact r2) hk ht k3 (by rw [k2 _ _ (by decide), g7 _ _ (by decide) (by decide)]; exact he) hea hH ?_
      rw [← hw]
      have hwp := hW (cdF t (nxD d a) i)
      refine ⟨fun hle => ⟨inI_s (by omega) (by omega), ?_⟩, fun hgt => ?_⟩
      · intro v ev
        rw [if_neg (by omega)] at hs1
        refine ⟨⟨nxD d a, n3, n2, by dsimp only; rw [hc1]; omega, by dsimp only; rw [hs1]; exact g4, g5, k1.trans g6, fun o j z1 z2 => (k2 o j z1).trans (g7 o j z1 z2), k3, fun j hj => ?_⟩, by dsimp only; omega⟩
        dsimp only
        rw [hs1, k2 _ _ (by decide)]; exact g9 j hj
      · rw [if_pos (by omega)] at hs1
        refine c_copyBest (by rw [k1, g6]; exact r2) (by rw [k1, g6]; exact r3) hk (by omega) (fun M4 l1 l2 l3 => ?_)
        refine ⟨⟨nxD d a, n3, n2, by dsimp only; rw [hc1]; omega, by dsimp only; rw [hs1], hwp, l1.trans (k1.trans g6), fun o j z1 z2 => (l2 o j z2).trans ((k2 o j z1).trans (g7 o j z1 z2)), fun j hj => (l2 _ _ (by decide)).trans (k3 j hj), fun j hj => ?_⟩, by dsimp only; omega⟩
        dsimp only
        rw [hs1, l3 j hj, k3 j hj, hdg j hj]
  · rintro _ rfl
    refine goA (k := 216) (by rw [f3]; exact r2) (by decide) ⟨by omega, by rw [show (SH 216).2 = 3 by decide]; omega⟩ ?_
    rw [show ((i : Int)).toNat = i by omega]
    rintro _ rfl
    rintro _ rfl
    refine goA (k := 217) (by show M1.2.2.1 215 3 = _; rw [f3]; exact r3) (by decide) ⟨by omega, by rw [show (SH 217).2 = 3 by decide]; omega⟩ ?_
    intro M25 e25
    refine ⟨inI_s (by omega) (by omega), ?_⟩
    intro v ev
    subst e25
    refine ⟨⟨i + 1, by dsimp only; omega, by omega, f3, fun o j z1 z2 => (setI_o _ 217 i 1 z2).trans ((setI_o M1 216 i 1 z1).trans (f4 o j z1 z2)), fun j hj => ?_⟩, by dsimp only; omega⟩
    show (setI (setI M1 216 i 1) 217 i 1).1 216 j = 1 ∧ (setI (setI M1 216 i 1) 217 i 1).1 217 j = 1
    rw [setI_o (setI M1 216 i 1) 217 i 1 (by decide)]
    by_cases e : j = i
    · subst e; rw [setI_s, setI_s]; exact ⟨rfl, rfl⟩
    · rw [setI_n _ _ _ _ (by omega), setI_n _ _ _ _ (by omega), setI_o _ _ _ _ (by decide)]
      exact f5 j (by omega)
end PLC
