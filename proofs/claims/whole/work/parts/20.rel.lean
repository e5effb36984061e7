/-! WHAT HOLDS BETWEEN TWO CALLS: the class's cells and the reference's say the same -/
abbrev IFn : Type := Nat → Nat → Int
abbrev RFn : Type := Nat → Nat → Option Nat
theorem lp_i {S : Type} {F : (S → Prop) → S → Prop} {s : S} (I : S → Prop) (μ : S → Nat) (h0 : I s) (hs : ∀ x, I x → F (fun y => I y ∧ μ y < μ x) x) : lpW F s := ⟨I, μ, h0, hs⟩
theorem goO {ci k : Nat} {r : Option Nat} {P : Nat → Prop} (hr : r = some k) (hk : k < 243 ∧ (SH k).1 = ci) (h : P k) : ∃ o, isO ci r o ∧ P o := ⟨k, ⟨hr, hk⟩, h⟩
theorem goA {ka k : Nat} {r : Option Nat} {i : Int} {P : Nat → Prop} (hr : r = some k) (hk : k < 243 ∧ (SH k).1 = ka) (hi : 0 ≤ i ∧ i < ((SH k).2 : Int)) (h : P k) : ∃ o, isA ka r o i ∧ P o := ⟨k, ⟨hr, hk.1, hk.2, hi⟩, h⟩
theorem sxO {ci k : Nat} {P : Nat → Prop} : (∃ o, isO ci (some k) o ∧ P o) ↔ ((k < 243 ∧ (SH k).1 = ci) ∧ P k) :=
  ⟨fun ⟨_, ⟨e, h1, h2⟩, h3⟩ => by cases e; exact ⟨⟨h1, h2⟩, h3⟩, fun ⟨h1, h2⟩ => ⟨k, ⟨rfl, h1⟩, h2⟩⟩
theorem sxA {ka k : Nat} {i : Int} {P : Nat → Prop} : (∃ o, isA ka (some k) o i ∧ P o) ↔ ((k < 243 ∧ (SH k).1 = ka ∧ 0 ≤ i ∧ i < ((SH k).2 : Int)) ∧ P k) :=
  ⟨fun ⟨_, ⟨e, h1⟩, h3⟩ => by cases e; exact ⟨h1, h3⟩, fun ⟨h1, h2⟩ => ⟨k, ⟨rfl, h1⟩, h2⟩⟩
/-- 1 or 0 -/
def bi (c : Prop) [Decidable c] : Int := if c then 1 else 0
theorem bi0 {c : Prop} [Decidable c] : bi c = 0 ↔ ¬ c := by unfold bi; split <;> simp_all
theorem bi01 {c : Prop} [Decidable c] : bi c = 0 ∨ bi c = 1 := by unfold bi; split <;> simp_all
theorem bi_t {c : Prop} [Decidable c] (h : c) : bi c = 1 := if_pos h
theorem bi_f {c : Prop} [Decidable c] (h : ¬ c) : bi c = 0 := if_neg h
theorem p_isWithin {v a b : Int} {M : Mm} {Q : Int → Prop} : P_X11_isWithin v a b M Q ↔ Q (bi (a ≤ v ∧ v ≤ b)) := by
  unfold P_X11_isWithin
  by_cases h1 : v < a
  · rw [bi_f (by omega)]; simp [h1]
  · by_cases h2 : b < v
    · rw [bi_f (by omega)]; simp [h1, h2]
    · rw [bi_t (by omega)]; simp [h1, h2]
theorem p_in {v a b : Int} {M : Mm} {Q : Int → Prop} : P_X12_in v a b M Q ↔ Q (bi (a ≤ v ∧ v ≤ b)) := by
  unfold P_X12_in
  by_cases h1 : v < a
  · rw [bi_f (by omega)]; simp [h1]
  · by_cases h2 : b < v
    · rw [bi_f (by omega)]; simp [h1, h2]
    · rw [bi_t (by omega)]; simp [h1, h2]
theorem p_isRoad {v : Int} {M : Mm} {Q : Int → Prop} : P_X11_isRoad v M Q ↔ Q (bi (0 ≤ v ∧ v ≤ 3)) := by unfold P_X11_isRoad; rw [p_isWithin]; simp [bi01]
theorem p_isTone {v : Int} {M : Mm} {Q : Int → Prop} : P_X11_isTone v M Q ↔ Q (bi (0 ≤ v ∧ v ≤ 3)) := by unfold P_X11_isTone; rw [p_isWithin]; simp [bi01]
theorem p_isHours {v : Int} {M : Mm} {Q : Int → Prop} : P_X11_isHours v M Q ↔ Q (bi (0 ≤ v ∧ v ≤ 24)) := by unfold P_X11_isHours; rw [p_isWithin]; simp [bi01]
theorem p_isRoad2 {v : Int} {M : Mm} {Q : Int → Prop} : P_X12_isRoad v M Q ↔ Q (bi (0 ≤ v ∧ v ≤ 3)) := by unfold P_X12_isRoad; rw [p_in]; simp [bi01]
-- which cell is what
def StrP (R : RFn) (p : Nat) : Prop := R p 0 = some (p + 1) ∧ R p 2 = some (p + 2) ∧ (∀ l, l < 8 → R (p + 1) l = some (p + 3 + 4 * l) ∧ R (p + 3 + 4 * l) 0 = some (p + 4 + 4 * l) ∧ R (p + 3 + 4 * l) 1 = some (p + 5 + 4 * l) ∧ R (p + 3 + 4 * l) 3 = some (p + 6 + 4 * l)) ∧ ∀ s, s < 6 → R (p + 2) s = some (p + 35 + 8 * s) ∧ R (p + 35 + 8 * s) 5 = some (p + 36 + 8 * s) ∧ ∀ i, i < 6 → R (p + 36 + 8 * s) i = some (p + 37 + 8 * s + i)
def StrB (R : RFn) : Prop := R 170 0 = some 171 ∧ R 170 3 = some 172 ∧ ∀ i, i < 12 → R 171 i = some (173 + 3 * i) ∧ R (173 + 3 * i) 6 = some (174 + 3 * i) ∧ R (173 + 3 * i) 7 = some (175 + 3 * i)
def StrC (R : RFn) : Prop := R 0 0 = some 1 ∧ R 0 3 = some 170 ∧ R 0 4 = some 209 ∧ R 0 5 = some 215 ∧ R 0 6 = some 218 ∧ R 0 7 = some 220 ∧ R 1 0 = some 2 ∧ R 1 2 = some 3 ∧ R 209 3 = some 210 ∧ R 209 4 = some 211 ∧ R 209 5 = some 212 ∧ R 209 6 = some 213 ∧ R 209 7 = some 214 ∧ R 215 2 = some 216 ∧ R 215 3 = some 217 ∧ R 218 0 = some 219
def StrM (R : RFn) : Prop := R 221 1 = some 222 ∧ R 221 2 = some 223 ∧ R 221 3 = some 224 ∧ R 221 4 = some 225 ∧ R 221 5 = some 226 ∧ R 221 6 = some 227 ∧ R 221 7 = some 228 ∧ R 221 8 = some 229 ∧ R 221 9 = some 230 ∧ R 221 10 = some 231 ∧ R 221 11 = some 232 ∧ R 221 13 = some 233 ∧ R 221 14 = some 234 ∧ R 221 16 = some 235 ∧ R 221 20 = some 236 ∧ R 221 22 = some 237 ∧ R 221 25 = some 238 ∧ R 221 26 = some 239 ∧ R 221 27 = some 240 ∧ R 221 28 = some 241 ∧ R 221 29 = some 242
def pq (p q : Nat) : Prop := (p = 4 ∧ q = 87) ∨ (p = 87 ∧ q = 4)
def Str (R : RFn) (p q : Nat) : Prop := pq p q ∧ R 0 1 = some p ∧ R 0 2 = some q ∧ StrC R ∧ StrB R ∧ StrM R ∧ StrP R 4 ∧ StrP R 87
theorem Str.P {R : RFn} {p q : Nat} (h : Str R p q) : StrP R p := by
  rcases h.1 with ⟨rfl, rfl⟩ | ⟨rfl, rfl⟩
  · exact h.2.2.2.2.2.2.1
  · exact h.2.2.2.2.2.2.2
theorem Str.Q {R : RFn} {p q : Nat} (h : Str R p q) : StrP R q := by
  rcases h.1 with ⟨rfl, rfl⟩ | ⟨rfl, rfl⟩
  · exact h.2.2.2.2.2.2.2
  · exact h.2.2.2.2.2.2.1
def pl (p : Nat) : Prop := p = 4 ∨ p = 87
theorem pq.p {p q : Nat} (h : pq p q) : pl p := by rcases h with ⟨rfl, rfl⟩ | ⟨rfl, rfl⟩ <;> simp [pl]
theorem pq.q {p q : Nat} (h : pq p q) : pl q := by rcases h with ⟨rfl, rfl⟩ | ⟨rfl, rfl⟩ <;> simp [pl]
theorem sh_L0 : ∀ l, l < 8 → (SH (4 + 3 + 4 * l) = (3, 4) ∧ SH (4 + 4 + 4 * l) = (14, 4) ∧ SH (4 + 5 + 4 * l) = (14, 4) ∧ SH (4 + 6 + 4 * l) = (14, 4)) ∧ SH (87 + 3 + 4 * l) = (3, 4) ∧ SH (87 + 4 + 4 * l) = (14, 4) ∧ SH (87 + 5 + 4 * l) = (14, 4) ∧ SH (87 + 6 + 4 * l) = (14, 4) := by decide +kernel
theorem sh_L {p l : Nat} (hp : pl p) (h : l < 8) : SH (p + 3 + 4 * l) = (3, 4) ∧ SH (p + 4 + 4 * l) = (14, 4) ∧ SH (p + 5 + 4 * l) = (14, 4) ∧ SH (p + 6 + 4 * l) = (14, 4) := by
  rcases hp with rfl | rfl
  · exact (sh_L0 l h).1
  · exact (sh_L0 l h).2
theorem sh_S0 : ∀ s, s < 6 → (SH (4 + 35 + 8 * s) = (8, 7) ∧ SH (4 + 36 + 8 * s) = (17, 6)) ∧ SH (87 + 35 + 8 * s) = (8, 7) ∧ SH (87 + 36 + 8 * s) = (17, 6) := by decide +kernel
theorem sh_S {p s : Nat} (hp : pl p) (h : s < 6) : SH (p + 35 + 8 * s) = (8, 7) ∧ SH (p + 36 + 8 * s) = (17, 6) := by
  rcases hp with rfl | rfl
  · exact (sh_S0 s h).1
  · exact (sh_S0 s h).2
theorem sh_P0 : ∀ s, s < 6 → ∀ i, i < 6 → SH (4 + 37 + 8 * s + i) = (4, 4) ∧ SH (87 + 37 + 8 * s + i) = (4, 4) := by decide +kernel
theorem sh_P {p s i : Nat} (hp : pl p) (h : s < 6) (hi : i < 6) : SH (p + 37 + 8 * s + i) = (4, 4) := by
  rcases hp with rfl | rfl
  · exact (sh_P0 s h i hi).1
  · exact (sh_P0 s h i hi).2
theorem sh_pl {p : Nat} (hp : pl p) : SH p = (5, 4) ∧ SH (p + 1) = (16, 8) ∧ SH (p + 2) = (18, 6) := by rcases hp with rfl | rfl <;> decide
theorem sh_B : ∀ b, b < 12 → SH (173 + 3 * b) = (0, 8) ∧ SH (174 + 3 * b) = (14, 6) ∧ SH (175 + 3 * b) = (14, 6) := by decide +kernel
-- what they hold
def sb (v : Int) : Int := if v < 128 then v else v - 256
def TXT (I : IFn) : Prop := I 1 1 = I 221 0 ∧ 0 ≤ I 221 0 ∧ I 221 0 ≤ 300 ∧ ∀ k : Nat, (k : Int) < I 221 0 → 0 ≤ I 222 k ∧ I 222 k ≤ 255 ∧ I 2 k = sb (I 222 k)
def BODr (w : Nat → Int) : Prop := 100 ≤ w 0 ∧ w 0 ≤ 2000 ∧ 250 ≤ w 1 ∧ w 1 ≤ 700 ∧ 400 ≤ w 2 ∧ w 2 ≤ 1200 ∧ 400 ≤ w 3 ∧ w 3 ≤ 1100 ∧ 200 ≤ w 4 ∧ w 4 ≤ 700 ∧ 1 ≤ w 5 ∧ w 5 ≤ 1000
def CRW (I : IFn) : Prop := I 170 1 = I 221 12 ∧ 0 ≤ I 221 12 ∧ I 221 12 ≤ 12 ∧ ∀ b : Nat, (b : Int) < I 221 12 → (∀ k, k < 6 → I (173 + 3 * b) k = I 233 (6 * b + k)) ∧ BODr (fun k => I 233 (6 * b + k))
def HNG (I : IFn) : Prop := ∀ b i : Nat, b < 12 → i < 6 → I (174 + 3 * b) i = I 234 (6 * b + i) ∧ 0 ≤ I 234 (6 * b + i) ∧ I 234 (6 * b + i) ≤ 100
def SAI (I : IFn) : Prop := ∀ b s : Nat, b < 12 → s < 6 → (I (175 + 3 * b) s = I 235 (6 * b + s) ∧ 0 ≤ I 235 (6 * b + s) ∧ I 235 (6 * b + s) ≤ 100) ∨ (I (175 + 3 * b) s = -1 ∧ I 235 (6 * b + s) = -4)
def MSC (I : IFn) : Prop := (I 170 2 = I 221 17 ∧ 0 ≤ I 221 17 ∧ I 221 17 ≤ 300) ∧ (I 215 0 = I 221 18 ∧ 0 ≤ I 221 18 ∧ I 221 18 ≤ 20000) ∧ (I 215 1 = I 221 19 ∧ 0 ≤ I 221 19 ∧ I 221 19 ≤ 1000) ∧ (I 220 0 = I 221 15 ∧ 0 ≤ I 221 15 ∧ I 221 15 ≤ 60)
def RDS (I : IFn) : Prop := ∀ k : Nat, k < 16 → I 219 k = I 236 k ∧ 0 ≤ I 236 k ∧ I 236 k ≤ 1000
def LAY (I : IFn) (p : Nat) : Prop := I p 1 = I 223 1 ∧ 0 ≤ I 223 1 ∧ I 223 1 ≤ 8 ∧ ∀ l : Nat, (l : Int) < I 223 1 → (I (p + 3 + 4 * l) 2 = I 224 (8 + l) ∧ 1 ≤ I 224 (8 + l) ∧ I 224 (8 + l) ≤ 4) ∧ (∀ k : Nat, (k : Int) < I 224 (8 + l) → (I (p + 4 + 4 * l) k = I 225 (64 + 8 * l + 2 * k) ∧ 1 ≤ I 225 (64 + 8 * l + 2 * k) ∧ I 225 (64 + 8 * l + 2 * k) ≤ 100) ∧ I (p + 5 + 4 * l) k = I 225 (64 + 8 * l + 2 * k + 1) ∧ 1 ≤ I 225 (64 + 8 * l + 2 * k + 1) ∧ I 225 (64 + 8 * l + 2 * k + 1) ≤ 200) ∧ ∀ t : Nat, t < 4 → I (p + 6 + 4 * l) t = I 226 (32 + 4 * l + t) ∧ 0 ≤ I 226 (32 + 4 * l + t) ∧ I 226 (32 + 4 * l + t) ≤ 300
def SEAr (w : Nat → Int) : Prop := 100 ≤ w 0 ∧ w 0 ≤ 600 ∧ 300 ≤ w 1 ∧ w 1 ≤ 900 ∧ 600 ≤ w 2 ∧ w 2 ≤ 1600 ∧ 200 ≤ w 3 ∧ w 3 ≤ 700
def SEA (I : IFn) (R : RFn) (p : Nat) : Prop := I p 3 = I 227 1 ∧ 0 ≤ I 227 1 ∧ I 227 1 ≤ 6 ∧ ∀ s : Nat, (s : Int) < I 227 1 → (∀ k, k < 4 → I (p + 35 + 8 * s) k = I 228 (24 + 4 * s + k)) ∧ SEAr (fun k => I 228 (24 + 4 * s + k)) ∧ (I (p + 35 + 8 * s) 4 = I 232 s ∧ 0 ≤ I 232 s ∧ I 232 s ≤ 100) ∧ (I (p + 35 + 8 * s) 6 = I 229 (6 + s) ∧ 1 ≤ I 229 (6 + s) ∧ I 229 (6 + s) ≤ 6) ∧ ∀ i : Nat, (i : Int) < I 229 (6 + s) → (R (p + 37 + 8 * s + i) 0 = some (p + 3 + 4 * (I 230 (108 + 18 * s + 3 * i)).toNat) ∧ 0 ≤ I 230 (108 + 18 * s + 3 * i) ∧ I 230 (108 + 18 * s + 3 * i) < I 223 1) ∧ (I (p + 37 + 8 * s + i) 1 = I 230 (108 + 18 * s + 3 * i + 1) ∧ 0 ≤ I 230 (108 + 18 * s + 3 * i + 1) ∧ I 230 (108 + 18 * s + 3 * i + 1) ≤ 200) ∧ (I (p + 37 + 8 * s + i) 2 = I 230 (108 + 18 * s + 3 * i + 2) ∧ 1 ≤ I 230 (108 + 18 * s + 3 * i + 2) ∧ I 230 (108 + 18 * s + 3 * i + 2) ≤ 400) ∧ I (p + 37 + 8 * s + i) 3 = I 231 (6 * s + i) ∧ 0 ≤ I 231 (6 * s + i) ∧ I 231 (6 * s + i) ≤ 100
def RelF (I : IFn) (R : RFn) (p q : Nat) : Prop := Str R p q ∧ TXT I ∧ CRW I ∧ HNG I ∧ SAI I ∧ MSC I ∧ RDS I ∧ LAY I p ∧ SEA I R p
def Rel (M : Mm) : Prop := ∃ p q, RelF M.1 M.2.2.1 p q
-- what each part rests on
def dTXT (o j : Nat) : Prop := (o = 1 ∧ j = 1) ∨ o = 2 ∨ (o = 221 ∧ j = 0) ∨ o = 222
def dCRW (o j : Nat) : Prop := (o = 170 ∧ j = 1) ∨ (173 ≤ o ∧ o < 209 ∧ (o - 173) % 3 = 0) ∨ (o = 221 ∧ j = 12) ∨ o = 233
def dHNG (o : Nat) : Prop := (173 ≤ o ∧ o < 209 ∧ (o - 173) % 3 = 1) ∨ o = 234
def dSAI (o : Nat) : Prop := (173 ≤ o ∧ o < 209 ∧ (o - 173) % 3 = 2) ∨ o = 235
def dMSC (o j : Nat) : Prop := (o = 170 ∧ j = 2) ∨ (o = 215 ∧ j < 2) ∨ (o = 220 ∧ j = 0) ∨ (o = 221 ∧ (j = 15 ∨ j = 17 ∨ j = 18 ∨ j = 19))
def dRDS (o : Nat) : Prop := o = 219 ∨ o = 236
def dPLN (p o j : Nat) : Prop := (p ≤ o ∧ o < p + 83) ∨ (o = 223 ∧ j = 1) ∨ (o = 224 ∧ 8 ≤ j) ∨ (o = 225 ∧ 64 ≤ j) ∨ (o = 226 ∧ 32 ≤ j) ∨ (o = 227 ∧ j = 1) ∨ (o = 228 ∧ 24 ≤ j) ∨ (o = 229 ∧ 6 ≤ j) ∨ (o = 230 ∧ 108 ≤ j) ∨ o = 231 ∨ o = 232
theorem TXT.c {I I' : IFn} (h : TXT I) (e : ∀ o j, dTXT o j → I' o j = I o j) : TXT I' := by
  obtain ⟨h1, h2, h3, h4⟩ := h
  have e1 := e 1 1 (by simp [dTXT])
  have e2 := e 221 0 (by simp [dTXT])
  refine ⟨by rw [e1, e2]; exact h1, by rw [e2]; exact h2, by rw [e2]; exact h3, fun k hk => ?_⟩
  rw [e2] at hk
  rw [e 222 k (by simp [dTXT]), e 2 k (by simp [dTXT])]
  exact h4 k hk
theorem CRW.c {I I' : IFn} (h : CRW I) (e : ∀ o j, dCRW o j → I' o j = I o j) : CRW I' := by
  obtain ⟨h1, h2, h3, h4⟩ := h
  have e1 := e 170 1 (by simp [dCRW])
  have e2 := e 221 12 (by simp [dCRW])
  refine ⟨by rw [e1, e2]; exact h1, by rw [e2]; exact h2, by rw [e2]; exact h3, fun b hb => ?_⟩
  rw [e2] at hb
  obtain ⟨g1, g2⟩ := h4 b hb
  have e3 : ∀ k, I' 233 (6 * b + k) = I 233 (6 * b + k) := fun k => e _ _ (by simp [dCRW])
  refine ⟨fun k hk => ?_, ?_⟩
  · rw [e3, e _ _ (by unfold dCRW; omega)]; exact g1 k hk
  · simp only [e3]; exact g2
theorem HNG.c {I I' : IFn} (h : HNG I) (e : ∀ o j, dHNG o → I' o j = I o j) : HNG I' := by
  intro b i hb hi
  rw [e 234 _ (by simp [dHNG]), e (174 + 3 * b) _ (by unfold dHNG; omega)]
  exact h b i hb hi
theorem SAI.c {I I' : IFn} (h : SAI I) (e : ∀ o j, dSAI o → I' o j = I o j) : SAI I' := by
  intro b i hb hi
  rw [e 235 _ (by simp [dSAI]), e (175 + 3 * b) _ (by unfold dSAI; omega)]
  exact h b i hb hi
theorem MSC.c {I I' : IFn} (h : MSC I) (e : ∀ o j, dMSC o j → I' o j = I o j) : MSC I' := by
  unfold MSC
  rw [e 170 2 (by simp [dMSC]), e 215 0 (by simp [dMSC]), e 215 1 (by simp [dMSC]), e 220 0 (by simp [dMSC]), e 221 15 (by simp [dMSC]), e 221 17 (by simp [dMSC]), e 221 18 (by simp [dMSC]), e 221 19 (by simp [dMSC])]
  exact h
theorem RDS.c {I I' : IFn} (h : RDS I) (e : ∀ o j, dRDS o → I' o j = I o j) : RDS I' := by
  intro k hk
  rw [e 219 _ (by simp [dRDS]), e 236 _ (by simp [dRDS])]
  exact h k hk
theorem dP0 {p o j : Nat} (h1 : p ≤ o) (h2 : o < p + 83) : dPLN p o j := Or.inl ⟨h1, h2⟩
theorem dP223 {p : Nat} : dPLN p 223 1 := Or.inr (Or.inl ⟨rfl, rfl⟩)
theorem dP224 {p j : Nat} (h : 8 ≤ j) : dPLN p 224 j := Or.inr (Or.inr (Or.inl ⟨rfl, h⟩))
theorem dP225 {p j : Nat} (h : 64 ≤ j) : dPLN p 225 j := Or.inr (Or.inr (Or.inr (Or.inl ⟨rfl, h⟩)))
theorem dP226 {p j : Nat} (h : 32 ≤ j) : dPLN p 226 j := Or.inr (Or.inr (Or.inr (Or.inr (Or.inl ⟨rfl, h⟩))))
theorem dP227 {p : Nat} : dPLN p 227 1 := Or.inr (Or.inr (Or.inr (Or.inr (Or.inr (Or.inl ⟨rfl, rfl⟩)))))
theorem dP228 {p j : Nat} (h : 24 ≤ j) : dPLN p 228 j := Or.inr (Or.inr (Or.inr (Or.inr (Or.inr (Or.inr (Or.inl ⟨rfl, h⟩))))))
theorem dP229 {p j : Nat} (h : 6 ≤ j) : dPLN p 229 j := Or.inr (Or.inr (Or.inr (Or.inr (Or.inr (Or.inr (Or.inr (Or.inl ⟨rfl, h⟩)))))))
theorem dP230 {p j : Nat} (h : 108 ≤ j) : dPLN p 230 j := Or.inr (Or.inr (Or.inr (Or.inr (Or.inr (Or.inr (Or.inr (Or.inr (Or.inl ⟨rfl, h⟩))))))))
theorem dP231 {p j : Nat} : dPLN p 231 j := Or.inr (Or.inr (Or.inr (Or.inr (Or.inr (Or.inr (Or.inr (Or.inr (Or.inr (Or.inl rfl)))))))))
theorem dP232 {p j : Nat} : dPLN p 232 j := Or.inr (Or.inr (Or.inr (Or.inr (Or.inr (Or.inr (Or.inr (Or.inr (Or.inr (Or.inr rfl)))))))))
theorem LAY.c {I I' : IFn} {p : Nat} (h : LAY I p) (e : ∀ o j, dPLN p o j → I' o j = I o j) : LAY I' p := by
  obtain ⟨h1, h2, h3, h4⟩ := h
  have e1 := e p 1 (dP0 (by omega) (by omega))
  have e2 := e 223 1 (dP223)
  refine ⟨by rw [e1, e2]; exact h1, by rw [e2]; exact h2, by rw [e2]; exact h3, fun l hl => ?_⟩
  rw [e2] at hl
  obtain ⟨g1, g2, g3⟩ := h4 l hl
  have hl8 : l < 8 := by omega
  have e3 := e 224 (8 + l) (dP224 (by omega))
  refine ⟨by rw [e3, e (p + 3 + 4 * l) 2 (dP0 (by omega) (by omega))]; exact g1, fun k hk => ?_, fun t ht => ?_⟩
  · rw [e3] at hk
    rw [e 225 (64 + 8 * l + 2 * k) (dP225 (by omega)), e 225 (64 + 8 * l + 2 * k + 1) (dP225 (by omega)), e (p + 4 + 4 * l) k (dP0 (by omega) (by omega)), e (p + 5 + 4 * l) k (dP0 (by omega) (by omega))]
    exact g2 k hk
  · rw [e 226 _ (dP226 (by omega)), e (p + 6 + 4 * l) t (dP0 (by omega) (by omega))]
    exact g3 t ht
theorem SEA.c {I I' : IFn} {R R' : RFn} {p : Nat} (h : SEA I R p) (e : ∀ o j, dPLN p o j → I' o j = I o j) (er : ∀ o, p ≤ o → o < p + 83 → R' o 0 = R o 0) : SEA I' R' p := by
  obtain ⟨h1, h2, h3, h4⟩ := h
  have e1 := e p 3 (dP0 (by omega) (by omega))
  have e2 := e 227 1 (dP227)
  have e2b := e 223 1 (dP223)
  refine ⟨by rw [e1, e2]; exact h1, by rw [e2]; exact h2, by rw [e2]; exact h3, fun s hs => ?_⟩
  rw [e2] at hs
  obtain ⟨g1, g2, g3, g4, g5⟩ := h4 s hs
  have hs6 : s < 6 := by omega
  have e3 : ∀ k, I' 228 (24 + 4 * s + k) = I 228 (24 + 4 * s + k) := fun k => e _ _ (dP228 (by omega))
  have e4 := e 229 (6 + s) (dP229 (by omega))
  refine ⟨fun k hk => by rw [e3, e _ _ (dP0 (by omega) (by omega))]; exact g1 k hk, by simp only [e3]; exact g2, by rw [e 232 s (dP232), e (p + 35 + 8 * s) 4 (dP0 (by omega) (by omega))]; exact g3, by rw [e4, e (p + 35 + 8 * s) 6 (dP0 (by omega) (by omega))]; exact g4, fun i hi => ?_⟩
  rw [e4] at hi
  have hi6 : i < 6 := by omega
  rw [e2b, e 230 (108 + 18 * s + 3 * i) (dP230 (by omega)), e 230 (108 + 18 * s + 3 * i + 1) (dP230 (by omega)), e 230 (108 + 18 * s + 3 * i + 2) (dP230 (by omega)), e 231 (6 * s + i) (dP231), e (p + 37 + 8 * s + i) 1 (dP0 (by omega) (by omega)), e (p + 37 + 8 * s + i) 2 (dP0 (by omega) (by omega)), e (p + 37 + 8 * s + i) 3 (dP0 (by omega) (by omega)), er (p + 37 + 8 * s + i) (by omega) (by omega)]
  exact g5 i hi
/-- all that Rel rests on, of ints -/
def dREL (p o j : Nat) : Prop := dTXT o j ∨ dCRW o j ∨ dHNG o ∨ dSAI o ∨ dMSC o j ∨ dRDS o ∨ dPLN p o j
theorem RelF.c {I I' : IFn} {R : RFn} {p q : Nat} (h : RelF I R p q) (e : ∀ o j, dREL p o j → I' o j = I o j) : RelF I' R p q := by
  obtain ⟨h1, h2, h3, h4, h5, h6, h7, h8, h9⟩ := h
  exact ⟨h1, h2.c (fun o j z => e o j (Or.inl z)), h3.c (fun o j z => e o j (Or.inr (Or.inl z))), h4.c (fun o j z => e o j (Or.inr (Or.inr (Or.inl z)))), h5.c (fun o j z => e o j (Or.inr (Or.inr (Or.inr (Or.inl z))))), h6.c (fun o j z => e o j (Or.inr (Or.inr (Or.inr (Or.inr (Or.inl z)))))), h7.c (fun o j z => e o j (Or.inr (Or.inr (Or.inr (Or.inr (Or.inr (Or.inl z))))))), h8.c (fun o j z => e o j (Or.inr (Or.inr (Or.inr (Or.inr (Or.inr (Or.inr z))))))), h9.c (fun o j z => e o j (Or.inr (Or.inr (Or.inr (Or.inr (Or.inr (Or.inr z))))))) (fun _ _ _ => rfl)⟩
