/-! ===== the timetable as numbers: M k i; what both objects hold of it ===== -/
abbrev MS : Type := Nat → Nat → Nat
def mD (M : MS) : Nat := M 0 0
def mP (M : MS) : Nat := M 1 0
def mN (M : MS) : Nat := M 2 0
def mFi (M : MS) (l : Nat) : Nat := M 3 l
def mSe (M : MS) (l : Nat) : Nat := M 4 l
def mTe (M : MS) (l : Nat) : Nat := M 5 l
def mKi (M : MS) (l : Nat) : Nat := M 6 l
def mLe (M : MS) (l : Nat) : Nat := M 7 l
def mTi (M : MS) (l : Nat) : Nat := M 8 l
def mSu (M : MS) (l : Nat) : Nat := M 9 l
def mRk (M : MS) (r : Nat) : Nat := M 10 r
def mPl (M : MS) : Nat → Nat := M 11
def mBl (M : MS) (u p : Nat) : Bool := M 12 (30 * u + p) == 1
def mJc (M : MS) : Nat := M 13 0
def mTr (M : MS) : Nat := M 14 0
def mCc (M : MS) : Nat := M 15 0
def mCv (M : MS) (k : Nat) : Nat := M 16 k
def mJr (M : MS) (j : Nat) : Nat → Nat := fun i => M 17 (64 * j + i)
/-- 0: none, n + 1: n -/
def oI : Nat → Int32
  | 0 => -1
  | n + 1 => nI n
def perO (f : Nat → Nat) (i : Nat) : Nat := if f i = 0 then 0 else (f i - 1) / 6 + 1
def romO (f : Nat → Nat) (i : Nat) : Nat := if f i = 0 then 0 else (f i - 1) % 6 + 1
def cvr (M : MS) (f : Nat → Nat) (i p : Nat) : Bool := decide (f i ≠ 0) && (decide ((f i - 1) / 6 ≤ p) && decide (p < (f i - 1) / 6 + mLe M (i / 4)))
def usz (M : MS) (f : Nat → Nat) (i u : Nat) : Bool := (u == mFi M (i / 4)) || (mSe M (i / 4) == u + 1) || (u == 8 + mTe M (i / 4)) || (u == 16 + (f i - 1) % 6)
def anyb (f : Nat → Bool) : Nat → Bool
  | 0 => false
  | k + 1 => anyb f k || f k
theorem anyb_iff {f : Nat → Bool} : ∀ {n : Nat}, anyb f n = true ↔ ∃ i, i < n ∧ f i = true
  | 0 => by simp [anyb]
  | n + 1 => by
    rw [anyb, Bool.or_eq_true, anyb_iff]
    constructor
    · rintro (⟨i, h1, h2⟩ | h)
      · exact ⟨i, by omega, h2⟩
      · exact ⟨n, by omega, h⟩
    · rintro ⟨i, h1, h2⟩
      rcases Nat.lt_or_ge i n with h | h
      · exact Or.inl ⟨i, h, h2⟩
      · have : i = n := by omega
        subst this; exact Or.inr h2
/-- the first one of k places from a on: its number + 1, or 0 -/
def fnd (f : Nat → Bool) : Nat → Nat → Nat
  | _, 0 => 0
  | a, k + 1 => if f a = true then a + 1 else fnd f (a + 1) k
theorem fnd_none {f : Nat → Bool} : ∀ {k a : Nat}, fnd f a k = 0 ↔ ∀ i, a ≤ i → i < a + k → f i = false
  | 0, a => by simp [fnd]; omega
  | k + 1, a => by
    rw [fnd]
    split
    · rename_i h
      constructor
      · intro h2; omega
      · intro h2; rw [h2 a (Nat.le_refl _) (by omega)] at h; cases h
    · rename_i h
      rw [fnd_none]
      constructor
      · intro h2 i h3 h4
        rcases Nat.lt_or_ge a i with h5 | h5
        · exact h2 i (by omega) (by omega)
        · have : i = a := by omega
          subst this
          cases hh : f i with
          | false => rfl
          | true => exact absurd hh h
      · intro h2 i h3 h4; exact h2 i (by omega) (by omega)
theorem fnd_some {f : Nat → Bool} : ∀ {k a j : Nat}, fnd f a k = j + 1 → a ≤ j ∧ j < a + k ∧ f j = true ∧ ∀ i, a ≤ i → i < j → f i = false
  | 0, a, j => by simp [fnd]
  | k + 1, a, j => by
    rw [fnd]
    split
    · rename_i h
      intro h2
      have : a = j := by omega
      subst this
      exact ⟨Nat.le_refl _, by omega, h, fun i h3 h4 => by omega⟩
    · rename_i h
      intro h2
      obtain ⟨h3, h4, h5, h6⟩ := fnd_some h2
      refine ⟨by omega, by omega, h5, fun i h7 h8 => ?_⟩
      rcases Nat.lt_or_ge a i with h9 | h9
      · exact h6 i (by omega) h8
      · have : i = a := by omega
        subst this
        cases hh : f i with
        | false => rfl
        | true => exact absurd hh h
def occ (M : MS) (f : Nat → Nat) (u p : Nat) : Bool := anyb (fun i => cvr M f i p && usz M f i u) 64
def iAt (M : MS) (f : Nat → Nat) (u p : Nat) : Nat := fnd (fun i => cvr M f i p && usz M f i u) 0 64
theorem iAt_occ (M : MS) (f : Nat → Nat) (u p : Nat) : (iAt M f u p = 0) ↔ occ M f u p = false := by
  unfold iAt occ
  rw [fnd_none]
  constructor
  · intro h
    cases hh : anyb (fun i => cvr M f i p && usz M f i u) 64 with
    | false => rfl
    | true =>
      obtain ⟨i, h1, h2⟩ := anyb_iff.mp hh
      rw [h i (Nat.zero_le _) (by omega)] at h2
      cases h2
  · intro h i _ h2
    cases hh : (cvr M f i p && usz M f i u) with
    | false => rfl
    | true =>
      rw [anyb_iff.mpr ⟨i, by omega, hh⟩] at h
      cases h
/-- a placement that keeps the week: within days, and no two items of one user in one period -/
def VP (M : MS) (f : Nat → Nat) : Prop :=
  (∀ i, i < 64 → f i ≠ 0 → i / 4 < mN M ∧ i % 4 < mTi M (i / 4) ∧ (f i - 1) / 6 < mD M * mP M ∧ (f i - 1) / 6 % mP M + mLe M (i / 4) ≤ mP M) ∧
  (∀ i j u p, i < 64 → j < 64 → u < 22 → cvr M f i p = true → cvr M f j p = true → usz M f i u = true → usz M f j u = true → i = j)
def Good (M : MS) : Prop :=
  (1 ≤ mD M ∧ mD M ≤ 5 ∧ 1 ≤ mP M ∧ mP M ≤ 6 ∧ mN M ≤ 16) ∧
  (∀ l, l < mN M → mFi M l < 8 ∧ mSe M l < 9 ∧ mSe M l ≠ mFi M l + 1 ∧ mTe M l < 8 ∧ mKi M l < 3 ∧ (mLe M l = 1 ∨ mLe M l = 2) ∧ 1 ≤ mTi M l ∧ mTi M l ≤ 4 ∧ mSu M l < 127) ∧
  (∀ r, r < 6 → mRk M r < 3) ∧ VP M (mPl M) ∧ mJc M ≤ 20 ∧ (∀ j, j < mJc M → VP M (mJr M j)) ∧ mTr M ≤ 20000 ∧ mCc M ≤ 6 ∧ (∀ k, k < mCc M → mCv M k < 9)
/-- what the reference holds -/
def RepM (M : MS) (s : Sg) : Prop :=
  (s 2201 0 = nI (mD M) ∧ s 2202 0 = nI (mP M) ∧ s 2204 0 = nI (mN M)) ∧
  (∀ l, l < 16 → s 23 l = nI (mFi M l) ∧ s 24 l = oI (mSe M l) ∧ s 25 l = nI (mTe M l) ∧ s 26 l = nI (mKi M l) ∧ s 27 l = nI (mLe M l) ∧ s 28 l = nI (mTi M l) ∧ s 29 l = nI (mSu M l)) ∧
  (∀ r, r < 6 → s 22 r = nI (mRk M r)) ∧
  (∀ i, i < 64 → s 30 i = oI (perO (mPl M) i) ∧ s 31 i = oI (romO (mPl M) i)) ∧
  (∀ u p, u < 22 → p < 30 → s 32 (30 * u + p) = b2i (mBl M u p)) ∧
  (s 2221 0 = nI (mJc M) ∧ ∀ j i, j < mJc M → i < 64 → s 36 (64 * j + i) = oI (perO (mJr M j) i) ∧ s 37 (64 * j + i) = oI (romO (mJr M j) i)) ∧
  s 2215 0 = nI (mTr M) ∧ s 2223 0 = nI (mCc M) ∧ (∀ k, k < mCc M → s 38 k = oI (mCv M k))
/-- what the class holds -/
def RepC (M : MS) (s : Sg) : Prop :=
  (s 900 0 = nI (mD M) ∧ s 901 0 = nI (mP M) ∧ s 902 0 = nI (mD M * mP M) ∧ s 1007 0 = nI (mN M)) ∧
  ((∀ p, p < 32 → bt (s 903 0) p = (decide (p < mD M * mP M) && decide (p % mP M = 0))) ∧ (∀ p, p < 32 → bt (s 904 0) p = (decide (p < mD M * mP M) && decide (p % mP M = mP M - 1)))) ∧
  (∀ l, l < 16 → s 10 l = nI (mFi M l) ∧ s 11 l = oI (mSe M l) ∧ s 12 l = nI (mTe M l) ∧ s 13 l = nI (mKi M l) ∧ s 14 l = nI (mLe M l) ∧ s 15 l = nI (mTi M l) ∧ s 16 l = nI (mSu M l)) ∧
  (∀ r, r < 6 → s 17 r = nI (mRk M r)) ∧
  (∀ i, i < 64 → s 20 i = oI (mPl M i)) ∧
  (∀ u p, u < 22 → p < 32 → bt (s 18 u) p = (decide (p < mD M * mP M) && mBl M u p)) ∧
  (∀ u p, u < 22 → p < 32 → bt (s 19 u) p = occ M (mPl M) u p) ∧
  (∃ old : Nat, old < 21 ∧ s 701 0 = nI old ∧ s 702 0 = nI (mJc M) ∧ ∀ j i, j < mJc M → i < 64 → s 7 ((old + j) % 21 * 64 + i) = oI (mJr M j i)) ∧
  s 203 0 = nI (mTr M) ∧ s 501 0 = nI (mCc M) ∧ (∀ k, k < mCc M → s 5 k = oI (mCv M k))
def Inv (s : Sg) : Prop := ∃ M, Good M ∧ RepC M s ∧ RepM M s
/-- components of the class, of the reference -/
def cC (c : Nat) : Bool := c.blt 21 || (decide (100 ≤ c) && decide (c < 2200))
def cM (c : Nat) : Bool := (decide (21 ≤ c) && decide (c < 39)) || decide (2200 ≤ c)
theorem RepM.frame {M : MS} {s t : Sg} (h : RepM M s) (hf : ∀ c, cM c = true → t c = s c) : RepM M t := by
  unfold RepM at h ⊢
  rw [hf 2201 rfl, hf 2202 rfl, hf 2204 rfl, hf 23 rfl, hf 24 rfl, hf 25 rfl, hf 26 rfl, hf 27 rfl, hf 28 rfl, hf 29 rfl, hf 22 rfl, hf 30 rfl, hf 31 rfl, hf 32 rfl, hf 2221 rfl, hf 36 rfl, hf 37 rfl, hf 2215 rfl, hf 2223 rfl, hf 38 rfl]
  exact h
theorem RepC.frame {M : MS} {s t : Sg} (h : RepC M s) (hf : ∀ c, cC c = true → t c = s c) : RepC M t := by
  unfold RepC at h ⊢
  rw [hf 900 rfl, hf 901 rfl, hf 902 rfl, hf 1007 rfl, hf 903 rfl, hf 904 rfl, hf 10 rfl, hf 11 rfl, hf 12 rfl, hf 13 rfl, hf 14 rfl, hf 15 rfl, hf 16 rfl, hf 17 rfl, hf 20 rfl, hf 18 rfl, hf 19 rfl, hf 701 rfl, hf 702 rfl, hf 7 rfl, hf 203 rfl, hf 501 rfl, hf 5 rfl]
  exact h
theorem oI_ne {n : Nat} (h : n ≠ 0) : oI n = nI (n - 1) := by
  cases n with
  | zero => exact absurd rfl h
  | succ n => rfl
theorem oI_m1 {n : Nat} (h : n < 2 ^ 31) : (oI n = -1) = (n = 0) := by
  cases n with
  | zero => simp [oI]
  | succ n =>
    apply propext
    constructor
    · intro e; exact absurd e (nI_m1 (by omega))
    · intro e; cases e
theorem oI_neg {n : Nat} (h : n < 2 ^ 31) : (oI n < 0) = (n = 0) := by
  cases n with
  | zero => simp [oI]
  | succ n =>
    apply propext
    constructor
    · intro e; exact absurd e (nI_pos (by omega))
    · intro e; cases e
theorem oI_pos {n : Nat} (h : n < 2 ^ 31) : (0 ≤ oI n) = (n ≠ 0) := by
  have := oI_neg h
  apply propext
  constructor
  · intro e z
    exact absurd (this.symm ▸ z : oI n < 0) (Int32.not_lt.mpr e)
  · intro e
    exact Int32.not_lt.mp fun z => e (this ▸ z : n = 0)
