/-! ===== who has an item in a period ===== -/
theorem in3 (s : Sg) {a b c : Nat} (ha : a < 2 ^ 31) (hb : b < 2 ^ 31) (hc : c < 2 ^ 31) : F_X6_in (nI a) (nI b) (nI c) s = some (b2i (decide (b ≤ a) && decide (a ≤ c))) := by
  unfold F_X6_in
  simp only [nI_ltI ha hb, nI_ltI hc ha]
  by_cases h1 : a < b
  · simp [h1, b2i, Nat.not_le.mpr h1]
  · by_cases h2 : c < a
    · simp [h1, h2, b2i, Nat.not_le.mpr h2]
    · simp [h1, h2, b2i, Nat.not_lt.mp h1, Nat.not_lt.mp h2]
def uW (u : Nat) : Nat := if u < 8 then 0 else if u < 16 then 1 else 2
def uH (u : Nat) : Nat := if u < 8 then u else if u < 16 then u - 8 else u - 16
theorem FU_gt {n : Nat} (h : n < 1000000) : n < FU := h
section It
variable {M : MS} {s : Sg}
theorem dp_le (G : Good M) : mD M * mP M ≤ 30 := by
  have := G.1
  calc mD M * mP M ≤ 5 * 6 := Nat.mul_le_mul this.2.1 this.2.2.2.1
    _ = 30 := rfl
theorem cov_M (G : Good M) (R : RepM M s) {i p : Nat} (hi : i < 64) (hp : p < 1000) : F_X6_covers (nI i) (nI p) s = some (b2i (cvr M (mPl M) i p)) := by
  unfold F_X6_covers
  have hl := pl_lt G G.2.2.2.1 hi
  have h64 := ixb_nI hi (show 64 < 2 ^ 31 by decide)
  rw [grd_t h64, grd_t h64, grd_t h64, nI_clamp (by omega), (R.2.2.2.1 i hi).1]
  by_cases h : mPl M i = 0
  · simp [h, perO, oI, b2i, cvr]
  · have hv := G.2.2.2.1.1 i hi h
    have hle : mLe M (i / 4) = 1 ∨ mLe M (i / 4) = 2 := (G.2.1 _ hv.1).2.2.2.2.2.1
    have hN := good_N G
    have e1 : oI (perO (mPl M) i) = nI ((mPl M i - 1) / 6) := by simp [perO, h, oI]
    rw [e1, if_neg (nI_pos (by omega)), lessonOf_M hi]
    simp only [Option.bind_some]
    rw [grd_t (ixb_nI (by omega) (by decide)), nI_clamp (by omega), (R.2.1 (i / 4) (by omega)).2.2.2.2.1, nI_add, show (1 : Int32) = nI 1 from rfl, pk_sub (by omega), in3 s (by omega) (by omega) (by omega)]
    simp only [Option.bind_some, b2i_z]
    have e2 : cvr M (mPl M) i p = (decide ((mPl M i - 1) / 6 ≤ p) && decide (p ≤ (mPl M i - 1) / 6 + mLe M (i / 4) - 1)) := by
      unfold cvr
      have : (p < (mPl M i - 1) / 6 + mLe M (i / 4)) ↔ (p ≤ (mPl M i - 1) / 6 + mLe M (i / 4) - 1) := by omega
      simp only [h, ne_eq, not_false_eq_true, decide_true, Bool.true_and, this]
    rw [← e2]
    cases cvr M (mPl M) i p <;> rfl
theorem isOf_M (G : Good M) (R : RepM M s) {i u : Nat} (hi : i < 64) (hu : u < 22) (hpl : mPl M i ≠ 0) : F_X6_isOf (nI i) (nI (uW u)) (nI (uH u)) s = some (b2i (usz M (mPl M) i u)) := by
  have hl := pl_lt G G.2.2.2.1 hi
  have hv := G.2.2.2.1.1 i hi hpl
  obtain ⟨hf, hse, -, hte, -⟩ := G.2.1 _ hv.1
  have hN := good_N G
  obtain ⟨r1, r2, r3, -⟩ := R.2.1 (i / 4) (by omega)
  unfold F_X6_isOf
  rw [lessonOf_M hi]
  simp only [Option.bind_some]
  have h16 : ixb (nI (i / 4)) 16 = true := ixb_nI (by omega) (by decide)
  have c16 : (nI (i / 4)).toNatClampNeg = i / 4 := nI_clamp (by omega)
  rw [R.1.2.2, if_pos ((nI_ltI (by omega) (by omega)).mpr hv.1), c16, grd_t h16, grd_t h16, grd_t h16, r1, r2, r3, grd_t (ixb_nI hi (by decide)), nI_clamp (by omega), (R.2.2.2.1 i hi).2]
  have e31 : oI (romO (mPl M) i) = nI ((mPl M i - 1) % 6) := by simp [romO, hpl, oI]
  rw [e31]
  rcases Nat.lt_or_ge u 8 with h | h
  · have hW : uW u = 0 := by simp [uW, h]
    have hH : uH u = u := by simp [uH, h]
    rw [hW, hH, if_pos (show nI 0 = 0 from rfl)]
    have e1 : usz M (mPl M) i u = (decide (mFi M (i / 4) = u) || decide (oI (mSe M (i / 4)) = nI u)) := by
      have h1 : (u == mFi M (i / 4)) = decide (mFi M (i / 4) = u) := by
        by_cases hh : mFi M (i / 4) = u
        · simp [hh]
        · simp [hh, Ne.symm hh]
      have h2 : (mSe M (i / 4) == u + 1) = decide (oI (mSe M (i / 4)) = nI u) := by
        cases hs : mSe M (i / 4) with
        | zero =>
          have h9 : ¬ oI 0 = nI u := fun e => nI_m1 (n := u) (by omega) e.symm
          simp [h9]
        | succ c =>
          rw [hs] at hse
          simp only [oI, nI_eq (show c < 2 ^ 31 by omega) (show u < 2 ^ 31 by omega)]
          by_cases hh : c = u <;> simp [hh]
      unfold usz
      rw [h1, h2]
      have h3 : (u == 8 + mTe M (i / 4)) = false := by simp; omega
      have h4 : (u == 16 + (mPl M i - 1) % 6) = false := by simp; omega
      rw [h3, h4]
      simp
    rw [e1]
    simp only [nI_eq (show mFi M (i / 4) < 2 ^ 31 by omega) (show u < 2 ^ 31 by omega)]
    by_cases h1 : mFi M (i / 4) = u
    · simp [h1, b2i]
    · by_cases h2 : oI (mSe M (i / 4)) = nI u <;> simp [h1, h2, b2i]
  · rcases Nat.lt_or_ge u 16 with h2 | h2
    · have hW : uW u = 1 := by simp [uW, Nat.not_lt.mpr h, h2]
      have hH : uH u = u - 8 := by simp [uH, Nat.not_lt.mpr h, h2]
      rw [hW, hH, if_neg (by decide), if_pos (show nI 1 = 1 from rfl)]
      have e1 : usz M (mPl M) i u = decide (mTe M (i / 4) = u - 8) := by
        unfold usz
        have h3 : (u == mFi M (i / 4)) = false := by simp; omega
        have h4 : (mSe M (i / 4) == u + 1) = false := by simp; omega
        have h5 : (u == 16 + (mPl M i - 1) % 6) = false := by simp; omega
        rw [h3, h4, h5]
        by_cases hh : mTe M (i / 4) = u - 8
        · simp [hh]; omega
        · simp [hh]; omega
      rw [e1]
      simp only [nI_eq (show mTe M (i / 4) < 2 ^ 31 by omega) (show u - 8 < 2 ^ 31 by omega)]
      by_cases hh : mTe M (i / 4) = u - 8 <;> simp [hh, b2i]
    · have hW : uW u = 2 := by simp [uW, Nat.not_lt.mpr h, Nat.not_lt.mpr h2]
      have hH : uH u = u - 16 := by simp [uH, Nat.not_lt.mpr h, Nat.not_lt.mpr h2]
      rw [hW, hH, if_neg (by decide), if_neg (by decide)]
      have e1 : usz M (mPl M) i u = decide ((mPl M i - 1) % 6 = u - 16) := by
        unfold usz
        have h3 : (u == mFi M (i / 4)) = false := by simp; omega
        have h4 : (mSe M (i / 4) == u + 1) = false := by simp; omega
        have h5 : (u == 8 + mTe M (i / 4)) = false := by simp; omega
        rw [h3, h4, h5]
        by_cases hh : (mPl M i - 1) % 6 = u - 16
        · simp [hh]; omega
        · simp [hh]; omega
      rw [e1]
      simp only [nI_eq (show (mPl M i - 1) % 6 < 2 ^ 31 by omega) (show u - 16 < 2 ^ 31 by omega)]
      by_cases hh : (mPl M i - 1) % 6 = u - 16 <;> simp [hh, b2i]
theorem cvr_pl {f : Nat → Nat} {i p : Nat} (h : cvr M f i p = true) : f i ≠ 0 := by
  unfold cvr at h
  intro e
  simp [e] at h
theorem itemAt_loop (G : Good M) (R : RepM M s) {u p : Nat} (hu : u < 22) (hp : p < 1000) : ∀ (fu i : Nat), i ≤ 64 → 64 - i < fu → L_X6_itemAt_3 fu (nI (uW u)) (nI (uH u)) (nI p) (nI i) s = some (match fnd (fun i => cvr M (mPl M) i p && usz M (mPl M) i u) i (64 - i) with
    | 0 => .inr ()
    | j + 1 => .inl (nI j)) := by
  intro fu
  induction fu with
  | zero => intro i h1 h2; omega
  | succ fu ih =>
    intro i h1 h2
    rw [L_X6_itemAt_3]
    rcases Nat.lt_or_ge i 64 with h | h
    · rw [if_neg (by rw [show (64 : Int32) = nI 64 from rfl, nI_leI (by decide) (by omega)]; omega), cov_M G R h hp]
      simp only [Option.bind_some, b2i_z]
      have e1 : 64 - i = (64 - (i + 1)) + 1 := by omega
      have e2 : nI i + 1 = nI (i + 1) := nI_1 i
      have ih2 := ih (i + 1) (by omega) (by omega)
      rw [e1, fnd]
      cases hc : cvr M (mPl M) i p with
      | false =>
        simp only [if_true, Bool.false_and, Bool.false_eq_true, if_false, bnd]
        rw [e2, ih2]
      | true =>
        have hpl := cvr_pl hc
        simp only [Bool.true_eq_false, if_false, Bool.true_and]
        rw [isOf_M G R h hu hpl]
        simp only [Option.bind_some, b2i_z]
        cases hz : usz M (mPl M) i u with
        | false =>
          simp only [if_true, Bool.false_eq_true, if_false, bnd]
          rw [e2, ih2]
        | true => simp
    · have : i = 64 := by omega
      subst this
      rw [if_pos (by decide)]
      simp [fnd]
theorem itemAt_M (G : Good M) (R : RepM M s) {u p : Nat} (hu : u < 22) (hp : p < 1000) : F_X6_itemAt (nI (uW u)) (nI (uH u)) (nI p) s = some (oI (iAt M (mPl M) u p)) := by
  unfold F_X6_itemAt iAt
  rw [show (0 : Int32) = nI 0 from rfl, itemAt_loop G R hu hp FU 0 (by omega) (FU_gt (by omega))]
  cases fnd (fun i => cvr M (mPl M) i p && usz M (mPl M) i u) 0 64 <;> rfl
end It
