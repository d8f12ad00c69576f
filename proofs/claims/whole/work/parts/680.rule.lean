/-! ===== the rules ===== -/
def blk (M : MS) (u p n : Nat) : Bool := anyb (fun k => mBl M u (p + k)) n
def ocy (M : MS) (f : Nat → Nat) (u p n : Nat) : Bool := anyb (fun k => occ M f u (p + k)) n
def freeR (M : MS) (f : Nat → Nat) (l p : Nat) : Nat := fnd (fun r => decide (mRk M r = mKi M l) && (!blk M (16 + r) p (mLe M l) && !ocy M f (16 + r) p (mLe M l))) 0 6
def sdy (M : MS) (f : Nat → Nat) (l p : Nat) : Bool := anyb (fun k => decide (f (4 * l + k) ≠ 0) && decide ((f (4 * l + k) - 1) / 6 / mP M = p / mP M)) 4
def ruleM (M : MS) (f : Nat → Nat) (l p : Nat) : Nat :=
  if mP M < p % mP M + mLe M l then 1
  else if blk M (8 + mTe M l) p (mLe M l) = true then 2
  else if ocy M f (8 + mTe M l) p (mLe M l) = true then 3
  else if (blk M (mFi M l) p (mLe M l) || (decide (mSe M l ≠ 0) && blk M (mSe M l - 1) p (mLe M l))) = true then 4
  else if (ocy M f (mFi M l) p (mLe M l) || (decide (mSe M l ≠ 0) && ocy M f (mSe M l - 1) p (mLe M l))) = true then 5
  else if sdy M f l p = true then 6
  else if freeR M f l p = 0 then 7 else 0
theorem anyb_false {f : Nat → Bool} {n : Nat} : anyb f n = false ↔ ∀ i, i < n → f i = false := by
  constructor
  · intro h i hi
    cases hh : f i with
    | false => rfl
    | true => rw [anyb_iff.mpr ⟨i, hi, hh⟩] at h; cases h
  · intro h
    cases hh : anyb f n with
    | false => rfl
    | true =>
      obtain ⟨i, hi, h2⟩ := anyb_iff.mp hh
      rw [h i hi] at h2; cases h2
theorem fit_le {M : MS} (G : Good M) {p n : Nat} (hp : p < mD M * mP M) (hf : p % mP M + n ≤ mP M) : p + n ≤ mD M * mP M := by
  have h0 := G.1
  have h1 : p / mP M < mD M := (Nat.div_lt_iff_lt_mul (by omega)).mpr hp
  have h2 : mP M * (p / mP M) + p % mP M = p := Nat.div_add_mod p (mP M)
  have h3 : mP M * (p / mP M + 1) ≤ mP M * mD M := Nat.mul_le_mul_left _ h1
  rw [Nat.mul_add, Nat.mul_comm (mP M) (mD M)] at h3
  omega
section Ru
variable {M : MS} {s : Sg}
theorem blk_bits (G : Good M) (R : RepC M s) {u p n : Nat} (hu : u < 22) (hn : n = 1 ∨ n = 2) (hp : p + n ≤ mD M * mP M) : (s 18 u &&& bm n p) = 0 ↔ blk M u p n = false := by
  have h30 := dp_le G
  rw [and_bm hn (by omega)]
  unfold blk
  rw [anyb_false]
  constructor
  · intro h i hi
    have h2 := h (p + i) (by omega) (by omega)
    rw [R.2.2.2.2.2.1 u _ hu (by omega)] at h2
    simpa [show p + i < mD M * mP M by omega] using h2
  · intro h q h1 h2
    rw [R.2.2.2.2.2.1 u q hu (by omega)]
    have h3 := h (q - p) (by omega)
    rw [show p + (q - p) = q by omega] at h3
    rw [h3]; simp
theorem ocy_bits (G : Good M) (R : RepC M s) {u p n : Nat} (hu : u < 22) (hn : n = 1 ∨ n = 2) (hp : p + n ≤ mD M * mP M) : (s 19 u &&& bm n p) = 0 ↔ ocy M (mPl M) u p n = false := by
  have h30 := dp_le G
  rw [and_bm hn (by omega)]
  unfold ocy
  rw [anyb_false]
  constructor
  · intro h i hi
    have h2 := h (p + i) (by omega) (by omega)
    rw [R.2.2.2.2.2.2.1 u _ hu (by omega)] at h2
    exact h2
  · intro h q h1 h2
    rw [R.2.2.2.2.2.2.1 u q hu (by omega)]
    have h3 := h (q - p) (by omega)
    rw [show p + (q - p) = q by omega] at h3
    exact h3
theorem or_and0 (a b m : Int32) : ((a ||| b) &&& m) = 0 ↔ (a &&& m) = 0 ∧ (b &&& m) = 0 := by
  simp only [zero_iff, b_and, b_or]
  constructor
  · intro h
    constructor
    · intro q hq
      have := h q hq
      cases h1 : bt a q <;> cases h2 : bt m q <;> simp_all
    · intro q hq
      have := h q hq
      cases h1 : bt b q <;> cases h2 : bt m q <;> simp_all
  · rintro ⟨h1, h2⟩ q hq
    have h3 := h1 q hq
    have h4 := h2 q hq
    clear h1 h2
    revert h3 h4
    cases bt a q <;> cases bt b q <;> cases bt m q <;> simp
theorem room_loop_C (G : Good M) (R : RepC M s) {l p : Nat} (hl : l < mN M) (hp : p + mLe M l ≤ mD M * mP M) : ∀ (fu r : Nat), r ≤ 6 → 6 - r < fu → L_X0_lowestRoom_13 fu (nI l) (bm (mLe M l) p) (nI r) s = some (match fnd (fun r => decide (mRk M r = mKi M l) && (!blk M (16 + r) p (mLe M l) && !ocy M (mPl M) (16 + r) p (mLe M l))) r (6 - r) with
    | 0 => .inr ()
    | j + 1 => .inl (nI j)) := by
  have hN := good_N G
  have hle := (G.2.1 l hl).2.2.2.2.2.1
  have hki := (G.2.1 l hl).2.2.2.2.1
  intro fu
  induction fu with
  | zero => intro r h1 h2; omega
  | succ fu ih =>
    intro r h1 h2
    rw [L_X0_lowestRoom_13]
    rcases Nat.lt_or_ge r 6 with h | h
    · rw [if_neg (by rw [show (6 : Int32) = nI 6 from rfl, nI_leI (by decide) (by omega)]; omega)]
      have e1 : 6 - r = (6 - (r + 1)) + 1 := by omega
      have e2 : nI r + 1 = nI (r + 1) := nI_1 r
      have ih2 := ih (r + 1) (by omega) (by omega)
      have hrk := G.2.2.1 r h
      rw [e1, fnd]
      simp only [bnd]
      rw [show (16 : Int32) + nI r = nI (16 + r) by rw [show (16 : Int32) = nI 16 from rfl, nI_add], grd_t (ixb_nI h (by decide)), grd_t (ixb_nI (by omega) (by decide)), nI_clamp (by omega), nI_clamp (by omega), nI_clamp (by omega), R.2.2.2.1 r h, (R.2.2.1 l (by omega)).2.2.2.1, e2, ih2, grd_t (ixb_nI (by omega) (by decide)), grd_t (ixb_nI (by omega) (by decide))]
      simp only [nI_eq (show mRk M r < 2 ^ 31 by omega) (show mKi M l < 2 ^ 31 by omega), or_and0, ocy_bits G R (show 16 + r < 22 by omega) hle hp, blk_bits G R (show 16 + r < 22 by omega) hle hp]
      by_cases hk : mRk M r = mKi M l
      · rw [if_pos hk, decide_eq_true hk]
        cases hb : blk M (16 + r) p (mLe M l) <;> cases ho : ocy M (mPl M) (16 + r) p (mLe M l) <;> simp
      · rw [if_neg hk, decide_eq_false hk]
        simp
    · have : r = 6 := by omega
      subst this
      rw [if_pos (by decide)]
      simp [fnd]
theorem lowest_C (G : Good M) (R : RepC M s) {l p : Nat} (hl : l < mN M) (hp : p + mLe M l ≤ mD M * mP M) : F_X0_lowestRoom (nI l) (nI p) s = some (oI (freeR M (mPl M) l p)) := by
  unfold F_X0_lowestRoom freeR
  rw [bitsAt_C G R hl]
  simp only [Option.bind_some]
  rw [show (0 : Int32) = nI 0 from rfl, room_loop_C G R hl hp FU 0 (by omega) (FU_gt (by omega))]
  simp only [Option.bind_some, Nat.sub_zero]
  cases fnd (fun r => decide (mRk M r = mKi M l) && (!blk M (16 + r) p (mLe M l) && !ocy M (mPl M) (16 + r) p (mLe M l))) 0 6 <;> rfl
theorem onDay_C (G : Good M) (R : RepC M s) {i d : Nat} (hi : i < 64) (hd : d < 1000) : F_X0_isOnDay (nI i) (nI d) s = some (b2i (decide (mPl M i ≠ 0) && decide ((mPl M i - 1) / 6 / mP M = d))) := by
  have h0 := G.1
  have hp := pl_lt G G.2.2.2.1 hi
  unfold F_X0_isOnDay
  rw [grd_t (ixb_nI hi (by decide)), nI_clamp (by omega), R.2.2.2.2.1 i hi]
  by_cases h : mPl M i = 0
  · simp [h, oI, b2i]
  · have hdv : (mPl M i - 1) / 6 / mP M < 2 ^ 31 := Nat.lt_of_le_of_lt (Nat.div_le_self _ _) (by omega)
    rw [if_neg (by rw [oI_m1 (by omega)]; exact h), grd_t (ixb_nI hi (by decide)), R.1.2.1, grd_t (nI_ne0 (by omega) (by omega)), oI_ne h, show (6 : Int32) = nI 6 from rfl, pk_div (by omega) (by decide) (by decide), pk_div (by omega) (by omega) (by omega)]
    simp only [nI_eq hdv (show d < 2 ^ 31 by omega)]
    by_cases h2 : (mPl M i - 1) / 6 / mP M = d <;> simp [h, h2, b2i]
theorem lesDay_C (G : Good M) (R : RepC M s) {l d : Nat} (hl : l < mN M) (hd : d < 1000) : ∀ (fu k : Nat), k ≤ mTi M l → mTi M l - k < fu → anyb (fun k => decide (mPl M (4 * l + k) ≠ 0) && decide ((mPl M (4 * l + k) - 1) / 6 / mP M = d)) k = false → L_X0_isLessonOnDay_2 fu (nI l) (nI d) (nI k) s = some (if anyb (fun k => decide (mPl M (4 * l + k) ≠ 0) && decide ((mPl M (4 * l + k) - 1) / 6 / mP M = d)) (mTi M l) = true then .inl 1 else .inr ()) := by
  have hN := good_N G
  have hti := (G.2.1 l hl).2.2.2.2.2.2.2.1
  intro fu
  induction fu with
  | zero => intro k h1 h2; omega
  | succ fu ih =>
    intro k h1 h2 h3
    rw [L_X0_isLessonOnDay_2, grd_t (ixb_nI (by omega) (by decide)), nI_clamp (by omega), (R.2.2.1 l (by omega)).2.2.2.2.2.1]
    rcases Nat.lt_or_ge k (mTi M l) with h | h
    · rw [if_neg (by rw [nI_leI (by omega) (by omega)]; omega), itemOf_C]
      simp only [Option.bind_some]
      rw [onDay_C G R (by omega) hd]
      simp only [Option.bind_some, b2i_z, bnd]
      cases hh : (decide (mPl M (4 * l + k) ≠ 0) && decide ((mPl M (4 * l + k) - 1) / 6 / mP M = d)) with
      | false =>
        rw [if_pos rfl, nI_1, ih (k + 1) (by omega) (by omega) (by rw [anyb, h3, hh]; rfl)]
      | true =>
        rw [if_neg (by decide), if_pos (anyb_iff.mpr ⟨k, h, hh⟩)]
    · have : k = mTi M l := by omega
      subst this
      rw [if_pos ((nI_leI (by omega) (by omega)).mpr (Nat.le_refl _)), h3]
      simp
theorem sdy_C (G : Good M) (R : RepC M s) {l p : Nat} (hl : l < mN M) (hp : p < mD M * mP M) : F_X0_isLessonOnDay (nI l) (nI (p / mP M)) s = some (b2i (sdy M (mPl M) l p)) := by
  have h30 := dp_le G
  have hN := good_N G
  have hti := (G.2.1 l hl).2.2.2.2.2.2.2.1
  have hdv : p / mP M < 1000 := Nat.lt_of_le_of_lt (Nat.div_le_self _ _) (by omega)
  unfold F_X0_isLessonOnDay
  rw [show (0 : Int32) = nI 0 from rfl, lesDay_C G R hl hdv FU 0 (by omega) (FU_gt (by omega)) rfl]
  have e : anyb (fun k => decide (mPl M (4 * l + k) ≠ 0) && decide ((mPl M (4 * l + k) - 1) / 6 / mP M = p / mP M)) (mTi M l) = sdy M (mPl M) l p := by
    unfold sdy
    apply Bool.eq_iff_iff.mpr
    rw [anyb_iff, anyb_iff]
    constructor
    · rintro ⟨i, h1, h2⟩; exact ⟨i, by omega, h2⟩
    · rintro ⟨i, h1, h2⟩
      refine ⟨i, ?_, h2⟩
      rw [Bool.and_eq_true, decide_eq_true_eq] at h2
      have := (G.2.2.2.1.1 (4 * l + i) (by omega) h2.1).2.1
      rw [show (4 * l + i) % 4 = i by omega, show (4 * l + i) / 4 = l by omega] at this
      exact this
  rw [e]
  cases sdy M (mPl M) l p <;> rfl
theorem rule_C (G : Good M) (R : RepC M s) {i p : Nat} (hi : i < 64) (hl : i / 4 < mN M) (hp : p < mD M * mP M) : F_X0_brokenRule (nI i) (nI p) s = some (nI (ruleM M (mPl M) (i / 4) p)) := by
  have h30 := dp_le G
  have hN := good_N G
  have h0 := G.1
  obtain ⟨a1, a2, a3, a4, a5, hle, -⟩ := G.2.1 _ hl
  obtain ⟨r1, r2, r3, r4, r5, r6, -⟩ := R.2.2.1 (i / 4) (by omega)
  have g16 : ixb (nI (i / 4)) 16 = true := ixb_nI (by omega) (by decide)
  have c16 : (nI (i / 4)).toNatClampNeg = i / 4 := nI_clamp (by omega)
  have et : (8 : Int32) + nI (mTe M (i / 4)) = nI (8 + mTe M (i / 4)) := by rw [show (8 : Int32) = nI 8 from rfl, nI_add]
  have gt : ixb (nI (8 + mTe M (i / 4))) 22 = true := ixb_nI (by omega) (by decide)
  have gf : ixb (nI (mFi M (i / 4))) 22 = true := ixb_nI (by omega) (by decide)
  have ct : (nI (8 + mTe M (i / 4))).toNatClampNeg = 8 + mTe M (i / 4) := nI_clamp (by omega)
  have cf : (nI (mFi M (i / 4))).toNatClampNeg = mFi M (i / 4) := nI_clamp (by omega)
  have hmod : p % mP M < mP M := Nat.mod_lt _ (by omega)
  have hrem : nI p - nI p / nI (mP M) * nI (mP M) = nI (p % mP M) := pk_rem (by omega) (by omega) (by omega)
  have hP0 : ¬ nI (mP M) = 0 := nI_ne0 (by omega) (by omega)
  -- behind rule 1
  have key : p % mP M + mLe M (i / 4) ≤ mP M → (F_X3_bitsAt (nI (i / 4)) (nI p) s).bind (fun q2 =>
      grd (ixb (nI (i / 4)) 16 = true) <|
      bnd ((8 : Int32) + (s 12 (nI (i / 4)).toNatClampNeg)) fun x5 =>
      grd (ixb x5 22 = true) <|
      if ((s 18 x5.toNatClampNeg) &&& q2) = 0 then
        grd (ixb x5 22 = true) <|
        if ((s 19 x5.toNatClampNeg) &&& q2) = 0 then
          (F_X0_eitherClass (nI (i / 4)) s).bind fun q11 =>
          if (q11 &&& q2) = 0 then
            (F_X0_eitherClass_v1 (nI (i / 4)) s).bind fun q14 =>
            if (q14 &&& q2) = 0 then
              grd (¬ (s 901 0) = 0) <|
              (F_X0_isLessonOnDay (nI (i / 4)) (nI p / (s 901 0)) s).bind fun q18 =>
              if q18 = 0 then
                (F_X0_lowestRoom (nI (i / 4)) (nI p) s).bind fun q21 =>
                if q21 = (-1 : Int32) then some (7 : Int32) else some (0 : Int32)
              else some (6 : Int32)
            else some (5 : Int32)
          else some (4 : Int32)
        else some (3 : Int32)
      else some (2 : Int32)) = some (nI (ruleM M (mPl M) (i / 4) p)) := by
    intro hfit
    have hle2 := fit_le G hp hfit
    rw [bitsAt_C G R hl]
    simp only [Option.bind_some, bnd, grd_t g16, c16, r3, et, grd_t gt, ct]
    simp only [blk_bits G R (show 8 + mTe M (i / 4) < 22 by omega) hle hle2, ocy_bits G R (show 8 + mTe M (i / 4) < 22 by omega) hle hle2]
    have hn1 : ¬ mP M < p % mP M + mLe M (i / 4) := by omega
    unfold ruleM
    rw [if_neg hn1]
    cases b2 : blk M (8 + mTe M (i / 4)) p (mLe M (i / 4)) with
    | true => simp; rfl
    | false =>
    cases b3 : ocy M (mPl M) (8 + mTe M (i / 4)) p (mLe M (i / 4)) with
    | true => simp; rfl
    | false =>
    simp only [if_true, Bool.false_eq_true, if_false]
    have eB : ∃ x, F_X0_eitherClass (nI (i / 4)) s = some x ∧ ((x &&& bm (mLe M (i / 4)) p) = 0 ↔ (blk M (mFi M (i / 4)) p (mLe M (i / 4)) || (decide (mSe M (i / 4) ≠ 0) && blk M (mSe M (i / 4) - 1) p (mLe M (i / 4)))) = false) := by
      unfold F_X0_eitherClass
      simp only [bnd, grd_t g16, c16, r1, grd_t gf, cf, r2]
      by_cases h : mSe M (i / 4) = 0
      · rw [if_pos (by rw [h]; rfl)]
        refine ⟨_, rfl, ?_⟩
        rw [or_and0, blk_bits G R (show mFi M (i / 4) < 22 by omega) hle hle2]
        simp [h]
      · rw [if_neg (by rw [oI_m1 (by omega)]; exact h), oI_ne h, grd_t (ixb_nI (by omega) (by decide)), nI_clamp (by omega)]
        refine ⟨_, rfl, ?_⟩
        rw [or_and0, blk_bits G R (show mFi M (i / 4) < 22 by omega) hle hle2, blk_bits G R (show mSe M (i / 4) - 1 < 22 by omega) hle hle2]
        simp [h]
    have eO : ∃ x, F_X0_eitherClass_v1 (nI (i / 4)) s = some x ∧ ((x &&& bm (mLe M (i / 4)) p) = 0 ↔ (ocy M (mPl M) (mFi M (i / 4)) p (mLe M (i / 4)) || (decide (mSe M (i / 4) ≠ 0) && ocy M (mPl M) (mSe M (i / 4) - 1) p (mLe M (i / 4)))) = false) := by
      unfold F_X0_eitherClass_v1
      simp only [bnd, grd_t g16, c16, r1, grd_t gf, cf, r2]
      by_cases h : mSe M (i / 4) = 0
      · rw [if_pos (by rw [h]; rfl)]
        refine ⟨_, rfl, ?_⟩
        rw [or_and0, ocy_bits G R (show mFi M (i / 4) < 22 by omega) hle hle2]
        simp [h]
      · rw [if_neg (by rw [oI_m1 (by omega)]; exact h), oI_ne h, grd_t (ixb_nI (by omega) (by decide)), nI_clamp (by omega)]
        refine ⟨_, rfl, ?_⟩
        rw [or_and0, ocy_bits G R (show mFi M (i / 4) < 22 by omega) hle hle2, ocy_bits G R (show mSe M (i / 4) - 1 < 22 by omega) hle hle2]
        simp [h]
    obtain ⟨xB, hB1, hB2⟩ := eB
    obtain ⟨xO, hO1, hO2⟩ := eO
    rw [hB1]
    simp only [Option.bind_some, hB2]
    cases b4 : (blk M (mFi M (i / 4)) p (mLe M (i / 4)) || (decide (mSe M (i / 4) ≠ 0) && blk M (mSe M (i / 4) - 1) p (mLe M (i / 4)))) with
    | true => simp; rfl
    | false =>
    simp only [if_true, Bool.false_eq_true, if_false]
    rw [hO1]
    simp only [Option.bind_some, hO2]
    cases b5 : (ocy M (mPl M) (mFi M (i / 4)) p (mLe M (i / 4)) || (decide (mSe M (i / 4) ≠ 0) && ocy M (mPl M) (mSe M (i / 4) - 1) p (mLe M (i / 4)))) with
    | true => simp; rfl
    | false =>
    simp only [if_true, Bool.false_eq_true, if_false]
    rw [R.1.2.1, grd_t hP0, pk_div (by omega) (by omega) (by omega), sdy_C G R hl hp]
    simp only [Option.bind_some, b2i_z]
    cases b6 : sdy M (mPl M) (i / 4) p with
    | true => simp; rfl
    | false =>
    simp only [if_true, Bool.false_eq_true, if_false]
    rw [lowest_C G R hl hle2]
    simp only [Option.bind_some]
    have h7 : freeR M (mPl M) (i / 4) p ≤ 6 := by
      cases hh : freeR M (mPl M) (i / 4) p with
      | zero => omega
      | succ j => have := fnd_some hh; omega
    simp only [oI_m1 (show freeR M (mPl M) (i / 4) p < 2 ^ 31 by omega)]
    by_cases b7 : freeR M (mPl M) (i / 4) p = 0
    · rw [if_pos b7, if_pos b7]; rfl
    · rw [if_neg b7, if_neg b7]; rfl
  unfold F_X0_brokenRule
  simp only [jn]
  rw [lessonOf_C hi]
  simp only [Option.bind_some]
  rw [grd_t g16, c16] at *
  rw [r5]
  simp only [show (2 : Int32) = nI 2 from rfl, nI_eq (show mLe M (i / 4) < 2 ^ 31 by omega) (show 2 < 2 ^ 31 by decide)] at *
  rcases hle with h1 | h2
  · rw [if_neg (by omega)]
    exact key (by omega)
  · rw [if_pos h2, R.1.2.1, grd_t hP0, hrem, show nI (mP M) - 1 = nI (mP M - 1) from by rw [show (1 : Int32) = nI 1 from rfl, pk_sub (by omega)]]
    simp only [nI_eq (show p % mP M < 2 ^ 31 by omega) (show mP M - 1 < 2 ^ 31 by omega)]
    by_cases h3 : p % mP M = mP M - 1
    · rw [if_pos h3]
      unfold ruleM
      rw [if_pos (by omega)]; rfl
    · rw [if_neg h3, ← R.1.2.1]
      exact key (by omega)
end Ru
