/-! ===== the rules of the reference ===== -/
section Rm
variable {M : MS} {s : Sg}
theorem isBl_M (R : RepM M s) {u q : Nat} (hu : u < 22) (hq : q < 30) : F_X6_isBlocked (nI (uW u)) (nI (uH u)) (nI q) s = some (b2i (mBl M u q)) := by
  unfold F_X6_isBlocked
  rw [usr_ix u hu, nI_add, nI_clamp (by omega), grd_t (ixb_nI (by omega) (by decide)), R.2.2.2.2.1 u q hu hq, grd_t]
  cases mBl M u q
  · exact Or.inl rfl
  · exact Or.inr rfl
theorem anyBl_loop (R : RepM M s) {u p n : Nat} (hu : u < 22) (hp : p + n ≤ 30) : ∀ (fu k : Nat), k ≤ n → n - k < fu → L_X6_anyBlocked_6 fu (nI (uW u)) (nI (uH u)) (nI p) (nI n) (b2i (anyb (fun k => mBl M u (p + k)) k)) (nI k) s = some (b2i (blk M u p n)) := by
  intro fu
  induction fu with
  | zero => intro k h1 h2; omega
  | succ fu ih =>
    intro k h1 h2
    rw [L_X6_anyBlocked_6]
    simp only [nI_leI (show n < 2 ^ 31 by omega) (show k < 2 ^ 31 by omega), b2i_z, bnd]
    rcases Nat.lt_or_ge k n with h | h
    · have ih2 := ih (k + 1) (by omega) (by omega)
      rw [if_neg (by omega), nI_1]
      rw [anyb] at ih2
      cases ha : anyb (fun k => mBl M u (p + k)) k with
      | true =>
        rw [ha, Bool.true_or] at ih2
        rw [if_neg (by decide)]
        exact ih2
      | false =>
        rw [ha, Bool.false_or] at ih2
        rw [if_pos rfl, nI_add, isBl_M R hu (by omega)]
        simp only [Option.bind_some, b2i_z]
        cases hb : mBl M u (p + k) with
        | true => rw [if_neg (by decide)]; rw [hb] at ih2; exact ih2
        | false => rw [if_pos rfl]; rw [hb] at ih2; exact ih2
    · have : k = n := by omega
      subst this
      rw [if_pos (Nat.le_refl _)]
      rfl
theorem anyBl_M (R : RepM M s) {u p n : Nat} (hu : u < 22) (hp : p + n ≤ 30) : F_X6_anyBlocked (nI (uW u)) (nI (uH u)) (nI p) (nI n) s = some (b2i (blk M u p n)) := by
  unfold F_X6_anyBlocked
  have := anyBl_loop R hu hp FU 0 (by omega) (FU_gt (by omega))
  rw [show L_X6_anyBlocked_6 FU (nI (uW u)) (nI (uH u)) (nI p) (nI n) 0 0 s = _ from this]
  cases blk M u p n <;> rfl
theorem anyIt_loop (G : Good M) (R : RepM M s) {u p n : Nat} (hu : u < 22) (hp : p + n ≤ 30) : ∀ (fu k : Nat), k ≤ n → n - k < fu → L_X6_anyItem_6 fu (nI (uW u)) (nI (uH u)) (nI p) (nI n) (b2i (anyb (fun k => occ M (mPl M) u (p + k)) k)) (nI k) s = some (b2i (ocy M (mPl M) u p n)) := by
  intro fu
  induction fu with
  | zero => intro k h1 h2; omega
  | succ fu ih =>
    intro k h1 h2
    rw [L_X6_anyItem_6]
    simp only [nI_leI (show n < 2 ^ 31 by omega) (show k < 2 ^ 31 by omega), b2i_z, bnd]
    rcases Nat.lt_or_ge k n with h | h
    · have ih2 := ih (k + 1) (by omega) (by omega)
      rw [if_neg (by omega), nI_1]
      rw [anyb] at ih2
      cases ha : anyb (fun k => occ M (mPl M) u (p + k)) k with
      | true =>
        rw [ha, Bool.true_or] at ih2
        rw [if_neg (by decide)]
        exact ih2
      | false =>
        rw [ha, Bool.false_or] at ih2
        rw [if_pos rfl, nI_add, itemAt_M G R hu (by omega)]
        simp only [Option.bind_some]
        cases hb : iAt M (mPl M) u (p + k) with
        | zero =>
          rw [if_pos (show oI 0 < 0 by decide)]
          rw [(iAt_occ M (mPl M) u (p + k)).mp hb] at ih2
          exact ih2
        | succ j =>
          have hj := (iAt_lt hb).1
          rw [if_neg (show ¬ oI (j + 1) < 0 from nI_pos (by omega))]
          have ho : occ M (mPl M) u (p + k) = true := by
            cases hh : occ M (mPl M) u (p + k) with
            | true => rfl
            | false => rw [(iAt_occ M (mPl M) u (p + k)).mpr hh] at hb; cases hb
          rw [ho] at ih2
          exact ih2
    · have : k = n := by omega
      subst this
      rw [if_pos (Nat.le_refl _)]
      rfl
theorem anyIt_M (G : Good M) (R : RepM M s) {u p n : Nat} (hu : u < 22) (hp : p + n ≤ 30) : F_X6_anyItem (nI (uW u)) (nI (uH u)) (nI p) (nI n) s = some (b2i (ocy M (mPl M) u p n)) := by
  unfold F_X6_anyItem
  have := anyIt_loop G R hu hp FU 0 (by omega) (FU_gt (by omega))
  rw [show L_X6_anyItem_6 FU (nI (uW u)) (nI (uH u)) (nI p) (nI n) 0 0 s = _ from this]
  cases ocy M (mPl M) u p n <;> rfl
theorem uT {t : Nat} (h : t < 8) : nI (uW (8 + t)) = 1 ∧ nI (uH (8 + t)) = nI t := by
  constructor
  · simp only [uW, show ¬ 8 + t < 8 by omega, show 8 + t < 16 by omega, if_true, if_false]; rfl
  · simp only [uH, show ¬ 8 + t < 8 by omega, show 8 + t < 16 by omega, if_true, if_false]; congr 1; omega
theorem uR {t : Nat} (h : t < 6) : nI (uW (16 + t)) = 2 ∧ nI (uH (16 + t)) = nI t := by
  constructor
  · simp only [uW, show ¬ 16 + t < 8 by omega, show ¬ 16 + t < 16 by omega, if_false]; rfl
  · simp only [uH, show ¬ 16 + t < 8 by omega, show ¬ 16 + t < 16 by omega, if_false]; congr 1; omega
theorem uC {t : Nat} (h : t < 8) : nI (uW t) = 0 ∧ nI (uH t) = nI t := by
  constructor
  · simp only [uW, h, if_true]; rfl
  · simp only [uH, h, if_true]
theorem ab_T (R : RepM M s) {t p n : Nat} (ht : t < 8) (hp : p + n ≤ 30) : F_X6_anyBlocked 1 (nI t) (nI p) (nI n) s = some (b2i (blk M (8 + t) p n)) := by
  have := anyBl_M R (u := 8 + t) (by omega) hp
  rw [(uT ht).1, (uT ht).2] at this; exact this
theorem ab_R (R : RepM M s) {t p n : Nat} (ht : t < 6) (hp : p + n ≤ 30) : F_X6_anyBlocked 2 (nI t) (nI p) (nI n) s = some (b2i (blk M (16 + t) p n)) := by
  have := anyBl_M R (u := 16 + t) (by omega) hp
  rw [(uR ht).1, (uR ht).2] at this; exact this
theorem ab_C (R : RepM M s) {t p n : Nat} (ht : t < 8) (hp : p + n ≤ 30) : F_X6_anyBlocked 0 (nI t) (nI p) (nI n) s = some (b2i (blk M t p n)) := by
  have := anyBl_M R (u := t) (by omega) hp
  rw [(uC ht).1, (uC ht).2] at this; exact this
theorem ai_T (G : Good M) (R : RepM M s) {t p n : Nat} (ht : t < 8) (hp : p + n ≤ 30) : F_X6_anyItem 1 (nI t) (nI p) (nI n) s = some (b2i (ocy M (mPl M) (8 + t) p n)) := by
  have := anyIt_M G R (u := 8 + t) (by omega) hp
  rw [(uT ht).1, (uT ht).2] at this; exact this
theorem ai_R (G : Good M) (R : RepM M s) {t p n : Nat} (ht : t < 6) (hp : p + n ≤ 30) : F_X6_anyItem 2 (nI t) (nI p) (nI n) s = some (b2i (ocy M (mPl M) (16 + t) p n)) := by
  have := anyIt_M G R (u := 16 + t) (by omega) hp
  rw [(uR ht).1, (uR ht).2] at this; exact this
theorem ai_C (G : Good M) (R : RepM M s) {t p n : Nat} (ht : t < 8) (hp : p + n ≤ 30) : F_X6_anyItem 0 (nI t) (nI p) (nI n) s = some (b2i (ocy M (mPl M) t p n)) := by
  have := anyIt_M G R (u := t) (by omega) hp
  rw [(uC ht).1, (uC ht).2] at this; exact this
theorem room_loop_M (G : Good M) (R : RepM M s) {l p : Nat} (hl : l < mN M) (hp : p + mLe M l ≤ mD M * mP M) : ∀ (fu r : Nat), r ≤ 6 → 6 - r < fu → L_X6_freeRoom_2 fu (nI l) (nI p) (nI r) s = some (match fnd (fun r => decide (mRk M r = mKi M l) && (!blk M (16 + r) p (mLe M l) && !ocy M (mPl M) (16 + r) p (mLe M l))) r (6 - r) with
    | 0 => .inr ()
    | j + 1 => .inl (nI j)) := by
  have hN := good_N G
  have h30 := dp_le G
  have hle := (G.2.1 l hl).2.2.2.2.2.1
  have hki := (G.2.1 l hl).2.2.2.2.1
  have g16 : ixb (nI l) 16 = true := ixb_nI (by omega) (by decide)
  intro fu
  induction fu with
  | zero => intro r h1 h2; omega
  | succ fu ih =>
    intro r h1 h2
    rw [L_X6_freeRoom_2]
    rcases Nat.lt_or_ge r 6 with h | h
    · rw [if_neg (by rw [show (6 : Int32) = nI 6 from rfl, nI_leI (by decide) (by omega)]; omega)]
      have e1 : 6 - r = (6 - (r + 1)) + 1 := by omega
      have ih2 := ih (r + 1) (by omega) (by omega)
      have hrk := G.2.2.1 r h
      rw [e1, fnd]
      simp only [bnd]
      rw [grd_t (ixb_nI h (by decide)), nI_clamp (by omega), nI_clamp (by omega), R.2.2.1 r h, (R.2.1 l (by omega)).2.2.2.1, (R.2.1 l (by omega)).2.2.2.2.1, nI_1, ih2, ab_R R h (by omega), ai_R G R h (by omega)]
      simp only [grd_t g16, Option.bind_some, b2i_z, nI_eq (show mRk M r < 2 ^ 31 by omega) (show mKi M l < 2 ^ 31 by omega)]
      by_cases hk : mRk M r = mKi M l
      · rw [if_pos hk, decide_eq_true hk]
        cases hb : blk M (16 + r) p (mLe M l) <;> cases ho : ocy M (mPl M) (16 + r) p (mLe M l) <;> simp
      · rw [if_neg hk, decide_eq_false hk]
        simp
    · have : r = 6 := by omega
      subst this
      rw [if_pos (by decide)]
      simp [fnd]
theorem free_M (G : Good M) (R : RepM M s) {l p : Nat} (hl : l < mN M) (hp : p + mLe M l ≤ mD M * mP M) : F_X6_freeRoom (nI l) (nI p) s = some (oI (freeR M (mPl M) l p)) := by
  unfold F_X6_freeRoom freeR
  rw [show (0 : Int32) = nI 0 from rfl, room_loop_M G R hl hp FU 0 (by omega) (FU_gt (by omega))]
  simp only [Option.bind_some, Nat.sub_zero]
  cases fnd (fun r => decide (mRk M r = mKi M l) && (!blk M (16 + r) p (mLe M l) && !ocy M (mPl M) (16 + r) p (mLe M l))) 0 6 <;> rfl
theorem day_loop_M (G : Good M) (R : RepM M s) {i p : Nat} (hi : i < 64) (h0 : mPl M i = 0) (hp : p < 30) : ∀ (fu k : Nat), k ≤ 4 → 4 - k < fu → anyb (fun k => decide (mPl M (4 * (i / 4) + k) ≠ 0) && decide ((mPl M (4 * (i / 4) + k) - 1) / 6 / mP M = p / mP M)) k = false → L_X6_rule_172 fu (nI i) (nI p) (nI (i / 4)) (nI (4 * (i / 4) + k)) s = some (if sdy M (mPl M) (i / 4) p = true then .inl 6 else .inr ()) := by
  have hG := G.1
  intro fu
  induction fu with
  | zero => intro k h1 h2; omega
  | succ fu ih =>
    intro k h1 h2 h3
    rw [L_X6_rule_172, show (4 : Int32) = nI 4 from rfl, pk_mul, nI_add]
    simp only [bnd]
    rcases Nat.lt_or_ge k 4 with h | h
    · rw [if_neg (by rw [nI_leI (by omega) (by omega)]; omega)]
      have hlt : 4 * (i / 4) + k < 64 := by omega
      have g64 := ixb_nI hlt (show 64 < 2 ^ 31 by decide)
      have ih2 := fun (hz : (decide (mPl M (4 * (i / 4) + k) ≠ 0) && decide ((mPl M (4 * (i / 4) + k) - 1) / 6 / mP M = p / mP M)) = false) => ih (k + 1) (by omega) (by omega) (by rw [anyb, h3, hz]; rfl)
      rw [nI_1, nI_clamp (by omega), (R.2.2.2.1 _ hlt).1]
      simp only [grd_t g64, nI_eq (show 4 * (i / 4) + k < 2 ^ 31 by omega) (show i < 2 ^ 31 by omega)]
      by_cases he : 4 * (i / 4) + k = i
      · rw [if_pos he]
        exact ih2 (by rw [he, h0]; rfl)
      · rw [if_neg he]
        by_cases hq : mPl M (4 * (i / 4) + k) = 0
        · rw [if_pos (by unfold perO; rw [hq]; decide)]
          exact ih2 (by rw [hq]; rfl)
        · have hpl := pl_lt G G.2.2.2.1 hlt
          have e1 : oI (perO (mPl M) (4 * (i / 4) + k)) = nI ((mPl M (4 * (i / 4) + k) - 1) / 6) := by simp [perO, hq, oI]
          have hdv : (mPl M (4 * (i / 4) + k) - 1) / 6 / mP M < 2 ^ 31 := Nat.lt_of_le_of_lt (Nat.div_le_self _ _) (by omega)
          have hdv2 : p / mP M < 2 ^ 31 := Nat.lt_of_le_of_lt (Nat.div_le_self _ _) (by omega)
          have hP0 : ¬ nI (mP M) = 0 := nI_ne0 (by omega) (by omega)
          rw [e1, if_neg (nI_pos (by omega)), R.1.2.1, grd_t hP0, grd_t hP0, pk_div (by omega) (by omega) (by omega), pk_div (by omega) (by omega) (by omega)]
          simp only [nI_eq hdv hdv2]
          by_cases hd : (mPl M (4 * (i / 4) + k) - 1) / 6 / mP M = p / mP M
          · rw [if_pos hd, if_pos]
            exact anyb_iff.mpr ⟨k, h, by simp [hq, hd]⟩
          · rw [if_neg hd]
            exact ih2 (by simp [hd])
    · have : k = 4 := by omega
      subst this
      rw [if_pos ((nI_leI (by omega) (by omega)).mpr (Nat.le_refl _))]
      unfold sdy
      rw [h3]
      rfl
theorem rule_M (G : Good M) (R : RepM M s) {i p : Nat} (hi : i < 64) (hl : i / 4 < mN M) (h0 : mPl M i = 0) (hp : p < mD M * mP M) : F_X6_rule (nI i) (nI p) s = some (nI (ruleM M (mPl M) (i / 4) p)) := by
  have h30 := dp_le G
  have hN := good_N G
  have hG := G.1
  obtain ⟨a1, a2, a3, a4, a5, hle, -⟩ := G.2.1 _ hl
  obtain ⟨r1, r2, r3, r4, r5, r6, -⟩ := R.2.1 (i / 4) (by omega)
  have g16 : ixb (nI (i / 4)) 16 = true := ixb_nI (by omega) (by decide)
  have c16 : (nI (i / 4)).toNatClampNeg = i / 4 := nI_clamp (by omega)
  have hmod : p % mP M < mP M := Nat.mod_lt _ (by omega)
  have hrem : nI p - nI p / nI (mP M) * nI (mP M) = nI (p % mP M) := pk_rem (by omega) (by omega) (by omega)
  have hP0 : ¬ nI (mP M) = 0 := nI_ne0 (by omega) (by omega)
  unfold F_X6_rule
  simp only [jn]
  rw [lessonOf_M hi]
  simp only [Option.bind_some, bnd, grd_t g16, c16, r1, r2, r3, r5, R.1.2.1, grd_t hP0, hrem, nI_add, nI_leI (show p % mP M + mLe M (i / 4) < 2 ^ 31 by omega) (show mP M < 2 ^ 31 by omega)]
  by_cases hfit : p % mP M + mLe M (i / 4) ≤ mP M
  · have hle2 := fit_le G hp hfit
    have hn1 : ¬ mP M < p % mP M + mLe M (i / 4) := by omega
    have hday := day_loop_M G R hi h0 (show p < 30 by omega) FU 0 (by omega) (FU_gt (by omega)) rfl
    have h7 : freeR M (mPl M) (i / 4) p ≤ 6 := by
      cases hh : freeR M (mPl M) (i / 4) p with
      | zero => omega
      | succ j => have := fnd_some hh; omega
    have h4 : (4 : Int32) * nI (i / 4) = nI (4 * (i / 4) + 0) := by rw [show (4 : Int32) = nI 4 from rfl, pk_mul]; rfl
    rw [if_pos hfit]
    unfold ruleM
    rw [if_neg hn1, ab_T R a4 (by omega), ai_T G R a4 (by omega), h4, hday, free_M G R hl hle2]
    simp only [Option.bind_some, b2i_z, ab_C R a1 (show p + mLe M (i / 4) ≤ 30 by omega), ai_C G R a1 (show p + mLe M (i / 4) ≤ 30 by omega), oI_neg (show mSe M (i / 4) < 2 ^ 31 by omega), oI_pos (show freeR M (mPl M) (i / 4) p < 2 ^ 31 by omega), one0, if_true, if_false]
    cases b2 : blk M (8 + mTe M (i / 4)) p (mLe M (i / 4)) with
    | true => rfl
    | false =>
    cases b3 : ocy M (mPl M) (8 + mTe M (i / 4)) p (mLe M (i / 4)) with
    | true => rfl
    | false =>
    simp only [if_true, Bool.false_eq_true, if_false]
    have hEnd : (match (if sdy M (mPl M) (i / 4) p = true then Sum.inl (6 : Int32) else Sum.inr ()) with
        | .inl v27 => some v27
        | .inr t28 => if freeR M (mPl M) (i / 4) p ≠ 0 then some (0 : Int32) else some (7 : Int32)) = some (nI (if sdy M (mPl M) (i / 4) p = true then 6 else if freeR M (mPl M) (i / 4) p = 0 then 7 else 0)) := by
      cases sdy M (mPl M) (i / 4) p with
      | true => rfl
      | false =>
        by_cases hh : freeR M (mPl M) (i / 4) p = 0
        · simp [hh]; rfl
        · simp [hh]; rfl
    by_cases hs : mSe M (i / 4) = 0
    · simp only [hs, if_true, ne_eq, not_true_eq_false, decide_false, Bool.false_and, Bool.or_false]
      cases b4 : blk M (mFi M (i / 4)) p (mLe M (i / 4)) with
      | true => rfl
      | false =>
      cases b5 : ocy M (mPl M) (mFi M (i / 4)) p (mLe M (i / 4)) with
      | true => rfl
      | false => exact hEnd
    · have e2 : oI (mSe M (i / 4)) = nI (mSe M (i / 4) - 1) := oI_ne hs
      simp only [hs, if_false, e2, ab_C R (show mSe M (i / 4) - 1 < 8 by omega) (show p + mLe M (i / 4) ≤ 30 by omega), ai_C G R (show mSe M (i / 4) - 1 < 8 by omega) (show p + mLe M (i / 4) ≤ 30 by omega), Option.bind_some, b2i_z, ne_eq, not_false_eq_true, decide_true, Bool.true_and]
      cases b4 : blk M (mFi M (i / 4)) p (mLe M (i / 4)) with
      | true => rfl
      | false =>
      cases b4' : blk M (mSe M (i / 4) - 1) p (mLe M (i / 4)) with
      | true => rfl
      | false =>
      cases b5 : ocy M (mPl M) (mFi M (i / 4)) p (mLe M (i / 4)) with
      | true => rfl
      | false =>
      cases b5' : ocy M (mPl M) (mSe M (i / 4) - 1) p (mLe M (i / 4)) with
      | true => rfl
      | false => exact hEnd
  · rw [if_neg hfit]
    unfold ruleM
    rw [if_pos (by omega)]; rfl
theorem rule0 {f : Nat → Nat} {l p : Nat} (h : ruleM M f l p = 0) : p % mP M + mLe M l ≤ mP M ∧ ocy M f (8 + mTe M l) p (mLe M l) = false ∧ ocy M f (mFi M l) p (mLe M l) = false ∧ (mSe M l ≠ 0 → ocy M f (mSe M l - 1) p (mLe M l) = false) ∧ freeR M f l p ≠ 0 := by
  unfold ruleM at h
  split at h
  · cases h
  split at h
  · cases h
  split at h
  · cases h
  split at h
  · cases h
  split at h
  · cases h
  split at h
  · cases h
  split at h
  · cases h
  rename_i h1 h2 h3 h4 h5 h6 h7
  simp only [Bool.or_eq_true, Bool.and_eq_true, decide_eq_true_eq, not_or, not_and, Bool.not_eq_true] at h5
  exact ⟨by omega, by simpa using h3, h5.1, h5.2, h7⟩
theorem free_iff {f : Nat → Nat} {l p r : Nat} (h : freeR M f l p = r + 1) : r < 6 ∧ ocy M f (16 + r) p (mLe M l) = false := by
  obtain ⟨-, h1, h2, -⟩ := fnd_some h
  simp only [Bool.and_eq_true, Bool.not_eq_true'] at h2
  exact ⟨by omega, h2.2.2⟩
theorem VP_put (G : Good M) {f : Nat → Nat} (V : VP M f) {i p r : Nat} (hi : i < 64) (hl : i / 4 < mN M) (hk : i % 4 < mTi M (i / 4)) (hp : p < mD M * mP M) (hr : ruleM M f (i / 4) p = 0) (hf : freeR M f (i / 4) p = r + 1) : VP M (va_up f i (6 * p + r + 1)) := by
  obtain ⟨k1, k2, k3, k4, k5⟩ := rule0 hr
  obtain ⟨hr6, k6⟩ := free_iff hf
  have e1 : (6 * p + r + 1 - 1) / 6 = p := by omega
  have e2 : (6 * p + r + 1 - 1) % 6 = r := by omega
  have clash : ∀ j u q, j < 64 → j ≠ i → cvr M (va_up f i (6 * p + r + 1)) i q = true → usz M (va_up f i (6 * p + r + 1)) i u = true → cvr M f j q = true → usz M f j u = true → False := by
    intro j u q hj hne c1 u1 c2 u2
    have ho : occ M f u q = true := anyb_iff.mpr ⟨j, hj, by rw [c2, u2]; rfl⟩
    unfold cvr at c1
    rw [up_eq, e1] at c1
    simp only [Bool.and_eq_true, decide_eq_true_eq] at c1
    have hoc : ocy M f u p (mLe M (i / 4)) = true := anyb_iff.mpr ⟨q - p, by omega, by rw [show p + (q - p) = q by omega]; exact ho⟩
    unfold usz at u1
    rw [up_eq, e2] at u1
    simp only [Bool.or_eq_true, beq_iff_eq] at u1
    rcases u1 with ((h | h) | h) | h
    · rw [h, k3] at hoc; cases hoc
    · have := k4 (by omega)
      rw [show u = mSe M (i / 4) - 1 by omega, this] at hoc; cases hoc
    · rw [h, k2] at hoc; cases hoc
    · rw [h, k6] at hoc; cases hoc
  constructor
  · intro j hj h
    by_cases e : j = i
    · subst e
      rw [up_eq, e1]
      exact ⟨hl, hk, hp, k1⟩
    · rw [up_ne _ _ e] at h ⊢
      exact V.1 j hj h
  · intro j k u q hj hk2 hu h1 h2 h3 h4
    by_cases ej : j = i
    · by_cases ek : k = i
      · rw [ej, ek]
      · subst ej
        rw [cvr_up_ne ek] at h2
        rw [usz_up_ne ek] at h4
        exact (clash k u q hk2 ek h1 h3 h2 h4).elim
    · rw [cvr_up_ne ej] at h1
      rw [usz_up_ne ej] at h3
      by_cases ek : k = i
      · subst ek
        exact (clash j u q hj ej h2 h4 h1 h3).elim
      · rw [cvr_up_ne ek] at h2
        rw [usz_up_ne ek] at h4
        exact V.2 j k u q hj hk2 hu h1 h2 h3 h4
theorem put_M (G : Good M) (R : RepM M s) {i p r : Nat} (hi : i < 64) (hl : i / 4 < mN M) (hp : p < mD M * mP M) (hfit : p % mP M + mLe M (i / 4) ≤ mP M) (hf : freeR M (mPl M) (i / 4) p = r + 1) : ∃ a b, F_X6_put (nI i) (nI p) s = some (va_up (va_up s 30 a) 31 b) ∧ RepM (va_up M 11 (va_up (mPl M) i (6 * p + r + 1))) (va_up (va_up s 30 a) 31 b) := by
  refine ⟨_, _, ?_, set_M R hi (free_iff hf).1⟩
  unfold F_X6_put
  rw [lessonOf_M hi]
  simp only [Option.bind_some]
  rw [free_M G R hl (fit_le G hp hfit), hf]
  simp only [Option.bind_some, bnd]
  rw [nI_clamp (by omega), grd_t (ixb_nI hi (by decide)), grd_t (ixb_nI hi (by decide))]
  rfl
theorem putBy_C (G : Good M) (R : RepC M s) {i p r : Nat} (hi : i < 64) (hl : i / 4 < mN M) (h0 : mPl M i = 0) (hp : p < mD M * mP M) (hr : ruleM M (mPl M) (i / 4) p = 0) (hf : freeR M (mPl M) (i / 4) p = r + 1) : ∃ b sp, F_X0_putByRules (nI i) (nI p) s = some (0, va_up (va_up s 19 b) 20 sp) ∧ RepC (va_up M 11 (va_up (mPl M) i (6 * p + r + 1))) (va_up (va_up s 19 b) 20 sp) := by
  have h30 := dp_le G
  have hr6 := (free_iff hf).1
  obtain ⟨b, sp, h1, h2⟩ := putAt_C G R (v := 6 * p + r) hi h0 hl (by omega)
  refine ⟨b, sp, ?_, h2⟩
  unfold F_X0_putByRules
  rw [rule_C G R hi hl hp, hr]
  simp only [Option.bind_some]
  rw [if_pos (show nI 0 = 0 from rfl), lessonOf_C hi]
  simp only [Option.bind_some]
  rw [lowest_C G R hl (fit_le G hp (rule0 hr).1), hf]
  simp only [Option.bind_some]
  rw [show nI p * 6 + oI (r + 1) = nI (6 * p + r) from by rw [show (6 : Int32) = nI 6 from rfl, show oI (r + 1) = nI r from rfl, pk_mul, nI_add, Nat.mul_comm], h1]
  rfl
theorem ruleM_lt {f : Nat → Nat} {l p : Nat} : ruleM M f l p ≤ 7 := by
  unfold ruleM
  repeat' split
  all_goals omega
theorem putBy_no (G : Good M) (R : RepC M s) {i p : Nat} (hi : i < 64) (hl : i / 4 < mN M) (hp : p < mD M * mP M) (hr : ruleM M (mPl M) (i / 4) p ≠ 0) : F_X0_putByRules (nI i) (nI p) s = some (nI (ruleM M (mPl M) (i / 4) p), s) := by
  have := ruleM_lt (M := M) (f := mPl M) (l := i / 4) (p := p)
  unfold F_X0_putByRules
  rw [rule_C G R hi hl hp]
  simp only [Option.bind_some]
  rw [if_neg (nI_ne0 (by omega) (by omega))]
end Rm
