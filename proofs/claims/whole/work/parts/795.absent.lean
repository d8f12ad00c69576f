/-! ===== absent: the reference's side ===== -/
section Ab
variable {M : MS} {s : Sg}
theorem usT (G : Good M) {f : Nat → Nat} {i T : Nat} (hl : i / 4 < mN M) (hT : T < 8) : usz M f i (8 + T) = decide (mTe M (i / 4) = T) := by
  obtain ⟨q1, q2, q3, q4, -⟩ := G.2.1 _ hl
  unfold usz
  rw [show (8 + T == mFi M (i / 4)) = false by simp; omega, show (mSe M (i / 4) == 8 + T + 1) = false by simp; omega, show (8 + T == 16 + (f i - 1) % 6) = false by simp; omega, show (8 + T == 8 + mTe M (i / 4)) = decide (mTe M (i / 4) = T) by rw [beq_d]; apply decide_eq_decide.mpr; omega]
  simp
theorem at_cv (G : Good M) {f : Nat → Nat} (V : VP M f) {i T p : Nat} (hi : i < 64) (h0 : f i ≠ 0) (hT : T < 8) (ht : mTe M (i / 4) = T) (h1 : (f i - 1) / 6 ≤ p) (h2 : p < (f i - 1) / 6 + mLe M (i / 4)) : cvr M f i p = true ∧ usz M f i (8 + T) = true := by
  have hl := (V.1 i hi h0).1
  refine ⟨?_, ?_⟩
  · unfold cvr; simp [h0, h1, h2]
  · rw [usT G hl hT]; simp [ht]
theorem at_one (G : Good M) {f : Nat → Nat} (V : VP M f) {i j T p : Nat} (hi : i < 64) (h0 : f i ≠ 0) (hT : T < 8) (ht : mTe M (i / 4) = T) (h1 : (f i - 1) / 6 ≤ p) (h2 : p < (f i - 1) / 6 + mLe M (i / 4)) (hj : j < 64) (c : cvr M f j p = true) (u : usz M f j (8 + T) = true) : i = j := by
  obtain ⟨c1, u1⟩ := at_cv G V hi h0 hT ht h1 h2
  exact V.2 i j (8 + T) p hi hj (by omega) c1 c u1 u
theorem le_pos (G : Good M) {f : Nat → Nat} (V : VP M f) {i : Nat} (hi : i < 64) (h0 : f i ≠ 0) : 0 < mLe M (i / 4) := by
  have := (G.2.1 _ (V.1 i hi h0).1).2.2.2.2.2.1
  omega
theorem iAt_of {f : Nat → Nat} {u p j : Nat} (h : iAt M f u p = j + 1) : j < 64 ∧ cvr M f j p = true ∧ usz M f j u = true := by
  obtain ⟨-, h1, h2, -⟩ := fnd_some h
  rw [Bool.and_eq_true] at h2
  exact ⟨by omega, h2⟩
theorem itB_no1 (G : Good M) {f : Nat → Nat} (V : VP M f) {T p : Nat} (hT : T < 8) (h : iAt M f (8 + T) p = 0) : itB M f T p = 0 := by
  cases hb : itB M f T p with
  | zero => rfl
  | succ i =>
    obtain ⟨i1, i2, i3, i4⟩ := itB_some hb
    have := le_pos G V i1 i2
    obtain ⟨c1, u1⟩ := at_cv G V i1 i2 hT i3 (p := p) (by omega) (by omega)
    have ho : occ M f (8 + T) p = true := anyb_iff.mpr ⟨i, i1, by rw [c1, u1]; rfl⟩
    rw [(iAt_occ M f (8 + T) p).mp h] at ho
    cases ho
theorem itB_no2 (G : Good M) {f : Nat → Nat} (V : VP M f) {T p j : Nat} (hT : T < 8) (h : iAt M f (8 + T) p = j + 1) (hp : (f j - 1) / 6 ≠ p) : itB M f T p = 0 := by
  obtain ⟨j1, j2, j3⟩ := iAt_of h
  cases hb : itB M f T p with
  | zero => rfl
  | succ i =>
    obtain ⟨i1, i2, i3, i4⟩ := itB_some hb
    have := le_pos G V i1 i2
    have e := at_one G V i1 i2 hT i3 (p := p) (by omega) (by omega) j1 j2 j3
    subst e
    exact absurd i4 hp
theorem itB_yes (G : Good M) {f : Nat → Nat} (V : VP M f) {T p j : Nat} (hT : T < 8) (h : iAt M f (8 + T) p = j + 1) (hp : (f j - 1) / 6 = p) : itB M f T p = j + 1 := by
  obtain ⟨j1, j2, j3⟩ := iAt_of h
  have j0 := cvr_pl j2
  have jt : mTe M (j / 4) = T := by
    rw [usT G (V.1 j j1 j0).1 hT] at j3
    exact of_decide_eq_true j3
  cases hb : itB M f T p with
  | zero =>
    have := fnd_none.mp hb j (Nat.zero_le _) (by omega)
    simp [j0, jt, hp] at this
  | succ i =>
    obtain ⟨i1, i2, i3, i4⟩ := itB_some hb
    have := le_pos G V i1 i2
    rw [at_one G V i1 i2 hT i3 (p := p) (by omega) (by omega) j1 j2 j3]
theorem mayL_M (G : Good M) (R : RepM M s) {w p len : Nat} (hw : w < 8) (hp : p < 1000) (hlen : len < 1000) (hL : ∀ k, k < mCc M → ∃ j, j < 64 ∧ s 33 k = nI j ∧ mPl M j ≠ 0 ∧ (mPl M j - 1) / 6 + mLe M (j / 4) ≤ p) (b : Bool) : ∀ (fu k : Nat), k ≤ mCc M → mCc M - k < fu → L_X6_mayTake_52 fu (nI w) (nI p) (nI len) (b2i b) (nI k) s = some (b2i b) := by
  have h6 := G.2.2.2.2.2.2.2.1
  intro fu
  induction fu with
  | zero => intro i h1 h2; omega
  | succ fu ih =>
    intro k h1 h2
    rw [L_X6_mayTake_52, R.2.2.2.2.2.2.2.1]
    by_cases h : mCc M ≤ k
    · rw [if_pos ((nI_leI (by omega) (by omega)).mpr h)]
    · have ih2 := ih (k + 1) (by omega) (by omega)
      obtain ⟨j, j1, j2, j3, j4⟩ := hL k (by omega)
      have hl := (G.2.2.2.1.1 j j1 j3).1
      have hN := good_N G
      have hpl := pl_lt G G.2.2.2.1 j1
      have hle := (G.2.1 _ hl).2.2.2.2.2.1
      have e3 : oI (perO (mPl M) j) = nI ((mPl M j - 1) / 6) := by simp [perO, j3, oI]
      rw [if_neg (fun z => h ((nI_leI (by omega) (by omega)).mp z)), grd_t (ixb_nI (by omega) (by decide)), nI_clamp (by omega)]
      simp only [j2]
      rw [grd_t (ixb_nI j1 (by decide)), nI_clamp (by omega), (R.2.2.2.1 j j1).1, e3, bnd_e]
      simp only [bnd, nI_1]
      cases b with
      | false =>
        rw [b2i_f, if_pos rfl]
        exact ih2
      | true =>
        rw [b2i_t, if_neg (by decide), grd_t (ixb_nI (by omega) (by decide))]
        split
        · rw [grd_t (ixb_nI (by omega) (by decide)), lessonOf_M j1, Option.bind_some, grd_t (ixb_nI (by omega) (by decide)), nI_clamp (by omega), (R.2.1 (j / 4) (by omega)).2.2.2.2.1, nI_add, if_pos ((nI_leI (by omega) (by omega)).mpr j4)]
          exact ih2
        · exact ih2
theorem may_M (G : Good M) (R : RepM M s) {w i : Nat} (hw : w < 8) (hi : i < 64) (h0 : mPl M i ≠ 0) (hL : ∀ k, k < mCc M → ∃ j, j < 64 ∧ s 33 k = nI j ∧ mPl M j ≠ 0 ∧ (mPl M j - 1) / 6 + mLe M (j / 4) ≤ (mPl M i - 1) / 6) : F_X6_mayTake (nI w) (nI i) s = some (b2i (!ocy M (mPl M) (8 + w) ((mPl M i - 1) / 6) (mLe M (i / 4)) && !blk M (8 + w) ((mPl M i - 1) / 6) (mLe M (i / 4)))) := by
  obtain ⟨v1, v2, v3, v4⟩ := G.2.2.2.1.1 i hi h0
  have hN := good_N G
  have h30 := dp_le G
  have h6 := G.2.2.2.2.2.2.2.1
  have hle := (G.2.1 _ v1).2.2.2.2.2.1
  have hfit := fit_le G v3 v4
  have hpl := pl_lt G G.2.2.2.1 hi
  have e3 : oI (perO (mPl M) i) = nI ((mPl M i - 1) / 6) := by simp [perO, h0, oI]
  have m0 := mayL_M G R hw (p := (mPl M i - 1) / 6) (len := mLe M (i / 4)) (by omega) (by omega) hL false FU 0 (by omega) (FU_gt (by omega))
  have m1 := mayL_M G R hw (p := (mPl M i - 1) / 6) (len := mLe M (i / 4)) (by omega) (by omega) hL true FU 0 (by omega) (FU_gt (by omega))
  unfold F_X6_mayTake
  rw [grd_t (ixb_nI hi (by decide)), nI_clamp (by omega), (R.2.2.2.1 i hi).1, e3, bnd_e, lessonOf_M hi, Option.bind_some, grd_t (ixb_nI (by omega) (by decide)), nI_clamp (by omega), (R.2.1 (i / 4) (by omega)).2.2.2.2.1, bnd_e, ab_T R hw (by omega), Option.bind_some, ai_T G R hw (by omega), Option.bind_some, show L_X6_mayTake_52 FU (nI w) (nI ((mPl M i - 1) / 6)) (nI (mLe M (i / 4))) 0 0 s = _ from m0, show L_X6_mayTake_52 FU (nI w) (nI ((mPl M i - 1) / 6)) (nI (mLe M (i / 4))) 1 0 s = _ from m1]
  cases blk M (8 + w) ((mPl M i - 1) / 6) (mLe M (i / 4)) with
  | true => 
    rw [b2i_t, if_neg (by decide), Option.bind_some, b2i_f, grd_t (Or.inl rfl), Bool.not_true, Bool.and_false]; rfl
  | false =>
    rw [b2i_f, if_pos rfl]
    cases ocy M (mPl M) (8 + w) ((mPl M i - 1) / 6) (mLe M (i / 4)) with
    | true => 
      rw [b2i_t, if_neg (by decide), Option.bind_some, grd_t (Or.inl rfl)]; rfl
    | false => 
      rw [b2i_f, if_pos rfl, Option.bind_some, b2i_t, grd_t (Or.inr rfl)]; rfl
theorem add0 (n : Nat) : nI n + 0 = nI n := by rw [show (0 : Int32) = nI 0 from rfl, nI_add]; rfl
theorem isOf1 (G : Good M) (R : RepM M s) {i w : Nat} (hi : i < 64) (h0 : mPl M i ≠ 0) (hw : w < 8) : F_X6_isOf (nI i) 1 (nI w) s = some (b2i (decide (mTe M (i / 4) = w))) := by
  have hl := (G.2.2.2.1.1 i hi h0).1
  have hN := good_N G
  have ht := (G.2.1 _ hl).2.2.2.1
  unfold F_X6_isOf
  rw [lessonOf_M hi, Option.bind_some, R.1.2.2, if_pos ((nI_ltI (by omega) (by omega)).mpr hl), if_neg (by decide), if_pos rfl, grd_t (ixb_nI (by omega) (by decide)), nI_clamp (by omega), (R.2.1 (i / 4) (by omega)).2.2.1]
  by_cases e : mTe M (i / 4) = w
  · rw [if_pos (by rw [e]), decide_eq_true e]; rfl
  · rw [if_neg (fun z => e ((nI_eq (by omega) (by omega)).mp z)), decide_eq_false e]; rfl
theorem loadL_M (G : Good M) (R : RepM M s) {w d : Nat} (hw : w < 8) (hd : d < 1000) : ∀ (fu i : Nat), i ≤ 64 → 64 - i < fu → L_X6_load_5 fu (nI w) (nI d) (nI (cnt (dyb M (mPl M) w d) i)) (nI i) s = some (nI (cnt (dyb M (mPl M) w d) 64)) := by
  have hG := G.1
  intro fu
  induction fu with
  | zero => intro i h1 h2; omega
  | succ fu ih =>
    intro i h1 h2
    rw [L_X6_load_5]
    rcases Nat.lt_or_ge i 64 with h | h
    · have ih2 := ih (i + 1) (by omega) (by omega)
      have hpl := pl_lt G G.2.2.2.1 h
      rw [show cnt (dyb M (mPl M) w d) (i + 1) = cnt (dyb M (mPl M) w d) i + (dyb M (mPl M) w d i).toNat from rfl] at ih2
      rw [if_neg (by rw [show (64 : Int32) = nI 64 from rfl, nI_leI (by decide) (by omega)]; omega), grd_t (ixb_nI h (by decide)), grd_t (ixb_nI h (by decide)), nI_clamp (by omega), (R.2.2.2.1 i h).1, R.1.2.1]
      simp only [bnd, nI_1, add0]
      by_cases h0 : mPl M i = 0
      · rw [show dyb M (mPl M) w d i = false by simp [dyb, h0]] at ih2
        rw [if_pos (by unfold perO; rw [if_pos h0]; decide)]
        exact ih2
      · have e3 : oI (perO (mPl M) i) = nI ((mPl M i - 1) / 6) := by simp [perO, h0, oI]
        have hdv : (mPl M i - 1) / 6 / mP M < 2 ^ 31 := Nat.lt_of_le_of_lt (Nat.div_le_self _ _) (by omega)
        rw [e3, if_neg (nI_pos (by omega)), grd_t (nI_ne0 (by omega) (by omega)), pk_div (by omega) (by omega) (by omega), isOf1 G R h h0 hw, Option.bind_some]
        by_cases h4 : (mPl M i - 1) / 6 / mP M = d
        · rw [if_pos ((nI_eq hdv (by omega)).mpr h4)]
          by_cases h3 : mTe M (i / 4) = w
          · rw [show dyb M (mPl M) w d i = true by simp [dyb, h0, h3, h4]] at ih2
            rw [decide_eq_true h3, b2i_t, if_neg (by decide)]
            exact ih2
          · rw [show dyb M (mPl M) w d i = false by simp [dyb, h3]] at ih2
            rw [decide_eq_false h3, b2i_f, if_pos rfl]
            exact ih2
        · rw [show dyb M (mPl M) w d i = false by simp [dyb, h4]] at ih2
          rw [if_neg (fun z => h4 ((nI_eq hdv (by omega)).mp z))]
          exact ih2
    · have : i = 64 := by omega
      subst this
      rw [if_pos (by decide)]
theorem load2_M (G : Good M) (R : RepM M s) {w : Nat} (hw : w < 8) (a : Nat) : ∀ (fu k : Nat), k ≤ mCc M → mCc M - k < fu → L_X6_load_66 fu (nI w) (nI (a + cnt (fun k => decide (mCv M k = w + 1)) k)) (nI k) s = some (nI (a + cnt (fun k => decide (mCv M k = w + 1)) (mCc M))) := by
  have h6 := G.2.2.2.2.2.2.2.1
  intro fu
  induction fu with
  | zero => intro i h1 h2; omega
  | succ fu ih =>
    intro k h1 h2
    rw [L_X6_load_66, R.2.2.2.2.2.2.2.1]
    by_cases h : mCc M ≤ k
    · have : k = mCc M := by omega
      subst this
      rw [if_pos ((nI_leI (by omega) (by omega)).mpr h)]
    · have ih2 := ih (k + 1) (by omega) (by omega)
      have hv := G.2.2.2.2.2.2.2.2 k (by omega)
      rw [show cnt (fun k => decide (mCv M k = w + 1)) (k + 1) = cnt (fun k => decide (mCv M k = w + 1)) k + (decide (mCv M k = w + 1)).toNat from rfl] at ih2
      rw [if_neg (fun z => h ((nI_leI (by omega) (by omega)).mp z)), grd_t (ixb_nI (by omega) (by decide)), nI_clamp (by omega), R.2.2.2.2.2.2.2.2 k (by omega)]
      simp only [bnd, nI_1, add0]
      by_cases e : mCv M k = w + 1
      · rw [decide_eq_true e] at ih2
        rw [if_pos (by rw [e]; rfl)]
        exact ih2
      · rw [decide_eq_false e] at ih2
        rw [if_neg (show ¬ oI (mCv M k) = nI w from fun z => e ((oI_inj (by omega) (show w + 1 < 2 ^ 31 by omega)).mp z))]
        exact ih2
theorem load_M (G : Good M) (R : RepM M s) {w d : Nat} (hw : w < 8) (hd : d < 1000) : F_X6_load (nI w) (nI d) s = some (nI (ldM M d w)) := by
  have h6 := G.2.2.2.2.2.2.2.1
  unfold F_X6_load
  rw [show L_X6_load_5 FU (nI w) (nI d) 0 0 s = _ from loadL_M G R hw hd FU 0 (by omega) (FU_gt (by omega)), Option.bind_some, show L_X6_load_66 FU (nI w) (nI (cnt (dyb M (mPl M) w d) 64)) 0 s = _ from load2_M G R hw (cnt (dyb M (mPl M) w d) 64) FU 0 (by omega) (FU_gt (by omega)), Option.bind_some]
  rfl
theorem absB_M (G : Good M) (R : RepM M s) {T d i : Nat} (hT : T < 8) (hd : d < 1000) (hi : i < 64) (h0 : mPl M i ≠ 0) (hL : ∀ k, k < mCc M → ∃ j, j < 64 ∧ s 33 k = nI j ∧ mPl M j ≠ 0 ∧ (mPl M j - 1) / 6 + mLe M (j / 4) ≤ (mPl M i - 1) / 6) (x3 : Int32) : ∀ (fu w : Nat), w ≤ 8 → 8 - w < fu → L_X6_absent_105 fu (nI T) (nI d) x3 (nI i) (oI (bst (avl M T i) (ldM M d) w)) (nI w) s = some (oI (bsI M T d i)) := by
  intro fu
  induction fu with
  | zero => intro i h1 h2; omega
  | succ fu ih =>
    intro w h1 h2
    rw [L_X6_absent_105]
    simp only [jn, bnd, nI_1]
    by_cases h : 8 ≤ w
    · have : w = 8 := by omega
      subst this
      rw [if_pos (by decide)]
      rfl
    · have ih2 := ih (w + 1) (by omega) (by omega)
      have hb := bst_le (avl M T i) (ldM M d) w
      have hl1 := ldM_le G d w
      have hl2 := ldM_le G d (bst (avl M T i) (ldM M d) w - 1)
      rw [if_neg (by rw [show (8 : Int32) = nI 8 from rfl, nI_leI (by decide) (by omega)]; omega)]
      simp only [one0, if_true, if_false]
      by_cases hw : w = T
      · rw [bst_no (by simp [avl, hw])] at ih2
        rw [if_pos (by rw [hw])]
        exact ih2
      · rw [if_neg (fun z => hw ((nI_eq (by omega) (by omega)).mp z)), may_M G R (by omega) hi h0 hL, Option.bind_some]
        have ha : (!ocy M (mPl M) (8 + w) ((mPl M i - 1) / 6) (mLe M (i / 4)) && !blk M (8 + w) ((mPl M i - 1) / 6) (mLe M (i / 4))) = avl M T i w := by
          unfold avl; simp [hw]
        rw [ha]
        cases hav : avl M T i w with
        | false =>
          rw [bst_no (by simp [hav])] at ih2
          rw [b2i_f, if_pos rfl]
          exact ih2
        | true =>
          rw [b2i_t, if_neg (by decide)]
          by_cases hb0 : bst (avl M T i) (ldM M d) w = 0
          · rw [bst_yes hav (Or.inl hb0)] at ih2
            rw [hb0, if_pos (show oI 0 < 0 by decide)]
            exact ih2
          · rw [if_neg (by rw [oI_neg (by omega)]; exact hb0), oI_ne hb0, load_M G R (by omega) hd, Option.bind_some, load_M G R (by omega) hd, Option.bind_some]
            by_cases hc : ldM M d (bst (avl M T i) (ldM M d) w - 1) ≤ ldM M d w
            · rw [bst_no (by omega), oI_ne hb0] at ih2
              rw [if_pos ((nI_leI (by omega) (by omega)).mpr hc)]
              exact ih2
            · rw [bst_yes hav (Or.inr (by omega))] at ih2
              rw [if_neg (fun z => hc ((nI_leI (by omega) (by omega)).mp z))]
              exact ih2
end Ab
def LsT (M : MS) (T d j n : Nat) (s : Sg) : Prop := ∀ k, k < n → ∃ i, i < 64 ∧ s 33 k = nI i ∧ mPl M i ≠ 0 ∧ mTe M (i / 4) = T ∧ (mPl M i - 1) / 6 < d * mP M + j
theorem absL_M {M : MS} (G : Good M) {T d : Nat} (hT : T < 8) (hd : d < mD M) : ∀ (fu j : Nat) (s : Sg), RepM (mab M (abS M T d j)) s → LsT M T d j (abS M T d j).1 s → j ≤ mP M → mP M - j < fu → ∃ t, L_X6_absent_51 fu (nI T) (nI d) (nI (d * mP M + j)) s = some t ∧ RepM (mab M (abS M T d (mP M))) t ∧ (∀ c, c ≠ 33 → c ≠ 38 → c ≠ 2223 → t c = s c) := by
  have hG := G.1
  have h30 := dp_le G
  have V := G.2.2.2.1
  have hdp : d * mP M + mP M ≤ mD M * mP M := by
    calc d * mP M + mP M = (d + 1) * mP M := by rw [Nat.add_mul, Nat.one_mul]
      _ ≤ mD M * mP M := Nat.mul_le_mul_right _ hd
  intro fu
  induction fu with
  | zero => intro j s _ _ h1 h2; omega
  | succ fu ih =>
    intro j s R hL h1 h2
    have hok := abS_ok M T d j
    rw [L_X6_absent_51, R.1.2.1, show mP (mab M (abS M T d j)) = mP M from rfl, nI_1, pk_mul, Nat.add_mul, Nat.one_mul]
    by_cases h : mP M ≤ j
    · have : j = mP M := by omega
      subst this
      rw [if_pos ((nI_leI (by omega) (by omega)).mpr (Nat.le_refl _))]
      exact ⟨s, rfl, R, fun _ _ _ _ => rfl⟩
    · have G2 := Good_ab G (a := abS M T d j) (by omega) hok.2
      have ih2 := ih (j + 1)
      rw [abS] at ih2
      have hit := itemAt_M G2 R (u := 8 + T) (p := d * mP M + j) (by omega) (by omega)
      rw [(uT hT).1, (uT hT).2, show iAt (mab M (abS M T d j)) (mPl (mab M (abS M T d j))) (8 + T) (d * mP M + j) = iAt M (mPl M) (8 + T) (d * mP M + j) from rfl] at hit
      rw [if_neg (fun z => absurd ((nI_leI (by omega) (by omega)).mp z) (by omega)), hit, Option.bind_some]
      simp only [nI_1]
      have hL1 : LsT M T d (j + 1) (abS M T d j).1 s := fun k hk => by
        obtain ⟨i, i1, i2, i3, i4, i5⟩ := hL k hk
        exact ⟨i, i1, i2, i3, i4, by omega⟩
      cases ha : iAt M (mPl M) (8 + T) (d * mP M + j) with
      | zero =>
        rw [itB_no1 G V hT ha, if_pos rfl] at ih2
        rw [if_pos (show oI 0 < 0 by decide), bnd_e]
        exact ih2 s R hL1 (by omega) (by omega)
      | succ i =>
        obtain ⟨i1, i2, i3⟩ := iAt_of ha
        have i0 := cvr_pl i2
        have hpl := pl_lt G V i1
        have e3 : oI (perO (mPl M) i) = nI ((mPl M i - 1) / 6) := by simp [perO, i0, oI]
        have it : mTe M (i / 4) = T := by
          rw [usT G (V.1 i i1 i0).1 hT] at i3
          exact of_decide_eq_true i3
        have e30 : s 30 i = nI ((mPl M i - 1) / 6) := by rw [(R.2.2.2.1 i i1).1]; exact e3
        rw [show oI (i + 1) = nI i from rfl, if_neg (nI_pos (by omega)), grd_t (ixb_nI i1 (by decide)), nI_clamp (by omega), e30]
        by_cases hp : (mPl M i - 1) / 6 = d * mP M + j
        · rw [itB_yes G V hT ha hp, if_neg (by omega), Nat.add_sub_cancel] at ih2
          have hL2 : ∀ k, k < (abS M T d j).1 → ∃ m, m < 64 ∧ va_up s 33 (upd (s 33) (abS M T d j).1 (nI i)) 33 k = nI m ∧ mPl M m ≠ 0 ∧ (mPl M m - 1) / 6 + mLe M (m / 4) ≤ (mPl M i - 1) / 6 := fun k hk => by
            obtain ⟨m, m1, m2, m3, m4, m5⟩ := hL k hk
            refine ⟨m, m1, ?_, m3, ?_⟩
            · show upd (s 33) (abS M T d j).1 (nI i) k = _
              rw [pk_un (by omega)]; exact m2
            · refine Classical.byContradiction fun z => ?_
              have := at_one G V m1 m3 hT m4 (p := d * mP M + j) (by omega) (by omega) i1 i2 i3
              subst this
              omega
          have ecc : s 2223 0 = nI (abS M T d j).1 := R.2.2.2.2.2.2.2.1
          have R3 : RepM (mab M (abS M T d j)) (va_up s 33 (upd (s 33) (abS M T d j).1 (nI i))) := R
          rw [if_pos (by rw [hp]), ecc, grd_t (ixb_nI (by omega) (by decide)), nI_clamp (by omega), bnd_e]
          rw [show L_X6_absent_105 FU (nI T) (nI d) (nI (d * mP M + j)) (nI i) (-1) 0 (va_up s 33 (upd (s 33) (abS M T d j).1 (nI i))) = _ from absB_M G2 R3 hT (by omega) i1 i0 hL2 _ FU 0 (by omega) (FU_gt (by omega)), Option.bind_some, show va_up s 33 (upd (s 33) (abS M T d j).1 (nI i)) 2223 0 = nI (abS M T d j).1 from ecc, grd_t (ixb_nI (by omega) (by decide)), nI_clamp (by omega), bnd_e, bnd_e, bnd_e]
          obtain ⟨t, t1, t2, t3⟩ := ih2 (va_up (va_up (va_up s 33 (upd (s 33) (abS M T d j).1 (nI i))) 38 (upd (va_up s 33 (upd (s 33) (abS M T d j).1 (nI i)) 38) (abS M T d j).1 (oI (bsI (mab M (abS M T d j)) T d i)))) 2223 (fun _ => va_up (va_up s 33 (upd (s 33) (abS M T d j).1 (nI i))) 38 (upd (va_up s 33 (upd (s 33) (abS M T d j).1 (nI i)) 38) (abS M T d j).1 (oI (bsI (mab M (abS M T d j)) T d i))) 2223 0 + 1)) (RepM_ab R3 (by
            show s 2223 0 + 1 = nI ((abS M T d j).1 + 1)
            rw [ecc, nI_1]) (by
            intro k hk
            have hk2 : k < (abS M T d j).1 + 1 := hk
            show upd (s 38) (abS M T d j).1 _ k = oI (va_up (abS M T d j).2 (abS M T d j).1 _ k)
            by_cases e : k = (abS M T d j).1
            · rw [e, pk_us, up_eq]
            · rw [pk_un e, up_ne _ _ e]
              exact R.2.2.2.2.2.2.2.2 k (show k < (abS M T d j).1 by omega))) (by
            intro k hk
            have hk2 : k < (abS M T d j).1 + 1 := hk
            show ∃ m, m < 64 ∧ upd (s 33) (abS M T d j).1 (nI i) k = nI m ∧ _
            by_cases e : k = (abS M T d j).1
            · exact ⟨i, i1, by rw [e, pk_us], i0, it, by omega⟩
            · obtain ⟨m, m1, m2, m3⟩ := hL1 k (by omega)
              exact ⟨m, m1, by rw [pk_un e]; exact m2, m3⟩) (by omega) (by omega)
          exact ⟨t, t1, t2, fun c c1 c2 c3 => by rw [t3 c c1 c2 c3, up_ne _ _ c3, up_ne _ _ c2, up_ne _ _ c1]⟩
        · rw [itB_no2 G V hT ha hp, if_pos rfl] at ih2
          rw [if_neg (fun z => hp ((nI_eq (by omega) (by omega)).mp z)), bnd_e]
          exact ih2 s R hL1 (by omega) (by omega)
theorem p_absent : P_absent Inv := by
  rintro s ⟨M, G, R, R2⟩ x y
  have hG := G.1
  have h7 : (7 : Int32) = nI 8 - 1 := by decide
  have hbad : ∀ t : Sg, (F_X6_throwing 1 0 t).bind (fun q3 =>
      if q3.1 = 0 then
        bnd (va_up q3.2 2223 (fun _ => (0 : Int32))) fun s6 =>
        bnd (y * (s6 2202 0)) fun x8 =>
        (L_X6_absent_51 FU x y x8 s6).bind fun q51 =>
        some ((q51 2223 0), q51)
      else
        some ((0 : Int32), q3.2)) = some (0, va_up t 2200 (fun _ => 1)) := by
    intro t; rw [thr10]; rfl
  cases hx : ixb x 8 with
  | false =>
    refine Or.inr ⟨(0, va_up s 2200 (fun _ => 1)), ?_, ?_, rfl, Inv_thr G R R2 1⟩
    · unfold F_X5_absent
      rw [h7, isW s x (by decide), hx]; rfl
    · unfold F_X6_absent
      rw [jn_e, h7, inW s x (by decide), hx, Option.bind_some, b2i_f, if_pos rfl]
      exact hbad s
  | true =>
  cases hy : ixb y (mD M) with
  | false =>
    refine Or.inr ⟨(0, va_up s 2200 (fun _ => 1)), ?_, ?_, rfl, Inv_thr G R R2 1⟩
    · unfold F_X5_absent
      rw [h7, isW s x (by decide), hx, Option.bind_some, b2i_t, if_neg (by decide), R.1.1, isW s y (by omega), hy]; rfl
    · unfold F_X6_absent
      rw [jn_e, h7, inW s x (by decide), hx, Option.bind_some, b2i_t, if_neg (by decide), R2.1.1, inW s y (by omega), hy, Option.bind_some, b2i_f, if_pos rfl]
      exact hbad s
  | true =>
  obtain ⟨T, hT, rfl⟩ := (ixb_iff (by decide)).mp hx
  obtain ⟨d, hd, rfl⟩ := (ixb_iff (by omega)).mp hy
  have R0 : RepC (mab M (abS M T d 0)) (va_up s 501 (fun _ => 0)) :=
    ⟨R.1, R.2.1, R.2.2.1, R.2.2.2.1, R.2.2.2.2.1, R.2.2.2.2.2.1, R.2.2.2.2.2.2.1, R.2.2.2.2.2.2.2.1, R.2.2.2.2.2.2.2.2.1, rfl, fun k hk => absurd hk (Nat.not_lt_zero k)⟩
  obtain ⟨t, t1, t2, t3⟩ := findL_C G hT hd FU 0 _ R0 (by omega) (FU_gt (by omega))
  have Rt : RepM M t := R2.frame fun c hc => by
    rw [t3 c (cM_ne hc rfl) (cM_ne hc rfl), up_ne _ _ (cM_ne hc rfl)]
  have hok := abS_ok M T d (mP M)
  have R1 : RepM (mab M (abS M T d 0)) (va_up (va_up t 2200 (fun _ => 0)) 2223 (fun _ => 0)) :=
    ⟨Rt.1, Rt.2.1, Rt.2.2.1, Rt.2.2.2.1, Rt.2.2.2.2.1, Rt.2.2.2.2.2.1, Rt.2.2.2.2.2.2.1, rfl, fun k hk => absurd hk (Nat.not_lt_zero k)⟩
  obtain ⟨v, v1, v2, v3⟩ := absL_M G hT hd FU 0 _ R1 (fun k hk => absurd hk (Nat.not_lt_zero k)) (by omega) (FU_gt (by omega))
  have c1 : t 501 0 = nI (abS M T d (mP M)).1 := t2.2.2.2.2.2.2.2.2.2.1
  have c2 : v 2223 0 = nI (abS M T d (mP M)).1 := v2.2.2.2.2.2.2.2.1
  refine Or.inl ⟨(t 501 0, t), (v 2223 0, v), ?_, ?_, ?_, by show t 501 0 = v 2223 0; rw [c1, c2], _, Good_ab G (by omega) hok.2, ?_, v2⟩
  · unfold F_X5_absent
    rw [h7, isW s _ (by decide), hx, Option.bind_some, b2i_t, if_neg (by decide), R.1.1, isW s _ (by omega), hy, Option.bind_some, b2i_t, if_neg (by decide)]
    unfold F_X1_find
    rw [bnd_e, show L_X1_find_8 FU (nI T) (nI d) 0 (va_up s 501 (fun _ => 0)) = some t from t1]
    rfl
  · show F_X6_absent (nI T) (nI d) t = _
    unfold F_X6_absent
    rw [jn_e, h7, inW t _ (by decide), hx, Option.bind_some, b2i_t, if_neg (by decide), Rt.1.1, inW t _ (by omega), hy, Option.bind_some, b2i_t, if_neg (by decide)]
    dsimp only
    rw [thr00, Option.bind_some, if_pos rfl, bnd_e, bnd_e]
    rw [show va_up (va_up t 2200 (fun _ => 0)) 2223 (fun _ => 0) 2202 0 = nI (mP M) from Rt.1.2.1, pk_mul, show L_X6_absent_51 FU (nI T) (nI d) (nI (d * mP M)) (va_up (va_up t 2200 (fun _ => 0)) 2223 (fun _ => 0)) = some v from v1]
    rfl
  · show v 2200 0 = 0
    rw [v3 2200 (by decide) (by decide) (by decide)]; rfl
  · exact t2.frame fun c hc => by
      show v c = t c
      rw [v3 c (cC_ne hc rfl) (cC_ne hc rfl) (cC_ne hc rfl), up_ne _ _ (cC_ne hc rfl), up_ne _ _ (cC_ne hc rfl)]
