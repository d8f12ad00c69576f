/-! ===== absent: the class's side ===== -/
def itB (M : MS) (f : Nat → Nat) (T p : Nat) : Nat := fnd (fun i => decide (f i ≠ 0) && (decide (mTe M (i / 4) = T) && decide ((f i - 1) / 6 = p))) 0 64
def dyb (M : MS) (f : Nat → Nat) (w d i : Nat) : Bool := decide (f i ≠ 0) && (decide (mTe M (i / 4) = w) && decide ((f i - 1) / 6 / mP M = d))
def ldM (M : MS) (d w : Nat) : Nat := cnt (dyb M (mPl M) w d) 64 + cnt (fun k => decide (mCv M k = w + 1)) (mCc M)
def avl (M : MS) (T i w : Nat) : Bool := decide (w ≠ T) && (!ocy M (mPl M) (8 + w) ((mPl M i - 1) / 6) (mLe M (i / 4)) && !blk M (8 + w) ((mPl M i - 1) / 6) (mLe M (i / 4)))
def bst (av : Nat → Bool) (ld : Nat → Nat) : Nat → Nat
  | 0 => 0
  | w + 1 => if av w = true ∧ (bst av ld w = 0 ∨ ld w < ld (bst av ld w - 1)) then w + 1 else bst av ld w
def bsI (M : MS) (T d i : Nat) : Nat := bst (avl M T i) (ldM M d) 8
theorem bst_le (av : Nat → Bool) (ld : Nat → Nat) : ∀ w : Nat, bst av ld w ≤ w
  | 0 => Nat.le_refl _
  | w + 1 => by
    have := bst_le av ld w
    rw [bst]
    split <;> omega
theorem bst_no {av : Nat → Bool} {ld : Nat → Nat} {w : Nat} (h : ¬ (av w = true ∧ (bst av ld w = 0 ∨ ld w < ld (bst av ld w - 1)))) : bst av ld (w + 1) = bst av ld w := by rw [bst, if_neg h]
theorem bst_yes {av : Nat → Bool} {ld : Nat → Nat} {w : Nat} (h : av w = true) (h2 : bst av ld w = 0 ∨ ld w < ld (bst av ld w - 1)) : bst av ld (w + 1) = w + 1 := by rw [bst, if_pos ⟨h, h2⟩]
section Co
variable {M : MS} {s : Sg}
theorem ldM_le (G : Good M) (d w : Nat) : ldM M d w ≤ 70 := by
  have h1 := cnt_le (dyb M (mPl M) w d) 64
  have h2 := cnt_le (fun k => decide (mCv M k = w + 1)) (mCc M)
  have h3 := G.2.2.2.2.2.2.2.1
  unfold ldM
  omega
theorem itBegL_C (G : Good M) (R : RepC M s) {T p : Nat} (hT : T < 8) (hp : p < 1000) : ∀ (fu i : Nat), i ≤ 64 → 64 - i < fu → L_X0_itemBeginningAt_2 fu (nI T) (nI p) (nI i) s = some (match fnd (fun i => decide (mPl M i ≠ 0) && (decide (mTe M (i / 4) = T) && decide ((mPl M i - 1) / 6 = p))) i (64 - i) with
    | 0 => .inr ()
    | j + 1 => .inl (nI j)) := by
  intro fu
  induction fu with
  | zero => intro i h1 h2; omega
  | succ fu ih =>
    intro i h1 h2
    rw [L_X0_itemBeginningAt_2]
    rcases Nat.lt_or_ge i 64 with h | h
    · have e1 : 64 - i = (64 - (i + 1)) + 1 := by omega
      have ih2 := ih (i + 1) (by omega) (by omega)
      have hpl := pl_lt G G.2.2.2.1 h
      rw [if_neg (by rw [show (64 : Int32) = nI 64 from rfl, nI_leI (by decide) (by omega)]; omega), lessonOf_C h, Option.bind_some, grd_t (ixb_nI (by omega) (by decide)), nI_clamp (by omega), (R.2.2.1 (i / 4) (by omega)).2.2.1, periodOf_C G R h, Option.bind_some, bnd_e, nI_1, ih2, e1, fnd]
      by_cases h0 : mPl M i = 0
      · have e2 : ¬ oI (perO (mPl M) i) = nI p := by
          unfold perO
          rw [if_pos h0]
          exact fun z => nI_m1 (n := p) (by omega) z.symm
        rw [if_neg e2, if_neg (show ¬ (decide (mPl M i ≠ 0) && (decide (mTe M (i / 4) = T) && decide ((mPl M i - 1) / 6 = p))) = true by simp [h0])]
        split <;> rfl
      · have hl := (G.2.2.2.1.1 i h h0).1
        have ht := (G.2.1 _ hl).2.2.2.1
        have e3 : oI (perO (mPl M) i) = nI ((mPl M i - 1) / 6) := by simp [perO, h0, oI]
        rw [e3]
        by_cases h3 : mTe M (i / 4) = T
        · rw [if_pos ((nI_eq (by omega) (by omega)).mpr h3)]
          by_cases h4 : (mPl M i - 1) / 6 = p
          · rw [if_pos ((nI_eq (by omega) (by omega)).mpr h4), if_pos (by simp [h0, h3, h4])]
          · rw [if_neg (fun z => h4 ((nI_eq (by omega) (by omega)).mp z)), if_neg (by simp [h4])]
        · rw [if_neg (fun z => h3 ((nI_eq (by omega) (by omega)).mp z)), if_neg (by simp [h3])]
    · have : i = 64 := by omega
      subst this
      rw [if_pos (by decide)]
      simp [fnd]
theorem itBeg_C (G : Good M) (R : RepC M s) {T p : Nat} (hT : T < 8) (hp : p < 1000) : F_X0_itemBeginningAt (nI T) (nI p) s = some (oI (itB M (mPl M) T p)) := by
  unfold F_X0_itemBeginningAt itB
  rw [show (0 : Int32) = nI 0 from rfl, itBegL_C G R hT hp FU 0 (by omega) (FU_gt (by omega)), Option.bind_some, Nat.sub_zero]
  cases fnd (fun i => decide (mPl M i ≠ 0) && (decide (mTe M (i / 4) = T) && decide ((mPl M i - 1) / 6 = p))) 0 64 <;> rfl
theorem itB_some {f : Nat → Nat} {T p i : Nat} (h : itB M f T p = i + 1) : i < 64 ∧ f i ≠ 0 ∧ mTe M (i / 4) = T ∧ (f i - 1) / 6 = p := by
  obtain ⟨-, h1, h2, -⟩ := fnd_some h
  simp only [Bool.and_eq_true, decide_eq_true_eq] at h2
  exact ⟨by omega, h2⟩
theorem bitsIt_C (G : Good M) (R : RepC M s) {i : Nat} (hi : i < 64) (h0 : mPl M i ≠ 0) : F_X0_bitsOfItem (nI i) s = some (bm (mLe M (i / 4)) ((mPl M i - 1) / 6)) := by
  have hl := (G.2.2.2.1.1 i hi h0).1
  have hpl := pl_lt G G.2.2.2.1 hi
  unfold F_X0_bitsOfItem
  rw [isPlaced_C G R hi, Option.bind_some, decide_eq_true h0, b2i_t, if_neg (by decide), lessonOf_C hi, Option.bind_some, grd_t (ixb_nI hi (by decide)), nI_clamp (by omega), R.2.2.2.2.1 i hi, oI_ne h0, show (6 : Int32) = nI 6 from rfl, pk_div (by omega) (by decide) (by decide), bitsAt_C G R hl]
  rfl
theorem onDL_C (G : Good M) (R : RepC M s) {w d : Nat} (hw : w < 8) (hd : d < 1000) : ∀ (fu i : Nat), i ≤ 64 → 64 - i < fu → L_X0_itemsOnDay_5 fu (nI w) (nI d) (nI (cnt (dyb M (mPl M) w d) i)) (nI i) s = some (nI (cnt (dyb M (mPl M) w d) 64)) := by
  intro fu
  induction fu with
  | zero => intro i h1 h2; omega
  | succ fu ih =>
    intro i h1 h2
    rw [L_X0_itemsOnDay_5]
    rcases Nat.lt_or_ge i 64 with h | h
    · have ih2 := ih (i + 1) (by omega) (by omega)
      rw [show cnt (dyb M (mPl M) w d) (i + 1) = cnt (dyb M (mPl M) w d) i + (dyb M (mPl M) w d i).toNat from rfl] at ih2
      rw [if_neg (by rw [show (64 : Int32) = nI 64 from rfl, nI_leI (by decide) (by omega)]; omega), lessonOf_C h, Option.bind_some, grd_t (ixb_nI (by omega) (by decide)), nI_clamp (by omega), (R.2.2.1 (i / 4) (by omega)).2.2.1, onDay_C G R h hd, Option.bind_some]
      simp only [bnd, nI_1]
      by_cases h0 : mPl M i = 0
      · rw [show dyb M (mPl M) w d i = false by simp [dyb, h0]] at ih2
        rw [if_pos (show b2i (decide (mPl M i ≠ 0) && decide ((mPl M i - 1) / 6 / mP M = d)) = 0 by simp [h0, b2i])]
        split
        · exact ih2
        · exact ih2
      · have hl := (G.2.2.2.1.1 i h h0).1
        have ht := (G.2.1 _ hl).2.2.2.1
        by_cases h3 : mTe M (i / 4) = w
        · rw [if_pos ((nI_eq (by omega) (by omega)).mpr h3)]
          by_cases h4 : (mPl M i - 1) / 6 / mP M = d
          · rw [show dyb M (mPl M) w d i = true by simp [dyb, h0, h3, h4]] at ih2
            rw [if_neg (show ¬ b2i (decide (mPl M i ≠ 0) && decide ((mPl M i - 1) / 6 / mP M = d)) = 0 by simp [h0, h4, b2i])]
            exact ih2
          · rw [show dyb M (mPl M) w d i = false by simp [dyb, h4]] at ih2
            rw [if_pos (show b2i (decide (mPl M i ≠ 0) && decide ((mPl M i - 1) / 6 / mP M = d)) = 0 by simp [h4, b2i])]
            exact ih2
        · rw [show dyb M (mPl M) w d i = false by simp [dyb, h3]] at ih2
          rw [if_neg (fun z => h3 ((nI_eq (by omega) (by omega)).mp z))]
          exact ih2
    · have : i = 64 := by omega
      subst this
      rw [if_pos (by decide)]
theorem onD_C (G : Good M) (R : RepC M s) {w d : Nat} (hw : w < 8) (hd : d < 1000) : F_X0_itemsOnDay (nI w) (nI d) s = some (nI (cnt (dyb M (mPl M) w d) 64)) := by
  unfold F_X0_itemsOnDay
  rw [show L_X0_itemsOnDay_5 FU (nI w) (nI d) 0 0 s = _ from onDL_C G R hw hd FU 0 (by omega) (FU_gt (by omega))]
  rfl
theorem givL_C (G : Good M) (R : RepC M s) {w : Nat} (hw : w < 8) : ∀ (fu k : Nat), k ≤ mCc M → mCc M - k < fu → L_X1_timesGiven_4 fu (nI w) (nI (cnt (fun k => decide (mCv M k = w + 1)) k)) (nI k) s = some (nI (cnt (fun k => decide (mCv M k = w + 1)) (mCc M))) := by
  have h6 := G.2.2.2.2.2.2.2.1
  intro fu
  induction fu with
  | zero => intro i h1 h2; omega
  | succ fu ih =>
    intro k h1 h2
    rw [L_X1_timesGiven_4, R.2.2.2.2.2.2.2.2.2.1]
    by_cases h : mCc M ≤ k
    · have : k = mCc M := by omega
      subst this
      rw [if_pos ((nI_leI (by omega) (by omega)).mpr h)]
    · have ih2 := ih (k + 1) (by omega) (by omega)
      have hv := G.2.2.2.2.2.2.2.2 k (by omega)
      rw [show cnt (fun k => decide (mCv M k = w + 1)) (k + 1) = cnt (fun k => decide (mCv M k = w + 1)) k + (decide (mCv M k = w + 1)).toNat from rfl] at ih2
      rw [if_neg (fun z => h ((nI_leI (by omega) (by omega)).mp z)), grd_t (ixb_nI (by omega) (by decide)), nI_clamp (by omega), R.2.2.2.2.2.2.2.2.2.2 k (by omega)]
      simp only [bnd, nI_1]
      by_cases e : mCv M k = w + 1
      · rw [decide_eq_true e] at ih2
        rw [if_pos (by rw [e]; rfl)]
        exact ih2
      · rw [decide_eq_false e] at ih2
        rw [if_neg (show ¬ oI (mCv M k) = nI w from fun z => e ((oI_inj (by omega) (show w + 1 < 2 ^ 31 by omega)).mp z))]
        exact ih2
theorem giv_C (G : Good M) (R : RepC M s) {w : Nat} (hw : w < 8) : F_X1_timesGiven (nI w) s = some (nI (cnt (fun k => decide (mCv M k = w + 1)) (mCc M))) := by
  have h6 := G.2.2.2.2.2.2.2.1
  unfold F_X1_timesGiven
  rw [show L_X1_timesGiven_4 FU (nI w) 0 0 s = _ from givL_C G R hw FU 0 (by omega) (FU_gt (by omega))]
  rfl
def ldO (M : MS) (d b : Nat) : Nat := if b = 0 then 0 else ldM M d (b - 1)
theorem bestL_C (G : Good M) (R : RepC M s) {T d i : Nat} (hT : T < 8) (hd : d < 1000) (hi : i < 64) (h0 : mPl M i ≠ 0) : ∀ (fu w : Nat), w ≤ 8 → 8 - w < fu → L_X1_bestFor_9 fu (nI T) (bm (mLe M (i / 4)) ((mPl M i - 1) / 6)) (nI d) (oI (bst (avl M T i) (ldM M d) w)) (nI (ldO M d (bst (avl M T i) (ldM M d) w))) (nI w) s = some (oI (bsI M T d i)) := by
  obtain ⟨v1, v2, v3, v4⟩ := G.2.2.2.1.1 i hi h0
  have hle := (G.2.1 _ v1).2.2.2.2.2.1
  have hfit := fit_le G v3 v4
  intro fu
  induction fu with
  | zero => intro i h1 h2; omega
  | succ fu ih =>
    intro w h1 h2
    rw [L_X1_bestFor_9]
    by_cases h : 8 ≤ w
    · have : w = 8 := by omega
      subst this
      rw [if_pos (by decide)]
      rfl
    · have ih2 := ih (w + 1) (by omega) (by omega)
      have hb := bst_le (avl M T i) (ldM M d) w
      have hl1 := ldM_le G d w
      have hl2 := ldM_le G d (bst (avl M T i) (ldM M d) w - 1)
      rw [if_neg (by rw [show (8 : Int32) = nI 8 from rfl, nI_leI (by decide) (by omega)]; omega), bnd_e, show (8 : Int32) + nI w = nI (8 + w) from by rw [show (8 : Int32) = nI 8 from rfl, nI_add], bnd_e, nI_1]
      by_cases hw : w = T
      · rw [bst_no (by simp [avl, hw])] at ih2
        rw [if_pos (by rw [hw])]
        exact ih2
      · rw [if_neg (fun z => hw ((nI_eq (by omega) (by omega)).mp z)), grd_t (ixb_nI (by omega) (by decide)), grd_t (ixb_nI (by omega) (by decide)), nI_clamp (by omega)]
        have hz := or_and0 (s 19 (8 + w)) (s 18 (8 + w)) (bm (mLe M (i / 4)) ((mPl M i - 1) / 6))
        rw [ocy_bits G R (show 8 + w < 22 by omega) hle hfit, blk_bits G R (show 8 + w < 22 by omega) hle hfit] at hz
        by_cases ha : avl M T i w = true
        · have ha2 : ocy M (mPl M) (8 + w) ((mPl M i - 1) / 6) (mLe M (i / 4)) = false ∧ blk M (8 + w) ((mPl M i - 1) / 6) (mLe M (i / 4)) = false := by
            unfold avl at ha
            simp only [Bool.and_eq_true, Bool.not_eq_true'] at ha
            exact ha.2
          rw [if_pos (hz.mpr ha2), onD_C G R (by omega) hd, Option.bind_some, giv_C G R (by omega), Option.bind_some, bnd_e, nI_add, show cnt (dyb M (mPl M) w d) 64 + cnt (fun k => decide (mCv M k = w + 1)) (mCc M) = ldM M d w from rfl]
          simp only [bnd]
          by_cases hb0 : bst (avl M T i) (ldM M d) w = 0
          · rw [bst_yes ha (Or.inl hb0), show ldO M d (w + 1) = ldM M d w from rfl] at ih2
            rw [if_pos (by rw [hb0]; rfl)]
            exact ih2
          · have hlo : ldO M d (bst (avl M T i) (ldM M d) w) = ldM M d (bst (avl M T i) (ldM M d) w - 1) := by unfold ldO; rw [if_neg hb0]
            rw [if_neg (by rw [oI_m1 (by omega)]; exact hb0), hlo]
            by_cases hc : ldM M d (bst (avl M T i) (ldM M d) w - 1) ≤ ldM M d w
            · rw [bst_no (by omega), hlo] at ih2
              rw [if_pos ((nI_leI (by omega) (by omega)).mpr hc)]
              exact ih2
            · rw [bst_yes ha (Or.inr (by omega)), show ldO M d (w + 1) = ldM M d w from rfl] at ih2
              rw [if_neg (fun z => hc ((nI_leI (by omega) (by omega)).mp z))]
              exact ih2
        · have hn : ¬ ((s 19 (8 + w) ||| s 18 (8 + w)) &&& bm (mLe M (i / 4)) ((mPl M i - 1) / 6)) = 0 := fun z => ha (by
            have := hz.mp z
            unfold avl
            simp [hw, this.1, this.2])
          rw [bst_no (by simp [ha])] at ih2
          rw [if_neg hn]
          exact ih2
theorem best_C (G : Good M) (R : RepC M s) {T d i : Nat} (hT : T < 8) (hd : d < 1000) (hi : i < 64) (h0 : mPl M i ≠ 0) : F_X1_bestFor (nI T) (bm (mLe M (i / 4)) ((mPl M i - 1) / 6)) (nI d) s = some (oI (bsI M T d i)) := by
  unfold F_X1_bestFor
  rw [show L_X1_bestFor_9 FU (nI T) (bm (mLe M (i / 4)) ((mPl M i - 1) / 6)) (nI d) (-1) 0 0 s = _ from bestL_C G R hT hd hi h0 FU 0 (by omega) (FU_gt (by omega))]
  rfl
end Co
def mab (M : MS) (a : Nat × (Nat → Nat)) : MS := va_up (va_up M 15 (fun _ => a.1)) 16 a.2
def abS (M : MS) (T d : Nat) : Nat → Nat × (Nat → Nat)
  | 0 => (0, fun _ => 0)
  | j + 1 => if itB M (mPl M) T (d * mP M + j) = 0 then abS M T d j else ((abS M T d j).1 + 1, va_up (abS M T d j).2 (abS M T d j).1 (bsI (mab M (abS M T d j)) T d (itB M (mPl M) T (d * mP M + j) - 1)))
theorem abS_ok (M : MS) (T d : Nat) : ∀ j : Nat, (abS M T d j).1 ≤ j ∧ ∀ k, k < (abS M T d j).1 → (abS M T d j).2 k < 9
  | 0 => ⟨Nat.le_refl _, fun k hk => absurd hk (Nat.not_lt_zero k)⟩
  | j + 1 => by
    obtain ⟨h1, h2⟩ := abS_ok M T d j
    rw [abS]
    split
    · exact ⟨by omega, h2⟩
    · refine ⟨by show (abS M T d j).1 + 1 ≤ _; omega, fun k hk => ?_⟩
      have hk2 : k < (abS M T d j).1 + 1 := hk
      show va_up (abS M T d j).2 (abS M T d j).1 _ k < 9
      by_cases e : k = (abS M T d j).1
      · rw [e, up_eq]
        have := bst_le (avl (mab M (abS M T d j)) T (itB M (mPl M) T (d * mP M + j) - 1)) (ldM (mab M (abS M T d j)) d) 8
        show bst _ _ 8 < 9
        omega
      · rw [up_ne _ _ e]; exact h2 k (by omega)
theorem Good_ab {M : MS} (G : Good M) {a : Nat × (Nat → Nat)} (h1 : a.1 ≤ 6) (h2 : ∀ k, k < a.1 → a.2 k < 9) : Good (mab M a) :=
  ⟨G.1, G.2.1, G.2.2.1, G.2.2.2.1, G.2.2.2.2.1, G.2.2.2.2.2.1, G.2.2.2.2.2.2.1, h1, h2⟩
theorem RepC_ab {M : MS} {a0 a : Nat × (Nat → Nat)} {s : Sg} (R : RepC (mab M a0) s) {g g2 : Nat → Int32} (h1 : g2 0 = nI a.1) (h2 : ∀ k, k < a.1 → g k = oI (a.2 k)) : RepC (mab M a) (va_up (va_up s 5 g) 501 g2) :=
  ⟨R.1, R.2.1, R.2.2.1, R.2.2.2.1, R.2.2.2.2.1, R.2.2.2.2.2.1, R.2.2.2.2.2.2.1, R.2.2.2.2.2.2.2.1, R.2.2.2.2.2.2.2.2.1, h1, h2⟩
theorem RepM_ab {M : MS} {a0 a : Nat × (Nat → Nat)} {s : Sg} (R : RepM (mab M a0) s) {g g2 : Nat → Int32} (h1 : g2 0 = nI a.1) (h2 : ∀ k, k < a.1 → g k = oI (a.2 k)) : RepM (mab M a) (va_up (va_up s 38 g) 2223 g2) :=
  ⟨R.1, R.2.1, R.2.2.1, R.2.2.2.1, R.2.2.2.2.1, R.2.2.2.2.2.1, R.2.2.2.2.2.2.1, h1, h2⟩
theorem findL_C {M : MS} (G : Good M) {T d : Nat} (hT : T < 8) (hd : d < mD M) : ∀ (fu j : Nat) (s : Sg), RepC (mab M (abS M T d j)) s → j ≤ mP M → mP M - j < fu → ∃ t, L_X1_find_8 fu (nI T) (nI d) (nI j) s = some t ∧ RepC (mab M (abS M T d (mP M))) t ∧ (∀ c, c ≠ 5 → c ≠ 501 → t c = s c) := by
  have hG := G.1
  have h30 := dp_le G
  intro fu
  induction fu with
  | zero => intro j s _ h1 h2; omega
  | succ fu ih =>
    intro j s R h1 h2
    have hok := abS_ok M T d j
    rw [L_X1_find_8, R.1.2.1, show mP (mab M (abS M T d j)) = mP M from rfl]
    by_cases h : mP M ≤ j
    · have : j = mP M := by omega
      subst this
      rw [if_pos ((nI_leI (by omega) (by omega)).mpr h)]
      exact ⟨s, rfl, R, fun _ _ _ => rfl⟩
    · have G2 := Good_ab G (a := abS M T d j) (by omega) hok.2
      have hlt := dpl hd (show j < mP M by omega)
      have ih2 := ih (j + 1)
      rw [abS] at ih2
      rw [if_neg (fun z => h ((nI_leI (by omega) (by omega)).mp z)), bnd_e, pk_mul, nI_add, itBeg_C G2 R hT (by omega), Option.bind_some, show itB (mab M (abS M T d j)) (mPl (mab M (abS M T d j))) T (d * mP M + j) = itB M (mPl M) T (d * mP M + j) from rfl, bnd_e, nI_1]
      cases hb : itB M (mPl M) T (d * mP M + j) with
      | zero =>
        rw [hb, if_pos rfl] at ih2
        rw [if_pos (show oI 0 = -1 from rfl)]
        exact ih2 s R (by omega) (by omega)
      | succ i =>
        obtain ⟨i1, i2, i3, i4⟩ := itB_some hb
        rw [hb, if_neg (by omega), Nat.add_sub_cancel] at ih2
        rw [if_neg (by rw [oI_m1 (by omega)]; omega), show oI (i + 1) = nI i from rfl, bitsIt_C G2 R i1 i2, Option.bind_some, best_C G2 R hT (by omega) i1 i2, Option.bind_some, show s 501 0 = nI (abS M T d j).1 from R.2.2.2.2.2.2.2.2.2.1, grd_t (ixb_nI (by omega) (by decide)), nI_clamp (by omega), bnd_e, bnd_e, bnd_e]
        obtain ⟨t, t1, t2, t3⟩ := ih2 (va_up (va_up s 5 (upd (s 5) (abS M T d j).1 (oI (bsI (mab M (abS M T d j)) T d i)))) 501 (fun _ => va_up s 5 (upd (s 5) (abS M T d j).1 (oI (bsI (mab M (abS M T d j)) T d i))) 501 0 + 1)) (RepC_ab R (by
          show s 501 0 + 1 = nI ((abS M T d j).1 + 1)
          rw [show s 501 0 = nI (abS M T d j).1 from R.2.2.2.2.2.2.2.2.2.1, nI_1]) (by
          intro k hk
          have hk2 : k < (abS M T d j).1 + 1 := hk
          show upd (s 5) (abS M T d j).1 _ k = oI (va_up (abS M T d j).2 (abS M T d j).1 _ k)
          by_cases e : k = (abS M T d j).1
          · rw [e, pk_us, up_eq]
          · rw [pk_un e, up_ne _ _ e]
            exact R.2.2.2.2.2.2.2.2.2.2 k (show k < (abS M T d j).1 by omega))) (by omega) (by omega)
        exact ⟨t, t1, t2, fun c c1 c2 => by rw [t3 c c1 c2, up_ne _ _ c2, up_ne _ _ c1]⟩
