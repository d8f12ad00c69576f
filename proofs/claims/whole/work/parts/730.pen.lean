/-! ===== the reference's penalty ===== -/
theorem gst_congr {b c : Nat → Bool} : ∀ {n : Nat}, (∀ j, j < n → b j = c j) → gst b n = gst c n
  | 0, _ => rfl
  | n + 1, h => by rw [gst, gst, gst_congr (fun j hj => h j (by omega)), h n (by omega)]
def sixN (b0 b1 b2 b3 b4 b5 : Bool) : Nat := b0.toNat + 2 * b1.toNat + 4 * b2.toNat + 8 * b3.toNat + 16 * b4.toNat + 32 * b5.toNat
theorem six : ∀ b0 b1 b2 b3 b4 b5 : Bool, sixN b0 b1 b2 b3 b4 b5 < 64 ∧ (sixN b0 b1 b2 b3 b4 b5).testBit 0 = b0 ∧ (sixN b0 b1 b2 b3 b4 b5).testBit 1 = b1 ∧ (sixN b0 b1 b2 b3 b4 b5).testBit 2 = b2 ∧ (sixN b0 b1 b2 b3 b4 b5).testBit 3 = b3 ∧ (sixN b0 b1 b2 b3 b4 b5).testBit 4 = b4 ∧ (sixN b0 b1 b2 b3 b4 b5).testBit 5 = b5 := by decide +kernel
theorem gg_dec : ∀ P, P < 7 → ∀ m, m < 64 → gday P (fun j => m.testBit j) = gref (fun j => m.testBit j) P ∧ ((gst (fun j => m.testBit j) P).2.2 ≠ 0 → 1 ≤ (gst (fun j => m.testBit j) P).1 ∧ (gst (fun j => m.testBit j) P).1 ≤ (gst (fun j => m.testBit j) P).2.1 ∧ (gst (fun j => m.testBit j) P).2.2 ≤ (gst (fun j => m.testBit j) P).2.1 - (gst (fun j => m.testBit j) P).1 + 1) := by decide +kernel
theorem gg {P : Nat} (hP : P < 7) (c : Nat → Bool) : gday P c = gref c P ∧ ((gst c P).2.2 ≠ 0 → 1 ≤ (gst c P).1 ∧ (gst c P).1 ≤ (gst c P).2.1 ∧ (gst c P).2.2 ≤ (gst c P).2.1 - (gst c P).1 + 1) := by
  obtain ⟨hm, e0, e1, e2, e3, e4, e5⟩ := six (c 0) (c 1) (c 2) (c 3) (c 4) (c 5)
  generalize sixN (c 0) (c 1) (c 2) (c 3) (c 4) (c 5) = m at *
  have hc : ∀ j, j < P → c j = (fun j => m.testBit j) j := by
    intro j hj
    rcases (show j = 0 ∨ j = 1 ∨ j = 2 ∨ j = 3 ∨ j = 4 ∨ j = 5 by omega) with rfl | rfl | rfl | rfl | rfl | rfl
    · exact e0.symm
    · exact e1.symm
    · exact e2.symm
    · exact e3.symm
    · exact e4.symm
    · exact e5.symm
  have := gg_dec P hP m hm
  rw [gday_congr hc]
  unfold gref at this ⊢
  rw [gst_congr hc]
  exact this
theorem gst_le (c : Nat → Bool) : ∀ n : Nat, (gst c n).1 ≤ n ∧ (gst c n).2.1 ≤ n ∧ (gst c n).2.2 ≤ n
  | 0 => ⟨Nat.le_refl _, Nat.le_refl _, Nat.le_refl _⟩
  | n + 1 => by
    have := gst_le c n
    rw [gst]
    split
    · refine ⟨?_, Nat.le_refl _, by show (gst c n).2.2 + 1 ≤ n + 1; omega⟩
      show (if (gst c n).1 = 0 then n + 1 else (gst c n).1) ≤ n + 1
      split <;> omega
    · omega
def ofs (b l : Nat) : Nat := if l = 0 then 0 else b + l
section Pm
variable {M : MS} {s : Sg}
theorem gapsL_M (G : Good M) (R : RepM M s) {u d : Nat} (hu : u < 22) (hd : d < mD M) : ∀ (fu j : Nat), j ≤ mP M → mP M - j < fu → L_X6_gaps_17 fu (nI (uW u)) (nI (uH u)) (nI d) (oI (ofs (d * mP M) (gst (fun j => occ M (mPl M) u (d * mP M + j)) j).1)) (oI (ofs (d * mP M) (gst (fun j => occ M (mPl M) u (d * mP M + j)) j).2.1)) (nI (gst (fun j => occ M (mPl M) u (d * mP M + j)) j).2.2) (nI (d * mP M + j)) s = some (oI (ofs (d * mP M) (gst (fun j => occ M (mPl M) u (d * mP M + j)) (mP M)).1), oI (ofs (d * mP M) (gst (fun j => occ M (mPl M) u (d * mP M + j)) (mP M)).2.1), nI (gst (fun j => occ M (mPl M) u (d * mP M + j)) (mP M)).2.2) := by
  have h0 := G.1
  have h30 := dp_le G
  have hdp : d * mP M + mP M ≤ mD M * mP M := by
    calc d * mP M + mP M = (d + 1) * mP M := by rw [Nat.add_mul, Nat.one_mul]
      _ ≤ mD M * mP M := Nat.mul_le_mul_right _ hd
  intro fu
  induction fu with
  | zero => intro j h1 h2; omega
  | succ fu ih =>
    intro j h1 h2
    rw [L_X6_gaps_17, R.1.2.1, nI_1, pk_mul, Nat.add_mul, Nat.one_mul]
    simp only [nI_leI (show d * mP M + mP M < 2 ^ 31 by omega) (show d * mP M + j < 2 ^ 31 by omega), bnd]
    by_cases h : mP M ≤ j
    · have : j = mP M := by omega
      subst this
      rw [if_pos (Nat.le_refl _)]
    · have hg := gst_le (fun j => occ M (mPl M) u (d * mP M + j)) j
      have ih2 := ih (j + 1) (by omega) (by omega)
      rw [if_neg (by omega), itemAt_M G R hu (by omega)]
      simp only [Option.bind_some]
      rw [nI_1, nI_1]
      cases hi : iAt M (mPl M) u (d * mP M + j) with
      | zero =>
        have ho := (iAt_occ M (mPl M) u (d * mP M + j)).mp hi
        rw [if_pos (show oI 0 < 0 by decide)]
        rw [gst, if_neg (by rw [ho]; decide)] at ih2
        exact ih2
      | succ k =>
        have hk := (iAt_lt hi).1
        have ho : occ M (mPl M) u (d * mP M + j) = true := by
          cases hh : occ M (mPl M) u (d * mP M + j) with
          | true => rfl
          | false => rw [(iAt_occ M (mPl M) u _).mpr hh] at hi; cases hi
        rw [if_neg (show ¬ oI (k + 1) < 0 from nI_pos (by omega))]
        rw [gst, if_pos ho] at ih2
        have ehi : nI (d * mP M + j) = oI (ofs (d * mP M) (j + 1)) := by
          unfold ofs; rw [if_neg (by omega)]; rfl
        by_cases hl : (gst (fun j => occ M (mPl M) u (d * mP M + j)) j).1 = 0
        · rw [if_neg (by rw [hl]; unfold ofs; rw [if_pos rfl]; decide)]
          rw [if_pos hl] at ih2
          rw [← ehi] at ih2
          exact ih2
        · rw [if_pos (by rw [oI_pos (by unfold ofs; rw [if_neg hl]; omega)]; unfold ofs; rw [if_neg hl]; omega)]
          rw [if_neg hl, ← ehi] at ih2
          exact ih2
theorem gaps_M (G : Good M) (R : RepM M s) {u d : Nat} (hu : u < 22) (hd : d < mD M) : F_X6_gaps (nI (uW u)) (nI (uH u)) (nI d) s = some (nI (gday (mP M) (fun j => occ M (mPl M) u (d * mP M + j)))) := by
  have h0 := G.1
  have h30 := dp_le G
  have hdp : d * mP M + mP M ≤ mD M * mP M := by
    calc d * mP M + mP M = (d + 1) * mP M := by rw [Nat.add_mul, Nat.one_mul]
      _ ≤ mD M * mP M := Nat.mul_le_mul_right _ hd
  obtain ⟨g1, g2⟩ := gg (P := mP M) (by omega) (fun j => occ M (mPl M) u (d * mP M + j))
  have g3 := gst_le (fun j => occ M (mPl M) u (d * mP M + j)) (mP M)
  have hl := gapsL_M G R hu hd FU 0 (by omega) (FU_gt (by omega))
  unfold F_X6_gaps
  simp only [bnd]
  rw [R.1.2.1, pk_mul, show L_X6_gaps_17 FU (nI (uW u)) (nI (uH u)) (nI d) (-1) (-1) 0 (nI (d * mP M)) s = _ from hl]
  simp only [Option.bind_some]
  rw [g1]
  unfold gref
  by_cases hz : (gst (fun j => occ M (mPl M) u (d * mP M + j)) (mP M)).2.2 = 0
  · rw [hz, if_pos (show nI 0 = 0 from rfl), if_pos rfl]; rfl
  · obtain ⟨g4, g5, g6⟩ := g2 hz
    rw [if_neg (nI_ne0 (by omega) (by omega)), if_neg hz]
    unfold ofs
    rw [if_neg (by omega), if_neg (by omega), oI_ne (by omega), oI_ne (by omega), pk_sub (by omega), nI_1, pk_sub (by omega)]
    congr 2
    omega
theorem gaps0 (G : Good M) (R : RepM M s) {w d : Nat} (hw : w < 8) (hd : d < mD M) : F_X6_gaps 0 (nI w) (nI d) s = some (nI (gday (mP M) (fun j => occ M (mPl M) w (d * mP M + j)))) := by
  have := gaps_M G R (u := w) (by omega) hd
  rw [(uC hw).1, (uC hw).2] at this; exact this
theorem gaps1 (G : Good M) (R : RepM M s) {w d : Nat} (hw : w < 8) (hd : d < mD M) : F_X6_gaps 1 (nI w) (nI d) s = some (nI (gday (mP M) (fun j => occ M (mPl M) (8 + w) (d * mP M + j)))) := by
  have := gaps_M G R (u := 8 + w) (by omega) hd
  rw [(uT hw).1, (uT hw).2] at this; exact this
def gw (M : MS) (f : Nat → Nat) (w d : Nat) : Nat := 2 * gday (mP M) (fun j => occ M f w (d * mP M + j)) + gday (mP M) (fun j => occ M f (8 + w) (d * mP M + j))
theorem penD_M (G : Good M) (R : RepM M s) {w : Nat} (hw : w < 8) (a : Nat) : ∀ (fu d : Nat), d ≤ mD M → mD M - d < fu → L_X6_penaltyNow_12 fu (nI (a + sumN (gw M (mPl M) w) d)) (nI w) (nI d) s = some (nI (a + sumN (gw M (mPl M) w) (mD M))) := by
  have h0 := G.1
  intro fu
  induction fu with
  | zero => intro d h1 h2; omega
  | succ fu ih =>
    intro d h1 h2
    rw [L_X6_penaltyNow_12, R.1.1]
    simp only [nI_leI (show mD M < 2 ^ 31 by omega) (show d < 2 ^ 31 by omega), bnd]
    by_cases h : mD M ≤ d
    · have : d = mD M := by omega
      subst this
      rw [if_pos h]
    · rw [if_neg h, gaps0 G R hw (by omega), gaps1 G R hw (by omega)]
      simp only [Option.bind_some]
      rw [show (2 : Int32) = nI 2 from rfl, pk_mul, nI_add, nI_add, nI_1, Nat.add_assoc]
      exact ih (d + 1) (by omega) (by omega)
theorem penW_M (G : Good M) (R : RepM M s) : ∀ (fu w : Nat), w ≤ 8 → 8 - w < fu → L_X6_penaltyNow_4 fu (nI (sumN (fun w => sumN (gw M (mPl M) w) (mD M)) w)) (nI w) s = some (nI (sumN (fun w => sumN (gw M (mPl M) w) (mD M)) 8)) := by
  have h0 := G.1
  intro fu
  induction fu with
  | zero => intro d h1 h2; omega
  | succ fu ih =>
    intro w h1 h2
    rw [L_X6_penaltyNow_4, show (8 : Int32) = nI 8 from rfl]
    simp only [nI_leI (show 8 < 2 ^ 31 by decide) (show w < 2 ^ 31 by omega), bnd]
    by_cases h : 8 ≤ w
    · have : w = 8 := by omega
      subst this
      rw [if_pos h]
    · have := penD_M G R (w := w) (by omega) (sumN (fun w => sumN (gw M (mPl M) w) (mD M)) w) FU 0 (by omega) (FU_gt (by omega))
      rw [if_neg h, show L_X6_penaltyNow_12 FU (nI (sumN (fun w => sumN (gw M (mPl M) w) (mD M)) w)) (nI w) 0 s = _ from this]
      simp only [Option.bind_some]
      rw [nI_1]
      exact ih (w + 1) (by omega) (by omega)
def lateb (M : MS) (f : Nat → Nat) (i : Nat) : Bool := decide (f i ≠ 0) && decide (((f i - 1) / 6 + mLe M (i / 4)) % mP M = 0)
theorem penL_M (G : Good M) (R : RepM M s) (a : Nat) : ∀ (fu i : Nat), i ≤ 64 → 64 - i < fu → L_X6_penaltyNow_54 fu (nI (a + 3 * cnt (lateb M (mPl M)) i)) (nI i) s = some (nI (a + 3 * cnt (lateb M (mPl M)) 64)) := by
  have h0 := G.1
  have hN := good_N G
  intro fu
  induction fu with
  | zero => intro d h1 h2; omega
  | succ fu ih =>
    intro i h1 h2
    rw [L_X6_penaltyNow_54]
    simp only [jn, bnd]
    rcases Nat.lt_or_ge i 64 with h | h
    · have hp := pl_lt G G.2.2.2.1 h
      have ih2 := ih (i + 1) (by omega) (by omega)
      rw [show cnt (lateb M (mPl M)) (i + 1) = cnt (lateb M (mPl M)) i + (lateb M (mPl M) i).toNat from rfl] at ih2
      rw [if_neg (by rw [show (64 : Int32) = nI 64 from rfl, nI_leI (by decide) (by omega)]; omega), nI_clamp (by omega), grd_t (ixb_nI h (by decide)), (R.2.2.2.1 i h).1, nI_1]
      simp only [if_true, one0, if_false]
      by_cases hz : mPl M i = 0
      · rw [if_pos (by unfold perO; rw [if_pos hz]; decide)]
        rw [show lateb M (mPl M) i = false by simp [lateb, hz]] at ih2
        rw [show nI (a + 3 * cnt (lateb M (mPl M)) i) + 0 = nI (a + 3 * (cnt (lateb M (mPl M)) i + false.toNat)) from by rw [show (0 : Int32) = nI 0 from rfl, nI_add]; rfl]
        exact ih2
      · have hv := G.2.2.2.1.1 i h hz
        have hle := (G.2.1 _ hv.1).2.2.2.2.2.1
        have e3 : oI (perO (mPl M) i) = nI ((mPl M i - 1) / 6) := by simp [perO, hz, oI]
        rw [e3, if_neg (nI_pos (by omega)), grd_t (ixb_nI h (by decide)), lessonOf_M h]
        simp only [Option.bind_some]
        rw [grd_t (ixb_nI (by omega) (by decide)), nI_clamp (by omega), (R.2.1 (i / 4) (by omega)).2.2.2.2.1, R.1.2.1, grd_t (nI_ne0 (by omega) (by omega)), nI_add, pk_rem (by omega) (by omega) (by omega)]
        have hm : ((mPl M i - 1) / 6 + mLe M (i / 4)) % mP M < mP M := Nat.mod_lt _ (by omega)
        by_cases hr : ((mPl M i - 1) / 6 + mLe M (i / 4)) % mP M = 0
        · rw [hr, if_pos (show nI 0 = 0 from rfl)]
          rw [show lateb M (mPl M) i = true by simp [lateb, hz, hr]] at ih2
          rw [show nI (a + 3 * cnt (lateb M (mPl M)) i) + 3 = nI (a + 3 * (cnt (lateb M (mPl M)) i + true.toNat)) from by rw [show (3 : Int32) = nI 3 from rfl, nI_add]; congr 1]
          exact ih2
        · rw [if_neg (nI_ne0 (by omega) (by omega))]
          rw [show lateb M (mPl M) i = false by simp [lateb, hr]] at ih2
          rw [show nI (a + 3 * cnt (lateb M (mPl M)) i) + 0 = nI (a + 3 * (cnt (lateb M (mPl M)) i + false.toNat)) from by rw [show (0 : Int32) = nI 0 from rfl, nI_add]; rfl]
          exact ih2
    · have : i = 64 := by omega
      subst this
      rw [if_pos (by decide)]
end Pm
/-- the last periods: by teachers, or by items -/
theorem late_sum {M : MS} (G : Good M) {f : Nat → Nat} (V : VP M f) : sumN (fun w => lsO M (occ M f (8 + w))) 8 = cnt (lateb M f) 64 := by
  have h0 := G.1
  have h30 := dp_le G
  -- each term as a sum over items
  have a1 : ∀ w, w < 8 → lsO M (occ M f (8 + w)) = sumN (fun p => sumN (fun i => ((cvr M f i p && usz M f i (8 + w)) && (decide (p < mD M * mP M) && decide (p % mP M = mP M - 1))).toNat) 64) 32 := by
    intro w hw
    unfold lsO cnt
    refine sumN_congr fun p hp => ?_
    have e := anyb_sum (g := fun i => cvr M f i p && usz M f i (8 + w)) (n := 64) (fun i j hi hj h1 h2 => by
      rw [Bool.and_eq_true] at h1 h2
      exact V.2 i j (8 + w) p hi hj (by omega) h1.1 h2.1 h1.2 h2.2)
    dsimp only
    cases hq : (decide (p < mD M * mP M) && decide (p % mP M = mP M - 1)) with
    | false =>
      rw [Bool.and_false, sumN_zero (fun i _ => by rw [Bool.and_false]; rfl)]; rfl
    | true =>
      rw [Bool.and_true]
      show (anyb _ 64).toNat = _
      rw [e]
      exact sumN_congr fun i _ => by rw [Bool.and_true]
  rw [sumN_congr a1, sumN_swap]
  have a2 : ∀ p, p < 32 → sumN (fun w => sumN (fun i => ((cvr M f i p && usz M f i (8 + w)) && (decide (p < mD M * mP M) && decide (p % mP M = mP M - 1))).toNat) 64) 8 = sumN (fun i => (cvr M f i p && (decide (p < mD M * mP M) && decide (p % mP M = mP M - 1))).toNat) 64 := by
    intro p hp
    rw [sumN_swap]
    refine sumN_congr fun i hi => ?_
    cases hc : cvr M f i p with
    | false => exact sumN_zero fun _ _ => rfl
    | true =>
      have hpl := cvr_pl hc
      have hv := V.1 i hi hpl
      obtain ⟨q1, q2, q3, q4, -⟩ := G.2.1 _ hv.1
      have hu : ∀ w, w < 8 → usz M f i (8 + w) = decide (w = mTe M (i / 4)) := by
        intro w hw
        unfold usz
        rw [show (8 + w == mFi M (i / 4)) = false by simp; omega, show (mSe M (i / 4) == 8 + w + 1) = false by simp; omega, show (8 + w == 16 + (f i - 1) % 6) = false by simp; omega, show (8 + w == 8 + mTe M (i / 4)) = decide (w = mTe M (i / 4)) by rw [beq_d]; apply decide_eq_decide.mpr; omega]
        simp
      rw [sumN_congr (g := fun w => if w = mTe M (i / 4) then (decide (p < mD M * mP M) && decide (p % mP M = mP M - 1)).toNat else 0) (fun w hw => by
        rw [hu w hw]
        by_cases e : w = mTe M (i / 4)
        · rw [if_pos e, decide_eq_true e]; simp
        · rw [if_neg e, decide_eq_false e]; simp), sumN_one (h := fun _ => (decide (p < mD M * mP M) && decide (p % mP M = mP M - 1)).toNat) q4]
      simp
  rw [sumN_congr a2, sumN_swap]
  unfold cnt
  refine sumN_congr fun i hi => ?_
  by_cases hpl : f i = 0
  · rw [sumN_zero (fun p _ => by simp [cvr, hpl])]
    simp [lateb, hpl]
  · obtain ⟨v1, v2, v3, v4⟩ := V.1 i hi hpl
    have hle := (G.2.1 _ v1).2.2.2.2.2.1
    have hfit := fit_le G v3 v4
    have hmod := Nat.mod_lt ((f i - 1) / 6) (show 0 < mP M by omega)
    have hdm := Nat.div_add_mod ((f i - 1) / 6) (mP M)
    -- the item's last period
    have e1 : ((f i - 1) / 6 + mLe M (i / 4) - 1) % mP M = (f i - 1) / 6 % mP M + mLe M (i / 4) - 1 := by
      have e : (f i - 1) / 6 + mLe M (i / 4) - 1 = mP M * ((f i - 1) / 6 / mP M) + ((f i - 1) / 6 % mP M + mLe M (i / 4) - 1) := by omega
      rw [e, Nat.mul_add_mod, Nat.mod_eq_of_lt (by omega)]
    have e2 : (((f i - 1) / 6 + mLe M (i / 4)) % mP M = 0) ↔ ((f i - 1) / 6 % mP M + mLe M (i / 4) = mP M) := by
      have e : (f i - 1) / 6 + mLe M (i / 4) = mP M * ((f i - 1) / 6 / mP M) + ((f i - 1) / 6 % mP M + mLe M (i / 4)) := by omega
      rw [e, Nat.mul_add_mod]
      constructor
      · intro h
        by_cases h2 : (f i - 1) / 6 % mP M + mLe M (i / 4) < mP M
        · rw [Nat.mod_eq_of_lt h2] at h; omega
        · omega
      · intro h; rw [h, Nat.mod_self]
    rw [sumN_congr (g := fun p => if p = (f i - 1) / 6 + mLe M (i / 4) - 1 then (lateb M f i).toNat else 0) (fun p hp => by
      by_cases e : p = (f i - 1) / 6 + mLe M (i / 4) - 1
      · rw [if_pos e]
        have c1 : cvr M f i p = true := by
          unfold cvr; simp [hpl]; omega
        rw [c1, e, e1]
        congr 1
        unfold lateb
        rw [Bool.true_and, decide_eq_true (show (f i - 1) / 6 + mLe M (i / 4) - 1 < mD M * mP M by omega), decide_eq_true hpl, Bool.true_and, Bool.true_and]
        apply decide_eq_decide.mpr
        rw [e2]
        omega
      · rw [if_neg e]
        cases hc : cvr M f i p with
        | false => rfl
        | true =>
          unfold cvr at hc
          simp only [Bool.and_eq_true, decide_eq_true_eq] at hc
          have hp2 : p = (f i - 1) / 6 ∧ mLe M (i / 4) = 2 := by omega
          rw [hp2.1, Bool.true_and, decide_eq_false (show ¬ ((f i - 1) / 6 % mP M = mP M - 1) by omega), Bool.and_false]; rfl), sumN_one (h := fun _ => (lateb M f i).toNat) (by omega)]
theorem pen_eq {M : MS} (G : Good M) {f : Nat → Nat} (V : VP M f) : sumN (fun w => sumN (gw M f w) (mD M)) 8 + 3 * cnt (lateb M f) 64 = pen M f := by
  unfold pen
  rw [show (16 : Nat) = 8 + 8 from rfl, sumN_split, ← late_sum G V, ← sumN_mul, ← sumN_add, ← sumN_add]
  refine sumN_congr fun w hw => ?_
  unfold PU
  rw [if_pos hw, if_neg (by omega)]
  have : sumN (gw M f w) (mD M) = 2 * gpO M (occ M f w) + gpO M (occ M f (8 + w)) := by
    unfold gpO
    rw [← sumN_mul, ← sumN_add]
    rfl
  rw [this]
  omega
theorem pen_M {M : MS} {s : Sg} (G : Good M) (R : RepM M s) : F_X6_penaltyNow s = some (nI (pen M (mPl M))) := by
  unfold F_X6_penaltyNow
  have h1 := penW_M G R FU 0 (by omega) (FU_gt (by omega))
  rw [show L_X6_penaltyNow_4 FU 0 0 s = _ from h1]
  simp only [Option.bind_some]
  have h2 := penL_M G R (sumN (fun w => sumN (gw M (mPl M) w) (mD M)) 8) FU 0 (by omega) (FU_gt (by omega))
  rw [show L_X6_penaltyNow_54 FU (nI (sumN (fun w => sumN (gw M (mPl M) w) (mD M)) 8)) 0 s = _ from h2]
  simp only [Option.bind_some]
  rw [pen_eq G G.2.2.2.1]
theorem p_penalty : P_penalty Inv := by
  rintro s ⟨M, G, R, R2⟩
  refine ⟨nI (pen M (mPl M)), (nI (pen M (mPl M)), va_up s 2200 (fun _ => 0)), ?_, ?_, rfl, Inv_thr G R R2 0⟩
  · unfold F_X5_penalty
    rw [pen_C G R]; rfl
  · unfold F_X6_penalty
    simp only [bnd]
    rw [pen_M G (RepM_thr R2 0)]; rfl
