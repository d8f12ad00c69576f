/-! ===== gaps ===== -/
def latb (P : Nat) (b : Nat → Bool) (k p : Nat) : Bool := anyb (fun j => decide (j ≤ p % P) && b (p - j)) (k + 1)
def earb (P : Nat) (b : Nat → Bool) (k p : Nat) : Bool := anyb (fun j => decide (p % P + j < P) && b (p + j)) (k + 1)
def gday (P : Nat) (c : Nat → Bool) : Nat := cnt (fun j => anyb (fun i => decide (i ≤ j) && c (j - i)) P && anyb (fun i => decide (j + i < P) && c (j + i)) P && !c j) P
def gpO (M : MS) (b : Nat → Bool) : Nat := sumN (fun d => gday (mP M) (fun j => b (d * mP M + j))) (mD M)
def lsO (M : MS) (b : Nat → Bool) : Nat := cnt (fun p => b p && (decide (p < mD M * mP M) && decide (p % mP M = mP M - 1))) 32
def gst (c : Nat → Bool) : Nat → Nat × Nat × Nat
  | 0 => (0, 0, 0)
  | j + 1 => if c j = true then (if (gst c j).1 = 0 then j + 1 else (gst c j).1, j + 1, (gst c j).2.2 + 1) else gst c j
def gref (c : Nat → Bool) (P : Nat) : Nat := if (gst c P).2.2 = 0 then 0 else (gst c P).2.1 - (gst c P).1 + 1 - (gst c P).2.2
theorem pm1 {p P : Nat} (hP : 0 < P) (h : p % P ≠ 0) : (p - 1) % P = p % P - 1 := by
  have h1 := Nat.div_add_mod p P
  have h2 := Nat.mod_lt p hP
  have e : p - 1 = P * (p / P) + (p % P - 1) := by omega
  rw [e, Nat.mul_add_mod, Nat.mod_eq_of_lt (by omega)]
theorem pp1 {p P : Nat} (h : p % P + 1 < P) : (p + 1) % P = p % P + 1 := by
  have h1 := Nat.div_add_mod p P
  have e : p + 1 = P * (p / P) + (p % P + 1) := by omega
  rw [e, Nat.mul_add_mod, Nat.mod_eq_of_lt h]
theorem lat_s {P : Nat} (hP : 0 < P) (b : Nat → Bool) (m p : Nat) : latb P b (m + 1) p = (latb P b m p || ((decide (1 ≤ p) && latb P b m (p - 1)) && !decide (p % P = 0))) := by
  unfold latb
  apply Bool.eq_iff_iff.mpr
  simp only [Bool.or_eq_true, Bool.and_eq_true, anyb_iff, decide_eq_true_eq, Bool.not_eq_true', decide_eq_false_iff_not]
  constructor
  · rintro ⟨j, h1, h2, h3⟩
    by_cases e : j < m + 1
    · exact Or.inl ⟨j, e, h2, h3⟩
    · have hpp : p % P ≤ p := Nat.mod_le _ _
      refine Or.inr ⟨⟨by omega, j - 1, by omega, ?_, ?_⟩, by omega⟩
      · rw [pm1 hP (by omega)]; omega
      · rw [show p - 1 - (j - 1) = p - j by omega]; exact h3
  · rintro (⟨j, h1, h2, h3⟩ | ⟨⟨h0, j, h1, h2, h3⟩, h4⟩)
    · exact ⟨j, by omega, h2, h3⟩
    · rw [pm1 hP h4] at h2
      exact ⟨j + 1, by omega, by omega, by rw [show p - (j + 1) = p - 1 - j by omega]; exact h3⟩
theorem ear_s {P : Nat} (hP : 0 < P) (b : Nat → Bool) (m p : Nat) : earb P b (m + 1) p = (earb P b m p || (earb P b m (p + 1) && !decide (p % P = P - 1))) := by
  have hm := Nat.mod_lt p hP
  unfold earb
  apply Bool.eq_iff_iff.mpr
  simp only [Bool.or_eq_true, Bool.and_eq_true, anyb_iff, decide_eq_true_eq, Bool.not_eq_true', decide_eq_false_iff_not]
  constructor
  · rintro ⟨j, h1, h2, h3⟩
    by_cases e : j < m + 1
    · exact Or.inl ⟨j, e, h2, h3⟩
    · refine Or.inr ⟨⟨j - 1, by omega, ?_, ?_⟩, by omega⟩
      · rw [pp1 (by omega)]; omega
      · rw [show p + 1 + (j - 1) = p + j by omega]; exact h3
  · rintro (⟨j, h1, h2, h3⟩ | ⟨⟨j, h1, h2, h3⟩, h4⟩)
    · exact ⟨j, by omega, h2, h3⟩
    · rw [pp1 (by omega)] at h2
      exact ⟨j + 1, by omega, by omega, by rw [show p + (j + 1) = p + 1 + j by omega]; exact h3⟩
section Ga
variable {M : MS} {s : Sg}
theorem gaps_loop (G : Good M) (R : RepC M s) {b : Nat → Bool} (x : Int32) : ∀ (fu k : Nat) (L E : Int32), k + 1 ≤ mP M → mP M - (k + 1) < fu → (∀ p, p < mD M * mP M → bt L p = latb (mP M) b k p) → (∀ p, p < 32 → bt E p = (decide (p < mD M * mP M) && earb (mP M) b k p)) → ∃ L' E', L_X0_gapsIn_7 fu x L E (nI (k + 1)) s = some (L', E') ∧ (∀ p, p < mD M * mP M → bt L' p = latb (mP M) b (mP M - 1) p) ∧ (∀ p, p < 32 → bt E' p = (decide (p < mD M * mP M) && earb (mP M) b (mP M - 1) p)) := by
  have h0 := G.1
  have h30 := dp_le G
  intro fu
  induction fu with
  | zero => intro k L E h1 h2; omega
  | succ fu ih =>
    intro k L E h1 h2 hL hE
    rw [L_X0_gapsIn_7, R.1.2.1]
    simp only [nI_leI (show mP M < 2 ^ 31 by omega) (show k + 1 < 2 ^ 31 by omega), bnd]
    by_cases h : mP M ≤ k + 1
    · rw [if_pos h]
      have : mP M - 1 = k := by omega
      rw [this]
      exact ⟨L, E, rfl, hL, hE⟩
    · rw [if_neg h, nI_1]
      refine ih (k + 1) _ _ (by omega) (by omega) ?_ ?_
      · intro p hp
        rw [b_or, b_and, b_xor, b_m1 p (by omega), show (1 : Int32) &&& 31 = nI 1 &&& 31 from rfl, b_shl 1 (by decide) L (by omega), R.2.1.1 p (by omega), hL p hp, lat_s (by omega)]
        by_cases h1p : 1 ≤ p
        · rw [hL (p - 1) (by omega)]
          simp [h1p, hp]
        · simp [h1p]
      · intro p hp
        rw [b_or, b_and, b_xor, b_m1 p hp, show (1 : Int32) &&& 31 = nI 1 &&& 31 from rfl, b_sshr 1 (by decide) E hp, R.2.1.2 p hp, hE p hp, ear_s (by omega)]
        by_cases hpd : p < mD M * mP M
        · rw [if_pos (by omega), hE (1 + p) (by omega), Nat.add_comm 1 p]
          by_cases hl : p % mP M = mP M - 1
          · simp [hpd, hl]
          · have hmod := Nat.mod_lt p (show 0 < mP M by omega)
            have := fit_le G (n := 2) hpd (by omega)
            simp [hpd, hl, show p + 1 < mD M * mP M by omega]
        · have e31 : (if 1 + p < 32 then bt E (1 + p) else bt E 31) = false := by
            split
            · rw [hE _ (by omega), decide_eq_false (by omega)]; rfl
            · rw [hE 31 (by decide), decide_eq_false (by omega)]; rfl
          rw [e31]
          simp [hpd]
theorem sumN_blk (f : Nat → Nat) (P : Nat) : ∀ D : Nat, sumN f (D * P) = sumN (fun d => sumN (fun j => f (d * P + j)) P) D
  | 0 => by rw [Nat.zero_mul]; rfl
  | D + 1 => by rw [Nat.add_mul, Nat.one_mul, sumN_split, sumN_blk f P D]; rfl
theorem dpm {d P j : Nat} (hj : j < P) : (d * P + j) % P = j := by
  rw [Nat.mul_comm, Nat.mul_add_mod, Nat.mod_eq_of_lt hj]
theorem gapsIn_C (G : Good M) (R : RepC M s) {x : Int32} (hx : ∀ p, p < 32 → mD M * mP M ≤ p → bt x p = false) : F_X0_gapsIn x s = some (nI (gpO M (bt x))) := by
  have h0 := G.1
  have h30 := dp_le G
  obtain ⟨L, E, e1, e2, e3⟩ := gaps_loop G R (b := bt x) x FU 0 x x (by omega) (FU_gt (by omega)) (fun p hp => by
    unfold latb
    simp [anyb]) (fun p hp => by
    have := Nat.mod_lt p (show 0 < mP M by omega)
    unfold earb
    by_cases h : p < mD M * mP M
    · simp [anyb, h, this]
    · simp [anyb, h, hx p hp (by omega)])
  unfold F_X0_gapsIn
  rw [show L_X0_gapsIn_7 FU x x x 1 s = some (L, E) from e1]
  simp only [Option.bind_some]
  rw [bitCount_ok]
  simp only [Option.bind_some]
  congr 2
  have e4 : cnt (bt ((L &&& E) &&& (x ^^^ -1))) 32 = cnt (fun p => decide (p < mD M * mP M) && (latb (mP M) (bt x) (mP M - 1) p && earb (mP M) (bt x) (mP M - 1) p && !bt x p)) 32 := cnt_congr fun p hp => by
    rw [b_and, b_and, b_xor, b_m1 p hp, e3 p hp]
    by_cases h : p < mD M * mP M
    · rw [e2 p h]; simp [h]
    · simp [h]
  rw [e4]
  unfold cnt gpO
  rw [show (32 : Nat) = mD M * mP M + (32 - mD M * mP M) by omega, sumN_split, sumN_zero (n := 32 - mD M * mP M) (fun i hi => by dsimp only; rw [decide_eq_false (by omega)]; rfl), Nat.add_zero, sumN_blk]
  refine sumN_congr fun d hd => ?_
  unfold gday cnt
  refine sumN_congr fun j hj => ?_
  have hlt : d * mP M + j < mD M * mP M := by
    calc d * mP M + j < d * mP M + mP M := by omega
      _ = (d + 1) * mP M := by rw [Nat.add_mul, Nat.one_mul]
      _ ≤ mD M * mP M := Nat.mul_le_mul_right _ hd
  dsimp only
  rw [decide_eq_true hlt, Bool.true_and]
  have a1 : latb (mP M) (bt x) (mP M - 1) (d * mP M + j) = anyb (fun i => decide (i ≤ j) && bt x (d * mP M + (j - i))) (mP M) := by
    unfold latb
    rw [dpm hj, show mP M - 1 + 1 = mP M by omega]
    refine anyb_congr fun i hi => ?_
    by_cases h : i ≤ j
    · rw [show d * mP M + j - i = d * mP M + (j - i) by omega]
    · simp [h]
  have a2 : earb (mP M) (bt x) (mP M - 1) (d * mP M + j) = anyb (fun i => decide (j + i < mP M) && bt x (d * mP M + (j + i))) (mP M) := by
    unfold earb
    rw [dpm hj, show mP M - 1 + 1 = mP M by omega]
    refine anyb_congr fun i hi => ?_
    rw [Nat.add_assoc]
  rw [a1, a2]
theorem lst_C (R : RepC M s) (x : Int32) : F_J6_bitCount_0f7a4 (x &&& s 904 0) s = some (nI (lsO M (bt x))) := by
  rw [bitCount_ok]
  congr 2
  unfold lsO
  refine cnt_congr fun p hp => ?_
  rw [b_and, R.2.1.2 p hp]
theorem class_C (G : Good M) (R : RepC M s) {x : Int32} (hx : ∀ p, p < 32 → mD M * mP M ≤ p → bt x p = false) : F_X0_classPart x s = some (nI (2 * gpO M (bt x))) := by
  unfold F_X0_classPart
  rw [gapsIn_C G R hx]
  simp only [Option.bind_some]
  rw [show (2 : Int32) = nI 2 from rfl, pk_mul]
theorem teach_C (G : Good M) (R : RepC M s) {x : Int32} (hx : ∀ p, p < 32 → mD M * mP M ≤ p → bt x p = false) : F_X0_teacherPart x s = some (nI (gpO M (bt x) + 3 * lsO M (bt x))) := by
  unfold F_X0_teacherPart
  rw [gapsIn_C G R hx]
  simp only [Option.bind_some]
  rw [lst_C R]
  simp only [Option.bind_some]
  rw [show (1 : Int32) = nI 1 from rfl, show (3 : Int32) = nI 3 from rfl, pk_mul, pk_mul, nI_add, Nat.one_mul]
end Ga
/-- what a user's taken periods cost -/
def PU (M : MS) (u : Nat) (b : Nat → Bool) : Nat := if u < 8 then 2 * gpO M b else gpO M b + 3 * lsO M b
def pen (M : MS) (f : Nat → Nat) : Nat := sumN (fun u => PU M u (occ M f u)) 16
theorem gday_le (P : Nat) (c : Nat → Bool) : gday P c ≤ P := cnt_le _ _
theorem gpO_le {M : MS} (G : Good M) (b : Nat → Bool) : gpO M b ≤ 30 := by
  have h30 := dp_le G
  have : gpO M b ≤ mD M * mP M := sumN_le fun d _ => gday_le _ _
  omega
theorem lsO_le (M : MS) (b : Nat → Bool) : lsO M b ≤ 32 := cnt_le _ _
theorem PU_le {M : MS} (G : Good M) (u : Nat) (b : Nat → Bool) : PU M u b ≤ 126 := by
  have := gpO_le G b
  have := lsO_le M b
  unfold PU
  split <;> omega
theorem gday_congr {P : Nat} {b c : Nat → Bool} (h : ∀ j, j < P → b j = c j) : gday P b = gday P c := by
  unfold gday
  refine cnt_congr fun j hj => ?_
  rw [h j hj]
  congr 1
  congr 1
  · refine anyb_congr fun i hi => ?_
    rw [h (j - i) (by omega)]
  · refine anyb_congr fun i hi => ?_
    by_cases h2 : j + i < P
    · rw [h (j + i) h2]
    · simp [h2]
theorem dpl {D P d j : Nat} (hd : d < D) (hj : j < P) : d * P + j < D * P := by
  calc d * P + j < d * P + P := by omega
    _ = (d + 1) * P := by rw [Nat.add_mul, Nat.one_mul]
    _ ≤ D * P := Nat.mul_le_mul_right _ hd
theorem PU_congr {M : MS} (G : Good M) {u : Nat} {b c : Nat → Bool} (h : ∀ p, p < mD M * mP M → b p = c p) : PU M u b = PU M u c := by
  have h1 : gpO M b = gpO M c := sumN_congr fun d hd => gday_congr fun j hj => h _ (dpl hd hj)
  have h2 : lsO M b = lsO M c := cnt_congr fun p hp => by
    by_cases hh : p < mD M * mP M
    · rw [h p hh]
    · simp [hh]
  unfold PU
  rw [h1, h2]
theorem occ_out_of {M : MS} (G : Good M) {f : Nat → Nat} (V : VP M f) {u p : Nat} (h : mD M * mP M ≤ p) : occ M f u p = false := by
  cases ho : occ M f u p with
  | false => rfl
  | true =>
    obtain ⟨i, hi, h2⟩ := anyb_iff.mp ho
    rw [Bool.and_eq_true] at h2
    obtain ⟨v1, v2, v3, v4⟩ := V.1 i hi (cvr_pl h2.1)
    have := fit_le G v3 v4
    have h3 := h2.1
    unfold cvr at h3
    simp only [Bool.and_eq_true, decide_eq_true_eq] at h3
    omega
section Wk
variable {M : MS} {s : Sg}
theorem busy_z (G : Good M) (R : RepC M s) {u : Nat} (hu : u < 22) : ∀ p, p < 32 → mD M * mP M ≤ p → bt (s 19 u) p = false := fun p hp h => by
  rw [R.2.2.2.2.2.2.1 u p hu hp]; exact occ_out_of G G.2.2.2.1 h
theorem PU_busy (G : Good M) (R : RepC M s) {u : Nat} (hu : u < 22) : PU M u (bt (s 19 u)) = PU M u (occ M (mPl M) u) := PU_congr G fun p hp => R.2.2.2.2.2.2.1 u p hu (by have := dp_le G; omega)
theorem week_T (G : Good M) (R : RepC M s) : ∀ (fu w : Nat), w ≤ 8 → 8 - w < fu → L_X0_weekPenalty_4 fu (nI (sumN (fun w => PU M (8 + w) (occ M (mPl M) (8 + w))) w)) (nI w) s = some (nI (sumN (fun w => PU M (8 + w) (occ M (mPl M) (8 + w))) 8)) := by
  intro fu
  induction fu with
  | zero => intro w h1 h2; omega
  | succ fu ih =>
    intro w h1 h2
    rw [L_X0_weekPenalty_4, show (8 : Int32) = nI 8 from rfl]
    simp only [nI_leI (show 8 < 2 ^ 31 by decide) (show w < 2 ^ 31 by omega), bnd]
    by_cases h : 8 ≤ w
    · have : w = 8 := by omega
      subst this
      rw [if_pos h]
    · have e : PU M (8 + w) (occ M (mPl M) (8 + w)) = gpO M (bt (s 19 (8 + w))) + 3 * lsO M (bt (s 19 (8 + w))) := by
        rw [← PU_busy G R (by omega)]; unfold PU; rw [if_neg (by omega)]
      rw [if_neg h, nI_add, grd_t (ixb_nI (by omega) (by decide)), nI_clamp (by omega), teach_C G R (busy_z G R (by omega))]
      simp only [Option.bind_some]
      rw [nI_1, nI_add, ← e]
      exact ih (w + 1) (by omega) (by omega)
theorem week_C (G : Good M) (R : RepC M s) (a : Nat) : ∀ (fu w : Nat), w ≤ 8 → 8 - w < fu → L_X0_weekPenalty_34 fu (nI (a + sumN (fun w => PU M w (occ M (mPl M) w)) w)) (nI w) s = some (nI (a + sumN (fun w => PU M w (occ M (mPl M) w)) 8)) := by
  intro fu
  induction fu with
  | zero => intro w h1 h2; omega
  | succ fu ih =>
    intro w h1 h2
    rw [L_X0_weekPenalty_34, show (8 : Int32) = nI 8 from rfl]
    simp only [nI_leI (show 8 < 2 ^ 31 by decide) (show w < 2 ^ 31 by omega), bnd]
    by_cases h : 8 ≤ w
    · have : w = 8 := by omega
      subst this
      rw [if_pos h]
    · have e : PU M w (occ M (mPl M) w) = 2 * gpO M (bt (s 19 w)) := by
        rw [← PU_busy G R (by omega)]; unfold PU; rw [if_pos (by omega)]
      rw [if_neg h, grd_t (ixb_nI (by omega) (by decide)), nI_clamp (by omega), class_C G R (busy_z G R (by omega))]
      simp only [Option.bind_some]
      rw [nI_1, nI_add, ← e, Nat.add_assoc]
      exact ih (w + 1) (by omega) (by omega)
theorem pen_C (G : Good M) (R : RepC M s) : F_X0_weekPenalty s = some (nI (pen M (mPl M))) := by
  unfold F_X0_weekPenalty
  have h1 := week_T G R FU 0 (by omega) (FU_gt (by omega))
  rw [show L_X0_weekPenalty_4 FU 0 0 s = _ from h1]
  simp only [Option.bind_some]
  have h2 := week_C G R (sumN (fun w => PU M (8 + w) (occ M (mPl M) (8 + w))) 8) FU 0 (by omega) (FU_gt (by omega))
  rw [show L_X0_weekPenalty_34 FU (nI (sumN (fun w => PU M (8 + w) (occ M (mPl M) (8 + w))) 8)) 0 s = _ from h2]
  simp only [Option.bind_some]
  congr 2
  unfold pen
  rw [show (16 : Nat) = 8 + 8 from rfl, sumN_split]
  omega
end Wk
