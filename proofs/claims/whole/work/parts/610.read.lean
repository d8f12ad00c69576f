/-! ===== reading: items, periods, rooms ===== -/
def hasB (M : MS) (x y : Int32) : Bool := ixb x (mN M) && ixb y (mTi M x.toNatClampNeg)
theorem grd_t {α : Type} {c : Prop} [Decidable c] {x : Option α} (h : c) : grd c x = x := by simp [grd, h]
section Rd
variable {M : MS} {s : Sg}
theorem good_N (G : Good M) : mN M ≤ 16 := G.1.2.2.2.2
theorem hasI_C (G : Good M) (R : RepC M s) (x y : Int32) : F_X3_hasItem x y s = some (b2i (hasB M x y)) := by
  have hN := good_N G
  unfold F_X3_hasItem hasB
  rw [R.1.2.2.2, isW s x (by omega)]
  cases hb : ixb x (mN M) with
  | false => simp [b2i]
  | true =>
    obtain ⟨j, hj, rfl⟩ := (ixb_iff (by omega)).mp hb
    have ht := (G.2.1 j hj).2.2.2.2.2.2.2.1
    have h16 : ixb (nI j) 16 = true := ixb_nI (by omega) (by decide)
    have e1 : (nI j).toNatClampNeg = j := nI_clamp (by omega)
    simp only [Option.bind_some, b2i_z, Bool.true_eq_false, if_false, Bool.true_and]
    rw [grd_t h16, e1, (R.2.2.1 j (by omega)).2.2.2.2.2.1, isW s y (by omega)]
    cases ixb y (mTi M j) <;> simp [b2i]
theorem hasI_M (G : Good M) (R : RepM M s) (x y : Int32) : F_X6_isItem x y s = some (b2i (hasB M x y)) := by
  have hN := good_N G
  unfold F_X6_isItem hasB
  rw [R.1.2.2, inW s x (by omega)]
  cases hb : ixb x (mN M) with
  | false => simp [b2i]
  | true =>
    obtain ⟨j, hj, rfl⟩ := (ixb_iff (by omega)).mp hb
    have ht := (G.2.1 j hj).2.2.2.2.2.2.2.1
    have h16 : ixb (nI j) 16 = true := ixb_nI (by omega) (by decide)
    have e1 : (nI j).toNatClampNeg = j := nI_clamp (by omega)
    simp only [Option.bind_some, b2i_z, Bool.true_eq_false, if_false, Bool.true_and]
    rw [grd_t h16, e1, (R.2.1 j (by omega)).2.2.2.2.2.1, inW s y (by omega)]
    cases ixb y (mTi M j) <;> simp [b2i]
/-- an item that is there: its lesson, its number -/
theorem hasB_iff (G : Good M) {x y : Int32} (h : hasB M x y = true) : ∃ l k, l < mN M ∧ k < mTi M l ∧ x = nI l ∧ y = nI k ∧ l < 16 ∧ k < 4 := by
  have hN := good_N G
  unfold hasB at h
  rw [Bool.and_eq_true] at h
  obtain ⟨l, hl, rfl⟩ := (ixb_iff (by omega)).mp h.1
  have ht := (G.2.1 l hl).2.2.2.2.2.2.2.1
  have e1 : (nI l).toNatClampNeg = l := nI_clamp (by omega)
  rw [e1] at h
  obtain ⟨k, hk, rfl⟩ := (ixb_iff (by omega)).mp h.2
  exact ⟨l, k, hl, hk, rfl, rfl, by omega, by omega⟩
theorem itemOf_C (l k : Nat) : F_X5_itemOf (nI l) (nI k) s = some (nI (4 * l + k)) := by
  unfold F_X5_itemOf
  rw [show (4 : Int32) = nI 4 from rfl, pk_mul, nI_add, Nat.mul_comm]
theorem lessonOf_C {i : Nat} (h : i < 64) : F_X5_lessonOf (nI i) s = some (nI (i / 4)) := by
  unfold F_X5_lessonOf
  rw [show (4 : Int32) = nI 4 from rfl, pk_div (by omega) (by decide) (by decide)]
theorem lessonOf_M {i : Nat} (h : i < 64) : F_X6_lessonOf (nI i) s = some (nI (i / 4)) := by
  show F_X5_lessonOf (nI i) s = _
  exact lessonOf_C h
theorem pl_lt (G : Good M) {f : Nat → Nat} (V : VP M f) {i : Nat} (hi : i < 64) : f i ≤ 180 := by
  rcases Nat.eq_zero_or_pos (f i) with h | h
  · omega
  · have h1 := (V.1 i hi (by omega)).2.2.1
    have h2 : mD M * mP M ≤ 30 := by
      have := G.1
      calc mD M * mP M ≤ 5 * 6 := Nat.mul_le_mul this.2.1 this.2.2.2.1
        _ = 30 := rfl
    omega
theorem isPlaced_C (G : Good M) (R : RepC M s) {i : Nat} (hi : i < 64) : F_X0_isPlaced (nI i) s = some (b2i (decide (mPl M i ≠ 0))) := by
  unfold F_X0_isPlaced
  have hp := pl_lt G G.2.2.2.1 hi
  rw [grd_t (ixb_nI hi (by decide)), nI_clamp (by omega), R.2.2.2.2.1 i hi]
  by_cases h : mPl M i = 0
  · simp [h, oI, b2i]
  · rw [if_neg (by rw [oI_m1 (by omega)]; exact h)]
    simp [h, b2i]
theorem periodOf_C (G : Good M) (R : RepC M s) {i : Nat} (hi : i < 64) : F_X0_periodOfItem (nI i) s = some (oI (perO (mPl M) i)) := by
  unfold F_X0_periodOfItem
  have hp := pl_lt G G.2.2.2.1 hi
  rw [isPlaced_C G R hi]
  by_cases h : mPl M i = 0
  · simp [h, b2i, perO, oI]
  · simp only [Option.bind_some, b2i_z, h, ne_eq, not_false_eq_true, decide_true, Bool.true_eq_false, if_false]
    rw [grd_t (ixb_nI hi (by decide)), nI_clamp (by omega), R.2.2.2.2.1 i hi, oI_ne h, show (6 : Int32) = nI 6 from rfl, pk_div (by omega) (by decide) (by decide)]
    simp [perO, h, oI]
theorem roomOf_C (G : Good M) (R : RepC M s) {i : Nat} (hi : i < 64) : F_X0_roomOfItem (nI i) s = some (oI (romO (mPl M) i)) := by
  unfold F_X0_roomOfItem
  have hp := pl_lt G G.2.2.2.1 hi
  rw [isPlaced_C G R hi]
  by_cases h : mPl M i = 0
  · simp [h, b2i, romO, oI]
  · simp only [Option.bind_some, b2i_z, h, ne_eq, not_false_eq_true, decide_true, Bool.true_eq_false, if_false]
    rw [grd_t (ixb_nI hi (by decide)), nI_clamp (by omega), R.2.2.2.2.1 i hi, oI_ne h, show (6 : Int32) = nI 6 from rfl, pk_rem (by omega) (by decide) (by decide)]
    simp [romO, h, oI]
/-- the reference's 'thrown' is no part of the picture -/
theorem RepM_thr (R : RepM M s) (v : Int32) : RepM M (va_up s 2200 (fun _ => v)) := by
  unfold RepM at R ⊢
  simp only [va_up]
  simpa using R
theorem RepC_thr (R : RepC M s) (v : Int32) : RepC M (va_up s 2200 (fun _ => v)) := R.frame fun c hc => by
  unfold va_up
  rw [if_neg]
  intro e
  subst e
  exact absurd hc (by decide)
theorem Inv_thr (G : Good M) (R : RepC M s) (R2 : RepM M s) (v : Int32) : Inv (va_up s 2200 (fun _ => v)) := ⟨M, G, RepC_thr R v, RepM_thr R2 v⟩
end Rd
theorem thr00 (s : Sg) : F_X6_throwing 0 0 s = some (0, va_up s 2200 (fun _ => 0)) := thr s false false
theorem thr10 (s : Sg) : F_X6_throwing 1 0 s = some (1, va_up s 2200 (fun _ => 1)) := thr s true false
theorem thr01 (s : Sg) : F_X6_throwing 0 1 s = some (1, va_up s 2200 (fun _ => 2)) := thr s false true
theorem b2i_t : b2i true = 1 := rfl
theorem b2i_f : b2i false = 0 := rfl
theorem p_tries : P_tries Inv := by
  rintro s ⟨M, G, R, R2⟩
  refine ⟨s 203 0, (s 2215 0, va_up s 2200 (fun _ => 0)), rfl, rfl, ?_, Inv_thr G R R2 0⟩
  rw [R.2.2.2.2.2.2.2.2.1, R2.2.2.2.2.2.2.1]
theorem p_period : P_period Inv := by
  rintro s ⟨M, G, R, R2⟩ x y
  cases hb : hasB M x y with
  | false =>
    refine Or.inr ⟨(0, va_up s 2200 (fun _ => 1)), ?_, ?_, rfl, Inv_thr G R R2 1⟩
    · unfold F_X5_period
      rw [hasI_C G R, hb]
      simp [b2i]
    · unfold F_X6_period
      rw [hasI_M G R2, hb]
      simp only [jn, Option.bind_some, b2i_f, if_true]
      rw [thr10]
      rfl
  | true =>
    obtain ⟨l, k, hl, hk, rfl, rfl, h16, h4⟩ := hasB_iff G hb
    have hi : 4 * l + k < 64 := by omega
    refine Or.inl ⟨oI (perO (mPl M) (4 * l + k)), (oI (perO (mPl M) (4 * l + k)), va_up s 2200 (fun _ => 0)), ?_, ?_, rfl, rfl, Inv_thr G R R2 0⟩
    · unfold F_X5_period
      rw [hasI_C G R, hb]
      simp only [Option.bind_some, b2i_z, Bool.true_eq_false, if_false]
      rw [itemOf_C]
      simp only [Option.bind_some]
      rw [periodOf_C G R hi]
      rfl
    · unfold F_X6_period
      rw [hasI_M G R2, hb]
      simp only [jn, Option.bind_some, b2i_z, Bool.true_eq_false, if_false]
      rw [thr00]
      simp only [Option.bind_some, if_true]
      rw [show (4 : Int32) = nI 4 from rfl, pk_mul, nI_add, grd_t (ixb_nI hi (by decide)), nI_clamp (by omega), up_ne _ _ (by decide), (R2.2.2.2.1 _ hi).1]
theorem p_roomOf : P_roomOf Inv := by
  rintro s ⟨M, G, R, R2⟩ x y
  cases hb : hasB M x y with
  | false =>
    refine Or.inr ⟨(0, va_up s 2200 (fun _ => 1)), ?_, ?_, rfl, Inv_thr G R R2 1⟩
    · unfold F_X5_roomOf
      rw [hasI_C G R, hb]
      simp [b2i]
    · unfold F_X6_roomOf
      rw [hasI_M G R2, hb]
      simp only [jn, Option.bind_some, b2i_f, if_true]
      rw [thr10]
      rfl
  | true =>
    obtain ⟨l, k, hl, hk, rfl, rfl, h16, h4⟩ := hasB_iff G hb
    have hi : 4 * l + k < 64 := by omega
    refine Or.inl ⟨oI (romO (mPl M) (4 * l + k)), (oI (romO (mPl M) (4 * l + k)), va_up s 2200 (fun _ => 0)), ?_, ?_, rfl, rfl, Inv_thr G R R2 0⟩
    · unfold F_X5_roomOf
      rw [hasI_C G R, hb]
      simp only [Option.bind_some, b2i_z, Bool.true_eq_false, if_false]
      rw [itemOf_C]
      simp only [Option.bind_some]
      rw [roomOf_C G R hi]
      rfl
    · unfold F_X6_roomOf
      rw [hasI_M G R2, hb]
      simp only [jn, Option.bind_some, b2i_z, Bool.true_eq_false, if_false]
      rw [thr00]
      simp only [Option.bind_some, if_true]
      rw [show (4 : Int32) = nI 4 from rfl, pk_mul, nI_add, grd_t (ixb_nI hi (by decide)), nI_clamp (by omega), up_ne _ _ (by decide), (R2.2.2.2.1 _ hi).2]
theorem p_substitute : P_substitute Inv := by
  rintro s ⟨M, G, R, R2⟩ x
  have hc : mCc M ≤ 6 := G.2.2.2.2.2.2.2.1
  have e1 : s 501 0 = nI (mCc M) := R.2.2.2.2.2.2.2.2.2.1
  have e2 : s 2223 0 = nI (mCc M) := R2.2.2.2.2.2.2.2.1
  cases hb : ixb x (mCc M) with
  | false =>
    refine Or.inr ⟨(0, va_up s 2200 (fun _ => 1)), ?_, ?_, rfl, Inv_thr G R R2 1⟩
    · unfold F_X5_substitute
      rw [e1, isW s x (by omega), hb]
      simp [b2i]
    · unfold F_X6_substitute
      rw [e2, inW s x (by omega), hb]
      simp only [jn, Option.bind_some, b2i_f, if_true]
      rw [thr10]
      rfl
  | true =>
    obtain ⟨k, hk, rfl⟩ := (ixb_iff (by omega)).mp hb
    refine Or.inl ⟨oI (mCv M k), (oI (mCv M k), va_up s 2200 (fun _ => 0)), ?_, ?_, rfl, rfl, Inv_thr G R R2 0⟩
    · unfold F_X5_substitute
      rw [e1, isW s _ (by omega), hb]
      simp only [Option.bind_some, b2i_z, Bool.true_eq_false, if_false]
      rw [grd_t (ixb_nI (by omega) (by decide)), nI_clamp (by omega), R.2.2.2.2.2.2.2.2.2.2 k hk]
    · unfold F_X6_substitute
      rw [e2, inW s _ (by omega), hb]
      simp only [jn, Option.bind_some, b2i_z, Bool.true_eq_false, if_false]
      rw [thr00]
      simp only [Option.bind_some, if_true]
      rw [grd_t (ixb_nI (by omega) (by decide)), nI_clamp (by omega), up_ne _ _ (by decide), R2.2.2.2.2.2.2.2.2 k hk]
