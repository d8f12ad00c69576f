/-! rows on bits: out of the kit's rows to paste; behind them own rows -/
def bt (x : Int32) (i : Nat) : Bool := x.toBitVec.getLsbD i
theorem b_ext {x y : Int32} (h : ∀ i, i < 32 → bt x i = bt y i) : x = y := Int32.toBitVec_inj.mp (BitVec.eq_of_getLsbD_eq (fun i hi => h i hi))
theorem b_or (x y : Int32) (i : Nat) : bt (x ||| y) i = (bt x i || bt y i) := by unfold bt; rw [Int32.toBitVec_or, BitVec.getLsbD_or]
theorem b_and (x y : Int32) (i : Nat) : bt (x &&& y) i = (bt x i && bt y i) := by unfold bt; rw [Int32.toBitVec_and, BitVec.getLsbD_and]
theorem b_xor (x y : Int32) (i : Nat) : bt (x ^^^ y) i = (bt x i ^^ bt y i) := by unfold bt; rw [Int32.toBitVec_xor, BitVec.getLsbD_xor]
theorem b_big {x : Int32} {i : Nat} (h : 32 ≤ i) : bt x i = false := BitVec.getLsbD_of_ge _ _ h
theorem b_255 (i : Nat) : bt 255 i = decide (i < 8) := by
  rcases Nat.lt_or_ge i 32 with h | h
  · exact (by decide +kernel : ∀ i, i < 32 → bt 255 i = decide (i < 8)) i h
  · rw [b_big h, decide_eq_false (by omega)]
theorem b_65535 (i : Nat) : bt 65535 i = decide (i < 16) := by
  rcases Nat.lt_or_ge i 32 with h | h
  · exact (by decide +kernel : ∀ i, i < 32 → bt 65535 i = decide (i < 16)) i h
  · rw [b_big h, decide_eq_false (by omega)]
theorem b_m1 : ∀ i, i < 32 → bt (-1) i = true := by decide +kernel
theorem b_0 (i : Nat) : bt 0 i = false := BitVec.getLsbD_zero
theorem s_l : ∀ n, n < 32 → ((nI n &&& 31).toBitVec.smod 32).toNat = n := by decide +kernel
theorem s_u : ∀ n, n < 32 → (((nI n).toUInt32 &&& Int32.toUInt32 31).toBitVec % 32).toNat = n := by decide +kernel
theorem b_shl (n : Nat) (hn : n < 32) (x : Int32) {i : Nat} (hi : i < 32) : bt (x <<< (nI n &&& 31)) i = (decide (n ≤ i) && bt x (i - n)) := by
  unfold bt
  rw [Int32.toBitVec_shiftLeft]
  show (x.toBitVec <<< ((nI n &&& 31).toBitVec.smod 32).toNat).getLsbD i = _
  rw [s_l n hn, BitVec.getLsbD_shiftLeft]
  rcases Nat.lt_or_ge i n with h | h
  · simp [h, Nat.not_le.mpr h]
  · simp [hi, h, Nat.not_lt.mpr h]
theorem b_ushr (n : Nat) (hn : n < 32) (x : Int32) (i : Nat) : bt ((x.toUInt32 >>> ((nI n).toUInt32 &&& Int32.toUInt32 31)).toInt32) i = bt x (n + i) := by
  show (x.toUInt32 >>> ((nI n).toUInt32 &&& Int32.toUInt32 31)).toBitVec.getLsbD i = x.toUInt32.toBitVec.getLsbD (n + i)
  rw [UInt32.toBitVec_shiftRight]
  show (x.toUInt32.toBitVec >>> (((nI n).toUInt32 &&& Int32.toUInt32 31).toBitVec % 32).toNat).getLsbD i = _
  rw [s_u n hn, BitVec.getLsbD_ushiftRight]
theorem b_sshr (n : Nat) (hn : n < 32) (x : Int32) {i : Nat} (hi : i < 32) : bt (x >>> (nI n &&& 31)) i = if n + i < 32 then bt x (n + i) else bt x 31 := by
  unfold bt
  rw [Int32.toBitVec_shiftRight]
  show (x.toBitVec.sshiftRight ((nI n &&& 31).toBitVec.smod 32).toNat).getLsbD i = _
  rw [s_l n hn, BitVec.getLsbD_sshiftRight, BitVec.msb_eq_getLsbD_last]
  simp [hi]
theorem b_shl8 (x : Int32) {i : Nat} (hi : i < 32) : bt (x <<< ((8 : Int32) &&& 31)) i = (decide (8 ≤ i) && bt x (i - 8)) := b_shl 8 (by omega) x hi
theorem b_shl16 (x : Int32) {i : Nat} (hi : i < 32) : bt (x <<< ((16 : Int32) &&& 31)) i = (decide (16 ≤ i) && bt x (i - 16)) := b_shl 16 (by omega) x hi
theorem b_shl24 (x : Int32) {i : Nat} (hi : i < 32) : bt (x <<< ((24 : Int32) &&& 31)) i = (decide (24 ≤ i) && bt x (i - 24)) := b_shl 24 (by omega) x hi
theorem b_sshr8 (x : Int32) {i : Nat} (hi : i < 32) : bt (x >>> ((8 : Int32) &&& 31)) i = if 8 + i < 32 then bt x (8 + i) else bt x 31 := b_sshr 8 (by omega) x hi
/-! ===== numbers ===== -/
theorem i32n (n : Nat) : (OfNat.ofNat n : Int32) = nI n := rfl
theorem ixb_nI {i n : Nat} (h : i < n) (hn : n < 2 ^ 31) : ixb (nI i) n = true := by
  simp only [ixb, Bool.and_eq_true, decide_eq_true_eq]
  exact ⟨nI_pos' (by omega), by rw [nI_clamp (by omega)]; exact h⟩
theorem ixb_iff {x : Int32} {n : Nat} (hn : n < 2 ^ 31) : ixb x n = true ↔ ∃ j, j < n ∧ x = nI j := by
  constructor
  · intro h
    obtain ⟨j, h1, h2⟩ := vp_in_of (ixb_in h) hn
    exact ⟨j, h1, h2⟩
  · rintro ⟨j, h1, rfl⟩
    exact ixb_nI h1 hn
theorem ixb_no {i n : Nat} (h : n ≤ i) (hi : i < 2 ^ 31) : ixb (nI i) n = false := by
  cases hh : ixb (nI i) n with
  | false => rfl
  | true =>
    simp only [ixb, Bool.and_eq_true, decide_eq_true_eq] at hh
    rw [nI_clamp hi] at hh
    omega
theorem ixb_neg {x : Int32} {n : Nat} (h : x < 0) : ixb x n = false := by
  cases hh : ixb x n with
  | false => rfl
  | true =>
    simp only [ixb, Bool.and_eq_true, decide_eq_true_eq] at hh
    exact absurd h (Int32.not_lt.mpr hh.1)
theorem nI_m1 {n : Nat} (h : n < 2 ^ 31) : ¬ nI n = -1 := fun e => nI_pos h (by rw [e]; decide)
theorem m1_lt : ((-1 : Int32) < 0) = True := by decide
theorem nI_sub1 (n : Nat) (hn : n < 2 ^ 31) : (nI n - 1).toInt = (n : Int) - 1 := by
  rcases Nat.eq_zero_or_pos n with h | h
  · subst h; decide
  · rw [show (1 : Int32) = nI 1 from rfl, pk_sub (by omega), nI_toInt (by omega)]; omega
/-- x within 0 .. n - 1 -/
theorem in_iff {x : Int32} {n : Nat} (hn : n < 2 ^ 31) : (¬ x < 0 ∧ ¬ (nI n - 1) < x) ↔ ixb x n = true := by
  rw [ixb_iff hn]
  constructor
  · rintro ⟨h1, h2⟩
    obtain ⟨j, hj, rfl⟩ := nI_of h1
    refine ⟨j, ?_, rfl⟩
    have h3 : ¬ (nI n - 1).toInt < (nI j).toInt := fun z => h2 (Int32.lt_iff_toInt_lt.mpr z)
    rw [nI_sub1 n hn, nI_toInt hj] at h3
    omega
  · rintro ⟨j, hj, rfl⟩
    refine ⟨nI_pos (by omega), fun z => ?_⟩
    have h3 := Int32.lt_iff_toInt_lt.mp z
    rw [nI_sub1 n hn, nI_toInt (by omega)] at h3
    omega
def b2i (b : Bool) : Int32 := if b = true then 1 else 0
theorem b2i_z (b : Bool) : (b2i b = 0) = (b = false) := by cases b <;> simp [b2i]
theorem isW (s : Sg) (x : Int32) {n : Nat} (hn : n < 2 ^ 31) : F_X5_isWithin x 0 (nI n - 1) s = some (b2i (ixb x n)) := by
  unfold F_X5_isWithin
  have h := in_iff (x := x) hn
  cases hb : ixb x n with
  | true =>
    obtain ⟨h1, h2⟩ := h.mpr hb
    simp [h1, h2, b2i]
  | false =>
    by_cases h1 : x < 0
    · simp [h1, b2i]
    · have h2 : (nI n - 1) < x := by
        refine Classical.byContradiction fun z => ?_
        have := h.mp ⟨h1, z⟩
        rw [hb] at this; cases this
      simp [h1, h2, b2i]
theorem inW (s : Sg) (x : Int32) {n : Nat} (hn : n < 2 ^ 31) : F_X6_in x 0 (nI n - 1) s = some (b2i (ixb x n)) := by
  have h := isW s x hn
  unfold F_X5_isWithin at h
  unfold F_X6_in
  exact h
theorem thr (s : Sg) (a b : Bool) : F_X6_throwing (b2i a) (b2i b) s = some (b2i (a || b), va_up s 2200 (fun _ => if a = true then 1 else if b = true then 2 else 0)) := by
  cases a <;> cases b <;> simp [F_X6_throwing, b2i, bnd, va_up] <;> rfl
theorem up_eq {α : Type} (f : Nat → α) (k : Nat) (v : α) : va_up f k v k = v := by simp [va_up]
theorem up_ne {α : Type} (f : Nat → α) {k j : Nat} (v : α) (h : j ≠ k) : va_up f k v j = f j := by simp [va_up, h]
