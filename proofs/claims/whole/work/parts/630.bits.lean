/-! ===== the class's sets of periods ===== -/
def bm (n p : Nat) : Int32 := if n = 2 then (3 : Int32) <<< (nI p &&& 31) else (1 : Int32) <<< (nI p &&& 31)
theorem bt3 : ∀ i, i < 32 → bt 3 i = decide (i < 2) := by decide +kernel
theorem bt1 : ∀ i, i < 32 → bt 1 i = decide (i < 1) := by decide +kernel
theorem bm_bt {n p : Nat} (hn : n = 1 ∨ n = 2) (hp : p < 31) {q : Nat} (hq : q < 32) : bt (bm n p) q = (decide (p ≤ q) && decide (q < p + n)) := by
  unfold bm
  rcases hn with rfl | rfl
  · rw [if_neg (by decide), b_shl p (by omega) _ hq, bt1 _ (by omega)]
    by_cases h : p ≤ q
    · have : (q - p < 1) ↔ (q < p + 1) := by omega
      simp [h, this]
    · simp [h]
  · rw [if_pos rfl, b_shl p (by omega) _ hq, bt3 _ (by omega)]
    by_cases h : p ≤ q
    · have : (q - p < 2) ↔ (q < p + 2) := by omega
      simp [h, this]
    · simp [h]
theorem zero_iff {x : Int32} : x = 0 ↔ ∀ q, q < 32 → bt x q = false := by
  constructor
  · intro h q _; rw [h]; exact b_0 q
  · intro h; exact b_ext fun i hi => by rw [h i hi, b_0]
/-- a set meets the periods of an item -/
theorem and_bm {n p : Nat} (hn : n = 1 ∨ n = 2) (hp : p < 31) (x : Int32) : (x &&& bm n p) = 0 ↔ ∀ q, p ≤ q → q < p + n → bt x q = false := by
  rw [zero_iff]
  constructor
  · intro h q h1 h2
    have h3 := h q (by omega)
    rw [b_and, bm_bt hn hp (by omega)] at h3
    simpa [h1, h2] using h3
  · intro h q hq
    rw [b_and, bm_bt hn hp hq]
    by_cases h1 : p ≤ q
    · by_cases h2 : q < p + n
      · simp [h q h1 h2]
      · simp [h2]
    · simp [h1]
theorem bit1 {p : Nat} (hp : p < 31) (x : Int32) : (x &&& ((1 : Int32) <<< (nI p &&& 31))) = 0 ↔ bt x p = false := by
  have h := and_bm (n := 1) (Or.inl rfl) hp x
  unfold bm at h
  rw [if_neg (by decide)] at h
  rw [h]
  constructor
  · intro h1; exact h1 p (Nat.le_refl _) (by omega)
  · intro h1 q h2 h3
    have : q = p := by omega
    subst this; exact h1
section Bi
variable {M : MS} {s : Sg}
theorem bitsAt_C (G : Good M) (R : RepC M s) {l p : Nat} (hl : l < mN M) : F_X3_bitsAt (nI l) (nI p) s = some (bm (mLe M l) p) := by
  have hN := good_N G
  have hle := (G.2.1 l hl).2.2.2.2.2.1
  unfold F_X3_bitsAt bm
  rw [grd_t (ixb_nI (by omega) (by decide)), nI_clamp (by omega), (R.2.2.1 l (by omega)).2.2.2.2.1, show (2 : Int32) = nI 2 from rfl]
  simp only [nI_eq (show mLe M l < 2 ^ 31 by omega) (show 2 < 2 ^ 31 by decide)]
  split <;> rfl
theorem bitsOf_C (G : Good M) (R : RepC M s) {i : Nat} (hi : i < 64) : F_X0_bitsOfItem (nI i) s = some (if mPl M i = 0 then 0 else bm (mLe M (i / 4)) ((mPl M i - 1) / 6)) := by
  unfold F_X0_bitsOfItem
  have hp := pl_lt G G.2.2.2.1 hi
  rw [isPlaced_C G R hi]
  by_cases h : mPl M i = 0
  · simp [h, b2i]
  · have hv := G.2.2.2.1.1 i hi h
    simp only [Option.bind_some, b2i_z, h, ne_eq, not_false_eq_true, decide_true, Bool.true_eq_false, if_false]
    rw [lessonOf_C hi]
    simp only [Option.bind_some]
    rw [grd_t (ixb_nI hi (by decide)), nI_clamp (by omega), R.2.2.2.2.1 i hi, oI_ne h, show (6 : Int32) = nI 6 from rfl, pk_div (by omega) (by decide) (by decide), bitsAt_C G R hv.1]
    rfl
theorem bits_cvr (G : Good M) {i p : Nat} (hi : i < 64) (hp : p < 30) : ((if mPl M i = 0 then 0 else bm (mLe M (i / 4)) ((mPl M i - 1) / 6)) &&& ((1 : Int32) <<< (nI p &&& 31))) = 0 ↔ cvr M (mPl M) i p = false := by
  rw [bit1 (by omega)]
  by_cases h : mPl M i = 0
  · simp [h, cvr, b_0]
  · have hv := G.2.2.2.1.1 i hi h
    have hle := (G.2.1 _ hv.1).2.2.2.2.2.1
    have h30 := dp_le G
    rw [if_neg h, bm_bt hle (by omega) (by omega)]
    simp [cvr, h]
theorem isUsed_C (G : Good M) (R : RepC M s) {i u : Nat} (hi : i < 64) (hu : u < 22) (hpl : mPl M i ≠ 0) : F_X0_isUsedBy (nI i) (nI u) s = some (b2i (usz M (mPl M) i u)) := by
  have hl := pl_lt G G.2.2.2.1 hi
  have hv := G.2.2.2.1.1 i hi hpl
  obtain ⟨hf, hse, -, hte, -⟩ := G.2.1 _ hv.1
  have hN := good_N G
  obtain ⟨r1, r2, r3, -⟩ := R.2.2.1 (i / 4) (by omega)
  unfold F_X0_isUsedBy
  rw [lessonOf_C hi]
  simp only [Option.bind_some]
  have h16 : ixb (nI (i / 4)) 16 = true := ixb_nI (by omega) (by decide)
  have c16 : (nI (i / 4)).toNatClampNeg = i / 4 := nI_clamp (by omega)
  rw [c16, grd_t h16, grd_t h16, grd_t h16, r1, r2, r3, roomOf_C G R hi]
  have e31 : oI (romO (mPl M) i) = nI ((mPl M i - 1) % 6) := by simp [romO, hpl, oI]
  simp only [Option.bind_some]
  rw [e31, show (8 : Int32) = nI 8 from rfl, show (16 : Int32) = nI 16 from rfl, nI_add, nI_add]
  have h2 : (nI u = oI (mSe M (i / 4))) ↔ (mSe M (i / 4) = u + 1) := by
    cases hs : mSe M (i / 4) with
    | zero =>
      constructor
      · intro e; exact absurd e (nI_m1 (n := u) (by omega))
      · intro e; cases e
    | succ c =>
      rw [hs] at hse
      show nI u = nI c ↔ _
      rw [nI_eq (by omega) (by omega)]
      omega
  simp only [nI_eq (show u < 2 ^ 31 by omega) (show mFi M (i / 4) < 2 ^ 31 by omega), nI_eq (show u < 2 ^ 31 by omega) (show 8 + mTe M (i / 4) < 2 ^ 31 by omega), nI_eq (show u < 2 ^ 31 by omega) (show 16 + (mPl M i - 1) % 6 < 2 ^ 31 by omega), h2]
  unfold usz
  by_cases a1 : u = mFi M (i / 4)
  · simp [a1, b2i]
  · by_cases a2 : mSe M (i / 4) = u + 1
    · simp [a1, a2, b2i]
    · by_cases a3 : u = 8 + mTe M (i / 4)
      · simp [a1, a2, a3, b2i]
      · by_cases a4 : u = 16 + (mPl M i - 1) % 6
        · simp [a1, a2, a3, a4, b2i]
        · simp [a1, a2, a3, a4, b2i]
theorem letter_loop (G : Good M) (R : RepC M s) {u p : Nat} (hu : u < 22) (hp : p < 30) : ∀ (fu i : Nat), i ≤ 64 → 64 - i < fu → L_X0_letterAt_2 fu (nI u) (nI p) (nI i) s = some (match fnd (fun i => cvr M (mPl M) i p && usz M (mPl M) i u) i (64 - i) with
    | 0 => .inr ()
    | j + 1 => .inl (nI (mSu M (j / 4)))) := by
  intro fu
  induction fu with
  | zero => intro i h1 h2; omega
  | succ fu ih =>
    intro i h1 h2
    rw [L_X0_letterAt_2]
    rcases Nat.lt_or_ge i 64 with h | h
    · rw [if_neg (by rw [show (64 : Int32) = nI 64 from rfl, nI_leI (by decide) (by omega)]; omega), bitsOf_C G R h]
      simp only [Option.bind_some]
      have e1 : 64 - i = (64 - (i + 1)) + 1 := by omega
      have e2 : nI i + 1 = nI (i + 1) := nI_1 i
      have ih2 := ih (i + 1) (by omega) (by omega)
      have hb := bits_cvr G h hp
      rw [e1, fnd]
      cases hc : cvr M (mPl M) i p with
      | false =>
        rw [if_pos (hb.mpr hc)]
        simp only [Bool.false_and, Bool.false_eq_true, if_false, bnd]
        rw [e2, ih2]
      | true =>
        have hpl := cvr_pl hc
        rw [if_neg (fun z => by rw [hb.mp z] at hc; cases hc), isUsed_C G R h hu hpl]
        simp only [Option.bind_some, b2i_z, Bool.true_and]
        cases hz : usz M (mPl M) i u with
        | false =>
          simp only [if_true, Bool.false_eq_true, if_false, bnd]
          rw [e2, ih2]
        | true =>
          have hv := G.2.2.2.1.1 i h hpl
          have hN := good_N G
          simp only [Bool.true_eq_false, if_false, if_true]
          rw [lessonOf_C h]
          simp only [Option.bind_some]
          rw [grd_t (ixb_nI (by omega) (by decide)), nI_clamp (by omega), (R.2.2.1 (i / 4) (by omega)).2.2.2.2.2.2]
    · have : i = 64 := by omega
      subst this
      rw [if_pos (by decide)]
      simp [fnd]
theorem letterAt_C (G : Good M) (R : RepC M s) {u p : Nat} (hu : u < 22) (hp : p < 30) : F_X0_letterAt (nI u) (nI p) s = some (match iAt M (mPl M) u p with
    | 0 => 46
    | j + 1 => nI (mSu M (j / 4))) := by
  unfold F_X0_letterAt iAt
  rw [show (0 : Int32) = nI 0 from rfl, letter_loop G R hu hp FU 0 (by omega) (FU_gt (by omega))]
  cases fnd (fun i => cvr M (mPl M) i p && usz M (mPl M) i u) 0 64 <;> rfl
end Bi
