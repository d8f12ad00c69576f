/-! ===== moving an item to its best period ===== -/
def inb (p n q : Nat) : Bool := decide (p ≤ q) && decide (q < p + n)
def part (M : MS) (g : Nat → Nat) (l p : Nat) : Nat :=
  PU M (8 + mTe M l) (fun q => occ M g (8 + mTe M l) q || inb p (mLe M l) q) + PU M (mFi M l) (fun q => occ M g (mFi M l) q || inb p (mLe M l) q) + (if mSe M l = 0 then 0 else PU M (mSe M l - 1) (fun q => occ M g (mSe M l - 1) q || inb p (mLe M l) q))
def own (M : MS) (l u : Nat) : Bool := decide (u = 8 + mTe M l) || decide (u = mFi M l) || decide (mSe M l = u + 1)
def restP (M : MS) (g : Nat → Nat) (l : Nat) : Nat := sumN (fun u => if own M l u = true then 0 else PU M u (occ M g u)) 16
def mvS (M : MS) (g : Nat → Nat) (l L0 : Nat) : Nat → Nat × Nat
  | 0 => (0, L0)
  | p + 1 => if ruleM M g l p = 0 ∧ part M g l p < (mvS M g l L0 p).2 then (p + 1, part M g l p) else mvS M g l L0 p
def mvB (M : MS) (f : Nat → Nat) (i : Nat) : Nat := (mvS M (va_up f i 0) (i / 4) (part M (va_up f i 0) (i / 4) ((f i - 1) / 6)) (mD M * mP M)).1
def mvR (M : MS) (f : Nat → Nat) (i : Nat) : Nat → Nat := if mvB M f i = 0 then f else va_up f i (6 * (mvB M f i - 1) + freeR M (va_up f i 0) (i / 4) (mvB M f i - 1))
theorem mvS_no {M : MS} {g : Nat → Nat} {l L0 p : Nat} (h : ¬ (ruleM M g l p = 0 ∧ part M g l p < (mvS M g l L0 p).2)) : mvS M g l L0 (p + 1) = mvS M g l L0 p := by rw [mvS, if_neg h]
theorem mvS_yes {M : MS} {g : Nat → Nat} {l L0 p : Nat} (h1 : ruleM M g l p = 0) (h2 : part M g l p < (mvS M g l L0 p).2) : mvS M g l L0 (p + 1) = (p + 1, part M g l p) := by rw [mvS, if_pos ⟨h1, h2⟩]
theorem mvS_up (M : MS) (g h : Nat → Nat) (l L0 : Nat) : ∀ n : Nat, mvS (va_up M 11 g) h l L0 n = mvS M h l L0 n
  | 0 => rfl
  | n + 1 => by
    rw [mvS, mvS, mvS_up M g h l L0 n]
    rfl
theorem own_sum {M : MS} {l : Nat} (hf : mFi M l < 8) (ht : mTe M l < 8) (hs : mSe M l < 9) (hfs : mSe M l ≠ mFi M l + 1) (h : Nat → Nat) : sumN (fun u => if own M l u = true then h u else 0) 16 = h (8 + mTe M l) + h (mFi M l) + (if mSe M l = 0 then 0 else h (mSe M l - 1)) := by
  have e : ∀ u, u < 16 → (if own M l u = true then h u else 0) = ((if u = 8 + mTe M l then h u else 0) + (if u = mFi M l then h u else 0)) + (if mSe M l = 0 then 0 else if u = mSe M l - 1 then h u else 0) := by
    intro u hu
    unfold own
    by_cases h1 : u = 8 + mTe M l
    · rw [if_pos (by simp [h1]), if_pos h1, if_neg (by omega)]
      by_cases h0 : mSe M l = 0
      · rw [if_pos h0]; rfl
      · rw [if_neg h0, if_neg (by omega)]; rfl
    · by_cases h2 : u = mFi M l
      · rw [if_pos (by simp [h2]), if_neg h1, if_pos h2]
        by_cases h0 : mSe M l = 0
        · rw [if_pos h0]; omega
        · rw [if_neg h0, if_neg (by omega)]; omega
      · rw [if_neg h1, if_neg h2]
        by_cases h0 : mSe M l = 0
        · rw [if_neg (by simp [h1, h2]; omega), if_pos h0]
        · by_cases h3 : u = mSe M l - 1
          · rw [if_pos (by simp; omega), if_neg h0, if_pos h3]; omega
          · rw [if_neg (by simp [h1, h2]; omega), if_neg h0, if_neg h3]
  rw [sumN_congr e, sumN_add, sumN_add, sumN_one (by omega), sumN_one (by omega)]
  by_cases h0 : mSe M l = 0
  · simp only [h0, if_true]
    rw [sumN_zero (fun _ _ => rfl)]
  · simp only [h0, if_false]
    rw [sumN_one (by omega)]
theorem pen_put {M : MS} (G : Good M) {g : Nat → Nat} {i p r : Nat} (hi : i < 64) (hl : i / 4 < mN M) (h0 : g i = 0) (hr : r < 6) : pen M (va_up g i (6 * p + r + 1)) = restP M g (i / 4) + part M g (i / 4) p := by
  obtain ⟨a1, a2, a3, a4, -⟩ := G.2.1 _ hl
  have hs := own_sum a1 a4 a2 a3 (fun u => PU M u (fun q => occ M g u q || inb p (mLe M (i / 4)) q))
  unfold part restP pen
  rw [← hs, ← sumN_add]
  refine sumN_congr fun u hu => ?_
  have e1 : (6 * p + r + 1 - 1) / 6 = p := by omega
  have hc : ∀ q, cvr M (va_up g i (6 * p + r + 1)) i q = inb p (mLe M (i / 4)) q := fun q => by
    unfold cvr inb
    rw [up_eq, e1]
    simp
  have hu2 : usz M (va_up g i (6 * p + r + 1)) i u = own M (i / 4) u := by
    unfold usz own
    rw [up_eq, show (6 * p + r + 1 - 1) % 6 = r by omega]
    simp only [beq_d]
    rw [decide_eq_false (show ¬ u = 16 + r by omega)]
    cases decide (u = mFi M (i / 4)) <;> cases decide (mSe M (i / 4) = u + 1) <;> cases decide (u = 8 + mTe M (i / 4)) <;> rfl
  have ho : ∀ q, occ M (va_up g i (6 * p + r + 1)) u q = (occ M g u q || (inb p (mLe M (i / 4)) q && own M (i / 4) u)) := fun q => by
    rw [occ_put hi h0, hc, hu2]
  cases hw : own M (i / 4) u with
  | true =>
    rw [if_pos rfl, if_pos rfl, Nat.zero_add]
    exact PU_congr G fun q _ => by rw [ho q, hw, Bool.and_true]
  | false =>
    rw [if_neg (by decide), if_neg (by decide), Nat.add_zero]
    exact PU_congr G fun q _ => by rw [ho q, hw, Bool.and_false, Bool.or_false]
theorem part_le {M : MS} (G : Good M) (g : Nat → Nat) (l p : Nat) : part M g l p ≤ 378 := by
  unfold part
  have h1 := PU_le G (8 + mTe M l) (fun q => occ M g (8 + mTe M l) q || inb p (mLe M l) q)
  have h2 := PU_le G (mFi M l) (fun q => occ M g (mFi M l) q || inb p (mLe M l) q)
  have h3 := PU_le G (mSe M l - 1) (fun q => occ M g (mSe M l - 1) q || inb p (mLe M l) q)
  split <;> omega
theorem mvS_inv {M : MS} {g : Nat → Nat} {l L0 : Nat} : ∀ n : Nat, ((mvS M g l L0 n).1 = 0 ∧ (mvS M g l L0 n).2 = L0) ∨ ((mvS M g l L0 n).1 ≠ 0 ∧ (mvS M g l L0 n).1 ≤ n ∧ ruleM M g l ((mvS M g l L0 n).1 - 1) = 0 ∧ (mvS M g l L0 n).2 = part M g l ((mvS M g l L0 n).1 - 1) ∧ (mvS M g l L0 n).2 < L0)
  | 0 => Or.inl ⟨rfl, rfl⟩
  | n + 1 => by
    have ih := mvS_inv (M := M) (g := g) (l := l) (L0 := L0) n
    rw [mvS]
    by_cases h : ruleM M g l n = 0 ∧ part M g l n < (mvS M g l L0 n).2
    · rw [if_pos h]
      right
      refine ⟨by show n + 1 ≠ 0; omega, Nat.le_refl _, h.1, rfl, ?_⟩
      rcases ih with ⟨_, h2⟩ | ⟨_, _, _, _, h2⟩
      · show part M g l n < L0; omega
      · show part M g l n < L0; omega
    · rw [if_neg h]
      rcases ih with h2 | ⟨h2, h3, h4⟩
      · exact Or.inl h2
      · exact Or.inr ⟨h2, by omega, h4⟩
theorem mvS_le {M : MS} (G : Good M) {g : Nat → Nat} {l L0 : Nat} (h0 : L0 ≤ 378) (n : Nat) : (mvS M g l L0 n).2 ≤ 378 := by
  rcases mvS_inv (M := M) (g := g) (l := l) (L0 := L0) n with ⟨_, h⟩ | ⟨_, _, _, _, h⟩ <;> omega
section Mv
variable {M : MS} {s : Sg}
theorem PU_or (G : Good M) (R : RepC M s) {u p n : Nat} (hu : u < 22) (hn : n = 1 ∨ n = 2) (hp : p + n ≤ mD M * mP M) : (∀ q, q < 32 → mD M * mP M ≤ q → bt (s 19 u ||| bm n p) q = false) ∧ PU M u (bt (s 19 u ||| bm n p)) = PU M u (fun q => occ M (mPl M) u q || inb p n q) := by
  have h30 := dp_le G
  constructor
  · intro q hq h
    rw [b_or, busy_z G R hu q hq h, bm_bt hn (by omega) hq, Bool.false_or]
    simp; omega
  · refine PU_congr G fun q hq => ?_
    rw [b_or, R.2.2.2.2.2.2.1 u q hu (by omega), bm_bt hn (by omega) (by omega)]
    rfl
theorem part_C (G : Good M) (R : RepC M s) {l p : Nat} (hl : l < mN M) (hp : p + mLe M l ≤ mD M * mP M) : F_X0_partWith (nI l) (nI p) s = some (nI (part M (mPl M) l p)) := by
  have hN := good_N G
  obtain ⟨a1, a2, a3, a4, a5, hle, -⟩ := G.2.1 _ hl
  obtain ⟨r1, r2, r3, -⟩ := R.2.2.1 l (by omega)
  have g16 : ixb (nI l) 16 = true := ixb_nI (by omega) (by decide)
  have c16 : (nI l).toNatClampNeg = l := nI_clamp (by omega)
  have et : (8 : Int32) + nI (mTe M l) = nI (8 + mTe M l) := by rw [show (8 : Int32) = nI 8 from rfl, nI_add]
  have gt : ixb (nI (8 + mTe M l)) 22 = true := ixb_nI (by omega) (by decide)
  have gf : ixb (nI (mFi M l)) 22 = true := ixb_nI (by omega) (by decide)
  have ct : (nI (8 + mTe M l)).toNatClampNeg = 8 + mTe M l := nI_clamp (by omega)
  have cf : (nI (mFi M l)).toNatClampNeg = mFi M l := nI_clamp (by omega)
  obtain ⟨t1, t2⟩ := PU_or G R (u := 8 + mTe M l) (by omega) hle hp
  obtain ⟨f1, f2⟩ := PU_or G R (u := mFi M l) (by omega) hle hp
  have t3 : gpO M (bt (s 19 (8 + mTe M l) ||| bm (mLe M l) p)) + 3 * lsO M (bt (s 19 (8 + mTe M l) ||| bm (mLe M l) p)) = PU M (8 + mTe M l) (fun q => occ M (mPl M) (8 + mTe M l) q || inb p (mLe M l) q) := by
    rw [← t2]; unfold PU; rw [if_neg (by omega)]
  have f3 : 2 * gpO M (bt (s 19 (mFi M l) ||| bm (mLe M l) p)) = PU M (mFi M l) (fun q => occ M (mPl M) (mFi M l) q || inb p (mLe M l) q) := by
    rw [← f2]; unfold PU; rw [if_pos (by omega)]
  unfold F_X0_partWith
  rw [bitsAt_C G R hl]
  simp only [Option.bind_some, bnd, grd_t g16, c16, r1, r2, r3, et, grd_t gt, ct, grd_t gf, cf]
  rw [teach_C G R t1]
  simp only [Option.bind_some]
  rw [class_C G R f1, t3, f3]
  simp only [Option.bind_some]
  unfold part
  by_cases h : mSe M l = 0
  · rw [if_pos (by rw [h]; rfl), if_pos h, nI_add, show (0 : Int32) = nI 0 from rfl, nI_add]
  · obtain ⟨s1, s2⟩ := PU_or G R (u := mSe M l - 1) (by omega) hle hp
    have s3 : 2 * gpO M (bt (s 19 (mSe M l - 1) ||| bm (mLe M l) p)) = PU M (mSe M l - 1) (fun q => occ M (mPl M) (mSe M l - 1) q || inb p (mLe M l) q) := by
      rw [← s2]; unfold PU; rw [if_pos (by omega)]
    rw [if_neg (by rw [oI_m1 (by omega)]; exact h), if_neg h, oI_ne h, grd_t (ixb_nI (by omega) (by decide)), nI_clamp (by omega), class_C G R s1, s3]
    simp only [Option.bind_some]
    rw [nI_add, nI_add]
theorem mvL_C (G : Good M) (R : RepC M s) {i w L0 : Nat} (hi : i < 64) (hl : i / 4 < mN M) (h0 : L0 ≤ 378) (x3 x4 : Int32) : ∀ (fu p : Nat), p ≤ mD M * mP M → mD M * mP M - p < fu → L_X0_moveToBest_40 fu (nI i) (nI (i / 4)) x3 x4 (if (mvS M (mPl M) (i / 4) L0 p).1 = 0 then nI w else nI ((mvS M (mPl M) (i / 4) L0 p).1 - 1)) (nI (mvS M (mPl M) (i / 4) L0 p).2) (nI p) s = some (if (mvS M (mPl M) (i / 4) L0 (mD M * mP M)).1 = 0 then nI w else nI ((mvS M (mPl M) (i / 4) L0 (mD M * mP M)).1 - 1)) := by
  have h30 := dp_le G
  intro fu
  induction fu with
  | zero => intro p h1 h2; omega
  | succ fu ih =>
    intro p h1 h2
    rw [L_X0_moveToBest_40, R.1.2.2.1]
    simp only [nI_leI (show mD M * mP M < 2 ^ 31 by omega) (show p < 2 ^ 31 by omega), bnd]
    by_cases h : mD M * mP M ≤ p
    · have : p = mD M * mP M := by omega
      subst this
      rw [if_pos h]
    · have ih2 := ih (p + 1) (by omega) (by omega)
      have hm := mvS_le G (g := mPl M) (l := i / 4) h0 p
      have hp2 := part_le G (mPl M) (i / 4) p
      have hrl := ruleM_lt (M := M) (f := mPl M) (l := i / 4) (p := p)
      rw [if_neg h, rule_C G R hi hl (by omega)]
      simp only [Option.bind_some]
      rw [nI_1]
      by_cases hr : ruleM M (mPl M) (i / 4) p = 0
      · rw [hr, if_pos (show nI 0 = 0 from rfl), part_C G R hl (fit_le G (by omega) (rule0 hr).1)]
        simp only [Option.bind_some, nI_leI (show (mvS M (mPl M) (i / 4) L0 p).2 < 2 ^ 31 by omega) (show part M (mPl M) (i / 4) p < 2 ^ 31 by omega)]
        by_cases hc : (mvS M (mPl M) (i / 4) L0 p).2 ≤ part M (mPl M) (i / 4) p
        · rw [if_pos hc]
          rw [mvS_no (by omega)] at ih2
          exact ih2
        · rw [if_neg hc]
          rw [mvS_yes hr (by omega), if_neg (show ¬ p + 1 = 0 by omega)] at ih2
          exact ih2
      · rw [if_neg (nI_ne0 (by omega) (by omega))]
        rw [mvS_no (by omega)] at ih2
        exact ih2
theorem up_self (f : Nat → Nat) (i : Nat) {x : Nat} (h : f i = x) : va_up f i x = f := by
  funext j
  by_cases e : j = i
  · subst e; rw [up_eq, h]
  · rw [up_ne _ _ e]
theorem mv_V (G : Good M) {f : Nat → Nat} (V : VP M f) {i : Nat} (hi : i < 64) (hp : f i ≠ 0) (hb : mvB M f i ≠ 0) : ∃ r, freeR M (va_up f i 0) (i / 4) (mvB M f i - 1) = r + 1 ∧ r < 6 ∧ mvB M f i - 1 < mD M * mP M ∧ ruleM M (va_up f i 0) (i / 4) (mvB M f i - 1) = 0 ∧ mvR M f i = va_up f i (6 * (mvB M f i - 1) + r + 1) ∧ VP M (mvR M f i) := by
  obtain ⟨v1, v2, v3, v4⟩ := V.1 i hi hp
  rcases mvS_inv (M := M) (g := va_up f i 0) (l := i / 4) (L0 := part M (va_up f i 0) (i / 4) ((f i - 1) / 6)) (mD M * mP M) with ⟨z, _⟩ | ⟨z1, z2, z3, z4, z5⟩
  · exact absurd z hb
  · have z3' : ruleM M (va_up f i 0) (i / 4) (mvB M f i - 1) = 0 := z3
    have z2' : mvB M f i ≤ mD M * mP M := z2
    have hfr := (rule0 z3').2.2.2.2
    obtain ⟨r, hr⟩ : ∃ r, freeR M (va_up f i 0) (i / 4) (mvB M f i - 1) = r + 1 := ⟨freeR M (va_up f i 0) (i / 4) (mvB M f i - 1) - 1, by omega⟩
    have e : mvR M f i = va_up f i (6 * (mvB M f i - 1) + r + 1) := by
      unfold mvR
      rw [if_neg hb, hr]; rfl
    refine ⟨r, hr, (free_iff hr).1, by omega, z3', e, ?_⟩
    rw [e, ← up_up f i 0]
    exact VP_put G (VP_out V i) hi v1 v2 (by omega) z3' hr
theorem move_C (G : Good M) (R : RepC M s) {i : Nat} (hi : i < 64) (hp : mPl M i ≠ 0) : ∃ t, F_X0_moveToBest (nI i) s = some (b2i (decide (mvB M (mPl M) i ≠ 0)), t) ∧ RepC (va_up M 11 (mvR M (mPl M) i)) t ∧ (∀ c, c ≠ 19 → c ≠ 20 → t c = s c) := by
  have V := G.2.2.2.1
  have h30 := dp_le G
  have h180 := pl_lt G V hi
  obtain ⟨v1, v2, v3, v4⟩ := V.1 i hi hp
  obtain ⟨b, sp, b1, b2⟩ := takeOut_C G R hi hp
  have V2 := VP_out V i
  have G2 := Good_pl G V2
  have hw : (mPl M i - 1) / 6 < 2 ^ 31 := by omega
  have e1 : oI (perO (mPl M) i) = nI ((mPl M i - 1) / 6) := by simp [perO, hp, oI]
  have hL0 : part M (va_up (mPl M) i 0) (i / 4) ((mPl M i - 1) / 6) ≤ 378 := part_le G _ _ _
  have hloop := mvL_C G2 b2 (i := i) (w := (mPl M i - 1) / 6) (L0 := part M (va_up (mPl M) i 0) (i / 4) ((mPl M i - 1) / 6)) hi v1 hL0 (oI (mPl M i)) (nI ((mPl M i - 1) / 6)) FU 0 (by omega) (FU_gt (by show mD M * mP M - 0 < 1000000; omega))
  rw [mvS_up, mvS_up] at hloop
  have hpart := part_C G2 b2 (l := i / 4) (p := (mPl M i - 1) / 6) v1 (fit_le G v3 v4)
  have hstart : F_X0_moveToBest (nI i) s = (if (if mvB M (mPl M) i = 0 then nI ((mPl M i - 1) / 6) else nI (mvB M (mPl M) i - 1)) = nI ((mPl M i - 1) / 6) then
      (F_X0_putAt (nI i) (oI (mPl M i)) (va_up (va_up s 19 b) 20 sp)).bind fun q7 => some (0, q7)
    else (F_X0_lowestRoom (nI (i / 4)) (if mvB M (mPl M) i = 0 then nI ((mPl M i - 1) / 6) else nI (mvB M (mPl M) i - 1)) (va_up (va_up s 19 b) 20 sp)).bind fun q10 =>
      (F_X0_putAt (nI i) (((if mvB M (mPl M) i = 0 then nI ((mPl M i - 1) / 6) else nI (mvB M (mPl M) i - 1)) * (6 : Int32)) + q10) (va_up (va_up s 19 b) 20 sp)).bind fun q12 => some (1, q12)) := by
    unfold F_X0_moveToBest
    simp only [jn, bnd]
    rw [lessonOf_C hi]
    simp only [Option.bind_some]
    rw [grd_t (ixb_nI hi (by decide)), nI_clamp (by omega), R.2.2.2.2.1 i hi, periodOf_C G R hi, e1]
    simp only [Option.bind_some]
    rw [b1]
    simp only [Option.bind_some]
    rw [hpart]
    simp only [Option.bind_some]
    rw [show L_X0_moveToBest_40 FU (nI i) (nI (i / 4)) (oI (mPl M i)) (nI ((mPl M i - 1) / 6)) (nI ((mPl M i - 1) / 6)) (nI (part (va_up M 11 (va_up (mPl M) i 0)) (mPl (va_up M 11 (va_up (mPl M) i 0))) (i / 4) ((mPl M i - 1) / 6))) 0 (va_up (va_up s 19 b) 20 sp) = some (if mvB M (mPl M) i = 0 then nI ((mPl M i - 1) / 6) else nI (mvB M (mPl M) i - 1)) from hloop]
    simp only [Option.bind_some, if_true, one0, if_false, show ((0 : Int32) = 0 ∨ (0 : Int32) = 1) = True from by decide, show ((1 : Int32) = 0 ∨ (1 : Int32) = 1) = True from by decide, grd, true_or, or_true, false_or, or_false]
  by_cases hb : mvB M (mPl M) i = 0
  · obtain ⟨b', sp', p1, p2⟩ := putAt_C G2 b2 (i := i) (v := mPl M i - 1) hi (up_eq _ _ _) v1 (by omega)
    refine ⟨va_up (va_up (va_up (va_up s 19 b) 20 sp) 19 b') 20 sp', ?_, ?_, ?_⟩
    rotate_left
    · have e : mvR M (mPl M) i = mPl M := by unfold mvR; rw [if_pos hb]
      rw [e]
      have e2 : va_up (va_up M 11 (va_up (mPl M) i 0)) 11 (va_up (mPl (va_up M 11 (va_up (mPl M) i 0))) i (mPl M i - 1 + 1)) = va_up M 11 (mPl M) := by
        rw [up_up]
        show va_up M 11 (va_up (va_up (mPl M) i 0) i (mPl M i - 1 + 1)) = _
        rw [up_up, up_self (mPl M) i (by omega)]
      rw [e2] at p2
      exact p2
    · intro c h1 h2
      rw [up_ne _ _ h2, up_ne _ _ h1, up_ne _ _ h2, up_ne _ _ h1]
    · rw [hstart]
      simp only [hb, if_true]
      rw [oI_ne hp, p1]
      rfl
  · obtain ⟨r, r1, r2, r3, r4, r5, r6⟩ := mv_V G V hi hp hb
    have hne : mvB M (mPl M) i - 1 ≠ (mPl M i - 1) / 6 := by
      rcases mvS_inv (M := M) (g := va_up (mPl M) i 0) (l := i / 4) (L0 := part M (va_up (mPl M) i 0) (i / 4) ((mPl M i - 1) / 6)) (mD M * mP M) with ⟨z, _⟩ | ⟨z1, z2, z3, z4, z5⟩
      · exact absurd z hb
      · intro e
        rw [z4] at z5
        have : part M (va_up (mPl M) i 0) (i / 4) (mvB M (mPl M) i - 1) < part M (va_up (mPl M) i 0) (i / 4) ((mPl M i - 1) / 6) := z5
        rw [e] at this
        omega
    obtain ⟨b', sp', p1, p2⟩ := putAt_C G2 b2 (i := i) (v := 6 * (mvB M (mPl M) i - 1) + r) hi (up_eq _ _ _) v1 (by omega)
    refine ⟨va_up (va_up (va_up (va_up s 19 b) 20 sp) 19 b') 20 sp', ?_, ?_, ?_⟩
    rotate_left
    · have e2 : va_up (va_up M 11 (va_up (mPl M) i 0)) 11 (va_up (mPl (va_up M 11 (va_up (mPl M) i 0))) i (6 * (mvB M (mPl M) i - 1) + r + 1)) = va_up M 11 (mvR M (mPl M) i) := by
        rw [up_up, r5]
        show va_up M 11 (va_up (va_up (mPl M) i 0) i _) = _
        rw [up_up]
      rw [e2] at p2
      exact p2
    · intro c h1 h2
      rw [up_ne _ _ h2, up_ne _ _ h1, up_ne _ _ h2, up_ne _ _ h1]
    · rw [hstart]
      simp only [hb, if_false]
      rw [if_neg (by rw [nI_eq (by omega) hw]; exact hne)]
      have hlow := lowest_C G2 b2 (l := i / 4) (p := mvB M (mPl M) i - 1) v1 (fit_le G r3 (rule0 r4).1)
      rw [hlow, show freeR (va_up M 11 (va_up (mPl M) i 0)) (mPl (va_up M 11 (va_up (mPl M) i 0))) (i / 4) (mvB M (mPl M) i - 1) = r + 1 from r1]
      simp only [Option.bind_some]
      rw [show nI (mvB M (mPl M) i - 1) * 6 + oI (r + 1) = nI (6 * (mvB M (mPl M) i - 1) + r) from by rw [show (6 : Int32) = nI 6 from rfl, show oI (r + 1) = nI r from rfl, pk_mul, nI_add, Nat.mul_comm], p1, show decide (mvB M (mPl M) i ≠ 0) = true from by simp [hb]]
      rfl
end Mv
