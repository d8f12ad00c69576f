/-! ===== putting in, taking out ===== -/
def orU (b : Nat → Int32) (u : Nat) (m : Int32) : Nat → Int32 := upd b u (b u ||| m)
def andU (b : Nat → Int32) (u : Nat) (m : Int32) : Nat → Int32 := upd b u (b u &&& m)
theorem bt_orU (b : Nat → Int32) (u : Nat) (m : Int32) (u' q : Nat) : bt (orU b u m u') q = (bt (b u') q || (decide (u' = u) && bt m q)) := by
  unfold orU
  by_cases h : u' = u
  · subst h; rw [pk_us, b_or]; simp
  · rw [pk_un h]; simp [h]
theorem bt_andU (b : Nat → Int32) (u : Nat) (m : Int32) (u' q : Nat) : bt (andU b u m u') q = (bt (b u') q && (!decide (u' = u) || bt m q)) := by
  unfold andU
  by_cases h : u' = u
  · subst h; rw [pk_us, b_and]; simp
  · rw [pk_un h]; simp [h]
theorem up_up {α : Type} (f : Nat → α) (k : Nat) (v w : α) : va_up (va_up f k v) k w = va_up f k w := by
  funext j
  by_cases h : j = k
  · subst h; rw [up_eq, up_eq]
  · rw [up_ne _ _ h, up_ne _ _ h, up_ne _ _ h]
def LesC (M : MS) (s : Sg) : Prop := ∀ l, l < 16 → s 10 l = nI (mFi M l) ∧ s 11 l = oI (mSe M l) ∧ s 12 l = nI (mTe M l) ∧ s 13 l = nI (mKi M l) ∧ s 14 l = nI (mLe M l) ∧ s 15 l = nI (mTi M l) ∧ s 16 l = nI (mSu M l)
theorem bitsAt_L {M : MS} {s : Sg} (G : Good M) (R : LesC M s) {l p : Nat} (hl : l < mN M) : F_X3_bitsAt (nI l) (nI p) s = some (bm (mLe M l) p) := by
  have hN := good_N G
  have hle := (G.2.1 l hl).2.2.2.2.2.1
  unfold F_X3_bitsAt bm
  rw [grd_t (ixb_nI (by omega) (by decide)), nI_clamp (by omega), (R l (by omega)).2.2.2.2.1, show (2 : Int32) = nI 2 from rfl]
  simp only [nI_eq (show mLe M l < 2 ^ 31 by omega) (show 2 < 2 ^ 31 by decide)]
  split <;> rfl
/-- users of item i at spot v -/
def markB (M : MS) (i v : Nat) (b : Nat → Int32) : Nat → Int32 :=
  let m := bm (mLe M (i / 4)) (v / 6)
  let b3 := orU (orU (orU b (16 + v % 6) m) (8 + mTe M (i / 4)) m) (mFi M (i / 4)) m
  if mSe M (i / 4) = 0 then b3 else orU b3 (mSe M (i / 4) - 1) m
def outB (M : MS) (i v : Nat) (b : Nat → Int32) : Nat → Int32 :=
  let m := bm (mLe M (i / 4)) (v / 6) ^^^ (-1)
  let b3 := andU (andU (andU b (16 + v % 6) m) (8 + mTe M (i / 4)) m) (mFi M (i / 4)) m
  if mSe M (i / 4) = 0 then b3 else andU b3 (mSe M (i / 4) - 1) m
theorem beq_d (a b : Nat) : (a == b) = decide (a = b) := by
  by_cases h : a = b <;> simp [h]
theorem bt_markB (M : MS) {i v : Nat} (b : Nat → Int32) {f : Nat → Nat} (hf : f i = v + 1) {u : Nat} (hu : u < 22) (q : Nat) : bt (markB M i v b u) q = (bt (b u) q || (usz M f i u && bt (bm (mLe M (i / 4)) (v / 6)) q)) := by
  unfold markB usz
  rw [hf, Nat.add_sub_cancel]
  by_cases h : mSe M (i / 4) = 0
  · simp only [h, if_true, bt_orU, beq_d]
    have e : decide (0 = u + 1) = false := by simp
    rw [e]
    cases bt (b u) q <;> cases bt (bm (mLe M (i / 4)) (v / 6)) q <;> simp
    cases decide (u = mFi M (i / 4)) <;> cases decide (u = 8 + mTe M (i / 4)) <;> cases decide (u = 16 + v % 6) <;> rfl
  · simp only [h, if_false, bt_orU, beq_d]
    have e : decide (u = mSe M (i / 4) - 1) = decide (mSe M (i / 4) = u + 1) := by
      apply decide_eq_decide.mpr; omega
    rw [e]
    cases bt (b u) q <;> cases bt (bm (mLe M (i / 4)) (v / 6)) q <;> simp
    cases decide (u = mFi M (i / 4)) <;> cases decide (u = 8 + mTe M (i / 4)) <;> cases decide (u = 16 + v % 6) <;> cases decide (mSe M (i / 4) = u + 1) <;> rfl
theorem bt_outB (M : MS) {i v : Nat} (b : Nat → Int32) {f : Nat → Nat} (hf : f i = v + 1) {u : Nat} (hu : u < 22) {q : Nat} (hq : q < 32) : bt (outB M i v b u) q = (bt (b u) q && !(usz M f i u && bt (bm (mLe M (i / 4)) (v / 6)) q)) := by
  unfold outB usz
  rw [hf, Nat.add_sub_cancel]
  by_cases h : mSe M (i / 4) = 0
  · simp only [h, if_true, bt_andU, beq_d, b_xor, b_m1 q hq]
    have e : decide (0 = u + 1) = false := by simp
    rw [e]
    cases bt (b u) q <;> cases bt (bm (mLe M (i / 4)) (v / 6)) q <;> simp
    cases decide (u = mFi M (i / 4)) <;> cases decide (u = 8 + mTe M (i / 4)) <;> cases decide (u = 16 + v % 6) <;> rfl
  · simp only [h, if_false, bt_andU, beq_d, b_xor, b_m1 q hq]
    have e : decide (u = mSe M (i / 4) - 1) = decide (mSe M (i / 4) = u + 1) := by
      apply decide_eq_decide.mpr; omega
    rw [e]
    cases bt (b u) q <;> cases bt (bm (mLe M (i / 4)) (v / 6)) q <;> simp
    cases decide (u = mFi M (i / 4)) <;> cases decide (u = 8 + mTe M (i / 4)) <;> cases decide (u = 16 + v % 6) <;> cases decide (mSe M (i / 4) = u + 1) <;> rfl
section Bo
variable {M : MS} {s : Sg}
theorem mark_C (G : Good M) (R : LesC M s) {i v : Nat} (hi : i < 64) (hl : i / 4 < mN M) (hs : s 20 i = nI v) (hv : v < 180) : F_X0_mark (nI i) s = some (va_up s 19 (markB M i v (s 19))) := by
  have hN := good_N G
  obtain ⟨a1, a2, a3, a4, -⟩ := G.2.1 _ hl
  obtain ⟨r1, r2, r3, -⟩ := R (i / 4) (by omega)
  have g64 := ixb_nI hi (show 64 < 2 ^ 31 by decide)
  have c64 : (nI i).toNatClampNeg = i := nI_clamp (by omega)
  have g16 : ixb (nI (i / 4)) 16 = true := ixb_nI (by omega) (by decide)
  have c16 : (nI (i / 4)).toNatClampNeg = i / 4 := nI_clamp (by omega)
  have hd : nI v / 6 = nI (v / 6) := pk_div (by omega) (by decide) (by decide)
  have hr : nI v - nI (v / 6) * 6 = nI (v % 6) := by rw [← hd]; exact pk_rem (by omega) (by decide) (by decide)
  have er : (16 : Int32) + nI (v % 6) = nI (16 + v % 6) := by rw [show (16 : Int32) = nI 16 from rfl, nI_add]
  have et : (8 : Int32) + nI (mTe M (i / 4)) = nI (8 + mTe M (i / 4)) := by rw [show (8 : Int32) = nI 8 from rfl, nI_add]
  have gr : ixb (nI (16 + v % 6)) 22 = true := ixb_nI (by omega) (by decide)
  have gt : ixb (nI (8 + mTe M (i / 4))) 22 = true := ixb_nI (by omega) (by decide)
  have gf : ixb (nI (mFi M (i / 4))) 22 = true := ixb_nI (by omega) (by decide)
  have cr : (nI (16 + v % 6)).toNatClampNeg = 16 + v % 6 := nI_clamp (by omega)
  have ct : (nI (8 + mTe M (i / 4))).toNatClampNeg = 8 + mTe M (i / 4) := nI_clamp (by omega)
  have cf : (nI (mFi M (i / 4))).toNatClampNeg = mFi M (i / 4) := nI_clamp (by omega)
  unfold F_X0_mark
  rw [lessonOf_C hi]
  simp only [Option.bind_some, bnd, c64, c16, hs, hd, hr, er, grd_t g64, bitsAt_L G R hl, grd_t g16, grd_t gr, cr, up_ne, up_eq, ne_eq, Nat.reduceEqDiff, not_false_eq_true, r3, et, grd_t gt, ct, r1, grd_t gf, cf, r2, up_up]
  unfold markB
  by_cases h : mSe M (i / 4) = 0
  · rw [if_pos (by rw [h]; rfl), if_pos h]; rfl
  · rw [if_neg (by rw [oI_m1 (by omega)]; exact h), if_neg h]
    have e2 : oI (mSe M (i / 4)) = nI (mSe M (i / 4) - 1) := oI_ne h
    have g2 : ixb (nI (mSe M (i / 4) - 1)) 22 = true := ixb_nI (by omega) (by decide)
    have c2 : (nI (mSe M (i / 4) - 1)).toNatClampNeg = mSe M (i / 4) - 1 := nI_clamp (by omega)
    simp only [e2, grd_t g2, c2]
    rfl
theorem takeOut_raw (G : Good M) (R : LesC M s) {i v : Nat} (hi : i < 64) (hl : i / 4 < mN M) (hs : s 20 i = nI v) (hv : v < 180) : F_X0_takeOut (nI i) s = some (va_up (va_up s 19 (outB M i v (s 19))) 20 (upd (s 20) i (-1))) := by
  have hN := good_N G
  obtain ⟨a1, a2, a3, a4, -⟩ := G.2.1 _ hl
  obtain ⟨r1, r2, r3, -⟩ := R (i / 4) (by omega)
  have g64 := ixb_nI hi (show 64 < 2 ^ 31 by decide)
  have c64 : (nI i).toNatClampNeg = i := nI_clamp (by omega)
  have g16 : ixb (nI (i / 4)) 16 = true := ixb_nI (by omega) (by decide)
  have c16 : (nI (i / 4)).toNatClampNeg = i / 4 := nI_clamp (by omega)
  have hd : nI v / 6 = nI (v / 6) := pk_div (by omega) (by decide) (by decide)
  have hr : nI v - nI (v / 6) * 6 = nI (v % 6) := by rw [← hd]; exact pk_rem (by omega) (by decide) (by decide)
  have er : (16 : Int32) + nI (v % 6) = nI (16 + v % 6) := by rw [show (16 : Int32) = nI 16 from rfl, nI_add]
  have et : (8 : Int32) + nI (mTe M (i / 4)) = nI (8 + mTe M (i / 4)) := by rw [show (8 : Int32) = nI 8 from rfl, nI_add]
  have gr : ixb (nI (16 + v % 6)) 22 = true := ixb_nI (by omega) (by decide)
  have gt : ixb (nI (8 + mTe M (i / 4))) 22 = true := ixb_nI (by omega) (by decide)
  have gf : ixb (nI (mFi M (i / 4))) 22 = true := ixb_nI (by omega) (by decide)
  have cr : (nI (16 + v % 6)).toNatClampNeg = 16 + v % 6 := nI_clamp (by omega)
  have ct : (nI (8 + mTe M (i / 4))).toNatClampNeg = 8 + mTe M (i / 4) := nI_clamp (by omega)
  have cf : (nI (mFi M (i / 4))).toNatClampNeg = mFi M (i / 4) := nI_clamp (by omega)
  unfold F_X0_takeOut
  rw [lessonOf_C hi]
  simp only [Option.bind_some, bnd, c64, c16, hs, hd, hr, er, grd_t g64, bitsAt_L G R hl, grd_t g16, grd_t gr, cr, up_ne, up_eq, ne_eq, Nat.reduceEqDiff, not_false_eq_true, r3, et, grd_t gt, ct, r1, grd_t gf, cf, r2, up_up]
  unfold outB
  by_cases h : mSe M (i / 4) = 0
  · rw [if_pos (by rw [h]; rfl), if_pos h]; rfl
  · rw [if_neg (by rw [oI_m1 (by omega)]; exact h), if_neg h]
    have e2 : oI (mSe M (i / 4)) = nI (mSe M (i / 4) - 1) := oI_ne h
    have g2 : ixb (nI (mSe M (i / 4) - 1)) 22 = true := ixb_nI (by omega) (by decide)
    have c2 : (nI (mSe M (i / 4) - 1)).toNatClampNeg = mSe M (i / 4) - 1 := nI_clamp (by omega)
    simp only [e2, grd_t g2, c2]
    rfl
theorem bm_cvr (G : Good M) {f : Nat → Nat} {i v : Nat} (hf : f i = v + 1) (hl : i / 4 < mN M) (hv : v < 180) {q : Nat} (hq : q < 32) : bt (bm (mLe M (i / 4)) (v / 6)) q = cvr M f i q := by
  have hle := (G.2.1 _ hl).2.2.2.2.2.1
  rw [bm_bt hle (by omega) hq]
  unfold cvr
  rw [hf]
  simp
theorem cvr_up_ne {f : Nat → Nat} {i j x p : Nat} (h : j ≠ i) : cvr M (va_up f i x) j p = cvr M f j p := by
  unfold cvr; rw [up_ne _ _ h]
theorem usz_up_ne {f : Nat → Nat} {i j x u : Nat} (h : j ≠ i) : usz M (va_up f i x) j u = usz M f j u := by
  unfold usz; rw [up_ne _ _ h]
theorem occ_put {f : Nat → Nat} {i x u p : Nat} (hi : i < 64) (h0 : f i = 0) : occ M (va_up f i x) u p = (occ M f u p || (cvr M (va_up f i x) i p && usz M (va_up f i x) i u)) := by
  apply Bool.eq_iff_iff.mpr
  rw [Bool.or_eq_true]
  unfold occ
  rw [anyb_iff, anyb_iff]
  constructor
  · rintro ⟨j, hj, h⟩
    by_cases e : j = i
    · subst e; exact Or.inr h
    · rw [cvr_up_ne e, usz_up_ne e] at h
      exact Or.inl ⟨j, hj, h⟩
  · rintro (⟨j, hj, h⟩ | h)
    · by_cases e : j = i
      · subst e
        rw [Bool.and_eq_true] at h
        exact absurd h0 (cvr_pl h.1)
      · exact ⟨j, hj, by rw [cvr_up_ne e, usz_up_ne e]; exact h⟩
    · exact ⟨i, hi, h⟩
theorem occ_out {f : Nat → Nat} (V : VP M f) {i u p : Nat} (hi : i < 64) (hu : u < 22) : occ M (va_up f i 0) u p = (occ M f u p && !(cvr M f i p && usz M f i u)) := by
  apply Bool.eq_iff_iff.mpr
  rw [Bool.and_eq_true]
  unfold occ
  rw [anyb_iff, anyb_iff]
  constructor
  · rintro ⟨j, hj, h⟩
    by_cases e : j = i
    · subst e
      rw [Bool.and_eq_true] at h
      exact absurd (up_eq f j 0) (cvr_pl h.1)
    · rw [cvr_up_ne e, usz_up_ne e] at h
      refine ⟨⟨j, hj, h⟩, ?_⟩
      cases hh : (cvr M f i p && usz M f i u) with
      | false => rfl
      | true =>
        rw [Bool.and_eq_true] at h hh
        exact absurd (V.2 j i u p hj hi hu h.1 hh.1 h.2 hh.2) e
  · rintro ⟨⟨j, hj, h⟩, h2⟩
    refine ⟨j, hj, ?_⟩
    have e : j ≠ i := fun e => by
      subst e; rw [h] at h2; cases h2
    rw [cvr_up_ne e, usz_up_ne e]; exact h
theorem VP_out {f : Nat → Nat} (V : VP M f) (i : Nat) : VP M (va_up f i 0) := by
  have key : ∀ j, va_up f i 0 j ≠ 0 → j ≠ i := fun j h e => h (by rw [e, up_eq])
  constructor
  · intro j hj h
    have e := key j h
    rw [up_ne _ _ e] at h ⊢
    exact V.1 j hj h
  · intro j k u p hj hk hu h1 h2 h3 h4
    have e1 := key j (cvr_pl h1)
    have e2 := key k (cvr_pl h2)
    rw [cvr_up_ne e1] at h1
    rw [cvr_up_ne e2] at h2
    rw [usz_up_ne e1] at h3
    rw [usz_up_ne e2] at h4
    exact V.2 j k u p hj hk hu h1 h2 h3 h4
theorem Good_pl (G : Good M) {f : Nat → Nat} (V : VP M f) : Good (va_up M 11 f) := ⟨G.1, G.2.1, G.2.2.1, V, G.2.2.2.2⟩
theorem pl_up (M : MS) (f : Nat → Nat) : mPl (va_up M 11 f) = f := rfl
theorem pl_up2 (M : MS) (f g : Nat → Nat) : va_up (va_up M 11 f) 11 g = va_up M 11 g := up_up M 11 f g
theorem pl_self (M : MS) : va_up M 11 (mPl M) = M := by
  funext k
  by_cases h : k = 11
  · subst h; rw [up_eq]; rfl
  · rw [up_ne _ _ h]
theorem RepC_pl (R : RepC M s) {f : Nat → Nat} {b sp : Nat → Int32} (hb : ∀ u p, u < 22 → p < 32 → bt (b u) p = occ M f u p) (hs : ∀ i, i < 64 → sp i = oI (f i)) : RepC (va_up M 11 f) (va_up (va_up s 19 b) 20 sp) :=
  ⟨R.1, R.2.1, R.2.2.1, R.2.2.2.1, hs, R.2.2.2.2.2.1, hb, R.2.2.2.2.2.2.2⟩
theorem RepM_pl (R : RepM M s) {f : Nat → Nat} {a b : Nat → Int32} (hs : ∀ i, i < 64 → a i = oI (perO f i) ∧ b i = oI (romO f i)) : RepM (va_up M 11 f) (va_up (va_up s 30 a) 31 b) :=
  ⟨R.1, R.2.1, R.2.2.1, hs, R.2.2.2.2⟩
theorem takeOut_C (G : Good M) (R : RepC M s) {i : Nat} (hi : i < 64) (hp : mPl M i ≠ 0) : ∃ b sp, F_X0_takeOut (nI i) s = some (va_up (va_up s 19 b) 20 sp) ∧ RepC (va_up M 11 (va_up (mPl M) i 0)) (va_up (va_up s 19 b) 20 sp) := by
  have V := G.2.2.2.1
  have hl := (V.1 i hi hp).1
  have h180 := pl_lt G V hi
  have hf : mPl M i = (mPl M i - 1) + 1 := by omega
  refine ⟨_, _, takeOut_raw G R.2.2.1 hi hl (v := mPl M i - 1) ?_ (by omega), RepC_pl R ?_ ?_⟩
  · rw [R.2.2.2.2.1 i hi, oI_ne hp]
  · intro u p hu hq
    rw [bt_outB M (s 19) hf hu hq, R.2.2.2.2.2.2.1 u p hu hq, bm_cvr G hf hl (by omega) hq, occ_out V hi hu, Bool.and_comm (usz _ _ _ _)]
  · intro j hj
    by_cases e : j = i
    · subst e; rw [pk_us, up_eq]; rfl
    · rw [pk_un e, up_ne _ _ e]; exact R.2.2.2.2.1 j hj
theorem putAt_C (G : Good M) (R : RepC M s) {i v : Nat} (hi : i < 64) (hp : mPl M i = 0) (hl : i / 4 < mN M) (hv : v < 180) : ∃ b sp, F_X0_putAt (nI i) (nI v) s = some (va_up (va_up s 19 b) 20 sp) ∧ RepC (va_up M 11 (va_up (mPl M) i (v + 1))) (va_up (va_up s 19 b) 20 sp) := by
  have hf : va_up (mPl M) i (v + 1) i = v + 1 := up_eq _ _ _
  refine ⟨markB M i v (s 19), upd (s 20) i (nI v), ?_, RepC_pl R ?_ ?_⟩
  · unfold F_X0_putAt
    rw [grd_t (ixb_nI hi (by decide)), nI_clamp (by omega)]
    simp only [bnd]
    rw [mark_C (s := va_up s 20 (upd (s 20) i (nI v))) G R.2.2.1 hi hl (show upd (s 20) i (nI v) i = nI v from pk_us) hv]
    simp only [Option.bind_some]
    congr 1
    funext c
    by_cases h1 : c = 19
    · subst h1
      rw [up_eq, up_ne _ _ (by decide), up_ne _ _ (by decide), up_eq]
    · rw [up_ne _ _ h1]
      by_cases h2 : c = 20
      · subst h2; rw [up_eq, up_eq]
      · rw [up_ne _ _ h2, up_ne _ _ h2, up_ne _ _ h1]
  · intro u p hu hq
    rw [bt_markB M (s 19) hf hu p, R.2.2.2.2.2.2.1 u p hu hq, bm_cvr G hf hl hv hq, occ_put hi hp, Bool.and_comm (usz _ _ _ _)]
  · intro j hj
    by_cases e : j = i
    · subst e; rw [pk_us, up_eq]; rfl
    · rw [pk_un e, up_ne _ _ e]; exact R.2.2.2.2.1 j hj
theorem out_M (R : RepM M s) {i : Nat} (hi : i < 64) : ∃ a b, F_X6_out (nI i) s = some (va_up (va_up s 30 a) 31 b) ∧ RepM (va_up M 11 (va_up (mPl M) i 0)) (va_up (va_up s 30 a) 31 b) := by
  refine ⟨upd (s 30) i (-1), upd (s 31) i (-1), ?_, RepM_pl R ?_⟩
  · unfold F_X6_out
    rw [grd_t (ixb_nI hi (by decide)), nI_clamp (by omega)]
    simp only [bnd]
    rw [grd_t (ixb_nI hi (by decide))]
    rfl
  · intro j hj
    by_cases e : j = i
    · subst e; rw [pk_us, pk_us]; unfold perO romO; rw [up_eq]; exact ⟨rfl, rfl⟩
    · rw [pk_un e, pk_un e]; unfold perO romO; rw [up_ne _ _ e]; exact R.2.2.2.1 j hj
theorem set_M (R : RepM M s) {i p r : Nat} (hi : i < 64) (hr : r < 6) : RepM (va_up M 11 (va_up (mPl M) i (6 * p + r + 1))) (va_up (va_up s 30 (upd (s 30) i (nI p))) 31 (upd (s 31) i (nI r))) := by
  refine RepM_pl R ?_
  intro j hj
  by_cases e : j = i
  · subst e
    rw [pk_us, pk_us]; unfold perO romO; rw [up_eq, if_neg (by omega), if_neg (by omega), show (6 * p + r + 1 - 1) / 6 = p by omega, show (6 * p + r + 1 - 1) % 6 = r by omega]; exact ⟨rfl, rfl⟩
  · rw [pk_un e, pk_un e]; unfold perO romO; rw [up_ne _ _ e]; exact R.2.2.2.1 j hj
end Bo
