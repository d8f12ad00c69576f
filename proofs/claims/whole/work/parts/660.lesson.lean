/-! ===== lesson ===== -/
def addL (M : MS) (a b c d e f g : Nat) : MS := fun k =>
  if k = 2 then fun _ => mN M + 1 else if k = 3 then va_up (M 3) (mN M) a else if k = 4 then va_up (M 4) (mN M) b else if k = 5 then va_up (M 5) (mN M) c else if k = 6 then va_up (M 6) (mN M) d
  else if k = 7 then va_up (M 7) (mN M) e else if k = 8 then va_up (M 8) (mN M) f else if k = 9 then va_up (M 9) (mN M) g else M k
section Ad
variable {M : MS} {s : Sg} {a b c d e f g : Nat}
theorem cvr_add {h : Nat → Nat} (V : VP M h) {i p : Nat} (hi : i < 64) : cvr (addL M a b c d e f g) h i p = cvr M h i p := by
  by_cases hp : h i = 0
  · simp [cvr, hp]
  · have hv := (V.1 i hi hp).1
    have : mLe (addL M a b c d e f g) (i / 4) = mLe M (i / 4) := up_ne (M 7) e (by omega)
    unfold cvr
    rw [this]
theorem usz_add {h : Nat → Nat} (V : VP M h) {i u : Nat} (hi : i < 64) (hp : h i ≠ 0) : usz (addL M a b c d e f g) h i u = usz M h i u := by
  have hv := (V.1 i hi hp).1
  have h1 : mFi (addL M a b c d e f g) (i / 4) = mFi M (i / 4) := up_ne (M 3) a (by omega)
  have h2 : mSe (addL M a b c d e f g) (i / 4) = mSe M (i / 4) := up_ne (M 4) b (by omega)
  have h3 : mTe (addL M a b c d e f g) (i / 4) = mTe M (i / 4) := up_ne (M 5) c (by omega)
  unfold usz
  rw [h1, h2, h3]
theorem anyb_congr {f g : Nat → Bool} : ∀ {n : Nat}, (∀ i, i < n → f i = g i) → anyb f n = anyb g n
  | 0, _ => rfl
  | n + 1, h => by rw [anyb, anyb, anyb_congr (fun i hi => h i (by omega)), h n (by omega)]
theorem occ_add {h : Nat → Nat} (V : VP M h) {u p : Nat} : occ (addL M a b c d e f g) h u p = occ M h u p := by
  unfold occ
  refine anyb_congr fun i hi => ?_
  rw [cvr_add V hi]
  cases hc : cvr M h i p with
  | false => rfl
  | true => rw [usz_add V hi (cvr_pl hc)]
theorem VP_add {h : Nat → Nat} (V : VP M h) : VP (addL M a b c d e f g) h := by
  constructor
  · intro i hi hp
    obtain ⟨v1, v2, v3, v4⟩ := V.1 i hi hp
    refine ⟨?_, ?_, v3, ?_⟩
    · show i / 4 < mN M + 1
      omega
    · show i % 4 < va_up (M 8) (mN M) f (i / 4)
      rw [up_ne _ _ (by omega)]; exact v2
    · show (h i - 1) / 6 % mP M + va_up (M 7) (mN M) e (i / 4) ≤ mP M
      rw [up_ne _ _ (by omega)]; exact v4
  · intro i j u p hi hj hu h1 h2 h3 h4
    rw [cvr_add V hi] at h1
    rw [cvr_add V hj] at h2
    rw [usz_add V hi (cvr_pl h1)] at h3
    rw [usz_add V hj (cvr_pl h2)] at h4
    exact V.2 i j u p hi hj hu h1 h2 h3 h4
theorem Good_add (G : Good M) (hn : mN M < 16) (hnew : a < 8 ∧ b < 9 ∧ b ≠ a + 1 ∧ c < 8 ∧ d < 3 ∧ (e = 1 ∨ e = 2) ∧ 1 ≤ f ∧ f ≤ 4 ∧ g < 127) : Good (addL M a b c d e f g) := by
  refine ⟨⟨G.1.1, G.1.2.1, G.1.2.2.1, G.1.2.2.2.1, hn⟩, ?_, G.2.2.1, VP_add G.2.2.2.1, G.2.2.2.2.1, fun j hj => VP_add (G.2.2.2.2.2.1 j hj), G.2.2.2.2.2.2⟩
  intro l hl
  have hl2 : l < mN M + 1 := hl
  show va_up (M 3) (mN M) a l < 8 ∧ va_up (M 4) (mN M) b l < 9 ∧ va_up (M 4) (mN M) b l ≠ va_up (M 3) (mN M) a l + 1 ∧ va_up (M 5) (mN M) c l < 8 ∧ va_up (M 6) (mN M) d l < 3 ∧ (va_up (M 7) (mN M) e l = 1 ∨ va_up (M 7) (mN M) e l = 2) ∧ 1 ≤ va_up (M 8) (mN M) f l ∧ va_up (M 8) (mN M) f l ≤ 4 ∧ va_up (M 9) (mN M) g l < 127
  by_cases h : l = mN M
  · subst h
    simp only [up_eq]
    exact hnew
  · simp only [up_ne _ _ h]
    exact G.2.1 l (by omega)
theorem RepC_add (G : Good M) (R : RepC M s) {t : Sg} (h10 : t 10 = upd (s 10) (mN M) (nI a)) (h11 : t 11 = upd (s 11) (mN M) (oI b)) (h12 : t 12 = upd (s 12) (mN M) (nI c)) (h13 : t 13 = upd (s 13) (mN M) (nI d)) (h14 : t 14 = upd (s 14) (mN M) (nI e)) (h15 : t 15 = upd (s 15) (mN M) (nI f)) (h16 : t 16 = upd (s 16) (mN M) (nI g)) (h1007 : t 1007 0 = nI (mN M + 1))
    (hfr : t 900 = s 900 ∧ t 901 = s 901 ∧ t 902 = s 902 ∧ t 903 = s 903 ∧ t 904 = s 904 ∧ t 17 = s 17 ∧ t 20 = s 20 ∧ t 18 = s 18 ∧ t 19 = s 19 ∧ t 701 = s 701 ∧ t 702 = s 702 ∧ t 7 = s 7 ∧ t 203 = s 203 ∧ t 501 = s 501 ∧ t 5 = s 5) : RepC (addL M a b c d e f g) t := by
  obtain ⟨f1, f2, f3, f4, f5, f6, f7, f8, f9, f10, f11, f12, f13, f14, f15⟩ := hfr
  unfold RepC
  rw [f1, f2, f3, f4, f5, f6, f7, f8, f9, f10, f11, f12, f13, f14, f15, h10, h11, h12, h13, h14, h15, h16, h1007]
  refine ⟨⟨R.1.1, R.1.2.1, R.1.2.2.1, rfl⟩, R.2.1, ?_, R.2.2.2.1, R.2.2.2.2.1, R.2.2.2.2.2.1, ?_, R.2.2.2.2.2.2.2⟩
  · intro l hl
    show upd (s 10) (mN M) (nI a) l = nI (va_up (M 3) (mN M) a l) ∧ upd (s 11) (mN M) (oI b) l = oI (va_up (M 4) (mN M) b l) ∧ upd (s 12) (mN M) (nI c) l = nI (va_up (M 5) (mN M) c l) ∧ upd (s 13) (mN M) (nI d) l = nI (va_up (M 6) (mN M) d l) ∧ upd (s 14) (mN M) (nI e) l = nI (va_up (M 7) (mN M) e l) ∧ upd (s 15) (mN M) (nI f) l = nI (va_up (M 8) (mN M) f l) ∧ upd (s 16) (mN M) (nI g) l = nI (va_up (M 9) (mN M) g l)
    by_cases h : l = mN M
    · subst h
      simp only [up_eq, pk_us, and_self]
    · simp only [up_ne _ _ h, pk_un h]
      exact R.2.2.1 l hl
  · intro u p hu hp
    rw [show mPl (addL M a b c d e f g) = mPl M from rfl, occ_add G.2.2.2.1]
    exact R.2.2.2.2.2.2.1 u p hu hp
theorem RepM_add (R : RepM M s) {t : Sg} (h10 : t 23 = upd (s 23) (mN M) (nI a)) (h11 : t 24 = upd (s 24) (mN M) (oI b)) (h12 : t 25 = upd (s 25) (mN M) (nI c)) (h13 : t 26 = upd (s 26) (mN M) (nI d)) (h14 : t 27 = upd (s 27) (mN M) (nI e)) (h15 : t 28 = upd (s 28) (mN M) (nI f)) (h16 : t 29 = upd (s 29) (mN M) (nI g)) (h1007 : t 2204 0 = nI (mN M + 1))
    (hfr : t 2201 = s 2201 ∧ t 2202 = s 2202 ∧ t 22 = s 22 ∧ t 30 = s 30 ∧ t 31 = s 31 ∧ t 32 = s 32 ∧ t 2221 = s 2221 ∧ t 36 = s 36 ∧ t 37 = s 37 ∧ t 2215 = s 2215 ∧ t 2223 = s 2223 ∧ t 38 = s 38) : RepM (addL M a b c d e f g) t := by
  obtain ⟨f1, f2, f3, f4, f5, f6, f7, f8, f9, f10, f11, f12⟩ := hfr
  unfold RepM
  rw [f1, f2, f3, f4, f5, f6, f7, f8, f9, f10, f11, f12, h10, h11, h12, h13, h14, h15, h16, h1007]
  refine ⟨⟨R.1.1, R.1.2.1, rfl⟩, ?_, R.2.2.1, R.2.2.2.1, R.2.2.2.2.1, R.2.2.2.2.2⟩
  intro l hl
  show upd (s 23) (mN M) (nI a) l = nI (va_up (M 3) (mN M) a l) ∧ upd (s 24) (mN M) (oI b) l = oI (va_up (M 4) (mN M) b l) ∧ upd (s 25) (mN M) (nI c) l = nI (va_up (M 5) (mN M) c l) ∧ upd (s 26) (mN M) (nI d) l = nI (va_up (M 6) (mN M) d l) ∧ upd (s 27) (mN M) (nI e) l = nI (va_up (M 7) (mN M) e l) ∧ upd (s 28) (mN M) (nI f) l = nI (va_up (M 8) (mN M) f l) ∧ upd (s 29) (mN M) (nI g) l = nI (va_up (M 9) (mN M) g l)
  by_cases h : l = mN M
  · subst h
    simp only [up_eq, pk_us, and_self]
  · simp only [up_ne _ _ h, pk_un h]
    exact R.2.1 l hl
end Ad
def rs (x : Int32) : Bool := decide (¬ x < -1) && decide (¬ (7 : Int32) < x)
theorem rs_W (s : Sg) (x : Int32) : F_X5_isWithin x (-1) 7 s = some (b2i (rs x)) := by
  unfold F_X5_isWithin rs
  by_cases h1 : x < -1
  · simp [h1, b2i]
  · by_cases h2 : 7 < x <;> simp [h1, h2, b2i]
theorem rs_in (s : Sg) (x : Int32) : F_X6_in x (-1) 7 s = some (b2i (rs x)) := rs_W s x
theorem rs_iff {x : Int32} (h : rs x = true) : ∃ b, b < 9 ∧ x = oI b := by
  unfold rs at h
  rw [Bool.and_eq_true, decide_eq_true_eq, decide_eq_true_eq] at h
  obtain ⟨h1, h2⟩ := h
  by_cases h0 : x < 0
  · refine ⟨0, by omega, ?_⟩
    rw [Int32.lt_iff_toInt_lt] at h0 h1
    have e0 : (0 : Int32).toInt = 0 := by decide
    have e1 : (-1 : Int32).toInt = -1 := by decide
    exact Int32.toInt_inj.mp (show x.toInt = (-1 : Int32).toInt by omega)
  · obtain ⟨j, hj, rfl⟩ := nI_of h0
    rw [show (7 : Int32) = nI 7 from rfl, nI_ltI (by decide) hj] at h2
    exact ⟨j + 1, by omega, rfl⟩
theorem shape_neg {x : Int32} (h : x < 0) : rb (x / 10) 1 2 = false := by
  cases hh : rb (x / 10) 1 2 with
  | false => rfl
  | true =>
    obtain ⟨j, h1, h2, h3⟩ := (rb_iff (by decide) (by decide)).mp hh
    have h4 : (x / 10).toInt = x.toInt.tdiv (10 : Int32).toInt := Int32.toInt_div_of_ne_right x 10 (by decide)
    rw [h3, nI_toInt (by omega), show (10 : Int32).toInt = 10 from by decide] at h4
    rw [Int32.lt_iff_toInt_lt, show (0 : Int32).toInt = 0 from by decide] at h
    rw [show x.toInt = -(-x.toInt) by omega, Int.neg_tdiv, Int.tdiv_eq_ediv_of_nonneg (by omega)] at h4
    omega
theorem p_lesson : P_lesson Inv := by
  rintro s ⟨M, G, R, R2⟩ x1 x2 x3 x4 x5 x6
  have hN := good_N G
  have fin : ∀ q : Int32 × Sg, some q = some (0, va_up s 2200 (fun _ => 1)) → q.2 2200 0 = 1 ∧ Inv q.2 := by
    intro q h
    cases h
    exact ⟨rfl, Inv_thr G R R2 1⟩
  cases g1 : rb x1 0 7 with
  | false =>
    refine Or.inr (Or.inl ⟨(0, va_up s 2200 (fun _ => 1)), ?_, ?_, rfl, Inv_thr G R R2 1⟩)
    · unfold F_X5_lesson; rw [W07, g1]; rfl
    · unfold F_X6_lesson; simp only [jn, N07, g1, Option.bind_some, b2i_f, if_true, one0, if_false, thr10]
  | true =>
  cases g2 : rs x2 with
  | false =>
    refine Or.inr (Or.inl ⟨(0, va_up s 2200 (fun _ => 1)), ?_, ?_, rfl, Inv_thr G R R2 1⟩)
    · unfold F_X5_lesson; simp only [W07, g1, rs_W, g2, Option.bind_some, b2i_t, b2i_f, if_true, one0, if_false]
    · unfold F_X6_lesson; simp only [jn, N07, g1, rs_in, g2, Option.bind_some, b2i_t, b2i_f, if_true, one0, if_false, thr10]
  | true =>
  by_cases g3 : x1 = x2
  · refine Or.inr (Or.inl ⟨(0, va_up s 2200 (fun _ => 1)), ?_, ?_, rfl, Inv_thr G R R2 1⟩)
    · unfold F_X5_lesson; simp only [W07, g1, rs_W, g2, Option.bind_some, b2i_t, b2i_f, if_true, one0, if_false, if_pos g3]
    · unfold F_X6_lesson; simp only [jn, N07, g1, rs_in, g2, Option.bind_some, b2i_t, b2i_f, if_true, one0, if_false, thr10, if_pos g3]
  cases g4 : rb x3 0 7 with
  | false =>
    refine Or.inr (Or.inl ⟨(0, va_up s 2200 (fun _ => 1)), ?_, ?_, rfl, Inv_thr G R R2 1⟩)
    · unfold F_X5_lesson; simp only [W07, g1, rs_W, g2, g4, Option.bind_some, b2i_t, b2i_f, if_true, one0, if_false, if_neg g3]
    · unfold F_X6_lesson; simp only [jn, N07, g1, rs_in, g2, g4, Option.bind_some, b2i_t, b2i_f, if_true, one0, if_false, thr10, if_neg g3]
  | true =>
  cases g5 : rb x4 0 2 with
  | false =>
    refine Or.inr (Or.inl ⟨(0, va_up s 2200 (fun _ => 1)), ?_, ?_, rfl, Inv_thr G R R2 1⟩)
    · unfold F_X5_lesson; simp only [W07, W02, g1, rs_W, g2, g4, g5, Option.bind_some, b2i_t, b2i_f, if_true, one0, if_false, if_neg g3]
    · unfold F_X6_lesson; simp only [jn, N07, N02, g1, rs_in, g2, g4, g5, Option.bind_some, b2i_t, b2i_f, if_true, one0, if_false, thr10, if_neg g3]
  | true =>
  cases g6 : rb (x5 / 10) 1 2 with
  | false =>
    refine Or.inr (Or.inl ⟨(0, va_up s 2200 (fun _ => 1)), ?_, ?_, rfl, Inv_thr G R R2 1⟩)
    · unfold F_X5_lesson; simp only [W07, W02, W12, g1, rs_W, g2, g4, g5, g6, Option.bind_some, b2i_t, b2i_f, if_true, one0, if_false, if_neg g3]
    · unfold F_X6_lesson
      cases g8 : rb x6 33 126 <;> by_cases g9 : x5 < 0 <;> simp only [jn, N07, N02, N33, N12, g1, rs_in, g2, g4, g5, g6, g8, g9, Option.bind_some, b2i_t, b2i_f, if_true, one0, if_false, thr10, if_neg g3]
  | true =>
  have g9 : ¬ x5 < 0 := fun z => by rw [shape_neg z] at g6; cases g6
  cases g7 : rb (x5 - x5 / 10 * 10) 1 4 with
  | false =>
    refine Or.inr (Or.inl ⟨(0, va_up s 2200 (fun _ => 1)), ?_, ?_, rfl, Inv_thr G R R2 1⟩)
    · unfold F_X5_lesson; simp only [W07, W02, W12, W14, g1, rs_W, g2, g4, g5, g6, g7, Option.bind_some, b2i_t, b2i_f, if_true, one0, if_false, if_neg g3]
    · unfold F_X6_lesson
      cases g8 : rb x6 33 126 <;> simp only [jn, N07, N02, N33, N12, N14, g1, rs_in, g2, g4, g5, g6, g7, g8, g9, Option.bind_some, b2i_t, b2i_f, if_true, one0, if_false, thr10, if_neg g3]
  | true =>
  cases g8 : rb x6 33 126 with
  | false =>
    refine Or.inr (Or.inl ⟨(0, va_up s 2200 (fun _ => 1)), ?_, ?_, rfl, Inv_thr G R R2 1⟩)
    · unfold F_X5_lesson; simp only [W07, W02, W12, W14, W33, g1, rs_W, g2, g4, g5, g6, g7, g8, Option.bind_some, b2i_t, b2i_f, if_true, one0, if_false, if_neg g3]
    · unfold F_X6_lesson
      simp only [jn, N07, N02, N33, N12, N14, g1, rs_in, g2, g4, g5, g6, g7, g8, g9, Option.bind_some, b2i_t, b2i_f, if_true, one0, if_false, thr10, if_neg g3]
  | true =>
  have e1 : s 1007 0 = nI (mN M) := R.1.2.2.2
  have e2 : s 2204 0 = nI (mN M) := R2.1.2.2
  by_cases hf : mN M = 16
  · refine Or.inr (Or.inr ⟨(0, va_up s 2200 (fun _ => 2)), ?_, ?_, rfl, Inv_thr G R R2 2⟩)
    · unfold F_X5_lesson; simp only [W07, W02, W12, W14, W33, g1, rs_W, g2, g4, g5, g6, g7, g8, Option.bind_some, b2i_t, b2i_f, if_true, one0, if_false, if_neg g3, e1, hf]
      rfl
    · unfold F_X6_lesson
      simp only [jn, N07, N02, N33, N12, N14, g1, rs_in, g2, g4, g5, g6, g7, g8, g9, Option.bind_some, b2i_t, b2i_f, if_true, one0, if_false, if_neg g3, e2, hf, show nI 16 = 16 from rfl, thr01]
  · obtain ⟨a, -, ha, rfl⟩ := (rb_iff (by decide) (by decide)).mp g1
    obtain ⟨b, hb, rfl⟩ := rs_iff g2
    obtain ⟨c, -, hc, rfl⟩ := (rb_iff (by decide) (by decide)).mp g4
    obtain ⟨d, -, hd, rfl⟩ := (rb_iff (by decide) (by decide)).mp g5
    obtain ⟨g, hg1, hg2, rfl⟩ := (rb_iff (by decide) (by decide)).mp g8
    obtain ⟨n, hn, rfl⟩ := nI_of g9
    have hd10 : nI n / 10 = nI (n / 10) := pk_div hn (by decide) (by decide)
    have hr10 : nI n - nI (n / 10) * 10 = nI (n % 10) := by rw [← hd10]; exact pk_rem hn (by decide) (by decide)
    rw [hd10, hr10] at g7
    rw [hd10] at g6
    have g6' := g6
    have g7' := g7
    obtain ⟨e, he1, he2, he3⟩ := (rb_iff (by decide) (by decide)).mp g6'
    rw [nI_eq (by omega) (by omega)] at he3
    obtain ⟨f, hf1, hf2, hf3⟩ := (rb_iff (by decide) (by decide)).mp g7'
    rw [nI_eq (by omega) (by omega)] at hf3
    have hba : b ≠ a + 1 := fun z => g3 (by rw [z]; rfl)
    have i16 : ixb (nI (mN M)) 16 = true := ixb_nI (by omega) (by decide)
    have c16 : (nI (mN M)).toNatClampNeg = mN M := nI_clamp (by omega)
    have GG := Good_add (M := M) (a := a) (b := b) (c := c) (d := d) (e := n / 10) (f := n % 10) (g := g) G (by omega) ⟨by omega, hb, hba, by omega, by omega, by omega, by omega, by omega, by omega⟩
    obtain ⟨t, ht⟩ : ∃ t : Sg, t = va_up (va_up (va_up (va_up (va_up (va_up (va_up (va_up s 10 (upd (s 10) (mN M) (nI a))) 11 (upd (s 11) (mN M) (oI b))) 12 (upd (s 12) (mN M) (nI c))) 13 (upd (s 13) (mN M) (nI d))) 14 (upd (s 14) (mN M) (nI (n / 10)))) 15 (upd (s 15) (mN M) (nI (n % 10)))) 16 (upd (s 16) (mN M) (nI g))) 1007 (fun _ => nI (mN M) + 1) := ⟨_, rfl⟩
    have RC : RepC (addL M a b c d (n / 10) (n % 10) g) t := RepC_add G R (by rw [ht]; rfl) (by rw [ht]; rfl) (by rw [ht]; rfl) (by rw [ht]; rfl) (by rw [ht]; rfl) (by rw [ht]; rfl) (by rw [ht]; rfl) (by rw [ht, ← nI_1]; rfl) (by rw [ht]; exact ⟨rfl, rfl, rfl, rfl, rfl, rfl, rfl, rfl, rfl, rfl, rfl, rfl, rfl, rfl, rfl⟩)
    have RM : RepM M t := R2.frame fun k hk => by
      rw [ht]
      have : ∀ z, cC z = true → k ≠ z := fun z hz e => by
        subst e
        simp only [cC, cM, Bool.or_eq_true, Bool.and_eq_true, decide_eq_true_eq, Nat.blt_eq] at hz hk
        omega
      rw [up_ne _ _ (this 1007 rfl), up_ne _ _ (this 16 rfl), up_ne _ _ (this 15 rfl), up_ne _ _ (this 14 rfl), up_ne _ _ (this 13 rfl), up_ne _ _ (this 12 rfl), up_ne _ _ (this 11 rfl), up_ne _ _ (this 10 rfl)]
    have e2' : t 2204 0 = nI (mN M) := RM.1.2.2
    obtain ⟨r, hr⟩ : ∃ r : Sg, r = va_up t 2200 (fun _ => 0) := ⟨_, rfl⟩
    have RMr : RepM M r := by rw [hr]; exact RepM_thr RM 0
    have e2r : r 2204 0 = nI (mN M) := RMr.1.2.2
    refine Or.inl ⟨(nI (mN M), t), (nI (mN M), va_up (va_up (va_up (va_up (va_up (va_up (va_up (va_up r 23 (upd (r 23) (mN M) (nI a))) 24 (upd (r 24) (mN M) (oI b))) 25 (upd (r 25) (mN M) (nI c))) 26 (upd (r 26) (mN M) (nI d))) 27 (upd (r 27) (mN M) (nI (n / 10)))) 28 (upd (r 28) (mN M) (nI (n % 10)))) 29 (upd (r 29) (mN M) (nI g))) 2204 (fun _ => nI (mN M) + 1)), ?_, ?_, ?_, rfl, addL M a b c d (n / 10) (n % 10) g, GG, ?_, ?_⟩
    · unfold F_X5_lesson
      simp only [W07, W02, W12, W14, W33, g1, rs_W, g2, g4, g5, g6, g7, g8, hd10, hr10, Option.bind_some, b2i_t, b2i_f, if_true, one0, if_false, if_neg g3, e1]
      rw [if_pos (show nI (mN M) < 16 from (show nI (mN M) < nI 16 from (nI_ltI (by omega) (by decide)).mpr (by omega)))]
      unfold F_X3_add
      simp only [bnd, up_ne, ne_eq, Nat.reduceEqDiff, not_false_eq_true, e1, hd10, hr10, grd_t i16, c16, Option.bind_some, ht]
    · unfold F_X6_lesson
      simp only [jn, N07, N02, N33, N12, N14, g1, rs_in, g2, g4, g5, g6, g7, g8, g9, hd10, hr10, Option.bind_some, b2i_t, b2i_f, if_true, one0, if_false, if_neg g3, e2']
      rw [if_neg (show ¬ nI (mN M) = 16 from fun z => hf ((nI_eq (by omega) (by decide)).mp z)), thr00]
      simp only [Option.bind_some, if_true, ← hr, bnd]
      simp only [up_ne, up_eq, ne_eq, Nat.reduceEqDiff, not_false_eq_true, e2r, grd_t i16, c16, nI_1, nI_pred]
    · rw [hr]; rfl
    · refine RepC.frame (s := t) RC fun k hk => ?_
      have : ∀ z, cM z = true → k ≠ z := fun z hz e => by
        subst e
        simp only [cC, cM, Bool.or_eq_true, Bool.and_eq_true, decide_eq_true_eq, Nat.blt_eq] at hz hk
        omega
      show va_up (va_up (va_up (va_up (va_up (va_up (va_up (va_up r 23 _) 24 _) 25 _) 26 _) 27 _) 28 _) 29 _) 2204 _ k = _
      rw [up_ne _ _ (this 2204 rfl), up_ne _ _ (this 29 rfl), up_ne _ _ (this 28 rfl), up_ne _ _ (this 27 rfl), up_ne _ _ (this 26 rfl), up_ne _ _ (this 25 rfl), up_ne _ _ (this 24 rfl), up_ne _ _ (this 23 rfl), hr, up_ne _ _ (this 2200 rfl)]
    · exact RepM_add RMr rfl rfl rfl rfl rfl rfl rfl (by rw [← nI_1]; rfl) ⟨rfl, rfl, rfl, rfl, rfl, rfl, rfl, rfl, rfl, rfl, rfl, rfl⟩
