/-! ===== improve ===== -/
theorem isW2 (s : Sg) (x lo hi : Int32) : F_X5_isWithin x lo hi s = some (b2i (!decide (x < lo) && !decide (hi < x))) := by
  unfold F_X5_isWithin
  by_cases h1 : x < lo
  · simp [h1, b2i]
  · by_cases h2 : hi < x
    · simp [h1, h2, b2i]
    · simp [h1, h2, b2i]
theorem inW2 (s : Sg) (x lo hi : Int32) : F_X6_in x lo hi s = some (b2i (!decide (x < lo) && !decide (hi < x))) := by
  have h := isW2 s x lo hi
  unfold F_X5_isWithin at h
  unfold F_X6_in
  exact h
theorem within_nI {x : Int32} {n : Nat} (hn : n < 2 ^ 31) (h : (!decide (x < 1) && !decide (nI n < x)) = true) : ∃ k : Nat, 1 ≤ k ∧ k ≤ n ∧ x = nI k := by
  simp only [Bool.and_eq_true, Bool.not_eq_true', decide_eq_false_iff_not] at h
  have h0 : ¬ x < 0 := fun z => h.1 (Int32.lt_trans z (by decide))
  obtain ⟨k, hk, rfl⟩ := nI_of h0
  have h1 := h.1
  have h2 := h.2
  rw [show (1 : Int32) = nI 1 from rfl, nI_ltI hk (by decide)] at h1
  rw [nI_ltI hn hk] at h2
  exact ⟨k, by omega, by omega, rfl⟩
theorem pen_congr {M : MS} {f g : Nat → Nat} (h : ∀ i, i < 64 → f i = g i) : pen M f = pen M g := by
  have e : ∀ u, occ M f u = occ M g u := fun u => by
    funext p
    unfold occ
    exact anyb_congr fun i hi => by unfold cvr usz; rw [h i hi]
  unfold pen
  exact sumN_congr fun u _ => by rw [e u]
theorem mvB_up (M : MS) (g h : Nat → Nat) (i : Nat) : mvB (va_up M 11 g) h i = mvB M h i := by
  unfold mvB
  rw [mvS_up]
  rfl
theorem mvR_up (M : MS) (g h : Nat → Nat) (i : Nat) : mvR (va_up M 11 g) h i = mvR M h i := by
  unfold mvR
  rw [mvB_up]
  rfl
def baS (M : MS) (f : Nat → Nat) : Nat → (Nat → Nat) × Bool
  | 0 => (f, false)
  | n + 1 => if (baS M f n).1 n = 0 then baS M f n else (mvR M (baS M f n).1 n, (baS M f n).2 || decide (mvB M (baS M f n).1 n ≠ 0))
def imS (M : MS) : Nat → (Nat → Nat) → (Nat → Nat) × Bool
  | 0, f => (f, false)
  | n + 1, f => if (baS M f 64).2 = true then ((imS M n (baS M f 64).1).1, true) else (f, false)
theorem baS_inv {M : MS} (G : Good M) {f : Nat → Nat} (V : VP M f) : ∀ n : Nat, n ≤ 64 → VP M (baS M f n).1 ∧ (((baS M f n).2 = false ∧ (baS M f n).1 = f) ∨ ((baS M f n).2 = true ∧ pen M (baS M f n).1 < pen M f))
  | 0, _ => ⟨V, Or.inl ⟨rfl, rfl⟩⟩
  | n + 1, hn => by
    obtain ⟨V2, h⟩ := baS_inv G V n (by omega)
    rw [baS]
    by_cases h0 : (baS M f n).1 n = 0
    · rw [if_pos h0]; exact ⟨V2, h⟩
    · rw [if_neg h0]
      by_cases hb : mvB M (baS M f n).1 n = 0
      · have e : mvR M (baS M f n).1 n = (baS M f n).1 := by unfold mvR; rw [if_pos hb]
        have e2 : ((baS M f n).2 || decide (mvB M (baS M f n).1 n ≠ 0)) = (baS M f n).2 := by simp [hb]
        show VP M (mvR M (baS M f n).1 n) ∧ _
        rw [e, e2]
        exact ⟨V2, h⟩
      · obtain ⟨r, r1, r2, r3, r4, r5, r6⟩ := mv_V G V2 (i := n) (by omega) h0 hb
        have hp := mv_pen G V2 (i := n) (by omega) h0 hb
        refine ⟨r6, Or.inr ⟨by simp [hb], ?_⟩⟩
        show pen M (mvR M (baS M f n).1 n) < pen M f
        rcases h with ⟨_, h⟩ | ⟨_, h⟩
        · rw [h] at hp ⊢; exact hp
        · omega
theorem imS_inv {M : MS} (G : Good M) : ∀ (n : Nat) {f : Nat → Nat}, VP M f → VP M (imS M n f).1 ∧ (((imS M n f).2 = false ∧ (imS M n f).1 = f) ∨ ((imS M n f).2 = true ∧ pen M (imS M n f).1 < pen M f))
  | 0, f, V => ⟨V, Or.inl ⟨rfl, rfl⟩⟩
  | n + 1, f, V => by
    obtain ⟨V2, h⟩ := baS_inv G V 64 (Nat.le_refl _)
    rw [imS]
    rcases h with ⟨h1, h2⟩ | ⟨h1, h2⟩
    · rw [if_neg (by rw [h1]; decide)]; exact ⟨V, Or.inl ⟨rfl, rfl⟩⟩
    · rw [if_pos h1]
      obtain ⟨V3, h3⟩ := imS_inv G n V2
      refine ⟨V3, Or.inr ⟨rfl, ?_⟩⟩
      show pen M (imS M n (baS M f 64).1).1 < pen M f
      rcases h3 with ⟨_, h3⟩ | ⟨_, h3⟩
      · rw [h3]; exact h2
      · omega
theorem imS_diff {M : MS} (G : Good M) (n : Nat) {f : Nat → Nat} (V : VP M f) : diffb f (imS M n f).1 = (imS M n f).2 := by
  rcases (imS_inv G n V).2 with ⟨h1, h2⟩ | ⟨h1, h2⟩
  · rw [h1, h2]
    exact anyb_false.mpr fun i _ => by simp
  · rw [h1]
    cases hd : diffb f (imS M n f).1 with
    | true => rfl
    | false =>
      have := anyb_false.mp hd
      have e : pen M f = pen M (imS M n f).1 := pen_congr fun i hi => by
        have h3 := this i hi
        simpa using h3
      omega
section Im
variable {M : MS}
theorem betterL_C (G : Good M) {f : Nat → Nat} (V : VP M f) : ∀ (fu i : Nat) (s : Sg), RepC (va_up M 11 (baS M f i).1) s → i ≤ 64 → 64 - i < fu → ∃ t, L_X0_betterAll_4 fu (b2i (baS M f i).2) (nI i) s = some (b2i (baS M f 64).2, t) ∧ RepC (va_up M 11 (baS M f 64).1) t ∧ (∀ c, c ≠ 19 → c ≠ 20 → t c = s c) := by
  intro fu
  induction fu with
  | zero => intro i s _ h1 h2; omega
  | succ fu ih =>
    intro i s R h1 h2
    rw [L_X0_betterAll_4]
    rcases Nat.lt_or_ge i 64 with h | h
    · obtain ⟨V2, -⟩ := baS_inv G V i h1
      have G2 := Good_pl G V2
      rw [if_neg (by rw [show (64 : Int32) = nI 64 from rfl, nI_leI (by decide) (by omega)]; omega), isPlaced_C G2 R h]
      simp only [Option.bind_some, b2i_z, bnd, nI_1]
      by_cases h0 : (baS M f i).1 i = 0
      · have e : baS M f (i + 1) = baS M f i := by rw [baS, if_pos h0]
        rw [if_pos (show decide (mPl (va_up M 11 (baS M f i).1) i ≠ 0) = false from by rw [pl_up]; simp [h0])]
        have ih2 := ih (i + 1) s
        rw [e] at ih2
        exact ih2 R (by omega) (by omega)
      · have e : baS M f (i + 1) = (mvR M (baS M f i).1 i, (baS M f i).2 || decide (mvB M (baS M f i).1 i ≠ 0)) := by rw [baS, if_neg h0]
        rw [if_neg (show ¬ decide (mPl (va_up M 11 (baS M f i).1) i ≠ 0) = false from by rw [pl_up]; simp [h0])]
        obtain ⟨t, t1, t2, t3⟩ := move_C G2 R h h0
        rw [pl_up, mvB_up] at t1
        rw [pl_up, mvR_up, up_up] at t2
        have ih2 := ih (i + 1) t
        rw [e] at ih2
        obtain ⟨w, w1, w2, w3⟩ := ih2 t2 (by omega) (by omega)
        refine ⟨w, ?_, w2, fun c c1 c2 => by rw [w3 c c1 c2, t3 c c1 c2]⟩
        rw [t1]
        simp only [Option.bind_some, b2i_z]
        by_cases hb : mvB M (baS M f i).1 i = 0
        · rw [if_pos (by simp [hb])]
          simpa [hb] using w1
        · rw [if_neg (by simp [hb])]
          have w1' : L_X0_betterAll_4 fu (b2i ((baS M f i).2 || decide (mvB M (baS M f i).1 i ≠ 0))) (nI (i + 1)) t = some (b2i (baS M f 64).2, w) := w1
          rw [show ((baS M f i).2 || decide (mvB M (baS M f i).1 i ≠ 0)) = true from by simp [hb]] at w1'
          exact w1'
    · have : i = 64 := by omega
      subst this
      rw [if_pos (by decide)]
      exact ⟨s, rfl, R, fun _ _ _ => rfl⟩
theorem better_C (G : Good M) {f : Nat → Nat} (V : VP M f) {s : Sg} (R : RepC (va_up M 11 f) s) : ∃ t, F_X0_betterAll s = some (b2i (baS M f 64).2, t) ∧ RepC (va_up M 11 (baS M f 64).1) t ∧ (∀ c, c ≠ 19 → c ≠ 20 → t c = s c) := by
  obtain ⟨t, t1, t2, t3⟩ := betterL_C G V FU 0 s R (by omega) (FU_gt (by omega))
  refine ⟨t, ?_, t2, t3⟩
  unfold F_X0_betterAll
  have t1' : L_X0_betterAll_4 FU 0 0 s = some (b2i (baS M f 64).2, t) := t1
  rw [t1']
  generalize (baS M f 64).2 = bb
  cases bb
  · exact grd_t (Or.inl rfl)
  · exact grd_t (Or.inr rfl)
theorem impL_C (G : Good M) {n : Nat} (hn : n < 1000) : ∀ (fu k : Nat) (ch : Bool) (f : Nat → Nat) (s : Sg), VP M f → RepC (va_up M 11 f) s → n - k < fu → k ≤ n → ∃ t, L_X5_improve_38 fu (nI n) (b2i ch) (nI k) s = some (b2i (ch || (imS M (n - k) f).2), t) ∧ RepC (va_up M 11 (imS M (n - k) f).1) t ∧ (∀ c, c ≠ 19 → c ≠ 20 → t c = s c) := by
  intro fu
  induction fu with
  | zero => intro k ch f s _ _ h1 h2; omega
  | succ fu ih =>
    intro k ch f s V R h1 h2
    rw [L_X5_improve_38]
    simp only [nI_leI (show n < 2 ^ 31 by omega) (show k < 2 ^ 31 by omega), bnd, nI_1]
    by_cases h : n ≤ k
    · rw [if_pos h, show n - k = 0 by omega]
      exact ⟨s, by rw [imS, Bool.or_false], R, fun _ _ _ => rfl⟩
    · obtain ⟨t, t1, t2, t3⟩ := better_C G V R
      obtain ⟨V2, hh⟩ := baS_inv G V 64 (Nat.le_refl _)
      rw [if_neg h, t1]
      simp only [Option.bind_some, b2i_z]
      rw [show n - k = (n - (k + 1)) + 1 by omega, imS]
      rcases hh with ⟨b1, b2⟩ | ⟨b1, b2⟩
      · rw [if_pos b1, if_neg (by rw [b1]; decide)]
        rw [b2] at t2
        exact ⟨t, by rw [Bool.or_false], t2, t3⟩
      · rw [if_neg (by rw [b1]; decide), if_pos b1]
        obtain ⟨w, w1, w2, w3⟩ := ih (k + 1) true _ t V2 t2 (by omega) (by omega)
        rw [Bool.true_or] at w1
        exact ⟨w, by rw [Bool.or_true]; exact w1, w2, fun c c1 c2 => by rw [w3 c c1 c2, t3 c c1 c2]⟩
theorem passL_M (G : Good M) {f : Nat → Nat} (V : VP M f) (x1 x3 : Int32) : ∀ (fu i : Nat) (s : Sg), RepM (va_up M 11 (baS M f i).1) s → i ≤ 64 → 64 - i < fu → ∃ t, L_X6_improve_47 fu x1 (b2i (baS M f i).2) x3 (nI i) s = some (b2i (baS M f 64).2, t) ∧ RepM (va_up M 11 (baS M f 64).1) t ∧ (∀ c, c ≠ 30 → c ≠ 31 → t c = s c) := by
  intro fu
  induction fu with
  | zero => intro i s _ h1 h2; omega
  | succ fu ih =>
    intro i s R h1 h2
    rw [L_X6_improve_47]
    rcases Nat.lt_or_ge i 64 with h | h
    · obtain ⟨V2, -⟩ := baS_inv G V i h1
      have G2 := Good_pl G V2
      have hpl := pl_lt G V2 h
      rw [if_neg (by rw [show (64 : Int32) = nI 64 from rfl, nI_leI (by decide) (by omega)]; omega), grd_t (ixb_nI h (by decide)), nI_clamp (by omega), (R.2.2.2.1 i h).1]
      simp only [bnd, nI_1, pl_up, oI_neg (po_lt hpl).1]
      by_cases h0 : (baS M f i).1 i = 0
      · have e : baS M f (i + 1) = baS M f i := by rw [baS, if_pos h0]
        rw [if_pos (by unfold perO; rw [if_pos h0])]
        have ih2 := ih (i + 1) s
        rw [e] at ih2
        exact ih2 R (by omega) (by omega)
      · have e : baS M f (i + 1) = (mvR M (baS M f i).1 i, (baS M f i).2 || decide (mvB M (baS M f i).1 i ≠ 0)) := by rw [baS, if_neg h0]
        rw [if_neg (by unfold perO; rw [if_neg h0]; omega)]
        obtain ⟨t, t1, t2, t3⟩ := move_M G2 R h h0
        rw [pl_up, mvB_up] at t1
        rw [pl_up, mvR_up, up_up] at t2
        have ih2 := ih (i + 1) t
        rw [e] at ih2
        obtain ⟨w, w1, w2, w3⟩ := ih2 t2 (by omega) (by omega)
        refine ⟨w, ?_, w2, fun c c1 c2 => by rw [w3 c c1 c2, t3 c c1 c2]⟩
        rw [t1]
        simp only [Option.bind_some, b2i_z]
        have w1' : L_X6_improve_47 fu x1 (b2i ((baS M f i).2 || decide (mvB M (baS M f i).1 i ≠ 0))) x3 (nI (i + 1)) t = some (b2i (baS M f 64).2, w) := w1
        by_cases hb : mvB M (baS M f i).1 i = 0
        · rw [if_pos (by simp [hb])]
          rw [show ((baS M f i).2 || decide (mvB M (baS M f i).1 i ≠ 0)) = (baS M f i).2 from by simp [hb]] at w1'
          exact w1'
        · rw [if_neg (by simp [hb])]
          rw [show ((baS M f i).2 || decide (mvB M (baS M f i).1 i ≠ 0)) = true from by simp [hb]] at w1'
          exact w1'
    · have : i = 64 := by omega
      subst this
      rw [if_pos (by decide)]
      exact ⟨s, rfl, R, fun _ _ _ => rfl⟩
theorem impL_M (G : Good M) {n : Nat} (hn : n < 1000) : ∀ (fu k : Nat) (f : Nat → Nat) (s : Sg), VP M f → RepM (va_up M 11 f) s → n - k < fu → k ≤ n → ∃ t, L_X6_improve_33 fu (nI n) 1 (nI k) s = some t ∧ RepM (va_up M 11 (imS M (n - k) f).1) t ∧ (∀ c, c ≠ 30 → c ≠ 31 → t c = s c) := by
  intro fu
  induction fu with
  | zero => intro k f s _ _ h1 h2; omega
  | succ fu ih =>
    intro k f s V R h1 h2
    rw [L_X6_improve_33]
    simp only [nI_leI (show n < 2 ^ 31 by omega) (show k < 2 ^ 31 by omega), bnd, nI_1, one0, if_false]
    by_cases h : n ≤ k
    · rw [if_pos h, show n - k = 0 by omega]
      exact ⟨s, rfl, R, fun _ _ _ => rfl⟩
    · obtain ⟨t, t1, t2, t3⟩ := passL_M G V (nI n) (nI k) FU 0 s R (by omega) (FU_gt (by omega))
      obtain ⟨V2, hh⟩ := baS_inv G V 64 (Nat.le_refl _)
      rw [if_neg h, show L_X6_improve_47 FU (nI n) 0 (nI k) 0 s = some (b2i (baS M f 64).2, t) from t1]
      simp only [Option.bind_some]
      rw [show n - k = (n - (k + 1)) + 1 by omega, imS]
      rcases hh with ⟨b1, b2⟩ | ⟨b1, b2⟩
      · rw [if_neg (by rw [b1]; decide), b1]
        rw [b2] at t2
        refine ⟨t, ?_, t2, t3⟩
        cases fu with
        | zero => omega
        | succ fu =>
          rw [L_X6_improve_33, b2i_f]
          simp only [if_true]
          split <;> rfl
      · rw [if_pos b1, b1]
        obtain ⟨w, w1, w2, w3⟩ := ih (k + 1) _ t V2 t2 (by omega) (by omega)
        exact ⟨w, w1, w2, fun c c1 c2 => by rw [w3 c c1 c2, t3 c c1 c2]⟩
end Im
theorem Drn.frame {f0 : Nat → Nat} {s t : Sg} (D : Drn f0 s) (h1 : t 701 = s 701) (h2 : t 702 = s 702) (h3 : t 7 = s 7) : Drn f0 t := by
  unfold Drn at D ⊢
  rw [h1, h2, h3]
  exact D
theorem p_improve : P_improve Inv := by
  rintro s ⟨M, G, R, R2⟩ x
  have V := G.2.2.2.1
  cases hb : (!decide (x < 1) && !decide (nI 10 < x)) with
  | false =>
    refine Or.inr ⟨(0, va_up s 2200 (fun _ => 1)), ?_, ?_, rfl, Inv_thr G R R2 1⟩
    · unfold F_X5_improve
      simp only [jn]
      rw [isW2, show (10 : Int32) = nI 10 from rfl, hb]; rfl
    · unfold F_X6_improve
      simp only [jn]
      rw [inW2, show (10 : Int32) = nI 10 from rfl, hb]
      simp only [Option.bind_some, b2i_f, if_true]
      rw [thr10]; rfl
  | true =>
  obtain ⟨n, hn1, hn2, rfl⟩ := within_nI (by decide) hb
  obtain ⟨r, d1, d2, d3⟩ := draw_C G R
  obtain ⟨t, t1, t2, t3⟩ := impL_C G (n := n) (by omega) FU 0 false (mPl M) (va_up s 7 r) V (by rw [pl_self]; exact d2) (FU_gt (by omega)) (by omega)
  rw [Nat.sub_zero, Bool.false_or] at t1
  rw [Nat.sub_zero] at t2
  obtain ⟨V2, hinv⟩ := imS_inv G n V
  have hdf := imS_diff G n V
  have G2 := Good_pl G V2
  -- the class's end
  have hC : ∃ u, F_X5_improve (nI n) s = some (.inl (nI (pen (if (imS M n (mPl M)).2 = true then jpush (va_up M 11 (imS M n (mPl M)).1) (mPl M) else va_up M 11 (imS M n (mPl M)).1) (mPl (if (imS M n (mPl M)).2 = true then jpush (va_up M 11 (imS M n (mPl M)).1) (mPl M) else va_up M 11 (imS M n (mPl M)).1))), u)) ∧ RepC (if (imS M n (mPl M)).2 = true then jpush (va_up M 11 (imS M n (mPl M)).1) (mPl M) else va_up M 11 (imS M n (mPl M)).1) u ∧ ∀ c, c ≠ 7 → c ≠ 19 → c ≠ 20 → c ≠ 701 → c ≠ 702 → u c = s c := by
    have hst : F_X5_improve (nI n) s = (if b2i (imS M n (mPl M)).2 = 0 then
        (F_X0_weekPenalty t).bind fun q4 =>
        some (.inl (q4, t))
      else
        (F_X2_keep t).bind fun q6 =>
        (F_X0_weekPenalty  q6).bind fun q8 =>
        some (.inl (q8, q6))) := by
      unfold F_X5_improve
      simp only [jn]
      rw [isW2, show (10 : Int32) = nI 10 from rfl, hb]
      simp only [Option.bind_some, b2i_t, one0, if_false]
      rw [d1]
      simp only [Option.bind_some]
      rw [show L_X5_improve_38 FU (nI n) 0 0 (va_up s 7 r) = some (b2i (imS M n (mPl M)).2, t) from t1]
      rfl
    rw [hst]
    cases hch : (imS M n (mPl M)).2 with
    | false =>
      simp only [Bool.false_eq_true, if_false, b2i_f, if_true]
      refine ⟨t, ?_, t2, fun c c1 c2 c3 _ _ => by rw [t3 c c2 c3, up_ne _ _ c1]⟩
      rw [pen_C G2 t2]; rfl
    | true =>
      simp only [if_true, b2i_t, one0, if_false]
      obtain ⟨u, u1, u2, u3⟩ := keep_C G2 t2 (f0 := mPl M) (d3.frame (t3 701 (by decide) (by decide)) (t3 702 (by decide) (by decide)) (t3 7 (by decide) (by decide)))
      refine ⟨u, ?_, u2, fun c c1 c2 c3 c4 c5 => by rw [u3 c c4 c5, t3 c c2 c3, up_ne _ _ c1]⟩
      rw [u1]
      simp only [Option.bind_some]
      rw [pen_C (Good_push G2 V) u2]; rfl
  obtain ⟨u, u1, u2, u3⟩ := hC
  have Ru : RepM M u := R2.frame fun c hc => u3 c (cM_ne hc rfl) (cM_ne hc rfl) (cM_ne hc rfl) (cM_ne hc rfl) (cM_ne hc rfl)
  obtain ⟨w, w1, w2, w3, w4⟩ := keep_M (RepM_thr Ru 0)
  obtain ⟨y, y1, y2, y3⟩ := impL_M G (n := n) (by omega) FU 0 (mPl M) w V (by rw [pl_self]; exact w3) (FU_gt (by omega)) (by omega)
  rw [Nat.sub_zero] at y2
  have K : Kpt (mPl M) y := fun i hi => by
    rw [y3 34 (by decide) (by decide), y3 35 (by decide) (by decide)]
    exact w4 i hi
  obtain ⟨v, v1, v2, v3⟩ := note_M G2 y2 (f0 := mPl M) V K
  rw [pl_up, hdf] at v3
  have Gf : Good (if (imS M n (mPl M)).2 = true then jpush (va_up M 11 (imS M n (mPl M)).1) (mPl M) else va_up M 11 (imS M n (mPl M)).1) := by
    split
    · exact Good_push G2 V
    · exact G2
  refine Or.inl ⟨(_, u), (_, v), u1, ?_, ?_, rfl, _, Gf, ?_, v3⟩
  · unfold F_X6_improve
    simp only [jn]
    rw [inW2, show (10 : Int32) = nI 10 from rfl, hb]
    simp only [Option.bind_some, b2i_t, one0, if_false]
    rw [thr00]
    simp only [Option.bind_some, if_true]
    rw [w1]
    simp only [Option.bind_some]
    rw [show L_X6_improve_33 FU (nI n) 1 0 w = some y from y1]
    simp only [Option.bind_some]
    rw [v1]
    simp only [Option.bind_some]
    rw [pen_M Gf v3]; rfl
  · show v 2200 0 = 0
    rw [v2 2200 (by decide) (by decide) (by decide), y3 2200 (by decide) (by decide), w2 2200 (by decide) (by decide)]; rfl
  · exact u2.frame fun c hc => by
      show v c = u c
      rw [v2 c (cC_ne hc rfl) (cC_ne hc rfl) (cC_ne hc rfl), y3 c (cC_ne hc rfl) (cC_ne hc rfl), w2 c (cC_ne hc rfl) (cC_ne hc rfl), up_ne _ _ (cC_ne hc rfl)]
