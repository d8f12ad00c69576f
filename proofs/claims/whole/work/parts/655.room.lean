/-! ===== room ===== -/
theorem busy0 {M : MS} {s : Sg} (G : Good M) (R : RepC M s) {r : Nat} (hr : r < 6) : s 19 (16 + r) = 0 ↔ ∀ i, i < 64 → mPl M i ≠ 0 → (mPl M i - 1) % 6 ≠ r := by
  have h30 := dp_le G
  rw [zero_iff]
  constructor
  · intro h i hi hpl e
    have hv := G.2.2.2.1.1 i hi hpl
    have hle := (G.2.1 _ hv.1).2.2.2.2.2.1
    have h2 := h ((mPl M i - 1) / 6) (by omega)
    rw [R.2.2.2.2.2.2.1 (16 + r) _ (by omega) (by omega)] at h2
    have h3 : occ M (mPl M) (16 + r) ((mPl M i - 1) / 6) = true := by
      refine anyb_iff.mpr ⟨i, hi, ?_⟩
      rw [Bool.and_eq_true]
      constructor
      · simp only [cvr, hpl, ne_eq, not_false_eq_true, decide_true, Nat.le_refl, Bool.true_and, decide_eq_true_eq]; omega
      · simp only [usz, e, beq_self_eq_true, Bool.or_true]
    rw [h3] at h2; cases h2
  · intro h q hq
    rw [R.2.2.2.2.2.2.1 (16 + r) q (by omega) hq]
    cases ho : occ M (mPl M) (16 + r) q with
    | false => rfl
    | true =>
      obtain ⟨i, hi, h2⟩ := anyb_iff.mp ho
      rw [Bool.and_eq_true] at h2
      have hpl := cvr_pl h2.1
      have hv := G.2.2.2.1.1 i hi hpl
      obtain ⟨a1, a2, a3, a4, -⟩ := G.2.1 _ hv.1
      have := h i hi hpl
      have h3 := h2.2
      unfold usz at h3
      simp only [Bool.or_eq_true, beq_iff_eq] at h3
      omega
theorem room_loop {M : MS} {s : Sg} (G : Good M) (R : RepM M s) {r : Nat} (hr : r < 6) (y : Int32) : ∀ (fu i : Nat) (b : Bool), i ≤ 64 → 64 - i < fu → L_X6_room_30 fu (nI r) y 0 (b2i b) (nI i) s = some (b2i (b || decide (fnd (fun i => decide (mPl M i ≠ 0) && decide ((mPl M i - 1) % 6 = r)) i (64 - i) ≠ 0))) := by
  intro fu
  induction fu with
  | zero => intro i b h1 h2; omega
  | succ fu ih =>
    intro i b h1 h2
    rw [L_X6_room_30]
    rcases Nat.lt_or_ge i 64 with h | h
    · rw [if_neg (by rw [show (64 : Int32) = nI 64 from rfl, nI_leI (by decide) (by omega)]; omega)]
      have e1 : 64 - i = (64 - (i + 1)) + 1 := by omega
      have e2 : nI i + 1 = nI (i + 1) := nI_1 i
      have hl := pl_lt G G.2.2.2.1 h
      rw [e1, fnd, if_pos rfl]
      simp only [b2i_z, bnd]
      have c64 : (nI i).toNatClampNeg = i := nI_clamp (by omega)
      have g64 := ixb_nI h (show 64 < 2 ^ 31 by decide)
      cases b with
      | true =>
        rw [if_neg (by decide), e2, show (1 : Int32) = b2i true from rfl, ih (i + 1) true (by omega) (by omega)]
        simp
      | false =>
        rw [if_pos rfl, grd_t g64, grd_t g64, c64, (R.2.2.2.1 i h).1, (R.2.2.2.1 i h).2, e2, show (1 : Int32) = b2i true from rfl, show L_X6_room_30 fu (nI r) y 0 0 (nI (i + 1)) s = L_X6_room_30 fu (nI r) y 0 (b2i false) (nI (i + 1)) s from rfl, ih (i + 1) true (by omega) (by omega), ih (i + 1) false (by omega) (by omega)]
        by_cases hp : mPl M i = 0
        · simp [hp, perO, oI]
        · have e3 : oI (perO (mPl M) i) = nI ((mPl M i - 1) / 6) := by simp [perO, hp, oI]
          have e4 : oI (romO (mPl M) i) = nI ((mPl M i - 1) % 6) := by simp [romO, hp, oI]
          rw [e3, e4, if_neg (nI_pos (by omega))]
          simp only [nI_eq (show (mPl M i - 1) % 6 < 2 ^ 31 by omega) (show r < 2 ^ 31 by omega)]
          by_cases hq : (mPl M i - 1) % 6 = r
          · simp [hp, hq]
          · simp [hp, hq]
    · have : i = 64 := by omega
      subst this
      rw [if_pos (by decide)]
      simp [fnd]
theorem RepC_rk {M : MS} {s : Sg} (R : RepC M s) {r k : Nat} : RepC (va_up M 10 (va_up (M 10) r k)) (va_up s 17 (upd (s 17) r (nI k))) := by
  refine ⟨R.1, R.2.1, R.2.2.1, ?_, R.2.2.2.2.1, R.2.2.2.2.2.1, R.2.2.2.2.2.2.1, R.2.2.2.2.2.2.2⟩
  intro r' hr'
  show upd (s 17) r (nI k) r' = nI (va_up (M 10) r k r')
  by_cases h : r' = r
  · subst h; rw [pk_us, up_eq]
  · rw [pk_un h, up_ne _ _ h]; exact R.2.2.2.1 r' hr'
theorem RepM_rk {M : MS} {s : Sg} (R : RepM M s) {r k : Nat} : RepM (va_up M 10 (va_up (M 10) r k)) (va_up s 22 (upd (s 22) r (nI k))) := by
  refine ⟨R.1, R.2.1, ?_, R.2.2.2.1, R.2.2.2.2.1, R.2.2.2.2.2⟩
  intro r' hr'
  show upd (s 22) r (nI k) r' = nI (va_up (M 10) r k r')
  by_cases h : r' = r
  · subst h; rw [pk_us, up_eq]
  · rw [pk_un h, up_ne _ _ h]; exact R.2.2.1 r' hr'
theorem Good_rk {M : MS} (G : Good M) {r k : Nat} (hk : k < 3) : Good (va_up M 10 (va_up (M 10) r k)) := by
  refine ⟨G.1, G.2.1, ?_, G.2.2.2⟩
  intro r' hr'
  show va_up (M 10) r k r' < 3
  by_cases h : r' = r
  · subst h; rw [up_eq]; exact hk
  · rw [up_ne _ _ h]; exact G.2.2.1 r' hr'
theorem p_room : P_room Inv := by
  rintro s ⟨M, G, R, R2⟩ x y
  have hbad : ∀ q28 : Int32, ((F_X6_throwing 1 0 s).bind fun q4 =>
      if q4.1 = 0 then
        grd (ixb x 6 = true) <|
        bnd (va_up q4.2 22 (upd (q4.2 22) x.toNatClampNeg y)) fun s8 =>
        some s8
      else
        some q4.2) = some (va_up s 2200 (fun _ => 1)) := by
    intro q28
    rw [thr10]; rfl
  have hl1 : L_X6_room_30 FU x y 1 0 0 s = some 0 := rfl
  cases hx : rb x 0 5 with
  | false =>
    refine Or.inr (Or.inl ⟨va_up s 2200 (fun _ => 1), ?_, ?_, rfl, Inv_thr G R R2 1⟩)
    · unfold F_X5_room
      rw [W05, hx]
      rfl
    · unfold F_X6_room
      simp only [jn]
      rw [N05, hx]
      simp only [Option.bind_some, b2i_f, if_true]
      rw [hl1]
      simp only [Option.bind_some]
      exact hbad 0
  | true =>
    cases hy : rb y 0 2 with
    | false =>
      refine Or.inr (Or.inl ⟨va_up s 2200 (fun _ => 1), ?_, ?_, rfl, Inv_thr G R R2 1⟩)
      · unfold F_X5_room
        rw [W05, hx, W02, hy]
        rfl
      · unfold F_X6_room
        simp only [jn]
        rw [N05, hx, N02, hy]
        simp only [Option.bind_some, b2i_f, b2i_t, one0, if_false, if_true]
        rw [hl1]
        simp only [Option.bind_some]
        exact hbad 0
    | true =>
      obtain ⟨r, -, hr, rfl⟩ := (rb_iff (by decide) (by decide)).mp hx
      obtain ⟨k, -, hk, rfl⟩ := (rb_iff (by decide) (by decide)).mp hy
      have hb := busy0 G R (r := r) (by omega)
      have e16 : (16 : Int32) + nI r = nI (16 + r) := by rw [show (16 : Int32) = nI 16 from rfl, nI_add]
      by_cases h0 : s 19 (16 + r) = 0
      · refine Or.inl ⟨va_up s 17 (upd (s 17) r (nI k)), va_up (va_up (va_up s 17 (upd (s 17) r (nI k))) 2200 (fun _ => 0)) 22 (upd (s 22) r (nI k)), ?_, ?_, rfl, ?_⟩
        · unfold F_X5_room
          rw [W05, hx, W02, hy]
          simp only [Option.bind_some, b2i_t, one0, if_false, bnd]
          rw [e16, grd_t (ixb_nI (by omega) (by decide)), grd_t (ixb_nI (by omega) (by decide)), nI_clamp (by omega), nI_clamp (by omega), if_pos h0]
        · unfold F_X6_room
          simp only [jn]
          rw [N05, hx, N02, hy]
          simp only [Option.bind_some, b2i_f, b2i_t, one0, if_false, if_true]
          have := room_loop G (RepM_fr R2 (upd (s 17) r (nI k)) (k := 17) rfl) (r := r) (by omega) (nI k) FU 0 false (by omega) (FU_gt (by omega))
          rw [show L_X6_room_30 FU (nI r) (nI k) 0 0 0 (va_up s 17 (upd (s 17) r (nI k))) = L_X6_room_30 FU (nI r) (nI k) 0 (b2i false) (nI 0) (va_up s 17 (upd (s 17) r (nI k))) from rfl, this]
          have hz : fnd (fun i => decide (mPl M i ≠ 0) && decide ((mPl M i - 1) % 6 = r)) 0 (64 - 0) = 0 := fnd_none.mpr fun i _ hi => by
            by_cases hp : mPl M i = 0
            · simp [hp]
            · have := hb.mp h0 i (by omega) hp
              simp [this]
          rw [hz]
          simp only [Option.bind_some]
          rw [show F_X6_throwing 0 (b2i (false || decide (0 ≠ 0))) (va_up s 17 (upd (s 17) r (nI k))) = _ from thr00 _]
          simp only [Option.bind_some, if_true, bnd]
          rw [grd_t (ixb_nI (by omega) (by decide)), nI_clamp (by omega)]
          rfl
        · exact ⟨_, Good_rk G (r := r) (k := k) (by omega), RepC_fr (RepC_thr (RepC_rk R) 0) _ rfl, RepM_rk (RepM_thr (RepM_fr R2 _ rfl) 0)⟩
      · refine Or.inr (Or.inr ⟨va_up s 2200 (fun _ => 2), ?_, ?_, rfl, Inv_thr G R R2 2⟩)
        · unfold F_X5_room
          rw [W05, hx, W02, hy]
          simp only [Option.bind_some, b2i_t, one0, if_false, bnd]
          rw [e16, grd_t (ixb_nI (by omega) (by decide)), nI_clamp (by omega), if_neg h0]
        · unfold F_X6_room
          simp only [jn]
          rw [N05, hx, N02, hy]
          simp only [Option.bind_some, b2i_f, b2i_t, one0, if_false, if_true]
          have := room_loop G R2 (r := r) (by omega) (nI k) FU 0 false (by omega) (FU_gt (by omega))
          rw [show L_X6_room_30 FU (nI r) (nI k) 0 0 0 s = L_X6_room_30 FU (nI r) (nI k) 0 (b2i false) (nI 0) s from rfl, this]
          have hz : fnd (fun i => decide (mPl M i ≠ 0) && decide ((mPl M i - 1) % 6 = r)) 0 (64 - 0) ≠ 0 := fun z => h0 (hb.mpr fun i hi hp e => by
            have := fnd_none.mp z i (Nat.zero_le _) (by omega)
            simp [hp, e] at this)
          simp only [Option.bind_some, decide_eq_true hz, Bool.or_true, b2i_t]
          rw [thr01]
          rfl
