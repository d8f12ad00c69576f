/-! ===== fill: the unplaced items, in their order ===== -/
def colK (f : Nat → Nat) (l : Nat) (a : Nat × (Nat → Nat)) : Nat → Nat × (Nat → Nat)
  | 0 => a
  | k + 1 => if f (4 * l + k) = 0 then ((colK f l a k).1 + 1, va_up (colK f l a k).2 (colK f l a k).1 (4 * l + k)) else colK f l a k
def colL (ti : Nat → Nat) (f : Nat → Nat) : Nat → Nat × (Nat → Nat)
  | 0 => (0, fun _ => 0)
  | l + 1 => colK f l (colL ti f l) (ti l)
/-- n items q, below b, unplaced, in order -/
def QOK (M : MS) (f : Nat → Nat) (b : Nat) (a : Nat × (Nat → Nat)) : Prop :=
  a.1 ≤ b ∧ (∀ j, j < a.1 → a.2 j < b ∧ a.2 j / 4 < mN M ∧ a.2 j % 4 < mTi M (a.2 j / 4) ∧ f (a.2 j) = 0) ∧ (∀ j k, j < k → k < a.1 → a.2 j < a.2 k) ∧ (∀ i, i < b → i / 4 < mN M → i % 4 < mTi M (i / 4) → f i = 0 → ∃ j, j < a.1 ∧ a.2 j = i)
theorem colK_ok {M : MS} (G : Good M) {f : Nat → Nat} {l : Nat} (hl : l < mN M) {a : Nat × (Nat → Nat)} (h : QOK M f (4 * l) a) : ∀ k : Nat, k ≤ mTi M l → QOK M f (4 * l + k) (colK f l a k)
  | 0, _ => h
  | k + 1, hk => by
    have hti := (G.2.1 l hl).2.2.2.2.2.2.2.1
    obtain ⟨h1, h2, h3, h4⟩ := colK_ok G hl h k (by omega)
    have e4 : (4 * l + k) / 4 = l := by omega
    have m4 : (4 * l + k) % 4 = k := by omega
    rw [colK]
    by_cases h0 : f (4 * l + k) = 0
    · rw [if_pos h0]
      generalize colK f l a k = c at *
      refine ⟨by show c.1 + 1 ≤ _; omega, ?_, ?_, ?_⟩
      · intro j hj
        have hj2 : j < c.1 + 1 := hj
        show va_up c.2 c.1 (4 * l + k) j < _ ∧ va_up c.2 c.1 (4 * l + k) j / 4 < _ ∧ va_up c.2 c.1 (4 * l + k) j % 4 < mTi M (va_up c.2 c.1 (4 * l + k) j / 4) ∧ f (va_up c.2 c.1 (4 * l + k) j) = 0
        by_cases e : j = c.1
        · rw [e, up_eq, e4, m4]; exact ⟨by omega, hl, by omega, h0⟩
        · rw [up_ne _ _ e]
          obtain ⟨q1, q2⟩ := h2 j (by omega)
          exact ⟨by omega, q2⟩
      · intro j j' hj hj'
        have hj2 : j' < c.1 + 1 := hj'
        show va_up c.2 c.1 (4 * l + k) j < va_up c.2 c.1 (4 * l + k) j'
        by_cases e : j' = c.1
        · rw [e, up_eq, up_ne _ _ (by omega)]
          exact (h2 j (by omega)).1
        · rw [up_ne _ _ e, up_ne _ _ (by omega)]
          exact h3 j j' hj (by omega)
      · intro i hi q1 q2 q3
        show ∃ j, j < c.1 + 1 ∧ va_up c.2 c.1 (4 * l + k) j = i
        by_cases e : i = 4 * l + k
        · exact ⟨c.1, by omega, by rw [up_eq, e]⟩
        · obtain ⟨j, j1, j2⟩ := h4 i (by omega) q1 q2 q3
          exact ⟨j, by omega, by rw [up_ne _ _ (by omega)]; exact j2⟩
    · rw [if_neg h0]
      refine ⟨by omega, fun j hj => ?_, h3, ?_⟩
      · obtain ⟨q1, q2⟩ := h2 j hj
        exact ⟨by omega, q2⟩
      · intro i hi q1 q2 q3
        by_cases e : i = 4 * l + k
        · rw [e] at q3; exact absurd q3 h0
        · exact h4 i (by omega) q1 q2 q3
theorem colL_ok {M : MS} (G : Good M) {f : Nat → Nat} : ∀ l : Nat, l ≤ mN M → QOK M f (4 * l) (colL (mTi M) f l)
  | 0, _ => ⟨Nat.le_refl _, fun j hj => absurd hj (Nat.not_lt_zero j), fun j k _ hk => absurd hk (Nat.not_lt_zero k), fun i hi => by omega⟩
  | l + 1, hl => by
    have hti := (G.2.1 l (by omega)).2.2.2.2.2.2.2.1
    obtain ⟨h1, h2, h3, h4⟩ := colK_ok G (by omega) (colL_ok G (f := f) l (by omega)) (mTi M l) (Nat.le_refl _)
    rw [colL]
    refine ⟨by omega, fun j hj => ?_, h3, ?_⟩
    · obtain ⟨q1, q2⟩ := h2 j hj
      exact ⟨by omega, q2⟩
    · intro i hi q1 q2 q3
      by_cases e : i < 4 * l + mTi M l
      · exact h4 i e q1 q2 q3
      · have : i / 4 = l := by omega
        rw [this] at q2
        omega
section Qu
variable {M : MS}
theorem colKL_C (G : Good M) {l : Nat} (hl : l < mN M) {a : Nat × (Nat → Nat)} (ha : QOK M (mPl M) (4 * l) a) : ∀ (fu k : Nat) (s : Sg), RepC M s → s 202 0 = nI (colK (mPl M) l a k).1 → (∀ j, j < (colK (mPl M) l a k).1 → s 2 j = nI ((colK (mPl M) l a k).2 j)) → k ≤ mTi M l → mTi M l - k < fu → ∃ t, L_X4_collect_20 fu (nI l) (nI k) s = some t ∧ t 202 0 = nI (colK (mPl M) l a (mTi M l)).1 ∧ (∀ j, j < (colK (mPl M) l a (mTi M l)).1 → t 2 j = nI ((colK (mPl M) l a (mTi M l)).2 j)) ∧ (∀ c, c ≠ 2 → c ≠ 202 → t c = s c) ∧ RepC M t := by
  have hN := good_N G
  have hti := (G.2.1 l hl).2.2.2.2.2.2.2.1
  intro fu
  induction fu with
  | zero => intro k s _ _ _ h1 h2; omega
  | succ fu ih =>
    intro k s R hc hq h1 h2
    rw [L_X4_collect_20, grd_t (ixb_nI (by omega) (by decide)), nI_clamp (by omega), (R.2.2.1 l (by omega)).2.2.2.2.2.1]
    simp only [nI_leI (show mTi M l < 2 ^ 31 by omega) (show k < 2 ^ 31 by omega), bnd, nI_1]
    by_cases h : mTi M l ≤ k
    · have : k = mTi M l := by omega
      subst this
      rw [if_pos h]
      exact ⟨s, rfl, hc, hq, fun _ _ _ => rfl, R⟩
    · have hok := colK_ok G hl ha k (by omega)
      rw [if_neg h, itemOf_C]
      simp only [Option.bind_some]
      rw [isPlaced_C G R (by omega)]
      simp only [Option.bind_some, b2i_z]
      have ih2 := ih (k + 1)
      rw [colK] at ih2
      by_cases h0 : mPl M (4 * l + k) = 0
      · rw [if_pos h0] at ih2
        rw [if_pos (by simp [h0]), hc, grd_t (ixb_nI (show (colK (mPl M) l a k).1 < 64 by have := hok.1; omega) (by decide)), nI_clamp (by have := hok.1; omega)]
        generalize colK (mPl M) l a k = c at *
        obtain ⟨t, t1, t2, t3, t4, t5⟩ := ih2 (va_up (va_up s 2 (upd (s 2) c.1 (nI (4 * l + k)))) 202 (fun _ => va_up s 2 (upd (s 2) c.1 (nI (4 * l + k))) 202 0 + 1)) R (by
          show s 202 0 + 1 = nI (c.1 + 1)
          rw [hc, nI_1]) (by
          intro j hj
          have hj2 : j < c.1 + 1 := hj
          show upd (s 2) c.1 (nI (4 * l + k)) j = nI (va_up c.2 c.1 (4 * l + k) j)
          by_cases e : j = c.1
          · rw [e, pk_us, up_eq]
          · rw [pk_un e, up_ne _ _ e]; exact hq j (by omega)) (by omega) (by omega)
        refine ⟨t, t1, t2, t3, fun c c1 c2 => by rw [t4 c c1 c2, up_ne _ _ c2, up_ne _ _ c1], t5⟩
      · rw [if_neg h0] at ih2
        rw [if_neg (by simp [h0])]
        exact ih2 s R hc hq (by omega) (by omega)
theorem colLL_C (G : Good M) : ∀ (fu l : Nat) (s : Sg), RepC M s → s 202 0 = nI (colL (mTi M) (mPl M) l).1 → (∀ j, j < (colL (mTi M) (mPl M) l).1 → s 2 j = nI ((colL (mTi M) (mPl M) l).2 j)) → l ≤ mN M → mN M - l < fu → ∃ t, L_X4_collect_7 fu (nI l) s = some t ∧ t 202 0 = nI (colL (mTi M) (mPl M) (mN M)).1 ∧ (∀ j, j < (colL (mTi M) (mPl M) (mN M)).1 → t 2 j = nI ((colL (mTi M) (mPl M) (mN M)).2 j)) ∧ (∀ c, c ≠ 2 → c ≠ 202 → t c = s c) ∧ RepC M t := by
  have hN := good_N G
  intro fu
  induction fu with
  | zero => intro l s _ _ _ h1 h2; omega
  | succ fu ih =>
    intro l s R hc hq h1 h2
    rw [L_X4_collect_7, R.1.2.2.2]
    simp only [nI_leI (show mN M < 2 ^ 31 by omega) (show l < 2 ^ 31 by omega), bnd, nI_1]
    by_cases h : mN M ≤ l
    · have : l = mN M := by omega
      subst this
      rw [if_pos h]
      exact ⟨s, rfl, hc, hq, fun _ _ _ => rfl, R⟩
    · have hti := (G.2.1 l (by omega)).2.2.2.2.2.2.2.1
      obtain ⟨t, t1, t2, t3, t4, t5⟩ := colKL_C G (l := l) (by omega) (colL_ok G l (by omega)) FU 0 s R hc hq (by omega) (FU_gt (by omega))
      rw [if_neg h, show L_X4_collect_20 FU (nI l) 0 s = some t from t1]
      simp only [Option.bind_some]
      obtain ⟨w, w1, w2, w3, w4, w5⟩ := ih (l + 1) t t5 t2 t3 (by omega) (by omega)
      exact ⟨w, w1, w2, w3, fun c c1 c2 => by rw [w4 c c1 c2, t4 c c1 c2], w5⟩
theorem collect_C (G : Good M) {s : Sg} (R : RepC M s) : ∃ t, F_X4_collect s = some t ∧ t 202 0 = nI (colL (mTi M) (mPl M) (mN M)).1 ∧ (∀ j, j < (colL (mTi M) (mPl M) (mN M)).1 → t 2 j = nI ((colL (mTi M) (mPl M) (mN M)).2 j)) ∧ (∀ c, c ≠ 2 → c ≠ 202 → t c = s c) ∧ RepC M t := by
  have hN := good_N G
  obtain ⟨t, t1, t2, t3, t4, t5⟩ := colLL_C G FU 0 (va_up s 202 (fun _ => 0)) R rfl (fun j hj => absurd hj (Nat.not_lt_zero j)) (by omega) (FU_gt (by omega))
  refine ⟨t, ?_, t2, t3, fun c c1 c2 => by rw [t4 c c1 c2, up_ne _ _ c2], t5⟩
  unfold F_X4_collect
  simp only [bnd]
  rw [show L_X4_collect_7 FU 0 (va_up s 202 (fun _ => 0)) = some t from t1]
  rfl
theorem colKL_M (G : Good M) {l : Nat} (hl : l < mN M) {a : Nat × (Nat → Nat)} (ha : QOK M (mPl M) (4 * l) a) (x : Int32) : ∀ (fu k : Nat) (s : Sg), RepM M s → (∀ j, j < (colK (mPl M) l a k).1 → s 33 j = nI ((colK (mPl M) l a k).2 j)) → k ≤ mTi M l → mTi M l - k < fu → ∃ t, L_X6_fill_45 fu x (nI (colK (mPl M) l a k).1) (nI l) (nI k) s = some (nI (colK (mPl M) l a (mTi M l)).1, t) ∧ (∀ j, j < (colK (mPl M) l a (mTi M l)).1 → t 33 j = nI ((colK (mPl M) l a (mTi M l)).2 j)) ∧ (∀ c, c ≠ 33 → t c = s c) ∧ RepM M t := by
  have hN := good_N G
  have hti := (G.2.1 l hl).2.2.2.2.2.2.2.1
  intro fu
  induction fu with
  | zero => intro k s _ _ h1 h2; omega
  | succ fu ih =>
    intro k s R hq h1 h2
    rw [L_X6_fill_45, grd_t (ixb_nI (by omega) (by decide)), nI_clamp (by omega), (R.2.1 l (by omega)).2.2.2.2.2.1]
    simp only [nI_leI (show mTi M l < 2 ^ 31 by omega) (show k < 2 ^ 31 by omega), bnd, nI_1]
    by_cases h : mTi M l ≤ k
    · have : k = mTi M l := by omega
      subst this
      rw [if_pos h]
      exact ⟨s, rfl, hq, fun _ _ => rfl, R⟩
    · have hok := colK_ok G hl ha k (by omega)
      have hpl := pl_lt G G.2.2.2.1 (show 4 * l + k < 64 by omega)
      have ex : (4 : Int32) * nI l + nI k = nI (4 * l + k) := by rw [show (4 : Int32) = nI 4 from rfl, pk_mul, nI_add]
      rw [if_neg h, ex, grd_t (ixb_nI (by omega) (by decide)), nI_clamp (by omega), (R.2.2.2.1 (4 * l + k) (by omega)).1]
      simp only [oI_pos (po_lt hpl).1]
      have ih2 := ih (k + 1)
      rw [colK] at ih2
      by_cases h0 : mPl M (4 * l + k) = 0
      · rw [if_pos h0] at ih2
        rw [if_neg (by unfold perO; rw [if_pos h0]; omega), grd_t (ixb_nI (show (colK (mPl M) l a k).1 < 64 by have := hok.1; omega) (by decide)), nI_clamp (by have := hok.1; omega)]
        generalize colK (mPl M) l a k = c at *
        obtain ⟨t, t1, t3, t4, t5⟩ := ih2 (va_up s 33 (upd (s 33) c.1 (nI (4 * l + k)))) R (by
          intro j hj
          have hj2 : j < c.1 + 1 := hj
          show upd (s 33) c.1 (nI (4 * l + k)) j = nI (va_up c.2 c.1 (4 * l + k) j)
          by_cases e : j = c.1
          · rw [e, pk_us, up_eq]
          · rw [pk_un e, up_ne _ _ e]; exact hq j (by omega)) (by omega) (by omega)
        refine ⟨t, ?_, t3, fun c c1 => by rw [t4 c c1, up_ne _ _ c1], t5⟩
        exact t1
      · rw [if_neg h0] at ih2
        rw [if_pos (by unfold perO; rw [if_neg h0]; omega)]
        exact ih2 s R hq (by omega) (by omega)
theorem colLL_M (G : Good M) (x : Int32) : ∀ (fu l : Nat) (s : Sg), RepM M s → (∀ j, j < (colL (mTi M) (mPl M) l).1 → s 33 j = nI ((colL (mTi M) (mPl M) l).2 j)) → l ≤ mN M → mN M - l < fu → ∃ t, L_X6_fill_34 fu x (nI (colL (mTi M) (mPl M) l).1) (nI l) s = some (nI (colL (mTi M) (mPl M) (mN M)).1, t) ∧ (∀ j, j < (colL (mTi M) (mPl M) (mN M)).1 → t 33 j = nI ((colL (mTi M) (mPl M) (mN M)).2 j)) ∧ (∀ c, c ≠ 33 → t c = s c) ∧ RepM M t := by
  have hN := good_N G
  intro fu
  induction fu with
  | zero => intro l s _ _ h1 h2; omega
  | succ fu ih =>
    intro l s R hq h1 h2
    rw [L_X6_fill_34, R.1.2.2]
    simp only [nI_leI (show mN M < 2 ^ 31 by omega) (show l < 2 ^ 31 by omega), bnd, nI_1]
    by_cases h : mN M ≤ l
    · have : l = mN M := by omega
      subst this
      rw [if_pos h]
      exact ⟨s, rfl, hq, fun _ _ => rfl, R⟩
    · have hti := (G.2.1 l (by omega)).2.2.2.2.2.2.2.1
      obtain ⟨t, t1, t3, t4, t5⟩ := colKL_M G (l := l) (by omega) (colL_ok G l (by omega)) x FU 0 s R hq (by omega) (FU_gt (by omega))
      rw [if_neg h, show L_X6_fill_45 FU x (nI (colL (mTi M) (mPl M) l).1) (nI l) 0 s = _ from t1]
      simp only [Option.bind_some]
      obtain ⟨w, w1, w3, w4, w5⟩ := ih (l + 1) t t5 t3 (by omega) (by omega)
      exact ⟨w, w1, w3, fun c c1 => by rw [w4 c c1, t4 c c1], w5⟩
end Qu
