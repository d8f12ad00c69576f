/-! ===== the reference's move ===== -/
theorem rest_le {M : MS} (G : Good M) (g : Nat → Nat) (l : Nat) : restP M g l ≤ 2016 := by
  have : restP M g l ≤ 16 * 126 := sumN_le fun u _ => by
    have := PU_le G u (occ M g u)
    split <;> omega
  omega
section Mm
variable {M : MS} {s : Sg}
theorem mvL_M (G : Good M) {i L0 : Nat} (hi : i < 64) (hl : i / 4 < mN M) (hk : i % 4 < mTi M (i / 4)) (hz : mPl M i = 0) (h0 : L0 ≤ 378) (x2 x3 : Int32) : ∀ (fu p : Nat) (s : Sg), RepM M s → p ≤ mD M * mP M → mD M * mP M - p < fu → ∃ t, L_X6_move_31 fu (nI i) x2 x3 (nI (restP M (mPl M) (i / 4) + (mvS M (mPl M) (i / 4) L0 p).2)) (oI (mvS M (mPl M) (i / 4) L0 p).1) (nI p) s = some (oI (mvS M (mPl M) (i / 4) L0 (mD M * mP M)).1, t) ∧ RepM M t ∧ (∀ c, c ≠ 30 → c ≠ 31 → t c = s c) := by
  have h30 := dp_le G
  have hrest := rest_le G (mPl M) (i / 4)
  intro fu
  induction fu with
  | zero => intro p s _ h1 h2; omega
  | succ fu ih =>
    intro p s R h1 h2
    rw [L_X6_move_31, R.1.1, R.1.2.1, pk_mul]
    simp only [jn, nI_leI (show mD M * mP M < 2 ^ 31 by omega) (show p < 2 ^ 31 by omega), bnd]
    by_cases h : mD M * mP M ≤ p
    · have : p = mD M * mP M := by omega
      subst this
      rw [if_pos h]
      exact ⟨s, rfl, R, fun _ _ _ => rfl⟩
    · have hm := mvS_le G (g := mPl M) (l := i / 4) h0 p
      have hp2 := part_le G (mPl M) (i / 4) p
      have hrl := ruleM_lt (M := M) (f := mPl M) (l := i / 4) (p := p)
      rw [if_neg h, rule_M G R hi hl hz (by omega)]
      simp only [Option.bind_some]
      rw [nI_1]
      by_cases hr : ruleM M (mPl M) (i / 4) p = 0
      · obtain ⟨k1, k2, k3, k4, k5⟩ := rule0 hr
        obtain ⟨r, hrr⟩ : ∃ r, freeR M (mPl M) (i / 4) p = r + 1 := ⟨freeR M (mPl M) (i / 4) p - 1, by omega⟩
        have hr6 := (free_iff hrr).1
        have V2 := VP_put G G.2.2.2.1 hi hl hk (by omega) hr hrr
        have G2 := Good_pl G V2
        obtain ⟨a, b, a1, a2⟩ := put_M G R hi hl (by omega) k1 hrr
        have e := pen_M G2 a2
        rw [show pen (va_up M 11 (va_up (mPl M) i (6 * p + r + 1))) (mPl (va_up M 11 (va_up (mPl M) i (6 * p + r + 1)))) = restP M (mPl M) (i / 4) + part M (mPl M) (i / 4) p from pen_put G hi hl hz hr6] at e
        obtain ⟨a', b', o1, o2⟩ := out_M a2 hi
        rw [show va_up (va_up M 11 (va_up (mPl M) i (6 * p + r + 1))) 11 (va_up (mPl (va_up M 11 (va_up (mPl M) i (6 * p + r + 1)))) i 0) = M from by
          rw [up_up]
          show va_up M 11 (va_up (va_up (mPl M) i (6 * p + r + 1)) i 0) = M
          rw [up_up, up_self (mPl M) i hz, pl_self]] at o2
        have fr : ∀ c, c ≠ 30 → c ≠ 31 → va_up (va_up (va_up (va_up s 30 a) 31 b) 30 a') 31 b' c = s c := fun c c1 c2 => by
          rw [up_ne _ _ c2, up_ne _ _ c1, up_ne _ _ c2, up_ne _ _ c1]
        obtain ⟨t, t1, t2, t3⟩ := ih (p + 1) _ o2 (by omega) (by omega)
        rw [hr, if_pos (show nI 0 = 0 from rfl), a1]
        simp only [Option.bind_some]
        rw [e]
        simp only [Option.bind_some]
        rw [o1]
        simp only [Option.bind_some, nI_leI (show restP M (mPl M) (i / 4) + (mvS M (mPl M) (i / 4) L0 p).2 < 2 ^ 31 by omega) (show restP M (mPl M) (i / 4) + part M (mPl M) (i / 4) p < 2 ^ 31 by omega)]
        refine ⟨t, ?_, t2, fun c c1 c2 => by rw [t3 c c1 c2, fr c c1 c2]⟩
        by_cases hc : (mvS M (mPl M) (i / 4) L0 p).2 ≤ part M (mPl M) (i / 4) p
        · rw [if_pos (by omega), if_pos (by omega)]
          rw [mvS_no (by omega)] at t1
          exact t1
        · rw [if_neg (by omega), if_neg (by omega)]
          rw [mvS_yes hr (by omega)] at t1
          exact t1
      · obtain ⟨t, t1, t2, t3⟩ := ih (p + 1) s R (by omega) (by omega)
        rw [if_neg (nI_ne0 (by omega) (by omega))]
        rw [mvS_no (by omega)] at t1
        exact ⟨t, t1, t2, t3⟩
theorem mv_back {f : Nat → Nat} {i : Nat} (hp : f i ≠ 0) : va_up (va_up f i 0) i (6 * ((f i - 1) / 6) + (f i - 1) % 6 + 1) = f := by
  rw [up_up, up_self f i (by omega)]
theorem pen_old (G : Good M) {f : Nat → Nat} {i : Nat} (hi : i < 64) (hl : i / 4 < mN M) (hp : f i ≠ 0) : pen M f = restP M (va_up f i 0) (i / 4) + part M (va_up f i 0) (i / 4) ((f i - 1) / 6) := by
  have := pen_put G (g := va_up f i 0) (p := (f i - 1) / 6) (r := (f i - 1) % 6) hi hl (up_eq _ _ _) (by omega)
  rw [mv_back hp] at this
  exact this
theorem mv_pen (G : Good M) {f : Nat → Nat} (V : VP M f) {i : Nat} (hi : i < 64) (hp : f i ≠ 0) (hb : mvB M f i ≠ 0) : pen M (mvR M f i) < pen M f := by
  obtain ⟨v1, -⟩ := V.1 i hi hp
  obtain ⟨r, r1, r2, r3, r4, r5, r6⟩ := mv_V G V hi hp hb
  rw [pen_old G hi v1 hp, r5, ← up_up f i 0, pen_put G hi v1 (up_eq _ _ _) r2]
  rcases mvS_inv (M := M) (g := va_up f i 0) (l := i / 4) (L0 := part M (va_up f i 0) (i / 4) ((f i - 1) / 6)) (mD M * mP M) with ⟨z, _⟩ | ⟨z1, z2, z3, z4, z5⟩
  · exact absurd z hb
  · rw [z4] at z5
    have : part M (va_up f i 0) (i / 4) (mvB M f i - 1) < part M (va_up f i 0) (i / 4) ((f i - 1) / 6) := z5
    omega
theorem move_M (G : Good M) (R : RepM M s) {i : Nat} (hi : i < 64) (hp : mPl M i ≠ 0) : ∃ t, F_X6_move (nI i) s = some (b2i (decide (mvB M (mPl M) i ≠ 0)), t) ∧ RepM (va_up M 11 (mvR M (mPl M) i)) t ∧ (∀ c, c ≠ 30 → c ≠ 31 → t c = s c) := by
  have V := G.2.2.2.1
  have h30 := dp_le G
  have h180 := pl_lt G V hi
  obtain ⟨v1, v2, v3, v4⟩ := V.1 i hi hp
  obtain ⟨a, b, o1, o2⟩ := out_M R hi
  have V2 := VP_out V i
  have G2 := Good_pl G V2
  have e1 : oI (perO (mPl M) i) = nI ((mPl M i - 1) / 6) := by simp [perO, hp, oI]
  have e2 : oI (romO (mPl M) i) = nI ((mPl M i - 1) % 6) := by simp [romO, hp, oI]
  have hL0 : part M (va_up (mPl M) i 0) (i / 4) ((mPl M i - 1) / 6) ≤ 378 := part_le G _ _ _
  have hpen := pen_M G R
  rw [pen_old G hi v1 hp] at hpen
  obtain ⟨t, t1, t2, t3⟩ := mvL_M G2 (i := i) (L0 := part M (va_up (mPl M) i 0) (i / 4) ((mPl M i - 1) / 6)) hi v1 v2 (up_eq _ _ _) hL0 (nI ((mPl M i - 1) / 6)) (nI ((mPl M i - 1) % 6)) FU 0 _ o2 (by omega) (FU_gt (by show mD M * mP M - 0 < 1000000; omega))
  rw [mvS_up, mvS_up] at t1
  have hB : (mvS M (mPl (va_up M 11 (va_up (mPl M) i 0))) (i / 4) (part M (va_up (mPl M) i 0) (i / 4) ((mPl M i - 1) / 6)) (mD (va_up M 11 (va_up (mPl M) i 0)) * mP (va_up M 11 (va_up (mPl M) i 0)))).1 = mvB M (mPl M) i := rfl
  rw [hB] at t1
  have fr : ∀ c, c ≠ 30 → c ≠ 31 → t c = s c := fun c c1 c2 => by
    rw [t3 c c1 c2, up_ne _ _ c2, up_ne _ _ c1]
  have g64 := ixb_nI hi (show 64 < 2 ^ 31 by decide)
  have hstart : F_X6_move (nI i) s = (if oI (mvB M (mPl M) i) < 0 then some ((0 : Int32), va_up (va_up t 30 (upd (t 30) i (nI ((mPl M i - 1) / 6)))) 31 (upd (t 31) i (nI ((mPl M i - 1) % 6)))) else (F_X6_put (nI i) (oI (mvB M (mPl M) i)) t).bind fun q45 => some ((1 : Int32), q45)) := by
    unfold F_X6_move
    simp only [bnd]
    rw [grd_t g64, grd_t g64, nI_clamp (by omega), (R.2.2.2.1 i hi).1, (R.2.2.2.1 i hi).2, e1, e2, hpen]
    simp only [Option.bind_some]
    rw [o1]
    simp only [Option.bind_some]
    rw [show L_X6_move_31 FU (nI i) (nI ((mPl M i - 1) / 6)) (nI ((mPl M i - 1) % 6)) (nI (restP M (va_up (mPl M) i 0) (i / 4) + part M (va_up (mPl M) i 0) (i / 4) ((mPl M i - 1) / 6))) (-1) 0 (va_up (va_up s 30 a) 31 b) = some (oI (mvB M (mPl M) i), t) from t1]
    simp only [Option.bind_some, grd_t g64]
    rfl
  by_cases hb : mvB M (mPl M) i = 0
  · refine ⟨va_up (va_up t 30 (upd (t 30) i (nI ((mPl M i - 1) / 6)))) 31 (upd (t 31) i (nI ((mPl M i - 1) % 6))), ?_, ?_, ?_⟩
    · rw [hstart, hb, if_pos (show oI 0 < 0 by decide)]
      rfl
    · have q := set_M t2 (i := i) (p := (mPl M i - 1) / 6) (r := (mPl M i - 1) % 6) hi (by omega)
      rw [show va_up (va_up M 11 (va_up (mPl M) i 0)) 11 (va_up (mPl (va_up M 11 (va_up (mPl M) i 0))) i (6 * ((mPl M i - 1) / 6) + (mPl M i - 1) % 6 + 1)) = va_up M 11 (mvR M (mPl M) i) from by
        rw [up_up]
        show va_up M 11 (va_up (va_up (mPl M) i 0) i (6 * ((mPl M i - 1) / 6) + (mPl M i - 1) % 6 + 1)) = _
        rw [mv_back hp]
        unfold mvR; rw [if_pos hb]] at q
      exact q
    · intro c c1 c2
      rw [up_ne _ _ c2, up_ne _ _ c1, fr c c1 c2]
  · obtain ⟨r, r1, r2, r3, r4, r5, r6⟩ := mv_V G V hi hp hb
    obtain ⟨a', b', p1, p2⟩ := put_M G2 t2 (i := i) (p := mvB M (mPl M) i - 1) (r := r) hi v1 r3 (rule0 r4).1 r1
    refine ⟨va_up (va_up t 30 a') 31 b', ?_, ?_, ?_⟩
    · rw [hstart, oI_ne hb, if_neg (nI_pos (by omega)), p1, show decide (mvB M (mPl M) i ≠ 0) = true from by simp [hb]]
      rfl
    · rw [show va_up (va_up M 11 (va_up (mPl M) i 0)) 11 (va_up (mPl (va_up M 11 (va_up (mPl M) i 0))) i (6 * (mvB M (mPl M) i - 1) + r + 1)) = va_up M 11 (mvR M (mPl M) i) from by
        rw [up_up, r5]
        show va_up M 11 (va_up (va_up (mPl M) i 0) i _) = _
        rw [up_up]] at p2
      exact p2
    · intro c c1 c2
      rw [up_ne _ _ c2, up_ne _ _ c1, fr c c1 c2]
end Mm
