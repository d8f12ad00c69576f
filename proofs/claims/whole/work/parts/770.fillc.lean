/-! ===== fill: the class's search ===== -/
def SC (M : MS) (q : Nat → Nat) (n : Nat) (f : Nat → Nat) (a p tr : Nat) (s : Sg) : Prop :=
  RepC (mst M f tr) s ∧ s 202 0 = nI n ∧ (∀ j, j < n → s 2 j = nI (q j)) ∧ (∀ j, j < a → s 3 j = nI (perO f (q j))) ∧ (a < n → s 3 a = nI p)
section Fc
variable {M : MS} {q : Nat → Nat} {n B b : Nat} {f0 : Nat → Nat}
theorem q_64 (hb : b ≤ 64) (Q : QOK M f0 b (n, q)) {j : Nat} (h : j < n) : q j < 64 := Nat.lt_of_lt_of_le (Q.2.1 j h).1 hb
theorem n_64 (hb : b ≤ 64) (Q : QOK M f0 b (n, q)) : n ≤ 64 := Nat.le_trans Q.1 hb
theorem up_id (s : Sg) (c : Nat) : va_up s c (s c) = s := by
  funext k
  by_cases e : k = c
  · subst e; rw [up_eq]
  · rw [up_ne _ _ e]
theorem aim_C (hb : b ≤ 64) (Q : QOK M f0 b (n, q)) {f : Nat → Nat} {a p tr : Nat} {s : Sg} (G : Good (mst M f tr)) (R : RepC (mst M f tr) s) (hn : s 202 0 = nI n) (hq : ∀ j, j < n → s 2 j = nI (q j)) (ha : a < n) (hp : perO f (q a) = p + 1) : ∃ g, F_X4_aim (nI (a + 1)) s = some (va_up s 3 g) ∧ (a + 1 < n → g (a + 1) = nI (nxt q n a p)) ∧ (∀ j, j ≠ a + 1 → g j = s 3 j) := by
  have h64 := n_64 hb Q
  unfold F_X4_aim
  simp only [jn]
  rw [hn]
  simp only [nI_ltI (show a + 1 < 2 ^ 31 by omega) (show n < 2 ^ 31 by omega)]
  by_cases h : a + 1 < n
  · have g1 := q_64 hb Q ha
    have g2 := q_64 hb Q h
    rw [if_pos h, if_neg (nI_nle (by omega) (by omega)), nI_pred, grd_t (ixb_nI (by omega) (by decide)), nI_clamp (by omega), hq a ha, lessonOf_C g1]
    simp only [Option.bind_some]
    rw [grd_t (ixb_nI (by omega) (by decide)), nI_clamp (by omega), hq (a + 1) h, lessonOf_C g2]
    simp only [Option.bind_some, nI_eq (show q a / 4 < 2 ^ 31 by omega) (show q (a + 1) / 4 < 2 ^ 31 by omega), one0, if_false, if_true, bnd]
    by_cases e : q a / 4 = q (a + 1) / 4
    · refine ⟨upd (s 3) (a + 1) (nI p + 1), ?_, fun _ => ?_, fun j hj => pk_un hj⟩
      · rw [if_pos e, grd_t (ixb_nI (by omega) (by decide)), periodOf_C G R g1, show mPl (mst M f tr) = f from rfl, hp]
        simp only [Option.bind_some]
        rw [grd_t (ixb_nI (by omega) (by decide))]
        rfl
      · rw [pk_us, nI_1]; unfold nxt; rw [if_pos ⟨h, e.symm⟩]
    · refine ⟨upd (s 3) (a + 1) 0, ?_, fun _ => ?_, fun j hj => pk_un hj⟩
      · rw [if_neg e, grd_t (ixb_nI (by omega) (by decide))]
      · rw [pk_us]; unfold nxt; rw [if_neg (fun z => e z.2.symm)]; rfl
  · rw [if_neg h]
    exact ⟨s 3, by rw [up_id], fun z => absurd z h, fun _ _ => rfl⟩
theorem try_C (G : Good M) (hb : b ≤ 64) (Q : QOK M f0 b (n, q)) (hB : B ≤ 20000) {f : Nat → Nat} {a p tr : Nat} {s : Sg} (S : SI M q n B f0 a p tr f) (C : SC M q n f a p tr s) (ha : a < n) (hp : p < mD M * mP M) (ht : tr < B) : (ruleM M f (q a / 4) p ≠ 0 → ∃ t, F_X4_tryNext (nI a) s = some (0, t) ∧ SC M q n f a (p + 1) (tr + 1) t ∧ (∀ c, c ≠ 3 → c ≠ 203 → t c = s c)) ∧ (∀ r, ruleM M f (q a / 4) p = 0 → freeR M f (q a / 4) p = r + 1 → ∃ t, F_X4_tryNext (nI a) s = some (1, t) ∧ RepC (mst M (va_up f (q a) (6 * p + r + 1)) (tr + 1)) t ∧ t 3 = upd (s 3) a (nI (p + 1)) ∧ (∀ c, c ≠ 3 → c ≠ 203 → c ≠ 19 → c ≠ 20 → t c = s c)) := by
  have h64 := n_64 hb Q
  have h30 := dp_le G
  obtain ⟨c1, c2, c3, c4, c5⟩ := C
  obtain ⟨q1, q2, q3, q4⟩ := Q.2.1 a ha
  have V := S.2.2.2.1
  have G8 := Good_st G V (tr := tr + 1) (by omega)
  have g1 := q_64 hb Q ha
  have e203 : s 203 0 = nI tr := c1.2.2.2.2.2.2.2.2.1
  have R8 : RepC (mst M f (tr + 1)) (va_up (va_up s 3 (upd (s 3) a (nI (p + 1)))) 203 (fun _ => nI (tr + 1))) := RepC_tr (RepC_3 c1 _) rfl
  have hst : F_X4_tryNext (nI a) s = (F_X0_putByRules (nI (q a)) (nI p) (va_up (va_up s 3 (upd (s 3) a (nI (p + 1)))) 203 (fun _ => nI (tr + 1)))).bind fun q11 =>
      if q11.1 = 0 then some ((1 : Int32), q11.2) else some ((0 : Int32), q11.2) := by
    unfold F_X4_tryNext
    have g64 : ixb (nI a) 64 = true := ixb_nI (by omega) (by decide)
    simp only [bnd, grd_t g64, nI_clamp (show a < 2 ^ 31 by omega), c5 ha, nI_1]
    rw [show va_up s 3 (upd (s 3) a (nI (p + 1))) 203 0 = nI tr from e203, nI_1]
    rw [show va_up (va_up s 3 (upd (s 3) a (nI (p + 1)))) 203 (fun _ => nI (tr + 1)) 2 a = nI (q a) from c3 a ha]
  constructor
  · intro hr
    refine ⟨va_up (va_up s 3 (upd (s 3) a (nI (p + 1)))) 203 (fun _ => nI (tr + 1)), ?_, ⟨R8, c2, c3, fun j hj => ?_, fun _ => ?_⟩, fun c h1 h2 => by rw [up_ne _ _ h2, up_ne _ _ h1]⟩
    · have hlt := ruleM_lt (M := M) (f := f) (l := q a / 4) (p := p)
      rw [hst, putBy_no G8 R8 g1 q2 hp hr]
      simp only [Option.bind_some]
      rw [show ruleM (mst M f (tr + 1)) (mPl (mst M f (tr + 1))) (q a / 4) p = ruleM M f (q a / 4) p from rfl, if_neg (nI_ne0 (by omega) (by omega))]
    · show upd (s 3) a (nI (p + 1)) j = _
      rw [pk_un (by omega)]
      exact c4 j hj
    · show upd (s 3) a (nI (p + 1)) a = _
      rw [pk_us]
  · intro r hr hf
    obtain ⟨x, y, b1, b2⟩ := putBy_C G8 R8 (i := q a) (p := p) (r := r) g1 q2 (S.2.2.2.2.2.1 a (Nat.le_refl _) ha) hp hr hf
    rw [mst_pl] at b2
    refine ⟨va_up (va_up (va_up (va_up s 3 (upd (s 3) a (nI (p + 1)))) 203 (fun _ => nI (tr + 1))) 19 x) 20 y, ?_, b2, rfl, fun c h1 h2 h3 h4 => by rw [up_ne _ _ h4, up_ne _ _ h3, up_ne _ _ h2, up_ne _ _ h1]⟩
    rw [hst, b1]
    rfl
theorem bnd_e {α β : Type} (x : α) (f : α → Option β) : bnd x f = f x := rfl
/-- a turn of the class's search -/
def runB (L : Int32 → Int32 → Int32 → Sg → Option ((Int32 × Sg) ⊕ (Int32 × Sg))) (b2 b3 b4 : Int32) (s : Sg) : Option ((Int32 × Sg) ⊕ (Int32 × Sg)) :=
      if b3 < (s 202 0) then
        grd (ixb b3 64 = true) <|
        if (s 3 b3.toNatClampNeg) < (s 902 0) then
          if (s 203 0) < b2 then
            (F_X4_tryNext b3 s).bind fun q12 =>
            if q12.1 = 0 then
              bnd (b4 + (1 : Int32)) fun x15 =>
              L b2 b3 x15 q12.2
            else
              bnd (b3 + (1 : Int32)) fun x17 =>
              (F_X4_aim x17 q12.2).bind fun q19 =>
              bnd (b4 + (1 : Int32)) fun x21 =>
              L b2 x17 x21 q19
          else
            some (.inr (b3, s))
        else
          bnd (b3 + (-1 : Int32)) fun x23 =>
          if 0 ≤ x23 then
            grd (ixb x23 64 = true) <|
            (F_X0_takeOut (s 2 x23.toNatClampNeg) s).bind fun q27 =>
            bnd (b4 + (1 : Int32)) fun x29 =>
            L b2 x23 x29 q27
          else
            some (.inl ((0 : Int32), s))
      else
        some (.inl ((1 : Int32), s))
theorem run_eq (fu : Nat) (b2 b3 : Int32) {tn : Nat} (s : Sg) (h : tn < 100000) : L_X4_run_21 (fu + 1) b2 b3 (nI tn) s = runB (L_X4_run_21 fu) b2 b3 (nI tn) s := by
  rw [L_X4_run_21, if_neg (show ¬ (100000 : Int32) ≤ nI tn from by rw [i32n 100000, nI_leI (by omega) (by omega)]; omega)]
  generalize L_X4_run_21 fu = L
  rfl
theorem runL_C (G : Good M) (hb : b ≤ 64) (Q : QOK M f0 b (n, q)) (hB : B ≤ 20000) : ∀ (k fu a p tr : Nat) (f : Nat → Nat) (s : Sg) (tn : Nat), SI M q n B f0 a p tr f → SC M q n f a p tr s → 2 * (B - tr) + a < k → 2 * (B - tr) + a < fu → tn + (2 * (B - tr) + a) < 100000 → ∃ t, L_X4_run_21 fu (nI B) (nI a) (nI tn) s = some (if (srun M q n B k a p tr f).1 = 2 then .inr (nI (srun M q n B k a p tr f).2.1, t) else .inl (nI (srun M q n B k a p tr f).1, t)) ∧ RepC (mst M (srun M q n B k a p tr f).2.2.2 (srun M q n B k a p tr f).2.2.1) t ∧ (∀ c, c ≠ 3 → c ≠ 203 → c ≠ 19 → c ≠ 20 → t c = s c) := by
  have h64 := n_64 hb Q
  have h30 := dp_le G
  intro k
  induction k with
  | zero => intro fu a p tr f s tn _ _ h; omega
  | succ k ih =>
    intro fu a p tr f s tn S C hk hfu htn
    cases fu with
    | zero => omega
    | succ fu =>
    obtain ⟨c1, c2, c3, c4, c5⟩ := C
    have e203 : s 203 0 = nI tr := c1.2.2.2.2.2.2.2.2.1
    have e902 : s 902 0 = nI (mD M * mP M) := c1.1.2.2.1
    have ha0 := S.1
    have ht0 := S.2.2.1
    have hp0 := S.2.1
    rw [run_eq fu (nI B) (nI a) s (by omega)]
    have ih := ih fu
    generalize L_X4_run_21 fu = L at ih ⊢
    unfold runB
    rw [c2]
    by_cases h1 : n ≤ a
    · have er : srun M q n B (k + 1) a p tr f = (1, a, tr, f) := by rw [srun, if_pos h1]
      rw [er, if_neg (fun z => absurd ((nI_ltI (by omega) (by omega)).mp z) (by omega))]
      exact ⟨s, rfl, c1, fun _ _ _ _ _ => rfl⟩
    · rw [if_pos ((nI_ltI (by omega) (by omega)).mpr (by omega)), grd_t (ixb_nI (by omega) (by decide)), nI_clamp (by omega), c5 (by omega), e902]
      by_cases h2 : mD M * mP M ≤ p
      · rw [if_neg (fun z => absurd ((nI_ltI (by omega) (by omega)).mp z) (by omega)), bnd_e]
        by_cases h3 : a = 0
        · have er : srun M q n B (k + 1) a p tr f = (0, 0, tr, f) := by rw [srun, if_neg h1, if_pos h2, if_pos h3]
          have hx : nI a + (-1) = -1 := by rw [h3]; decide
          rw [er, hx, if_neg (by decide)]
          exact ⟨s, rfl, c1, fun _ _ _ _ _ => rfl⟩
        · obtain ⟨a', rfl⟩ : ∃ a', a = a' + 1 := ⟨a - 1, by omega⟩
          have er : srun M q n B (k + 1) (a' + 1) p tr f = srun M q n B k a' (perO f (q a')) tr (va_up f (q a') 0) := by rw [srun, if_neg h1, if_pos h2, if_neg h3]; rfl
          have g1 := q_64 hb Q (show a' < n by omega)
          obtain ⟨x, y, b1, b2⟩ := takeOut_C (Good_st G S.2.2.2.1 (tr := tr) (by omega)) c1 (i := q a') g1 (S.2.2.2.2.1 a' (by omega))
          rw [mst_pl] at b2
          rw [er, pk_m1, if_pos (nI_pos' (by omega)), grd_t (ixb_nI (by omega) (by decide)), nI_clamp (by omega), c3 a' (by omega), b1, Option.bind_some, bnd_e, nI_1]
          obtain ⟨t, t1, t2, t3⟩ := ih a' (perO f (q a')) tr (va_up f (q a') 0) (va_up (va_up s 19 x) 20 y) (tn + 1) (SI_back Q hb S) ⟨b2, c2, c3, fun j hj => by
            show s 3 j = _
            rw [c4 j (by omega), (perO_c (f := va_up f (q a') 0) (g := f) (i := q j) (up_ne _ _ (q_ne Q (by omega) (by omega) (by omega)))).1], fun _ => c4 a' (by omega)⟩ (by omega) (by omega) (by omega)
          exact ⟨t, t1, t2, fun c h1 h2 h3 h4 => by rw [t3 c h1 h2 h3 h4, up_ne _ _ h4, up_ne _ _ h3]⟩
      · rw [if_pos ((nI_ltI (by omega) (by omega)).mpr (by omega)), e203]
        by_cases h3 : B ≤ tr
        · have er : srun M q n B (k + 1) a p tr f = (2, a, tr, f) := by rw [srun, if_neg h1, if_neg h2, if_pos h3]
          rw [er, if_neg (fun z => absurd ((nI_ltI (by omega) (by omega)).mp z) (by omega))]
          exact ⟨s, rfl, c1, fun _ _ _ _ _ => rfl⟩
        · rw [if_pos ((nI_ltI (by omega) (by omega)).mpr (by omega))]
          obtain ⟨y1, y2⟩ := try_C G hb Q hB S ⟨c1, c2, c3, c4, c5⟩ (by omega) (by omega) (by omega)
          by_cases h4 : ruleM M f (q a / 4) p = 0
          · obtain ⟨r, hr⟩ : ∃ r, freeR M f (q a / 4) p = r + 1 := ⟨freeR M f (q a / 4) p - 1, by have := (rule0 h4).2.2.2.2; omega⟩
            have er : srun M q n B (k + 1) a p tr f = srun M q n B k (a + 1) (nxt q n a p) (tr + 1) (va_up f (q a) (6 * p + r + 1)) := by rw [srun, if_neg h1, if_neg h2, if_neg h3, if_pos h4, hr]; rfl
            obtain ⟨t, t1, t2, t3, t4⟩ := y2 r h4 hr
            have S2 := SI_put G hb Q S (by omega) (by omega) (by omega) h4 hr
            have hr6 := (free_iff hr).1
            have hper : perO (va_up f (q a) (6 * p + r + 1)) (q a) = p + 1 := by
              unfold perO
              rw [up_eq, if_neg (by omega)]
              omega
            obtain ⟨g, g1, g2, g3⟩ := aim_C hb Q (Good_st G S2.2.2.2.1 (by omega)) t2 (by rw [t4 202 (by decide) (by decide) (by decide) (by decide)]; exact c2) (by rw [t4 2 (by decide) (by decide) (by decide) (by decide)]; exact c3) (show a < n by omega) hper
            rw [er, t1, Option.bind_some, if_neg (show ¬ (1 : Int32) = 0 by decide), bnd_e, nI_1]
            rw [g1, Option.bind_some, bnd_e, nI_1]
            obtain ⟨w, w1, w2, w3⟩ := ih (a + 1) (nxt q n a p) (tr + 1) (va_up f (q a) (6 * p + r + 1)) (va_up t 3 g) (tn + 1) S2 ⟨RepC_3 t2 g, by
                show t 202 0 = _
                rw [t4 202 (by decide) (by decide) (by decide) (by decide)]; exact c2, by
                show ∀ j, j < n → t 2 j = _
                rw [t4 2 (by decide) (by decide) (by decide) (by decide)]; exact c3, fun j hj => by
                show g j = _
                rw [g3 j (by omega), t3]
                by_cases e : j = a
                · rw [e, pk_us, hper]
                · rw [pk_un e, c4 j (by omega), (perO_c (f := va_up f (q a) (6 * p + r + 1)) (g := f) (i := q j) (up_ne _ _ (q_ne Q (by omega) (by omega) e))).1], fun h => g2 h⟩ (by omega) (by omega) (by omega)
            exact ⟨w, w1, w2, fun c h1 h2 h3 h4 => by rw [w3 c h1 h2 h3 h4, up_ne _ _ h1, t4 c h1 h2 h3 h4]⟩
          · have er : srun M q n B (k + 1) a p tr f = srun M q n B k a (p + 1) (tr + 1) f := by rw [srun, if_neg h1, if_neg h2, if_neg h3, if_neg h4]
            obtain ⟨t, t1, t2, t3⟩ := y1 h4
            rw [er, t1, Option.bind_some, if_pos rfl, bnd_e, nI_1]
            obtain ⟨w, w1, w2, w3⟩ := ih a (p + 1) (tr + 1) f t (tn + 1) (SI_fail S (by omega) (by omega)) t2 (by omega) (by omega) (by omega)
            exact ⟨w, w1, w2, fun c h1 h2 h3 h4 => by rw [w3 c h1 h2 h3 h4, t3 c h1 h2]⟩
theorem outL_C (G : Good M) (hb : b ≤ 64) (Q : QOK M f0 b (n, q)) (hB : B ≤ 20000) {a p tr : Nat} {f : Nat → Nat} (S : SI M q n B f0 a p tr f) : ∀ (fu j : Nat) (s : Sg), RepC (mst M (outs q f j) tr) s → (∀ j, j < n → s 2 j = nI (q j)) → j ≤ a → a - j < fu → ∃ t, L_X4_takeAllOut_2 fu (nI a) (nI j) s = some t ∧ RepC (mst M (outs q f a) tr) t ∧ (∀ c, c ≠ 19 → c ≠ 20 → t c = s c) := by
  have h64 := n_64 hb Q
  have ha := S.1
  have ht := S.2.2.1
  intro fu
  induction fu with
  | zero => intro j s _ _ h1 h2; omega
  | succ fu ih =>
    intro j s R hq h1 h2
    rw [L_X4_takeAllOut_2]
    simp only [nI_leI (show a < 2 ^ 31 by omega) (show j < 2 ^ 31 by omega), bnd, nI_1]
    by_cases h : a ≤ j
    · have : j = a := by omega
      subst this
      rw [if_pos h]
      exact ⟨s, rfl, R, fun _ _ _ => rfl⟩
    · obtain ⟨x, y, b1, b2⟩ := takeOut_C (Good_st G (VP_outs S.2.2.2.1 j) (tr := tr) (by omega)) R (i := q j) (q_64 hb Q (by omega)) (by
        show outs q f j (q j) ≠ 0
        rw [outs_ne (fun k hk => q_ne Q (by omega) (by omega) (by omega))]
        exact S.2.2.2.2.1 j (by omega))
      rw [mst_pl] at b2
      rw [if_neg h, grd_t (ixb_nI (by omega) (by decide)), nI_clamp (by omega), hq j (by omega), b1]
      simp only [Option.bind_some]
      obtain ⟨t, t1, t2, t3⟩ := ih (j + 1) _ b2 hq (by omega) (by omega)
      exact ⟨t, t1, t2, fun c h1 h2 => by rw [t3 c h1 h2, up_ne _ _ h2, up_ne _ _ h1]⟩
end Fc
def fillR (M : MS) (B : Nat) : Nat × Nat × Nat × (Nat → Nat) := srun M (colL (mTi M) (mPl M) (mN M)).2 (colL (mTi M) (mPl M) (mN M)).1 B (2 * B + 1) 0 0 0 (mPl M)
def fillF (M : MS) (B : Nat) : Nat → Nat := if (fillR M B).1 = 1 then (fillR M B).2.2.2 else mPl M
theorem fill_Q {M : MS} (G : Good M) : QOK M (mPl M) (4 * mN M) ((colL (mTi M) (mPl M) (mN M)).1, (colL (mTi M) (mPl M) (mN M)).2) := colL_ok G (mN M) (Nat.le_refl _)
theorem fill_SI {M : MS} (G : Good M) (B : Nat) : SI M (colL (mTi M) (mPl M) (mN M)).2 (colL (mTi M) (mPl M) (mN M)).1 B (mPl M) (fillR M B).2.1 0 (fillR M B).2.2.1 (fillR M B).2.2.2 ∧ (((fillR M B).1 = 0 ∧ (fillR M B).2.1 = 0) ∨ ((fillR M B).1 = 1 ∧ (fillR M B).2.1 = (colL (mTi M) (mPl M) (mN M)).1) ∨ (fillR M B).1 = 2) :=
  srun_SI G (by have := good_N G; omega) (fill_Q G) (2 * B + 1) 0 0 0 (mPl M) (SI_start G.2.2.2.1 (fill_Q G)) (by omega)
theorem run_C {M : MS} (G : Good M) {s : Sg} (R : RepC M s) {B : Nat} (hB : B ≤ 20000) : ∃ t, F_X4_run (nI B) s = some (nI (fillR M B).1, t) ∧ RepC (mst M (fillF M B) (fillR M B).2.2.1) t ∧ t 202 0 = nI (colL (mTi M) (mPl M) (mN M)).1 ∧ (∀ c, c ≠ 2 → c ≠ 3 → c ≠ 19 → c ≠ 20 → c ≠ 202 → c ≠ 203 → t c = s c) := by
  have V := G.2.2.2.1
  have hb : 4 * mN M ≤ 64 := by have := good_N G; omega
  have Q := fill_Q G
  have h64 := n_64 hb Q
  obtain ⟨SF, hans⟩ := fill_SI G B
  have R1 : RepC (mst M (mPl M) 0) (va_up s 203 (fun _ => 0)) := RepC_tr (RepC_st R) rfl
  obtain ⟨c, c1, c2, c3, c4, c5⟩ := collect_C (Good_st G V (tr := 0) (by omega)) R1
  have c2 : c 202 0 = nI (colL (mTi M) (mPl M) (mN M)).1 := c2
  have c3 : ∀ j, j < (colL (mTi M) (mPl M) (mN M)).1 → c 2 j = nI ((colL (mTi M) (mPl M) (mN M)).2 j) := c3
  have haim : ∃ g, F_X4_aim 0 c = some (va_up c 3 g) ∧ (0 < (colL (mTi M) (mPl M) (mN M)).1 → g 0 = nI 0) := by
    unfold F_X4_aim
    simp only [jn]
    rw [c2, show (0 : Int32) = nI 0 from rfl]
    by_cases h : 0 < (colL (mTi M) (mPl M) (mN M)).1
    · rw [if_pos ((nI_ltI (by decide) (by show (colL (mTi M) (mPl M) (mN M)).1 < _; omega)).mpr h), if_pos (by decide), if_pos trivial, grd_t (ixb_nI (by decide) (by decide))]
      exact ⟨upd (c 3) 0 (nI 0), rfl, fun _ => pk_us⟩
    · rw [if_neg (fun z => h ((nI_ltI (by decide) (by show (colL (mTi M) (mPl M) (mN M)).1 < _; omega)).mp z))]
      exact ⟨c 3, by rw [up_id], fun z => absurd z h⟩
  obtain ⟨g, g1, g2⟩ := haim
  obtain ⟨t, t1, t2, t3⟩ := runL_C G hb Q hB (2 * B + 1) FU 0 0 0 (mPl M) (va_up c 3 g) 0 (SI_start V Q) ⟨RepC_3 c5 g, c2, c3, fun j hj => absurd hj (Nat.not_lt_zero j), g2⟩ (by omega) (FU_gt (by omega)) (by omega)
  have t1' : L_X4_run_21 FU (nI B) 0 0 (va_up c 3 g) = some (if (fillR M B).1 = 2 then .inr (nI (fillR M B).2.1, t) else .inl (nI (fillR M B).1, t)) := t1
  have t2' : RepC (mst M (fillR M B).2.2.2 (fillR M B).2.2.1) t := t2
  have hst : F_X4_run (nI B) s = (match (if (fillR M B).1 = 2 then (Sum.inr (nI (fillR M B).2.1, t) : (Int32 × Sg) ⊕ (Int32 × Sg)) else .inl (nI (fillR M B).1, t)) with
      | .inl v33 => some v33
      | .inr t34 =>
      (F_X4_takeAllOut t34.1 t34.2).bind fun q35 =>
      some ((2 : Int32), q35)) := by
    unfold F_X4_run
    simp only [bnd]
    rw [c1]
    simp only [Option.bind_some]
    rw [g1]
    simp only [Option.bind_some]
    rw [t1']
    rfl
  have t202 : t 202 = c 202 := by rw [t3 202 (by decide) (by decide) (by decide) (by decide)]; rfl
  by_cases h2 : (fillR M B).1 = 2
  · rw [if_pos h2] at hst
    obtain ⟨w, w1, w2, w3⟩ := outL_C G hb Q hB SF FU 0 t t2' (by
      intro j hj
      rw [t3 2 (by decide) (by decide) (by decide) (by decide)]
      exact c3 j hj) (by omega) (FU_gt (by have := SF.1; omega))
    rw [outs_f0 Q SF] at w2
    refine ⟨w, ?_, ?_, ?_, ?_⟩
    · rw [hst, h2]
      unfold F_X4_takeAllOut
      dsimp only
      rw [show L_X4_takeAllOut_2 FU (nI (fillR M B).2.1) 0 t = some w from w1]
      rfl
    · unfold fillF
      rw [if_neg (by omega)]
      exact w2
    · rw [w3 202 (by decide) (by decide), t202]; exact c2
    · intro k k1 k2 k3 k4 k5 k6
      rw [w3 k k3 k4, t3 k k2 k6 k3 k4, up_ne _ _ k2, c4 k k1 k5, up_ne _ _ k6]
  · rw [if_neg h2] at hst
    refine ⟨t, hst, ?_, ?_, ?_⟩
    · unfold fillF
      rcases hans with ⟨h0, ha⟩ | ⟨h1, _⟩ | h
      · rw [if_neg (by omega)]
        rw [ha] at SF
        rw [← SI_0 Q SF]
        exact t2'
      · rw [if_pos h1]; exact t2'
      · exact absurd h h2
    · rw [t202]; exact c2
    · intro k k1 k2 k3 k4 k5 k6
      rw [t3 k k2 k6 k3 k4, up_ne _ _ k2, c4 k k1 k5, up_ne _ _ k6]
