/-! ===== fill: the reference's search ===== -/
def ctP (L : Int32 → Int32 → Int32 → Int32 → Int32 → Sg → Option (Int32 × Int32 × Sg)) (b1 b2 b3 x48 : Int32) (x46 x47 x49 : Int32) (s50 : Sg) : Option (Int32 × Int32 × Sg) :=
  if x49 = 0 then
    if x47 = 0 then
      bnd (b3 + (-1 : Int32)) fun x53 =>
      if x53 < 0 then
        L b1 b2 x53 x46 x47 s50
      else
        grd (ixb x53 64 = true) <|
        grd (ixb (s50 33 x53.toNatClampNeg) 64 = true) <|
        bnd ((s50 30 (s50 33 x53.toNatClampNeg).toNatClampNeg) + (1 : Int32)) fun x58 =>
        grd (ixb x53 64 = true) <|
        (F_X6_out (s50 33 x53.toNatClampNeg) s50).bind fun q61 =>
        L b1 b2 x53 x58 x47 q61
    else
      L b1 b2 b3 x46 x47 s50
  else
    bnd (b3 + (1 : Int32)) fun x63 =>
    if b2 ≤ x63 then
      if (0 : Int32) = 0 then
        L b1 b2 x63 (0 : Int32) x47 s50
      else
        bnd (x46 + (1 : Int32)) fun x43 =>
        L b1 b2 x63 x43 x47 s50
    else
      grd (ixb x63 64 = true) <|
      (F_X6_lessonOf (s50 33 x63.toNatClampNeg) s50).bind fun q67 =>
      (F_X6_lessonOf x48 s50).bind fun q69 =>
      if q67 = q69 then
        if (1 : Int32) = 0 then
          L b1 b2 x63 (0 : Int32) x47 s50
        else
          bnd (x46 + (1 : Int32)) fun x43 =>
          L b1 b2 x63 x43 x47 s50
      else
        if (0 : Int32) = 0 then
          L b1 b2 x63 (0 : Int32) x47 s50
        else
          bnd (x46 + (1 : Int32)) fun x43 =>
          L b1 b2 x63 x43 x47 s50
def ctO (L : Int32 → Int32 → Int32 → Int32 → Int32 → Sg → Option (Int32 × Int32 × Sg)) (b1 b2 b3 x48 : Int32) (q96 : Int32 × Int32 × Int32 × Sg) : Option (Int32 × Int32 × Sg) := ctP L b1 b2 b3 x48 q96.1 q96.2.1 q96.2.2.1 q96.2.2.2
theorem ctO_p (L : Int32 → Int32 → Int32 → Int32 → Int32 → Sg → Option (Int32 × Int32 × Sg)) (b1 b2 b3 x48 x46 x47 x49 : Int32) (s50 : Sg) : ctO L b1 b2 b3 x48 (x46, x47, x49, s50) = ctP L b1 b2 b3 x48 x46 x47 x49 s50 := rfl
theorem out_eq (fu : Nat) (b1 b2 b3 b4 b5 : Int32) (s : Sg) : L_X6_fill_110 (fu + 1) b1 b2 b3 b4 b5 s = (if b3 < 0 then some (b3, b5, s) else if b2 ≤ b3 then some (b3, b5, s) else if b5 = 0 then grd (ixb b3 64 = true) ((L_X6_fill_135 FU b1 b2 b3 b4 b5 (s 33 b3.toNatClampNeg) 0 s).bind (ctO (L_X6_fill_110 fu) b1 b2 b3 (s 33 b3.toNatClampNeg))) else some (b3, b5, s)) := by
  rw [L_X6_fill_110]
  generalize L_X6_fill_110 fu = L
  generalize FU = W
  rfl
theorem jn_e {α β : Type} (J : α) (f : α → Option β) : jn J f = f J := rfl
def inJ (L : Int32 → Int32 → Int32 → Int32 → Int32 → Int32 → Int32 → Sg → Option (Int32 × Int32 × Int32 × Sg)) (b1 b2 b3 b6 x78 : Int32) (s : Sg) : Option (Int32 × Int32 × Int32 × Sg) :=
  (F_X6_rule b6 x78 s).bind fun q85 =>
  if q85 = 0 then
    (F_X6_put b6 x78 s).bind fun q90 =>
    L b1 b2 b3 x78 0 b6 (1 : Int32) q90
  else
    bnd (x78 + (1 : Int32)) fun x88 =>
    L b1 b2 b3 x88 0 b6 (0 : Int32) s
theorem in_eq (fu : Nat) (b1 b2 b3 b4 b6 : Int32) (s : Sg) : L_X6_fill_135 (fu + 1) b1 b2 b3 b4 0 b6 0 s = (if ((s 2201 0) * (s 2202 0)) ≤ b4 then some (b4, 0, 0, s) else if (s 2215 0) = b1 then L_X6_fill_135 fu b1 b2 b3 b4 1 b6 0 s else inJ (L_X6_fill_135 fu) b1 b2 b3 b6 b4 (va_up s 2215 (fun _ => ((s 2215 0) + (1 : Int32))))) := by
  rw [L_X6_fill_135]
  generalize L_X6_fill_135 fu = L
  rw [jn_e, if_pos rfl, if_pos rfl]
  rfl
theorem in_s1 (fu : Nat) (b1 b2 b3 b4 b6 : Int32) (s : Sg) : L_X6_fill_135 (fu + 1) b1 b2 b3 b4 1 b6 0 s = some (b4, 1, 0, s) := by
  rw [L_X6_fill_135]
  generalize L_X6_fill_135 fu = L
  rw [jn_e, if_pos rfl, if_neg (by decide)]
theorem in_s2 (fu : Nat) (b1 b2 b3 b4 b6 : Int32) (s : Sg) : L_X6_fill_135 (fu + 1) b1 b2 b3 b4 0 b6 1 s = some (b4, 0, 1, s) := by
  rw [L_X6_fill_135]
  generalize L_X6_fill_135 fu = L
  rw [jn_e, if_neg (by decide)]
def rs1 (r : Nat × Nat × Nat × (Nat → Nat)) : Int32 := if r.1 = 0 then -1 else nI r.2.1
def rs2 (r : Nat × Nat × Nat × (Nat → Nat)) : Int32 := b2i (decide (r.1 = 2))
section Fm
variable {M : MS} {q : Nat → Nat} {n B b : Nat} {f0 : Nat → Nat}
def PIn (M : MS) (q : Nat → Nat) (n B : Nat) (f0 : Nat → Nat) (k : Nat) : Prop := ∀ (fuI fuO a p tr : Nat) (f : Nat → Nat) (s : Sg), a < n → SI M q n B f0 a p tr f → RepM (mst M f tr) s → (∀ j, j < n → s 33 j = nI (q j)) → 2 * (B - tr) + a < k → 2 * (B - tr) + a < fuO → mD M * mP M - p + 1 < fuI → ∃ t, (L_X6_fill_135 fuI (nI B) (nI n) (nI a) (nI p) 0 (nI (q a)) 0 s).bind (ctO (L_X6_fill_110 fuO) (nI B) (nI n) (nI a) (nI (q a))) = some (rs1 (srun M q n B k a p tr f), rs2 (srun M q n B k a p tr f), t) ∧ RepM (mst M (srun M q n B k a p tr f).2.2.2 (srun M q n B k a p tr f).2.2.1) t ∧ (∀ c, c ≠ 30 → c ≠ 31 → c ≠ 2215 → t c = s c)
def POut (M : MS) (q : Nat → Nat) (n B : Nat) (f0 : Nat → Nat) (k : Nat) : Prop := ∀ (fuO a p tr : Nat) (f : Nat → Nat) (s : Sg), SI M q n B f0 a p tr f → RepM (mst M f tr) s → (∀ j, j < n → s 33 j = nI (q j)) → 2 * (B - tr) + a < k → 2 * (B - tr) + a + 1 < fuO → ∃ t, L_X6_fill_110 fuO (nI B) (nI n) (nI a) (nI p) 0 s = some (rs1 (srun M q n B k a p tr f), rs2 (srun M q n B k a p tr f), t) ∧ RepM (mst M (srun M q n B k a p tr f).2.2.2 (srun M q n B k a p tr f).2.2.1) t ∧ (∀ c, c ≠ 30 → c ≠ 31 → c ≠ 2215 → t c = s c)
theorem out_of_in (G : Good M) (hb : b ≤ 64) (Q : QOK M f0 b (n, q)) {k : Nat} (h : PIn M q n B f0 k) : POut M q n B f0 k := by
  have h64 := n_64 hb Q
  have h30 := dp_le G
  intro fuO a p tr f s S R hq hk hfu
  have ha := S.1
  cases fuO with
  | zero => omega
  | succ fuO =>
  rw [out_eq, if_neg (nI_pos (by omega))]
  by_cases h1 : n ≤ a
  · have er : srun M q n B k a p tr f = (1, a, tr, f) := by
      cases k with
      | zero => omega
      | succ k => rw [srun, if_pos h1]
    rw [er, if_pos ((nI_leI (by omega) (by omega)).mpr h1)]
    exact ⟨s, rfl, R, fun _ _ _ _ => rfl⟩
  · rw [if_neg (fun z => h1 ((nI_leI (by omega) (by omega)).mp z)), if_pos rfl, grd_t (ixb_nI (by omega) (by decide)), nI_clamp (by omega), hq a (by omega)]
    exact h FU fuO a p tr f s (by omega) S R hq hk (by omega) (FU_gt (by omega))
theorem in_all (G : Good M) (hb : b ≤ 64) (Q : QOK M f0 b (n, q)) (hB : B ≤ 20000) : ∀ k : Nat, PIn M q n B f0 k := by
  have h64 := n_64 hb Q
  have h30 := dp_le G
  intro k
  induction k with
  | zero => intro fuI fuO a p tr f s _ _ _ _ hk; omega
  | succ k ih =>
    have io := out_of_in G hb Q ih
    intro fuI fuO a p tr f s ha S R hq hk hfu hfi
    have ht0 := S.2.2.1
    have hp0 := S.2.1
    have V := S.2.2.2.1
    have h1 : ¬ n ≤ a := by omega
    obtain ⟨q1, q2, q3, q4⟩ := Q.2.1 a ha
    have g1 := q_64 hb Q ha
    cases fuI with
    | zero => omega
    | succ fuI =>
    cases fuI with
    | zero => omega
    | succ fuI =>
    rw [in_eq, R.1.1, R.1.2.1, show mD (mst M f tr) = mD M from rfl, show mP (mst M f tr) = mP M from rfl, pk_mul]
    by_cases h2 : mD M * mP M ≤ p
    · rw [if_pos ((nI_leI (by omega) (by omega)).mpr h2), Option.bind_some]
      rw [ctO_p]
      unfold ctP
      rw [if_pos rfl, if_pos rfl, bnd_e]
      by_cases h3 : a = 0
      · have er : srun M q n B (k + 1) a p tr f = (0, 0, tr, f) := by rw [srun, if_neg h1, if_pos h2, if_pos h3]
        have hx : nI a + (-1) = -1 := by rw [h3]; decide
        rw [er, hx, if_pos (by decide)]
        cases fuO with
        | zero => omega
        | succ fuO =>
        rw [out_eq, if_pos (by decide)]
        exact ⟨s, rfl, R, fun _ _ _ _ => rfl⟩
      · obtain ⟨a', rfl⟩ : ∃ a', a = a' + 1 := ⟨a - 1, by omega⟩
        have er : srun M q n B (k + 1) (a' + 1) p tr f = srun M q n B k a' (perO f (q a')) tr (va_up f (q a') 0) := by rw [srun, if_neg h1, if_pos h2, if_neg h3]; rfl
        have g2 := q_64 hb Q (show a' < n by omega)
        have hf := S.2.2.2.2.1 a' (by omega)
        obtain ⟨x, y, b1, b2⟩ := out_M R g2
        rw [mst_pl] at b2
        have e30 : s 30 (q a') + 1 = nI (perO f (q a')) := by
          rw [(R.2.2.2.1 (q a') g2).1, show mPl (mst M f tr) = f from rfl, oI_ne (by unfold perO; rw [if_neg hf]; omega), nI_1]
          congr 1
          unfold perO
          rw [if_neg hf]; omega
        rw [er, pk_m1, if_neg (nI_pos (by omega)), grd_t (ixb_nI (by omega) (by decide)), nI_clamp (by omega), hq a' (by omega), grd_t (ixb_nI g2 (by decide)), nI_clamp (by omega), e30, bnd_e, grd_t (ixb_nI (by omega) (by decide)), b1, Option.bind_some]
        obtain ⟨t, t1, t2, t3⟩ := io fuO a' (perO f (q a')) tr (va_up f (q a') 0) _ (SI_back Q hb S) b2 hq (by omega) (by omega)
        exact ⟨t, t1, t2, fun c c1 c2 c3 => by rw [t3 c c1 c2 c3, up_ne _ _ c2, up_ne _ _ c1]⟩
    · rw [if_neg (fun z => h2 ((nI_leI (by omega) (by omega)).mp z)), show s 2215 0 = nI tr from R.2.2.2.2.2.2.1]
      by_cases h3 : B ≤ tr
      · have er : srun M q n B (k + 1) a p tr f = (2, a, tr, f) := by rw [srun, if_neg h1, if_neg h2, if_pos h3]
        have : tr = B := by omega
        subst this
        rw [er, if_pos rfl, in_s1, Option.bind_some]
        rw [ctO_p]
        unfold ctP
        rw [if_pos rfl, if_neg (by decide)]
        cases fuO with
        | zero => omega
        | succ fuO =>
        rw [out_eq, if_neg (nI_pos (by omega)), if_neg (fun z => h1 ((nI_leI (by omega) (by omega)).mp z)), if_neg (by decide)]
        exact ⟨s, rfl, R, fun _ _ _ _ => rfl⟩
      · rw [if_neg (fun z => absurd ((nI_eq (by omega) (by omega)).mp z) (by omega)), nI_1]
        have G8 := Good_st G V (tr := tr + 1) (by omega)
        have R8 : RepM (mst M f (tr + 1)) (va_up s 2215 (fun _ => nI (tr + 1))) := RepM_tr R rfl
        have hq8 : ∀ j, j < n → va_up s 2215 (fun _ => nI (tr + 1)) 33 j = nI (q j) := hq
        have fr8 : ∀ c, c ≠ 2215 → va_up s 2215 (fun _ => nI (tr + 1)) c = s c := fun c hc => up_ne _ _ hc
        generalize va_up s 2215 (fun _ => nI (tr + 1)) = s8 at R8 hq8 fr8 ⊢
        have hlt := ruleM_lt (M := M) (f := f) (l := q a / 4) (p := p)
        unfold inJ
        rw [rule_M G8 R8 g1 q2 (S.2.2.2.2.2.1 a (Nat.le_refl _) ha) (show p < mD M * mP M by omega), Option.bind_some, show ruleM (mst M f (tr + 1)) (mPl (mst M f (tr + 1))) (q a / 4) p = ruleM M f (q a / 4) p from rfl]
        by_cases h4 : ruleM M f (q a / 4) p = 0
        · obtain ⟨r, hr⟩ : ∃ r, freeR M f (q a / 4) p = r + 1 := ⟨freeR M f (q a / 4) p - 1, by have := (rule0 h4).2.2.2.2; omega⟩
          have er : srun M q n B (k + 1) a p tr f = srun M q n B k (a + 1) (nxt q n a p) (tr + 1) (va_up f (q a) (6 * p + r + 1)) := by rw [srun, if_neg h1, if_neg h2, if_neg h3, if_pos h4, hr]; rfl
          have S2 := SI_put G hb Q S ha (by omega) (by omega) h4 hr
          obtain ⟨x, y, b1, b2⟩ := put_M G8 R8 (i := q a) (p := p) (r := r) g1 q2 (show p < mD M * mP M by omega) (rule0 h4).1 hr
          rw [mst_pl] at b2
          have hq9 : ∀ j, j < n → va_up (va_up s8 30 x) 31 y 33 j = nI (q j) := hq8
          rw [er, h4, if_pos (show nI 0 = 0 from rfl), b1, Option.bind_some, in_s2, Option.bind_some]
          obtain ⟨t, t1, t2, t3⟩ := io fuO (a + 1) (nxt q n a p) (tr + 1) _ _ S2 b2 hq9 (by omega) (by omega)
          have fr9 : ∀ c, c ≠ 30 → c ≠ 31 → c ≠ 2215 → t c = s c := fun c c1 c2 c3 => by
            rw [t3 c c1 c2 c3, up_ne _ _ c2, up_ne _ _ c1, fr8 c c3]
          refine ⟨t, ?_, t2, fr9⟩
          generalize va_up (va_up s8 30 x) 31 y = s9 at t1 hq9 ⊢
          rw [ctO_p]
          unfold ctP
          rw [if_neg (by decide), bnd_e, nI_1]
          by_cases h5 : n ≤ a + 1
          · rw [if_pos ((nI_leI (by omega) (by omega)).mpr h5), if_pos rfl]
            rw [show nxt q n a p = 0 from by unfold nxt; rw [if_neg (by omega)]] at t1 ⊢
            exact t1
          · have g2 := q_64 hb Q (show a + 1 < n by omega)
            rw [if_neg (fun z => h5 ((nI_leI (by omega) (by omega)).mp z)), grd_t (ixb_nI (by omega) (by decide)), nI_clamp (by omega), hq9 (a + 1) (by omega), lessonOf_M g2, Option.bind_some, lessonOf_M g1, Option.bind_some]
            by_cases e : q (a + 1) / 4 = q a / 4
            · rw [if_pos ((nI_eq (by omega) (by omega)).mpr e), if_neg (by decide), bnd_e, nI_1]
              rw [show nxt q n a p = p + 1 from by unfold nxt; rw [if_pos ⟨by omega, e⟩]] at t1 ⊢
              exact t1
            · rw [if_neg (fun z => e ((nI_eq (by omega) (by omega)).mp z)), if_pos rfl]
              rw [show nxt q n a p = 0 from by unfold nxt; rw [if_neg (fun z => e z.2)]] at t1 ⊢
              exact t1
        · have er : srun M q n B (k + 1) a p tr f = srun M q n B k a (p + 1) (tr + 1) f := by rw [srun, if_neg h1, if_neg h2, if_neg h3, if_neg h4]
          rw [er, if_neg (nI_ne0 (by omega) (by omega)), bnd_e, nI_1]
          obtain ⟨t, t1, t2, t3⟩ := ih (fuI + 1) fuO a (p + 1) (tr + 1) f s8 ha (SI_fail S (by omega) (by omega)) R8 hq8 (by omega) (by omega) (by omega)
          exact ⟨t, t1, t2, fun c c1 c2 c3 => by rw [t3 c c1 c2 c3, fr8 c c3]⟩
end Fm
theorem runM {M : MS} (G : Good M) {B : Nat} (hB : B ≤ 20000) {s : Sg} (R : RepM (mst M (mPl M) 0) s) (hq : ∀ j, j < (colL (mTi M) (mPl M) (mN M)).1 → s 33 j = nI ((colL (mTi M) (mPl M) (mN M)).2 j)) : ∃ t, L_X6_fill_110 FU (nI B) (nI (colL (mTi M) (mPl M) (mN M)).1) 0 0 0 s = some (rs1 (fillR M B), rs2 (fillR M B), t) ∧ RepM (mst M (fillR M B).2.2.2 (fillR M B).2.2.1) t ∧ (∀ c, c ≠ 30 → c ≠ 31 → c ≠ 2215 → t c = s c) := by
  have hb : 4 * mN M ≤ 64 := by have := good_N G; omega
  have Q := fill_Q G
  exact out_of_in G hb Q (in_all G hb Q hB (2 * B + 1)) FU 0 0 0 (mPl M) s (SI_start G.2.2.2.1 Q) R hq (by omega) (FU_gt (by omega))
