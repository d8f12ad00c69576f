/-! ===== fill: the search ===== -/
def nxt (q : Nat → Nat) (n a p : Nat) : Nat := if a + 1 < n ∧ q (a + 1) / 4 = q a / 4 then p + 1 else 0
/-- answer, place in the queue, tries, placement -/
def srun (M : MS) (q : Nat → Nat) (n B : Nat) : Nat → Nat → Nat → Nat → (Nat → Nat) → Nat × Nat × Nat × (Nat → Nat)
  | 0, a, _, tr, f => (2, a, tr, f)
  | k + 1, a, p, tr, f =>
    if n ≤ a then (1, a, tr, f)
    else if mD M * mP M ≤ p then (if a = 0 then (0, 0, tr, f) else srun M q n B k (a - 1) (perO f (q (a - 1))) tr (va_up f (q (a - 1)) 0))
    else if B ≤ tr then (2, a, tr, f)
    else if ruleM M f (q a / 4) p = 0 then srun M q n B k (a + 1) (nxt q n a p) (tr + 1) (va_up f (q a) (6 * p + freeR M f (q a / 4) p))
    else srun M q n B k a (p + 1) (tr + 1) f
def SI (M : MS) (q : Nat → Nat) (n B : Nat) (f0 : Nat → Nat) (a p tr : Nat) (f : Nat → Nat) : Prop :=
  a ≤ n ∧ p ≤ mD M * mP M ∧ tr ≤ B ∧ VP M f ∧ (∀ j, j < a → f (q j) ≠ 0) ∧ (∀ j, a ≤ j → j < n → f (q j) = 0) ∧ (∀ i, (∀ j, j < n → q j ≠ i) → f i = f0 i)
def outs (q : Nat → Nat) (f : Nat → Nat) : Nat → Nat → Nat
  | 0 => f
  | j + 1 => va_up (outs q f j) (q j) 0
section Sr
variable {M : MS} {q : Nat → Nat} {n B b : Nat} {f0 : Nat → Nat}
theorem q_ne (Q : QOK M f0 b (n, q)) {j k : Nat} (hj : j < n) (hk : k < n) (h : j ≠ k) : q j ≠ q k := by
  have h3 := Q.2.2.1
  rcases Nat.lt_or_ge j k with h1 | h1
  · have := h3 j k h1 hk
    intro e
    have e2 : (n, q).2 j = (n, q).2 k := e
    omega
  · have := h3 k j (by omega) hj
    intro e
    have e2 : (n, q).2 j = (n, q).2 k := e
    omega
theorem SI_fail {a p tr : Nat} {f : Nat → Nat} (S : SI M q n B f0 a p tr f) (hp : p < mD M * mP M) (ht : tr < B) : SI M q n B f0 a (p + 1) (tr + 1) f :=
  ⟨S.1, hp, ht, S.2.2.2⟩
theorem SI_put (G : Good M) (hb : b ≤ 64) (Q : QOK M f0 b (n, q)) {a p tr r : Nat} {f : Nat → Nat} (S : SI M q n B f0 a p tr f) (ha : a < n) (hp : p < mD M * mP M) (ht : tr < B) (hr : ruleM M f (q a / 4) p = 0) (hf : freeR M f (q a / 4) p = r + 1) : SI M q n B f0 (a + 1) (nxt q n a p) (tr + 1) (va_up f (q a) (6 * p + r + 1)) := by
  obtain ⟨s1, s2, s3, s4, s5, s6, s7⟩ := S
  obtain ⟨q1, q2, q3, q4⟩ := Q.2.1 a ha
  refine ⟨ha, ?_, ht, VP_put G s4 (Nat.lt_of_lt_of_le q1 hb) q2 q3 hp hr hf, ?_, ?_, ?_⟩
  · unfold nxt
    split <;> omega
  · intro j hj
    by_cases e : j = a
    · rw [e, up_eq]; omega
    · rw [up_ne _ _ (q_ne Q (by omega) ha e)]
      exact s5 j (by omega)
  · intro j hj hjn
    rw [up_ne _ _ (q_ne Q hjn ha (by omega))]
    exact s6 j (by omega) hjn
  · intro i hi
    rw [up_ne _ _ (fun e => hi a ha e.symm)]
    exact s7 i hi
theorem SI_back (Q : QOK M f0 b (n, q)) (hb : b ≤ 64) {a p tr : Nat} {f : Nat → Nat} (S : SI M q n B f0 (a + 1) p tr f) : SI M q n B f0 a (perO f (q a)) tr (va_up f (q a) 0) := by
  obtain ⟨s1, s2, s3, s4, s5, s6, s7⟩ := S
  obtain ⟨q1, q2, q3, q4⟩ := Q.2.1 a (by show a < n; omega)
  have h0 := s5 a (by omega)
  have v := s4.1 (q a) (Nat.lt_of_lt_of_le q1 hb) h0
  refine ⟨by omega, ?_, s3, VP_out s4 _, ?_, ?_, ?_⟩
  · unfold perO
    rw [if_neg h0]; omega
  · intro j hj
    rw [up_ne _ _ (q_ne Q (by omega) (by omega) (by omega))]
    exact s5 j (by omega)
  · intro j hj hjn
    by_cases e : j = a
    · rw [e, up_eq]
    · rw [up_ne _ _ (q_ne Q hjn (by omega) e)]
      exact s6 j (by omega) hjn
  · intro i hi
    rw [up_ne _ _ (fun e => hi a (by omega) e.symm)]
    exact s7 i hi
theorem srun_SI (G : Good M) (hb : b ≤ 64) (Q : QOK M f0 b (n, q)) : ∀ (k a p tr : Nat) (f : Nat → Nat), SI M q n B f0 a p tr f → 2 * (B - tr) + a < k → SI M q n B f0 (srun M q n B k a p tr f).2.1 0 (srun M q n B k a p tr f).2.2.1 (srun M q n B k a p tr f).2.2.2 ∧ (((srun M q n B k a p tr f).1 = 0 ∧ (srun M q n B k a p tr f).2.1 = 0) ∨ ((srun M q n B k a p tr f).1 = 1 ∧ (srun M q n B k a p tr f).2.1 = n) ∨ (srun M q n B k a p tr f).1 = 2) := by
  intro k
  induction k with
  | zero => intro a p tr f _ h; omega
  | succ k ih =>
    intro a p tr f S h
    have S0 : SI M q n B f0 a 0 tr f := ⟨S.1, Nat.zero_le _, S.2.2⟩
    rw [srun]
    by_cases h1 : n ≤ a
    · rw [if_pos h1]
      exact ⟨S0, Or.inr (Or.inl ⟨rfl, by have := S.1; show a = n; omega⟩)⟩
    · rw [if_neg h1]
      by_cases h2 : mD M * mP M ≤ p
      · rw [if_pos h2]
        by_cases h3 : a = 0
        · subst h3
          rw [if_pos rfl]
          exact ⟨S0, Or.inl ⟨rfl, rfl⟩⟩
        · rw [if_neg h3]
          obtain ⟨a', rfl⟩ : ∃ a', a = a' + 1 := ⟨a - 1, by omega⟩
          exact ih _ _ _ _ (SI_back Q hb S) (by omega)
      · rw [if_neg h2]
        by_cases h3 : B ≤ tr
        · rw [if_pos h3]
          exact ⟨S0, Or.inr (Or.inr rfl)⟩
        · rw [if_neg h3]
          by_cases h4 : ruleM M f (q a / 4) p = 0
          · rw [if_pos h4]
            obtain ⟨r, hr⟩ : ∃ r, freeR M f (q a / 4) p = r + 1 := ⟨freeR M f (q a / 4) p - 1, by have := (rule0 h4).2.2.2.2; omega⟩
            rw [hr]
            exact ih _ _ _ _ (SI_put G hb Q S (by omega) (by omega) (by omega) h4 hr) (by omega)
          · rw [if_neg h4]
            exact ih _ _ _ _ (SI_fail S (by omega) (by omega)) (by omega)
theorem outs_ne {f : Nat → Nat} {i : Nat} : ∀ {a : Nat}, (∀ j, j < a → q j ≠ i) → outs q f a i = f i
  | 0, _ => rfl
  | a + 1, h => by
    rw [outs, up_ne _ _ (fun e => h a (by omega) e.symm), outs_ne (fun j hj => h j (by omega))]
theorem outs_in {f : Nat → Nat} : ∀ {a j : Nat}, j < a → outs q f a (q j) = 0
  | 0, j, h => absurd h (Nat.not_lt_zero j)
  | a + 1, j, h => by
    rw [outs]
    by_cases e : q j = q a
    · rw [e, up_eq]
    · rw [up_ne _ _ e]
      exact outs_in (by
        have : j ≠ a := fun z => e (by rw [z])
        omega)
theorem VP_outs {f : Nat → Nat} (V : VP M f) : ∀ a : Nat, VP M (outs q f a)
  | 0 => V
  | a + 1 => VP_out (VP_outs V a) _
/-- all out again -/
theorem outs_f0 (Q : QOK M f0 b (n, q)) {a p tr : Nat} {f : Nat → Nat} (S : SI M q n B f0 a p tr f) : outs q f a = f0 := by
  obtain ⟨s1, s2, s3, s4, s5, s6, s7⟩ := S
  funext i
  by_cases h : ∃ j, j < n ∧ q j = i
  · obtain ⟨j, hj, rfl⟩ := h
    have e0 : f0 (q j) = 0 := (Q.2.1 j hj).2.2.2
    rw [e0]
    by_cases hja : j < a
    · exact outs_in hja
    · rw [outs_ne (fun k hk => q_ne Q (by omega) hj (by omega))]
      exact s6 j (by omega) hj
  · rw [outs_ne (fun k hk e => h ⟨k, by omega, e⟩)]
    exact s7 i (fun j hj e => h ⟨j, hj, e⟩)
theorem SI_0 (Q : QOK M f0 b (n, q)) {p tr : Nat} {f : Nat → Nat} (S : SI M q n B f0 0 p tr f) : f = f0 := outs_f0 Q S
theorem SI_start (V : VP M f0) (Q : QOK M f0 b (n, q)) : SI M q n B f0 0 0 0 f0 :=
  ⟨Nat.zero_le _, Nat.zero_le _, Nat.zero_le _, V, fun j hj => absurd hj (Nat.not_lt_zero j), fun j _ hj => (Q.2.1 j hj).2.2.2, fun _ _ => rfl⟩
end Sr
def mst (M : MS) (f : Nat → Nat) (tr : Nat) : MS := va_up (va_up M 11 f) 14 (fun _ => tr)
theorem mst_pl (M : MS) (f g : Nat → Nat) (tr : Nat) : va_up (mst M f tr) 11 g = mst M g tr := by
  funext k
  unfold mst
  by_cases h : k = 11
  · subst h; rw [up_eq, up_ne _ _ (by decide), up_eq]
  · rw [up_ne _ _ h]
    by_cases h2 : k = 14
    · subst h2; rw [up_eq, up_eq]
    · rw [up_ne _ _ h2, up_ne _ _ h, up_ne _ _ h2, up_ne _ _ h]
theorem Good_st {M : MS} (G : Good M) {f : Nat → Nat} (V : VP M f) {tr : Nat} (h : tr ≤ 20000) : Good (mst M f tr) :=
  ⟨G.1, G.2.1, G.2.2.1, V, G.2.2.2.2.1, G.2.2.2.2.2.1, h, G.2.2.2.2.2.2.2⟩
theorem RepC_tr {M : MS} {f : Nat → Nat} {t0 tr : Nat} {s : Sg} (R : RepC (mst M f t0) s) {g : Nat → Int32} (h : g 0 = nI tr) : RepC (mst M f tr) (va_up s 203 g) :=
  ⟨R.1, R.2.1, R.2.2.1, R.2.2.2.1, R.2.2.2.2.1, R.2.2.2.2.2.1, R.2.2.2.2.2.2.1, R.2.2.2.2.2.2.2.1, h, R.2.2.2.2.2.2.2.2.2⟩
theorem RepM_tr {M : MS} {f : Nat → Nat} {t0 tr : Nat} {s : Sg} (R : RepM (mst M f t0) s) {g : Nat → Int32} (h : g 0 = nI tr) : RepM (mst M f tr) (va_up s 2215 g) :=
  ⟨R.1, R.2.1, R.2.2.1, R.2.2.2.1, R.2.2.2.2.1, R.2.2.2.2.2.1, h, R.2.2.2.2.2.2.2⟩
theorem mst_self (M : MS) : mst M (mPl M) (mTr M) = va_up M 14 (fun _ => mTr M) := by
  unfold mst; rw [pl_self]
theorem RepC_st {M : MS} {s : Sg} (R : RepC M s) : RepC (mst M (mPl M) (mTr M)) s := R
theorem RepM_st {M : MS} {s : Sg} (R : RepM M s) : RepM (mst M (mPl M) (mTr M)) s := R
theorem RepC_3 {M : MS} {s : Sg} (R : RepC M s) (g : Nat → Int32) : RepC M (va_up s 3 g) := R
