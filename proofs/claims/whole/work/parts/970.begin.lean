/-! ===== the state behind the constructors ===== -/
def M0 (D P : Nat) : MS := fun k _ => if k = 0 then D else if k = 1 then P else if k = 4 then 1 else 0
theorem b_1 : ∀ k, k < 32 → bt 1 k = decide (k = 0) := by decide +kernel
theorem fstL {D P : Nat} (hD : D ≤ 5) (hP : P ≤ 6) : ∀ (fu d : Nat) (x : Int32), (∀ p, p < 32 → bt x p = anyb (fun e => decide (p = e * P)) d) → d ≤ D → D - d < fu → ∃ y, Lfst fu (nI D) (nI P) x (nI d) = some y ∧ ∀ p, p < 32 → bt y p = anyb (fun e => decide (p = e * P)) D := by
  intro fu
  induction fu with
  | zero => intro d x _ h1 h2; omega
  | succ fu ih =>
    intro d x hx h1 h2
    rw [Lfst]
    by_cases h : D ≤ d
    · have : d = D := by omega
      subst this
      rw [if_pos ((nI_leI (by omega) (by omega)).mpr h)]
      exact ⟨x, rfl, hx⟩
    · have h30 : d * P ≤ 30 := Nat.le_trans (Nat.mul_le_mul (show d ≤ 5 by omega) hP) (by decide)
      rw [if_neg (fun z => h ((nI_leI (by omega) (by omega)).mp z)), pk_mul, nI_1]
      refine ih (d + 1) _ (fun p hp => ?_) (by omega) (by omega)
      rw [b_or, b_shl (d * P) (by omega) 1 hp, hx p hp, b_1 _ (by omega), anyb]
      congr 1
      by_cases h1 : d * P ≤ p
      · rw [decide_eq_true h1, Bool.true_and]
        apply decide_eq_decide.mpr
        omega
      · rw [decide_eq_false h1, Bool.false_and, decide_eq_false (by omega)]
theorem fst_dec : ∀ D, D < 6 → ∀ P, P < 7 → ∀ p, p < 32 → 1 ≤ P → anyb (fun e => decide (p = e * P)) D = (decide (p < D * P) && decide (p % P = 0)) ∧ (decide (P - 1 ≤ p) && anyb (fun e => decide (p - (P - 1) = e * P)) D) = (decide (p < D * P) && decide (p % P = P - 1)) := by decide +kernel
theorem filL : ∀ (fu i : Nat) (f : Nat → Int32), i ≤ 64 → 64 - i < fu → ∃ q, Lfil 64 fu (-1) (nI i) 64 f = some q ∧ ∀ k, k < 64 → q k = if i ≤ k then -1 else f k := by
  intro fu
  induction fu with
  | zero => intro i f h1 h2; omega
  | succ fu ih =>
    intro i f h1 h2
    rw [Lfil]
    rcases Nat.lt_or_ge i 64 with h | h
    · rw [if_neg (by rw [show (64 : Int32) = nI 64 from rfl, nI_leI (by decide) (by omega)]; omega), grd_t (ixb_nI h (by decide)), nI_clamp (by omega), nI_1]
      obtain ⟨q, q1, q2⟩ := ih (i + 1) (upd f i (-1)) (by omega) (by omega)
      refine ⟨q, q1, fun k hk => ?_⟩
      rw [q2 k hk]
      by_cases e : k = i
      · subst e; rw [if_neg (by omega), if_pos (Nat.le_refl _), pk_us]
      · rw [pk_un e]
        by_cases h3 : i + 1 ≤ k
        · rw [if_pos h3, if_pos (by omega)]
        · rw [if_neg h3, if_neg (by omega)]
    · rw [if_pos (by rw [show (64 : Int32) = nI 64 from rfl, nI_leI (by decide) (by omega)]; omega)]
      exact ⟨f, rfl, fun k hk => by rw [if_neg (by omega)]⟩
theorem modL : ∀ (fu i : Nat) (f g : Nat → Int32), i ≤ 64 → 64 - i < fu → ∃ q, Lmod fu (nI i) f g = some q ∧ ∀ k, k < 64 → q.1 k = (if i ≤ k then -1 else f k) ∧ q.2 k = (if i ≤ k then -1 else g k) := by
  intro fu
  induction fu with
  | zero => intro i f g h1 h2; omega
  | succ fu ih =>
    intro i f g h1 h2
    rw [Lmod]
    rcases Nat.lt_or_ge i 64 with h | h
    · rw [if_neg (by rw [show (64 : Int32) = nI 64 from rfl, nI_leI (by decide) (by omega)]; omega), grd_t (ixb_nI h (by decide)), nI_clamp (by omega), nI_1]
      obtain ⟨q, q1, q2⟩ := ih (i + 1) (upd f i (-1)) (upd g i (-1)) (by omega) (by omega)
      refine ⟨q, q1, fun k hk => ?_⟩
      rw [(q2 k hk).1, (q2 k hk).2]
      by_cases e : k = i
      · subst e; rw [if_neg (by omega), if_pos (Nat.le_refl _), if_neg (by omega), if_pos (Nat.le_refl _), pk_us, pk_us]; exact ⟨rfl, rfl⟩
      · rw [pk_un e, pk_un e]
        by_cases h3 : i + 1 ≤ k
        · rw [if_pos h3, if_pos (by omega), if_pos h3, if_pos (by omega)]; exact ⟨rfl, rfl⟩
        · rw [if_neg h3, if_neg (by omega), if_neg h3, if_neg (by omega)]; exact ⟨rfl, rfl⟩
    · rw [if_pos (by rw [show (64 : Int32) = nI 64 from rfl, nI_leI (by decide) (by omega)]; omega)]
      exact ⟨(f, g), rfl, fun k hk => by rw [if_neg (by omega), if_neg (by omega)]; exact ⟨rfl, rfl⟩⟩
theorem dp_v {c : Int32} {n : Nat} (hn : 1 ≤ n) (h2 : n < 100) : ∃ k : Nat, 1 ≤ k ∧ k ≤ n ∧ (if c < 1 then nI n else if nI n < c then nI n else c) = nI k := by
  by_cases h1 : c < 1
  · rw [if_pos h1]; exact ⟨n, hn, Nat.le_refl _, rfl⟩
  · by_cases h3 : nI n < c
    · rw [if_neg h1, if_pos h3]; exact ⟨n, hn, Nat.le_refl _, rfl⟩
    · rw [if_neg h1, if_neg h3]
      obtain ⟨k, k1, k2, k3⟩ := within_nI (x := c) (n := n) (by omega) (by simp [h1, h3])
      exact ⟨k, k1, k2, k3⟩
theorem cv0 (M : MS) {f : Nat → Nat} {i p : Nat} (h : f i = 0) : cvr M f i p = false := by simp [cvr, h]
theorem VP_0 (M : MS) {f : Nat → Nat} (h : ∀ i, f i = 0) : VP M f := by
  constructor
  · intro i _ h2; exact absurd (h i) h2
  · intro i j u p _ _ _ h2
    rw [cv0 M (h i)] at h2; cases h2
theorem occ_0 (M : MS) {f : Nat → Nat} (h : ∀ i, f i = 0) (u p : Nat) : occ M f u p = false := anyb_false.mpr fun i _ => by rw [cv0 M (h i)]; rfl
theorem inv_start : Start Inv := by
  intro c0 c1
  obtain ⟨D, D1, D2, eD⟩ := dp_v (c := c0) (n := 5) (by decide) (by decide)
  obtain ⟨P, P1, P2, eP⟩ := dp_v (c := c1) (n := 6) (by decide) (by decide)
  have eD : dayv c0 = nI D := eD
  have eP : perv c1 = nI P := eP
  have h30 : D * P ≤ 30 := Nat.le_trans (Nat.mul_le_mul D2 P2) (by decide)
  obtain ⟨f1, y1, y2⟩ := fstL D2 P2 FU 0 0 (fun p _ => b_0 p) (Nat.zero_le _) (FU_gt (by omega))
  obtain ⟨q1, z1, z2⟩ := filL FU 0 z0 (by omega) (FU_gt (by omega))
  obtain ⟨q, w1, w2⟩ := modL FU 0 z0 z0 (by omega) (FU_gt (by omega))
  refine ⟨f1, q1, q, ?_, z1, w1, M0 D P, ?_, ?_, ?_⟩
  · rw [eD, eP]; exact y1
  · refine ⟨⟨D1, D2, P1, P2, Nat.zero_le _⟩, fun l hl => absurd hl (Nat.not_lt_zero l), fun r _ => (by decide : (0 : Nat) < 3), VP_0 _ (fun _ => rfl), Nat.zero_le _, fun j hj => absurd hj (Nat.not_lt_zero j), Nat.zero_le _, Nat.zero_le _, fun k hk => absurd hk (Nat.not_lt_zero k)⟩
  · rw [eD, eP]
    refine ⟨⟨rfl, rfl, pk_mul D P, rfl⟩, ⟨fun p hp => ?_, fun p hp => ?_⟩, fun l _ => ⟨rfl, rfl, rfl, rfl, rfl, rfl, rfl⟩, fun r _ => rfl, fun i hi => ?_, fun u p _ _ => ?_, fun u p _ _ => ?_, ⟨0, by decide, rfl, rfl, fun j i hj => absurd hj (Nat.not_lt_zero j)⟩, rfl, rfl, fun k hk => absurd hk (Nat.not_lt_zero k)⟩
    · show bt f1 p = (decide (p < D * P) && decide (p % P = 0))
      rw [y2 p hp]
      exact (fst_dec D (by omega) P (by omega) p hp P1).1
    · show bt (f1 <<< ((nI P - 1) &&& 31)) p = (decide (p < D * P) && decide (p % P = P - 1))
      rw [show nI P - 1 = nI (P - 1) from by rw [show (1 : Int32) = nI 1 from rfl, pk_sub P1], b_shl (P - 1) (by omega) f1 hp, y2 (p - (P - 1)) (by omega)]
      exact (fst_dec D (by omega) P (by omega) p hp P1).2
    · show q1 i = -1
      rw [z2 i hi, if_pos (Nat.zero_le _)]
    · show bt 0 p = (decide (p < D * P) && false)
      rw [b_0, Bool.and_false]
    · show bt 0 p = _
      rw [b_0]
      exact (occ_0 (M0 D P) (f := mPl (M0 D P)) (fun _ => rfl) u p).symm
  · rw [eD, eP]
    refine ⟨⟨rfl, rfl, rfl⟩, fun l _ => ⟨rfl, rfl, rfl, rfl, rfl, rfl, rfl⟩, fun r _ => rfl, fun i hi => ?_, fun u p _ _ => rfl, ⟨rfl, fun j i hj => absurd hj (Nat.not_lt_zero j)⟩, rfl, rfl, fun k hk => absurd hk (Nat.not_lt_zero k)⟩
    show q.1 i = -1 ∧ q.2 i = -1
    rw [(w2 i hi).1, (w2 i hi).2, if_pos (Nat.zero_le _)]
    exact ⟨rfl, rfl⟩
