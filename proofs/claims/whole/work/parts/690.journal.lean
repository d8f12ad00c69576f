/-! ===== the journal ===== -/
def jpush (M : MS) (f0 : Nat → Nat) : MS := va_up (va_up M 13 (fun _ => if mJc M < 20 then mJc M + 1 else 20)) 17 (fun k => if mJc M < 20 then (if k / 64 = mJc M then f0 (k % 64) else M 17 k) else (if k / 64 = 19 then f0 (k % 64) else M 17 (k + 64)))
def diffb (f g : Nat → Nat) : Bool := anyb (fun i => decide (f i ≠ g i)) 64
def Drn (f0 : Nat → Nat) (s : Sg) : Prop := ∃ old jc : Nat, old < 21 ∧ jc ≤ 20 ∧ s 701 0 = nI old ∧ s 702 0 = nI jc ∧ ∀ i, i < 64 → s 7 ((old + jc) % 21 * 64 + i) = oI (f0 i)
def Kpt (f0 : Nat → Nat) (s : Sg) : Prop := ∀ i, i < 64 → s 34 i = oI (perO f0 i) ∧ s 35 i = oI (romO f0 i)
theorem RepM.frame2 {M : MS} {s t : Sg} (h : RepM M s) (hf : ∀ c, cM c = true → c ≠ 33 → c ≠ 34 → c ≠ 35 → c ≠ 2200 → t c = s c) : RepM M t := by
  have hg : ∀ c, (cM c && !(c == 33 || c == 34 || c == 35 || c == 2200)) = true → t c = s c := fun c hc => by
    simp only [Bool.and_eq_true, Bool.not_eq_true', Bool.or_eq_false_iff, beq_eq_false_iff_ne] at hc
    exact hf c hc.1 hc.2.1.1.1 hc.2.1.1.2 hc.2.1.2 hc.2.2
  unfold RepM at h ⊢
  rw [hg 2201 rfl, hg 2202 rfl, hg 2204 rfl, hg 23 rfl, hg 24 rfl, hg 25 rfl, hg 26 rfl, hg 27 rfl, hg 28 rfl, hg 29 rfl, hg 22 rfl, hg 30 rfl, hg 31 rfl, hg 32 rfl, hg 2221 rfl, hg 36 rfl, hg 37 rfl, hg 2215 rfl, hg 2223 rfl, hg 38 rfl]
  exact h
theorem VP_congr {M : MS} {f g : Nat → Nat} (h : ∀ i, i < 64 → g i = f i) (V : VP M f) : VP M g := by
  constructor
  · intro i hi hp
    rw [h i hi] at hp ⊢
    exact V.1 i hi hp
  · intro i j u p hi hj hu h1 h2 h3 h4
    unfold cvr at h1 h2
    unfold usz at h3 h4
    rw [h i hi] at h1 h3
    rw [h j hj] at h2 h4
    exact V.2 i j u p hi hj hu h1 h2 h3 h4
theorem mJr_p1 {M : MS} {f0 : Nat → Nat} (h : mJc M < 20) {j i : Nat} (hi : i < 64) : mJr (jpush M f0) j i = if j = mJc M then f0 i else mJr M j i := by
  show (if mJc M < 20 then (if (64 * j + i) / 64 = mJc M then f0 ((64 * j + i) % 64) else M 17 (64 * j + i)) else _) = _
  rw [if_pos h, show (64 * j + i) / 64 = j by omega, show (64 * j + i) % 64 = i by omega]
  rfl
theorem mJr_p2 {M : MS} {f0 : Nat → Nat} (h : ¬ mJc M < 20) {j i : Nat} (hi : i < 64) : mJr (jpush M f0) j i = if j = 19 then f0 i else mJr M (j + 1) i := by
  show (if mJc M < 20 then _ else (if (64 * j + i) / 64 = 19 then f0 ((64 * j + i) % 64) else M 17 (64 * j + i + 64))) = _
  rw [if_neg h, show (64 * j + i) / 64 = j by omega, show (64 * j + i) % 64 = i by omega, show 64 * j + i + 64 = 64 * (j + 1) + i by omega]
  rfl
theorem Good_push {M : MS} {f0 : Nat → Nat} (G : Good M) (V : VP M f0) : Good (jpush M f0) := by
  have hj := G.2.2.2.2.1
  refine ⟨G.1, G.2.1, G.2.2.1, G.2.2.2.1, ?_, ?_, G.2.2.2.2.2.2⟩
  · show (if mJc M < 20 then mJc M + 1 else 20) ≤ 20
    split <;> omega
  · intro j hj2
    have hj3 : j < (if mJc M < 20 then mJc M + 1 else 20) := hj2
    by_cases h : mJc M < 20
    · rw [if_pos h] at hj3
      by_cases e : j = mJc M
      · exact VP_congr (M := M) (f := f0) (fun i hi => by rw [mJr_p1 h hi, if_pos e]) V
      · exact VP_congr (M := M) (f := mJr M j) (fun i hi => by rw [mJr_p1 h hi, if_neg e]) (G.2.2.2.2.2.1 j (by omega))
    · rw [if_neg h] at hj3
      by_cases e : j = 19
      · exact VP_congr (M := M) (f := f0) (fun i hi => by rw [mJr_p2 h hi, if_pos e]) V
      · exact VP_congr (M := M) (f := mJr M (j + 1)) (fun i hi => by rw [mJr_p2 h hi, if_neg e]) (G.2.2.2.2.2.1 (j + 1) (by omega))
section Jo
variable {M : MS} {s : Sg}
theorem start_C (old jc : Nat) (h1 : s 701 0 = nI old) (ho : old < 21) (hj : jc ≤ 20) : F_X2_startOf (nI jc) s = some (nI ((old + jc) % 21 * 64)) := by
  unfold F_X2_startOf
  rw [h1, nI_add, show (21 : Int32) = nI 21 from rfl, pk_rem (by omega) (by decide) (by decide), show (64 : Int32) = nI 64 from rfl, pk_mul]
theorem draw_C (G : Good M) (R : RepC M s) : ∃ r, F_X2_draw s = some (va_up s 7 r) ∧ RepC M (va_up s 7 r) ∧ Drn (mPl M) (va_up s 7 r) := by
  have hj := G.2.2.2.2.1
  obtain ⟨old, ho, j1, j2, j3⟩ := R.2.2.2.2.2.2.2.1
  have c0 : (0 : Int32).toNatClampNeg = 0 := by decide
  have c64 : (64 : Int32).toNatClampNeg = 64 := by decide
  have cq : (nI ((old + mJc M) % 21 * 64)).toNatClampNeg = (old + mJc M) % 21 * 64 := nI_clamp (by omega)
  refine ⟨va_cpy (s 20) (s 7) 0 ((old + mJc M) % 21 * 64) 64, ?_, ?_, ?_⟩
  · unfold F_X2_draw
    rw [j2, start_C old (mJc M) j1 ho hj]
    simp only [Option.bind_some, bnd, c0, c64, cq]
    rw [grd_t]
    exact ⟨by decide, nI_pos (by omega), by decide, by omega, by omega⟩
  · refine ⟨R.1, R.2.1, R.2.2.1, R.2.2.2.1, R.2.2.2.2.1, R.2.2.2.2.2.1, R.2.2.2.2.2.2.1, ⟨old, ho, j1, j2, ?_⟩, R.2.2.2.2.2.2.2.2⟩
    intro j i hj2 hi
    show va_cpy (s 20) (s 7) 0 ((old + mJc M) % 21 * 64) 64 ((old + j) % 21 * 64 + i) = _
    rw [pk_cpy_out (by omega)]
    exact j3 j i hj2 hi
  · refine ⟨old, mJc M, ho, hj, j1, j2, ?_⟩
    intro i hi
    show va_cpy (s 20) (s 7) 0 ((old + mJc M) % 21 * 64) 64 ((old + mJc M) % 21 * 64 + i) = _
    rw [pk_cpy_in (by omega) (by omega), show 0 + ((old + mJc M) % 21 * 64 + i - (old + mJc M) % 21 * 64) = i by omega]
    exact R.2.2.2.2.1 i hi
theorem keep_C (G : Good M) (R : RepC M s) {f0 : Nat → Nat} (D : Drn f0 s) : ∃ t, F_X2_keep s = some t ∧ RepC (jpush M f0) t ∧ (∀ c, c ≠ 701 → c ≠ 702 → t c = s c) := by
  have hj := G.2.2.2.2.1
  obtain ⟨old, jc, ho, hjc, d1, d2, d3⟩ := D
  obtain ⟨old', ho', j1, j2, j3⟩ := R.2.2.2.2.2.2.2.1
  have e1 : old' = old := (nI_eq (by omega) (by omega)).mp (j1.symm.trans d1)
  have e2 : jc = mJc M := (nI_eq (by omega) (by omega)).mp (d2.symm.trans j2)
  subst e1 e2
  unfold F_X2_keep
  rw [d2, show (20 : Int32) = nI 20 from rfl]
  simp only [nI_leI (show 20 < 2 ^ 31 by decide) (show mJc M < 2 ^ 31 by omega), bnd]
  by_cases h : mJc M < 20
  · rw [if_neg (by omega)]
    refine ⟨_, rfl, ⟨R.1, R.2.1, R.2.2.1, R.2.2.2.1, R.2.2.2.2.1, R.2.2.2.2.2.1, R.2.2.2.2.2.2.1, ⟨old', ho, j1, ?_, ?_⟩, R.2.2.2.2.2.2.2.2⟩, fun c _ h2 => up_ne _ _ h2⟩
    · show nI (mJc M) + 1 = nI (if mJc M < 20 then mJc M + 1 else 20)
      rw [if_pos h, nI_1]
    · intro j i hj2 hi
      have hj3 : j < (if mJc M < 20 then mJc M + 1 else 20) := hj2
      rw [if_pos h] at hj3
      rw [mJr_p1 h hi]
      by_cases e : j = mJc M
      · rw [if_pos e, e]; exact d3 i hi
      · rw [if_neg e]; exact j3 j i (by omega) hi
  · have h20 : mJc M = 20 := by omega
    rw [if_pos (by omega)]
    refine ⟨_, rfl, ⟨R.1, R.2.1, R.2.2.1, R.2.2.2.1, R.2.2.2.2.1, R.2.2.2.2.2.1, R.2.2.2.2.2.2.1, ⟨(old' + 1) % 21, by omega, ?_, ?_, ?_⟩, R.2.2.2.2.2.2.2.2⟩, fun c h1 _ => up_ne _ _ h1⟩
    · show (s 701 0 + 1) - (s 701 0 + 1) / 21 * 21 = _
      rw [j1, nI_1]
      exact pk_rem (by omega) (by decide) (by decide)
    · show s 702 0 = nI (if mJc M < 20 then mJc M + 1 else 20)
      rw [if_neg h, j2, h20]
    · intro j i hj2 hi
      have hj3 : j < (if mJc M < 20 then mJc M + 1 else 20) := hj2
      rw [if_neg h] at hj3
      rw [mJr_p2 h hi]
      show s 7 (((old' + 1) % 21 + j) % 21 * 64 + i) = _
      rw [show ((old' + 1) % 21 + j) % 21 = (old' + (j + 1)) % 21 by omega]
      by_cases e : j = 19
      · rw [if_pos e, e, ← d3 i hi, h20]
      · rw [if_neg e]; exact j3 (j + 1) i (by omega) hi
theorem keepL_M : ∀ (fu i : Nat) (s : Sg), i ≤ 64 → 64 - i < fu → ∃ t, L_X6_keep_2 fu (nI i) s = some t ∧ (∀ c, c ≠ 34 → c ≠ 35 → t c = s c) ∧ (∀ k, t 34 k = if i ≤ k ∧ k < 64 then s 30 k else s 34 k) ∧ (∀ k, t 35 k = if i ≤ k ∧ k < 64 then s 31 k else s 35 k) := by
  intro fu
  induction fu with
  | zero => intro i s h1 h2; omega
  | succ fu ih =>
    intro i s h1 h2
    rw [L_X6_keep_2]
    rcases Nat.lt_or_ge i 64 with h | h
    · rw [if_neg (by rw [show (64 : Int32) = nI 64 from rfl, nI_leI (by decide) (by omega)]; omega)]
      have g64 := ixb_nI h (show 64 < 2 ^ 31 by decide)
      simp only [bnd, grd_t g64, nI_clamp (show i < 2 ^ 31 by omega), nI_1]
      obtain ⟨t, t1, t2, t3, t4⟩ := ih (i + 1) (va_up (va_up s 34 (upd (s 34) i (s 30 i))) 35 (upd (va_up s 34 (upd (s 34) i (s 30 i)) 35) i (va_up s 34 (upd (s 34) i (s 30 i)) 31 i))) (by omega) (by omega)
      refine ⟨t, t1, fun c h1 h2 => by rw [t2 c h1 h2, up_ne _ _ h2, up_ne _ _ h1], fun k => ?_, fun k => ?_⟩
      · rw [t3 k]
        show (if i + 1 ≤ k ∧ k < 64 then s 30 k else upd (s 34) i (s 30 i) k) = _
        by_cases e : k = i
        · subst e; rw [if_neg (by omega), if_pos (by omega), pk_us]
        · rw [pk_un e]
          by_cases h3 : i + 1 ≤ k ∧ k < 64
          · rw [if_pos h3, if_pos (by omega)]
          · rw [if_neg h3, if_neg (by omega)]
      · rw [t4 k]
        show (if i + 1 ≤ k ∧ k < 64 then s 31 k else upd (s 35) i (s 31 i) k) = _
        by_cases e : k = i
        · subst e; rw [if_neg (by omega), if_pos (by omega), pk_us]
        · rw [pk_un e]
          by_cases h3 : i + 1 ≤ k ∧ k < 64
          · rw [if_pos h3, if_pos (by omega)]
          · rw [if_neg h3, if_neg (by omega)]
    · rw [if_pos (by rw [show (64 : Int32) = nI 64 from rfl, nI_leI (by decide) (by omega)]; omega)]
      exact ⟨s, rfl, fun _ _ _ => rfl, fun k => by rw [if_neg (by omega)], fun k => by rw [if_neg (by omega)]⟩
theorem restL_M : ∀ (fu i : Nat) (s : Sg), i ≤ 64 → 64 - i < fu → ∃ t, L_X6_restore_2 fu (nI i) s = some t ∧ (∀ c, c ≠ 30 → c ≠ 31 → t c = s c) ∧ (∀ k, t 30 k = if i ≤ k ∧ k < 64 then s 34 k else s 30 k) ∧ (∀ k, t 31 k = if i ≤ k ∧ k < 64 then s 35 k else s 31 k) := by
  intro fu
  induction fu with
  | zero => intro i s h1 h2; omega
  | succ fu ih =>
    intro i s h1 h2
    rw [L_X6_restore_2]
    rcases Nat.lt_or_ge i 64 with h | h
    · rw [if_neg (by rw [show (64 : Int32) = nI 64 from rfl, nI_leI (by decide) (by omega)]; omega)]
      have g64 := ixb_nI h (show 64 < 2 ^ 31 by decide)
      simp only [bnd, grd_t g64, nI_clamp (show i < 2 ^ 31 by omega), nI_1]
      obtain ⟨t, t1, t2, t3, t4⟩ := ih (i + 1) (va_up (va_up s 30 (upd (s 30) i (s 34 i))) 31 (upd (va_up s 30 (upd (s 30) i (s 34 i)) 31) i (va_up s 30 (upd (s 30) i (s 34 i)) 35 i))) (by omega) (by omega)
      refine ⟨t, t1, fun c h1 h2 => by rw [t2 c h1 h2, up_ne _ _ h2, up_ne _ _ h1], fun k => ?_, fun k => ?_⟩
      · rw [t3 k]
        show (if i + 1 ≤ k ∧ k < 64 then s 34 k else upd (s 30) i (s 34 i) k) = _
        by_cases e : k = i
        · subst e; rw [if_neg (by omega), if_pos (by omega), pk_us]
        · rw [pk_un e]
          by_cases h3 : i + 1 ≤ k ∧ k < 64
          · rw [if_pos h3, if_pos (by omega)]
          · rw [if_neg h3, if_neg (by omega)]
      · rw [t4 k]
        show (if i + 1 ≤ k ∧ k < 64 then s 35 k else upd (s 31) i (s 35 i) k) = _
        by_cases e : k = i
        · subst e; rw [if_neg (by omega), if_pos (by omega), pk_us]
        · rw [pk_un e]
          by_cases h3 : i + 1 ≤ k ∧ k < 64
          · rw [if_pos h3, if_pos (by omega)]
          · rw [if_neg h3, if_neg (by omega)]
    · rw [if_pos (by rw [show (64 : Int32) = nI 64 from rfl, nI_leI (by decide) (by omega)]; omega)]
      exact ⟨s, rfl, fun _ _ _ => rfl, fun k => by rw [if_neg (by omega)], fun k => by rw [if_neg (by omega)]⟩
theorem undoL_M {e : Nat} (he : e < 20) : ∀ (fu i : Nat) (s : Sg), s 2221 0 = nI e → i ≤ 64 → 64 - i < fu → ∃ t, L_X6_undo_34 fu (nI i) s = some t ∧ (∀ c, c ≠ 30 → c ≠ 31 → t c = s c) ∧ (∀ k, t 30 k = if i ≤ k ∧ k < 64 then s 36 (64 * e + k) else s 30 k) ∧ (∀ k, t 31 k = if i ≤ k ∧ k < 64 then s 37 (64 * e + k) else s 31 k) := by
  intro fu
  induction fu with
  | zero => intro i s _ h1 h2; omega
  | succ fu ih =>
    intro i s hs h1 h2
    rw [L_X6_undo_34]
    rcases Nat.lt_or_ge i 64 with h | h
    · rw [if_neg (by rw [show (64 : Int32) = nI 64 from rfl, nI_leI (by decide) (by omega)]; omega)]
      have g64 := ixb_nI h (show 64 < 2 ^ 31 by decide)
      have ex : (64 : Int32) * nI e + nI i = nI (64 * e + i) := by rw [show (64 : Int32) = nI 64 from rfl, pk_mul, nI_add]
      have g1280 : ixb (nI (64 * e + i)) 1280 = true := ixb_nI (by omega) (by decide)
      simp only [bnd, up_ne, ne_eq, Nat.reduceEqDiff, not_false_eq_true, hs, ex, grd_t g64, grd_t g1280, nI_clamp (show i < 2 ^ 31 by omega), nI_clamp (show 64 * e + i < 2 ^ 31 by omega), nI_1]
      obtain ⟨t, t1, t2, t3, t4⟩ := ih (i + 1) (va_up (va_up s 30 (upd (s 30) i (s 36 (64 * e + i)))) 31 (upd (s 31) i (s 37 (64 * e + i)))) hs (by omega) (by omega)
      refine ⟨t, t1, fun c h1 h2 => by rw [t2 c h1 h2, up_ne _ _ h2, up_ne _ _ h1], fun k => ?_, fun k => ?_⟩
      · rw [t3 k]
        show (if i + 1 ≤ k ∧ k < 64 then s 36 (64 * e + k) else upd (s 30) i (s 36 (64 * e + i)) k) = _
        by_cases e : k = i
        · subst e; rw [if_neg (by omega), if_pos (by omega), pk_us]
        · rw [pk_un e]
          by_cases h3 : i + 1 ≤ k ∧ k < 64
          · rw [if_pos h3, if_pos (by omega)]
          · rw [if_neg h3, if_neg (by omega)]
      · rw [t4 k]
        show (if i + 1 ≤ k ∧ k < 64 then s 37 (64 * e + k) else upd (s 31) i (s 37 (64 * e + i)) k) = _
        by_cases e : k = i
        · subst e; rw [if_neg (by omega), if_pos (by omega), pk_us]
        · rw [pk_un e]
          by_cases h3 : i + 1 ≤ k ∧ k < 64
          · rw [if_pos h3, if_pos (by omega)]
          · rw [if_neg h3, if_neg (by omega)]
    · rw [if_pos (by rw [show (64 : Int32) = nI 64 from rfl, nI_leI (by decide) (by omega)]; omega)]
      exact ⟨s, rfl, fun _ _ _ => rfl, fun k => by rw [if_neg (by omega)], fun k => by rw [if_neg (by omega)]⟩
theorem writeL_M {e : Nat} (he : e < 20) : ∀ (fu i : Nat) (s : Sg), s 2221 0 = nI e → i ≤ 64 → 64 - i < fu → ∃ t, L_X6_note_127 fu (nI i) s = some t ∧ (∀ c, c ≠ 36 → c ≠ 37 → t c = s c) ∧ (∀ k, t 36 k = if 64 * e + i ≤ k ∧ k < 64 * e + 64 then s 34 (k - 64 * e) else s 36 k) ∧ (∀ k, t 37 k = if 64 * e + i ≤ k ∧ k < 64 * e + 64 then s 35 (k - 64 * e) else s 37 k) := by
  intro fu
  induction fu with
  | zero => intro i s _ h1 h2; omega
  | succ fu ih =>
    intro i s hs h1 h2
    rw [L_X6_note_127]
    rcases Nat.lt_or_ge i 64 with h | h
    · rw [if_neg (by rw [show (64 : Int32) = nI 64 from rfl, nI_leI (by decide) (by omega)]; omega)]
      have g64 := ixb_nI h (show 64 < 2 ^ 31 by decide)
      have ex : (64 : Int32) * nI e + nI i = nI (64 * e + i) := by rw [show (64 : Int32) = nI 64 from rfl, pk_mul, nI_add]
      have g1280 : ixb (nI (64 * e + i)) 1280 = true := ixb_nI (by omega) (by decide)
      simp only [bnd, up_ne, ne_eq, Nat.reduceEqDiff, not_false_eq_true, hs, ex, grd_t g64, grd_t g1280, nI_clamp (show i < 2 ^ 31 by omega), nI_clamp (show 64 * e + i < 2 ^ 31 by omega), nI_1]
      obtain ⟨t, t1, t2, t3, t4⟩ := ih (i + 1) (va_up (va_up s 36 (upd (s 36) (64 * e + i) (s 34 i))) 37 (upd (s 37) (64 * e + i) (s 35 i))) hs (by omega) (by omega)
      refine ⟨t, t1, fun c h1 h2 => by rw [t2 c h1 h2, up_ne _ _ h2, up_ne _ _ h1], fun k => ?_, fun k => ?_⟩
      · rw [t3 k]
        show (if 64 * e + (i + 1) ≤ k ∧ k < 64 * e + 64 then s 34 (k - 64 * e) else upd (s 36) (64 * e + i) (s 34 i) k) = _
        by_cases e2 : k = 64 * e + i
        · subst e2; rw [if_neg (by omega), if_pos (by omega), pk_us, show 64 * e + i - 64 * e = i by omega]
        · rw [pk_un e2]
          by_cases h3 : 64 * e + (i + 1) ≤ k ∧ k < 64 * e + 64
          · rw [if_pos h3, if_pos (by omega)]
          · rw [if_neg h3, if_neg (by omega)]
      · rw [t4 k]
        show (if 64 * e + (i + 1) ≤ k ∧ k < 64 * e + 64 then s 35 (k - 64 * e) else upd (s 37) (64 * e + i) (s 35 i) k) = _
        by_cases e2 : k = 64 * e + i
        · subst e2; rw [if_neg (by omega), if_pos (by omega), pk_us, show 64 * e + i - 64 * e = i by omega]
        · rw [pk_un e2]
          by_cases h3 : 64 * e + (i + 1) ≤ k ∧ k < 64 * e + 64
          · rw [if_pos h3, if_pos (by omega)]
          · rw [if_neg h3, if_neg (by omega)]
    · rw [if_pos (by rw [show (64 : Int32) = nI 64 from rfl, nI_leI (by decide) (by omega)]; omega)]
      exact ⟨s, rfl, fun _ _ _ => rfl, fun k => by rw [if_neg (by omega)], fun k => by rw [if_neg (by omega)]⟩
theorem shiftL_M : ∀ (fu i : Nat) (s : Sg), i ≤ 1216 → 1216 - i < fu → ∃ t, L_X6_note_72 fu (nI i) s = some t ∧ (∀ c, c ≠ 36 → c ≠ 37 → t c = s c) ∧ (∀ k, t 36 k = if i ≤ k ∧ k < 1216 then s 36 (k + 64) else s 36 k) ∧ (∀ k, t 37 k = if i ≤ k ∧ k < 1216 then s 37 (k + 64) else s 37 k) := by
  intro fu
  induction fu with
  | zero => intro i s h1 h2; omega
  | succ fu ih =>
    intro i s h1 h2
    rw [L_X6_note_72]
    rcases Nat.lt_or_ge i 1216 with h | h
    · rw [if_neg (by rw [show (1216 : Int32) = nI 1216 from rfl, nI_leI (by decide) (by omega)]; omega)]
      have g1 := ixb_nI (show i < 1280 by omega) (show 1280 < 2 ^ 31 by decide)
      have ex : nI i + (64 : Int32) = nI (i + 64) := by rw [show (64 : Int32) = nI 64 from rfl, nI_add]
      have g2 : ixb (nI (i + 64)) 1280 = true := ixb_nI (by omega) (by decide)
      simp only [bnd, up_ne, ne_eq, Nat.reduceEqDiff, not_false_eq_true, ex, grd_t g1, grd_t g2, nI_clamp (show i < 2 ^ 31 by omega), nI_clamp (show i + 64 < 2 ^ 31 by omega), nI_1]
      obtain ⟨t, t1, t2, t3, t4⟩ := ih (i + 1) (va_up (va_up s 36 (upd (s 36) i (s 36 (i + 64)))) 37 (upd (s 37) i (s 37 (i + 64)))) (by omega) (by omega)
      refine ⟨t, t1, fun c h1 h2 => by rw [t2 c h1 h2, up_ne _ _ h2, up_ne _ _ h1], fun k => ?_, fun k => ?_⟩
      · rw [t3 k]
        show (if i + 1 ≤ k ∧ k < 1216 then upd (s 36) i (s 36 (i + 64)) (k + 64) else upd (s 36) i (s 36 (i + 64)) k) = _
        by_cases e : k = i
        · subst e; rw [if_neg (by omega), if_pos (by omega), pk_us]
        · by_cases h3 : i + 1 ≤ k ∧ k < 1216
          · rw [if_pos h3, if_pos (by omega), pk_un (by omega)]
          · rw [if_neg h3, if_neg (by omega), pk_un e]
      · rw [t4 k]
        show (if i + 1 ≤ k ∧ k < 1216 then upd (s 37) i (s 37 (i + 64)) (k + 64) else upd (s 37) i (s 37 (i + 64)) k) = _
        by_cases e : k = i
        · subst e; rw [if_neg (by omega), if_pos (by omega), pk_us]
        · by_cases h3 : i + 1 ≤ k ∧ k < 1216
          · rw [if_pos h3, if_pos (by omega), pk_un (by omega)]
          · rw [if_neg h3, if_neg (by omega), pk_un e]
    · rw [if_pos (by rw [show (1216 : Int32) = nI 1216 from rfl, nI_leI (by decide) (by omega)]; omega)]
      exact ⟨s, rfl, fun _ _ _ => rfl, fun k => by rw [if_neg (by omega)], fun k => by rw [if_neg (by omega)]⟩
theorem keep_M (R : RepM M s) : ∃ t, F_X6_keep s = some t ∧ (∀ c, c ≠ 34 → c ≠ 35 → t c = s c) ∧ RepM M t ∧ Kpt (mPl M) t := by
  obtain ⟨t, t1, t2, t3, t4⟩ := keepL_M FU 0 s (by omega) (FU_gt (by omega))
  refine ⟨t, ?_, t2, R.frame2 fun c _ _ h1 h2 _ => t2 c h1 h2, fun i hi => ?_⟩
  · unfold F_X6_keep
    rw [show (0 : Int32) = nI 0 from rfl, t1]; rfl
  · rw [t3, t4, if_pos ⟨Nat.zero_le _, hi⟩, if_pos ⟨Nat.zero_le _, hi⟩]
    exact R.2.2.2.1 i hi
theorem per_rom {f g : Nat → Nat} {i : Nat} (h1 : perO f i = perO g i) (h2 : romO f i = romO g i) : f i = g i := by
  unfold perO at h1
  unfold romO at h2
  split at h1 <;> split at h2 <;> split at h1 <;> split at h2 <;> omega
theorem perO_c {f g : Nat → Nat} {i : Nat} (h : f i = g i) : perO f i = perO g i ∧ romO f i = romO g i := by
  unfold perO romO; rw [h]; exact ⟨rfl, rfl⟩
theorem po_lt {f : Nat → Nat} {i : Nat} (h : f i ≤ 180) : perO f i < 2 ^ 31 ∧ romO f i < 2 ^ 31 := by
  unfold perO romO
  constructor <;> split <;> omega
theorem oI_inj {a b : Nat} (ha : a < 2 ^ 31) (hb : b < 2 ^ 31) : (oI a = oI b) ↔ a = b := by
  constructor
  · intro h
    cases a with
    | zero =>
      have := (oI_m1 hb).mp h.symm
      exact this.symm
    | succ a =>
      cases b with
      | zero => exact (oI_m1 ha).mp h
      | succ b => rw [(nI_eq (by omega) (by omega)).mp (show nI a = nI b from h)]
  · intro h; rw [h]
theorem chgL_M {f0 f : Nat → Nat} (h0 : ∀ i, i < 64 → f0 i ≤ 180) (h1 : ∀ i, i < 64 → f i ≤ 180) (K : Kpt f0 s) (K2 : ∀ i, i < 64 → s 30 i = oI (perO f i) ∧ s 31 i = oI (romO f i)) : ∀ (fu i : Nat), i ≤ 64 → 64 - i < fu → L_X6_note_4 fu (b2i (anyb (fun i => decide (f0 i ≠ f i)) i)) (nI i) s = some (b2i (diffb f0 f)) := by
  intro fu
  induction fu with
  | zero => intro i h1 h2; omega
  | succ fu ih =>
    intro i hi1 hi2
    rw [L_X6_note_4]
    rcases Nat.lt_or_ge i 64 with h | h
    · rw [if_neg (by rw [show (64 : Int32) = nI 64 from rfl, nI_leI (by decide) (by omega)]; omega)]
      have g64 := ixb_nI h (show 64 < 2 ^ 31 by decide)
      have ih2 := ih (i + 1) (by omega) (by omega)
      rw [anyb] at ih2
      simp only [bnd, grd_t g64, nI_clamp (show i < 2 ^ 31 by omega), nI_1, b2i_z, (K i h).1, (K i h).2, (K2 i h).1, (K2 i h).2, oI_inj (po_lt (h0 i h)).1 (po_lt (h1 i h)).1, oI_inj (po_lt (h0 i h)).2 (po_lt (h1 i h)).2]
      cases ha : anyb (fun i => decide (f0 i ≠ f i)) i with
      | true =>
        rw [ha, Bool.true_or] at ih2
        rw [if_neg (by decide)]
        exact ih2
      | false =>
        rw [ha, Bool.false_or] at ih2
        rw [if_pos rfl]
        by_cases e1 : perO f0 i = perO f i
        · by_cases e2 : romO f0 i = romO f i
          · rw [if_pos e1, if_pos e2]
            rw [show decide (f0 i ≠ f i) = false by simp [per_rom e1 e2]] at ih2
            exact ih2
          · rw [if_pos e1, if_neg e2]
            rw [show decide (f0 i ≠ f i) = true by simp; intro z; exact e2 (by unfold romO; rw [z])] at ih2
            exact ih2
        · rw [if_neg e1]
          rw [show decide (f0 i ≠ f i) = true by simp; intro z; exact e1 (by unfold perO; rw [z])] at ih2
          exact ih2
    · have : i = 64 := by omega
      subst this
      rw [if_pos (by decide)]
      rfl
theorem note_M (G : Good M) (R : RepM M s) {f0 : Nat → Nat} (V : VP M f0) (K : Kpt f0 s) : ∃ t, F_X6_note s = some t ∧ (∀ c, c ≠ 36 → c ≠ 37 → c ≠ 2221 → t c = s c) ∧ RepM (if diffb f0 (mPl M) = true then jpush M f0 else M) t := by
  have hj := G.2.2.2.2.1
  have e0 : s 2221 0 = nI (mJc M) := R.2.2.2.2.2.1.1
  have hc := chgL_M (s := s) (fun i hi => pl_lt G V hi) (fun i hi => pl_lt G G.2.2.2.1 hi) K R.2.2.2.1 FU 0 (by omega) (FU_gt (by omega))
  unfold F_X6_note
  rw [show L_X6_note_4 FU 0 0 s = some (b2i (diffb f0 (mPl M))) from hc]
  simp only [Option.bind_some, b2i_z]
  cases hd : diffb f0 (mPl M) with
  | false =>
    refine ⟨s, rfl, fun _ _ _ _ => rfl, ?_⟩
    simpa using R
  | true =>
    rw [if_neg (by decide), if_pos rfl, e0, show (20 : Int32) = nI 20 from rfl]
    simp only [nI_eq (show mJc M < 2 ^ 31 by omega) (show 20 < 2 ^ 31 by decide), bnd]
    by_cases h : mJc M < 20
    · rw [if_neg (by omega)]
      obtain ⟨t, t1, t2, t3, t4⟩ := writeL_M h FU 0 s e0 (by omega) (FU_gt (by omega))
      rw [show (0 : Int32) = nI 0 from rfl, t1]
      simp only [Option.bind_some]
      refine ⟨_, rfl, fun c h1 h2 h3 => by rw [up_ne _ _ h3, t2 c h1 h2], ?_⟩
      have hR : RepM M (va_up (va_up t 36 (s 36)) 37 (s 37)) := R.frame fun c _ => by
        by_cases c37 : c = 37
        · subst c37; rw [up_eq]
        · rw [up_ne _ _ c37]
          by_cases c36 : c = 36
          · subst c36; rw [up_eq]
          · rw [up_ne _ _ c36, t2 c c36 c37]
      refine ⟨hR.1, hR.2.1, hR.2.2.1, hR.2.2.2.1, hR.2.2.2.2.1, ⟨?_, ?_⟩, hR.2.2.2.2.2.2⟩
      · show t 2221 0 + 1 = nI (if mJc M < 20 then mJc M + 1 else 20)
        rw [if_pos h, t2 2221 (by decide) (by decide), e0, nI_1]
      · intro j i hj2 hi
        have hj3 : j < (if mJc M < 20 then mJc M + 1 else 20) := hj2
        rw [if_pos h] at hj3
        show t 36 (64 * j + i) = oI (perO (mJr (jpush M f0) j) i) ∧ t 37 (64 * j + i) = oI (romO (mJr (jpush M f0) j) i)
        rw [t3, t4]
        by_cases e : j = mJc M
        · have q := perO_c (f := mJr (jpush M f0) j) (g := f0) (i := i) (by rw [mJr_p1 h hi, if_pos e])
          rw [q.1, q.2, if_pos (by omega), if_pos (by omega), show 64 * j + i - 64 * mJc M = i by omega]
          exact K i hi
        · have q := perO_c (f := mJr (jpush M f0) j) (g := mJr M j) (i := i) (by rw [mJr_p1 h hi, if_neg e])
          rw [q.1, q.2, if_neg (by omega), if_neg (by omega)]
          exact R.2.2.2.2.2.1.2 j i (by omega) hi
    · have h20 : mJc M = 20 := by omega
      rw [if_pos h20]
      obtain ⟨t, t1, t2, t3, t4⟩ := shiftL_M FU 0 s (by omega) (FU_gt (by omega))
      rw [show (0 : Int32) = nI 0 from rfl, t1]
      simp only [Option.bind_some]
      have e1 : va_up t 2221 (fun _ => t 2221 0 - 1) 2221 0 = nI 19 := by
        rw [up_eq, t2 2221 (by decide) (by decide), e0, h20]; rfl
      obtain ⟨v, v1, v2, v3, v4⟩ := writeL_M (e := 19) (by omega) FU 0 (va_up t 2221 (fun _ => t 2221 0 - 1)) e1 (by omega) (FU_gt (by omega))
      rw [v1]
      simp only [Option.bind_some]
      refine ⟨_, rfl, fun c h1 h2 h3 => by rw [up_ne _ _ h3, v2 c h1 h2, up_ne _ _ h3, t2 c h1 h2], ?_⟩
      have hR : RepM M (va_up (va_up (va_up v 36 (s 36)) 37 (s 37)) 2221 (s 2221)) := R.frame fun c _ => by
        by_cases c21 : c = 2221
        · subst c21; rw [up_eq]
        · rw [up_ne _ _ c21]
          by_cases c37 : c = 37
          · subst c37; rw [up_eq]
          · rw [up_ne _ _ c37]
            by_cases c36 : c = 36
            · subst c36; rw [up_eq]
            · rw [up_ne _ _ c36, v2 c c36 c37, up_ne _ _ c21, t2 c c36 c37]
      refine ⟨hR.1, hR.2.1, hR.2.2.1, hR.2.2.2.1, hR.2.2.2.2.1, ⟨?_, ?_⟩, hR.2.2.2.2.2.2⟩
      · show v 2221 0 + 1 = nI (if mJc M < 20 then mJc M + 1 else 20)
        rw [if_neg h, v2 2221 (by decide) (by decide), e1]; rfl
      · intro j i hj2 hi
        have hj3 : j < (if mJc M < 20 then mJc M + 1 else 20) := hj2
        rw [if_neg h] at hj3
        show v 36 (64 * j + i) = oI (perO (mJr (jpush M f0) j) i) ∧ v 37 (64 * j + i) = oI (romO (mJr (jpush M f0) j) i)
        rw [v3, v4]
        show (if _ then t 34 _ else t 36 _) = _ ∧ (if _ then t 35 _ else t 37 _) = _
        rw [t2 34 (by decide) (by decide), t2 35 (by decide) (by decide), t3, t4]
        by_cases e : j = 19
        · have q := perO_c (f := mJr (jpush M f0) j) (g := f0) (i := i) (by rw [mJr_p2 h hi, if_pos e])
          rw [q.1, q.2, if_pos (by omega), if_pos (by omega), show 64 * j + i - 64 * 19 = i by omega]
          exact K i hi
        · have q := perO_c (f := mJr (jpush M f0) j) (g := mJr M (j + 1)) (i := i) (by rw [mJr_p2 h hi, if_neg e])
          have n1 : ¬ (64 * 19 + 0 ≤ 64 * j + i ∧ 64 * j + i < 64 * 19 + 64) := by omega
          have n2 : 0 ≤ 64 * j + i ∧ 64 * j + i < 1216 := by omega
          rw [q.1, q.2, if_neg n1, if_neg n1, if_pos n2, if_pos n2, show 64 * j + i + 64 = 64 * (j + 1) + i by omega]
          exact R.2.2.2.2.2.1.2 (j + 1) i (by omega) hi
end Jo
