/-! ===== ranges, users; page, block, room ===== -/
def rb (x : Int32) (a b : Nat) : Bool := decide (¬ x < nI a) && decide (¬ nI b < x)
theorem rb_W (s : Sg) (x : Int32) (a b : Nat) : F_X5_isWithin x (nI a) (nI b) s = some (b2i (rb x a b)) := by
  unfold F_X5_isWithin rb
  by_cases h1 : x < nI a
  · simp [h1, b2i]
  · by_cases h2 : nI b < x <;> simp [h1, h2, b2i]
theorem rb_in (s : Sg) (x : Int32) (a b : Nat) : F_X6_in x (nI a) (nI b) s = some (b2i (rb x a b)) := rb_W s x a b
theorem rb_iff {x : Int32} {a b : Nat} (ha : a < 2 ^ 31) (hb : b < 2 ^ 31) : rb x a b = true ↔ ∃ j, a ≤ j ∧ j ≤ b ∧ x = nI j := by
  unfold rb
  rw [Bool.and_eq_true, decide_eq_true_eq, decide_eq_true_eq]
  constructor
  · rintro ⟨h1, h2⟩
    have h0 : ¬ x < 0 := fun z => h1 (by
      rw [Int32.lt_iff_toInt_lt] at z ⊢
      rw [nI_toInt ha]
      have : (0 : Int32).toInt = 0 := by decide
      omega)
    obtain ⟨j, hj, rfl⟩ := nI_of h0
    rw [nI_ltI hj ha] at h1
    rw [nI_ltI hb hj] at h2
    exact ⟨j, by omega, by omega, rfl⟩
  · rintro ⟨j, h1, h2, rfl⟩
    rw [nI_ltI (by omega) ha, nI_ltI hb (by omega)]
    omega
theorem W07 (s : Sg) (x : Int32) : F_X5_isWithin x 0 7 s = some (b2i (rb x 0 7)) := rb_W s x 0 7
theorem W05 (s : Sg) (x : Int32) : F_X5_isWithin x 0 5 s = some (b2i (rb x 0 5)) := rb_W s x 0 5
theorem W02 (s : Sg) (x : Int32) : F_X5_isWithin x 0 2 s = some (b2i (rb x 0 2)) := rb_W s x 0 2
theorem W12 (s : Sg) (x : Int32) : F_X5_isWithin x 1 2 s = some (b2i (rb x 1 2)) := rb_W s x 1 2
theorem W14 (s : Sg) (x : Int32) : F_X5_isWithin x 1 4 s = some (b2i (rb x 1 4)) := rb_W s x 1 4
theorem W33 (s : Sg) (x : Int32) : F_X5_isWithin x 33 126 s = some (b2i (rb x 33 126)) := rb_W s x 33 126
theorem W20 (s : Sg) (x : Int32) : F_X5_isWithin x 1 20000 s = some (b2i (rb x 1 20000)) := rb_W s x 1 20000
theorem W10 (s : Sg) (x : Int32) : F_X5_isWithin x 1 10 s = some (b2i (rb x 1 10)) := rb_W s x 1 10
theorem N07 (s : Sg) (x : Int32) : F_X6_in x 0 7 s = some (b2i (rb x 0 7)) := rb_W s x 0 7
theorem N05 (s : Sg) (x : Int32) : F_X6_in x 0 5 s = some (b2i (rb x 0 5)) := rb_W s x 0 5
theorem N02 (s : Sg) (x : Int32) : F_X6_in x 0 2 s = some (b2i (rb x 0 2)) := rb_W s x 0 2
theorem N12 (s : Sg) (x : Int32) : F_X6_in x 1 2 s = some (b2i (rb x 1 2)) := rb_W s x 1 2
theorem N14 (s : Sg) (x : Int32) : F_X6_in x 1 4 s = some (b2i (rb x 1 4)) := rb_W s x 1 4
theorem N33 (s : Sg) (x : Int32) : F_X6_in x 33 126 s = some (b2i (rb x 33 126)) := rb_W s x 33 126
theorem N20 (s : Sg) (x : Int32) : F_X6_in x 1 20000 s = some (b2i (rb x 1 20000)) := rb_W s x 1 20000
theorem N10 (s : Sg) (x : Int32) : F_X6_in x 1 10 s = some (b2i (rb x 1 10)) := rb_W s x 1 10
def z00 : Sg := fun _ _ => 0
theorem usr_dec : ∀ u, u < 22 → F_X5_isUser (nI (uW u)) (nI (uH u)) z00 = some 1 ∧ F_X5_userOf (nI (uW u)) (nI (uH u)) z00 = some (nI u) ∧ F_X6_in (nI (uW u)) 0 2 z00 = some 1 ∧ (nI (uW u) = 2 → F_X6_in (nI (uH u)) 0 5 z00 = some 1) ∧ (¬ nI (uW u) = 2 → F_X6_in (nI (uH u)) 0 7 z00 = some 1) := by decide +kernel
theorem usr_ix : ∀ u, u < 22 → (240 : Int32) * nI (uW u) + 30 * nI (uH u) = nI (30 * u) := by decide +kernel
theorem usr_cases (x y : Int32) : (∃ u, u < 22 ∧ x = nI (uW u) ∧ y = nI (uH u)) ∨ ((∀ s, F_X5_isUser x y s = some 0) ∧ ((∀ s, F_X6_in x 0 2 s = some 0) ∨ ((∀ s, F_X6_in x 0 2 s = some 1) ∧ ((x = 2 ∧ ∀ s, F_X6_in y 0 5 s = some 0) ∨ (¬ x = 2 ∧ ∀ s, F_X6_in y 0 7 s = some 0))))) := by
  by_cases h0 : x = 0
  · subst h0
    cases h : rb y 0 7 with
    | true =>
      obtain ⟨j, _, hj, rfl⟩ := (rb_iff (by decide) (by decide)).mp h
      exact Or.inl ⟨j, by omega, by simp only [uW, show j < 8 by omega, if_true]; rfl, by simp only [uH, show j < 8 by omega, if_true]⟩
    | false =>
      refine Or.inr ⟨fun s => ?_, Or.inr ⟨fun s => rfl, Or.inr ⟨by decide, fun s => by rw [N07, h]; rfl⟩⟩⟩
      unfold F_X5_isUser
      rw [if_pos rfl, W07, h]; rfl
  · by_cases h1 : x = 1
    · subst h1
      cases h : rb y 0 7 with
      | true =>
        obtain ⟨j, _, hj, rfl⟩ := (rb_iff (by decide) (by decide)).mp h
        exact Or.inl ⟨8 + j, by omega, by simp only [uW, show ¬ 8 + j < 8 by omega, show 8 + j < 16 by omega, if_true, if_false]; rfl, by simp only [uH, show ¬ 8 + j < 8 by omega, show 8 + j < 16 by omega, if_true, if_false]; congr 1; omega⟩
      | false =>
        refine Or.inr ⟨fun s => ?_, Or.inr ⟨fun s => rfl, Or.inr ⟨by decide, fun s => by rw [N07, h]; rfl⟩⟩⟩
        unfold F_X5_isUser
        rw [if_neg (by decide), if_pos rfl, W07, h]; rfl
    · by_cases h2 : x = 2
      · subst h2
        cases h : rb y 0 5 with
        | true =>
          obtain ⟨j, _, hj, rfl⟩ := (rb_iff (by decide) (by decide)).mp h
          exact Or.inl ⟨16 + j, by omega, by simp only [uW, show ¬ 16 + j < 8 by omega, show ¬ 16 + j < 16 by omega, if_true, if_false]; rfl, by simp only [uH, show ¬ 16 + j < 8 by omega, show ¬ 16 + j < 16 by omega, if_true, if_false]; congr 1; omega⟩
        | false =>
          refine Or.inr ⟨fun s => ?_, Or.inr ⟨fun s => rfl, Or.inl ⟨rfl, fun s => by rw [N05, h]; rfl⟩⟩⟩
          unfold F_X5_isUser
          rw [if_neg (by decide), if_neg (by decide), if_pos rfl, W05, h]; rfl
      · refine Or.inr ⟨fun s => by unfold F_X5_isUser; rw [if_neg h0, if_neg h1, if_neg h2], Or.inl fun s => ?_⟩
        rw [N02]
        cases h : rb x 0 2 with
        | false => rfl
        | true =>
          obtain ⟨j, _, hj, rfl⟩ := (rb_iff (by decide) (by decide)).mp h
          rcases (show j = 0 ∨ j = 1 ∨ j = 2 by omega) with rfl | rfl | rfl
          · exact absurd rfl h0
          · exact absurd rfl h1
          · exact absurd rfl h2
theorem one0 : ((1 : Int32) = 0) = False := by decide
theorem iAt_lt {M : MS} {f : Nat → Nat} {u p j : Nat} (h : iAt M f u p = j + 1) : j < 64 ∧ cvr M f j p = true ∧ usz M f j u = true := by
  obtain ⟨_, h1, h2, _⟩ := fnd_some h
  rw [Bool.and_eq_true] at h2
  exact ⟨by omega, h2.1, h2.2⟩
theorem dp7 {M : MS} (G : Good M) : mD M * (mP M + 1) ≤ 35 := by
  have := G.1
  calc mD M * (mP M + 1) ≤ 5 * 7 := Nat.mul_le_mul this.2.1 (by omega)
    _ = 35 := rfl
theorem p_page : P_page Inv := by
  rintro s ⟨M, G, R, R2⟩ x y z
  have hN := good_N G
  have hd := G.1
  have h35 := dp7 G
  have h30 := dp_le G
  rcases usr_cases x y with ⟨u, hu, rfl, rfl⟩ | ⟨hx, hr⟩
  · obtain ⟨k1, k2, k3, k4, k5⟩ := usr_dec u hu
    have k1' : ∀ s, F_X5_isUser (nI (uW u)) (nI (uH u)) s = some 1 := fun _ => k1
    have k2' : ∀ s, F_X5_userOf (nI (uW u)) (nI (uH u)) s = some (nI u) := fun _ => k2
    have k3' : ∀ s, F_X6_in (nI (uW u)) 0 2 s = some 1 := fun _ => k3
    have k4' : nI (uW u) = 2 → ∀ s, F_X6_in (nI (uH u)) 0 5 s = some 1 := fun h _ => k4 h
    have k5' : ¬ nI (uW u) = 2 → ∀ s, F_X6_in (nI (uH u)) 0 7 s = some 1 := fun h _ => k5 h
    have eP : nI (mP M) + 1 = nI (mP M + 1) := nI_1 _
    cases hb : ixb z (mD M * (mP M + 1)) with
    | false =>
      refine Or.inr (Or.inr ⟨(0, va_up s 2200 (fun _ => 2)), ?_, ?_, rfl, Inv_thr G R R2 2⟩)
      · unfold F_X5_page
        rw [k1']
        simp only [Option.bind_some, bnd, one0, if_false]
        rw [R.1.2.1, R.1.1, eP, pk_mul, isW s z (by omega), hb]
        simp [b2i]
      · unfold F_X6_page
        simp only [jn]
        rw [k3']
        simp only [Option.bind_some, one0, if_false]
        by_cases hw : nI (uW u) = 2
        · rw [if_pos hw, k4' hw]
          simp only [Option.bind_some, one0, if_false, if_true]
          rw [R2.1.2.1, R2.1.1, eP, pk_mul, inW s z (by omega), hb]
          simp only [Option.bind_some, b2i_f, if_true]
          rw [thr01]
          rfl
        · rw [if_neg hw, k5' hw]
          simp only [Option.bind_some, one0, if_false, if_true]
          rw [R2.1.2.1, R2.1.1, eP, pk_mul, inW s z (by omega), hb]
          simp only [Option.bind_some, b2i_f, if_true]
          rw [thr01]
          rfl
    | true =>
      obtain ⟨i, hi, rfl⟩ := (ixb_iff (by omega)).mp hb
      have hcol : i % (mP M + 1) < mP M + 1 := Nat.mod_lt _ (by omega)
      have hrow : i / (mP M + 1) < mD M := (Nat.div_lt_iff_lt_mul (by omega)).mpr hi
      have hT : ∀ t : Sg, RepM M t → (grd (¬ (t 2202 0 + 1) = 0) <| if nI i - nI i / (t 2202 0 + 1) * (t 2202 0 + 1) = t 2202 0 then some ((10 : Int32), t) else grd (¬ (t 2202 0 + 1) = 0) <| (F_X6_itemAt (nI (uW u)) (nI (uH u)) ((nI i / (t 2202 0 + 1)) * t 2202 0 + (nI i - nI i / (t 2202 0 + 1) * (t 2202 0 + 1))) t).bind fun q12 => if 0 ≤ q12 then (F_X6_lessonOf q12 t).bind fun q15 => grd (ixb q15 16 = true) <| some (t 29 q15.toNatClampNeg, t) else some ((46 : Int32), t)) = some (if i % (mP M + 1) = mP M then 10 else match iAt M (mPl M) u (i / (mP M + 1) * mP M + i % (mP M + 1)) with
          | 0 => 46
          | j + 1 => nI (mSu M (j / 4)), t) := by
        intro t Rt
        rw [Rt.1.2.1, eP, grd_t (nI_ne0 (by omega) (by omega)), pk_rem (by omega) (by omega) (by omega)]
        by_cases hc : i % (mP M + 1) = mP M
        · rw [if_pos (by rw [hc]), if_pos hc]
        · have hp : i / (mP M + 1) * mP M + i % (mP M + 1) < mD M * mP M := by
            calc i / (mP M + 1) * mP M + i % (mP M + 1) < i / (mP M + 1) * mP M + mP M := by omega
              _ = (i / (mP M + 1) + 1) * mP M := by rw [Nat.add_mul, Nat.one_mul]
              _ ≤ mD M * mP M := Nat.mul_le_mul_right _ hrow
          rw [if_neg (by rw [nI_eq (by omega) (by omega)]; exact hc), if_neg hc, grd_t (nI_ne0 (by omega) (by omega)), pk_div (by omega) (by omega) (by omega), pk_mul, nI_add, itemAt_M G Rt hu (by omega)]
          simp only [Option.bind_some]
          cases hj : iAt M (mPl M) u (i / (mP M + 1) * mP M + i % (mP M + 1)) with
          | zero => rw [if_neg (show ¬ (0 : Int32) ≤ oI 0 by decide)]
          | succ j =>
            obtain ⟨j1, j2, j3⟩ := iAt_lt hj
            have hv := G.2.2.2.1.1 j j1 (cvr_pl j2)
            rw [if_pos (show (0 : Int32) ≤ oI (j + 1) from nI_pos' (by omega)), show oI (j + 1) = nI j from rfl, lessonOf_M j1]
            simp only [Option.bind_some]
            rw [grd_t (ixb_nI (by omega) (by decide)), nI_clamp (by omega), (Rt.2.1 (j / 4) (by omega)).2.2.2.2.2.2]
      refine Or.inl ⟨if i % (mP M + 1) = mP M then 10 else match iAt M (mPl M) u (i / (mP M + 1) * mP M + i % (mP M + 1)) with
          | 0 => 46
          | j + 1 => nI (mSu M (j / 4)), (if i % (mP M + 1) = mP M then 10 else match iAt M (mPl M) u (i / (mP M + 1) * mP M + i % (mP M + 1)) with
          | 0 => 46
          | j + 1 => nI (mSu M (j / 4)), va_up s 2200 (fun _ => 0)), ?_, ?_, rfl, rfl, Inv_thr G R R2 0⟩
      · unfold F_X5_page
        rw [k1']
        simp only [Option.bind_some, bnd, one0, if_false]
        rw [R.1.2.1, R.1.1, eP, pk_mul, isW s _ (by omega), hb]
        simp only [Option.bind_some, b2i_z, Bool.true_eq_false, if_false]
        rw [grd_t (nI_ne0 (by omega) (by omega)), pk_rem (by omega) (by omega) (by omega), k2']
        by_cases hc : i % (mP M + 1) = mP M
        · rw [if_pos (by rw [hc]), if_pos hc]
        · have hp : i / (mP M + 1) * mP M + i % (mP M + 1) < mD M * mP M := by
            calc i / (mP M + 1) * mP M + i % (mP M + 1) < i / (mP M + 1) * mP M + mP M := by omega
              _ = (i / (mP M + 1) + 1) * mP M := by rw [Nat.add_mul, Nat.one_mul]
              _ ≤ mD M * mP M := Nat.mul_le_mul_right _ hrow
          rw [if_neg (by rw [nI_eq (by omega) (by omega)]; exact hc), if_neg hc]
          simp only [Option.bind_some]
          rw [grd_t (nI_ne0 (by omega) (by omega)), pk_div (by omega) (by omega) (by omega), pk_mul, nI_add, letterAt_C G R hu (by omega)]
          rfl
      · unfold F_X6_page
        simp only [jn]
        rw [k3']
        simp only [Option.bind_some, one0, if_false]
        have key := hT (va_up s 2200 (fun _ => 0)) (RepM_thr R2 0)
        by_cases hw : nI (uW u) = 2
        · rw [if_pos hw, k4' hw]
          simp only [Option.bind_some, one0, if_false, if_true]
          rw [R2.1.2.1, R2.1.1, eP, pk_mul, inW s _ (by omega), hb]
          simp only [Option.bind_some, b2i_z, Bool.true_eq_false, if_false]
          rw [thr00]
          simp only [Option.bind_some, if_true, bnd]
          exact key
        · rw [if_neg hw, k5' hw]
          simp only [Option.bind_some, one0, if_false, if_true]
          rw [R2.1.2.1, R2.1.1, eP, pk_mul, inW s _ (by omega), hb]
          simp only [Option.bind_some, b2i_z, Bool.true_eq_false, if_false]
          rw [thr00]
          simp only [Option.bind_some, if_true, bnd]
          exact key
  · refine Or.inr (Or.inl ⟨(0, va_up s 2200 (fun _ => 1)), ?_, ?_, rfl, Inv_thr G R R2 1⟩)
    · unfold F_X5_page
      rw [hx]
      simp
    · have e9 : (F_X6_throwing 1 0 s).bind (fun q4 => if q4.1 = 0 then
          grd (¬ ((q4.2 2202 0) + (1 : Int32)) = 0) <|
          bnd (z - z / ((q4.2 2202 0) + (1 : Int32)) * ((q4.2 2202 0) + (1 : Int32))) fun x8 =>
          if x8 = (q4.2 2202 0) then some ((10 : Int32), q4.2)
          else
            grd (¬ ((q4.2 2202 0) + (1 : Int32)) = 0) <|
            (F_X6_itemAt x y (((z / ((q4.2 2202 0) + (1 : Int32))) * (q4.2 2202 0)) + x8) q4.2).bind fun q12 =>
            if 0 ≤ q12 then
              (F_X6_lessonOf q12 q4.2).bind fun q15 =>
              grd (ixb q15 16 = true) <|
              some ((q4.2 29 q15.toNatClampNeg), q4.2)
            else some ((46 : Int32), q4.2)
        else some ((0 : Int32), q4.2)) = some (0, va_up s 2200 (fun _ => 1)) := by
        rw [thr10]
        rfl
      unfold F_X6_page
      simp only [jn]
      rcases hr with h | ⟨h, ⟨h2, h3⟩ | ⟨h2, h3⟩⟩
      · rw [h]
        simp only [Option.bind_some, if_true, one0, if_false]
        exact e9
      · rw [h]
        simp only [Option.bind_some, if_true, one0, if_false]
        rw [if_pos h2, h3]
        simp only [Option.bind_some, if_true, one0, if_false]
        exact e9
      · rw [h]
        simp only [Option.bind_some, if_true, one0, if_false]
        rw [if_neg h2, h3]
        simp only [Option.bind_some, if_true, one0, if_false]
        exact e9
