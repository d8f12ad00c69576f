/-! ===== block ===== -/
theorem nar_b : vp_nar .boolean 0 = 0 ∧ vp_nar .boolean 1 = 1 := by decide +kernel
theorem m1_b : ∀ q, q < 32 → bt (-1) q = true := b_m1
section Bl
variable {M : MS} {s : Sg}
theorem Good_bl (G : Good M) (g : Nat → Nat) : Good (va_up M 12 g) := G
theorem mBl_up (M : MS) {u p v u' q : Nat} (hp : p < 30) (hq : q < 30) : mBl (va_up M 12 (va_up (M 12) (30 * u + p) v)) u' q = if u' = u ∧ q = p then (v == 1) else mBl M u' q := by
  unfold mBl
  rw [up_eq]
  unfold va_up
  by_cases h : u' = u ∧ q = p
  · rw [if_pos h, if_pos (by rw [h.1, h.2])]
  · rw [if_neg h, if_neg (by omega)]
theorem RepM_bl (R : RepM M s) {u p : Nat} (hu : u < 22) (hp : p < 30) (v : Bool) : RepM (va_up M 12 (va_up (M 12) (30 * u + p) (if v = true then 1 else 0))) (va_up s 32 (upd (s 32) (30 * u + p) (b2i v))) := by
  refine ⟨R.1, R.2.1, R.2.2.1, R.2.2.2.1, ?_, R.2.2.2.2.2.1, R.2.2.2.2.2.2⟩
  intro u' q hu' hq
  rw [mBl_up M hp hq, up_eq]
  by_cases h : u' = u ∧ q = p
  · rw [if_pos h, h.1, h.2, pk_us]; cases v <;> rfl
  · rw [if_neg h, pk_un (by omega)]
    exact R.2.2.2.2.1 u' q hu' hq
theorem RepC_bl (G : Good M) (R : RepC M s) {u p : Nat} (hu : u < 22) (hp : p < mD M * mP M) (v : Bool) {x : Int32} (hx : ∀ q, q < 32 → bt x q = if q = p then v else bt (s 18 u) q) : RepC (va_up M 12 (va_up (M 12) (30 * u + p) (if v = true then 1 else 0))) (va_up s 18 (upd (s 18) u x)) := by
  have h30 := dp_le G
  refine ⟨R.1, R.2.1, R.2.2.1, R.2.2.2.1, R.2.2.2.2.1, ?_, R.2.2.2.2.2.2.1, R.2.2.2.2.2.2.2⟩
  intro u' q hu' hq
  rw [up_eq]
  show _ = (decide (q < mD M * mP M) && _)
  by_cases hu2 : u' = u
  · subst hu2
    rw [pk_us, hx q hq]
    by_cases hq2 : q = p
    · subst hq2
      rw [if_pos rfl, mBl_up M (by omega) (by omega), if_pos ⟨rfl, rfl⟩]
      cases v <;> simp [hp]
    · rw [if_neg hq2, R.2.2.2.2.2.1 u' q hu' hq]
      rcases Nat.lt_or_ge q (mD M * mP M) with h | h
      · rw [mBl_up M (by omega) (by omega), if_neg (by omega)]
      · simp [Nat.not_lt.mpr h]
  · rw [pk_un hu2, R.2.2.2.2.2.1 u' q hu' hq]
    rcases Nat.lt_or_ge q (mD M * mP M) with h | h
    · rw [mBl_up M (by omega) (by omega), if_neg (by omega)]
    · simp [Nat.not_lt.mpr h]
end Bl
theorem RepM_fr {M : MS} {s : Sg} (R : RepM M s) {k : Nat} (v : Nat → Int32) (hk : cM k = false) : RepM M (va_up s k v) := R.frame fun c hc => by
  unfold va_up
  rw [if_neg]
  intro e
  subst e
  rw [hk] at hc; cases hc
theorem RepC_fr {M : MS} {s : Sg} (R : RepC M s) {k : Nat} (v : Nat → Int32) (hk : cC k = false) : RepC M (va_up s k v) := R.frame fun c hc => by
  unfold va_up
  rw [if_neg]
  intro e
  subst e
  rw [hk] at hc; cases hc
theorem isPer_M {M : MS} {s : Sg} (G : Good M) (R : RepM M s) (x : Int32) : F_X6_isPeriod x s = some (b2i (ixb x (mD M * mP M))) := by
  have h30 := dp_le G
  unfold F_X6_isPeriod
  rw [R.1.1, R.1.2.1, pk_mul, inW s x (by omega)]
  cases ixb x (mD M * mP M) <;> rfl
theorem p_block : P_block Inv := by
  rintro s ⟨M, G, R, R2⟩ x y z w hw
  have h30 := dp_le G
  have e9 : ∀ t : Sg, ((F_X6_throwing 1 0 t).bind fun q4 => if q4.1 = 0 then
        grd (ixb ((((240 : Int32) * x) + ((30 : Int32) * y)) + z) 660 = true) <|
        bnd (va_up q4.2 32 (upd (q4.2 32) ((((240 : Int32) * x) + ((30 : Int32) * y)) + z).toNatClampNeg (vp_nar .boolean w))) fun s8 =>
        some s8
      else
        some q4.2) = some (va_up t 2200 (fun _ => 1)) := by
    intro t
    rw [thr10]
    rfl
  rcases usr_cases x y with ⟨u, hu, rfl, rfl⟩ | ⟨hx, hr⟩
  · obtain ⟨k1, k2, k3, k4, k5⟩ := usr_dec u hu
    have k1' : ∀ s, F_X5_isUser (nI (uW u)) (nI (uH u)) s = some 1 := fun _ => k1
    have k2' : ∀ s, F_X5_userOf (nI (uW u)) (nI (uH u)) s = some (nI u) := fun _ => k2
    have k3' : ∀ s, F_X6_in (nI (uW u)) 0 2 s = some 1 := fun _ => k3
    have k4' : nI (uW u) = 2 → ∀ s, F_X6_in (nI (uH u)) 0 5 s = some 1 := fun h _ => k4 h
    have k5' : ¬ nI (uW u) = 2 → ∀ s, F_X6_in (nI (uH u)) 0 7 s = some 1 := fun h _ => k5 h
    -- the reference behind its ranges
    have hE : ∀ t : Sg, RepM M t → ∀ z : Int32, F_X6_block (nI (uW u)) (nI (uH u)) z w t = (if ixb z (mD M * mP M) = true then (if w = 0 then (F_X6_throwing 0 0 t).bind fun q4 => if q4.1 = 0 then
        grd (ixb ((((240 : Int32) * nI (uW u)) + ((30 : Int32) * nI (uH u))) + z) 660 = true) <|
        bnd (va_up q4.2 32 (upd (q4.2 32) ((((240 : Int32) * nI (uW u)) + ((30 : Int32) * nI (uH u))) + z).toNatClampNeg (vp_nar .boolean w))) fun s8 =>
        some s8
      else
        some q4.2 else (F_X6_itemAt (nI (uW u)) (nI (uH u)) z t).bind fun q14 => (F_X6_throwing 0 (if q14 < 0 then 0 else 1) t).bind fun q4 => if q4.1 = 0 then
        grd (ixb ((((240 : Int32) * nI (uW u)) + ((30 : Int32) * nI (uH u))) + z) 660 = true) <|
        bnd (va_up q4.2 32 (upd (q4.2 32) ((((240 : Int32) * nI (uW u)) + ((30 : Int32) * nI (uH u))) + z).toNatClampNeg (vp_nar .boolean w))) fun s8 =>
        some s8
      else
        some q4.2) else some (va_up t 2200 (fun _ => 1))) := by
      intro t Rt z
      unfold F_X6_block
      simp only [jn]
      rw [k3']
      simp only [Option.bind_some, one0, if_false]
      have hj : ∀ (c : Int32), F_X6_in (nI (uH u)) 0 c t = some 1 → (if nI (uW u) = 2 then (5 : Int32) else 7) = c → True := fun _ _ _ => trivial
      by_cases hw2 : nI (uW u) = 2
      · rw [if_pos hw2, k4' hw2]
        simp only [Option.bind_some, one0, if_false]
        rw [isPer_M G Rt]
        cases hb : ixb z (mD M * mP M) with
        | false =>
          simp only [Option.bind_some, b2i_f, if_true, one0, if_false, Bool.false_eq_true]
          rw [thr10]
          rfl
        | true =>
          simp only [Option.bind_some, b2i_t, if_true, one0, if_false]
          by_cases hw3 : w = 0
          · rw [if_pos hw3, if_pos hw3]
          · rw [if_neg hw3, if_neg hw3]
            congr 1
            funext q14
            by_cases hq : q14 < 0
            · rw [if_pos hq, if_pos hq]
            · rw [if_neg hq, if_neg hq]
      · rw [if_neg hw2, k5' hw2]
        simp only [Option.bind_some, one0, if_false]
        rw [isPer_M G Rt]
        cases hb : ixb z (mD M * mP M) with
        | false =>
          simp only [Option.bind_some, b2i_f, if_true, one0, if_false, Bool.false_eq_true]
          rw [thr10]
          rfl
        | true =>
          simp only [Option.bind_some, b2i_t, if_true, one0, if_false]
          by_cases hw3 : w = 0
          · rw [if_pos hw3, if_pos hw3]
          · rw [if_neg hw3, if_neg hw3]
            congr 1
            funext q14
            by_cases hq : q14 < 0
            · rw [if_pos hq, if_pos hq]
            · rw [if_neg hq, if_neg hq]
    cases hb : ixb z (mD M * mP M) with
    | false =>
      refine Or.inr (Or.inl ⟨va_up s 2200 (fun _ => 1), ?_, ?_, rfl, Inv_thr G R R2 1⟩)
      · unfold F_X5_block
        simp only [jn]
        rw [k1']
        simp only [Option.bind_some, one0, if_false]
        rw [R.1.2.2.1, isW s z (by omega), hb]
        simp [b2i]
      · rw [hE s R2 z, hb]
        simp
    | true =>
      obtain ⟨p, hp, rfl⟩ := (ixb_iff (by omega)).mp hb
      have e240 : (240 : Int32) * nI (uW u) + 30 * nI (uH u) + nI p = nI (30 * u + p) := by rw [usr_ix u hu, nI_add]
      have e660 : ixb (nI (30 * u + p)) 660 = true := ixb_nI (by omega) (by decide)
      have hocc := R.2.2.2.2.2.2.1 u p hu (by omega)
      have hbit := bit1 (p := p) (by omega) (s 19 u)
      have hput : ∀ (t : Sg) (v : Bool), w = b2i v → RepM M t → (grd (ixb ((((240 : Int32) * nI (uW u)) + ((30 : Int32) * nI (uH u))) + nI p) 660 = true) <|
        bnd (va_up t 32 (upd (t 32) ((((240 : Int32) * nI (uW u)) + ((30 : Int32) * nI (uH u))) + nI p).toNatClampNeg (vp_nar .boolean w))) fun s8 =>
        some s8) = some (va_up t 32 (upd (t 32) (30 * u + p) (b2i v))) := by
        intro t v hv Rt
        rw [e240, grd_t e660, nI_clamp (by omega), hv]
        cases v
        · rw [show b2i false = 0 from rfl, nar_b.1]; rfl
        · rw [show b2i true = 1 from rfl, nar_b.2]; rfl
      rcases hw with rfl | rfl
      · -- off
        refine Or.inl ⟨va_up s 18 (upd (s 18) u (s 18 u &&& (((1 : Int32) <<< (nI p &&& 31)) ^^^ (-1)))), va_up (va_up (va_up s 18 (upd (s 18) u (s 18 u &&& (((1 : Int32) <<< (nI p &&& 31)) ^^^ (-1))))) 2200 (fun _ => 0)) 32 (upd (s 32) (30 * u + p) (b2i false)), ?_, ?_, rfl, ?_⟩
        · unfold F_X5_block
          simp only [jn]
          rw [k1']
          simp only [Option.bind_some, one0, if_false]
          rw [R.1.2.2.1, isW s _ (by omega), hb]
          simp only [Option.bind_some, b2i_z, Bool.true_eq_false, if_false, if_true]
          rw [k2']
          simp only [Option.bind_some, bnd]
          rw [grd_t (ixb_nI hu (by decide)), grd_t (ixb_nI hu (by decide)), nI_clamp (by omega)]
        · rw [hE _ (RepM_fr R2 _ rfl), hb, if_pos rfl, if_pos rfl, thr00]
          simp only [Option.bind_some, if_true]
          rw [hput _ false rfl (RepM_thr (RepM_fr R2 _ rfl) 0)]
          rfl
        · refine ⟨_, Good_bl G (va_up (M 12) (30 * u + p) (if false = true then 1 else 0)), ?_, ?_⟩
          · exact RepC_fr (RepC_fr (RepC_bl G R hu hp false fun q hq => by
              rw [b_and, b_xor, b_m1 q hq]
              have := bm_bt (n := 1) (p := p) (Or.inl rfl) (by omega) hq
              unfold bm at this
              rw [if_neg (by decide)] at this
              rw [this]
              by_cases hqp : q = p
              · subst hqp; simp
              · rw [if_neg hqp]
                have : (decide (p ≤ q) && decide (q < p + 1)) = false := by
                  simp; omega
                rw [this]; simp) _ rfl) _ rfl
          · exact RepM_bl (RepM_thr (RepM_fr R2 _ rfl) 0) hu (by omega) false
      · -- on
        cases ho : occ M (mPl M) u p with
        | true =>
          refine Or.inr (Or.inr ⟨va_up s 2200 (fun _ => 2), ?_, ?_, rfl, Inv_thr G R R2 2⟩)
          · unfold F_X5_block
            simp only [jn]
            rw [k1']
            simp only [Option.bind_some, one0, if_false]
            rw [R.1.2.2.1, isW s _ (by omega), hb]
            simp only [Option.bind_some, b2i_z, Bool.true_eq_false, if_false, if_true]
            rw [k2']
            simp only [Option.bind_some, bnd]
            rw [grd_t (ixb_nI hu (by decide)), nI_clamp (by omega), if_neg]
            rw [hbit, hocc, ho]
            simp
          · rw [hE s R2, hb, if_pos rfl, if_neg (by decide), itemAt_M G R2 hu (by omega)]
            simp only [Option.bind_some]
            cases hi : iAt M (mPl M) u p with
            | zero => rw [iAt_occ, ho] at hi; cases hi
            | succ j =>
              obtain ⟨j1, -⟩ := iAt_lt hi
              rw [if_neg (show ¬ oI (j + 1) < 0 from nI_pos (by omega)), thr01]
              rfl
        | false =>
          refine Or.inl ⟨va_up s 18 (upd (s 18) u (s 18 u ||| ((1 : Int32) <<< (nI p &&& 31)))), va_up (va_up (va_up s 18 (upd (s 18) u (s 18 u ||| ((1 : Int32) <<< (nI p &&& 31))))) 2200 (fun _ => 0)) 32 (upd (s 32) (30 * u + p) (b2i true)), ?_, ?_, rfl, ?_⟩
          · unfold F_X5_block
            simp only [jn]
            rw [k1']
            simp only [Option.bind_some, one0, if_false]
            rw [R.1.2.2.1, isW s _ (by omega), hb]
            simp only [Option.bind_some, b2i_z, Bool.true_eq_false, if_false, if_true]
            rw [k2']
            simp only [Option.bind_some, bnd]
            rw [grd_t (ixb_nI hu (by decide)), grd_t (ixb_nI hu (by decide)), grd_t (ixb_nI hu (by decide)), nI_clamp (by omega), if_pos]
            rw [hbit, hocc, ho]
          · rw [hE _ (RepM_fr R2 _ rfl), hb, if_pos rfl, if_neg (by decide), itemAt_M G (RepM_fr R2 _ rfl) hu (by omega)]
            simp only [Option.bind_some]
            rw [(iAt_occ M (mPl M) u p).mpr ho, if_pos (show oI 0 < 0 by decide), thr00]
            simp only [Option.bind_some, if_true]
            rw [hput _ true rfl (RepM_thr (RepM_fr R2 _ rfl) 0)]
            rfl
          · refine ⟨_, Good_bl G (va_up (M 12) (30 * u + p) (if true = true then 1 else 0)), ?_, ?_⟩
            · exact RepC_fr (RepC_fr (RepC_bl G R hu hp true fun q hq => by
                rw [b_or]
                have := bm_bt (n := 1) (p := p) (Or.inl rfl) (by omega) hq
                unfold bm at this
                rw [if_neg (by decide)] at this
                rw [this]
                by_cases hqp : q = p
                · subst hqp; simp
                · rw [if_neg hqp]
                  have : (decide (p ≤ q) && decide (q < p + 1)) = false := by
                    simp; omega
                  rw [this]; simp) _ rfl) _ rfl
            · exact RepM_bl (RepM_thr (RepM_fr R2 _ rfl) 0) hu (by omega) true
  · refine Or.inr (Or.inl ⟨va_up s 2200 (fun _ => 1), ?_, ?_, rfl, Inv_thr G R R2 1⟩)
    · unfold F_X5_block
      simp only [jn]
      rw [hx]
      simp
    · unfold F_X6_block
      simp only [jn]
      rcases hr with h | ⟨h, ⟨h2, h3⟩ | ⟨h2, h3⟩⟩
      · rw [h]
        simp only [Option.bind_some, if_true, one0, if_false]
        exact e9 s
      · rw [h]
        simp only [Option.bind_some, if_true, one0, if_false]
        rw [if_pos h2, h3]
        simp only [Option.bind_some, if_true, one0, if_false]
        exact e9 s
      · rw [h]
        simp only [Option.bind_some, if_true, one0, if_false]
        rw [if_neg h2, h3]
        simp only [Option.bind_some, if_true, one0, if_false]
        exact e9 s
