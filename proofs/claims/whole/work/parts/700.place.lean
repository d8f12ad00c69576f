/-! ===== place, drop, undo ===== -/
theorem diff_up {f : Nat → Nat} {i x : Nat} (hi : i < 64) (h : f i ≠ x) : diffb f (va_up f i x) = true := anyb_iff.mpr ⟨i, hi, by rw [up_eq]; simpa using h⟩
theorem cC_ne {c : Nat} (h : cC c = true) {k : Nat} (hk : cC k = false) : c ≠ k := fun e => by rw [e, hk] at h; cases h
theorem cM_ne {c : Nat} (h : cM c = true) {k : Nat} (hk : cM k = false) : c ≠ k := fun e => by rw [e, hk] at h; cases h
theorem cCM {c : Nat} (h : cC c = true) : cM c = false := by
  cases hm : cM c with
  | false => rfl
  | true =>
    simp only [cC, cM, Bool.or_eq_true, Bool.and_eq_true, decide_eq_true_eq, Nat.blt_eq] at h hm
    omega
theorem p_place : P_place Inv := by
  rintro s ⟨M, G, R, R2⟩ x y z
  have h30 := dp_le G
  have V := G.2.2.2.1
  have hbad : ∀ t : Sg, ((F_X6_throwing 1 0 t).bind fun q4 =>
      if q4.1 = 0 then
        (F_X6_rule (((4 : Int32) * x) + y) z q4.2).bind fun q7 =>
        if q7 ≤ 0 then
          (F_X6_keep  q4.2).bind fun q10 =>
          (F_X6_put (((4 : Int32) * x) + y) z q10).bind fun q12 =>
          (F_X6_note  q12).bind fun q14 =>
          some ((0 : Int32), q14)
        else
          some (q7, q4.2)
      else
        some ((0 : Int32), q4.2)) = some (0, va_up t 2200 (fun _ => 1)) := by
    intro t; rw [thr10]; rfl
  cases hb : hasB M x y with
  | false =>
    refine Or.inr (Or.inl ⟨(0, va_up s 2200 (fun _ => 1)), ?_, ?_, rfl, Inv_thr G R R2 1⟩)
    · unfold F_X5_place; rw [hasI_C G R, hb]; rfl
    · unfold F_X6_place
      simp only [jn]
      rw [hasI_M G R2, hb]
      simp only [Option.bind_some, b2i_f, if_true, one0, if_false]
      exact hbad s
  | true =>
  cases hz : ixb z (mD M * mP M) with
  | false =>
    refine Or.inr (Or.inl ⟨(0, va_up s 2200 (fun _ => 1)), ?_, ?_, rfl, Inv_thr G R R2 1⟩)
    · unfold F_X5_place; rw [hasI_C G R, hb, R.1.2.2.1, isW s z (by omega), hz]; rfl
    · unfold F_X6_place
      simp only [jn]
      rw [hasI_M G R2, hb, isPer_M G R2, hz]
      simp only [Option.bind_some, b2i_f, b2i_t, if_true, one0, if_false]
      exact hbad s
  | true =>
  obtain ⟨l, k, hl, hk, rfl, rfl, h16, h4⟩ := hasB_iff G hb
  obtain ⟨p, hp, rfl⟩ := (ixb_iff (by omega)).mp hz
  have hi : 4 * l + k < 64 := by omega
  have eix : (4 : Int32) * nI l + nI k = nI (4 * l + k) := by rw [show (4 : Int32) = nI 4 from rfl, pk_mul, nI_add]
  have el : (4 * l + k) / 4 = l := by omega
  have ek : (4 * l + k) % 4 = k := by omega
  have g64 := ixb_nI hi (show 64 < 2 ^ 31 by decide)
  have hpl := pl_lt G V hi
  have hq : ∀ t : Sg, RepM M t → F_X6_place (nI l) (nI k) (nI p) t = (F_X6_throwing 0 (if mPl M (4 * l + k) = 0 then 0 else 1) t).bind fun q4 =>
      if q4.1 = 0 then
        (F_X6_rule (nI (4 * l + k)) (nI p) q4.2).bind fun q7 =>
        if q7 ≤ 0 then
          (F_X6_keep  q4.2).bind fun q10 =>
          (F_X6_put (nI (4 * l + k)) (nI p) q10).bind fun q12 =>
          (F_X6_note  q12).bind fun q14 =>
          some ((0 : Int32), q14)
        else
          some (q7, q4.2)
      else
        some ((0 : Int32), q4.2) := by
    intro t Rt
    unfold F_X6_place
    simp only [jn]
    rw [hasI_M G Rt, hb, isPer_M G Rt, hz]
    simp only [Option.bind_some, b2i_t, if_true, one0, if_false, eix, grd_t g64, nI_clamp (show 4 * l + k < 2 ^ 31 by omega), (Rt.2.2.2.1 _ hi).1, oI_neg (po_lt hpl).1]
    by_cases h0 : mPl M (4 * l + k) = 0
    · rw [if_pos (by unfold perO; rw [if_pos h0]), if_pos h0]
    · rw [if_neg (by unfold perO; rw [if_neg h0]; omega), if_neg h0]
  by_cases h0 : mPl M (4 * l + k) = 0
  · obtain ⟨r, d1, d2, d3⟩ := draw_C G R
    have c0 : F_X5_place (nI l) (nI k) (nI p) s = (F_X0_putByRules (nI (4 * l + k)) (nI p) (va_up s 7 r)).bind fun q14 =>
        if q14.1 = 0 then
          (F_X2_keep  q14.2).bind fun q17 =>
          some (.inl (q14.1, q17))
        else
          some (.inl (q14.1, q14.2)) := by
      unfold F_X5_place
      rw [hasI_C G R, hb, R.1.2.2.1, isW s _ (by omega), hz]
      simp only [Option.bind_some, b2i_t, one0, if_false]
      rw [itemOf_C]
      simp only [Option.bind_some]
      rw [isPlaced_C G R hi]
      simp only [Option.bind_some, h0, ne_eq, not_true_eq_false, decide_false, b2i_f, if_true]
      rw [d1]
      rfl
    by_cases hr : ruleM M (mPl M) l p = 0
    · obtain ⟨k1, k2, k3, k4, k5⟩ := rule0 hr
      obtain ⟨rr, hrr⟩ : ∃ rr, freeR M (mPl M) l p = rr + 1 := ⟨freeR M (mPl M) l p - 1, by omega⟩
      obtain ⟨b, sp, b1, b2⟩ := putBy_C G d2 (i := 4 * l + k) (p := p) (r := rr) hi (by omega) h0 hp (by rw [el]; exact hr) (by rw [el]; exact hrr)
      have V2 := VP_put G V (i := 4 * l + k) (p := p) (r := rr) hi (by omega) (by rw [el, ek]; exact hk) hp (by rw [el]; exact hr) (by rw [el]; exact hrr)
      have G2 := Good_pl G V2
      obtain ⟨t, t1, t2, t3⟩ := keep_C G2 b2 (f0 := mPl M) d3
      have Rt : RepM M t := R2.frame fun c hc => by
        rw [t3 c (cM_ne hc rfl) (cM_ne hc rfl), up_ne _ _ (cM_ne hc rfl), up_ne _ _ (cM_ne hc rfl), up_ne _ _ (cM_ne hc rfl)]
      obtain ⟨w, w1, w2, w3, w4⟩ := keep_M (RepM_thr Rt 0)
      obtain ⟨a, a', a1, a2⟩ := put_M G w3 (i := 4 * l + k) (p := p) (r := rr) hi (by omega) hp (by rw [el]; exact k1) (by rw [el]; exact hrr)
      obtain ⟨v, v1, v2, v3⟩ := note_M G2 a2 (f0 := mPl M) V w4
      have hd : diffb (mPl M) (mPl (va_up M 11 (va_up (mPl M) (4 * l + k) (6 * p + rr + 1)))) = true := diff_up hi (by omega)
      rw [hd, if_pos rfl] at v3
      refine Or.inl ⟨(0, t), (0, v), ?_, ?_, ?_, rfl, _, Good_push G2 V, ?_, v3⟩
      · rw [c0, b1]
        simp only [Option.bind_some, if_true]
        rw [t1]; rfl
      · rw [hq t Rt, if_pos h0, thr00]
        simp only [Option.bind_some, if_true]
        rw [rule_M G (RepM_thr Rt 0) hi (by omega) h0 hp, el, hr]
        simp only [Option.bind_some]
        rw [if_pos (show nI 0 ≤ 0 by decide), w1]
        simp only [Option.bind_some]
        rw [a1]
        simp only [Option.bind_some]
        rw [v1]; rfl
      · show v 2200 0 = 0
        rw [v2 2200 (by decide) (by decide) (by decide)]
        show w 2200 0 = 0
        rw [w2 2200 (by decide) (by decide)]; rfl
      · exact t2.frame fun c hc => by
          show v c = t c
          rw [v2 c (cC_ne hc rfl) (cC_ne hc rfl) (cC_ne hc rfl), up_ne _ _ (cC_ne hc rfl), up_ne _ _ (cC_ne hc rfl), w2 c (cC_ne hc rfl) (cC_ne hc rfl), up_ne _ _ (cC_ne hc rfl)]
    · have hlt := ruleM_lt (M := M) (f := mPl M) (l := l) (p := p)
      have Rt : RepM M (va_up s 7 r) := RepM_fr R2 r rfl
      refine Or.inl ⟨(nI (ruleM M (mPl M) l p), va_up s 7 r), (nI (ruleM M (mPl M) l p), va_up (va_up s 7 r) 2200 (fun _ => 0)), ?_, ?_, rfl, rfl, Inv_thr G d2 Rt 0⟩
      · rw [c0, putBy_no G d2 hi (by omega) hp (by rw [el]; exact hr), el]
        simp only [Option.bind_some]
        rw [if_neg (nI_ne0 (by omega) (by omega))]
      · rw [hq _ Rt, if_pos h0, thr00]
        simp only [Option.bind_some, if_true]
        rw [rule_M G (RepM_thr Rt 0) hi (by omega) h0 hp, el]
        simp only [Option.bind_some]
        rw [if_neg (nI_nle (by omega) (by omega))]
  · refine Or.inr (Or.inr ⟨(0, va_up s 2200 (fun _ => 2)), ?_, ?_, rfl, Inv_thr G R R2 2⟩)
    · unfold F_X5_place
      rw [hasI_C G R, hb, R.1.2.2.1, isW s _ (by omega), hz]
      simp only [Option.bind_some, b2i_t, one0, if_false]
      rw [itemOf_C]
      simp only [Option.bind_some]
      rw [isPlaced_C G R hi]
      simp only [Option.bind_some, h0, ne_eq, not_false_eq_true, decide_true, b2i_t, one0, if_false]
    · rw [hq s R2, if_neg h0, thr01]
      rfl
theorem p_drop : P_drop Inv := by
  rintro s ⟨M, G, R, R2⟩ x y
  have V := G.2.2.2.1
  cases hb : hasB M x y with
  | false =>
    refine Or.inr (Or.inl ⟨(0, va_up s 2200 (fun _ => 1)), ?_, ?_, rfl, Inv_thr G R R2 1⟩)
    · unfold F_X5_drop; rw [hasI_C G R, hb]; rfl
    · unfold F_X6_drop
      simp only [jn]
      rw [hasI_M G R2, hb]
      simp only [Option.bind_some, b2i_f, if_true, one0, if_false]
      rw [thr10]; rfl
  | true =>
  obtain ⟨l, k, hl, hk, rfl, rfl, h16, h4⟩ := hasB_iff G hb
  have hi : 4 * l + k < 64 := by omega
  have eix : (4 : Int32) * nI l + nI k = nI (4 * l + k) := by rw [show (4 : Int32) = nI 4 from rfl, pk_mul, nI_add]
  have g64 := ixb_nI hi (show 64 < 2 ^ 31 by decide)
  have c64 : (nI (4 * l + k)).toNatClampNeg = 4 * l + k := nI_clamp (by omega)
  have hpl := pl_lt G V hi
  by_cases h0 : mPl M (4 * l + k) = 0
  · refine Or.inr (Or.inr ⟨(0, va_up s 2200 (fun _ => 2)), ?_, ?_, rfl, Inv_thr G R R2 2⟩)
    · unfold F_X5_drop
      rw [hasI_C G R, hb]
      simp only [Option.bind_some, b2i_t, one0, if_false]
      rw [itemOf_C]
      simp only [Option.bind_some]
      rw [isPlaced_C G R hi]
      simp only [Option.bind_some, h0, ne_eq, not_true_eq_false, decide_false, b2i_f, if_true]
    · unfold F_X6_drop
      simp only [jn]
      rw [hasI_M G R2, hb]
      simp only [Option.bind_some, b2i_t, if_true, one0, if_false, eix, grd_t g64, c64, (R2.2.2.2.1 _ hi).1, oI_pos (po_lt hpl).1]
      rw [if_neg (by unfold perO; rw [if_pos h0]; omega), thr01]
      rfl
  · obtain ⟨r, d1, d2, d3⟩ := draw_C G R
    obtain ⟨b, sp, b1, b2⟩ := takeOut_C G d2 hi h0
    have V2 := VP_out V (4 * l + k)
    have G2 := Good_pl G V2
    obtain ⟨t, t1, t2, t3⟩ := keep_C G2 b2 (f0 := mPl M) d3
    have Rt : RepM M t := R2.frame fun c hc => by
      rw [t3 c (cM_ne hc rfl) (cM_ne hc rfl), up_ne _ _ (cM_ne hc rfl), up_ne _ _ (cM_ne hc rfl), up_ne _ _ (cM_ne hc rfl)]
    obtain ⟨w, w1, w2, w3, w4⟩ := keep_M (RepM_thr Rt 0)
    obtain ⟨a, a', a1, a2⟩ := out_M w3 hi
    obtain ⟨v, v1, v2, v3⟩ := note_M G2 a2 (f0 := mPl M) V w4
    have hd : diffb (mPl M) (mPl (va_up M 11 (va_up (mPl M) (4 * l + k) 0))) = true := diff_up hi h0
    rw [hd, if_pos rfl] at v3
    refine Or.inl ⟨(oI (perO (mPl M) (4 * l + k)), t), (oI (perO (mPl M) (4 * l + k)), v), ?_, ?_, ?_, rfl, _, Good_push G2 V, ?_, v3⟩
    · unfold F_X5_drop
      rw [hasI_C G R, hb]
      simp only [Option.bind_some, b2i_t, one0, if_false]
      rw [itemOf_C]
      simp only [Option.bind_some]
      rw [isPlaced_C G R hi]
      simp only [Option.bind_some, h0, ne_eq, not_false_eq_true, decide_true, b2i_t, one0, if_false]
      rw [periodOf_C G R hi]
      simp only [Option.bind_some]
      rw [d1]
      simp only [Option.bind_some]
      rw [b1]
      simp only [Option.bind_some]
      rw [t1]; rfl
    · unfold F_X6_drop
      simp only [jn]
      rw [hasI_M G Rt, hb]
      simp only [Option.bind_some, b2i_t, if_true, one0, if_false, eix, grd_t g64, c64, (Rt.2.2.2.1 _ hi).1, oI_pos (po_lt hpl).1]
      rw [if_pos (by unfold perO; rw [if_neg h0]; omega), thr00]
      simp only [Option.bind_some, if_true, bnd]
      rw [w1]
      simp only [Option.bind_some]
      rw [a1]
      simp only [Option.bind_some]
      rw [v1, ((RepM_thr Rt 0).2.2.2.1 _ hi).1]; rfl
    · show v 2200 0 = 0
      rw [v2 2200 (by decide) (by decide) (by decide)]
      show w 2200 0 = 0
      rw [w2 2200 (by decide) (by decide)]; rfl
    · exact t2.frame fun c hc => by
        show v c = t c
        rw [v2 c (cC_ne hc rfl) (cC_ne hc rfl) (cC_ne hc rfl), up_ne _ _ (cC_ne hc rfl), up_ne _ _ (cC_ne hc rfl), w2 c (cC_ne hc rfl) (cC_ne hc rfl), up_ne _ _ (cC_ne hc rfl)]
/-! undo -/
theorem fill0 : ∀ (fu i : Nat) (s : Sg), i ≤ 22 → 22 - i < fu → ∃ b, L_J7_fill_53178_5 fu 0 (nI i) 22 s = some (va_up s 19 b) ∧ ∀ k, b k = if i ≤ k ∧ k < 22 then 0 else s 19 k := by
  intro fu
  induction fu with
  | zero => intro i s h1 h2; omega
  | succ fu ih =>
    intro i s h1 h2
    rw [L_J7_fill_53178_5, show (22 : Int32) = nI 22 from rfl]
    simp only [nI_leI (show 22 < 2 ^ 31 by decide) (show i < 2 ^ 31 by omega), bnd]
    rcases Nat.lt_or_ge i 22 with h | h
    · rw [if_neg (by omega), grd_t (ixb_nI h (by decide)), nI_clamp (by omega), nI_1]
      obtain ⟨b, b1, b2⟩ := ih (i + 1) (va_up s 19 (upd (s 19) i 0)) (by omega) (by omega)
      refine ⟨b, ?_, fun k => ?_⟩
      · rw [show nI 22 = 22 from rfl, b1, up_up]
      · rw [b2 k, up_eq]
        by_cases e : k = i
        · subst e; rw [if_neg (by omega), if_pos (by omega), pk_us]
        · rw [pk_un e]
          by_cases h3 : i + 1 ≤ k ∧ k < 22
          · rw [if_pos h3, if_pos (by omega)]
          · rw [if_neg h3, if_neg (by omega)]
    · rw [if_pos (by omega)]
      exact ⟨s 19, by congr 1; funext c; by_cases e : c = 19
                      · subst e; rw [up_eq]
                      · rw [up_ne _ _ e], fun k => by rw [if_neg (by omega)]⟩
theorem markAll {M : MS} (G : Good M) {f : Nat → Nat} (V : VP M f) : ∀ (fu i : Nat) (s : Sg), LesC M s → (∀ j, j < 64 → s 20 j = oI (f j)) → (∀ u q, u < 22 → q < 32 → bt (s 19 u) q = anyb (fun j => cvr M f j q && usz M f j u) i) → i ≤ 64 → 64 - i < fu → ∃ b, L_X0_markAllAgain_10 fu (nI i) s = some (va_up s 19 b) ∧ ∀ u q, u < 22 → q < 32 → bt (b u) q = occ M f u q := by
  intro fu
  induction fu with
  | zero => intro i s _ _ _ h1 h2; omega
  | succ fu ih =>
    intro i s hL hs hb h1 h2
    rw [L_X0_markAllAgain_10]
    rcases Nat.lt_or_ge i 64 with h | h
    · have hp := pl_lt G V h
      rw [if_neg (by rw [show (64 : Int32) = nI 64 from rfl, nI_leI (by decide) (by omega)]; omega)]
      have hpl : F_X0_isPlaced (nI i) s = some (b2i (decide (f i ≠ 0))) := by
        unfold F_X0_isPlaced
        rw [grd_t (ixb_nI h (by decide)), nI_clamp (by omega), hs i h]
        by_cases h : f i = 0
        · simp [h, oI, b2i]
        · rw [if_neg (by rw [oI_m1 (by omega)]; exact h)]
          simp [h, b2i]
      rw [hpl]
      simp only [Option.bind_some, b2i_z, bnd, nI_1]
      by_cases h0 : f i = 0
      · rw [if_pos (by simp [h0])]
        refine ih (i + 1) s hL hs (fun u q hu hq => ?_) (by omega) (by omega)
        rw [hb u q hu hq, anyb]
        simp [cvr, h0]
      · rw [if_neg (by simp [h0])]
        have hl := (V.1 i h h0).1
        have hf : f i = (f i - 1) + 1 := by omega
        rw [mark_C G hL h hl (v := f i - 1) (by rw [hs i h, oI_ne h0]) (by omega)]
        simp only [Option.bind_some]
        obtain ⟨b, b1, b2⟩ := ih (i + 1) (va_up s 19 (markB M i (f i - 1) (s 19))) hL hs (fun u q hu hq => by
          rw [up_eq, bt_markB M (s 19) hf hu q, hb u q hu hq, bm_cvr G hf hl (by omega) hq, anyb, Bool.and_comm (usz _ _ _ _)]) (by omega) (by omega)
        exact ⟨b, by rw [b1, up_up], b2⟩
    · have : i = 64 := by omega
      subst this
      rw [if_pos (by decide)]
      exact ⟨s 19, by congr 1; funext c; by_cases e : c = 19
                      · subst e; rw [up_eq]
                      · rw [up_ne _ _ e], hb⟩
def jpop (M : MS) : MS := va_up (va_up M 13 (fun _ => mJc M - 1)) 11 (mJr M (mJc M - 1))
theorem p_undo : P_undo Inv := by
  rintro s ⟨M, G, R, R2⟩
  have hj := G.2.2.2.2.1
  obtain ⟨old, ho, j1, j2, j3⟩ := R.2.2.2.2.2.2.2.1
  have e0 : s 2221 0 = nI (mJc M) := R2.2.2.2.2.2.1.1
  by_cases h0 : mJc M = 0
  · refine Or.inr ⟨(0, va_up s 2200 (fun _ => 1)), ?_, ?_, rfl, Inv_thr G R R2 1⟩
    · unfold F_X5_undo
      rw [j2, h0, if_pos (show nI 0 = 0 from rfl)]
    · unfold F_X6_undo
      simp only [jn]
      rw [e0, h0, if_pos (show nI 0 = 0 from rfl), thr10]
      rfl
  · have V : VP M (mJr M (mJc M - 1)) := G.2.2.2.2.2.1 _ (by omega)
    have ep : nI (mJc M) - 1 = nI (mJc M - 1) := by rw [show (1 : Int32) = nI 1 from rfl, pk_sub (by omega)]
    have c0 : (0 : Int32).toNatClampNeg = 0 := by decide
    have c64 : (64 : Int32).toNatClampNeg = 64 := by decide
    have cq : (nI ((old + (mJc M - 1)) % 21 * 64)).toNatClampNeg = (old + (mJc M - 1)) % 21 * 64 := nI_clamp (by omega)
    obtain ⟨s1, hs1⟩ : ∃ s1 : Sg, s1 = va_up (va_up s 702 (fun _ => nI (mJc M - 1))) 20 (va_cpy (s 7) (s 20) ((old + (mJc M - 1)) % 21 * 64) 0 64) := ⟨_, rfl⟩
    have t1 : F_X2_takeBack s = some s1 := by
      unfold F_X2_takeBack
      simp only [bnd, up_eq, j2, ep]
      rw [start_C (s := va_up s 702 (fun _ => nI (mJc M - 1))) old (mJc M - 1) j1 ho (by omega)]
      simp only [Option.bind_some, c0, c64, cq]
      rw [grd_t ⟨nI_pos (by omega), by decide, by decide, by omega, by omega⟩, hs1]
      rfl
    have h20 : ∀ i, i < 64 → s1 20 i = oI (mJr M (mJc M - 1) i) := fun i hi => by
      rw [hs1]
      show va_cpy (s 7) (s 20) ((old + (mJc M - 1)) % 21 * 64) 0 64 i = _
      rw [pk_cpy_in (by omega) (by omega)]
      exact j3 (mJc M - 1) i (by omega) hi
    obtain ⟨b0, f1, f2⟩ := fill0 FU 0 s1 (by omega) (FU_gt (by omega))
    obtain ⟨b, m1, m2⟩ := markAll G V FU 0 (va_up s1 19 b0) (by rw [hs1]; exact R.2.2.1) h20 (fun u q hu hq => by
      rw [up_eq, f2 u, if_pos ⟨Nat.zero_le _, hu⟩, b_0]; rfl) (by omega) (FU_gt (by omega))
    rw [up_up] at m1
    have Gp : Good (jpop M) := ⟨G.1, G.2.1, G.2.2.1, V, by show mJc M - 1 ≤ 20; omega, fun j hj2 => G.2.2.2.2.2.1 j (by have : j < mJc M - 1 := hj2; omega), G.2.2.2.2.2.2⟩
    have RCp : RepC (jpop M) (va_up s1 19 b) := by
      subst hs1
      refine ⟨R.1, R.2.1, R.2.2.1, R.2.2.2.1, h20, R.2.2.2.2.2.1, m2, ⟨old, ho, j1, rfl, ?_⟩, R.2.2.2.2.2.2.2.2⟩
      intro j i hj2 hi
      exact j3 j i (by have : j < mJc M - 1 := hj2; omega) hi
    have Rt : RepM M (va_up s1 19 b) := by
      rw [hs1]
      exact RepM_fr (RepM_fr (RepM_fr R2 _ rfl) _ rfl) _ rfl
    have e0' : va_up s1 19 b 2221 0 = nI (mJc M) := Rt.2.2.2.2.2.1.1
    obtain ⟨w, w1, w2, w3, w4⟩ := undoL_M (e := mJc M - 1) (by omega) FU 0 (va_up (va_up (va_up s1 19 b) 2200 (fun _ => 0)) 2221 (fun _ => nI (mJc M - 1))) rfl (by omega) (FU_gt (by omega))
    refine Or.inl ⟨(nI (mJc M - 1), va_up s1 19 b), (nI (mJc M - 1), w), ?_, ?_, ?_, rfl, jpop M, Gp, ?_, ?_⟩
    · unfold F_X5_undo
      rw [j2, if_neg (nI_ne0 (by omega) (by omega)), t1]
      simp only [Option.bind_some]
      unfold F_X0_markAllAgain F_J7_fill_53178
      rw [show (0 : Int32) = nI 0 from rfl] at *
      rw [f1]
      simp only [Option.bind_some]
      rw [m1]
      simp only [Option.bind_some]
      rw [hs1]
      rfl
    · unfold F_X6_undo
      simp only [jn]
      rw [e0', if_neg (nI_ne0 (by omega) (by omega)), thr00]
      simp only [Option.bind_some, if_true, bnd, up_ne, ne_eq, Nat.reduceEqDiff, not_false_eq_true]
      rw [show s1 2221 0 = nI (mJc M) from e0', ep, show (0 : Int32) = nI 0 from rfl] at *
      rw [w1]
      simp only [Option.bind_some]
      rw [w2 2221 (by decide) (by decide)]
      rfl
    · show w 2200 0 = 0
      rw [w2 2200 (by decide) (by decide)]; rfl
    · exact RCp.frame fun c hc => by
        show w c = va_up s1 19 b c
        rw [w2 c (cC_ne hc rfl) (cC_ne hc rfl), up_ne _ _ (cC_ne hc rfl), up_ne _ _ (cC_ne hc rfl)]
    · have hR : RepM M (va_up (va_up (va_up w 30 (s 30)) 31 (s 31)) 2221 (s 2221)) := R2.frame2 fun c hc h1 h2 h3 h4 => by
        by_cases c21 : c = 2221
        · subst c21; rw [up_eq]
        · rw [up_ne _ _ c21]
          by_cases c31 : c = 31
          · subst c31; rw [up_eq]
          · rw [up_ne _ _ c31]
            by_cases c30 : c = 30
            · subst c30; rw [up_eq]
            · rw [up_ne _ _ c30, w2 c c30 c31, up_ne _ _ c21, up_ne _ _ h4, up_ne _ _ (cM_ne hc rfl), hs1, up_ne _ _ (cM_ne hc rfl), up_ne _ _ (cM_ne hc rfl)]
      refine ⟨hR.1, hR.2.1, hR.2.2.1, ?_, hR.2.2.2.2.1, ⟨?_, ?_⟩, hR.2.2.2.2.2.2⟩
      · intro i hi
        show w 30 i = oI (perO (mJr M (mJc M - 1)) i) ∧ w 31 i = oI (romO (mJr M (mJc M - 1)) i)
        rw [w3, w4, if_pos ⟨Nat.zero_le _, hi⟩, if_pos ⟨Nat.zero_le _, hi⟩]
        exact Rt.2.2.2.2.2.1.2 (mJc M - 1) i (by omega) hi
      · show w 2221 0 = nI (mJc M - 1)
        rw [w2 2221 (by decide) (by decide)]; rfl
      · intro j i hj2 hi
        have hj3 : j < mJc M - 1 := hj2
        exact hR.2.2.2.2.2.1.2 j i (by omega) hi
