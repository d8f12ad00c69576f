/-! ===== fill ===== -/
section Fi
variable {M : MS}
theorem fill_V (G : Good M) (B : Nat) : VP M (fillF M B) := by
  unfold fillF
  split
  · exact (fill_SI G B).1.2.2.2.1
  · exact G.2.2.2.1
theorem fill_ans (G : Good M) (B : Nat) : (fillR M B).1 = 0 ∨ (fillR M B).1 = 1 ∨ (fillR M B).1 = 2 := by
  rcases (fill_SI G B).2 with ⟨h, _⟩ | ⟨h, _⟩ | h
  · exact Or.inl h
  · exact Or.inr (Or.inl h)
  · exact Or.inr (Or.inr h)
theorem diff_self (f : Nat → Nat) : diffb f f = false := anyb_false.mpr fun i _ => by simp
theorem fill_diff (G : Good M) (B : Nat) : diffb (mPl M) (fillF M B) = (decide ((fillR M B).1 = 1) && decide (0 < (colL (mTi M) (mPl M) (mN M)).1)) := by
  have hb : 4 * mN M ≤ 64 := by have := good_N G; omega
  have Q := fill_Q G
  obtain ⟨SF, hans⟩ := fill_SI G B
  by_cases h1 : (fillR M B).1 = 1
  · unfold fillF
    rw [if_pos h1, decide_eq_true h1, Bool.true_and]
    rcases hans with ⟨h, _⟩ | ⟨_, ha⟩ | h
    · omega
    · by_cases h0 : 0 < (colL (mTi M) (mPl M) (mN M)).1
      · rw [decide_eq_true h0]
        have e1 := SF.2.2.2.2.1 0 (by rw [ha]; exact h0)
        have e2 : mPl M ((colL (mTi M) (mPl M) (mN M)).2 0) = 0 := (Q.2.1 0 h0).2.2.2
        exact anyb_iff.mpr ⟨(colL (mTi M) (mPl M) (mN M)).2 0, q_64 hb Q h0, by
          rw [decide_eq_true_eq, e2]
          exact fun z => e1 z.symm⟩
      · rw [decide_eq_false h0]
        rw [show (fillR M B).2.1 = 0 by omega] at SF
        rw [SI_0 Q SF]
        exact diff_self _
    · omega
  · unfold fillF
    rw [if_neg h1, decide_eq_false h1, Bool.false_and]
    exact diff_self _
theorem rest_M {f : Nat → Nat} {tr : Nat} {s : Sg} (R : RepM (mst M f tr) s) {f0 : Nat → Nat} (K : Kpt f0 s) : ∃ t, F_X6_restore s = some t ∧ RepM (mst M f0 tr) t ∧ (∀ c, c ≠ 30 → c ≠ 31 → t c = s c) := by
  obtain ⟨t, t1, t2, t3, t4⟩ := restL_M FU 0 s (by omega) (FU_gt (by omega))
  refine ⟨t, ?_, ?_, t2⟩
  · unfold F_X6_restore
    rw [show (0 : Int32) = nI 0 from rfl, t1]; rfl
  · have hR : RepM (mst M f tr) (va_up (va_up t 30 (s 30)) 31 (s 31)) := R.frame fun c _ => by
      by_cases c31 : c = 31
      · subst c31; rw [up_eq]
      · rw [up_ne _ _ c31]
        by_cases c30 : c = 30
        · subst c30; rw [up_eq]
        · rw [up_ne _ _ c30, t2 c c30 c31]
    refine ⟨hR.1, hR.2.1, hR.2.2.1, ?_, hR.2.2.2.2⟩
    intro i hi
    rw [t3, t4, if_pos ⟨Nat.zero_le _, hi⟩, if_pos ⟨Nat.zero_le _, hi⟩]
    exact K i hi
end Fi
def fillM (M : MS) (B : Nat) : MS := if diffb (mPl M) (fillF M B) = true then jpush (mst M (fillF M B) (fillR M B).2.2.1) (mPl M) else mst M (fillF M B) (fillR M B).2.2.1
theorem p_fill : P_fill Inv := by
  rintro s ⟨M, G, R, R2⟩ x
  have V := G.2.2.2.1
  cases hb : (!decide (x < 1) && !decide (nI 20000 < x)) with
  | false =>
    refine Or.inr ⟨(0, va_up s 2200 (fun _ => 1)), ?_, ?_, rfl, Inv_thr G R R2 1⟩
    · unfold F_X5_fill
      rw [isW2, i32n 20000, hb]; rfl
    · unfold F_X6_fill
      simp only [jn]
      rw [inW2, i32n 20000, hb]
      simp only [Option.bind_some, b2i_f, if_true]
      rw [thr10]; rfl
  | true =>
  obtain ⟨B, hB1, hB2, rfl⟩ := within_nI (show 20000 < 2 ^ 31 by omega) hb
  obtain ⟨r, d1, d2, d3⟩ := draw_C G R
  obtain ⟨t, t1, t2, t3, t4⟩ := run_C G d2 hB2
  have htr : (fillR M B).2.2.1 ≤ 20000 := Nat.le_trans (fill_SI G B).1.2.2.1 hB2
  have G2 : Good (mst M (fillF M B) (fillR M B).2.2.1) := Good_st G (fill_V G B) htr
  have hans := fill_ans G B
  have hdf := fill_diff G B
  have n64 : (colL (mTi M) (mPl M) (mN M)).1 ≤ 64 := n_64 (by have := good_N G; omega) (fill_Q G)
  have Gf : Good (fillM M B) := by
    unfold fillM
    split
    · exact Good_push G2 V
    · exact G2
  -- the class
  have hC : ∃ u, F_X5_fill (nI B) s = some (.inl (nI (fillR M B).1, u)) ∧ RepC (fillM M B) u ∧ ∀ c, c ≠ 2 → c ≠ 3 → c ≠ 7 → c ≠ 19 → c ≠ 20 → c ≠ 202 → c ≠ 203 → c ≠ 701 → c ≠ 702 → u c = s c := by
    have hst : F_X5_fill (nI B) s = (if nI (fillR M B).1 = (1 : Int32) then
        if (t 202 0) ≤ 0 then
          some (.inl (nI (fillR M B).1, t))
        else
          (F_X2_keep t).bind fun q10 =>
          some (.inl (nI (fillR M B).1, q10))
      else
        some (.inl (nI (fillR M B).1, t))) := by
      unfold F_X5_fill
      rw [isW2, i32n 20000, hb, Option.bind_some, b2i_t, if_neg (by decide), d1, Option.bind_some, t1, Option.bind_some]
    have fr : ∀ c, c ≠ 2 → c ≠ 3 → c ≠ 7 → c ≠ 19 → c ≠ 20 → c ≠ 202 → c ≠ 203 → t c = s c := fun c c1 c2 c3 c4 c5 c6 c7 => by
      rw [t4 c c1 c2 c4 c5 c6 c7, up_ne _ _ c3]
    by_cases h1 : (fillR M B).1 = 1
    · by_cases h0 : 0 < (colL (mTi M) (mPl M) (mN M)).1
      · obtain ⟨u, u1, u2, u3⟩ := keep_C G2 t2 (f0 := mPl M) (d3.frame (t4 701 (by decide) (by decide) (by decide) (by decide) (by decide) (by decide)) (t4 702 (by decide) (by decide) (by decide) (by decide) (by decide) (by decide)) (t4 7 (by decide) (by decide) (by decide) (by decide) (by decide) (by decide)))
        refine ⟨u, ?_, ?_, fun c c1 c2 c3 c4 c5 c6 c7 c8 c9 => by rw [u3 c c8 c9, fr c c1 c2 c3 c4 c5 c6 c7]⟩
        · rw [hst, h1, if_pos (show nI 1 = 1 from rfl), t3, if_neg (nI_nle h0 (by omega)), u1]; rfl
        · unfold fillM
          rw [if_pos (by rw [hdf]; simp [h1, h0])]
          exact u2
      · refine ⟨t, ?_, ?_, fun c c1 c2 c3 c4 c5 c6 c7 _ _ => fr c c1 c2 c3 c4 c5 c6 c7⟩
        · rw [hst, h1, if_pos (show nI 1 = 1 from rfl), t3, show (colL (mTi M) (mPl M) (mN M)).1 = 0 by omega, if_pos (by decide)]
        · unfold fillM
          rw [if_neg (by rw [hdf]; simp [h0])]
          exact t2
    · refine ⟨t, ?_, ?_, fun c c1 c2 c3 c4 c5 c6 c7 _ _ => fr c c1 c2 c3 c4 c5 c6 c7⟩
      · rw [hst, if_neg (by rw [show (1 : Int32) = nI 1 from rfl, nI_eq (by omega) (by decide)]; exact h1)]
      · unfold fillM
        rw [if_neg (by rw [hdf]; simp [h1])]
        exact t2
  obtain ⟨u, u1, u2, u3⟩ := hC
  have Ru : RepM M u := R2.frame fun c hc => u3 c (cM_ne hc rfl) (cM_ne hc rfl) (cM_ne hc rfl) (cM_ne hc rfl) (cM_ne hc rfl) (cM_ne hc rfl) (cM_ne hc rfl) (cM_ne hc rfl) (cM_ne hc rfl)
  obtain ⟨w, w1, w2, w3, w4⟩ := keep_M (RepM_thr Ru 0)
  obtain ⟨y, y1, y2, y3, y4⟩ := colLL_M G (nI B) FU 0 w w3 (fun j hj => absurd hj (Nat.not_lt_zero j)) (Nat.zero_le _) (FU_gt (by have := good_N G; omega))
  have Ry : RepM (mst M (mPl M) 0) (va_up y 2215 (fun _ => 0)) := RepM_tr (RepM_st y4) rfl
  obtain ⟨z, z1, z2, z3⟩ := runM G hB2 Ry y2
  have K : Kpt (mPl M) z := fun i hi => by
    rw [z3 34 (by decide) (by decide) (by decide), z3 35 (by decide) (by decide) (by decide), up_ne _ _ (by decide), up_ne _ _ (by decide), y3 34 (by decide), y3 35 (by decide)]
    exact w4 i hi
  -- all out again, or not
  have hend : ∃ v, RepM (mst M (fillF M B) (fillR M B).2.2.1) v ∧ Kpt (mPl M) v ∧ (∀ c, c ≠ 30 → c ≠ 31 → v c = z c) ∧ F_X6_fill (nI B) u = (F_X6_note v).bind fun q4 => some (nI (fillR M B).1, q4) := by
    have hst : F_X6_fill (nI B) u = (if rs2 (fillR M B) = 0 then
          if 0 ≤ rs1 (fillR M B) then
            ((F_X6_note z).bind fun q4 =>
              if rs2 (fillR M B) = 0 then
                if 0 ≤ rs1 (fillR M B) then some ((1 : Int32), q4) else some ((0 : Int32), q4)
              else some ((2 : Int32), q4))
          else
            (F_X6_restore z).bind fun q104 =>
            ((F_X6_note q104).bind fun q4 =>
              if rs2 (fillR M B) = 0 then
                if 0 ≤ rs1 (fillR M B) then some ((1 : Int32), q4) else some ((0 : Int32), q4)
              else some ((2 : Int32), q4))
        else
          (F_X6_restore z).bind fun q101 =>
          ((F_X6_note q101).bind fun q4 =>
              if rs2 (fillR M B) = 0 then
                if 0 ≤ rs1 (fillR M B) then some ((1 : Int32), q4) else some ((0 : Int32), q4)
              else some ((2 : Int32), q4))) := by
      unfold F_X6_fill
      rw [jn_e, jn_e, inW2, i32n 20000, hb, Option.bind_some, b2i_t, if_neg (show ¬ (1 : Int32) = 0 by decide)]
      dsimp only
      rw [thr00, Option.bind_some, if_pos rfl, w1, Option.bind_some]
      rw [show L_X6_fill_34 FU (nI B) 0 0 w = some (nI (colL (mTi M) (mPl M) (mN M)).1, y) from y1, Option.bind_some, bnd_e, z1, Option.bind_some]
    have r0 : (fillR M B).1 = 0 → rs1 (fillR M B) = -1 ∧ rs2 (fillR M B) = 0 := fun h => by
      unfold rs1 rs2; rw [if_pos h, h]; exact ⟨rfl, rfl⟩
    have r1 : (fillR M B).1 = 1 → 0 ≤ rs1 (fillR M B) ∧ rs2 (fillR M B) = 0 := fun h => by
      have ha := (fill_SI G B).1.1
      unfold rs1 rs2; rw [if_neg (by omega), h]; exact ⟨nI_pos' (by omega), rfl⟩
    have r2 : (fillR M B).1 = 2 → rs2 (fillR M B) = 1 := fun h => by
      unfold rs2; rw [h]; rfl
    rcases hans with h | h | h
    · obtain ⟨e1, e2⟩ := r0 h
      obtain ⟨v, v1, v2, v3⟩ := rest_M z2 K
      refine ⟨v, ?_, fun i hi => ?_, v3, ?_⟩
      · unfold fillF; rw [if_neg (by omega)]; exact v2
      · rw [v3 34 (by decide) (by decide), v3 35 (by decide) (by decide)]; exact K i hi
      · rw [hst, e1, e2, if_pos rfl, if_neg (by decide), v1, Option.bind_some, h]
        simp only [if_true, if_neg (show ¬ (0 : Int32) ≤ -1 by decide)]
        rfl
    · obtain ⟨e1, e2⟩ := r1 h
      refine ⟨z, ?_, K, fun _ _ _ => rfl, ?_⟩
      · unfold fillF; rw [if_pos h]; exact z2
      · rw [hst, e2, if_pos rfl, if_pos e1, h]
        simp only [if_true, if_pos e1]
        rfl
    · have e2 := r2 h
      obtain ⟨v, v1, v2, v3⟩ := rest_M z2 K
      refine ⟨v, ?_, fun i hi => ?_, v3, ?_⟩
      · unfold fillF; rw [if_neg (by omega)]; exact v2
      · rw [v3 34 (by decide) (by decide), v3 35 (by decide) (by decide)]; exact K i hi
      · rw [hst, e2, if_neg (by decide), v1, Option.bind_some, h]
        simp only [one0, if_false]
        rfl
  obtain ⟨v, v1, v2, v3, v4⟩ := hend
  obtain ⟨o, o1, o2, o3⟩ := note_M G2 v1 (f0 := mPl M) V v2
  refine Or.inl ⟨(nI (fillR M B).1, u), (nI (fillR M B).1, o), u1, ?_, ?_, rfl, fillM M B, Gf, ?_, o3⟩
  · show F_X6_fill (nI B) u = _
    rw [v4, o1]; rfl
  · show o 2200 0 = 0
    rw [o2 2200 (by decide) (by decide) (by decide), v3 2200 (by decide) (by decide), z3 2200 (by decide) (by decide) (by decide), up_ne _ _ (by decide), y3 2200 (by decide), w2 2200 (by decide) (by decide)]; rfl
  · exact u2.frame fun c hc => by
      show o c = u c
      rw [o2 c (cC_ne hc rfl) (cC_ne hc rfl) (cC_ne hc rfl), v3 c (cC_ne hc rfl) (cC_ne hc rfl), z3 c (cC_ne hc rfl) (cC_ne hc rfl) (cC_ne hc rfl), up_ne _ _ (cC_ne hc rfl), y3 c (cC_ne hc rfl), w2 c (cC_ne hc rfl) (cC_ne hc rfl), up_ne _ _ (cC_ne hc rfl)]
