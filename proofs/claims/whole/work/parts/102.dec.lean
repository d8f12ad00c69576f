def F_X0_partWith (a0 : Int32) (a1 : Int32) (s : Sg) : Option Int32 :=
  (F_X3_bitsAt a0 a1 s).bind fun q1 =>
  grd (ixb a0 16 = true) <|
  bnd (s 11 a0.toNatClampNeg) fun x4 =>
  grd (ixb a0 16 = true) <|
  grd (ixb ((8 : Int32) + (s 12 a0.toNatClampNeg)) 22 = true) <|
  (F_X0_teacherPart ((s 19 ((8 : Int32) + (s 12 a0.toNatClampNeg)).toNatClampNeg) ||| q1) s).bind fun q8 =>
  grd (ixb a0 16 = true) <|
  grd (ixb (s 10 a0.toNatClampNeg) 22 = true) <|
  (F_X0_classPart ((s 19 (s 10 a0.toNatClampNeg).toNatClampNeg) ||| q1) s).bind fun q12 =>
  if x4 = (-1 : Int32) then
    some ((q8 + q12) + (0 : Int32))
  else
    grd (ixb x4 22 = true) <|
    (F_X0_classPart ((s 19 x4.toNatClampNeg) ||| q1) s).bind fun q16 =>
    some ((q8 + q12) + q16)
set_option maxHeartbeats 4000000 in
set_option maxRecDepth 100000 in
theorem F_X0_partWith_ok {u : Uv} (hu : Un u) {a0 a1 : Int32} {s : Sg} {o : Nat → Int64} {r : Int32} (hF : F_X0_partWith a0 a1 s = some r) : AM u (yX0_partWith, cX0_partWith, 5, (some .int)) 3 0 0 [.ref 8, .int a0, .int a1] (HP s o) (some (.int r)) (HP s o) := by
  refine AM.of hu (lv := [some (.ref 8), some (.int a0), some (.int a1), none, none]) (by decide) rfl (Nat.le_of_ble_eq_true rfl) rfl ?_
  intro Γ eu eN C T
  subst eu
  have C : Cok Γ cX0_partWith RX0 (some .int) 3 0 0 := C
  unfold F_X0_partWith at hF
  refine A_aload_n C dX0_partWith_0 rfl (pc' := 1) rfl ?_
  refine A_get C (j := 5) cl_X0 rfl rfl lf_X0_12 dX0_partWith_1 (HPg_8 s o) rfl (pc' := 4) rfl ?_
  refine A_iload_n C dX0_partWith_4 rfl (pc' := 5) rfl ?_
  refine A_iload_n C dX0_partWith_5 rfl (pc' := 6) rfl ?_
  obtain ⟨q1, h2, hF⟩ := Option.bind_eq_some_iff.mp hF
  refine A_callVN C (av := [.int a0, .int a1]) (rest := []) (st2 := [.int q1]) (k2 := 0) (n2 := 0) (F_X3_bitsAt_ok hu h2) mk_X3_bitsAt lm_X0_61 wi_X3_bitsAt wv_X3_bitsAt (HPg_9 s o) rfl rfl rfl rfl ⟨by decide, by decide⟩ (Nat.le_of_ble_eq_true rfl) rfl rfl dX0_partWith_6 rfl rfl rfl (pc' := 9) rfl ?_
  refine A_istore_n C (lv' := [some (.ref 8), some (.int a0), some (.int a1), some (.int q1), none]) dX0_partWith_9 rfl eN rfl rfl (pc' := 10) rfl ?_
  refine A_aload_n C dX0_partWith_10 rfl (pc' := 11) rfl ?_
  refine A_get C (j := 5) cl_X0 rfl rfl lf_X0_12 dX0_partWith_11 (HPg_8 s o) rfl (pc' := 14) rfl ?_
  refine A_getN C (j := 1) cl_X3 rfl rfl lf_X0_75 dX0_partWith_14 (HPg_9 s o) rfl (pc' := 17) rfl ?_
  refine A_iload_n C dX0_partWith_17 rfl (pc' := 18) rfl ?_
  obtain ⟨h3, hF⟩ := grd_some hF
  refine A_iald C (HPg_11 s o) (ixb_in h3) dX0_partWith_18 (pc' := 19) rfl ?_
  obtain ⟨x4, e5, hF⟩ := bnd_some hF
  refine A_topi e5 ?_
  refine A_istore C (lv' := [some (.ref 8), some (.int a0), some (.int a1), some (.int q1), some (.int x4)]) dX0_partWith_19 rfl eN rfl rfl (pc' := 21) rfl ?_
  refine A_aload_n C dX0_partWith_21 rfl (pc' := 22) rfl ?_
  refine A_aload_n C dX0_partWith_22 rfl (pc' := 23) rfl ?_
  refine A_get C (j := 8) cl_X0 rfl rfl lf_X0_25 dX0_partWith_23 (HPg_8 s o) rfl (pc' := 26) rfl ?_
  refine A_bipush C (x := 8) dX0_partWith_26 (by decide) (pc' := 28) rfl ?_
  refine A_aload_n C dX0_partWith_28 rfl (pc' := 29) rfl ?_
  refine A_get C (j := 5) cl_X0 rfl rfl lf_X0_12 dX0_partWith_29 (HPg_8 s o) rfl (pc' := 32) rfl ?_
  refine A_getN C (j := 2) cl_X3 rfl rfl lf_X0_69 dX0_partWith_32 (HPg_9 s o) rfl (pc' := 35) rfl ?_
  refine A_iload_n C dX0_partWith_35 rfl (pc' := 36) rfl ?_
  obtain ⟨h6, hF⟩ := grd_some hF
  refine A_iald C (HPg_12 s o) (ixb_in h6) dX0_partWith_36 (pc' := 37) rfl ?_
  refine A_iadd C dX0_partWith_37 (pc' := 38) rfl ?_
  obtain ⟨h7, hF⟩ := grd_some hF
  refine A_iald C (HPg_19 s o) (ixb_in h7) dX0_partWith_38 (pc' := 39) rfl ?_
  refine A_iload_n C dX0_partWith_39 rfl (pc' := 40) rfl ?_
  refine A_ior C dX0_partWith_40 (pc' := 41) rfl ?_
  obtain ⟨q8, h9, hF⟩ := Option.bind_eq_some_iff.mp hF
  refine A_callV C (av := [.int ((s 19 ((8 : Int32) + (s 12 a0.toNatClampNeg)).toNatClampNeg) ||| q1)]) (rest := []) (st2 := [.int q8]) (k2 := 0) (n2 := 0) (F_X0_teacherPart_ok hu h9) mk_X0_teacherPart lm_X0_111 wi_X0_teacherPart wv_X0_teacherPart (HPg_8 s o) rfl rfl rfl rfl ⟨by decide, by decide⟩ (Nat.le_of_ble_eq_true rfl) rfl rfl dX0_partWith_41 rfl rfl rfl (pc' := 44) rfl ?_
  refine A_aload_n C dX0_partWith_44 rfl (pc' := 45) rfl ?_
  refine A_aload_n C dX0_partWith_45 rfl (pc' := 46) rfl ?_
  refine A_get C (j := 8) cl_X0 rfl rfl lf_X0_25 dX0_partWith_46 (HPg_8 s o) rfl (pc' := 49) rfl ?_
  refine A_aload_n C dX0_partWith_49 rfl (pc' := 50) rfl ?_
  refine A_get C (j := 5) cl_X0 rfl rfl lf_X0_12 dX0_partWith_50 (HPg_8 s o) rfl (pc' := 53) rfl ?_
  refine A_getN C (j := 0) cl_X3 rfl rfl lf_X0_72 dX0_partWith_53 (HPg_9 s o) rfl (pc' := 56) rfl ?_
  refine A_iload_n C dX0_partWith_56 rfl (pc' := 57) rfl ?_
  obtain ⟨h10, hF⟩ := grd_some hF
  refine A_iald C (HPg_10 s o) (ixb_in h10) dX0_partWith_57 (pc' := 58) rfl ?_
  obtain ⟨h11, hF⟩ := grd_some hF
  refine A_iald C (HPg_19 s o) (ixb_in h11) dX0_partWith_58 (pc' := 59) rfl ?_
  refine A_iload_n C dX0_partWith_59 rfl (pc' := 60) rfl ?_
  refine A_ior C dX0_partWith_60 (pc' := 61) rfl ?_
  obtain ⟨q12, h13, hF⟩ := Option.bind_eq_some_iff.mp hF
  refine A_callV C (av := [.int ((s 19 (s 10 a0.toNatClampNeg).toNatClampNeg) ||| q1)]) (rest := [.int q8]) (st2 := [.int q12, .int q8]) (k2 := 0) (n2 := 0) (F_X0_classPart_ok hu h13) mk_X0_classPart lm_X0_114 wi_X0_classPart wv_X0_classPart (HPg_8 s o) rfl rfl rfl rfl ⟨by decide, by decide⟩ (Nat.le_of_ble_eq_true rfl) rfl rfl dX0_partWith_61 rfl rfl rfl (pc' := 64) rfl ?_
  refine A_iadd C dX0_partWith_64 (pc' := 65) rfl ?_
  refine A_iload C dX0_partWith_65 rfl (pc' := 67) rfl ?_
  refine A_iconst C (x := -1) dX0_partWith_67 (by decide) (pc' := 68) rfl ?_
  refine A_icmp_ne C dX0_partWith_68 (tgt := 75) (by decide) (pc' := 71) rfl (fun c14 => ?_) (fun c14 => ?_)
  · rw [if_neg c14] at hF
    refine A_aload_n C dX0_partWith_75 rfl (pc' := 76) rfl ?_
    refine A_aload_n C dX0_partWith_76 rfl (pc' := 77) rfl ?_
    refine A_get C (j := 8) cl_X0 rfl rfl lf_X0_25 dX0_partWith_77 (HPg_8 s o) rfl (pc' := 80) rfl ?_
    refine A_iload C dX0_partWith_80 rfl (pc' := 82) rfl ?_
    obtain ⟨h15, hF⟩ := grd_some hF
    refine A_iald C (HPg_19 s o) (ixb_in h15) dX0_partWith_82 (pc' := 83) rfl ?_
    refine A_iload_n C dX0_partWith_83 rfl (pc' := 84) rfl ?_
    refine A_ior C dX0_partWith_84 (pc' := 85) rfl ?_
    obtain ⟨q16, h17, hF⟩ := Option.bind_eq_some_iff.mp hF
    refine A_callV C (av := [.int ((s 19 x4.toNatClampNeg) ||| q1)]) (rest := [.int (q8 + q12)]) (st2 := [.int q16, .int (q8 + q12)]) (k2 := 0) (n2 := 0) (F_X0_classPart_ok hu h17) mk_X0_classPart lm_X0_114 wi_X0_classPart wv_X0_classPart (HPg_8 s o) rfl rfl rfl rfl ⟨by decide, by decide⟩ (Nat.le_of_ble_eq_true rfl) rfl rfl dX0_partWith_85 rfl rfl rfl (pc' := 88) rfl ?_
    refine A_iadd C dX0_partWith_88 (pc' := 89) rfl ?_
    cases hF
    exact A_iret C T (Nat.le_refl _) (Nat.le_refl _) dX0_partWith_89
  · rw [if_pos c14] at hF
    refine A_iconst C (x := 0) dX0_partWith_71 (by decide) (pc' := 72) rfl ?_
    refine A_goto C dX0_partWith_72 (tgt := 88) (by decide) ?_
    refine A_iadd C dX0_partWith_88 (pc' := 89) rfl ?_
    cases hF
    exact A_iret C T (Nat.le_refl _) (Nat.le_refl _) dX0_partWith_89
def L_X0_moveToBest_40 : Nat → Int32 → Int32 → Int32 → Int32 → Int32 → Int32 → Int32 → Sg → Option (Int32)
  | 0, _, _, _, _, _, _, _, _ => none
  | fu + 1, b1, b2, b3, b4, b5, b6, b7, s =>
    if (s 902 0) ≤ b7 then
      some b5
    else
      (F_X0_brokenRule b1 b7 s).bind fun q27 =>
      if q27 = 0 then
        (F_X0_partWith b2 b7 s).bind fun q32 =>
        if b6 ≤ q32 then
          bnd (b7 + (1 : Int32)) fun x35 =>
          L_X0_moveToBest_40 fu b1 b2 b3 b4 b5 b6 x35 s
        else
          (F_X0_partWith b2 b7 s).bind fun q37 =>
          bnd (b7 + (1 : Int32)) fun x39 =>
          L_X0_moveToBest_40 fu b1 b2 b3 b4 b7 q37 x39 s
      else
        bnd (b7 + (1 : Int32)) fun x30 =>
        L_X0_moveToBest_40 fu b1 b2 b3 b4 b5 b6 x30 s
def F_X0_moveToBest (a0 : Int32) (s : Sg) : Option (Int32 × Sg) :=
  jn (fun (x1 : Int32) (x2 : Int32) (x3 : Int32) (y4 : Int32) (s5 : Sg) => if y4 = 0 then
        (F_X0_putAt a0 x2 s5).bind fun q7 =>
        grd (y4 = 0 ∨ y4 = 1) <|
        some (y4, q7)
      else
        (F_X0_lowestRoom x1 x3 s5).bind fun q10 =>
        (F_X0_putAt a0 ((x3 * (6 : Int32)) + q10) s5).bind fun q12 =>
        grd (y4 = 0 ∨ y4 = 1) <|
        some (y4, q12)) fun J102 =>
  (F_X5_lessonOf a0 s).bind fun q15 =>
  grd (ixb a0 64 = true) <|
  bnd (s 20 a0.toNatClampNeg) fun x18 =>
  (F_X0_periodOfItem a0 s).bind fun q20 =>
  (F_X0_takeOut a0 s).bind fun q22 =>
  (F_X0_partWith q15 q20 q22).bind fun q24 =>
  (L_X0_moveToBest_40 FU a0 q15 x18 q20 q20 q24 (0 : Int32) q22).bind fun q41 =>
  if q41 = q20 then
    J102 q15 x18 q41 (0 : Int32) q22
  else
    J102 q15 x18 q41 (1 : Int32) q22
set_option maxHeartbeats 4000000 in
set_option maxRecDepth 100000 in
theorem L_X0_moveToBest_40_ok {Γ : Cx} (hu : Un Γ.2.1) (eN : 8 = Γ.2.2.2.2.2) (C : Cok Γ cX0_moveToBest RX0 (some .boolean) 4 0 0) {o : Nat → Int64} : ∀ (fu : Nat) (b1 : Int32) (b2 : Int32) (b3 : Int32) (b4 : Int32) (b5 : Int32) (b6 : Int32) (b7 : Int32) (s : Sg) (q : (Int32)), L_X0_moveToBest_40 fu b1 b2 b3 b4 b5 b6 b7 s = some q → AW Γ (HP s o) 0 0 [some (.ref 8), some (.int b1), some (.int b2), some (.int b3), some (.int b4), some (.int q), none, none] [] 90 → AW Γ (HP s o) 0 0 [some (.ref 8), some (.int b1), some (.int b2), some (.int b3), some (.int b4), some (.int b5), some (.int b6), some (.int b7)] [] 40 := by
  intro fu
  induction fu with
  | zero => intro b1 b2 b3 b4 b5 b6 b7 s q hF; rw [L_X0_moveToBest_40] at hF; cases hF
  | succ fu ih =>
    intro b1 b2 b3 b4 b5 b6 b7 s q hF hexit
    rw [L_X0_moveToBest_40] at hF
    refine A_iload C dX0_moveToBest_40 rfl (pc' := 42) rfl ?_
    refine A_aload_n C dX0_moveToBest_42 rfl (pc' := 43) rfl ?_
    refine A_get C (j := 2) cl_X0 rfl rfl lf_X0_38 dX0_moveToBest_43 (HPg_8 s o) rfl (pc' := 46) rfl ?_
    refine A_icmp_ge C dX0_moveToBest_46 (tgt := 90) (by decide) (pc' := 49) rfl (fun c26 => ?_) (fun c26 => ?_)
    · rw [if_pos c26] at hF
      cases hF
      refine A_mask [true, true, true, true, true, true, false, false] (lv' := [some (.ref 8), some (.int b1), some (.int b2), some (.int b3), some (.int b4), some (.int b5), none, none]) rfl ?_
      exact hexit
    · rw [if_neg c26] at hF
      refine A_aload_n C dX0_moveToBest_49 rfl (pc' := 50) rfl ?_
      refine A_iload_n C dX0_moveToBest_50 rfl (pc' := 51) rfl ?_
      refine A_iload C dX0_moveToBest_51 rfl (pc' := 53) rfl ?_
      obtain ⟨q27, h28, hF⟩ := Option.bind_eq_some_iff.mp hF
      refine A_callV C (av := [.int b1, .int b7]) (rest := []) (st2 := [.int q27]) (k2 := 0) (n2 := 0) (F_X0_brokenRule_ok hu h28) mk_X0_brokenRule lm_X0_78 wi_X0_brokenRule wv_X0_brokenRule (HPg_8 s o) rfl rfl rfl rfl ⟨by decide, by decide⟩ (Nat.le_of_ble_eq_true rfl) rfl rfl dX0_moveToBest_53 rfl rfl rfl (pc' := 56) rfl ?_
      refine A_if_ne C dX0_moveToBest_56 (tgt := 84) (by decide) (pc' := 59) rfl (fun c29 => ?_) (fun c29 => ?_)
      · rw [if_neg c29] at hF
        obtain ⟨x30, e31, hF⟩ := bnd_some hF
        refine A_iinc C (lv' := [some (.ref 8), some (.int b1), some (.int b2), some (.int b3), some (.int b4), some (.int b5), some (.int b6), some (.int x30)]) dX0_moveToBest_84 rfl (by rw [e31]; rfl) rfl eN rfl rfl (pc' := 87) rfl ?_
        refine A_goto C dX0_moveToBest_87 (tgt := 40) (by decide) ?_
        refine A_mask [true, true, true, true, true, true, true, true] (lv' := [some (.ref 8), some (.int b1), some (.int b2), some (.int b3), some (.int b4), some (.int b5), some (.int b6), some (.int x30)]) rfl ?_
        exact ih b1 b2 b3 b4 b5 b6 x30 s q hF hexit
      · rw [if_pos c29] at hF
        refine A_aload_n C dX0_moveToBest_59 rfl (pc' := 60) rfl ?_
        refine A_iload_n C dX0_moveToBest_60 rfl (pc' := 61) rfl ?_
        refine A_iload C dX0_moveToBest_61 rfl (pc' := 63) rfl ?_
        obtain ⟨q32, h33, hF⟩ := Option.bind_eq_some_iff.mp hF
        refine A_callV C (av := [.int b2, .int b7]) (rest := []) (st2 := [.int q32]) (k2 := 0) (n2 := 0) (F_X0_partWith_ok hu h33) mk_X0_partWith lm_X0_134 wi_X0_partWith wv_X0_partWith (HPg_8 s o) rfl rfl rfl rfl ⟨by decide, by decide⟩ (Nat.le_of_ble_eq_true rfl) rfl rfl dX0_moveToBest_63 rfl rfl rfl (pc' := 66) rfl ?_
        refine A_iload C dX0_moveToBest_66 rfl (pc' := 68) rfl ?_
        refine A_icmp_ge C dX0_moveToBest_68 (tgt := 84) (by decide) (pc' := 71) rfl (fun c34 => ?_) (fun c34 => ?_)
        · rw [if_pos c34] at hF
          obtain ⟨x35, e36, hF⟩ := bnd_some hF
          refine A_iinc C (lv' := [some (.ref 8), some (.int b1), some (.int b2), some (.int b3), some (.int b4), some (.int b5), some (.int b6), some (.int x35)]) dX0_moveToBest_84 rfl (by rw [e36]; rfl) rfl eN rfl rfl (pc' := 87) rfl ?_
          refine A_goto C dX0_moveToBest_87 (tgt := 40) (by decide) ?_
          refine A_mask [true, true, true, true, true, true, true, true] (lv' := [some (.ref 8), some (.int b1), some (.int b2), some (.int b3), some (.int b4), some (.int b5), some (.int b6), some (.int x35)]) rfl ?_
          exact ih b1 b2 b3 b4 b5 b6 x35 s q hF hexit
        · rw [if_neg c34] at hF
          refine A_iload C dX0_moveToBest_71 rfl (pc' := 73) rfl ?_
          refine A_istore C (lv' := [some (.ref 8), some (.int b1), some (.int b2), some (.int b3), some (.int b4), some (.int b7), some (.int b6), some (.int b7)]) dX0_moveToBest_73 rfl eN rfl rfl (pc' := 75) rfl ?_
          refine A_aload_n C dX0_moveToBest_75 rfl (pc' := 76) rfl ?_
          refine A_iload_n C dX0_moveToBest_76 rfl (pc' := 77) rfl ?_
          refine A_iload C dX0_moveToBest_77 rfl (pc' := 79) rfl ?_
          obtain ⟨q37, h38, hF⟩ := Option.bind_eq_some_iff.mp hF
          refine A_callV C (av := [.int b2, .int b7]) (rest := []) (st2 := [.int q37]) (k2 := 0) (n2 := 0) (F_X0_partWith_ok hu h38) mk_X0_partWith lm_X0_134 wi_X0_partWith wv_X0_partWith (HPg_8 s o) rfl rfl rfl rfl ⟨by decide, by decide⟩ (Nat.le_of_ble_eq_true rfl) rfl rfl dX0_moveToBest_79 rfl rfl rfl (pc' := 82) rfl ?_
          refine A_istore C (lv' := [some (.ref 8), some (.int b1), some (.int b2), some (.int b3), some (.int b4), some (.int b7), some (.int q37), some (.int b7)]) dX0_moveToBest_82 rfl eN rfl rfl (pc' := 84) rfl ?_
          obtain ⟨x39, e40, hF⟩ := bnd_some hF
          refine A_iinc C (lv' := [some (.ref 8), some (.int b1), some (.int b2), some (.int b3), some (.int b4), some (.int b7), some (.int q37), some (.int x39)]) dX0_moveToBest_84 rfl (by rw [e40]; rfl) rfl eN rfl rfl (pc' := 87) rfl ?_
          refine A_goto C dX0_moveToBest_87 (tgt := 40) (by decide) ?_
          refine A_mask [true, true, true, true, true, true, true, true] (lv' := [some (.ref 8), some (.int b1), some (.int b2), some (.int b3), some (.int b4), some (.int b7), some (.int q37), some (.int x39)]) rfl ?_
          exact ih b1 b2 b3 b4 b7 q37 x39 s q hF hexit
set_option maxHeartbeats 4000000 in
set_option maxRecDepth 100000 in
theorem F_X0_moveToBest_ok {u : Uv} (hu : Un u) {a0 : Int32} {s : Sg} {o : Nat → Int64} {r : (Int32 × Sg)} (hF : F_X0_moveToBest a0 s = some r) : AM u (yX0_moveToBest, cX0_moveToBest, 8, (some .boolean)) 4 0 0 [.ref 8, .int a0] (HP s o) (some (.int r.1)) (HP r.2 o) := by
  refine AM.of hu (lv := [some (.ref 8), some (.int a0), none, none, none, none, none, none]) (by decide) rfl (Nat.le_of_ble_eq_true rfl) rfl ?_
  intro Γ eu eN C T
  subst eu
  have C : Cok Γ cX0_moveToBest RX0 (some .boolean) 4 0 0 := C
  unfold F_X0_moveToBest at hF
  obtain ⟨J102, eJ102, hF⟩ := jn_some hF
  have hJ102 : ∀ (x1 : Int32) (x2 : Int32) (x3 : Int32) (y4 : Int32) (s5 : Sg), J102 x1 x2 x3 y4 s5 = some r → AW Γ (HP s5 o) 0 0 [some (.ref 8), some (.int a0), some (.int x1), some (.int x2), none, some (.int x3), none, none] [.int y4] 102 := by
    intro x1 x2 x3 y4 s5 hF
    rw [eJ102] at hF
    dsimp only at hF
    refine A_istore C (lv' := [some (.ref 8), some (.int a0), some (.int x1), some (.int x2), none, some (.int x3), none, some (.int y4)]) dX0_moveToBest_102 rfl eN rfl rfl (pc' := 104) rfl ?_
    refine A_aload_n C dX0_moveToBest_104 rfl (pc' := 105) rfl ?_
    refine A_iload_n C dX0_moveToBest_105 rfl (pc' := 106) rfl ?_
    refine A_iload C dX0_moveToBest_106 rfl (pc' := 108) rfl ?_
    refine A_if_eq C dX0_moveToBest_108 (tgt := 127) (by decide) (pc' := 111) rfl (fun c6 => ?_) (fun c6 => ?_)
    · rw [if_pos c6] at hF
      refine A_iload_n C dX0_moveToBest_127 rfl (pc' := 128) rfl ?_
      obtain ⟨q7, h8, hF⟩ := Option.bind_eq_some_iff.mp hF
      refine A_callV C (av := [.int a0, .int x2]) (rest := []) (st2 := []) (k2 := 0) (n2 := 0) (F_X0_putAt_ok hu h8) mk_X0_putAt lm_X0_84 wi_X0_putAt wv_X0_putAt (HPg_8 s5 o) rfl rfl rfl rfl ⟨by decide, by decide⟩ (Nat.le_of_ble_eq_true rfl) rfl rfl dX0_moveToBest_128 rfl rfl rfl (pc' := 131) rfl ?_
      refine A_iload C dX0_moveToBest_131 rfl (pc' := 133) rfl ?_
      obtain ⟨h9, hF⟩ := grd_some hF
      cases hF
      exact A_zret C T h9 (Nat.le_refl _) (Nat.le_refl _) dX0_moveToBest_133
    · rw [if_neg c6] at hF
      refine A_iload C dX0_moveToBest_111 rfl (pc' := 113) rfl ?_
      refine A_bipush C (x := 6) dX0_moveToBest_113 (by decide) (pc' := 115) rfl ?_
      refine A_imul C dX0_moveToBest_115 (pc' := 116) rfl ?_
      refine A_aload_n C dX0_moveToBest_116 rfl (pc' := 117) rfl ?_
      refine A_iload_n C dX0_moveToBest_117 rfl (pc' := 118) rfl ?_
      refine A_iload C dX0_moveToBest_118 rfl (pc' := 120) rfl ?_
      obtain ⟨q10, h11, hF⟩ := Option.bind_eq_some_iff.mp hF
      refine A_callV C (av := [.int x1, .int x3]) (rest := [.int (x3 * (6 : Int32)), .int a0, .ref 8]) (st2 := [.int q10, .int (x3 * (6 : Int32)), .int a0, .ref 8]) (k2 := 0) (n2 := 0) (F_X0_lowestRoom_ok hu h11) mk_X0_lowestRoom lm_X0_81 wi_X0_lowestRoom wv_X0_lowestRoom (HPg_8 s5 o) rfl rfl rfl rfl ⟨by decide, by decide⟩ (Nat.le_of_ble_eq_true rfl) rfl rfl dX0_moveToBest_120 rfl rfl rfl (pc' := 123) rfl ?_
      refine A_iadd C dX0_moveToBest_123 (pc' := 124) rfl ?_
      refine A_goto C dX0_moveToBest_124 (tgt := 128) (by decide) ?_
      obtain ⟨q12, h13, hF⟩ := Option.bind_eq_some_iff.mp hF
      refine A_callV C (av := [.int a0, .int ((x3 * (6 : Int32)) + q10)]) (rest := []) (st2 := []) (k2 := 0) (n2 := 0) (F_X0_putAt_ok hu h13) mk_X0_putAt lm_X0_84 wi_X0_putAt wv_X0_putAt (HPg_8 s5 o) rfl rfl rfl rfl ⟨by decide, by decide⟩ (Nat.le_of_ble_eq_true rfl) rfl rfl dX0_moveToBest_128 rfl rfl rfl (pc' := 131) rfl ?_
      refine A_iload C dX0_moveToBest_131 rfl (pc' := 133) rfl ?_
      obtain ⟨h14, hF⟩ := grd_some hF
      cases hF
      exact A_zret C T h14 (Nat.le_refl _) (Nat.le_refl _) dX0_moveToBest_133
  clear eJ102
  refine A_iload_n C dX0_moveToBest_0 rfl (pc' := 1) rfl ?_
  obtain ⟨q15, h16, hF⟩ := Option.bind_eq_some_iff.mp hF
  refine A_callSN C (av := [.int a0]) (rest := []) (st2 := [.int q15]) (k2 := 0) (n2 := 0) (F_X5_lessonOf_ok hu h16) mk_X5_lessonOf lm_X0_57 ws_X5_lessonOf rfl rfl rfl ⟨by decide, by decide⟩ (Nat.le_of_ble_eq_true rfl) rfl rfl dX0_moveToBest_1 rfl rfl rfl (pc' := 4) rfl ?_
  refine A_istore_n C (lv' := [some (.ref 8), some (.int a0), some (.int q15), none, none, none, none, none]) dX0_moveToBest_4 rfl eN rfl rfl (pc' := 5) rfl ?_
  refine A_aload_n C dX0_moveToBest_5 rfl (pc' := 6) rfl ?_
  refine A_get C (j := 9) cl_X0 rfl rfl lf_X0_28 dX0_moveToBest_6 (HPg_8 s o) rfl (pc' := 9) rfl ?_
  refine A_iload_n C dX0_moveToBest_9 rfl (pc' := 10) rfl ?_
  obtain ⟨h17, hF⟩ := grd_some hF
  refine A_iald C (HPg_20 s o) (ixb_in h17) dX0_moveToBest_10 (pc' := 11) rfl ?_
  obtain ⟨x18, e19, hF⟩ := bnd_some hF
  refine A_topi e19 ?_
  refine A_istore_n C (lv' := [some (.ref 8), some (.int a0), some (.int q15), some (.int x18), none, none, none, none]) dX0_moveToBest_11 rfl eN rfl rfl (pc' := 12) rfl ?_
  refine A_aload_n C dX0_moveToBest_12 rfl (pc' := 13) rfl ?_
  refine A_iload_n C dX0_moveToBest_13 rfl (pc' := 14) rfl ?_
  obtain ⟨q20, h21, hF⟩ := Option.bind_eq_some_iff.mp hF
  refine A_callV C (av := [.int a0]) (rest := []) (st2 := [.int q20]) (k2 := 0) (n2 := 0) (F_X0_periodOfItem_ok hu h21) mk_X0_periodOfItem lm_X0_128 wi_X0_periodOfItem wv_X0_periodOfItem (HPg_8 s o) rfl rfl rfl rfl ⟨by decide, by decide⟩ (Nat.le_of_ble_eq_true rfl) rfl rfl dX0_moveToBest_14 rfl rfl rfl (pc' := 17) rfl ?_
  refine A_istore C (lv' := [some (.ref 8), some (.int a0), some (.int q15), some (.int x18), some (.int q20), none, none, none]) dX0_moveToBest_17 rfl eN rfl rfl (pc' := 19) rfl ?_
  refine A_aload_n C dX0_moveToBest_19 rfl (pc' := 20) rfl ?_
  refine A_iload_n C dX0_moveToBest_20 rfl (pc' := 21) rfl ?_
  obtain ⟨q22, h23, hF⟩ := Option.bind_eq_some_iff.mp hF
  refine A_callV C (av := [.int a0]) (rest := []) (st2 := []) (k2 := 0) (n2 := 0) (F_X0_takeOut_ok hu h23) mk_X0_takeOut lm_X0_131 wi_X0_takeOut wv_X0_takeOut (HPg_8 s o) rfl rfl rfl rfl ⟨by decide, by decide⟩ (Nat.le_of_ble_eq_true rfl) rfl rfl dX0_moveToBest_21 rfl rfl rfl (pc' := 24) rfl ?_
  refine A_iload C dX0_moveToBest_24 rfl (pc' := 26) rfl ?_
  refine A_istore C (lv' := [some (.ref 8), some (.int a0), some (.int q15), some (.int x18), some (.int q20), some (.int q20), none, none]) dX0_moveToBest_26 rfl eN rfl rfl (pc' := 28) rfl ?_
  refine A_aload_n C dX0_moveToBest_28 rfl (pc' := 29) rfl ?_
  refine A_iload_n C dX0_moveToBest_29 rfl (pc' := 30) rfl ?_
  refine A_iload C dX0_moveToBest_30 rfl (pc' := 32) rfl ?_
  obtain ⟨q24, h25, hF⟩ := Option.bind_eq_some_iff.mp hF
  refine A_callV C (av := [.int q15, .int q20]) (rest := []) (st2 := [.int q24]) (k2 := 0) (n2 := 0) (F_X0_partWith_ok hu h25) mk_X0_partWith lm_X0_134 wi_X0_partWith wv_X0_partWith (HPg_8 q22 o) rfl rfl rfl rfl ⟨by decide, by decide⟩ (Nat.le_of_ble_eq_true rfl) rfl rfl dX0_moveToBest_32 rfl rfl rfl (pc' := 35) rfl ?_
  refine A_istore C (lv' := [some (.ref 8), some (.int a0), some (.int q15), some (.int x18), some (.int q20), some (.int q20), some (.int q24), none]) dX0_moveToBest_35 rfl eN rfl rfl (pc' := 37) rfl ?_
  refine A_iconst C (x := 0) dX0_moveToBest_37 (by decide) (pc' := 38) rfl ?_
  refine A_istore C (lv' := [some (.ref 8), some (.int a0), some (.int q15), some (.int x18), some (.int q20), some (.int q20), some (.int q24), some (.int (0 : Int32))]) dX0_moveToBest_38 rfl eN rfl rfl (pc' := 40) rfl ?_
  obtain ⟨q41, h42, hF⟩ := Option.bind_eq_some_iff.mp hF
  refine A_mask [true, true, true, true, true, true, true, true] (lv' := [some (.ref 8), some (.int a0), some (.int q15), some (.int x18), some (.int q20), some (.int q20), some (.int q24), some (.int (0 : Int32))]) rfl ?_
  refine L_X0_moveToBest_40_ok hu eN C FU a0 q15 x18 q20 q20 q24 (0 : Int32) q22 q41 h42 ?_
  refine A_iload C dX0_moveToBest_90 rfl (pc' := 92) rfl ?_
  refine A_iload C dX0_moveToBest_92 rfl (pc' := 94) rfl ?_
  refine A_icmp_eq C dX0_moveToBest_94 (tgt := 101) (by decide) (pc' := 97) rfl (fun c43 => ?_) (fun c43 => ?_)
  · rw [if_pos c43] at hF
    refine A_iconst C (x := 0) dX0_moveToBest_101 (by decide) (pc' := 102) rfl ?_
    refine A_mask [true, true, true, true, false, true, false, false] (lv' := [some (.ref 8), some (.int a0), some (.int q15), some (.int x18), none, some (.int q41), none, none]) rfl ?_
    exact hJ102 q15 x18 q41 (0 : Int32) q22 hF
  · rw [if_neg c43] at hF
    refine A_iconst C (x := 1) dX0_moveToBest_97 (by decide) (pc' := 98) rfl ?_
    refine A_goto C dX0_moveToBest_98 (tgt := 102) (by decide) ?_
    refine A_mask [true, true, true, true, false, true, false, false] (lv' := [some (.ref 8), some (.int a0), some (.int q15), some (.int x18), none, some (.int q41), none, none]) rfl ?_
    exact hJ102 q15 x18 q41 (1 : Int32) q22 hF
def L_X0_betterAll_4 : Nat → Int32 → Int32 → Sg → Option (Int32 × Sg)
  | 0, _, _, _ => none
  | fu + 1, b1, b2, s =>
    if (64 : Int32) ≤ b2 then
      some (b1, s)
    else
      (F_X0_isPlaced b2 s).bind fun q2 =>
      if q2 = 0 then
        bnd (b2 + (1 : Int32)) fun x5 =>
        L_X0_betterAll_4 fu b1 x5 s
      else
        (F_X0_moveToBest b2 s).bind fun q7 =>
        if q7.1 = 0 then
          bnd (b2 + (1 : Int32)) fun x10 =>
          L_X0_betterAll_4 fu b1 x10 q7.2
        else
          bnd (b2 + (1 : Int32)) fun x12 =>
          L_X0_betterAll_4 fu (1 : Int32) x12 q7.2
def F_X0_betterAll (s : Sg) : Option (Int32 × Sg) :=
  (L_X0_betterAll_4 FU (0 : Int32) (0 : Int32) s).bind fun q14 =>
  grd (q14.1 = 0 ∨ q14.1 = 1) <|
  some (q14.1, q14.2)
set_option maxHeartbeats 4000000 in
set_option maxRecDepth 100000 in
theorem L_X0_betterAll_4_ok {Γ : Cx} (hu : Un Γ.2.1) (eN : 3 = Γ.2.2.2.2.2) (C : Cok Γ cX0_betterAll RX0 (some .boolean) 5 0 0) {o : Nat → Int64} : ∀ (fu : Nat) (b1 : Int32) (b2 : Int32) (s : Sg) (q : (Int32 × Sg)), L_X0_betterAll_4 fu b1 b2 s = some q → AW Γ (HP q.2 o) 0 0 [none, some (.int q.1), none] [] 34 → AW Γ (HP s o) 0 0 [some (.ref 8), some (.int b1), some (.int b2)] [] 4 := by
  intro fu
  induction fu with
  | zero => intro b1 b2 s q hF; rw [L_X0_betterAll_4] at hF; cases hF
  | succ fu ih =>
    intro b1 b2 s q hF hexit
    rw [L_X0_betterAll_4] at hF
    refine A_iload_n C dX0_betterAll_4 rfl (pc' := 5) rfl ?_
    refine A_bipush C (x := 64) dX0_betterAll_5 (by decide) (pc' := 7) rfl ?_
    refine A_icmp_ge C dX0_betterAll_7 (tgt := 34) (by decide) (pc' := 10) rfl (fun c1 => ?_) (fun c1 => ?_)
    · rw [if_pos c1] at hF
      cases hF
      refine A_mask [false, true, false] (lv' := [none, some (.int b1), none]) rfl ?_
      exact hexit
    · rw [if_neg c1] at hF
      refine A_aload_n C dX0_betterAll_10 rfl (pc' := 11) rfl ?_
      refine A_iload_n C dX0_betterAll_11 rfl (pc' := 12) rfl ?_
      obtain ⟨q2, h3, hF⟩ := Option.bind_eq_some_iff.mp hF
      refine A_callV C (av := [.int b2]) (rest := []) (st2 := [.int q2]) (k2 := 0) (n2 := 0) (F_X0_isPlaced_ok hu h3) mk_X0_isPlaced lm_X0_53 wi_X0_isPlaced wv_X0_isPlaced (HPg_8 s o) rfl rfl rfl rfl ⟨by decide, by decide⟩ (Nat.le_of_ble_eq_true rfl) rfl rfl dX0_betterAll_12 rfl rfl rfl (pc' := 15) rfl ?_
      refine A_if_eq C dX0_betterAll_15 (tgt := 28) (by decide) (pc' := 18) rfl (fun c4 => ?_) (fun c4 => ?_)
      · rw [if_pos c4] at hF
        obtain ⟨x5, e6, hF⟩ := bnd_some hF
        refine A_iinc C (lv' := [some (.ref 8), some (.int b1), some (.int x5)]) dX0_betterAll_28 rfl (by rw [e6]; rfl) rfl eN rfl rfl (pc' := 31) rfl ?_
        refine A_goto C dX0_betterAll_31 (tgt := 4) (by decide) ?_
        refine A_mask [true, true, true] (lv' := [some (.ref 8), some (.int b1), some (.int x5)]) rfl ?_
        exact ih b1 x5 s q hF hexit
      · rw [if_neg c4] at hF
        refine A_aload_n C dX0_betterAll_18 rfl (pc' := 19) rfl ?_
        refine A_iload_n C dX0_betterAll_19 rfl (pc' := 20) rfl ?_
        obtain ⟨q7, h8, hF⟩ := Option.bind_eq_some_iff.mp hF
        refine A_callV C (av := [.int b2]) (rest := []) (st2 := [.int q7.1]) (k2 := 0) (n2 := 0) (F_X0_moveToBest_ok hu h8) mk_X0_moveToBest lm_X0_125 wi_X0_moveToBest wv_X0_moveToBest (HPg_8 s o) rfl rfl rfl rfl ⟨by decide, by decide⟩ (Nat.le_of_ble_eq_true rfl) rfl rfl dX0_betterAll_20 rfl rfl rfl (pc' := 23) rfl ?_
        refine A_if_eq C dX0_betterAll_23 (tgt := 28) (by decide) (pc' := 26) rfl (fun c9 => ?_) (fun c9 => ?_)
        · rw [if_pos c9] at hF
          obtain ⟨x10, e11, hF⟩ := bnd_some hF
          refine A_iinc C (lv' := [some (.ref 8), some (.int b1), some (.int x10)]) dX0_betterAll_28 rfl (by rw [e11]; rfl) rfl eN rfl rfl (pc' := 31) rfl ?_
          refine A_goto C dX0_betterAll_31 (tgt := 4) (by decide) ?_
          refine A_mask [true, true, true] (lv' := [some (.ref 8), some (.int b1), some (.int x10)]) rfl ?_
          exact ih b1 x10 q7.2 q hF hexit
        · rw [if_neg c9] at hF
          refine A_iconst C (x := 1) dX0_betterAll_26 (by decide) (pc' := 27) rfl ?_
          refine A_istore_n C (lv' := [some (.ref 8), some (.int (1 : Int32)), some (.int b2)]) dX0_betterAll_27 rfl eN rfl rfl (pc' := 28) rfl ?_
          obtain ⟨x12, e13, hF⟩ := bnd_some hF
          refine A_iinc C (lv' := [some (.ref 8), some (.int (1 : Int32)), some (.int x12)]) dX0_betterAll_28 rfl (by rw [e13]; rfl) rfl eN rfl rfl (pc' := 31) rfl ?_
          refine A_goto C dX0_betterAll_31 (tgt := 4) (by decide) ?_
          refine A_mask [true, true, true] (lv' := [some (.ref 8), some (.int (1 : Int32)), some (.int x12)]) rfl ?_
          exact ih (1 : Int32) x12 q7.2 q hF hexit
set_option maxHeartbeats 4000000 in
set_option maxRecDepth 100000 in
theorem F_X0_betterAll_ok {u : Uv} (hu : Un u) {s : Sg} {o : Nat → Int64} {r : (Int32 × Sg)} (hF : F_X0_betterAll  s = some r) : AM u (yX0_betterAll, cX0_betterAll, 3, (some .boolean)) 5 0 0 [.ref 8] (HP s o) (some (.int r.1)) (HP r.2 o) := by
  refine AM.of hu (lv := [some (.ref 8), none, none]) (by decide) rfl (Nat.le_of_ble_eq_true rfl) rfl ?_
  intro Γ eu eN C T
  subst eu
  have C : Cok Γ cX0_betterAll RX0 (some .boolean) 5 0 0 := C
  unfold F_X0_betterAll at hF
  refine A_iconst C (x := 0) dX0_betterAll_0 (by decide) (pc' := 1) rfl ?_
  refine A_istore_n C (lv' := [some (.ref 8), some (.int (0 : Int32)), none]) dX0_betterAll_1 rfl eN rfl rfl (pc' := 2) rfl ?_
  refine A_iconst C (x := 0) dX0_betterAll_2 (by decide) (pc' := 3) rfl ?_
  refine A_istore_n C (lv' := [some (.ref 8), some (.int (0 : Int32)), some (.int (0 : Int32))]) dX0_betterAll_3 rfl eN rfl rfl (pc' := 4) rfl ?_
  obtain ⟨q14, h15, hF⟩ := Option.bind_eq_some_iff.mp hF
  refine A_mask [true, true, true] (lv' := [some (.ref 8), some (.int (0 : Int32)), some (.int (0 : Int32))]) rfl ?_
  refine L_X0_betterAll_4_ok hu eN C FU (0 : Int32) (0 : Int32) s q14 h15 ?_
  refine A_iload_n C dX0_betterAll_34 rfl (pc' := 35) rfl ?_
  obtain ⟨h16, hF⟩ := grd_some hF
  cases hF
  exact A_zret C T h16 (Nat.le_refl _) (Nat.le_refl _) dX0_betterAll_35
def F_X0_isUsedBy (a0 : Int32) (a1 : Int32) (s : Sg) : Option Int32 :=
  (F_X5_lessonOf a0 s).bind fun q1 =>
  grd (ixb q1 16 = true) <|
  if a1 = (s 10 q1.toNatClampNeg) then
    some (1 : Int32)
  else
    grd (ixb q1 16 = true) <|
    if a1 = (s 11 q1.toNatClampNeg) then
      some (1 : Int32)
    else
      grd (ixb q1 16 = true) <|
      if a1 = ((8 : Int32) + (s 12 q1.toNatClampNeg)) then
        some (1 : Int32)
      else
        (F_X0_roomOfItem a0 s).bind fun q9 =>
        if a1 = ((16 : Int32) + q9) then
          some (1 : Int32)
        else
          some (0 : Int32)
set_option maxHeartbeats 4000000 in
set_option maxRecDepth 100000 in
theorem F_X0_isUsedBy_ok {u : Uv} (hu : Un u) {a0 a1 : Int32} {s : Sg} {o : Nat → Int64} {r : Int32} (hF : F_X0_isUsedBy a0 a1 s = some r) : AM u (yX0_isUsedBy, cX0_isUsedBy, 4, (some .boolean)) 2 0 0 [.ref 8, .int a0, .int a1] (HP s o) (some (.int r)) (HP s o) := by
  refine AM.of hu (lv := [some (.ref 8), some (.int a0), some (.int a1), none]) (by decide) rfl (Nat.le_of_ble_eq_true rfl) rfl ?_
  intro Γ eu eN C T
  subst eu
  have C : Cok Γ cX0_isUsedBy RX0 (some .boolean) 2 0 0 := C
  unfold F_X0_isUsedBy at hF
  refine A_iload_n C dX0_isUsedBy_0 rfl (pc' := 1) rfl ?_
  obtain ⟨q1, h2, hF⟩ := Option.bind_eq_some_iff.mp hF
  refine A_callSN C (av := [.int a0]) (rest := []) (st2 := [.int q1]) (k2 := 0) (n2 := 0) (F_X5_lessonOf_ok hu h2) mk_X5_lessonOf lm_X0_57 ws_X5_lessonOf rfl rfl rfl ⟨by decide, by decide⟩ (Nat.le_of_ble_eq_true rfl) rfl rfl dX0_isUsedBy_1 rfl rfl rfl (pc' := 4) rfl ?_
  refine A_istore_n C (lv' := [some (.ref 8), some (.int a0), some (.int a1), some (.int q1)]) dX0_isUsedBy_4 rfl eN rfl rfl (pc' := 5) rfl ?_
  refine A_iload_n C dX0_isUsedBy_5 rfl (pc' := 6) rfl ?_
  refine A_aload_n C dX0_isUsedBy_6 rfl (pc' := 7) rfl ?_
  refine A_get C (j := 5) cl_X0 rfl rfl lf_X0_12 dX0_isUsedBy_7 (HPg_8 s o) rfl (pc' := 10) rfl ?_
  refine A_getN C (j := 0) cl_X3 rfl rfl lf_X0_72 dX0_isUsedBy_10 (HPg_9 s o) rfl (pc' := 13) rfl ?_
  refine A_iload_n C dX0_isUsedBy_13 rfl (pc' := 14) rfl ?_
  obtain ⟨h3, hF⟩ := grd_some hF
  refine A_iald C (HPg_10 s o) (ixb_in h3) dX0_isUsedBy_14 (pc' := 15) rfl ?_
  refine A_icmp_eq C dX0_isUsedBy_15 (tgt := 59) (by decide) (pc' := 18) rfl (fun c4 => ?_) (fun c4 => ?_)
  · rw [if_pos c4] at hF
    refine A_iconst C (x := 1) dX0_isUsedBy_59 (by decide) (pc' := 60) rfl ?_
    refine A_goto C dX0_isUsedBy_60 (tgt := 64) (by decide) ?_
    cases hF
    exact A_zret C T (Or.inr rfl) (Nat.le_refl _) (Nat.le_refl _) dX0_isUsedBy_64
  · rw [if_neg c4] at hF
    refine A_iload_n C dX0_isUsedBy_18 rfl (pc' := 19) rfl ?_
    refine A_aload_n C dX0_isUsedBy_19 rfl (pc' := 20) rfl ?_
    refine A_get C (j := 5) cl_X0 rfl rfl lf_X0_12 dX0_isUsedBy_20 (HPg_8 s o) rfl (pc' := 23) rfl ?_
    refine A_getN C (j := 1) cl_X3 rfl rfl lf_X0_75 dX0_isUsedBy_23 (HPg_9 s o) rfl (pc' := 26) rfl ?_
    refine A_iload_n C dX0_isUsedBy_26 rfl (pc' := 27) rfl ?_
    obtain ⟨h5, hF⟩ := grd_some hF
    refine A_iald C (HPg_11 s o) (ixb_in h5) dX0_isUsedBy_27 (pc' := 28) rfl ?_
    refine A_icmp_eq C dX0_isUsedBy_28 (tgt := 59) (by decide) (pc' := 31) rfl (fun c6 => ?_) (fun c6 => ?_)
    · rw [if_pos c6] at hF
      refine A_iconst C (x := 1) dX0_isUsedBy_59 (by decide) (pc' := 60) rfl ?_
      refine A_goto C dX0_isUsedBy_60 (tgt := 64) (by decide) ?_
      cases hF
      exact A_zret C T (Or.inr rfl) (Nat.le_refl _) (Nat.le_refl _) dX0_isUsedBy_64
    · rw [if_neg c6] at hF
      refine A_iload_n C dX0_isUsedBy_31 rfl (pc' := 32) rfl ?_
      refine A_bipush C (x := 8) dX0_isUsedBy_32 (by decide) (pc' := 34) rfl ?_
      refine A_aload_n C dX0_isUsedBy_34 rfl (pc' := 35) rfl ?_
      refine A_get C (j := 5) cl_X0 rfl rfl lf_X0_12 dX0_isUsedBy_35 (HPg_8 s o) rfl (pc' := 38) rfl ?_
      refine A_getN C (j := 2) cl_X3 rfl rfl lf_X0_69 dX0_isUsedBy_38 (HPg_9 s o) rfl (pc' := 41) rfl ?_
      refine A_iload_n C dX0_isUsedBy_41 rfl (pc' := 42) rfl ?_
      obtain ⟨h7, hF⟩ := grd_some hF
      refine A_iald C (HPg_12 s o) (ixb_in h7) dX0_isUsedBy_42 (pc' := 43) rfl ?_
      refine A_iadd C dX0_isUsedBy_43 (pc' := 44) rfl ?_
      refine A_icmp_eq C dX0_isUsedBy_44 (tgt := 59) (by decide) (pc' := 47) rfl (fun c8 => ?_) (fun c8 => ?_)
      · rw [if_pos c8] at hF
        refine A_iconst C (x := 1) dX0_isUsedBy_59 (by decide) (pc' := 60) rfl ?_
        refine A_goto C dX0_isUsedBy_60 (tgt := 64) (by decide) ?_
        cases hF
        exact A_zret C T (Or.inr rfl) (Nat.le_refl _) (Nat.le_refl _) dX0_isUsedBy_64
      · rw [if_neg c8] at hF
        refine A_iload_n C dX0_isUsedBy_47 rfl (pc' := 48) rfl ?_
        refine A_bipush C (x := 16) dX0_isUsedBy_48 (by decide) (pc' := 50) rfl ?_
        refine A_aload_n C dX0_isUsedBy_50 rfl (pc' := 51) rfl ?_
        refine A_iload_n C dX0_isUsedBy_51 rfl (pc' := 52) rfl ?_
        obtain ⟨q9, h10, hF⟩ := Option.bind_eq_some_iff.mp hF
        refine A_callV C (av := [.int a0]) (rest := [.int (16 : Int32), .int a1]) (st2 := [.int q9, .int (16 : Int32), .int a1]) (k2 := 0) (n2 := 0) (F_X0_roomOfItem_ok hu h10) mk_X0_roomOfItem lm_X0_146 wi_X0_roomOfItem wv_X0_roomOfItem (HPg_8 s o) rfl rfl rfl rfl ⟨by decide, by decide⟩ (Nat.le_of_ble_eq_true rfl) rfl rfl dX0_isUsedBy_52 rfl rfl rfl (pc' := 55) rfl ?_
        refine A_iadd C dX0_isUsedBy_55 (pc' := 56) rfl ?_
        refine A_icmp_ne C dX0_isUsedBy_56 (tgt := 63) (by decide) (pc' := 59) rfl (fun c11 => ?_) (fun c11 => ?_)
        · rw [if_neg c11] at hF
          refine A_iconst C (x := 0) dX0_isUsedBy_63 (by decide) (pc' := 64) rfl ?_
          cases hF
          exact A_zret C T (Or.inl rfl) (Nat.le_refl _) (Nat.le_refl _) dX0_isUsedBy_64
        · rw [if_pos c11] at hF
          refine A_iconst C (x := 1) dX0_isUsedBy_59 (by decide) (pc' := 60) rfl ?_
          refine A_goto C dX0_isUsedBy_60 (tgt := 64) (by decide) ?_
          cases hF
          exact A_zret C T (Or.inr rfl) (Nat.le_refl _) (Nat.le_refl _) dX0_isUsedBy_64
def L_X0_letterAt_2 : Nat → Int32 → Int32 → Int32 → Sg → Option (Int32 ⊕ (Unit))
  | 0, _, _, _, _ => none
  | fu + 1, b1, b2, b3, s =>
    if (64 : Int32) ≤ b3 then
      some (.inr ())
    else
      (F_X0_bitsOfItem b3 s).bind fun q2 =>
      if (q2 &&& ((1 : Int32) <<< (b2 &&& 31))) = 0 then
        bnd (b3 + (1 : Int32)) fun x5 =>
        L_X0_letterAt_2 fu b1 b2 x5 s
      else
        (F_X0_isUsedBy b3 b1 s).bind fun q7 =>
        if q7 = 0 then
          bnd (b3 + (1 : Int32)) fun x10 =>
          L_X0_letterAt_2 fu b1 b2 x10 s
        else
          (F_X5_lessonOf b3 s).bind fun q12 =>
          grd (ixb q12 16 = true) <|
          some (.inl (s 16 q12.toNatClampNeg))
def F_X0_letterAt (a0 : Int32) (a1 : Int32) (s : Sg) : Option Int32 :=
  (L_X0_letterAt_2 FU a0 a1 (0 : Int32) s).bind fun q15 => match q15 with
  | .inl v17 => some v17
  | .inr t18 =>
  some (46 : Int32)
set_option maxHeartbeats 4000000 in
set_option maxRecDepth 100000 in
theorem L_X0_letterAt_2_ok {Γ : Cx} (hu : Un Γ.2.1) (eN : 4 = Γ.2.2.2.2.2) (C : Cok Γ cX0_letterAt RX0 (some .int) 3 0 0) {o : Nat → Int64} : ∀ (fu : Nat) (b1 : Int32) (b2 : Int32) (b3 : Int32) (s : Sg) (q : (Int32 ⊕ (Unit))), L_X0_letterAt_2 fu b1 b2 b3 s = some q → (∀ v, q = .inl v → Tgt Γ 0 0 (some (.int v)) (HP s o)) → (∀ t, q = .inr t → AW Γ (HP s o) 0 0 [none, none, none, none] [] 48) → AW Γ (HP s o) 0 0 [some (.ref 8), some (.int b1), some (.int b2), some (.int b3)] [] 2 := by
  intro fu
  induction fu with
  | zero => intro b1 b2 b3 s q hF; rw [L_X0_letterAt_2] at hF; cases hF
  | succ fu ih =>
    intro b1 b2 b3 s q hF hret hexit
    rw [L_X0_letterAt_2] at hF
    refine A_iload_n C dX0_letterAt_2 rfl (pc' := 3) rfl ?_
    refine A_bipush C (x := 64) dX0_letterAt_3 (by decide) (pc' := 5) rfl ?_
    refine A_icmp_ge C dX0_letterAt_5 (tgt := 48) (by decide) (pc' := 8) rfl (fun c1 => ?_) (fun c1 => ?_)
    · rw [if_pos c1] at hF
      cases hF
      refine A_mask [false, false, false, false] (lv' := [none, none, none, none]) rfl ?_
      exact hexit () rfl
    · rw [if_neg c1] at hF
      refine A_aload_n C dX0_letterAt_8 rfl (pc' := 9) rfl ?_
      refine A_iload_n C dX0_letterAt_9 rfl (pc' := 10) rfl ?_
      obtain ⟨q2, h3, hF⟩ := Option.bind_eq_some_iff.mp hF
      refine A_callV C (av := [.int b3]) (rest := []) (st2 := [.int q2]) (k2 := 0) (n2 := 0) (F_X0_bitsOfItem_ok hu h3) mk_X0_bitsOfItem lm_X0_137 wi_X0_bitsOfItem wv_X0_bitsOfItem (HPg_8 s o) rfl rfl rfl rfl ⟨by decide, by decide⟩ (Nat.le_of_ble_eq_true rfl) rfl rfl dX0_letterAt_10 rfl rfl rfl (pc' := 13) rfl ?_
      refine A_iconst C (x := 1) dX0_letterAt_13 (by decide) (pc' := 14) rfl ?_
      refine A_iload_n C dX0_letterAt_14 rfl (pc' := 15) rfl ?_
      refine A_ishl C dX0_letterAt_15 (pc' := 16) rfl ?_
      refine A_iand C dX0_letterAt_16 (pc' := 17) rfl ?_
      refine A_if_eq C dX0_letterAt_17 (tgt := 42) (by decide) (pc' := 20) rfl (fun c4 => ?_) (fun c4 => ?_)
      · rw [if_pos c4] at hF
        obtain ⟨x5, e6, hF⟩ := bnd_some hF
        refine A_iinc C (lv' := [some (.ref 8), some (.int b1), some (.int b2), some (.int x5)]) dX0_letterAt_42 rfl (by rw [e6]; rfl) rfl eN rfl rfl (pc' := 45) rfl ?_
        refine A_goto C dX0_letterAt_45 (tgt := 2) (by decide) ?_
        refine A_mask [true, true, true, true] (lv' := [some (.ref 8), some (.int b1), some (.int b2), some (.int x5)]) rfl ?_
        exact ih b1 b2 x5 s q hF hret hexit
      · rw [if_neg c4] at hF
        refine A_aload_n C dX0_letterAt_20 rfl (pc' := 21) rfl ?_
        refine A_iload_n C dX0_letterAt_21 rfl (pc' := 22) rfl ?_
        refine A_iload_n C dX0_letterAt_22 rfl (pc' := 23) rfl ?_
        obtain ⟨q7, h8, hF⟩ := Option.bind_eq_some_iff.mp hF
        refine A_callV C (av := [.int b3, .int b1]) (rest := []) (st2 := [.int q7]) (k2 := 0) (n2 := 0) (F_X0_isUsedBy_ok hu h8) mk_X0_isUsedBy lm_X0_140 wi_X0_isUsedBy wv_X0_isUsedBy (HPg_8 s o) rfl rfl rfl rfl ⟨by decide, by decide⟩ (Nat.le_of_ble_eq_true rfl) rfl rfl dX0_letterAt_23 rfl rfl rfl (pc' := 26) rfl ?_
        refine A_if_eq C dX0_letterAt_26 (tgt := 42) (by decide) (pc' := 29) rfl (fun c9 => ?_) (fun c9 => ?_)
        · rw [if_pos c9] at hF
          obtain ⟨x10, e11, hF⟩ := bnd_some hF
          refine A_iinc C (lv' := [some (.ref 8), some (.int b1), some (.int b2), some (.int x10)]) dX0_letterAt_42 rfl (by rw [e11]; rfl) rfl eN rfl rfl (pc' := 45) rfl ?_
          refine A_goto C dX0_letterAt_45 (tgt := 2) (by decide) ?_
          refine A_mask [true, true, true, true] (lv' := [some (.ref 8), some (.int b1), some (.int b2), some (.int x10)]) rfl ?_
          exact ih b1 b2 x10 s q hF hret hexit
        · rw [if_neg c9] at hF
          refine A_aload_n C dX0_letterAt_29 rfl (pc' := 30) rfl ?_
          refine A_get C (j := 5) cl_X0 rfl rfl lf_X0_12 dX0_letterAt_30 (HPg_8 s o) rfl (pc' := 33) rfl ?_
          refine A_getN C (j := 6) cl_X3 rfl rfl lf_X0_143 dX0_letterAt_33 (HPg_9 s o) rfl (pc' := 36) rfl ?_
          refine A_iload_n C dX0_letterAt_36 rfl (pc' := 37) rfl ?_
          obtain ⟨q12, h13, hF⟩ := Option.bind_eq_some_iff.mp hF
          refine A_callSN C (av := [.int b3]) (rest := [.ref 16]) (st2 := [.int q12, .ref 16]) (k2 := 0) (n2 := 0) (F_X5_lessonOf_ok hu h13) mk_X5_lessonOf lm_X0_57 ws_X5_lessonOf rfl rfl rfl ⟨by decide, by decide⟩ (Nat.le_of_ble_eq_true rfl) rfl rfl dX0_letterAt_37 rfl rfl rfl (pc' := 40) rfl ?_
          obtain ⟨h14, hF⟩ := grd_some hF
          refine A_iald C (HPg_16 s o) (ixb_in h14) dX0_letterAt_40 (pc' := 41) rfl ?_
          cases hF
          exact A_iret C (hret (s 16 q12.toNatClampNeg) rfl) (Nat.le_refl _) (Nat.le_refl _) dX0_letterAt_41
set_option maxHeartbeats 4000000 in
set_option maxRecDepth 100000 in
theorem F_X0_letterAt_ok {u : Uv} (hu : Un u) {a0 a1 : Int32} {s : Sg} {o : Nat → Int64} {r : Int32} (hF : F_X0_letterAt a0 a1 s = some r) : AM u (yX0_letterAt, cX0_letterAt, 4, (some .int)) 3 0 0 [.ref 8, .int a0, .int a1] (HP s o) (some (.int r)) (HP s o) := by
  refine AM.of hu (lv := [some (.ref 8), some (.int a0), some (.int a1), none]) (by decide) rfl (Nat.le_of_ble_eq_true rfl) rfl ?_
  intro Γ eu eN C T
  subst eu
  have C : Cok Γ cX0_letterAt RX0 (some .int) 3 0 0 := C
  unfold F_X0_letterAt at hF
  refine A_iconst C (x := 0) dX0_letterAt_0 (by decide) (pc' := 1) rfl ?_
  refine A_istore_n C (lv' := [some (.ref 8), some (.int a0), some (.int a1), some (.int (0 : Int32))]) dX0_letterAt_1 rfl eN rfl rfl (pc' := 2) rfl ?_
  obtain ⟨q15, h16, hF⟩ := Option.bind_eq_some_iff.mp hF
  refine A_mask [true, true, true, true] (lv' := [some (.ref 8), some (.int a0), some (.int a1), some (.int (0 : Int32))]) rfl ?_
  refine L_X0_letterAt_2_ok hu eN C FU a0 a1 (0 : Int32) s q15 h16 (fun v17 e9 => ?_) (fun t18 e9 => ?_)
  · subst e9
    dsimp only at hF
    cases hF
    exact T
  subst e9
  dsimp only at hF
  refine A_bipush C (x := 46) dX0_letterAt_48 (by decide) (pc' := 50) rfl ?_
  cases hF
  exact A_iret C T (Nat.le_refl _) (Nat.le_refl _) dX0_letterAt_50
def L_X0_itemBeginningAt_2 : Nat → Int32 → Int32 → Int32 → Sg → Option (Int32 ⊕ (Unit))
  | 0, _, _, _, _ => none
  | fu + 1, b1, b2, b3, s =>
    if (64 : Int32) ≤ b3 then
      some (.inr ())
    else
      (F_X5_lessonOf b3 s).bind fun q2 =>
      grd (ixb q2 16 = true) <|
      if (s 12 q2.toNatClampNeg) = b1 then
        (F_X0_periodOfItem b3 s).bind fun q8 =>
        if q8 = b2 then
          some (.inl b3)
        else
          bnd (b3 + (1 : Int32)) fun x11 =>
          L_X0_itemBeginningAt_2 fu b1 b2 x11 s
      else
        bnd (b3 + (1 : Int32)) fun x6 =>
        L_X0_itemBeginningAt_2 fu b1 b2 x6 s
def F_X0_itemBeginningAt (a0 : Int32) (a1 : Int32) (s : Sg) : Option Int32 :=
  (L_X0_itemBeginningAt_2 FU a0 a1 (0 : Int32) s).bind fun q13 => match q13 with
  | .inl v15 => some v15
  | .inr t16 =>
  some (-1 : Int32)
set_option maxHeartbeats 4000000 in
set_option maxRecDepth 100000 in
theorem L_X0_itemBeginningAt_2_ok {Γ : Cx} (hu : Un Γ.2.1) (eN : 4 = Γ.2.2.2.2.2) (C : Cok Γ cX0_itemBeginningAt RX0 (some .int) 2 0 0) {o : Nat → Int64} : ∀ (fu : Nat) (b1 : Int32) (b2 : Int32) (b3 : Int32) (s : Sg) (q : (Int32 ⊕ (Unit))), L_X0_itemBeginningAt_2 fu b1 b2 b3 s = some q → (∀ v, q = .inl v → Tgt Γ 0 0 (some (.int v)) (HP s o)) → (∀ t, q = .inr t → AW Γ (HP s o) 0 0 [none, none, none, none] [] 41) → AW Γ (HP s o) 0 0 [some (.ref 8), some (.int b1), some (.int b2), some (.int b3)] [] 2 := by
  intro fu
  induction fu with
  | zero => intro b1 b2 b3 s q hF; rw [L_X0_itemBeginningAt_2] at hF; cases hF
  | succ fu ih =>
    intro b1 b2 b3 s q hF hret hexit
    rw [L_X0_itemBeginningAt_2] at hF
    refine A_iload_n C dX0_itemBeginningAt_2 rfl (pc' := 3) rfl ?_
    refine A_bipush C (x := 64) dX0_itemBeginningAt_3 (by decide) (pc' := 5) rfl ?_
    refine A_icmp_ge C dX0_itemBeginningAt_5 (tgt := 41) (by decide) (pc' := 8) rfl (fun c1 => ?_) (fun c1 => ?_)
    · rw [if_pos c1] at hF
      cases hF
      refine A_mask [false, false, false, false] (lv' := [none, none, none, none]) rfl ?_
      exact hexit () rfl
    · rw [if_neg c1] at hF
      refine A_aload_n C dX0_itemBeginningAt_8 rfl (pc' := 9) rfl ?_
      refine A_get C (j := 5) cl_X0 rfl rfl lf_X0_12 dX0_itemBeginningAt_9 (HPg_8 s o) rfl (pc' := 12) rfl ?_
      refine A_getN C (j := 2) cl_X3 rfl rfl lf_X0_69 dX0_itemBeginningAt_12 (HPg_9 s o) rfl (pc' := 15) rfl ?_
      refine A_iload_n C dX0_itemBeginningAt_15 rfl (pc' := 16) rfl ?_
      obtain ⟨q2, h3, hF⟩ := Option.bind_eq_some_iff.mp hF
      refine A_callSN C (av := [.int b3]) (rest := [.ref 12]) (st2 := [.int q2, .ref 12]) (k2 := 0) (n2 := 0) (F_X5_lessonOf_ok hu h3) mk_X5_lessonOf lm_X0_57 ws_X5_lessonOf rfl rfl rfl ⟨by decide, by decide⟩ (Nat.le_of_ble_eq_true rfl) rfl rfl dX0_itemBeginningAt_16 rfl rfl rfl (pc' := 19) rfl ?_
      obtain ⟨h4, hF⟩ := grd_some hF
      refine A_iald C (HPg_12 s o) (ixb_in h4) dX0_itemBeginningAt_19 (pc' := 20) rfl ?_
      refine A_iload_n C dX0_itemBeginningAt_20 rfl (pc' := 21) rfl ?_
      refine A_icmp_ne C dX0_itemBeginningAt_21 (tgt := 35) (by decide) (pc' := 24) rfl (fun c5 => ?_) (fun c5 => ?_)
      · rw [if_neg c5] at hF
        obtain ⟨x6, e7, hF⟩ := bnd_some hF
        refine A_iinc C (lv' := [some (.ref 8), some (.int b1), some (.int b2), some (.int x6)]) dX0_itemBeginningAt_35 rfl (by rw [e7]; rfl) rfl eN rfl rfl (pc' := 38) rfl ?_
        refine A_goto C dX0_itemBeginningAt_38 (tgt := 2) (by decide) ?_
        refine A_mask [true, true, true, true] (lv' := [some (.ref 8), some (.int b1), some (.int b2), some (.int x6)]) rfl ?_
        exact ih b1 b2 x6 s q hF hret hexit
      · rw [if_pos c5] at hF
        refine A_aload_n C dX0_itemBeginningAt_24 rfl (pc' := 25) rfl ?_
        refine A_iload_n C dX0_itemBeginningAt_25 rfl (pc' := 26) rfl ?_
        obtain ⟨q8, h9, hF⟩ := Option.bind_eq_some_iff.mp hF
        refine A_callV C (av := [.int b3]) (rest := []) (st2 := [.int q8]) (k2 := 0) (n2 := 0) (F_X0_periodOfItem_ok hu h9) mk_X0_periodOfItem lm_X0_128 wi_X0_periodOfItem wv_X0_periodOfItem (HPg_8 s o) rfl rfl rfl rfl ⟨by decide, by decide⟩ (Nat.le_of_ble_eq_true rfl) rfl rfl dX0_itemBeginningAt_26 rfl rfl rfl (pc' := 29) rfl ?_
        refine A_iload_n C dX0_itemBeginningAt_29 rfl (pc' := 30) rfl ?_
        refine A_icmp_ne C dX0_itemBeginningAt_30 (tgt := 35) (by decide) (pc' := 33) rfl (fun c10 => ?_) (fun c10 => ?_)
        · rw [if_neg c10] at hF
          obtain ⟨x11, e12, hF⟩ := bnd_some hF
          refine A_iinc C (lv' := [some (.ref 8), some (.int b1), some (.int b2), some (.int x11)]) dX0_itemBeginningAt_35 rfl (by rw [e12]; rfl) rfl eN rfl rfl (pc' := 38) rfl ?_
          refine A_goto C dX0_itemBeginningAt_38 (tgt := 2) (by decide) ?_
          refine A_mask [true, true, true, true] (lv' := [some (.ref 8), some (.int b1), some (.int b2), some (.int x11)]) rfl ?_
          exact ih b1 b2 x11 s q hF hret hexit
        · rw [if_pos c10] at hF
          refine A_iload_n C dX0_itemBeginningAt_33 rfl (pc' := 34) rfl ?_
          cases hF
          exact A_iret C (hret b3 rfl) (Nat.le_refl _) (Nat.le_refl _) dX0_itemBeginningAt_34
set_option maxHeartbeats 4000000 in
set_option maxRecDepth 100000 in
theorem F_X0_itemBeginningAt_ok {u : Uv} (hu : Un u) {a0 a1 : Int32} {s : Sg} {o : Nat → Int64} {r : Int32} (hF : F_X0_itemBeginningAt a0 a1 s = some r) : AM u (yX0_itemBeginningAt, cX0_itemBeginningAt, 4, (some .int)) 2 0 0 [.ref 8, .int a0, .int a1] (HP s o) (some (.int r)) (HP s o) := by
  refine AM.of hu (lv := [some (.ref 8), some (.int a0), some (.int a1), none]) (by decide) rfl (Nat.le_of_ble_eq_true rfl) rfl ?_
  intro Γ eu eN C T
  subst eu
  have C : Cok Γ cX0_itemBeginningAt RX0 (some .int) 2 0 0 := C
  unfold F_X0_itemBeginningAt at hF
  refine A_iconst C (x := 0) dX0_itemBeginningAt_0 (by decide) (pc' := 1) rfl ?_
  refine A_istore_n C (lv' := [some (.ref 8), some (.int a0), some (.int a1), some (.int (0 : Int32))]) dX0_itemBeginningAt_1 rfl eN rfl rfl (pc' := 2) rfl ?_
  obtain ⟨q13, h14, hF⟩ := Option.bind_eq_some_iff.mp hF
  refine A_mask [true, true, true, true] (lv' := [some (.ref 8), some (.int a0), some (.int a1), some (.int (0 : Int32))]) rfl ?_
  refine L_X0_itemBeginningAt_2_ok hu eN C FU a0 a1 (0 : Int32) s q13 h14 (fun v15 e9 => ?_) (fun t16 e9 => ?_)
  · subst e9
    dsimp only at hF
    cases hF
    exact T
  subst e9
  dsimp only at hF
  refine A_iconst C (x := -1) dX0_itemBeginningAt_41 (by decide) (pc' := 42) rfl ?_
  cases hF
  exact A_iret C T (Nat.le_refl _) (Nat.le_refl _) dX0_itemBeginningAt_42
def L_X0_itemsOnDay_5 : Nat → Int32 → Int32 → Int32 → Int32 → Sg → Option (Int32)
  | 0, _, _, _, _, _ => none
  | fu + 1, b1, b2, b3, b4, s =>
    if (64 : Int32) ≤ b4 then
      some b3
    else
      (F_X5_lessonOf b4 s).bind fun q2 =>
      grd (ixb q2 16 = true) <|
      if (s 12 q2.toNatClampNeg) = b1 then
        (F_X0_isOnDay b4 b2 s).bind fun q8 =>
        if q8 = 0 then
          bnd (b4 + (1 : Int32)) fun x11 =>
          L_X0_itemsOnDay_5 fu b1 b2 b3 x11 s
        else
          bnd (b3 + (1 : Int32)) fun x13 =>
          bnd (b4 + (1 : Int32)) fun x15 =>
          L_X0_itemsOnDay_5 fu b1 b2 x13 x15 s
      else
        bnd (b4 + (1 : Int32)) fun x6 =>
        L_X0_itemsOnDay_5 fu b1 b2 b3 x6 s
def F_X0_itemsOnDay (a0 : Int32) (a1 : Int32) (s : Sg) : Option Int32 :=
  (L_X0_itemsOnDay_5 FU a0 a1 (0 : Int32) (0 : Int32) s).bind fun q17 =>
  some q17
set_option maxHeartbeats 4000000 in
set_option maxRecDepth 100000 in
theorem L_X0_itemsOnDay_5_ok {Γ : Cx} (hu : Un Γ.2.1) (eN : 5 = Γ.2.2.2.2.2) (C : Cok Γ cX0_itemsOnDay RX0 (some .int) 1 0 0) {o : Nat → Int64} : ∀ (fu : Nat) (b1 : Int32) (b2 : Int32) (b3 : Int32) (b4 : Int32) (s : Sg) (q : (Int32)), L_X0_itemsOnDay_5 fu b1 b2 b3 b4 s = some q → AW Γ (HP s o) 0 0 [none, none, none, some (.int q), none] [] 48 → AW Γ (HP s o) 0 0 [some (.ref 8), some (.int b1), some (.int b2), some (.int b3), some (.int b4)] [] 5 := by
  intro fu
  induction fu with
  | zero => intro b1 b2 b3 b4 s q hF; rw [L_X0_itemsOnDay_5] at hF; cases hF
  | succ fu ih =>
    intro b1 b2 b3 b4 s q hF hexit
    rw [L_X0_itemsOnDay_5] at hF
    refine A_iload C dX0_itemsOnDay_5 rfl (pc' := 7) rfl ?_
    refine A_bipush C (x := 64) dX0_itemsOnDay_7 (by decide) (pc' := 9) rfl ?_
    refine A_icmp_ge C dX0_itemsOnDay_9 (tgt := 48) (by decide) (pc' := 12) rfl (fun c1 => ?_) (fun c1 => ?_)
    · rw [if_pos c1] at hF
      cases hF
      refine A_mask [false, false, false, true, false] (lv' := [none, none, none, some (.int b3), none]) rfl ?_
      exact hexit
    · rw [if_neg c1] at hF
      refine A_aload_n C dX0_itemsOnDay_12 rfl (pc' := 13) rfl ?_
      refine A_get C (j := 5) cl_X0 rfl rfl lf_X0_12 dX0_itemsOnDay_13 (HPg_8 s o) rfl (pc' := 16) rfl ?_
      refine A_getN C (j := 2) cl_X3 rfl rfl lf_X0_69 dX0_itemsOnDay_16 (HPg_9 s o) rfl (pc' := 19) rfl ?_
      refine A_iload C dX0_itemsOnDay_19 rfl (pc' := 21) rfl ?_
      obtain ⟨q2, h3, hF⟩ := Option.bind_eq_some_iff.mp hF
      refine A_callSN C (av := [.int b4]) (rest := [.ref 12]) (st2 := [.int q2, .ref 12]) (k2 := 0) (n2 := 0) (F_X5_lessonOf_ok hu h3) mk_X5_lessonOf lm_X0_57 ws_X5_lessonOf rfl rfl rfl ⟨by decide, by decide⟩ (Nat.le_of_ble_eq_true rfl) rfl rfl dX0_itemsOnDay_21 rfl rfl rfl (pc' := 24) rfl ?_
      obtain ⟨h4, hF⟩ := grd_some hF
      refine A_iald C (HPg_12 s o) (ixb_in h4) dX0_itemsOnDay_24 (pc' := 25) rfl ?_
      refine A_iload_n C dX0_itemsOnDay_25 rfl (pc' := 26) rfl ?_
      refine A_icmp_ne C dX0_itemsOnDay_26 (tgt := 42) (by decide) (pc' := 29) rfl (fun c5 => ?_) (fun c5 => ?_)
      · rw [if_neg c5] at hF
        obtain ⟨x6, e7, hF⟩ := bnd_some hF
        refine A_iinc C (lv' := [some (.ref 8), some (.int b1), some (.int b2), some (.int b3), some (.int x6)]) dX0_itemsOnDay_42 rfl (by rw [e7]; rfl) rfl eN rfl rfl (pc' := 45) rfl ?_
        refine A_goto C dX0_itemsOnDay_45 (tgt := 5) (by decide) ?_
        refine A_mask [true, true, true, true, true] (lv' := [some (.ref 8), some (.int b1), some (.int b2), some (.int b3), some (.int x6)]) rfl ?_
        exact ih b1 b2 b3 x6 s q hF hexit
      · rw [if_pos c5] at hF
        refine A_aload_n C dX0_itemsOnDay_29 rfl (pc' := 30) rfl ?_
        refine A_iload C dX0_itemsOnDay_30 rfl (pc' := 32) rfl ?_
        refine A_iload_n C dX0_itemsOnDay_32 rfl (pc' := 33) rfl ?_
        obtain ⟨q8, h9, hF⟩ := Option.bind_eq_some_iff.mp hF
        refine A_callV C (av := [.int b4, .int b2]) (rest := []) (st2 := [.int q8]) (k2 := 0) (n2 := 0) (F_X0_isOnDay_ok hu h9) mk_X0_isOnDay lm_X0_105 wi_X0_isOnDay wv_X0_isOnDay (HPg_8 s o) rfl rfl rfl rfl ⟨by decide, by decide⟩ (Nat.le_of_ble_eq_true rfl) rfl rfl dX0_itemsOnDay_33 rfl rfl rfl (pc' := 36) rfl ?_
        refine A_if_eq C dX0_itemsOnDay_36 (tgt := 42) (by decide) (pc' := 39) rfl (fun c10 => ?_) (fun c10 => ?_)
        · rw [if_pos c10] at hF
          obtain ⟨x11, e12, hF⟩ := bnd_some hF
          refine A_iinc C (lv' := [some (.ref 8), some (.int b1), some (.int b2), some (.int b3), some (.int x11)]) dX0_itemsOnDay_42 rfl (by rw [e12]; rfl) rfl eN rfl rfl (pc' := 45) rfl ?_
          refine A_goto C dX0_itemsOnDay_45 (tgt := 5) (by decide) ?_
          refine A_mask [true, true, true, true, true] (lv' := [some (.ref 8), some (.int b1), some (.int b2), some (.int b3), some (.int x11)]) rfl ?_
          exact ih b1 b2 b3 x11 s q hF hexit
        · rw [if_neg c10] at hF
          obtain ⟨x13, e14, hF⟩ := bnd_some hF
          refine A_iinc C (lv' := [some (.ref 8), some (.int b1), some (.int b2), some (.int x13), some (.int b4)]) dX0_itemsOnDay_39 rfl (by rw [e14]; rfl) rfl eN rfl rfl (pc' := 42) rfl ?_
          obtain ⟨x15, e16, hF⟩ := bnd_some hF
          refine A_iinc C (lv' := [some (.ref 8), some (.int b1), some (.int b2), some (.int x13), some (.int x15)]) dX0_itemsOnDay_42 rfl (by rw [e16]; rfl) rfl eN rfl rfl (pc' := 45) rfl ?_
          refine A_goto C dX0_itemsOnDay_45 (tgt := 5) (by decide) ?_
          refine A_mask [true, true, true, true, true] (lv' := [some (.ref 8), some (.int b1), some (.int b2), some (.int x13), some (.int x15)]) rfl ?_
          exact ih b1 b2 x13 x15 s q hF hexit
set_option maxHeartbeats 4000000 in
set_option maxRecDepth 100000 in
theorem F_X0_itemsOnDay_ok {u : Uv} (hu : Un u) {a0 a1 : Int32} {s : Sg} {o : Nat → Int64} {r : Int32} (hF : F_X0_itemsOnDay a0 a1 s = some r) : AM u (yX0_itemsOnDay, cX0_itemsOnDay, 5, (some .int)) 1 0 0 [.ref 8, .int a0, .int a1] (HP s o) (some (.int r)) (HP s o) := by
  refine AM.of hu (lv := [some (.ref 8), some (.int a0), some (.int a1), none, none]) (by decide) rfl (Nat.le_of_ble_eq_true rfl) rfl ?_
  intro Γ eu eN C T
  subst eu
  have C : Cok Γ cX0_itemsOnDay RX0 (some .int) 1 0 0 := C
  unfold F_X0_itemsOnDay at hF
  refine A_iconst C (x := 0) dX0_itemsOnDay_0 (by decide) (pc' := 1) rfl ?_
  refine A_istore_n C (lv' := [some (.ref 8), some (.int a0), some (.int a1), some (.int (0 : Int32)), none]) dX0_itemsOnDay_1 rfl eN rfl rfl (pc' := 2) rfl ?_
  refine A_iconst C (x := 0) dX0_itemsOnDay_2 (by decide) (pc' := 3) rfl ?_
  refine A_istore C (lv' := [some (.ref 8), some (.int a0), some (.int a1), some (.int (0 : Int32)), some (.int (0 : Int32))]) dX0_itemsOnDay_3 rfl eN rfl rfl (pc' := 5) rfl ?_
  obtain ⟨q17, h18, hF⟩ := Option.bind_eq_some_iff.mp hF
  refine A_mask [true, true, true, true, true] (lv' := [some (.ref 8), some (.int a0), some (.int a1), some (.int (0 : Int32)), some (.int (0 : Int32))]) rfl ?_
  refine L_X0_itemsOnDay_5_ok hu eN C FU a0 a1 (0 : Int32) (0 : Int32) s q17 h18 ?_
  refine A_iload_n C dX0_itemsOnDay_48 rfl (pc' := 49) rfl ?_
  cases hF
  exact A_iret C T (Nat.le_refl _) (Nat.le_refl _) dX0_itemsOnDay_49
def L_X4_collect_20 : Nat → Int32 → Int32 → Sg → Option (Sg)
  | 0, _, _, _ => none
  | fu + 1, b2, b3, s =>
    grd (ixb b2 16 = true) <|
    if (s 15 b2.toNatClampNeg) ≤ b3 then
      some s
    else
      (F_X5_itemOf b2 b3 s).bind fun q6 =>
      (F_X0_isPlaced q6 s).bind fun q8 =>
      if q8 = 0 then
        (F_X5_itemOf b2 b3 s).bind fun q13 =>
        grd (ixb (s 202 0) 64 = true) <|
        bnd (va_up s 2 (upd (s 2) (s 202 0).toNatClampNeg q13)) fun s16 =>
        bnd (va_up s16 202 (fun _ => ((s16 202 0) + (1 : Int32)))) fun s18 =>
        bnd (b3 + (1 : Int32)) fun x20 =>
        L_X4_collect_20 fu b2 x20 s18
      else
        bnd (b3 + (1 : Int32)) fun x11 =>
        L_X4_collect_20 fu b2 x11 s
def L_X4_collect_7 : Nat → Int32 → Sg → Option (Sg)
  | 0, _, _ => none
  | fu + 1, b2, s =>
    if (s 1007 0) ≤ b2 then
      some s
    else
      (L_X4_collect_20 FU b2 (0 : Int32) s).bind fun q22 =>
      bnd (b2 + (1 : Int32)) fun x24 =>
      L_X4_collect_7 fu x24 q22
def F_X4_collect (s : Sg) : Option Sg :=
  bnd (va_up s 202 (fun _ => (0 : Int32))) fun s1 =>
  (L_X4_collect_7 FU (0 : Int32) s1).bind fun q26 =>
  some q26
set_option maxHeartbeats 4000000 in
set_option maxRecDepth 100000 in
theorem L_X4_collect_20_ok {Γ : Cx} (hu : Un Γ.2.1) (eN : 4 = Γ.2.2.2.2.2) (C : Cok Γ cX4_collect RX4 none 1 0 0) {o : Nat → Int64} : ∀ (fu : Nat) (b2 : Int32) (b3 : Int32) (s : Sg) (q : (Sg)), L_X4_collect_20 fu b2 b3 s = some q → AW Γ (HP q o) 0 0 [some (.ref 1), some (.ref 8), some (.int b2), none] [] 75 → AW Γ (HP s o) 0 0 [some (.ref 1), some (.ref 8), some (.int b2), some (.int b3)] [] 20 := by
  intro fu
  induction fu with
  | zero => intro b2 b3 s q hF; rw [L_X4_collect_20] at hF; cases hF
  | succ fu ih =>
    intro b2 b3 s q hF hexit
    rw [L_X4_collect_20] at hF
    refine A_iload_n C dX4_collect_20 rfl (pc' := 21) rfl ?_
    refine A_aload_n C dX4_collect_21 rfl (pc' := 22) rfl ?_
    refine A_getN C (j := 5) cl_X0 rfl rfl lf_X4_50 dX4_collect_22 (HPg_8 s o) rfl (pc' := 25) rfl ?_
    refine A_getN C (j := 5) cl_X3 rfl rfl lf_X4_59 dX4_collect_25 (HPg_9 s o) rfl (pc' := 28) rfl ?_
    refine A_iload_n C dX4_collect_28 rfl (pc' := 29) rfl ?_
    obtain ⟨h4, hF⟩ := grd_some hF
    refine A_iald C (HPg_15 s o) (ixb_in h4) dX4_collect_29 (pc' := 30) rfl ?_
    refine A_icmp_ge C dX4_collect_30 (tgt := 75) (by decide) (pc' := 33) rfl (fun c5 => ?_) (fun c5 => ?_)
    · rw [if_pos c5] at hF
      cases hF
      refine A_mask [true, true, true, false] (lv' := [some (.ref 1), some (.ref 8), some (.int b2), none]) rfl ?_
      exact hexit
    · rw [if_neg c5] at hF
      refine A_aload_n C dX4_collect_33 rfl (pc' := 34) rfl ?_
      refine A_iload_n C dX4_collect_34 rfl (pc' := 35) rfl ?_
      refine A_iload_n C dX4_collect_35 rfl (pc' := 36) rfl ?_
      obtain ⟨q6, h7, hF⟩ := Option.bind_eq_some_iff.mp hF
      refine A_callSN C (av := [.int b2, .int b3]) (rest := [.ref 8]) (st2 := [.int q6, .ref 8]) (k2 := 0) (n2 := 0) (F_X5_itemOf_ok hu h7) mk_X5_itemOf lm_X4_62 ws_X5_itemOf rfl rfl rfl ⟨by decide, by decide⟩ (Nat.le_of_ble_eq_true rfl) rfl rfl dX4_collect_36 rfl rfl rfl (pc' := 39) rfl ?_
      obtain ⟨q8, h9, hF⟩ := Option.bind_eq_some_iff.mp hF
      refine A_callVN C (av := [.int q6]) (rest := []) (st2 := [.int q8]) (k2 := 0) (n2 := 0) (F_X0_isPlaced_ok hu h9) mk_X0_isPlaced lm_X4_66 wi_X0_isPlaced wv_X0_isPlaced (HPg_8 s o) rfl rfl rfl rfl ⟨by decide, by decide⟩ (Nat.le_of_ble_eq_true rfl) rfl rfl dX4_collect_39 rfl rfl rfl (pc' := 42) rfl ?_
      refine A_if_ne C dX4_collect_42 (tgt := 69) (by decide) (pc' := 45) rfl (fun c10 => ?_) (fun c10 => ?_)
      · rw [if_neg c10] at hF
        obtain ⟨x11, e12, hF⟩ := bnd_some hF
        refine A_iinc C (lv' := [some (.ref 1), some (.ref 8), some (.int b2), some (.int x11)]) dX4_collect_69 rfl (by rw [e12]; rfl) rfl eN rfl rfl (pc' := 72) rfl ?_
        refine A_goto C dX4_collect_72 (tgt := 20) (by decide) ?_
        refine A_mask [true, true, true, true] (lv' := [some (.ref 1), some (.ref 8), some (.int b2), some (.int x11)]) rfl ?_
        exact ih b2 x11 s q hF hexit
      · rw [if_pos c10] at hF
        refine A_aload_n C dX4_collect_45 rfl (pc' := 46) rfl ?_
        refine A_get C (j := 0) cl_X4 rfl rfl lf_X4_9 dX4_collect_46 (HPg_1 s o) rfl (pc' := 49) rfl ?_
        refine A_aload_n C dX4_collect_49 rfl (pc' := 50) rfl ?_
        refine A_get C (j := 2) cl_X4 rfl rfl lf_X4_31 dX4_collect_50 (HPg_1 s o) rfl (pc' := 53) rfl ?_
        refine A_iload_n C dX4_collect_53 rfl (pc' := 54) rfl ?_
        refine A_iload_n C dX4_collect_54 rfl (pc' := 55) rfl ?_
        obtain ⟨q13, h14, hF⟩ := Option.bind_eq_some_iff.mp hF
        refine A_callSN C (av := [.int b2, .int b3]) (rest := [.int (s 202 0), .ref 2]) (st2 := [.int q13, .int (s 202 0), .ref 2]) (k2 := 0) (n2 := 0) (F_X5_itemOf_ok hu h14) mk_X5_itemOf lm_X4_62 ws_X5_itemOf rfl rfl rfl ⟨by decide, by decide⟩ (Nat.le_of_ble_eq_true rfl) rfl rfl dX4_collect_55 rfl rfl rfl (pc' := 58) rfl ?_
        obtain ⟨h15, hF⟩ := grd_some hF
        obtain ⟨s16, e17, hF⟩ := bnd_some hF
        refine A_iast C (h1 := HP s16 o) (HPg_2 s o) (ixb_in h15) (by rw [e17]; exact HPs_2 s o _) dX4_collect_58 (pc' := 59) rfl ?_
        refine A_aload_n C dX4_collect_59 rfl (pc' := 60) rfl ?_
        refine A_dup C dX4_collect_60 rfl (pc' := 61) rfl ?_
        refine A_get C (j := 2) cl_X4 rfl rfl lf_X4_31 dX4_collect_61 (HPg_1 s16 o) rfl (pc' := 64) rfl ?_
        refine A_iconst C (x := 1) dX4_collect_64 (by decide) (pc' := 65) rfl ?_
        refine A_iadd C dX4_collect_65 (pc' := 66) rfl ?_
        obtain ⟨s18, e19, hF⟩ := bnd_some hF
        refine A_put C (j := 2) (h1 := HP s18 o) tyX4 tyX4_ok nmX4 cl_X4 rfl rfl lf_X4_31 rfl (tyX4_ok 2 (by decide)) (fun _ => rfl) (fun _ => rfl) rfl dX4_collect_66 (HPg_1 s16 o) (by rw [e19]; exact HPp_1_2 s16 o _) (pc' := 69) rfl ?_
        obtain ⟨x20, e21, hF⟩ := bnd_some hF
        refine A_iinc C (lv' := [some (.ref 1), some (.ref 8), some (.int b2), some (.int x20)]) dX4_collect_69 rfl (by rw [e21]; rfl) rfl eN rfl rfl (pc' := 72) rfl ?_
        refine A_goto C dX4_collect_72 (tgt := 20) (by decide) ?_
        refine A_mask [true, true, true, true] (lv' := [some (.ref 1), some (.ref 8), some (.int b2), some (.int x20)]) rfl ?_
        exact ih b2 x20 s18 q hF hexit
set_option maxHeartbeats 4000000 in
set_option maxRecDepth 100000 in
theorem L_X4_collect_7_ok {Γ : Cx} (hu : Un Γ.2.1) (eN : 4 = Γ.2.2.2.2.2) (C : Cok Γ cX4_collect RX4 none 1 0 0) {o : Nat → Int64} : ∀ (fu : Nat) (b2 : Int32) (s : Sg) (q : (Sg)), L_X4_collect_7 fu b2 s = some q → AW Γ (HP q o) 0 0 [none, none, none, none] [] 81 → AW Γ (HP s o) 0 0 [some (.ref 1), some (.ref 8), some (.int b2), none] [] 7 := by
  intro fu
  induction fu with
  | zero => intro b2 s q hF; rw [L_X4_collect_7] at hF; cases hF
  | succ fu ih =>
    intro b2 s q hF hexit
    rw [L_X4_collect_7] at hF
    refine A_iload_n C dX4_collect_7 rfl (pc' := 8) rfl ?_
    refine A_aload_n C dX4_collect_8 rfl (pc' := 9) rfl ?_
    refine A_getN C (j := 5) cl_X0 rfl rfl lf_X4_50 dX4_collect_9 (HPg_8 s o) rfl (pc' := 12) rfl ?_
    refine A_getN C (j := 7) cl_X3 rfl rfl lf_X4_54 dX4_collect_12 (HPg_9 s o) rfl (pc' := 15) rfl ?_
    refine A_icmp_ge C dX4_collect_15 (tgt := 81) (by decide) (pc' := 18) rfl (fun c3 => ?_) (fun c3 => ?_)
    · rw [if_pos c3] at hF
      cases hF
      refine A_mask [false, false, false, false] (lv' := [none, none, none, none]) rfl ?_
      exact hexit
    · rw [if_neg c3] at hF
      refine A_iconst C (x := 0) dX4_collect_18 (by decide) (pc' := 19) rfl ?_
      refine A_istore_n C (lv' := [some (.ref 1), some (.ref 8), some (.int b2), some (.int (0 : Int32))]) dX4_collect_19 rfl eN rfl rfl (pc' := 20) rfl ?_
      obtain ⟨q22, h23, hF⟩ := Option.bind_eq_some_iff.mp hF
      refine A_mask [true, true, true, true] (lv' := [some (.ref 1), some (.ref 8), some (.int b2), some (.int (0 : Int32))]) rfl ?_
      refine L_X4_collect_20_ok hu eN C FU b2 (0 : Int32) s q22 h23 ?_
      obtain ⟨x24, e25, hF⟩ := bnd_some hF
      refine A_iinc C (lv' := [some (.ref 1), some (.ref 8), some (.int x24), none]) dX4_collect_75 rfl (by rw [e25]; rfl) rfl eN rfl rfl (pc' := 78) rfl ?_
      refine A_goto C dX4_collect_78 (tgt := 7) (by decide) ?_
      refine A_mask [true, true, true, false] (lv' := [some (.ref 1), some (.ref 8), some (.int x24), none]) rfl ?_
      exact ih x24 q22 q hF hexit
set_option maxHeartbeats 4000000 in
set_option maxRecDepth 100000 in
theorem F_X4_collect_ok {u : Uv} (hu : Un u) {s : Sg} {o : Nat → Int64} {r : Sg} (hF : F_X4_collect  s = some r) : AM u (yX4_collect, cX4_collect, 4, none) 1 0 0 [.ref 1, .ref 8] (HP s o) none (HP r o) := by
  refine AM.of hu (lv := [some (.ref 1), some (.ref 8), none, none]) (by decide) rfl (Nat.le_of_ble_eq_true rfl) rfl ?_
  intro Γ eu eN C T
  subst eu
  have C : Cok Γ cX4_collect RX4 none 1 0 0 := C
  unfold F_X4_collect at hF
  refine A_aload_n C dX4_collect_0 rfl (pc' := 1) rfl ?_
  refine A_iconst C (x := 0) dX4_collect_1 (by decide) (pc' := 2) rfl ?_
  obtain ⟨s1, e2, hF⟩ := bnd_some hF
  refine A_put C (j := 2) (h1 := HP s1 o) tyX4 tyX4_ok nmX4 cl_X4 rfl rfl lf_X4_31 rfl (tyX4_ok 2 (by decide)) (fun _ => rfl) (fun _ => rfl) rfl dX4_collect_2 (HPg_1 s o) (by rw [e2]; exact HPp_1_2 s o _) (pc' := 5) rfl ?_
  refine A_iconst C (x := 0) dX4_collect_5 (by decide) (pc' := 6) rfl ?_
  refine A_istore_n C (lv' := [some (.ref 1), some (.ref 8), some (.int (0 : Int32)), none]) dX4_collect_6 rfl eN rfl rfl (pc' := 7) rfl ?_
  obtain ⟨q26, h27, hF⟩ := Option.bind_eq_some_iff.mp hF
  refine A_mask [true, true, true, false] (lv' := [some (.ref 1), some (.ref 8), some (.int (0 : Int32)), none]) rfl ?_
  refine L_X4_collect_7_ok hu eN C FU (0 : Int32) s1 q26 h27 ?_
  cases hF
  exact A_vret C T (Nat.le_refl _) (Nat.le_refl _) dX4_collect_81
