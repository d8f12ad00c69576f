def F_X6_page (a0 : Int32) (a1 : Int32) (a2 : Int32) (s : Sg) : Option (Int32 × Sg) :=
  jn (fun (y1 : Int32) (y2 : Int32) (s3 : Sg) => (F_X6_throwing y1 y2 s3).bind fun q4 =>
      if q4.1 = 0 then
        grd (¬ ((q4.2 2202 0) + (1 : Int32)) = 0) <|
        bnd (a2 - a2 / ((q4.2 2202 0) + (1 : Int32)) * ((q4.2 2202 0) + (1 : Int32))) fun x8 =>
        if x8 = (q4.2 2202 0) then
          some ((10 : Int32), q4.2)
        else
          grd (¬ ((q4.2 2202 0) + (1 : Int32)) = 0) <|
          (F_X6_itemAt a0 a1 (((a2 / ((q4.2 2202 0) + (1 : Int32))) * (q4.2 2202 0)) + x8) q4.2).bind fun q12 =>
          if 0 ≤ q12 then
            (F_X6_lessonOf q12 q4.2).bind fun q15 =>
            grd (ixb q15 16 = true) <|
            some ((q4.2 29 q15.toNatClampNeg), q4.2)
          else
            some ((46 : Int32), q4.2)
      else
        some ((0 : Int32), q4.2)) fun J69 =>
  jn (fun (y18 : Int32) (s19 : Sg) => if y18 = 0 then
        (F_X6_in a2 (0 : Int32) (((s19 2201 0) * ((s19 2202 0) + (1 : Int32))) - (1 : Int32)) s19).bind fun q21 =>
        if q21 = 0 then
          J69 y18 (1 : Int32) s19
        else
          J69 y18 (0 : Int32) s19
      else
        J69 y18 (0 : Int32) s19) fun J33 =>
  (F_X6_in a0 (0 : Int32) (2 : Int32) s).bind fun q24 =>
  if q24 = 0 then
    J33 (1 : Int32) s
  else
    if a0 = (2 : Int32) then
      (F_X6_in a1 (0 : Int32) (5 : Int32) s).bind fun q31 =>
      if q31 = 0 then
        J33 (1 : Int32) s
      else
        J33 (0 : Int32) s
    else
      (F_X6_in a1 (0 : Int32) (7 : Int32) s).bind fun q28 =>
      if q28 = 0 then
        J33 (1 : Int32) s
      else
        J33 (0 : Int32) s
set_option maxHeartbeats 4000000 in
set_option maxRecDepth 100000 in
theorem F_X6_page_ok {u : Uv} (hu : Un u) {a0 a1 a2 : Int32} {s : Sg} {o : Nat → Int64} {r : (Int32 × Sg)} (hF : F_X6_page a0 a1 a2 s = some r) : AM u (yX6_page, cX6_page, 7, (some .int)) 3 0 0 [.ref 21, .int a0, .int a1, .int a2] (HP s o) (some (.int r.1)) (HP r.2 o) := by
  refine AM.of hu (lv := [some (.ref 21), some (.int a0), some (.int a1), some (.int a2), none, none, none]) (by decide) rfl (Nat.le_of_ble_eq_true rfl) rfl ?_
  intro Γ eu eN C T
  subst eu
  have C : Cok Γ cX6_page RX6 (some .int) 3 0 0 := C
  unfold F_X6_page at hF
  obtain ⟨J69, eJ69, hF⟩ := jn_some hF
  have hJ69 : ∀ (y1 : Int32) (y2 : Int32) (s3 : Sg), J69 y1 y2 s3 = some r → AW Γ (HP s3 o) 0 0 [some (.ref 21), some (.int a0), some (.int a1), some (.int a2), none, none, none] [.int y2, .int y1, .ref 21] 69 := by
    intro y1 y2 s3 hF
    rw [eJ69] at hF
    dsimp only at hF
    obtain ⟨q4, h5, hF⟩ := Option.bind_eq_some_iff.mp hF
    refine A_callV C (av := [.int y1, .int y2]) (rest := []) (st2 := [.int q4.1]) (k2 := 0) (n2 := 0) (F_X6_throwing_ok hu h5) mk_X6_throwing lm_X6_90 wi_X6_throwing wv_X6_throwing (HPg_21 s3 o) rfl rfl rfl rfl ⟨by decide, by decide⟩ (Nat.le_of_ble_eq_true rfl) rfl rfl dX6_page_69 rfl rfl rfl (pc' := 72) rfl ?_
    refine A_if_eq C dX6_page_72 (tgt := 77) (by decide) (pc' := 75) rfl (fun c6 => ?_) (fun c6 => ?_)
    · rw [if_pos c6] at hF
      refine A_iload_n C dX6_page_77 rfl (pc' := 78) rfl ?_
      refine A_aload_n C dX6_page_78 rfl (pc' := 79) rfl ?_
      refine A_get C (j := 2) cl_X6 rfl rfl lf_X6_66 dX6_page_79 (HPg_21 q4.2 o) rfl (pc' := 82) rfl ?_
      refine A_iconst C (x := 1) dX6_page_82 (by decide) (pc' := 83) rfl ?_
      refine A_iadd C dX6_page_83 (pc' := 84) rfl ?_
      obtain ⟨h7, hF⟩ := grd_some hF
      refine A_irem C dX6_page_84 h7 (pc' := 85) rfl ?_
      obtain ⟨x8, e9, hF⟩ := bnd_some hF
      refine A_topi e9 ?_
      refine A_istore C (lv' := [some (.ref 21), some (.int a0), some (.int a1), some (.int a2), none, some (.int x8), none]) dX6_page_85 rfl eN rfl rfl (pc' := 87) rfl ?_
      refine A_iload C dX6_page_87 rfl (pc' := 89) rfl ?_
      refine A_aload_n C dX6_page_89 rfl (pc' := 90) rfl ?_
      refine A_get C (j := 2) cl_X6 rfl rfl lf_X6_66 dX6_page_90 (HPg_21 q4.2 o) rfl (pc' := 93) rfl ?_
      refine A_icmp_ne C dX6_page_93 (tgt := 99) (by decide) (pc' := 96) rfl (fun c10 => ?_) (fun c10 => ?_)
      · rw [if_neg c10] at hF
        refine A_aload_n C dX6_page_99 rfl (pc' := 100) rfl ?_
        refine A_iload_n C dX6_page_100 rfl (pc' := 101) rfl ?_
        refine A_iload_n C dX6_page_101 rfl (pc' := 102) rfl ?_
        refine A_iload_n C dX6_page_102 rfl (pc' := 103) rfl ?_
        refine A_aload_n C dX6_page_103 rfl (pc' := 104) rfl ?_
        refine A_get C (j := 2) cl_X6 rfl rfl lf_X6_66 dX6_page_104 (HPg_21 q4.2 o) rfl (pc' := 107) rfl ?_
        refine A_iconst C (x := 1) dX6_page_107 (by decide) (pc' := 108) rfl ?_
        refine A_iadd C dX6_page_108 (pc' := 109) rfl ?_
        obtain ⟨h11, hF⟩ := grd_some hF
        refine A_idiv C dX6_page_109 h11 (pc' := 110) rfl ?_
        refine A_aload_n C dX6_page_110 rfl (pc' := 111) rfl ?_
        refine A_get C (j := 2) cl_X6 rfl rfl lf_X6_66 dX6_page_111 (HPg_21 q4.2 o) rfl (pc' := 114) rfl ?_
        refine A_imul C dX6_page_114 (pc' := 115) rfl ?_
        refine A_iload C dX6_page_115 rfl (pc' := 117) rfl ?_
        refine A_iadd C dX6_page_117 (pc' := 118) rfl ?_
        obtain ⟨q12, h13, hF⟩ := Option.bind_eq_some_iff.mp hF
        refine A_callV C (av := [.int a0, .int a1, .int (((a2 / ((q4.2 2202 0) + (1 : Int32))) * (q4.2 2202 0)) + x8)]) (rest := []) (st2 := [.int q12]) (k2 := 0) (n2 := 0) (F_X6_itemAt_ok hu h13) mk_X6_itemAt lm_X6_98 wi_X6_itemAt wv_X6_itemAt (HPg_21 q4.2 o) rfl rfl rfl rfl ⟨by decide, by decide⟩ (Nat.le_of_ble_eq_true rfl) rfl rfl dX6_page_118 rfl rfl rfl (pc' := 121) rfl ?_
        refine A_istore C (lv' := [some (.ref 21), some (.int a0), some (.int a1), some (.int a2), none, some (.int x8), some (.int q12)]) dX6_page_121 rfl eN rfl rfl (pc' := 123) rfl ?_
        refine A_iload C dX6_page_123 rfl (pc' := 125) rfl ?_
        refine A_if_ge C dX6_page_125 (tgt := 133) (by decide) (pc' := 128) rfl (fun c14 => ?_) (fun c14 => ?_)
        · rw [if_pos c14] at hF
          refine A_aload_n C dX6_page_133 rfl (pc' := 134) rfl ?_
          refine A_get C (j := 11) cl_X6 rfl rfl lf_X6_31 dX6_page_134 (HPg_21 q4.2 o) rfl (pc' := 137) rfl ?_
          refine A_iload C dX6_page_137 rfl (pc' := 139) rfl ?_
          obtain ⟨q15, h16, hF⟩ := Option.bind_eq_some_iff.mp hF
          refine A_callS C (av := [.int q12]) (rest := [.ref 29]) (st2 := [.int q15, .ref 29]) (k2 := 0) (n2 := 0) (F_X6_lessonOf_ok hu h16) mk_X6_lessonOf lm_X6_79 ws_X6_lessonOf rfl rfl rfl ⟨by decide, by decide⟩ (Nat.le_of_ble_eq_true rfl) rfl rfl dX6_page_139 rfl rfl rfl (pc' := 142) rfl ?_
          obtain ⟨h17, hF⟩ := grd_some hF
          refine A_iald C (HPg_29 q4.2 o) (ixb_in h17) dX6_page_142 (pc' := 143) rfl ?_
          cases hF
          exact A_iret C T (Nat.le_refl _) (Nat.le_refl _) dX6_page_143
        · rw [if_neg c14] at hF
          refine A_bipush C (x := 46) dX6_page_128 (by decide) (pc' := 130) rfl ?_
          refine A_goto C dX6_page_130 (tgt := 143) (by decide) ?_
          cases hF
          exact A_iret C T (Nat.le_refl _) (Nat.le_refl _) dX6_page_143
      · rw [if_pos c10] at hF
        refine A_bipush C (x := 10) dX6_page_96 (by decide) (pc' := 98) rfl ?_
        cases hF
        exact A_iret C T (Nat.le_refl _) (Nat.le_refl _) dX6_page_98
    · rw [if_neg c6] at hF
      refine A_iconst C (x := 0) dX6_page_75 (by decide) (pc' := 76) rfl ?_
      cases hF
      exact A_iret C T (Nat.le_refl _) (Nat.le_refl _) dX6_page_76
  clear eJ69
  obtain ⟨J33, eJ33, hF⟩ := jn_some hF
  have hJ33 : ∀ (y18 : Int32) (s19 : Sg), J33 y18 s19 = some r → AW Γ (HP s19 o) 0 0 [some (.ref 21), some (.int a0), some (.int a1), some (.int a2), none, none, none] [.int y18] 33 := by
    intro y18 s19 hF
    rw [eJ33] at hF
    dsimp only at hF
    refine A_istore C (lv' := [some (.ref 21), some (.int a0), some (.int a1), some (.int a2), some (.int y18), none, none]) dX6_page_33 rfl eN rfl rfl (pc' := 35) rfl ?_
    refine A_aload_n C dX6_page_35 rfl (pc' := 36) rfl ?_
    refine A_iload C dX6_page_36 rfl (pc' := 38) rfl ?_
    refine A_iload C dX6_page_38 rfl (pc' := 40) rfl ?_
    refine A_if_ne C dX6_page_40 (tgt := 68) (by decide) (pc' := 43) rfl (fun c20 => ?_) (fun c20 => ?_)
    · rw [if_neg c20] at hF
      refine A_iconst C (x := 0) dX6_page_68 (by decide) (pc' := 69) rfl ?_
      refine A_mask [true, true, true, true, false, false, false] (lv' := [some (.ref 21), some (.int a0), some (.int a1), some (.int a2), none, none, none]) rfl ?_
      exact hJ69 y18 (0 : Int32) s19 hF
    · rw [if_pos c20] at hF
      refine A_iload_n C dX6_page_43 rfl (pc' := 44) rfl ?_
      refine A_iconst C (x := 0) dX6_page_44 (by decide) (pc' := 45) rfl ?_
      refine A_aload_n C dX6_page_45 rfl (pc' := 46) rfl ?_
      refine A_get C (j := 1) cl_X6 rfl rfl lf_X6_62 dX6_page_46 (HPg_21 s19 o) rfl (pc' := 49) rfl ?_
      refine A_aload_n C dX6_page_49 rfl (pc' := 50) rfl ?_
      refine A_get C (j := 2) cl_X6 rfl rfl lf_X6_66 dX6_page_50 (HPg_21 s19 o) rfl (pc' := 53) rfl ?_
      refine A_iconst C (x := 1) dX6_page_53 (by decide) (pc' := 54) rfl ?_
      refine A_iadd C dX6_page_54 (pc' := 55) rfl ?_
      refine A_imul C dX6_page_55 (pc' := 56) rfl ?_
      refine A_iconst C (x := 1) dX6_page_56 (by decide) (pc' := 57) rfl ?_
      refine A_isub C dX6_page_57 (pc' := 58) rfl ?_
      obtain ⟨q21, h22, hF⟩ := Option.bind_eq_some_iff.mp hF
      refine A_callS C (av := [.int a2, .int (0 : Int32), .int (((s19 2201 0) * ((s19 2202 0) + (1 : Int32))) - (1 : Int32))]) (rest := [.int y18, .ref 21]) (st2 := [.int q21, .int y18, .ref 21]) (k2 := 0) (n2 := 0) (F_X6_in_ok hu h22) mk_X6_in lm_X6_72 ws_X6_in rfl rfl rfl ⟨by decide, by decide⟩ (Nat.le_of_ble_eq_true rfl) rfl rfl dX6_page_58 rfl rfl rfl (pc' := 61) rfl ?_
      refine A_if_ne C dX6_page_61 (tgt := 68) (by decide) (pc' := 64) rfl (fun c23 => ?_) (fun c23 => ?_)
      · rw [if_neg c23] at hF
        refine A_iconst C (x := 0) dX6_page_68 (by decide) (pc' := 69) rfl ?_
        refine A_mask [true, true, true, true, false, false, false] (lv' := [some (.ref 21), some (.int a0), some (.int a1), some (.int a2), none, none, none]) rfl ?_
        exact hJ69 y18 (0 : Int32) s19 hF
      · rw [if_pos c23] at hF
        refine A_iconst C (x := 1) dX6_page_64 (by decide) (pc' := 65) rfl ?_
        refine A_goto C dX6_page_65 (tgt := 69) (by decide) ?_
        refine A_mask [true, true, true, true, false, false, false] (lv' := [some (.ref 21), some (.int a0), some (.int a1), some (.int a2), none, none, none]) rfl ?_
        exact hJ69 y18 (1 : Int32) s19 hF
  clear eJ33
  refine A_iload_n C dX6_page_0 rfl (pc' := 1) rfl ?_
  refine A_iconst C (x := 0) dX6_page_1 (by decide) (pc' := 2) rfl ?_
  refine A_iconst C (x := 2) dX6_page_2 (by decide) (pc' := 3) rfl ?_
  obtain ⟨q24, h25, hF⟩ := Option.bind_eq_some_iff.mp hF
  refine A_callS C (av := [.int a0, .int (0 : Int32), .int (2 : Int32)]) (rest := []) (st2 := [.int q24]) (k2 := 0) (n2 := 0) (F_X6_in_ok hu h25) mk_X6_in lm_X6_72 ws_X6_in rfl rfl rfl ⟨by decide, by decide⟩ (Nat.le_of_ble_eq_true rfl) rfl rfl dX6_page_3 rfl rfl rfl (pc' := 6) rfl ?_
  refine A_if_eq C dX6_page_6 (tgt := 28) (by decide) (pc' := 9) rfl (fun c26 => ?_) (fun c26 => ?_)
  · rw [if_pos c26] at hF
    refine A_iconst C (x := 1) dX6_page_28 (by decide) (pc' := 29) rfl ?_
    refine A_goto C dX6_page_29 (tgt := 33) (by decide) ?_
    refine A_mask [true, true, true, true, false, false, false] (lv' := [some (.ref 21), some (.int a0), some (.int a1), some (.int a2), none, none, none]) rfl ?_
    exact hJ33 (1 : Int32) s hF
  · rw [if_neg c26] at hF
    refine A_iload_n C dX6_page_9 rfl (pc' := 10) rfl ?_
    refine A_iconst C (x := 0) dX6_page_10 (by decide) (pc' := 11) rfl ?_
    refine A_iload_n C dX6_page_11 rfl (pc' := 12) rfl ?_
    refine A_iconst C (x := 2) dX6_page_12 (by decide) (pc' := 13) rfl ?_
    refine A_icmp_ne C dX6_page_13 (tgt := 20) (by decide) (pc' := 16) rfl (fun c27 => ?_) (fun c27 => ?_)
    · rw [if_neg c27] at hF
      refine A_bipush C (x := 7) dX6_page_20 (by decide) (pc' := 22) rfl ?_
      obtain ⟨q28, h29, hF⟩ := Option.bind_eq_some_iff.mp hF
      refine A_callS C (av := [.int a1, .int (0 : Int32), .int (7 : Int32)]) (rest := []) (st2 := [.int q28]) (k2 := 0) (n2 := 0) (F_X6_in_ok hu h29) mk_X6_in lm_X6_72 ws_X6_in rfl rfl rfl ⟨by decide, by decide⟩ (Nat.le_of_ble_eq_true rfl) rfl rfl dX6_page_22 rfl rfl rfl (pc' := 25) rfl ?_
      refine A_if_ne C dX6_page_25 (tgt := 32) (by decide) (pc' := 28) rfl (fun c30 => ?_) (fun c30 => ?_)
      · rw [if_neg c30] at hF
        refine A_iconst C (x := 0) dX6_page_32 (by decide) (pc' := 33) rfl ?_
        refine A_mask [true, true, true, true, false, false, false] (lv' := [some (.ref 21), some (.int a0), some (.int a1), some (.int a2), none, none, none]) rfl ?_
        exact hJ33 (0 : Int32) s hF
      · rw [if_pos c30] at hF
        refine A_iconst C (x := 1) dX6_page_28 (by decide) (pc' := 29) rfl ?_
        refine A_goto C dX6_page_29 (tgt := 33) (by decide) ?_
        refine A_mask [true, true, true, true, false, false, false] (lv' := [some (.ref 21), some (.int a0), some (.int a1), some (.int a2), none, none, none]) rfl ?_
        exact hJ33 (1 : Int32) s hF
    · rw [if_pos c27] at hF
      refine A_iconst C (x := 5) dX6_page_16 (by decide) (pc' := 17) rfl ?_
      refine A_goto C dX6_page_17 (tgt := 22) (by decide) ?_
      obtain ⟨q31, h32, hF⟩ := Option.bind_eq_some_iff.mp hF
      refine A_callS C (av := [.int a1, .int (0 : Int32), .int (5 : Int32)]) (rest := []) (st2 := [.int q31]) (k2 := 0) (n2 := 0) (F_X6_in_ok hu h32) mk_X6_in lm_X6_72 ws_X6_in rfl rfl rfl ⟨by decide, by decide⟩ (Nat.le_of_ble_eq_true rfl) rfl rfl dX6_page_22 rfl rfl rfl (pc' := 25) rfl ?_
      refine A_if_ne C dX6_page_25 (tgt := 32) (by decide) (pc' := 28) rfl (fun c33 => ?_) (fun c33 => ?_)
      · rw [if_neg c33] at hF
        refine A_iconst C (x := 0) dX6_page_32 (by decide) (pc' := 33) rfl ?_
        refine A_mask [true, true, true, true, false, false, false] (lv' := [some (.ref 21), some (.int a0), some (.int a1), some (.int a2), none, none, none]) rfl ?_
        exact hJ33 (0 : Int32) s hF
      · rw [if_pos c33] at hF
        refine A_iconst C (x := 1) dX6_page_28 (by decide) (pc' := 29) rfl ?_
        refine A_goto C dX6_page_29 (tgt := 33) (by decide) ?_
        refine A_mask [true, true, true, true, false, false, false] (lv' := [some (.ref 21), some (.int a0), some (.int a1), some (.int a2), none, none, none]) rfl ?_
        exact hJ33 (1 : Int32) s hF
