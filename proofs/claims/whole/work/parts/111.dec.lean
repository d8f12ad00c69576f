def F_X5_substitute (a0 : Int32) (s : Sg) : Option (Int32 ⊕ Nat) :=
  (F_X5_isWithin a0 (0 : Int32) ((s 501 0) - (1 : Int32)) s).bind fun q1 =>
  if q1 = 0 then
    some (.inr 3)
  else
    grd (ixb a0 6 = true) <|
    some (.inl (s 5 a0.toNatClampNeg))
set_option maxHeartbeats 4000000 in
set_option maxRecDepth 100000 in
theorem F_X5_substitute_ok {u : Uv} (hu : Un u) {a0 : Int32} {s : Sg} {o : Nat → Int64} {r : (Int32 ⊕ Nat)} (hF : F_X5_substitute a0 s = some r) : AX u (yX5_substitute, cX5_substitute, 2, (some .int)) 6 [.ref 0, .int a0] (HP s o) (xr (fun q => (some (.int q), HP s o)) r) := by
  refine AX.of hu (lv := [some (.ref 0), some (.int a0)]) (by decide) rfl (Nat.le_of_ble_eq_true rfl) rfl ?_
  intro Γ eu eN C X T
  subst eu
  have C : Cok Γ cX5_substitute RX5 (some .int) 6 1 6 := C
  unfold F_X5_substitute at hF
  refine A_iload_n C dX5_substitute_0 rfl (pc' := 1) rfl ?_
  refine A_iconst C (x := 0) dX5_substitute_1 (by decide) (pc' := 2) rfl ?_
  refine A_aload_n C dX5_substitute_2 rfl (pc' := 3) rfl ?_
  refine A_get C (j := 2) cl_X5 rfl rfl lf_X5_19 dX5_substitute_3 (HPg_0 s o) rfl (pc' := 6) rfl ?_
  refine A_getN C (j := 1) cl_X1 rfl rfl lf_X5_177 dX5_substitute_6 (HPg_4 s o) rfl (pc' := 9) rfl ?_
  refine A_iconst C (x := 1) dX5_substitute_9 (by decide) (pc' := 10) rfl ?_
  refine A_isub C dX5_substitute_10 (pc' := 11) rfl ?_
  obtain ⟨q1, h2, hF⟩ := Option.bind_eq_some_iff.mp hF
  refine A_callS C (av := [.int a0, .int (0 : Int32), .int ((s 501 0) - (1 : Int32))]) (rest := []) (st2 := [.int q1]) (k2 := 0) (n2 := 0) (F_X5_isWithin_ok hu h2) mk_X5_isWithin lm_X5_32 ws_X5_isWithin rfl rfl rfl ⟨by decide, by decide⟩ (Nat.le_of_ble_eq_true rfl) rfl rfl dX5_substitute_11 rfl rfl rfl (pc' := 14) rfl ?_
  refine A_if_ne C dX5_substitute_14 (tgt := 27) (by decide) (pc' := 17) rfl (fun c3 => ?_) (fun c3 => ?_)
  · rw [if_neg c3] at hF
    refine A_aload_n C dX5_substitute_27 rfl (pc' := 28) rfl ?_
    refine A_get C (j := 2) cl_X5 rfl rfl lf_X5_19 dX5_substitute_28 (HPg_0 s o) rfl (pc' := 31) rfl ?_
    refine A_getN C (j := 0) cl_X1 rfl rfl lf_X5_181 dX5_substitute_31 (HPg_4 s o) rfl (pc' := 34) rfl ?_
    refine A_iload_n C dX5_substitute_34 rfl (pc' := 35) rfl ?_
    obtain ⟨h4, hF⟩ := grd_some hF
    refine A_iald C (HPg_5 s o) (ixb_in h4) dX5_substitute_35 (pc' := 36) rfl ?_
    cases hF
    exact A_iretX C T (Nat.zero_le _) (Nat.zero_le _) dX5_substitute_36
  · rw [if_pos c3] at hF
    cases hF
    exact A_throwS C X T tw_X5_178_180 sw_X5_131 (by decide) rfl dX5_substitute_17 dX5_substitute_20 dX5_substitute_21 dX5_substitute_23 dX5_substitute_26
def F_X5_undo (s : Sg) : Option ((Int32 × Sg) ⊕ Nat) :=
  if (s 702 0) = 0 then
    some (.inr 2)
  else
    (F_X2_takeBack  s).bind fun q2 =>
    (F_X0_markAllAgain  q2).bind fun q4 =>
    some (.inl ((q4 702 0), q4))
set_option maxHeartbeats 4000000 in
set_option maxRecDepth 100000 in
theorem F_X5_undo_ok {u : Uv} (hu : Un u) {s : Sg} {o : Nat → Int64} {r : ((Int32 × Sg) ⊕ Nat)} (hF : F_X5_undo  s = some r) : AX u (yX5_undo, cX5_undo, 1, (some .int)) 6 [.ref 0] (HP s o) (xr (fun q => (some (.int q.1), HP q.2 o)) r) := by
  refine AX.of hu (lv := [some (.ref 0)]) (by decide) rfl (Nat.le_of_ble_eq_true rfl) rfl ?_
  intro Γ eu eN C X T
  subst eu
  have C : Cok Γ cX5_undo RX5 (some .int) 6 1 6 := C
  unfold F_X5_undo at hF
  refine A_aload_n C dX5_undo_0 rfl (pc' := 1) rfl ?_
  refine A_get C (j := 3) cl_X5 rfl rfl lf_X5_26 dX5_undo_1 (HPg_0 s o) rfl (pc' := 4) rfl ?_
  refine A_getN C (j := 2) cl_X2 rfl rfl lf_X5_184 dX5_undo_4 (HPg_6 s o) rfl (pc' := 7) rfl ?_
  refine A_if_ne C dX5_undo_7 (tgt := 20) (by decide) (pc' := 10) rfl (fun c1 => ?_) (fun c1 => ?_)
  · rw [if_neg c1] at hF
    refine A_aload_n C dX5_undo_20 rfl (pc' := 21) rfl ?_
    refine A_get C (j := 3) cl_X5 rfl rfl lf_X5_26 dX5_undo_21 (HPg_0 s o) rfl (pc' := 24) rfl ?_
    refine A_aload_n C dX5_undo_24 rfl (pc' := 25) rfl ?_
    refine A_get C (j := 0) cl_X5 rfl rfl lf_X5_39 dX5_undo_25 (HPg_0 s o) rfl (pc' := 28) rfl ?_
    refine A_getN C (j := 9) cl_X0 rfl rfl lf_X5_118 dX5_undo_28 (HPg_8 s o) rfl (pc' := 31) rfl ?_
    obtain ⟨q2, h3, hF⟩ := Option.bind_eq_some_iff.mp hF
    refine A_callVN C (av := [.ref 20]) (rest := []) (st2 := []) (k2 := 0) (n2 := 0) (F_X2_takeBack_ok hu h3) mk_X2_takeBack lm_X5_187 wi_X2_takeBack wv_X2_takeBack (HPg_6 s o) rfl rfl rfl rfl ⟨by decide, by decide⟩ (Nat.le_of_ble_eq_true rfl) rfl rfl dX5_undo_31 rfl rfl rfl (pc' := 34) rfl ?_
    refine A_aload_n C dX5_undo_34 rfl (pc' := 35) rfl ?_
    refine A_get C (j := 0) cl_X5 rfl rfl lf_X5_39 dX5_undo_35 (HPg_0 q2 o) rfl (pc' := 38) rfl ?_
    obtain ⟨q4, h5, hF⟩ := Option.bind_eq_some_iff.mp hF
    refine A_callVN C (av := []) (rest := []) (st2 := []) (k2 := 0) (n2 := 0) (F_X0_markAllAgain_ok hu h5) mk_X0_markAllAgain lm_X5_190 wi_X0_markAllAgain wv_X0_markAllAgain (HPg_8 q2 o) rfl rfl rfl rfl ⟨by decide, by decide⟩ (Nat.le_of_ble_eq_true rfl) rfl rfl dX5_undo_38 rfl rfl rfl (pc' := 41) rfl ?_
    refine A_aload_n C dX5_undo_41 rfl (pc' := 42) rfl ?_
    refine A_get C (j := 3) cl_X5 rfl rfl lf_X5_26 dX5_undo_42 (HPg_0 q4 o) rfl (pc' := 45) rfl ?_
    refine A_getN C (j := 2) cl_X2 rfl rfl lf_X5_184 dX5_undo_45 (HPg_6 q4 o) rfl (pc' := 48) rfl ?_
    cases hF
    exact A_iretX C T (Nat.zero_le _) (Nat.zero_le _) dX5_undo_48
  · rw [if_pos c1] at hF
    cases hF
    exact A_throwS C X T tw_X5_54_58 sw_X5_185 (by decide) rfl dX5_undo_10 dX5_undo_13 dX5_undo_14 dX5_undo_16 dX5_undo_19
def F_X5_page (a0 : Int32) (a1 : Int32) (a2 : Int32) (s : Sg) : Option (Int32 ⊕ Nat) :=
  (F_X5_isUser a0 a1 s).bind fun q1 =>
  if q1 = 0 then
    some (.inr 1)
  else
    bnd ((s 901 0) + (1 : Int32)) fun x4 =>
    (F_X5_isWithin a2 (0 : Int32) (((s 900 0) * x4) - (1 : Int32)) s).bind fun q6 =>
    if q6 = 0 then
      some (.inr 3)
    else
      grd (¬ x4 = 0) <|
      bnd (a2 - a2 / x4 * x4) fun x10 =>
      if x10 = (s 901 0) then
        some (.inl (10 : Int32))
      else
        (F_X5_userOf a0 a1 s).bind fun q13 =>
        grd (¬ x4 = 0) <|
        (F_X0_letterAt q13 (((a2 / x4) * (s 901 0)) + x10) s).bind fun q16 =>
        some (.inl q16)
set_option maxHeartbeats 4000000 in
set_option maxRecDepth 100000 in
theorem F_X5_page_ok {u : Uv} (hu : Un u) {a0 a1 a2 : Int32} {s : Sg} {o : Nat → Int64} {r : (Int32 ⊕ Nat)} (hF : F_X5_page a0 a1 a2 s = some r) : AX u (yX5_page, cX5_page, 6, (some .int)) 6 [.ref 0, .int a0, .int a1, .int a2] (HP s o) (xr (fun q => (some (.int q), HP s o)) r) := by
  refine AX.of hu (lv := [some (.ref 0), some (.int a0), some (.int a1), some (.int a2), none, none]) (by decide) rfl (Nat.le_of_ble_eq_true rfl) rfl ?_
  intro Γ eu eN C X T
  subst eu
  have C : Cok Γ cX5_page RX5 (some .int) 6 1 6 := C
  unfold F_X5_page at hF
  refine A_iload_n C dX5_page_0 rfl (pc' := 1) rfl ?_
  refine A_iload_n C dX5_page_1 rfl (pc' := 2) rfl ?_
  obtain ⟨q1, h2, hF⟩ := Option.bind_eq_some_iff.mp hF
  refine A_callS C (av := [.int a0, .int a1]) (rest := []) (st2 := [.int q1]) (k2 := 0) (n2 := 0) (F_X5_isUser_ok hu h2) mk_X5_isUser lm_X5_86 ws_X5_isUser rfl rfl rfl ⟨by decide, by decide⟩ (Nat.le_of_ble_eq_true rfl) rfl rfl dX5_page_2 rfl rfl rfl (pc' := 5) rfl ?_
  refine A_if_ne C dX5_page_5 (tgt := 18) (by decide) (pc' := 8) rfl (fun c3 => ?_) (fun c3 => ?_)
  · rw [if_neg c3] at hF
    refine A_aload_n C dX5_page_18 rfl (pc' := 19) rfl ?_
    refine A_get C (j := 0) cl_X5 rfl rfl lf_X5_39 dX5_page_19 (HPg_0 s o) rfl (pc' := 22) rfl ?_
    refine A_getN C (j := 1) cl_X0 rfl rfl lf_X5_195 dX5_page_22 (HPg_8 s o) rfl (pc' := 25) rfl ?_
    refine A_iconst C (x := 1) dX5_page_25 (by decide) (pc' := 26) rfl ?_
    refine A_iadd C dX5_page_26 (pc' := 27) rfl ?_
    obtain ⟨x4, e5, hF⟩ := bnd_some hF
    refine A_topi e5 ?_
    refine A_istore C (lv' := [some (.ref 0), some (.int a0), some (.int a1), some (.int a2), some (.int x4), none]) dX5_page_27 rfl eN rfl rfl (pc' := 29) rfl ?_
    refine A_iload_n C dX5_page_29 rfl (pc' := 30) rfl ?_
    refine A_iconst C (x := 0) dX5_page_30 (by decide) (pc' := 31) rfl ?_
    refine A_aload_n C dX5_page_31 rfl (pc' := 32) rfl ?_
    refine A_get C (j := 0) cl_X5 rfl rfl lf_X5_39 dX5_page_32 (HPg_0 s o) rfl (pc' := 35) rfl ?_
    refine A_getN C (j := 0) cl_X0 rfl rfl lf_X5_168 dX5_page_35 (HPg_8 s o) rfl (pc' := 38) rfl ?_
    refine A_iload C dX5_page_38 rfl (pc' := 40) rfl ?_
    refine A_imul C dX5_page_40 (pc' := 41) rfl ?_
    refine A_iconst C (x := 1) dX5_page_41 (by decide) (pc' := 42) rfl ?_
    refine A_isub C dX5_page_42 (pc' := 43) rfl ?_
    obtain ⟨q6, h7, hF⟩ := Option.bind_eq_some_iff.mp hF
    refine A_callS C (av := [.int a2, .int (0 : Int32), .int (((s 900 0) * x4) - (1 : Int32))]) (rest := []) (st2 := [.int q6]) (k2 := 0) (n2 := 0) (F_X5_isWithin_ok hu h7) mk_X5_isWithin lm_X5_32 ws_X5_isWithin rfl rfl rfl ⟨by decide, by decide⟩ (Nat.le_of_ble_eq_true rfl) rfl rfl dX5_page_43 rfl rfl rfl (pc' := 46) rfl ?_
    refine A_if_ne C dX5_page_46 (tgt := 59) (by decide) (pc' := 49) rfl (fun c8 => ?_) (fun c8 => ?_)
    · rw [if_neg c8] at hF
      refine A_iload_n C dX5_page_59 rfl (pc' := 60) rfl ?_
      refine A_iload C dX5_page_60 rfl (pc' := 62) rfl ?_
      obtain ⟨h9, hF⟩ := grd_some hF
      refine A_irem C dX5_page_62 h9 (pc' := 63) rfl ?_
      obtain ⟨x10, e11, hF⟩ := bnd_some hF
      refine A_topi e11 ?_
      refine A_istore C (lv' := [some (.ref 0), some (.int a0), some (.int a1), some (.int a2), some (.int x4), some (.int x10)]) dX5_page_63 rfl eN rfl rfl (pc' := 65) rfl ?_
      refine A_iload C dX5_page_65 rfl (pc' := 67) rfl ?_
      refine A_aload_n C dX5_page_67 rfl (pc' := 68) rfl ?_
      refine A_get C (j := 0) cl_X5 rfl rfl lf_X5_39 dX5_page_68 (HPg_0 s o) rfl (pc' := 71) rfl ?_
      refine A_getN C (j := 1) cl_X0 rfl rfl lf_X5_195 dX5_page_71 (HPg_8 s o) rfl (pc' := 74) rfl ?_
      refine A_icmp_ne C dX5_page_74 (tgt := 80) (by decide) (pc' := 77) rfl (fun c12 => ?_) (fun c12 => ?_)
      · rw [if_neg c12] at hF
        refine A_aload_n C dX5_page_80 rfl (pc' := 81) rfl ?_
        refine A_get C (j := 0) cl_X5 rfl rfl lf_X5_39 dX5_page_81 (HPg_0 s o) rfl (pc' := 84) rfl ?_
        refine A_iload_n C dX5_page_84 rfl (pc' := 85) rfl ?_
        refine A_iload_n C dX5_page_85 rfl (pc' := 86) rfl ?_
        obtain ⟨q13, h14, hF⟩ := Option.bind_eq_some_iff.mp hF
        refine A_callS C (av := [.int a0, .int a1]) (rest := [.ref 8]) (st2 := [.int q13, .ref 8]) (k2 := 0) (n2 := 0) (F_X5_userOf_ok hu h14) mk_X5_userOf lm_X5_95 ws_X5_userOf rfl rfl rfl ⟨by decide, by decide⟩ (Nat.le_of_ble_eq_true rfl) rfl rfl dX5_page_86 rfl rfl rfl (pc' := 89) rfl ?_
        refine A_iload_n C dX5_page_89 rfl (pc' := 90) rfl ?_
        refine A_iload C dX5_page_90 rfl (pc' := 92) rfl ?_
        obtain ⟨h15, hF⟩ := grd_some hF
        refine A_idiv C dX5_page_92 h15 (pc' := 93) rfl ?_
        refine A_aload_n C dX5_page_93 rfl (pc' := 94) rfl ?_
        refine A_get C (j := 0) cl_X5 rfl rfl lf_X5_39 dX5_page_94 (HPg_0 s o) rfl (pc' := 97) rfl ?_
        refine A_getN C (j := 1) cl_X0 rfl rfl lf_X5_195 dX5_page_97 (HPg_8 s o) rfl (pc' := 100) rfl ?_
        refine A_imul C dX5_page_100 (pc' := 101) rfl ?_
        refine A_iload C dX5_page_101 rfl (pc' := 103) rfl ?_
        refine A_iadd C dX5_page_103 (pc' := 104) rfl ?_
        obtain ⟨q16, h17, hF⟩ := Option.bind_eq_some_iff.mp hF
        refine A_callVN C (av := [.int q13, .int (((a2 / x4) * (s 901 0)) + x10)]) (rest := []) (st2 := [.int q16]) (k2 := 0) (n2 := 0) (F_X0_letterAt_ok hu h17) mk_X0_letterAt lm_X5_200 wi_X0_letterAt wv_X0_letterAt (HPg_8 s o) rfl rfl rfl rfl ⟨by decide, by decide⟩ (Nat.le_of_ble_eq_true rfl) rfl rfl dX5_page_104 rfl rfl rfl (pc' := 107) rfl ?_
        cases hF
        exact A_iretX C T (Nat.zero_le _) (Nat.zero_le _) dX5_page_107
      · rw [if_pos c12] at hF
        refine A_bipush C (x := 10) dX5_page_77 (by decide) (pc' := 79) rfl ?_
        cases hF
        exact A_iretX C T (Nat.zero_le _) (Nat.zero_le _) dX5_page_79
    · rw [if_pos c8] at hF
      cases hF
      exact A_throwS C X T tw_X5_178_180 sw_X5_198 (by decide) rfl dX5_page_49 dX5_page_52 dX5_page_53 dX5_page_55 dX5_page_58
  · rw [if_pos c3] at hF
    cases hF
    exact A_throwS C X T tw_X5_43_47 sw_X5_193 (by decide) rfl dX5_page_8 dX5_page_11 dX5_page_12 dX5_page_14 dX5_page_17
