def F_X5_room (a0 : Int32) (a1 : Int32) (s : Sg) : Option (Sg ⊕ Nat) :=
  (F_X5_isWithin a0 (0 : Int32) (5 : Int32) s).bind fun q1 =>
  if q1 = 0 then
    some (.inr 1)
  else
    (F_X5_isWithin a1 (0 : Int32) (2 : Int32) s).bind fun q4 =>
    if q4 = 0 then
      some (.inr 1)
    else
      grd (ixb ((16 : Int32) + a0) 22 = true) <|
      if (s 19 ((16 : Int32) + a0).toNatClampNeg) = 0 then
        grd (ixb a0 6 = true) <|
        bnd (va_up s 17 (upd (s 17) a0.toNatClampNeg a1)) fun s10 =>
        some (.inl s10)
      else
        some (.inr 2)
set_option maxHeartbeats 4000000 in
set_option maxRecDepth 100000 in
theorem F_X5_room_ok {u : Uv} (hu : Un u) {a0 a1 : Int32} {s : Sg} {o : Nat → Int64} {r : (Sg ⊕ Nat)} (hF : F_X5_room a0 a1 s = some r) : AX u (yX5_room, cX5_room, 3, none) 6 [.ref 0, .int a0, .int a1] (HP s o) (xr (fun q => (none, HP q o)) r) := by
  refine AX.of hu (lv := [some (.ref 0), some (.int a0), some (.int a1)]) (by decide) rfl (Nat.le_of_ble_eq_true rfl) rfl ?_
  intro Γ eu eN C X T
  subst eu
  have C : Cok Γ cX5_room RX5 none 6 1 6 := C
  unfold F_X5_room at hF
  refine A_iload_n C dX5_room_0 rfl (pc' := 1) rfl ?_
  refine A_iconst C (x := 0) dX5_room_1 (by decide) (pc' := 2) rfl ?_
  refine A_iconst C (x := 5) dX5_room_2 (by decide) (pc' := 3) rfl ?_
  obtain ⟨q1, h2, hF⟩ := Option.bind_eq_some_iff.mp hF
  refine A_callS C (av := [.int a0, .int (0 : Int32), .int (5 : Int32)]) (rest := []) (st2 := [.int q1]) (k2 := 0) (n2 := 0) (F_X5_isWithin_ok hu h2) mk_X5_isWithin lm_X5_32 ws_X5_isWithin rfl rfl rfl ⟨by decide, by decide⟩ (Nat.le_of_ble_eq_true rfl) rfl rfl dX5_room_3 rfl rfl rfl (pc' := 6) rfl ?_
  refine A_if_eq C dX5_room_6 (tgt := 18) (by decide) (pc' := 9) rfl (fun c3 => ?_) (fun c3 => ?_)
  · rw [if_pos c3] at hF
    cases hF
    exact A_throwS C X T tw_X5_43_47 sw_X5_45 (by decide) rfl dX5_room_18 dX5_room_21 dX5_room_22 dX5_room_24 dX5_room_27
  · rw [if_neg c3] at hF
    refine A_iload_n C dX5_room_9 rfl (pc' := 10) rfl ?_
    refine A_iconst C (x := 0) dX5_room_10 (by decide) (pc' := 11) rfl ?_
    refine A_iconst C (x := 2) dX5_room_11 (by decide) (pc' := 12) rfl ?_
    obtain ⟨q4, h5, hF⟩ := Option.bind_eq_some_iff.mp hF
    refine A_callS C (av := [.int a1, .int (0 : Int32), .int (2 : Int32)]) (rest := []) (st2 := [.int q4]) (k2 := 0) (n2 := 0) (F_X5_isWithin_ok hu h5) mk_X5_isWithin lm_X5_32 ws_X5_isWithin rfl rfl rfl ⟨by decide, by decide⟩ (Nat.le_of_ble_eq_true rfl) rfl rfl dX5_room_12 rfl rfl rfl (pc' := 15) rfl ?_
    refine A_if_ne C dX5_room_15 (tgt := 28) (by decide) (pc' := 18) rfl (fun c6 => ?_) (fun c6 => ?_)
    · rw [if_neg c6] at hF
      refine A_aload_n C dX5_room_28 rfl (pc' := 29) rfl ?_
      refine A_get C (j := 0) cl_X5 rfl rfl lf_X5_39 dX5_room_29 (HPg_0 s o) rfl (pc' := 32) rfl ?_
      refine A_getN C (j := 8) cl_X0 rfl rfl lf_X5_50 dX5_room_32 (HPg_8 s o) rfl (pc' := 35) rfl ?_
      refine A_bipush C (x := 16) dX5_room_35 (by decide) (pc' := 37) rfl ?_
      refine A_iload_n C dX5_room_37 rfl (pc' := 38) rfl ?_
      refine A_iadd C dX5_room_38 (pc' := 39) rfl ?_
      obtain ⟨h7, hF⟩ := grd_some hF
      refine A_iald C (HPg_19 s o) (ixb_in h7) dX5_room_39 (pc' := 40) rfl ?_
      refine A_if_eq C dX5_room_40 (tgt := 53) (by decide) (pc' := 43) rfl (fun c8 => ?_) (fun c8 => ?_)
      · rw [if_pos c8] at hF
        refine A_aload_n C dX5_room_53 rfl (pc' := 54) rfl ?_
        refine A_get C (j := 0) cl_X5 rfl rfl lf_X5_39 dX5_room_54 (HPg_0 s o) rfl (pc' := 57) rfl ?_
        refine A_getN C (j := 6) cl_X0 rfl rfl lf_X5_59 dX5_room_57 (HPg_8 s o) rfl (pc' := 60) rfl ?_
        refine A_iload_n C dX5_room_60 rfl (pc' := 61) rfl ?_
        refine A_iload_n C dX5_room_61 rfl (pc' := 62) rfl ?_
        obtain ⟨h9, hF⟩ := grd_some hF
        obtain ⟨s10, e11, hF⟩ := bnd_some hF
        refine A_iast C (h1 := HP s10 o) (HPg_17 s o) (ixb_in h9) (by rw [e11]; exact HPs_17 s o _) dX5_room_62 (pc' := 63) rfl ?_
        cases hF
        exact A_vretX C T (Nat.zero_le _) (Nat.zero_le _) dX5_room_63
      · rw [if_neg c8] at hF
        cases hF
        exact A_throwS C X T tw_X5_54_58 sw_X5_56 (by decide) rfl dX5_room_43 dX5_room_46 dX5_room_47 dX5_room_49 dX5_room_52
    · rw [if_pos c6] at hF
      cases hF
      exact A_throwS C X T tw_X5_43_47 sw_X5_45 (by decide) rfl dX5_room_18 dX5_room_21 dX5_room_22 dX5_room_24 dX5_room_27
def F_X5_lesson (a0 : Int32) (a1 : Int32) (a2 : Int32) (a3 : Int32) (a4 : Int32) (a5 : Int32) (s : Sg) : Option ((Int32 × Sg) ⊕ Nat) :=
  (F_X5_isWithin a0 (0 : Int32) (7 : Int32) s).bind fun q1 =>
  if q1 = 0 then
    some (.inr 1)
  else
    (F_X5_isWithin a1 (-1 : Int32) (7 : Int32) s).bind fun q4 =>
    if q4 = 0 then
      some (.inr 1)
    else
      if a0 = a1 then
        some (.inr 1)
      else
        (F_X5_isWithin a2 (0 : Int32) (7 : Int32) s).bind fun q8 =>
        if q8 = 0 then
          some (.inr 1)
        else
          (F_X5_isWithin a3 (0 : Int32) (2 : Int32) s).bind fun q11 =>
          if q11 = 0 then
            some (.inr 1)
          else
            (F_X5_isWithin (a4 / (10 : Int32)) (1 : Int32) (2 : Int32) s).bind fun q14 =>
            if q14 = 0 then
              some (.inr 1)
            else
              (F_X5_isWithin (a4 - a4 / (10 : Int32) * (10 : Int32)) (1 : Int32) (4 : Int32) s).bind fun q17 =>
              if q17 = 0 then
                some (.inr 1)
              else
                (F_X5_isWithin a5 (33 : Int32) (126 : Int32) s).bind fun q20 =>
                if q20 = 0 then
                  some (.inr 1)
                else
                  if (s 1007 0) < (16 : Int32) then
                    (F_X3_add a0 a1 a2 a3 a4 a5 s).bind fun q24 =>
                    some (.inl (q24.1, q24.2))
                  else
                    some (.inr 2)
set_option maxHeartbeats 4000000 in
set_option maxRecDepth 100000 in
theorem F_X5_lesson_ok {u : Uv} (hu : Un u) {a0 a1 a2 a3 a4 a5 : Int32} {s : Sg} {o : Nat → Int64} {r : ((Int32 × Sg) ⊕ Nat)} (hF : F_X5_lesson a0 a1 a2 a3 a4 a5 s = some r) : AX u (yX5_lesson, cX5_lesson, 7, (some .int)) 6 [.ref 0, .int a0, .int a1, .int a2, .int a3, .int a4, .int a5] (HP s o) (xr (fun q => (some (.int q.1), HP q.2 o)) r) := by
  refine AX.of hu (lv := [some (.ref 0), some (.int a0), some (.int a1), some (.int a2), some (.int a3), some (.int a4), some (.int a5)]) (by decide) rfl (Nat.le_of_ble_eq_true rfl) rfl ?_
  intro Γ eu eN C X T
  subst eu
  have C : Cok Γ cX5_lesson RX5 (some .int) 6 1 6 := C
  unfold F_X5_lesson at hF
  refine A_iload_n C dX5_lesson_0 rfl (pc' := 1) rfl ?_
  refine A_iconst C (x := 0) dX5_lesson_1 (by decide) (pc' := 2) rfl ?_
  refine A_bipush C (x := 7) dX5_lesson_2 (by decide) (pc' := 4) rfl ?_
  obtain ⟨q1, h2, hF⟩ := Option.bind_eq_some_iff.mp hF
  refine A_callS C (av := [.int a0, .int (0 : Int32), .int (7 : Int32)]) (rest := []) (st2 := [.int q1]) (k2 := 0) (n2 := 0) (F_X5_isWithin_ok hu h2) mk_X5_isWithin lm_X5_32 ws_X5_isWithin rfl rfl rfl ⟨by decide, by decide⟩ (Nat.le_of_ble_eq_true rfl) rfl rfl dX5_lesson_4 rfl rfl rfl (pc' := 7) rfl ?_
  refine A_if_eq C dX5_lesson_7 (tgt := 25) (by decide) (pc' := 10) rfl (fun c3 => ?_) (fun c3 => ?_)
  · rw [if_pos c3] at hF
    cases hF
    exact A_throwS C X T tw_X5_43_47 sw_X5_62 (by decide) rfl dX5_lesson_25 dX5_lesson_28 dX5_lesson_29 dX5_lesson_31 dX5_lesson_34
  · rw [if_neg c3] at hF
    refine A_iload_n C dX5_lesson_10 rfl (pc' := 11) rfl ?_
    refine A_iconst C (x := -1) dX5_lesson_11 (by decide) (pc' := 12) rfl ?_
    refine A_bipush C (x := 7) dX5_lesson_12 (by decide) (pc' := 14) rfl ?_
    obtain ⟨q4, h5, hF⟩ := Option.bind_eq_some_iff.mp hF
    refine A_callS C (av := [.int a1, .int (-1 : Int32), .int (7 : Int32)]) (rest := []) (st2 := [.int q4]) (k2 := 0) (n2 := 0) (F_X5_isWithin_ok hu h5) mk_X5_isWithin lm_X5_32 ws_X5_isWithin rfl rfl rfl ⟨by decide, by decide⟩ (Nat.le_of_ble_eq_true rfl) rfl rfl dX5_lesson_14 rfl rfl rfl (pc' := 17) rfl ?_
    refine A_if_eq C dX5_lesson_17 (tgt := 25) (by decide) (pc' := 20) rfl (fun c6 => ?_) (fun c6 => ?_)
    · rw [if_pos c6] at hF
      cases hF
      exact A_throwS C X T tw_X5_43_47 sw_X5_62 (by decide) rfl dX5_lesson_25 dX5_lesson_28 dX5_lesson_29 dX5_lesson_31 dX5_lesson_34
    · rw [if_neg c6] at hF
      refine A_iload_n C dX5_lesson_20 rfl (pc' := 21) rfl ?_
      refine A_iload_n C dX5_lesson_21 rfl (pc' := 22) rfl ?_
      refine A_icmp_ne C dX5_lesson_22 (tgt := 35) (by decide) (pc' := 25) rfl (fun c7 => ?_) (fun c7 => ?_)
      · rw [if_neg c7] at hF
        refine A_iload_n C dX5_lesson_35 rfl (pc' := 36) rfl ?_
        refine A_iconst C (x := 0) dX5_lesson_36 (by decide) (pc' := 37) rfl ?_
        refine A_bipush C (x := 7) dX5_lesson_37 (by decide) (pc' := 39) rfl ?_
        obtain ⟨q8, h9, hF⟩ := Option.bind_eq_some_iff.mp hF
        refine A_callS C (av := [.int a2, .int (0 : Int32), .int (7 : Int32)]) (rest := []) (st2 := [.int q8]) (k2 := 0) (n2 := 0) (F_X5_isWithin_ok hu h9) mk_X5_isWithin lm_X5_32 ws_X5_isWithin rfl rfl rfl ⟨by decide, by decide⟩ (Nat.le_of_ble_eq_true rfl) rfl rfl dX5_lesson_39 rfl rfl rfl (pc' := 42) rfl ?_
        refine A_if_eq C dX5_lesson_42 (tgt := 55) (by decide) (pc' := 45) rfl (fun c10 => ?_) (fun c10 => ?_)
        · rw [if_pos c10] at hF
          cases hF
          exact A_throwS C X T tw_X5_43_47 sw_X5_64 (by decide) rfl dX5_lesson_55 dX5_lesson_58 dX5_lesson_59 dX5_lesson_61 dX5_lesson_64
        · rw [if_neg c10] at hF
          refine A_iload C dX5_lesson_45 rfl (pc' := 47) rfl ?_
          refine A_iconst C (x := 0) dX5_lesson_47 (by decide) (pc' := 48) rfl ?_
          refine A_iconst C (x := 2) dX5_lesson_48 (by decide) (pc' := 49) rfl ?_
          obtain ⟨q11, h12, hF⟩ := Option.bind_eq_some_iff.mp hF
          refine A_callS C (av := [.int a3, .int (0 : Int32), .int (2 : Int32)]) (rest := []) (st2 := [.int q11]) (k2 := 0) (n2 := 0) (F_X5_isWithin_ok hu h12) mk_X5_isWithin lm_X5_32 ws_X5_isWithin rfl rfl rfl ⟨by decide, by decide⟩ (Nat.le_of_ble_eq_true rfl) rfl rfl dX5_lesson_49 rfl rfl rfl (pc' := 52) rfl ?_
          refine A_if_ne C dX5_lesson_52 (tgt := 65) (by decide) (pc' := 55) rfl (fun c13 => ?_) (fun c13 => ?_)
          · rw [if_neg c13] at hF
            refine A_iload C dX5_lesson_65 rfl (pc' := 67) rfl ?_
            refine A_bipush C (x := 10) dX5_lesson_67 (by decide) (pc' := 69) rfl ?_
            refine A_idiv C dX5_lesson_69 (by decide) (pc' := 70) rfl ?_
            refine A_iconst C (x := 1) dX5_lesson_70 (by decide) (pc' := 71) rfl ?_
            refine A_iconst C (x := 2) dX5_lesson_71 (by decide) (pc' := 72) rfl ?_
            obtain ⟨q14, h15, hF⟩ := Option.bind_eq_some_iff.mp hF
            refine A_callS C (av := [.int (a4 / (10 : Int32)), .int (1 : Int32), .int (2 : Int32)]) (rest := []) (st2 := [.int q14]) (k2 := 0) (n2 := 0) (F_X5_isWithin_ok hu h15) mk_X5_isWithin lm_X5_32 ws_X5_isWithin rfl rfl rfl ⟨by decide, by decide⟩ (Nat.le_of_ble_eq_true rfl) rfl rfl dX5_lesson_72 rfl rfl rfl (pc' := 75) rfl ?_
            refine A_if_eq C dX5_lesson_75 (tgt := 91) (by decide) (pc' := 78) rfl (fun c16 => ?_) (fun c16 => ?_)
            · rw [if_pos c16] at hF
              cases hF
              exact A_throwS C X T tw_X5_43_47 sw_X5_66 (by decide) rfl dX5_lesson_91 dX5_lesson_94 dX5_lesson_95 dX5_lesson_97 dX5_lesson_100
            · rw [if_neg c16] at hF
              refine A_iload C dX5_lesson_78 rfl (pc' := 80) rfl ?_
              refine A_bipush C (x := 10) dX5_lesson_80 (by decide) (pc' := 82) rfl ?_
              refine A_irem C dX5_lesson_82 (by decide) (pc' := 83) rfl ?_
              refine A_iconst C (x := 1) dX5_lesson_83 (by decide) (pc' := 84) rfl ?_
              refine A_iconst C (x := 4) dX5_lesson_84 (by decide) (pc' := 85) rfl ?_
              obtain ⟨q17, h18, hF⟩ := Option.bind_eq_some_iff.mp hF
              refine A_callS C (av := [.int (a4 - a4 / (10 : Int32) * (10 : Int32)), .int (1 : Int32), .int (4 : Int32)]) (rest := []) (st2 := [.int q17]) (k2 := 0) (n2 := 0) (F_X5_isWithin_ok hu h18) mk_X5_isWithin lm_X5_32 ws_X5_isWithin rfl rfl rfl ⟨by decide, by decide⟩ (Nat.le_of_ble_eq_true rfl) rfl rfl dX5_lesson_85 rfl rfl rfl (pc' := 88) rfl ?_
              refine A_if_ne C dX5_lesson_88 (tgt := 101) (by decide) (pc' := 91) rfl (fun c19 => ?_) (fun c19 => ?_)
              · rw [if_neg c19] at hF
                refine A_iload C dX5_lesson_101 rfl (pc' := 103) rfl ?_
                refine A_bipush C (x := 33) dX5_lesson_103 (by decide) (pc' := 105) rfl ?_
                refine A_bipush C (x := 126) dX5_lesson_105 (by decide) (pc' := 107) rfl ?_
                obtain ⟨q20, h21, hF⟩ := Option.bind_eq_some_iff.mp hF
                refine A_callS C (av := [.int a5, .int (33 : Int32), .int (126 : Int32)]) (rest := []) (st2 := [.int q20]) (k2 := 0) (n2 := 0) (F_X5_isWithin_ok hu h21) mk_X5_isWithin lm_X5_32 ws_X5_isWithin rfl rfl rfl ⟨by decide, by decide⟩ (Nat.le_of_ble_eq_true rfl) rfl rfl dX5_lesson_107 rfl rfl rfl (pc' := 110) rfl ?_
                refine A_if_ne C dX5_lesson_110 (tgt := 123) (by decide) (pc' := 113) rfl (fun c22 => ?_) (fun c22 => ?_)
                · rw [if_neg c22] at hF
                  refine A_aload_n C dX5_lesson_123 rfl (pc' := 124) rfl ?_
                  refine A_get C (j := 0) cl_X5 rfl rfl lf_X5_39 dX5_lesson_124 (HPg_0 s o) rfl (pc' := 127) rfl ?_
                  refine A_getN C (j := 5) cl_X0 rfl rfl lf_X5_70 dX5_lesson_127 (HPg_8 s o) rfl (pc' := 130) rfl ?_
                  refine A_getN C (j := 7) cl_X3 rfl rfl lf_X5_74 dX5_lesson_130 (HPg_9 s o) rfl (pc' := 133) rfl ?_
                  refine A_bipush C (x := 16) dX5_lesson_133 (by decide) (pc' := 135) rfl ?_
                  refine A_icmp_lt C dX5_lesson_135 (tgt := 148) (by decide) (pc' := 138) rfl (fun c23 => ?_) (fun c23 => ?_)
                  · rw [if_pos c23] at hF
                    refine A_aload_n C dX5_lesson_148 rfl (pc' := 149) rfl ?_
                    refine A_get C (j := 0) cl_X5 rfl rfl lf_X5_39 dX5_lesson_149 (HPg_0 s o) rfl (pc' := 152) rfl ?_
                    refine A_getN C (j := 5) cl_X0 rfl rfl lf_X5_70 dX5_lesson_152 (HPg_8 s o) rfl (pc' := 155) rfl ?_
                    refine A_iload_n C dX5_lesson_155 rfl (pc' := 156) rfl ?_
                    refine A_iload_n C dX5_lesson_156 rfl (pc' := 157) rfl ?_
                    refine A_iload_n C dX5_lesson_157 rfl (pc' := 158) rfl ?_
                    refine A_iload C dX5_lesson_158 rfl (pc' := 160) rfl ?_
                    refine A_iload C dX5_lesson_160 rfl (pc' := 162) rfl ?_
                    refine A_iload C dX5_lesson_162 rfl (pc' := 164) rfl ?_
                    obtain ⟨q24, h25, hF⟩ := Option.bind_eq_some_iff.mp hF
                    refine A_callVN C (av := [.int a0, .int a1, .int a2, .int a3, .int a4, .int a5]) (rest := []) (st2 := [.int q24.1]) (k2 := 0) (n2 := 0) (F_X3_add_ok hu h25) mk_X3_add lm_X5_82 wi_X3_add wv_X3_add (HPg_9 s o) rfl rfl rfl rfl ⟨by decide, by decide⟩ (Nat.le_of_ble_eq_true rfl) rfl rfl dX5_lesson_164 rfl rfl rfl (pc' := 167) rfl ?_
                    cases hF
                    exact A_iretX C T (Nat.zero_le _) (Nat.zero_le _) dX5_lesson_167
                  · rw [if_neg c23] at hF
                    cases hF
                    exact A_throwS C X T tw_X5_54_58 sw_X5_80 (by decide) rfl dX5_lesson_138 dX5_lesson_141 dX5_lesson_142 dX5_lesson_144 dX5_lesson_147
                · rw [if_pos c22] at hF
                  cases hF
                  exact A_throwS C X T tw_X5_43_47 sw_X5_68 (by decide) rfl dX5_lesson_113 dX5_lesson_116 dX5_lesson_117 dX5_lesson_119 dX5_lesson_122
              · rw [if_pos c19] at hF
                cases hF
                exact A_throwS C X T tw_X5_43_47 sw_X5_66 (by decide) rfl dX5_lesson_91 dX5_lesson_94 dX5_lesson_95 dX5_lesson_97 dX5_lesson_100
          · rw [if_pos c13] at hF
            cases hF
            exact A_throwS C X T tw_X5_43_47 sw_X5_64 (by decide) rfl dX5_lesson_55 dX5_lesson_58 dX5_lesson_59 dX5_lesson_61 dX5_lesson_64
      · rw [if_pos c7] at hF
        cases hF
        exact A_throwS C X T tw_X5_43_47 sw_X5_62 (by decide) rfl dX5_lesson_25 dX5_lesson_28 dX5_lesson_29 dX5_lesson_31 dX5_lesson_34
def F_X5_block (a0 : Int32) (a1 : Int32) (a2 : Int32) (a3 : Int32) (s : Sg) : Option (Sg ⊕ Nat) :=
  jn (fun (x1 : Int32) (x2 : Int32) (s3 : Sg) => if a3 = 0 then
        grd (ixb x1 22 = true) <|
        grd (ixb x1 22 = true) <|
        bnd (va_up s3 18 (upd (s3 18) x1.toNatClampNeg ((s3 18 x1.toNatClampNeg) &&& (x2 ^^^ (-1 : Int32))))) fun s7 =>
        some (.inl s7)
      else
        grd (ixb x1 22 = true) <|
        grd (ixb x1 22 = true) <|
        bnd (va_up s3 18 (upd (s3 18) x1.toNatClampNeg ((s3 18 x1.toNatClampNeg) ||| x2))) fun s11 =>
        some (.inl s11)) fun J78 =>
  (F_X5_isUser a0 a1 s).bind fun q13 =>
  if q13 = 0 then
    some (.inr 1)
  else
    (F_X5_isWithin a2 (0 : Int32) ((s 902 0) - (1 : Int32)) s).bind fun q16 =>
    if q16 = 0 then
      some (.inr 1)
    else
      (F_X5_userOf a0 a1 s).bind fun q19 =>
      bnd ((1 : Int32) <<< (a2 &&& 31)) fun x21 =>
      if a3 = 0 then
        J78 q19 x21 s
      else
        grd (ixb q19 22 = true) <|
        if ((s 19 q19.toNatClampNeg) &&& x21) = 0 then
          J78 q19 x21 s
        else
          some (.inr 2)
set_option maxHeartbeats 4000000 in
set_option maxRecDepth 100000 in
theorem F_X5_block_ok {u : Uv} (hu : Un u) {a0 a1 a2 a3 : Int32} {s : Sg} {o : Nat → Int64} {r : (Sg ⊕ Nat)} (hF : F_X5_block a0 a1 a2 a3 s = some r) : AX u (yX5_block, cX5_block, 7, none) 6 [.ref 0, .int a0, .int a1, .int a2, .int a3] (HP s o) (xr (fun q => (none, HP q o)) r) := by
  refine AX.of hu (lv := [some (.ref 0), some (.int a0), some (.int a1), some (.int a2), some (.int a3), none, none]) (by decide) rfl (Nat.le_of_ble_eq_true rfl) rfl ?_
  intro Γ eu eN C X T
  subst eu
  have C : Cok Γ cX5_block RX5 none 6 1 6 := C
  unfold F_X5_block at hF
  obtain ⟨J78, eJ78, hF⟩ := jn_some hF
  have hJ78 : ∀ (x1 : Int32) (x2 : Int32) (s3 : Sg), J78 x1 x2 s3 = some r → AW Γ (HP s3 o) 0 0 [some (.ref 0), none, none, none, some (.int a3), some (.int x1), some (.int x2)] [] 78 := by
    intro x1 x2 s3 hF
    rw [eJ78] at hF
    dsimp only at hF
    refine A_iload C dX5_block_78 rfl (pc' := 80) rfl ?_
    refine A_if_eq C dX5_block_80 (tgt := 101) (by decide) (pc' := 83) rfl (fun c4 => ?_) (fun c4 => ?_)
    · rw [if_pos c4] at hF
      refine A_aload_n C dX5_block_101 rfl (pc' := 102) rfl ?_
      refine A_get C (j := 0) cl_X5 rfl rfl lf_X5_39 dX5_block_102 (HPg_0 s3 o) rfl (pc' := 105) rfl ?_
      refine A_getN C (j := 7) cl_X0 rfl rfl lf_X5_101 dX5_block_105 (HPg_8 s3 o) rfl (pc' := 108) rfl ?_
      refine A_iload C dX5_block_108 rfl (pc' := 110) rfl ?_
      refine A_dup2 C dX5_block_110 rfl rfl (pc' := 111) rfl ?_
      obtain ⟨h5, hF⟩ := grd_some hF
      refine A_iald C (HPg_18 s3 o) (ixb_in h5) dX5_block_111 (pc' := 112) rfl ?_
      refine A_iload C dX5_block_112 rfl (pc' := 114) rfl ?_
      refine A_iconst C (x := -1) dX5_block_114 (by decide) (pc' := 115) rfl ?_
      refine A_ixor C dX5_block_115 (pc' := 116) rfl ?_
      refine A_iand C dX5_block_116 (pc' := 117) rfl ?_
      obtain ⟨h6, hF⟩ := grd_some hF
      obtain ⟨s7, e8, hF⟩ := bnd_some hF
      refine A_iast C (h1 := HP s7 o) (HPg_18 s3 o) (ixb_in h6) (by rw [e8]; exact HPs_18 s3 o _) dX5_block_117 (pc' := 118) rfl ?_
      cases hF
      exact A_vretX C T (Nat.zero_le _) (Nat.zero_le _) dX5_block_118
    · rw [if_neg c4] at hF
      refine A_aload_n C dX5_block_83 rfl (pc' := 84) rfl ?_
      refine A_get C (j := 0) cl_X5 rfl rfl lf_X5_39 dX5_block_84 (HPg_0 s3 o) rfl (pc' := 87) rfl ?_
      refine A_getN C (j := 7) cl_X0 rfl rfl lf_X5_101 dX5_block_87 (HPg_8 s3 o) rfl (pc' := 90) rfl ?_
      refine A_iload C dX5_block_90 rfl (pc' := 92) rfl ?_
      refine A_dup2 C dX5_block_92 rfl rfl (pc' := 93) rfl ?_
      obtain ⟨h9, hF⟩ := grd_some hF
      refine A_iald C (HPg_18 s3 o) (ixb_in h9) dX5_block_93 (pc' := 94) rfl ?_
      refine A_iload C dX5_block_94 rfl (pc' := 96) rfl ?_
      refine A_ior C dX5_block_96 (pc' := 97) rfl ?_
      obtain ⟨h10, hF⟩ := grd_some hF
      obtain ⟨s11, e12, hF⟩ := bnd_some hF
      refine A_iast C (h1 := HP s11 o) (HPg_18 s3 o) (ixb_in h10) (by rw [e12]; exact HPs_18 s3 o _) dX5_block_97 (pc' := 98) rfl ?_
      refine A_goto C dX5_block_98 (tgt := 118) (by decide) ?_
      cases hF
      exact A_vretX C T (Nat.zero_le _) (Nat.zero_le _) dX5_block_118
  clear eJ78
  refine A_iload_n C dX5_block_0 rfl (pc' := 1) rfl ?_
  refine A_iload_n C dX5_block_1 rfl (pc' := 2) rfl ?_
  obtain ⟨q13, h14, hF⟩ := Option.bind_eq_some_iff.mp hF
  refine A_callS C (av := [.int a0, .int a1]) (rest := []) (st2 := [.int q13]) (k2 := 0) (n2 := 0) (F_X5_isUser_ok hu h14) mk_X5_isUser lm_X5_86 ws_X5_isUser rfl rfl rfl ⟨by decide, by decide⟩ (Nat.le_of_ble_eq_true rfl) rfl rfl dX5_block_2 rfl rfl rfl (pc' := 5) rfl ?_
  refine A_if_eq C dX5_block_5 (tgt := 25) (by decide) (pc' := 8) rfl (fun c15 => ?_) (fun c15 => ?_)
  · rw [if_pos c15] at hF
    cases hF
    exact A_throwS C X T tw_X5_43_47 sw_X5_93 (by decide) rfl dX5_block_25 dX5_block_28 dX5_block_29 dX5_block_31 dX5_block_34
  · rw [if_neg c15] at hF
    refine A_iload_n C dX5_block_8 rfl (pc' := 9) rfl ?_
    refine A_iconst C (x := 0) dX5_block_9 (by decide) (pc' := 10) rfl ?_
    refine A_aload_n C dX5_block_10 rfl (pc' := 11) rfl ?_
    refine A_get C (j := 0) cl_X5 rfl rfl lf_X5_39 dX5_block_11 (HPg_0 s o) rfl (pc' := 14) rfl ?_
    refine A_getN C (j := 2) cl_X0 rfl rfl lf_X5_90 dX5_block_14 (HPg_8 s o) rfl (pc' := 17) rfl ?_
    refine A_iconst C (x := 1) dX5_block_17 (by decide) (pc' := 18) rfl ?_
    refine A_isub C dX5_block_18 (pc' := 19) rfl ?_
    obtain ⟨q16, h17, hF⟩ := Option.bind_eq_some_iff.mp hF
    refine A_callS C (av := [.int a2, .int (0 : Int32), .int ((s 902 0) - (1 : Int32))]) (rest := []) (st2 := [.int q16]) (k2 := 0) (n2 := 0) (F_X5_isWithin_ok hu h17) mk_X5_isWithin lm_X5_32 ws_X5_isWithin rfl rfl rfl ⟨by decide, by decide⟩ (Nat.le_of_ble_eq_true rfl) rfl rfl dX5_block_19 rfl rfl rfl (pc' := 22) rfl ?_
    refine A_if_ne C dX5_block_22 (tgt := 35) (by decide) (pc' := 25) rfl (fun c18 => ?_) (fun c18 => ?_)
    · rw [if_neg c18] at hF
      refine A_iload_n C dX5_block_35 rfl (pc' := 36) rfl ?_
      refine A_iload_n C dX5_block_36 rfl (pc' := 37) rfl ?_
      obtain ⟨q19, h20, hF⟩ := Option.bind_eq_some_iff.mp hF
      refine A_callS C (av := [.int a0, .int a1]) (rest := []) (st2 := [.int q19]) (k2 := 0) (n2 := 0) (F_X5_userOf_ok hu h20) mk_X5_userOf lm_X5_95 ws_X5_userOf rfl rfl rfl ⟨by decide, by decide⟩ (Nat.le_of_ble_eq_true rfl) rfl rfl dX5_block_37 rfl rfl rfl (pc' := 40) rfl ?_
      refine A_istore C (lv' := [some (.ref 0), some (.int a0), some (.int a1), some (.int a2), some (.int a3), some (.int q19), none]) dX5_block_40 rfl eN rfl rfl (pc' := 42) rfl ?_
      refine A_iconst C (x := 1) dX5_block_42 (by decide) (pc' := 43) rfl ?_
      refine A_iload_n C dX5_block_43 rfl (pc' := 44) rfl ?_
      refine A_ishl C dX5_block_44 (pc' := 45) rfl ?_
      obtain ⟨x21, e22, hF⟩ := bnd_some hF
      refine A_topi e22 ?_
      refine A_istore C (lv' := [some (.ref 0), some (.int a0), some (.int a1), some (.int a2), some (.int a3), some (.int q19), some (.int x21)]) dX5_block_45 rfl eN rfl rfl (pc' := 47) rfl ?_
      refine A_iload C dX5_block_47 rfl (pc' := 49) rfl ?_
      refine A_if_eq C dX5_block_49 (tgt := 78) (by decide) (pc' := 52) rfl (fun c23 => ?_) (fun c23 => ?_)
      · rw [if_pos c23] at hF
        refine A_mask [true, false, false, false, true, true, true] (lv' := [some (.ref 0), none, none, none, some (.int a3), some (.int q19), some (.int x21)]) rfl ?_
        exact hJ78 q19 x21 s hF
      · rw [if_neg c23] at hF
        refine A_aload_n C dX5_block_52 rfl (pc' := 53) rfl ?_
        refine A_get C (j := 0) cl_X5 rfl rfl lf_X5_39 dX5_block_53 (HPg_0 s o) rfl (pc' := 56) rfl ?_
        refine A_getN C (j := 8) cl_X0 rfl rfl lf_X5_50 dX5_block_56 (HPg_8 s o) rfl (pc' := 59) rfl ?_
        refine A_iload C dX5_block_59 rfl (pc' := 61) rfl ?_
        obtain ⟨h24, hF⟩ := grd_some hF
        refine A_iald C (HPg_19 s o) (ixb_in h24) dX5_block_61 (pc' := 62) rfl ?_
        refine A_iload C dX5_block_62 rfl (pc' := 64) rfl ?_
        refine A_iand C dX5_block_64 (pc' := 65) rfl ?_
        refine A_if_eq C dX5_block_65 (tgt := 78) (by decide) (pc' := 68) rfl (fun c25 => ?_) (fun c25 => ?_)
        · rw [if_pos c25] at hF
          refine A_mask [true, false, false, false, true, true, true] (lv' := [some (.ref 0), none, none, none, some (.int a3), some (.int q19), some (.int x21)]) rfl ?_
          exact hJ78 q19 x21 s hF
        · rw [if_neg c25] at hF
          cases hF
          exact A_throwS C X T tw_X5_54_58 sw_X5_99 (by decide) rfl dX5_block_68 dX5_block_71 dX5_block_72 dX5_block_74 dX5_block_77
    · rw [if_pos c18] at hF
      cases hF
      exact A_throwS C X T tw_X5_43_47 sw_X5_93 (by decide) rfl dX5_block_25 dX5_block_28 dX5_block_29 dX5_block_31 dX5_block_34
def F_X5_place (a0 : Int32) (a1 : Int32) (a2 : Int32) (s : Sg) : Option ((Int32 × Sg) ⊕ Nat) :=
  (F_X3_hasItem a0 a1 s).bind fun q1 =>
  if q1 = 0 then
    some (.inr 1)
  else
    (F_X5_isWithin a2 (0 : Int32) ((s 902 0) - (1 : Int32)) s).bind fun q4 =>
    if q4 = 0 then
      some (.inr 1)
    else
      (F_X5_itemOf a0 a1 s).bind fun q7 =>
      (F_X0_isPlaced q7 s).bind fun q9 =>
      if q9 = 0 then
        (F_X2_draw  s).bind fun q12 =>
        (F_X0_putByRules q7 a2 q12).bind fun q14 =>
        if q14.1 = 0 then
          (F_X2_keep  q14.2).bind fun q17 =>
          some (.inl (q14.1, q17))
        else
          some (.inl (q14.1, q14.2))
      else
        some (.inr 2)
set_option maxHeartbeats 4000000 in
set_option maxRecDepth 100000 in
theorem F_X5_place_ok {u : Uv} (hu : Un u) {a0 a1 a2 : Int32} {s : Sg} {o : Nat → Int64} {r : ((Int32 × Sg) ⊕ Nat)} (hF : F_X5_place a0 a1 a2 s = some r) : AX u (yX5_place, cX5_place, 6, (some .int)) 6 [.ref 0, .int a0, .int a1, .int a2] (HP s o) (xr (fun q => (some (.int q.1), HP q.2 o)) r) := by
  refine AX.of hu (lv := [some (.ref 0), some (.int a0), some (.int a1), some (.int a2), none, none]) (by decide) rfl (Nat.le_of_ble_eq_true rfl) rfl ?_
  intro Γ eu eN C X T
  subst eu
  have C : Cok Γ cX5_place RX5 (some .int) 6 1 6 := C
  unfold F_X5_place at hF
  refine A_aload_n C dX5_place_0 rfl (pc' := 1) rfl ?_
  refine A_get C (j := 0) cl_X5 rfl rfl lf_X5_39 dX5_place_1 (HPg_0 s o) rfl (pc' := 4) rfl ?_
  refine A_getN C (j := 5) cl_X0 rfl rfl lf_X5_70 dX5_place_4 (HPg_8 s o) rfl (pc' := 7) rfl ?_
  refine A_iload_n C dX5_place_7 rfl (pc' := 8) rfl ?_
  refine A_iload_n C dX5_place_8 rfl (pc' := 9) rfl ?_
  obtain ⟨q1, h2, hF⟩ := Option.bind_eq_some_iff.mp hF
  refine A_callVN C (av := [.int a0, .int a1]) (rest := []) (st2 := [.int q1]) (k2 := 0) (n2 := 0) (F_X3_hasItem_ok hu h2) mk_X3_hasItem lm_X5_104 wi_X3_hasItem wv_X3_hasItem (HPg_9 s o) rfl rfl rfl rfl ⟨by decide, by decide⟩ (Nat.le_of_ble_eq_true rfl) rfl rfl dX5_place_9 rfl rfl rfl (pc' := 12) rfl ?_
  refine A_if_eq C dX5_place_12 (tgt := 32) (by decide) (pc' := 15) rfl (fun c3 => ?_) (fun c3 => ?_)
  · rw [if_pos c3] at hF
    cases hF
    exact A_throwS C X T tw_X5_43_47 sw_X5_107 (by decide) rfl dX5_place_32 dX5_place_35 dX5_place_36 dX5_place_38 dX5_place_41
  · rw [if_neg c3] at hF
    refine A_iload_n C dX5_place_15 rfl (pc' := 16) rfl ?_
    refine A_iconst C (x := 0) dX5_place_16 (by decide) (pc' := 17) rfl ?_
    refine A_aload_n C dX5_place_17 rfl (pc' := 18) rfl ?_
    refine A_get C (j := 0) cl_X5 rfl rfl lf_X5_39 dX5_place_18 (HPg_0 s o) rfl (pc' := 21) rfl ?_
    refine A_getN C (j := 2) cl_X0 rfl rfl lf_X5_90 dX5_place_21 (HPg_8 s o) rfl (pc' := 24) rfl ?_
    refine A_iconst C (x := 1) dX5_place_24 (by decide) (pc' := 25) rfl ?_
    refine A_isub C dX5_place_25 (pc' := 26) rfl ?_
    obtain ⟨q4, h5, hF⟩ := Option.bind_eq_some_iff.mp hF
    refine A_callS C (av := [.int a2, .int (0 : Int32), .int ((s 902 0) - (1 : Int32))]) (rest := []) (st2 := [.int q4]) (k2 := 0) (n2 := 0) (F_X5_isWithin_ok hu h5) mk_X5_isWithin lm_X5_32 ws_X5_isWithin rfl rfl rfl ⟨by decide, by decide⟩ (Nat.le_of_ble_eq_true rfl) rfl rfl dX5_place_26 rfl rfl rfl (pc' := 29) rfl ?_
    refine A_if_ne C dX5_place_29 (tgt := 42) (by decide) (pc' := 32) rfl (fun c6 => ?_) (fun c6 => ?_)
    · rw [if_neg c6] at hF
      refine A_iload_n C dX5_place_42 rfl (pc' := 43) rfl ?_
      refine A_iload_n C dX5_place_43 rfl (pc' := 44) rfl ?_
      obtain ⟨q7, h8, hF⟩ := Option.bind_eq_some_iff.mp hF
      refine A_callS C (av := [.int a0, .int a1]) (rest := []) (st2 := [.int q7]) (k2 := 0) (n2 := 0) (F_X5_itemOf_ok hu h8) mk_X5_itemOf lm_X5_109 ws_X5_itemOf rfl rfl rfl ⟨by decide, by decide⟩ (Nat.le_of_ble_eq_true rfl) rfl rfl dX5_place_44 rfl rfl rfl (pc' := 47) rfl ?_
      refine A_istore C (lv' := [some (.ref 0), some (.int a0), some (.int a1), some (.int a2), some (.int q7), none]) dX5_place_47 rfl eN rfl rfl (pc' := 49) rfl ?_
      refine A_aload_n C dX5_place_49 rfl (pc' := 50) rfl ?_
      refine A_get C (j := 0) cl_X5 rfl rfl lf_X5_39 dX5_place_50 (HPg_0 s o) rfl (pc' := 53) rfl ?_
      refine A_iload C dX5_place_53 rfl (pc' := 55) rfl ?_
      obtain ⟨q9, h10, hF⟩ := Option.bind_eq_some_iff.mp hF
      refine A_callVN C (av := [.int q7]) (rest := []) (st2 := [.int q9]) (k2 := 0) (n2 := 0) (F_X0_isPlaced_ok hu h10) mk_X0_isPlaced lm_X5_112 wi_X0_isPlaced wv_X0_isPlaced (HPg_8 s o) rfl rfl rfl rfl ⟨by decide, by decide⟩ (Nat.le_of_ble_eq_true rfl) rfl rfl dX5_place_55 rfl rfl rfl (pc' := 58) rfl ?_
      refine A_if_eq C dX5_place_58 (tgt := 71) (by decide) (pc' := 61) rfl (fun c11 => ?_) (fun c11 => ?_)
      · rw [if_pos c11] at hF
        refine A_aload_n C dX5_place_71 rfl (pc' := 72) rfl ?_
        refine A_get C (j := 3) cl_X5 rfl rfl lf_X5_26 dX5_place_72 (HPg_0 s o) rfl (pc' := 75) rfl ?_
        refine A_aload_n C dX5_place_75 rfl (pc' := 76) rfl ?_
        refine A_get C (j := 0) cl_X5 rfl rfl lf_X5_39 dX5_place_76 (HPg_0 s o) rfl (pc' := 79) rfl ?_
        refine A_getN C (j := 9) cl_X0 rfl rfl lf_X5_118 dX5_place_79 (HPg_8 s o) rfl (pc' := 82) rfl ?_
        obtain ⟨q12, h13, hF⟩ := Option.bind_eq_some_iff.mp hF
        refine A_callVN C (av := [.ref 20]) (rest := []) (st2 := []) (k2 := 0) (n2 := 0) (F_X2_draw_ok hu h13) mk_X2_draw lm_X5_121 wi_X2_draw wv_X2_draw (HPg_6 s o) rfl rfl rfl rfl ⟨by decide, by decide⟩ (Nat.le_of_ble_eq_true rfl) rfl rfl dX5_place_82 rfl rfl rfl (pc' := 85) rfl ?_
        refine A_aload_n C dX5_place_85 rfl (pc' := 86) rfl ?_
        refine A_get C (j := 0) cl_X5 rfl rfl lf_X5_39 dX5_place_86 (HPg_0 q12 o) rfl (pc' := 89) rfl ?_
        refine A_iload C dX5_place_89 rfl (pc' := 91) rfl ?_
        refine A_iload_n C dX5_place_91 rfl (pc' := 92) rfl ?_
        obtain ⟨q14, h15, hF⟩ := Option.bind_eq_some_iff.mp hF
        refine A_callVN C (av := [.int q7, .int a2]) (rest := []) (st2 := [.int q14.1]) (k2 := 0) (n2 := 0) (F_X0_putByRules_ok hu h15) mk_X0_putByRules lm_X5_125 wi_X0_putByRules wv_X0_putByRules (HPg_8 q12 o) rfl rfl rfl rfl ⟨by decide, by decide⟩ (Nat.le_of_ble_eq_true rfl) rfl rfl dX5_place_92 rfl rfl rfl (pc' := 95) rfl ?_
        refine A_istore C (lv' := [some (.ref 0), some (.int a0), some (.int a1), some (.int a2), some (.int q7), some (.int q14.1)]) dX5_place_95 rfl eN rfl rfl (pc' := 97) rfl ?_
        refine A_iload C dX5_place_97 rfl (pc' := 99) rfl ?_
        refine A_if_ne C dX5_place_99 (tgt := 109) (by decide) (pc' := 102) rfl (fun c16 => ?_) (fun c16 => ?_)
        · rw [if_neg c16] at hF
          refine A_iload C dX5_place_109 rfl (pc' := 111) rfl ?_
          cases hF
          exact A_iretX C T (Nat.zero_le _) (Nat.zero_le _) dX5_place_111
        · rw [if_pos c16] at hF
          refine A_aload_n C dX5_place_102 rfl (pc' := 103) rfl ?_
          refine A_get C (j := 3) cl_X5 rfl rfl lf_X5_26 dX5_place_103 (HPg_0 q14.2 o) rfl (pc' := 106) rfl ?_
          obtain ⟨q17, h18, hF⟩ := Option.bind_eq_some_iff.mp hF
          refine A_callVN C (av := []) (rest := []) (st2 := []) (k2 := 0) (n2 := 0) (F_X2_keep_ok hu h18) mk_X2_keep lm_X5_128 wi_X2_keep wv_X2_keep (HPg_6 q14.2 o) rfl rfl rfl rfl ⟨by decide, by decide⟩ (Nat.le_of_ble_eq_true rfl) rfl rfl dX5_place_106 rfl rfl rfl (pc' := 109) rfl ?_
          refine A_iload C dX5_place_109 rfl (pc' := 111) rfl ?_
          cases hF
          exact A_iretX C T (Nat.zero_le _) (Nat.zero_le _) dX5_place_111
      · rw [if_neg c11] at hF
        cases hF
        exact A_throwS C X T tw_X5_54_58 sw_X5_116 (by decide) rfl dX5_place_61 dX5_place_64 dX5_place_65 dX5_place_67 dX5_place_70
    · rw [if_pos c6] at hF
      cases hF
      exact A_throwS C X T tw_X5_43_47 sw_X5_107 (by decide) rfl dX5_place_32 dX5_place_35 dX5_place_36 dX5_place_38 dX5_place_41
def F_X5_drop (a0 : Int32) (a1 : Int32) (s : Sg) : Option ((Int32 × Sg) ⊕ Nat) :=
  (F_X3_hasItem a0 a1 s).bind fun q1 =>
  if q1 = 0 then
    some (.inr 1)
  else
    (F_X5_itemOf a0 a1 s).bind fun q4 =>
    (F_X0_isPlaced q4 s).bind fun q6 =>
    if q6 = 0 then
      some (.inr 2)
    else
      (F_X0_periodOfItem q4 s).bind fun q9 =>
      (F_X2_draw  s).bind fun q11 =>
      (F_X0_takeOut q4 q11).bind fun q13 =>
      (F_X2_keep  q13).bind fun q15 =>
      some (.inl (q9, q15))
set_option maxHeartbeats 4000000 in
set_option maxRecDepth 100000 in
theorem F_X5_drop_ok {u : Uv} (hu : Un u) {a0 a1 : Int32} {s : Sg} {o : Nat → Int64} {r : ((Int32 × Sg) ⊕ Nat)} (hF : F_X5_drop a0 a1 s = some r) : AX u (yX5_drop, cX5_drop, 5, (some .int)) 6 [.ref 0, .int a0, .int a1] (HP s o) (xr (fun q => (some (.int q.1), HP q.2 o)) r) := by
  refine AX.of hu (lv := [some (.ref 0), some (.int a0), some (.int a1), none, none]) (by decide) rfl (Nat.le_of_ble_eq_true rfl) rfl ?_
  intro Γ eu eN C X T
  subst eu
  have C : Cok Γ cX5_drop RX5 (some .int) 6 1 6 := C
  unfold F_X5_drop at hF
  refine A_aload_n C dX5_drop_0 rfl (pc' := 1) rfl ?_
  refine A_get C (j := 0) cl_X5 rfl rfl lf_X5_39 dX5_drop_1 (HPg_0 s o) rfl (pc' := 4) rfl ?_
  refine A_getN C (j := 5) cl_X0 rfl rfl lf_X5_70 dX5_drop_4 (HPg_8 s o) rfl (pc' := 7) rfl ?_
  refine A_iload_n C dX5_drop_7 rfl (pc' := 8) rfl ?_
  refine A_iload_n C dX5_drop_8 rfl (pc' := 9) rfl ?_
  obtain ⟨q1, h2, hF⟩ := Option.bind_eq_some_iff.mp hF
  refine A_callVN C (av := [.int a0, .int a1]) (rest := []) (st2 := [.int q1]) (k2 := 0) (n2 := 0) (F_X3_hasItem_ok hu h2) mk_X3_hasItem lm_X5_104 wi_X3_hasItem wv_X3_hasItem (HPg_9 s o) rfl rfl rfl rfl ⟨by decide, by decide⟩ (Nat.le_of_ble_eq_true rfl) rfl rfl dX5_drop_9 rfl rfl rfl (pc' := 12) rfl ?_
  refine A_if_ne C dX5_drop_12 (tgt := 25) (by decide) (pc' := 15) rfl (fun c3 => ?_) (fun c3 => ?_)
  · rw [if_neg c3] at hF
    refine A_iload_n C dX5_drop_25 rfl (pc' := 26) rfl ?_
    refine A_iload_n C dX5_drop_26 rfl (pc' := 27) rfl ?_
    obtain ⟨q4, h5, hF⟩ := Option.bind_eq_some_iff.mp hF
    refine A_callS C (av := [.int a0, .int a1]) (rest := []) (st2 := [.int q4]) (k2 := 0) (n2 := 0) (F_X5_itemOf_ok hu h5) mk_X5_itemOf lm_X5_109 ws_X5_itemOf rfl rfl rfl ⟨by decide, by decide⟩ (Nat.le_of_ble_eq_true rfl) rfl rfl dX5_drop_27 rfl rfl rfl (pc' := 30) rfl ?_
    refine A_istore_n C (lv' := [some (.ref 0), some (.int a0), some (.int a1), some (.int q4), none]) dX5_drop_30 rfl eN rfl rfl (pc' := 31) rfl ?_
    refine A_aload_n C dX5_drop_31 rfl (pc' := 32) rfl ?_
    refine A_get C (j := 0) cl_X5 rfl rfl lf_X5_39 dX5_drop_32 (HPg_0 s o) rfl (pc' := 35) rfl ?_
    refine A_iload_n C dX5_drop_35 rfl (pc' := 36) rfl ?_
    obtain ⟨q6, h7, hF⟩ := Option.bind_eq_some_iff.mp hF
    refine A_callVN C (av := [.int q4]) (rest := []) (st2 := [.int q6]) (k2 := 0) (n2 := 0) (F_X0_isPlaced_ok hu h7) mk_X0_isPlaced lm_X5_112 wi_X0_isPlaced wv_X0_isPlaced (HPg_8 s o) rfl rfl rfl rfl ⟨by decide, by decide⟩ (Nat.le_of_ble_eq_true rfl) rfl rfl dX5_drop_36 rfl rfl rfl (pc' := 39) rfl ?_
    refine A_if_ne C dX5_drop_39 (tgt := 52) (by decide) (pc' := 42) rfl (fun c8 => ?_) (fun c8 => ?_)
    · rw [if_neg c8] at hF
      refine A_aload_n C dX5_drop_52 rfl (pc' := 53) rfl ?_
      refine A_get C (j := 0) cl_X5 rfl rfl lf_X5_39 dX5_drop_53 (HPg_0 s o) rfl (pc' := 56) rfl ?_
      refine A_iload_n C dX5_drop_56 rfl (pc' := 57) rfl ?_
      obtain ⟨q9, h10, hF⟩ := Option.bind_eq_some_iff.mp hF
      refine A_callVN C (av := [.int q4]) (rest := []) (st2 := [.int q9]) (k2 := 0) (n2 := 0) (F_X0_periodOfItem_ok hu h10) mk_X0_periodOfItem lm_X5_135 wi_X0_periodOfItem wv_X0_periodOfItem (HPg_8 s o) rfl rfl rfl rfl ⟨by decide, by decide⟩ (Nat.le_of_ble_eq_true rfl) rfl rfl dX5_drop_57 rfl rfl rfl (pc' := 60) rfl ?_
      refine A_istore C (lv' := [some (.ref 0), some (.int a0), some (.int a1), some (.int q4), some (.int q9)]) dX5_drop_60 rfl eN rfl rfl (pc' := 62) rfl ?_
      refine A_aload_n C dX5_drop_62 rfl (pc' := 63) rfl ?_
      refine A_get C (j := 3) cl_X5 rfl rfl lf_X5_26 dX5_drop_63 (HPg_0 s o) rfl (pc' := 66) rfl ?_
      refine A_aload_n C dX5_drop_66 rfl (pc' := 67) rfl ?_
      refine A_get C (j := 0) cl_X5 rfl rfl lf_X5_39 dX5_drop_67 (HPg_0 s o) rfl (pc' := 70) rfl ?_
      refine A_getN C (j := 9) cl_X0 rfl rfl lf_X5_118 dX5_drop_70 (HPg_8 s o) rfl (pc' := 73) rfl ?_
      obtain ⟨q11, h12, hF⟩ := Option.bind_eq_some_iff.mp hF
      refine A_callVN C (av := [.ref 20]) (rest := []) (st2 := []) (k2 := 0) (n2 := 0) (F_X2_draw_ok hu h12) mk_X2_draw lm_X5_121 wi_X2_draw wv_X2_draw (HPg_6 s o) rfl rfl rfl rfl ⟨by decide, by decide⟩ (Nat.le_of_ble_eq_true rfl) rfl rfl dX5_drop_73 rfl rfl rfl (pc' := 76) rfl ?_
      refine A_aload_n C dX5_drop_76 rfl (pc' := 77) rfl ?_
      refine A_get C (j := 0) cl_X5 rfl rfl lf_X5_39 dX5_drop_77 (HPg_0 q11 o) rfl (pc' := 80) rfl ?_
      refine A_iload_n C dX5_drop_80 rfl (pc' := 81) rfl ?_
      obtain ⟨q13, h14, hF⟩ := Option.bind_eq_some_iff.mp hF
      refine A_callVN C (av := [.int q4]) (rest := []) (st2 := []) (k2 := 0) (n2 := 0) (F_X0_takeOut_ok hu h14) mk_X0_takeOut lm_X5_139 wi_X0_takeOut wv_X0_takeOut (HPg_8 q11 o) rfl rfl rfl rfl ⟨by decide, by decide⟩ (Nat.le_of_ble_eq_true rfl) rfl rfl dX5_drop_81 rfl rfl rfl (pc' := 84) rfl ?_
      refine A_aload_n C dX5_drop_84 rfl (pc' := 85) rfl ?_
      refine A_get C (j := 3) cl_X5 rfl rfl lf_X5_26 dX5_drop_85 (HPg_0 q13 o) rfl (pc' := 88) rfl ?_
      obtain ⟨q15, h16, hF⟩ := Option.bind_eq_some_iff.mp hF
      refine A_callVN C (av := []) (rest := []) (st2 := []) (k2 := 0) (n2 := 0) (F_X2_keep_ok hu h16) mk_X2_keep lm_X5_128 wi_X2_keep wv_X2_keep (HPg_6 q13 o) rfl rfl rfl rfl ⟨by decide, by decide⟩ (Nat.le_of_ble_eq_true rfl) rfl rfl dX5_drop_88 rfl rfl rfl (pc' := 91) rfl ?_
      refine A_iload C dX5_drop_91 rfl (pc' := 93) rfl ?_
      cases hF
      exact A_iretX C T (Nat.zero_le _) (Nat.zero_le _) dX5_drop_93
    · rw [if_pos c8] at hF
      cases hF
      exact A_throwS C X T tw_X5_54_58 sw_X5_133 (by decide) rfl dX5_drop_42 dX5_drop_45 dX5_drop_46 dX5_drop_48 dX5_drop_51
  · rw [if_pos c3] at hF
    cases hF
    exact A_throwS C X T tw_X5_43_47 sw_X5_131 (by decide) rfl dX5_drop_15 dX5_drop_18 dX5_drop_19 dX5_drop_21 dX5_drop_24
def F_X5_fill (a0 : Int32) (s : Sg) : Option ((Int32 × Sg) ⊕ Nat) :=
  (F_X5_isWithin a0 (1 : Int32) (20000 : Int32) s).bind fun q1 =>
  if q1 = 0 then
    some (.inr 1)
  else
    (F_X2_draw  s).bind fun q4 =>
    (F_X4_run a0 q4).bind fun q6 =>
    if q6.1 = (1 : Int32) then
      if (q6.2 202 0) ≤ 0 then
        some (.inl (q6.1, q6.2))
      else
        (F_X2_keep  q6.2).bind fun q10 =>
        some (.inl (q6.1, q10))
    else
      some (.inl (q6.1, q6.2))
set_option maxHeartbeats 4000000 in
set_option maxRecDepth 100000 in
theorem F_X5_fill_ok {u : Uv} (hu : Un u) {a0 : Int32} {s : Sg} {o : Nat → Int64} {r : ((Int32 × Sg) ⊕ Nat)} (hF : F_X5_fill a0 s = some r) : AX u (yX5_fill, cX5_fill, 3, (some .int)) 6 [.ref 0, .int a0] (HP s o) (xr (fun q => (some (.int q.1), HP q.2 o)) r) := by
  refine AX.of hu (lv := [some (.ref 0), some (.int a0), none]) (by decide) rfl (Nat.le_of_ble_eq_true rfl) rfl ?_
  intro Γ eu eN C X T
  subst eu
  have C : Cok Γ cX5_fill RX5 (some .int) 6 1 6 := C
  unfold F_X5_fill at hF
  refine A_iload_n C dX5_fill_0 rfl (pc' := 1) rfl ?_
  refine A_iconst C (x := 1) dX5_fill_1 (by decide) (pc' := 2) rfl ?_
  refine A_sipush C (x := 20000) dX5_fill_2 (by decide) (pc' := 5) rfl ?_
  obtain ⟨q1, h2, hF⟩ := Option.bind_eq_some_iff.mp hF
  refine A_callS C (av := [.int a0, .int (1 : Int32), .int (20000 : Int32)]) (rest := []) (st2 := [.int q1]) (k2 := 0) (n2 := 0) (F_X5_isWithin_ok hu h2) mk_X5_isWithin lm_X5_32 ws_X5_isWithin rfl rfl rfl ⟨by decide, by decide⟩ (Nat.le_of_ble_eq_true rfl) rfl rfl dX5_fill_5 rfl rfl rfl (pc' := 8) rfl ?_
  refine A_if_ne C dX5_fill_8 (tgt := 21) (by decide) (pc' := 11) rfl (fun c3 => ?_) (fun c3 => ?_)
  · rw [if_neg c3] at hF
    refine A_aload_n C dX5_fill_21 rfl (pc' := 22) rfl ?_
    refine A_get C (j := 3) cl_X5 rfl rfl lf_X5_26 dX5_fill_22 (HPg_0 s o) rfl (pc' := 25) rfl ?_
    refine A_aload_n C dX5_fill_25 rfl (pc' := 26) rfl ?_
    refine A_get C (j := 0) cl_X5 rfl rfl lf_X5_39 dX5_fill_26 (HPg_0 s o) rfl (pc' := 29) rfl ?_
    refine A_getN C (j := 9) cl_X0 rfl rfl lf_X5_118 dX5_fill_29 (HPg_8 s o) rfl (pc' := 32) rfl ?_
    obtain ⟨q4, h5, hF⟩ := Option.bind_eq_some_iff.mp hF
    refine A_callVN C (av := [.ref 20]) (rest := []) (st2 := []) (k2 := 0) (n2 := 0) (F_X2_draw_ok hu h5) mk_X2_draw lm_X5_121 wi_X2_draw wv_X2_draw (HPg_6 s o) rfl rfl rfl rfl ⟨by decide, by decide⟩ (Nat.le_of_ble_eq_true rfl) rfl rfl dX5_fill_32 rfl rfl rfl (pc' := 35) rfl ?_
    refine A_aload_n C dX5_fill_35 rfl (pc' := 36) rfl ?_
    refine A_get C (j := 1) cl_X5 rfl rfl lf_X5_12 dX5_fill_36 (HPg_0 q4 o) rfl (pc' := 39) rfl ?_
    refine A_aload_n C dX5_fill_39 rfl (pc' := 40) rfl ?_
    refine A_get C (j := 0) cl_X5 rfl rfl lf_X5_39 dX5_fill_40 (HPg_0 q4 o) rfl (pc' := 43) rfl ?_
    refine A_iload_n C dX5_fill_43 rfl (pc' := 44) rfl ?_
    obtain ⟨q6, h7, hF⟩ := Option.bind_eq_some_iff.mp hF
    refine A_callVN C (av := [.ref 8, .int a0]) (rest := []) (st2 := [.int q6.1]) (k2 := 0) (n2 := 0) (F_X4_run_ok hu h7) mk_X4_run lm_X5_145 wi_X4_run wv_X4_run (HPg_1 q4 o) rfl rfl rfl rfl ⟨by decide, by decide⟩ (Nat.le_of_ble_eq_true rfl) rfl rfl dX5_fill_44 rfl rfl rfl (pc' := 47) rfl ?_
    refine A_istore_n C (lv' := [some (.ref 0), some (.int a0), some (.int q6.1)]) dX5_fill_47 rfl eN rfl rfl (pc' := 48) rfl ?_
    refine A_iload_n C dX5_fill_48 rfl (pc' := 49) rfl ?_
    refine A_iconst C (x := 1) dX5_fill_49 (by decide) (pc' := 50) rfl ?_
    refine A_icmp_ne C dX5_fill_50 (tgt := 70) (by decide) (pc' := 53) rfl (fun c8 => ?_) (fun c8 => ?_)
    · rw [if_neg c8] at hF
      refine A_iload_n C dX5_fill_70 rfl (pc' := 71) rfl ?_
      cases hF
      exact A_iretX C T (Nat.zero_le _) (Nat.zero_le _) dX5_fill_71
    · rw [if_pos c8] at hF
      refine A_aload_n C dX5_fill_53 rfl (pc' := 54) rfl ?_
      refine A_get C (j := 1) cl_X5 rfl rfl lf_X5_12 dX5_fill_54 (HPg_0 q6.2 o) rfl (pc' := 57) rfl ?_
      refine A_getN C (j := 2) cl_X4 rfl rfl lf_X5_149 dX5_fill_57 (HPg_1 q6.2 o) rfl (pc' := 60) rfl ?_
      refine A_if_le C dX5_fill_60 (tgt := 70) (by decide) (pc' := 63) rfl (fun c9 => ?_) (fun c9 => ?_)
      · rw [if_pos c9] at hF
        refine A_iload_n C dX5_fill_70 rfl (pc' := 71) rfl ?_
        cases hF
        exact A_iretX C T (Nat.zero_le _) (Nat.zero_le _) dX5_fill_71
      · rw [if_neg c9] at hF
        refine A_aload_n C dX5_fill_63 rfl (pc' := 64) rfl ?_
        refine A_get C (j := 3) cl_X5 rfl rfl lf_X5_26 dX5_fill_64 (HPg_0 q6.2 o) rfl (pc' := 67) rfl ?_
        obtain ⟨q10, h11, hF⟩ := Option.bind_eq_some_iff.mp hF
        refine A_callVN C (av := []) (rest := []) (st2 := []) (k2 := 0) (n2 := 0) (F_X2_keep_ok hu h11) mk_X2_keep lm_X5_128 wi_X2_keep wv_X2_keep (HPg_6 q6.2 o) rfl rfl rfl rfl ⟨by decide, by decide⟩ (Nat.le_of_ble_eq_true rfl) rfl rfl dX5_fill_67 rfl rfl rfl (pc' := 70) rfl ?_
        refine A_iload_n C dX5_fill_70 rfl (pc' := 71) rfl ?_
        cases hF
        exact A_iretX C T (Nat.zero_le _) (Nat.zero_le _) dX5_fill_71
  · rw [if_pos c3] at hF
    cases hF
    exact A_throwS C X T tw_X5_43_47 sw_X5_143 (by decide) rfl dX5_fill_11 dX5_fill_14 dX5_fill_15 dX5_fill_17 dX5_fill_20
def F_X5_period (a0 : Int32) (a1 : Int32) (s : Sg) : Option (Int32 ⊕ Nat) :=
  (F_X3_hasItem a0 a1 s).bind fun q1 =>
  if q1 = 0 then
    some (.inr 1)
  else
    (F_X5_itemOf a0 a1 s).bind fun q4 =>
    (F_X0_periodOfItem q4 s).bind fun q6 =>
    some (.inl q6)
set_option maxHeartbeats 4000000 in
set_option maxRecDepth 100000 in
theorem F_X5_period_ok {u : Uv} (hu : Un u) {a0 a1 : Int32} {s : Sg} {o : Nat → Int64} {r : (Int32 ⊕ Nat)} (hF : F_X5_period a0 a1 s = some r) : AX u (yX5_period, cX5_period, 3, (some .int)) 6 [.ref 0, .int a0, .int a1] (HP s o) (xr (fun q => (some (.int q), HP s o)) r) := by
  refine AX.of hu (lv := [some (.ref 0), some (.int a0), some (.int a1)]) (by decide) rfl (Nat.le_of_ble_eq_true rfl) rfl ?_
  intro Γ eu eN C X T
  subst eu
  have C : Cok Γ cX5_period RX5 (some .int) 6 1 6 := C
  unfold F_X5_period at hF
  refine A_aload_n C dX5_period_0 rfl (pc' := 1) rfl ?_
  refine A_get C (j := 0) cl_X5 rfl rfl lf_X5_39 dX5_period_1 (HPg_0 s o) rfl (pc' := 4) rfl ?_
  refine A_getN C (j := 5) cl_X0 rfl rfl lf_X5_70 dX5_period_4 (HPg_8 s o) rfl (pc' := 7) rfl ?_
  refine A_iload_n C dX5_period_7 rfl (pc' := 8) rfl ?_
  refine A_iload_n C dX5_period_8 rfl (pc' := 9) rfl ?_
  obtain ⟨q1, h2, hF⟩ := Option.bind_eq_some_iff.mp hF
  refine A_callVN C (av := [.int a0, .int a1]) (rest := []) (st2 := [.int q1]) (k2 := 0) (n2 := 0) (F_X3_hasItem_ok hu h2) mk_X3_hasItem lm_X5_104 wi_X3_hasItem wv_X3_hasItem (HPg_9 s o) rfl rfl rfl rfl ⟨by decide, by decide⟩ (Nat.le_of_ble_eq_true rfl) rfl rfl dX5_period_9 rfl rfl rfl (pc' := 12) rfl ?_
  refine A_if_ne C dX5_period_12 (tgt := 25) (by decide) (pc' := 15) rfl (fun c3 => ?_) (fun c3 => ?_)
  · rw [if_neg c3] at hF
    refine A_aload_n C dX5_period_25 rfl (pc' := 26) rfl ?_
    refine A_get C (j := 0) cl_X5 rfl rfl lf_X5_39 dX5_period_26 (HPg_0 s o) rfl (pc' := 29) rfl ?_
    refine A_iload_n C dX5_period_29 rfl (pc' := 30) rfl ?_
    refine A_iload_n C dX5_period_30 rfl (pc' := 31) rfl ?_
    obtain ⟨q4, h5, hF⟩ := Option.bind_eq_some_iff.mp hF
    refine A_callS C (av := [.int a0, .int a1]) (rest := [.ref 8]) (st2 := [.int q4, .ref 8]) (k2 := 0) (n2 := 0) (F_X5_itemOf_ok hu h5) mk_X5_itemOf lm_X5_109 ws_X5_itemOf rfl rfl rfl ⟨by decide, by decide⟩ (Nat.le_of_ble_eq_true rfl) rfl rfl dX5_period_31 rfl rfl rfl (pc' := 34) rfl ?_
    obtain ⟨q6, h7, hF⟩ := Option.bind_eq_some_iff.mp hF
    refine A_callVN C (av := [.int q4]) (rest := []) (st2 := [.int q6]) (k2 := 0) (n2 := 0) (F_X0_periodOfItem_ok hu h7) mk_X0_periodOfItem lm_X5_135 wi_X0_periodOfItem wv_X0_periodOfItem (HPg_8 s o) rfl rfl rfl rfl ⟨by decide, by decide⟩ (Nat.le_of_ble_eq_true rfl) rfl rfl dX5_period_34 rfl rfl rfl (pc' := 37) rfl ?_
    cases hF
    exact A_iretX C T (Nat.zero_le _) (Nat.zero_le _) dX5_period_37
  · rw [if_pos c3] at hF
    cases hF
    exact A_throwS C X T tw_X5_43_47 sw_X5_131 (by decide) rfl dX5_period_15 dX5_period_18 dX5_period_19 dX5_period_21 dX5_period_24
def F_X5_roomOf (a0 : Int32) (a1 : Int32) (s : Sg) : Option (Int32 ⊕ Nat) :=
  (F_X3_hasItem a0 a1 s).bind fun q1 =>
  if q1 = 0 then
    some (.inr 1)
  else
    (F_X5_itemOf a0 a1 s).bind fun q4 =>
    (F_X0_roomOfItem q4 s).bind fun q6 =>
    some (.inl q6)
set_option maxHeartbeats 4000000 in
set_option maxRecDepth 100000 in
theorem F_X5_roomOf_ok {u : Uv} (hu : Un u) {a0 a1 : Int32} {s : Sg} {o : Nat → Int64} {r : (Int32 ⊕ Nat)} (hF : F_X5_roomOf a0 a1 s = some r) : AX u (yX5_roomOf, cX5_roomOf, 3, (some .int)) 6 [.ref 0, .int a0, .int a1] (HP s o) (xr (fun q => (some (.int q), HP s o)) r) := by
  refine AX.of hu (lv := [some (.ref 0), some (.int a0), some (.int a1)]) (by decide) rfl (Nat.le_of_ble_eq_true rfl) rfl ?_
  intro Γ eu eN C X T
  subst eu
  have C : Cok Γ cX5_roomOf RX5 (some .int) 6 1 6 := C
  unfold F_X5_roomOf at hF
  refine A_aload_n C dX5_roomOf_0 rfl (pc' := 1) rfl ?_
  refine A_get C (j := 0) cl_X5 rfl rfl lf_X5_39 dX5_roomOf_1 (HPg_0 s o) rfl (pc' := 4) rfl ?_
  refine A_getN C (j := 5) cl_X0 rfl rfl lf_X5_70 dX5_roomOf_4 (HPg_8 s o) rfl (pc' := 7) rfl ?_
  refine A_iload_n C dX5_roomOf_7 rfl (pc' := 8) rfl ?_
  refine A_iload_n C dX5_roomOf_8 rfl (pc' := 9) rfl ?_
  obtain ⟨q1, h2, hF⟩ := Option.bind_eq_some_iff.mp hF
  refine A_callVN C (av := [.int a0, .int a1]) (rest := []) (st2 := [.int q1]) (k2 := 0) (n2 := 0) (F_X3_hasItem_ok hu h2) mk_X3_hasItem lm_X5_104 wi_X3_hasItem wv_X3_hasItem (HPg_9 s o) rfl rfl rfl rfl ⟨by decide, by decide⟩ (Nat.le_of_ble_eq_true rfl) rfl rfl dX5_roomOf_9 rfl rfl rfl (pc' := 12) rfl ?_
  refine A_if_ne C dX5_roomOf_12 (tgt := 25) (by decide) (pc' := 15) rfl (fun c3 => ?_) (fun c3 => ?_)
  · rw [if_neg c3] at hF
    refine A_aload_n C dX5_roomOf_25 rfl (pc' := 26) rfl ?_
    refine A_get C (j := 0) cl_X5 rfl rfl lf_X5_39 dX5_roomOf_26 (HPg_0 s o) rfl (pc' := 29) rfl ?_
    refine A_iload_n C dX5_roomOf_29 rfl (pc' := 30) rfl ?_
    refine A_iload_n C dX5_roomOf_30 rfl (pc' := 31) rfl ?_
    obtain ⟨q4, h5, hF⟩ := Option.bind_eq_some_iff.mp hF
    refine A_callS C (av := [.int a0, .int a1]) (rest := [.ref 8]) (st2 := [.int q4, .ref 8]) (k2 := 0) (n2 := 0) (F_X5_itemOf_ok hu h5) mk_X5_itemOf lm_X5_109 ws_X5_itemOf rfl rfl rfl ⟨by decide, by decide⟩ (Nat.le_of_ble_eq_true rfl) rfl rfl dX5_roomOf_31 rfl rfl rfl (pc' := 34) rfl ?_
    obtain ⟨q6, h7, hF⟩ := Option.bind_eq_some_iff.mp hF
    refine A_callVN C (av := [.int q4]) (rest := []) (st2 := [.int q6]) (k2 := 0) (n2 := 0) (F_X0_roomOfItem_ok hu h7) mk_X0_roomOfItem lm_X5_155 wi_X0_roomOfItem wv_X0_roomOfItem (HPg_8 s o) rfl rfl rfl rfl ⟨by decide, by decide⟩ (Nat.le_of_ble_eq_true rfl) rfl rfl dX5_roomOf_34 rfl rfl rfl (pc' := 37) rfl ?_
    cases hF
    exact A_iretX C T (Nat.zero_le _) (Nat.zero_le _) dX5_roomOf_37
  · rw [if_pos c3] at hF
    cases hF
    exact A_throwS C X T tw_X5_43_47 sw_X5_131 (by decide) rfl dX5_roomOf_15 dX5_roomOf_18 dX5_roomOf_19 dX5_roomOf_21 dX5_roomOf_24
def L_X5_improve_38 : Nat → Int32 → Int32 → Int32 → Sg → Option (Int32 × Sg)
  | 0, _, _, _, _ => none
  | fu + 1, b1, b2, b3, s =>
    if b1 ≤ b3 then
      some (b2, s)
    else
      (F_X0_betterAll  s).bind fun q16 =>
      if q16.1 = 0 then
        some (b2, q16.2)
      else
        bnd (b3 + (1 : Int32)) fun x19 =>
        L_X5_improve_38 fu b1 (1 : Int32) x19 q16.2
def F_X5_improve (a0 : Int32) (s : Sg) : Option ((Int32 × Sg) ⊕ Nat) :=
  jn (fun (x1 : Int32) (s2 : Sg) => if x1 = 0 then
        (F_X0_weekPenalty  s2).bind fun q4 =>
        some (.inl (q4, s2))
      else
        (F_X2_keep  s2).bind fun q6 =>
        (F_X0_weekPenalty  q6).bind fun q8 =>
        some (.inl (q8, q6))) fun J64 =>
  (F_X5_isWithin a0 (1 : Int32) (10 : Int32) s).bind fun q10 =>
  if q10 = 0 then
    some (.inr 1)
  else
    (F_X2_draw  s).bind fun q13 =>
    (L_X5_improve_38 FU a0 (0 : Int32) (0 : Int32) q13).bind fun q21 =>
    J64 q21.1 q21.2
set_option maxHeartbeats 4000000 in
set_option maxRecDepth 100000 in
theorem L_X5_improve_38_ok {Γ : Cx} (hu : Un Γ.2.1) (eN : 4 = Γ.2.2.2.2.2) (C : Cok Γ cX5_improve RX5 (some .int) 6 1 6) {o : Nat → Int64} : ∀ (fu : Nat) (b1 : Int32) (b2 : Int32) (b3 : Int32) (s : Sg) (q : (Int32 × Sg)), L_X5_improve_38 fu b1 b2 b3 s = some q → AW Γ (HP q.2 o) 0 0 [some (.ref 0), none, some (.int q.1), none] [] 64 → AW Γ (HP s o) 0 0 [some (.ref 0), some (.int b1), some (.int b2), some (.int b3)] [] 38 := by
  intro fu
  induction fu with
  | zero => intro b1 b2 b3 s q hF; rw [L_X5_improve_38] at hF; cases hF
  | succ fu ih =>
    intro b1 b2 b3 s q hF hexit
    rw [L_X5_improve_38] at hF
    refine A_iload_n C dX5_improve_38 rfl (pc' := 39) rfl ?_
    refine A_iload_n C dX5_improve_39 rfl (pc' := 40) rfl ?_
    refine A_icmp_ge C dX5_improve_40 (tgt := 64) (by decide) (pc' := 43) rfl (fun c15 => ?_) (fun c15 => ?_)
    · rw [if_pos c15] at hF
      cases hF
      refine A_mask [true, false, true, false] (lv' := [some (.ref 0), none, some (.int b2), none]) rfl ?_
      exact hexit
    · rw [if_neg c15] at hF
      refine A_aload_n C dX5_improve_43 rfl (pc' := 44) rfl ?_
      refine A_get C (j := 0) cl_X5 rfl rfl lf_X5_39 dX5_improve_44 (HPg_0 s o) rfl (pc' := 47) rfl ?_
      obtain ⟨q16, h17, hF⟩ := Option.bind_eq_some_iff.mp hF
      refine A_callVN C (av := []) (rest := []) (st2 := [.int q16.1]) (k2 := 0) (n2 := 0) (F_X0_betterAll_ok hu h17) mk_X0_betterAll lm_X5_164 wi_X0_betterAll wv_X0_betterAll (HPg_8 s o) rfl rfl rfl rfl ⟨by decide, by decide⟩ (Nat.le_of_ble_eq_true rfl) rfl rfl dX5_improve_47 rfl rfl rfl (pc' := 50) rfl ?_
      refine A_if_ne C dX5_improve_50 (tgt := 56) (by decide) (pc' := 53) rfl (fun c18 => ?_) (fun c18 => ?_)
      · rw [if_neg c18] at hF
        refine A_iconst C (x := 1) dX5_improve_56 (by decide) (pc' := 57) rfl ?_
        refine A_istore_n C (lv' := [some (.ref 0), some (.int b1), some (.int (1 : Int32)), some (.int b3)]) dX5_improve_57 rfl eN rfl rfl (pc' := 58) rfl ?_
        obtain ⟨x19, e20, hF⟩ := bnd_some hF
        refine A_iinc C (lv' := [some (.ref 0), some (.int b1), some (.int (1 : Int32)), some (.int x19)]) dX5_improve_58 rfl (by rw [e20]; rfl) rfl eN rfl rfl (pc' := 61) rfl ?_
        refine A_goto C dX5_improve_61 (tgt := 38) (by decide) ?_
        refine A_mask [true, true, true, true] (lv' := [some (.ref 0), some (.int b1), some (.int (1 : Int32)), some (.int x19)]) rfl ?_
        exact ih b1 (1 : Int32) x19 q16.2 q hF hexit
      · rw [if_pos c18] at hF
        refine A_goto C dX5_improve_53 (tgt := 64) (by decide) ?_
        cases hF
        refine A_mask [true, false, true, false] (lv' := [some (.ref 0), none, some (.int b2), none]) rfl ?_
        exact hexit
set_option maxHeartbeats 4000000 in
set_option maxRecDepth 100000 in
theorem F_X5_improve_ok {u : Uv} (hu : Un u) {a0 : Int32} {s : Sg} {o : Nat → Int64} {r : ((Int32 × Sg) ⊕ Nat)} (hF : F_X5_improve a0 s = some r) : AX u (yX5_improve, cX5_improve, 4, (some .int)) 6 [.ref 0, .int a0] (HP s o) (xr (fun q => (some (.int q.1), HP q.2 o)) r) := by
  refine AX.of hu (lv := [some (.ref 0), some (.int a0), none, none]) (by decide) rfl (Nat.le_of_ble_eq_true rfl) rfl ?_
  intro Γ eu eN C X T
  subst eu
  have C : Cok Γ cX5_improve RX5 (some .int) 6 1 6 := C
  unfold F_X5_improve at hF
  obtain ⟨J64, eJ64, hF⟩ := jn_some hF
  have hJ64 : ∀ (x1 : Int32) (s2 : Sg), J64 x1 s2 = some r → AW Γ (HP s2 o) 0 0 [some (.ref 0), none, some (.int x1), none] [] 64 := by
    intro x1 s2 hF
    rw [eJ64] at hF
    dsimp only at hF
    refine A_iload_n C dX5_improve_64 rfl (pc' := 65) rfl ?_
    refine A_if_eq C dX5_improve_65 (tgt := 75) (by decide) (pc' := 68) rfl (fun c3 => ?_) (fun c3 => ?_)
    · rw [if_pos c3] at hF
      refine A_aload_n C dX5_improve_75 rfl (pc' := 76) rfl ?_
      refine A_get C (j := 0) cl_X5 rfl rfl lf_X5_39 dX5_improve_76 (HPg_0 s2 o) rfl (pc' := 79) rfl ?_
      obtain ⟨q4, h5, hF⟩ := Option.bind_eq_some_iff.mp hF
      refine A_callVN C (av := []) (rest := []) (st2 := [.int q4]) (k2 := 0) (n2 := 0) (F_X0_weekPenalty_ok hu h5) mk_X0_weekPenalty lm_X5_158 wi_X0_weekPenalty wv_X0_weekPenalty (HPg_8 s2 o) rfl rfl rfl rfl ⟨by decide, by decide⟩ (Nat.le_of_ble_eq_true rfl) rfl rfl dX5_improve_79 rfl rfl rfl (pc' := 82) rfl ?_
      cases hF
      exact A_iretX C T (Nat.zero_le _) (Nat.zero_le _) dX5_improve_82
    · rw [if_neg c3] at hF
      refine A_aload_n C dX5_improve_68 rfl (pc' := 69) rfl ?_
      refine A_get C (j := 3) cl_X5 rfl rfl lf_X5_26 dX5_improve_69 (HPg_0 s2 o) rfl (pc' := 72) rfl ?_
      obtain ⟨q6, h7, hF⟩ := Option.bind_eq_some_iff.mp hF
      refine A_callVN C (av := []) (rest := []) (st2 := []) (k2 := 0) (n2 := 0) (F_X2_keep_ok hu h7) mk_X2_keep lm_X5_128 wi_X2_keep wv_X2_keep (HPg_6 s2 o) rfl rfl rfl rfl ⟨by decide, by decide⟩ (Nat.le_of_ble_eq_true rfl) rfl rfl dX5_improve_72 rfl rfl rfl (pc' := 75) rfl ?_
      refine A_aload_n C dX5_improve_75 rfl (pc' := 76) rfl ?_
      refine A_get C (j := 0) cl_X5 rfl rfl lf_X5_39 dX5_improve_76 (HPg_0 q6 o) rfl (pc' := 79) rfl ?_
      obtain ⟨q8, h9, hF⟩ := Option.bind_eq_some_iff.mp hF
      refine A_callVN C (av := []) (rest := []) (st2 := [.int q8]) (k2 := 0) (n2 := 0) (F_X0_weekPenalty_ok hu h9) mk_X0_weekPenalty lm_X5_158 wi_X0_weekPenalty wv_X0_weekPenalty (HPg_8 q6 o) rfl rfl rfl rfl ⟨by decide, by decide⟩ (Nat.le_of_ble_eq_true rfl) rfl rfl dX5_improve_79 rfl rfl rfl (pc' := 82) rfl ?_
      cases hF
      exact A_iretX C T (Nat.zero_le _) (Nat.zero_le _) dX5_improve_82
  clear eJ64
  refine A_iload_n C dX5_improve_0 rfl (pc' := 1) rfl ?_
  refine A_iconst C (x := 1) dX5_improve_1 (by decide) (pc' := 2) rfl ?_
  refine A_bipush C (x := 10) dX5_improve_2 (by decide) (pc' := 4) rfl ?_
  obtain ⟨q10, h11, hF⟩ := Option.bind_eq_some_iff.mp hF
  refine A_callS C (av := [.int a0, .int (1 : Int32), .int (10 : Int32)]) (rest := []) (st2 := [.int q10]) (k2 := 0) (n2 := 0) (F_X5_isWithin_ok hu h11) mk_X5_isWithin lm_X5_32 ws_X5_isWithin rfl rfl rfl ⟨by decide, by decide⟩ (Nat.le_of_ble_eq_true rfl) rfl rfl dX5_improve_4 rfl rfl rfl (pc' := 7) rfl ?_
  refine A_if_ne C dX5_improve_7 (tgt := 20) (by decide) (pc' := 10) rfl (fun c12 => ?_) (fun c12 => ?_)
  · rw [if_neg c12] at hF
    refine A_aload_n C dX5_improve_20 rfl (pc' := 21) rfl ?_
    refine A_get C (j := 3) cl_X5 rfl rfl lf_X5_26 dX5_improve_21 (HPg_0 s o) rfl (pc' := 24) rfl ?_
    refine A_aload_n C dX5_improve_24 rfl (pc' := 25) rfl ?_
    refine A_get C (j := 0) cl_X5 rfl rfl lf_X5_39 dX5_improve_25 (HPg_0 s o) rfl (pc' := 28) rfl ?_
    refine A_getN C (j := 9) cl_X0 rfl rfl lf_X5_118 dX5_improve_28 (HPg_8 s o) rfl (pc' := 31) rfl ?_
    obtain ⟨q13, h14, hF⟩ := Option.bind_eq_some_iff.mp hF
    refine A_callVN C (av := [.ref 20]) (rest := []) (st2 := []) (k2 := 0) (n2 := 0) (F_X2_draw_ok hu h14) mk_X2_draw lm_X5_121 wi_X2_draw wv_X2_draw (HPg_6 s o) rfl rfl rfl rfl ⟨by decide, by decide⟩ (Nat.le_of_ble_eq_true rfl) rfl rfl dX5_improve_31 rfl rfl rfl (pc' := 34) rfl ?_
    refine A_iconst C (x := 0) dX5_improve_34 (by decide) (pc' := 35) rfl ?_
    refine A_istore_n C (lv' := [some (.ref 0), some (.int a0), some (.int (0 : Int32)), none]) dX5_improve_35 rfl eN rfl rfl (pc' := 36) rfl ?_
    refine A_iconst C (x := 0) dX5_improve_36 (by decide) (pc' := 37) rfl ?_
    refine A_istore_n C (lv' := [some (.ref 0), some (.int a0), some (.int (0 : Int32)), some (.int (0 : Int32))]) dX5_improve_37 rfl eN rfl rfl (pc' := 38) rfl ?_
    obtain ⟨q21, h22, hF⟩ := Option.bind_eq_some_iff.mp hF
    refine A_mask [true, true, true, true] (lv' := [some (.ref 0), some (.int a0), some (.int (0 : Int32)), some (.int (0 : Int32))]) rfl ?_
    refine L_X5_improve_38_ok hu eN C FU a0 (0 : Int32) (0 : Int32) q13 q21 h22 ?_
    refine A_mask [true, false, true, false] (lv' := [some (.ref 0), none, some (.int q21.1), none]) rfl ?_
    exact hJ64 q21.1 q21.2 hF
  · rw [if_pos c12] at hF
    cases hF
    exact A_throwS C X T tw_X5_43_47 sw_X5_162 (by decide) rfl dX5_improve_10 dX5_improve_13 dX5_improve_14 dX5_improve_16 dX5_improve_19
def F_X5_absent (a0 : Int32) (a1 : Int32) (s : Sg) : Option ((Int32 × Sg) ⊕ Nat) :=
  (F_X5_isWithin a0 (0 : Int32) (7 : Int32) s).bind fun q1 =>
  if q1 = 0 then
    some (.inr 1)
  else
    (F_X5_isWithin a1 (0 : Int32) ((s 900 0) - (1 : Int32)) s).bind fun q4 =>
    if q4 = 0 then
      some (.inr 1)
    else
      (F_X1_find a0 a1 s).bind fun q7 =>
      some (.inl ((q7 501 0), q7))
set_option maxHeartbeats 4000000 in
set_option maxRecDepth 100000 in
theorem F_X5_absent_ok {u : Uv} (hu : Un u) {a0 a1 : Int32} {s : Sg} {o : Nat → Int64} {r : ((Int32 × Sg) ⊕ Nat)} (hF : F_X5_absent a0 a1 s = some r) : AX u (yX5_absent, cX5_absent, 3, (some .int)) 6 [.ref 0, .int a0, .int a1] (HP s o) (xr (fun q => (some (.int q.1), HP q.2 o)) r) := by
  refine AX.of hu (lv := [some (.ref 0), some (.int a0), some (.int a1)]) (by decide) rfl (Nat.le_of_ble_eq_true rfl) rfl ?_
  intro Γ eu eN C X T
  subst eu
  have C : Cok Γ cX5_absent RX5 (some .int) 6 1 6 := C
  unfold F_X5_absent at hF
  refine A_iload_n C dX5_absent_0 rfl (pc' := 1) rfl ?_
  refine A_iconst C (x := 0) dX5_absent_1 (by decide) (pc' := 2) rfl ?_
  refine A_bipush C (x := 7) dX5_absent_2 (by decide) (pc' := 4) rfl ?_
  obtain ⟨q1, h2, hF⟩ := Option.bind_eq_some_iff.mp hF
  refine A_callS C (av := [.int a0, .int (0 : Int32), .int (7 : Int32)]) (rest := []) (st2 := [.int q1]) (k2 := 0) (n2 := 0) (F_X5_isWithin_ok hu h2) mk_X5_isWithin lm_X5_32 ws_X5_isWithin rfl rfl rfl ⟨by decide, by decide⟩ (Nat.le_of_ble_eq_true rfl) rfl rfl dX5_absent_4 rfl rfl rfl (pc' := 7) rfl ?_
  refine A_if_eq C dX5_absent_7 (tgt := 27) (by decide) (pc' := 10) rfl (fun c3 => ?_) (fun c3 => ?_)
  · rw [if_pos c3] at hF
    cases hF
    exact A_throwS C X T tw_X5_43_47 sw_X5_171 (by decide) rfl dX5_absent_27 dX5_absent_30 dX5_absent_31 dX5_absent_33 dX5_absent_36
  · rw [if_neg c3] at hF
    refine A_iload_n C dX5_absent_10 rfl (pc' := 11) rfl ?_
    refine A_iconst C (x := 0) dX5_absent_11 (by decide) (pc' := 12) rfl ?_
    refine A_aload_n C dX5_absent_12 rfl (pc' := 13) rfl ?_
    refine A_get C (j := 0) cl_X5 rfl rfl lf_X5_39 dX5_absent_13 (HPg_0 s o) rfl (pc' := 16) rfl ?_
    refine A_getN C (j := 0) cl_X0 rfl rfl lf_X5_168 dX5_absent_16 (HPg_8 s o) rfl (pc' := 19) rfl ?_
    refine A_iconst C (x := 1) dX5_absent_19 (by decide) (pc' := 20) rfl ?_
    refine A_isub C dX5_absent_20 (pc' := 21) rfl ?_
    obtain ⟨q4, h5, hF⟩ := Option.bind_eq_some_iff.mp hF
    refine A_callS C (av := [.int a1, .int (0 : Int32), .int ((s 900 0) - (1 : Int32))]) (rest := []) (st2 := [.int q4]) (k2 := 0) (n2 := 0) (F_X5_isWithin_ok hu h5) mk_X5_isWithin lm_X5_32 ws_X5_isWithin rfl rfl rfl ⟨by decide, by decide⟩ (Nat.le_of_ble_eq_true rfl) rfl rfl dX5_absent_21 rfl rfl rfl (pc' := 24) rfl ?_
    refine A_if_ne C dX5_absent_24 (tgt := 37) (by decide) (pc' := 27) rfl (fun c6 => ?_) (fun c6 => ?_)
    · rw [if_neg c6] at hF
      refine A_aload_n C dX5_absent_37 rfl (pc' := 38) rfl ?_
      refine A_get C (j := 2) cl_X5 rfl rfl lf_X5_19 dX5_absent_38 (HPg_0 s o) rfl (pc' := 41) rfl ?_
      refine A_aload_n C dX5_absent_41 rfl (pc' := 42) rfl ?_
      refine A_get C (j := 0) cl_X5 rfl rfl lf_X5_39 dX5_absent_42 (HPg_0 s o) rfl (pc' := 45) rfl ?_
      refine A_iload_n C dX5_absent_45 rfl (pc' := 46) rfl ?_
      refine A_iload_n C dX5_absent_46 rfl (pc' := 47) rfl ?_
      obtain ⟨q7, h8, hF⟩ := Option.bind_eq_some_iff.mp hF
      refine A_callVN C (av := [.ref 8, .int a0, .int a1]) (rest := []) (st2 := []) (k2 := 0) (n2 := 0) (F_X1_find_ok hu h8) mk_X1_find lm_X5_173 wi_X1_find wv_X1_find (HPg_4 s o) rfl rfl rfl rfl ⟨by decide, by decide⟩ (Nat.le_of_ble_eq_true rfl) rfl rfl dX5_absent_47 rfl rfl rfl (pc' := 50) rfl ?_
      refine A_aload_n C dX5_absent_50 rfl (pc' := 51) rfl ?_
      refine A_get C (j := 2) cl_X5 rfl rfl lf_X5_19 dX5_absent_51 (HPg_0 q7 o) rfl (pc' := 54) rfl ?_
      refine A_getN C (j := 1) cl_X1 rfl rfl lf_X5_177 dX5_absent_54 (HPg_4 q7 o) rfl (pc' := 57) rfl ?_
      cases hF
      exact A_iretX C T (Nat.zero_le _) (Nat.zero_le _) dX5_absent_57
    · rw [if_pos c6] at hF
      cases hF
      exact A_throwS C X T tw_X5_43_47 sw_X5_171 (by decide) rfl dX5_absent_27 dX5_absent_30 dX5_absent_31 dX5_absent_33 dX5_absent_36
