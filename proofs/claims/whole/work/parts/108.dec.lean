def L_X6_mayTake_52 : Nat → Int32 → Int32 → Int32 → Int32 → Int32 → Sg → Option (Int32)
  | 0, _, _, _, _, _, _ => none
  | fu + 1, b1, b3, b4, b5, b6, s =>
    if (s 2223 0) ≤ b6 then
      some b5
    else
      grd (ixb b6 64 = true) <|
      grd (ixb (s 33 b6.toNatClampNeg) 64 = true) <|
      bnd (s 30 (s 33 b6.toNatClampNeg).toNatClampNeg) fun x15 =>
      if b5 = 0 then
        bnd (b6 + (1 : Int32)) fun x18 =>
        L_X6_mayTake_52 fu b1 b3 b4 (0 : Int32) x18 s
      else
        grd (ixb b6 64 = true) <|
        if (s 38 b6.toNatClampNeg) = b1 then
          grd (ixb b6 64 = true) <|
          (F_X6_lessonOf (s 33 b6.toNatClampNeg) s).bind fun q25 =>
          grd (ixb q25 16 = true) <|
          if (x15 + (s 27 q25.toNatClampNeg)) ≤ b3 then
            bnd (b6 + (1 : Int32)) fun x29 =>
            L_X6_mayTake_52 fu b1 b3 b4 (1 : Int32) x29 s
          else
            if x15 < (b3 + b4) then
              bnd (b6 + (1 : Int32)) fun x32 =>
              L_X6_mayTake_52 fu b1 b3 b4 (0 : Int32) x32 s
            else
              bnd (b6 + (1 : Int32)) fun x34 =>
              L_X6_mayTake_52 fu b1 b3 b4 (1 : Int32) x34 s
        else
          bnd (b6 + (1 : Int32)) fun x22 =>
          L_X6_mayTake_52 fu b1 b3 b4 (1 : Int32) x22 s
def F_X6_mayTake (a0 : Int32) (a1 : Int32) (s : Sg) : Option Int32 :=
  grd (ixb a1 64 = true) <|
  bnd (s 30 a1.toNatClampNeg) fun x2 =>
  (F_X6_lessonOf a1 s).bind fun q4 =>
  grd (ixb q4 16 = true) <|
  bnd (s 27 q4.toNatClampNeg) fun x7 =>
  (F_X6_anyBlocked (1 : Int32) a0 x2 x7 s).bind fun q9 =>
  if q9 = 0 then
    (F_X6_anyItem (1 : Int32) a0 x2 x7 s).bind fun q39 =>
    if q39 = 0 then
      (L_X6_mayTake_52 FU a0 x2 x7 (1 : Int32) (0 : Int32) s).bind fun q45 =>
      grd (q45 = 0 ∨ q45 = 1) <|
      some q45
    else
      (L_X6_mayTake_52 FU a0 x2 x7 (0 : Int32) (0 : Int32) s).bind fun q42 =>
      grd (q42 = 0 ∨ q42 = 1) <|
      some q42
  else
    (L_X6_mayTake_52 FU a0 x2 x7 (0 : Int32) (0 : Int32) s).bind fun q36 =>
    grd (q36 = 0 ∨ q36 = 1) <|
    some q36
set_option maxHeartbeats 4000000 in
set_option maxRecDepth 100000 in
theorem L_X6_mayTake_52_ok {Γ : Cx} (hu : Un Γ.2.1) (eN : 8 = Γ.2.2.2.2.2) (C : Cok Γ cX6_mayTake RX6 (some .boolean) 4 0 0) {o : Nat → Int64} : ∀ (fu : Nat) (b1 : Int32) (b3 : Int32) (b4 : Int32) (b5 : Int32) (b6 : Int32) (s : Sg) (q : (Int32)), L_X6_mayTake_52 fu b1 b3 b4 b5 b6 s = some q → AW Γ (HP s o) 0 0 [none, none, none, none, none, some (.int q), none, none] [] 135 → AW Γ (HP s o) 0 0 [some (.ref 21), some (.int b1), none, some (.int b3), some (.int b4), some (.int b5), some (.int b6), none] [] 52 := by
  intro fu
  induction fu with
  | zero => intro b1 b3 b4 b5 b6 s q hF; rw [L_X6_mayTake_52] at hF; cases hF
  | succ fu ih =>
    intro b1 b3 b4 b5 b6 s q hF hexit
    rw [L_X6_mayTake_52] at hF
    refine A_iload C dX6_mayTake_52 rfl (pc' := 54) rfl ?_
    refine A_aload_n C dX6_mayTake_54 rfl (pc' := 55) rfl ?_
    refine A_get C (j := 23) cl_X6 rfl rfl lf_X6_155 dX6_mayTake_55 (HPg_21 s o) rfl (pc' := 58) rfl ?_
    refine A_icmp_ge C dX6_mayTake_58 (tgt := 135) (by decide) (pc' := 61) rfl (fun c12 => ?_) (fun c12 => ?_)
    · rw [if_pos c12] at hF
      cases hF
      refine A_mask [false, false, false, false, false, true, false, false] (lv' := [none, none, none, none, none, some (.int b5), none, none]) rfl ?_
      exact hexit
    · rw [if_neg c12] at hF
      refine A_aload_n C dX6_mayTake_61 rfl (pc' := 62) rfl ?_
      refine A_get C (j := 12) cl_X6 rfl rfl lf_X6_34 dX6_mayTake_62 (HPg_21 s o) rfl (pc' := 65) rfl ?_
      refine A_aload_n C dX6_mayTake_65 rfl (pc' := 66) rfl ?_
      refine A_get C (j := 16) cl_X6 rfl rfl lf_X6_44 dX6_mayTake_66 (HPg_21 s o) rfl (pc' := 69) rfl ?_
      refine A_iload C dX6_mayTake_69 rfl (pc' := 71) rfl ?_
      obtain ⟨h13, hF⟩ := grd_some hF
      refine A_iald C (HPg_33 s o) (ixb_in h13) dX6_mayTake_71 (pc' := 72) rfl ?_
      obtain ⟨h14, hF⟩ := grd_some hF
      refine A_iald C (HPg_30 s o) (ixb_in h14) dX6_mayTake_72 (pc' := 73) rfl ?_
      obtain ⟨x15, e16, hF⟩ := bnd_some hF
      refine A_topi e16 ?_
      refine A_istore C (lv' := [some (.ref 21), some (.int b1), none, some (.int b3), some (.int b4), some (.int b5), some (.int b6), some (.int x15)]) dX6_mayTake_73 rfl eN rfl rfl (pc' := 75) rfl ?_
      refine A_iload C dX6_mayTake_75 rfl (pc' := 77) rfl ?_
      refine A_if_eq C dX6_mayTake_77 (tgt := 126) (by decide) (pc' := 80) rfl (fun c17 => ?_) (fun c17 => ?_)
      · rw [if_pos c17] at hF
        refine A_iconst C (x := 0) dX6_mayTake_126 (by decide) (pc' := 127) rfl ?_
        refine A_istore C (lv' := [some (.ref 21), some (.int b1), none, some (.int b3), some (.int b4), some (.int (0 : Int32)), some (.int b6), some (.int x15)]) dX6_mayTake_127 rfl eN rfl rfl (pc' := 129) rfl ?_
        obtain ⟨x18, e19, hF⟩ := bnd_some hF
        refine A_iinc C (lv' := [some (.ref 21), some (.int b1), none, some (.int b3), some (.int b4), some (.int (0 : Int32)), some (.int x18), some (.int x15)]) dX6_mayTake_129 rfl (by rw [e19]; rfl) rfl eN rfl rfl (pc' := 132) rfl ?_
        refine A_goto C dX6_mayTake_132 (tgt := 52) (by decide) ?_
        refine A_mask [true, true, false, true, true, true, true, false] (lv' := [some (.ref 21), some (.int b1), none, some (.int b3), some (.int b4), some (.int (0 : Int32)), some (.int x18), none]) rfl ?_
        exact ih b1 b3 b4 (0 : Int32) x18 s q hF hexit
      · rw [if_neg c17] at hF
        refine A_aload_n C dX6_mayTake_80 rfl (pc' := 81) rfl ?_
        refine A_get C (j := 22) cl_X6 rfl rfl lf_X6_59 dX6_mayTake_81 (HPg_21 s o) rfl (pc' := 84) rfl ?_
        refine A_iload C dX6_mayTake_84 rfl (pc' := 86) rfl ?_
        obtain ⟨h20, hF⟩ := grd_some hF
        refine A_iald C (HPg_38 s o) (ixb_in h20) dX6_mayTake_86 (pc' := 87) rfl ?_
        refine A_iload_n C dX6_mayTake_87 rfl (pc' := 88) rfl ?_
        refine A_icmp_ne C dX6_mayTake_88 (tgt := 122) (by decide) (pc' := 91) rfl (fun c21 => ?_) (fun c21 => ?_)
        · rw [if_neg c21] at hF
          refine A_iconst C (x := 1) dX6_mayTake_122 (by decide) (pc' := 123) rfl ?_
          refine A_goto C dX6_mayTake_123 (tgt := 127) (by decide) ?_
          refine A_istore C (lv' := [some (.ref 21), some (.int b1), none, some (.int b3), some (.int b4), some (.int (1 : Int32)), some (.int b6), some (.int x15)]) dX6_mayTake_127 rfl eN rfl rfl (pc' := 129) rfl ?_
          obtain ⟨x22, e23, hF⟩ := bnd_some hF
          refine A_iinc C (lv' := [some (.ref 21), some (.int b1), none, some (.int b3), some (.int b4), some (.int (1 : Int32)), some (.int x22), some (.int x15)]) dX6_mayTake_129 rfl (by rw [e23]; rfl) rfl eN rfl rfl (pc' := 132) rfl ?_
          refine A_goto C dX6_mayTake_132 (tgt := 52) (by decide) ?_
          refine A_mask [true, true, false, true, true, true, true, false] (lv' := [some (.ref 21), some (.int b1), none, some (.int b3), some (.int b4), some (.int (1 : Int32)), some (.int x22), none]) rfl ?_
          exact ih b1 b3 b4 (1 : Int32) x22 s q hF hexit
        · rw [if_pos c21] at hF
          refine A_iload C dX6_mayTake_91 rfl (pc' := 93) rfl ?_
          refine A_aload_n C dX6_mayTake_93 rfl (pc' := 94) rfl ?_
          refine A_get C (j := 9) cl_X6 rfl rfl lf_X6_25 dX6_mayTake_94 (HPg_21 s o) rfl (pc' := 97) rfl ?_
          refine A_aload_n C dX6_mayTake_97 rfl (pc' := 98) rfl ?_
          refine A_get C (j := 16) cl_X6 rfl rfl lf_X6_44 dX6_mayTake_98 (HPg_21 s o) rfl (pc' := 101) rfl ?_
          refine A_iload C dX6_mayTake_101 rfl (pc' := 103) rfl ?_
          obtain ⟨h24, hF⟩ := grd_some hF
          refine A_iald C (HPg_33 s o) (ixb_in h24) dX6_mayTake_103 (pc' := 104) rfl ?_
          obtain ⟨q25, h26, hF⟩ := Option.bind_eq_some_iff.mp hF
          refine A_callS C (av := [.int (s 33 b6.toNatClampNeg)]) (rest := [.ref 27, .int x15]) (st2 := [.int q25, .ref 27, .int x15]) (k2 := 0) (n2 := 0) (F_X6_lessonOf_ok hu h26) mk_X6_lessonOf lm_X6_79 ws_X6_lessonOf rfl rfl rfl ⟨by decide, by decide⟩ (Nat.le_of_ble_eq_true rfl) rfl rfl dX6_mayTake_104 rfl rfl rfl (pc' := 107) rfl ?_
          obtain ⟨h27, hF⟩ := grd_some hF
          refine A_iald C (HPg_27 s o) (ixb_in h27) dX6_mayTake_107 (pc' := 108) rfl ?_
          refine A_iadd C dX6_mayTake_108 (pc' := 109) rfl ?_
          refine A_iload_n C dX6_mayTake_109 rfl (pc' := 110) rfl ?_
          refine A_icmp_le C dX6_mayTake_110 (tgt := 122) (by decide) (pc' := 113) rfl (fun c28 => ?_) (fun c28 => ?_)
          · rw [if_pos c28] at hF
            refine A_iconst C (x := 1) dX6_mayTake_122 (by decide) (pc' := 123) rfl ?_
            refine A_goto C dX6_mayTake_123 (tgt := 127) (by decide) ?_
            refine A_istore C (lv' := [some (.ref 21), some (.int b1), none, some (.int b3), some (.int b4), some (.int (1 : Int32)), some (.int b6), some (.int x15)]) dX6_mayTake_127 rfl eN rfl rfl (pc' := 129) rfl ?_
            obtain ⟨x29, e30, hF⟩ := bnd_some hF
            refine A_iinc C (lv' := [some (.ref 21), some (.int b1), none, some (.int b3), some (.int b4), some (.int (1 : Int32)), some (.int x29), some (.int x15)]) dX6_mayTake_129 rfl (by rw [e30]; rfl) rfl eN rfl rfl (pc' := 132) rfl ?_
            refine A_goto C dX6_mayTake_132 (tgt := 52) (by decide) ?_
            refine A_mask [true, true, false, true, true, true, true, false] (lv' := [some (.ref 21), some (.int b1), none, some (.int b3), some (.int b4), some (.int (1 : Int32)), some (.int x29), none]) rfl ?_
            exact ih b1 b3 b4 (1 : Int32) x29 s q hF hexit
          · rw [if_neg c28] at hF
            refine A_iload_n C dX6_mayTake_113 rfl (pc' := 114) rfl ?_
            refine A_iload C dX6_mayTake_114 rfl (pc' := 116) rfl ?_
            refine A_iadd C dX6_mayTake_116 (pc' := 117) rfl ?_
            refine A_iload C dX6_mayTake_117 rfl (pc' := 119) rfl ?_
            refine A_icmp_gt C dX6_mayTake_119 (tgt := 126) (by decide) (pc' := 122) rfl (fun c31 => ?_) (fun c31 => ?_)
            · rw [if_pos c31] at hF
              refine A_iconst C (x := 0) dX6_mayTake_126 (by decide) (pc' := 127) rfl ?_
              refine A_istore C (lv' := [some (.ref 21), some (.int b1), none, some (.int b3), some (.int b4), some (.int (0 : Int32)), some (.int b6), some (.int x15)]) dX6_mayTake_127 rfl eN rfl rfl (pc' := 129) rfl ?_
              obtain ⟨x32, e33, hF⟩ := bnd_some hF
              refine A_iinc C (lv' := [some (.ref 21), some (.int b1), none, some (.int b3), some (.int b4), some (.int (0 : Int32)), some (.int x32), some (.int x15)]) dX6_mayTake_129 rfl (by rw [e33]; rfl) rfl eN rfl rfl (pc' := 132) rfl ?_
              refine A_goto C dX6_mayTake_132 (tgt := 52) (by decide) ?_
              refine A_mask [true, true, false, true, true, true, true, false] (lv' := [some (.ref 21), some (.int b1), none, some (.int b3), some (.int b4), some (.int (0 : Int32)), some (.int x32), none]) rfl ?_
              exact ih b1 b3 b4 (0 : Int32) x32 s q hF hexit
            · rw [if_neg c31] at hF
              refine A_iconst C (x := 1) dX6_mayTake_122 (by decide) (pc' := 123) rfl ?_
              refine A_goto C dX6_mayTake_123 (tgt := 127) (by decide) ?_
              refine A_istore C (lv' := [some (.ref 21), some (.int b1), none, some (.int b3), some (.int b4), some (.int (1 : Int32)), some (.int b6), some (.int x15)]) dX6_mayTake_127 rfl eN rfl rfl (pc' := 129) rfl ?_
              obtain ⟨x34, e35, hF⟩ := bnd_some hF
              refine A_iinc C (lv' := [some (.ref 21), some (.int b1), none, some (.int b3), some (.int b4), some (.int (1 : Int32)), some (.int x34), some (.int x15)]) dX6_mayTake_129 rfl (by rw [e35]; rfl) rfl eN rfl rfl (pc' := 132) rfl ?_
              refine A_goto C dX6_mayTake_132 (tgt := 52) (by decide) ?_
              refine A_mask [true, true, false, true, true, true, true, false] (lv' := [some (.ref 21), some (.int b1), none, some (.int b3), some (.int b4), some (.int (1 : Int32)), some (.int x34), none]) rfl ?_
              exact ih b1 b3 b4 (1 : Int32) x34 s q hF hexit
set_option maxHeartbeats 4000000 in
set_option maxRecDepth 100000 in
theorem F_X6_mayTake_ok {u : Uv} (hu : Un u) {a0 a1 : Int32} {s : Sg} {o : Nat → Int64} {r : Int32} (hF : F_X6_mayTake a0 a1 s = some r) : AM u (yX6_mayTake, cX6_mayTake, 8, (some .boolean)) 4 0 0 [.ref 21, .int a0, .int a1] (HP s o) (some (.int r)) (HP s o) := by
  refine AM.of hu (lv := [some (.ref 21), some (.int a0), some (.int a1), none, none, none, none, none]) (by decide) rfl (Nat.le_of_ble_eq_true rfl) rfl ?_
  intro Γ eu eN C T
  subst eu
  have C : Cok Γ cX6_mayTake RX6 (some .boolean) 4 0 0 := C
  unfold F_X6_mayTake at hF
  refine A_aload_n C dX6_mayTake_0 rfl (pc' := 1) rfl ?_
  refine A_get C (j := 12) cl_X6 rfl rfl lf_X6_34 dX6_mayTake_1 (HPg_21 s o) rfl (pc' := 4) rfl ?_
  refine A_iload_n C dX6_mayTake_4 rfl (pc' := 5) rfl ?_
  obtain ⟨h1, hF⟩ := grd_some hF
  refine A_iald C (HPg_30 s o) (ixb_in h1) dX6_mayTake_5 (pc' := 6) rfl ?_
  obtain ⟨x2, e3, hF⟩ := bnd_some hF
  refine A_topi e3 ?_
  refine A_istore_n C (lv' := [some (.ref 21), some (.int a0), some (.int a1), some (.int x2), none, none, none, none]) dX6_mayTake_6 rfl eN rfl rfl (pc' := 7) rfl ?_
  refine A_aload_n C dX6_mayTake_7 rfl (pc' := 8) rfl ?_
  refine A_get C (j := 9) cl_X6 rfl rfl lf_X6_25 dX6_mayTake_8 (HPg_21 s o) rfl (pc' := 11) rfl ?_
  refine A_iload_n C dX6_mayTake_11 rfl (pc' := 12) rfl ?_
  obtain ⟨q4, h5, hF⟩ := Option.bind_eq_some_iff.mp hF
  refine A_callS C (av := [.int a1]) (rest := [.ref 27]) (st2 := [.int q4, .ref 27]) (k2 := 0) (n2 := 0) (F_X6_lessonOf_ok hu h5) mk_X6_lessonOf lm_X6_79 ws_X6_lessonOf rfl rfl rfl ⟨by decide, by decide⟩ (Nat.le_of_ble_eq_true rfl) rfl rfl dX6_mayTake_12 rfl rfl rfl (pc' := 15) rfl ?_
  obtain ⟨h6, hF⟩ := grd_some hF
  refine A_iald C (HPg_27 s o) (ixb_in h6) dX6_mayTake_15 (pc' := 16) rfl ?_
  obtain ⟨x7, e8, hF⟩ := bnd_some hF
  refine A_topi e8 ?_
  refine A_istore C (lv' := [some (.ref 21), some (.int a0), some (.int a1), some (.int x2), some (.int x7), none, none, none]) dX6_mayTake_16 rfl eN rfl rfl (pc' := 18) rfl ?_
  refine A_aload_n C dX6_mayTake_18 rfl (pc' := 19) rfl ?_
  refine A_iconst C (x := 1) dX6_mayTake_19 (by decide) (pc' := 20) rfl ?_
  refine A_iload_n C dX6_mayTake_20 rfl (pc' := 21) rfl ?_
  refine A_iload_n C dX6_mayTake_21 rfl (pc' := 22) rfl ?_
  refine A_iload C dX6_mayTake_22 rfl (pc' := 24) rfl ?_
  obtain ⟨q9, h10, hF⟩ := Option.bind_eq_some_iff.mp hF
  refine A_callV C (av := [.int (1 : Int32), .int a0, .int x2, .int x7]) (rest := []) (st2 := [.int q9]) (k2 := 0) (n2 := 0) (F_X6_anyBlocked_ok hu h10) mk_X6_anyBlocked lm_X6_105 wi_X6_anyBlocked wv_X6_anyBlocked (HPg_21 s o) rfl rfl rfl rfl ⟨by decide, by decide⟩ (Nat.le_of_ble_eq_true rfl) rfl rfl dX6_mayTake_24 rfl rfl rfl (pc' := 27) rfl ?_
  refine A_if_ne C dX6_mayTake_27 (tgt := 46) (by decide) (pc' := 30) rfl (fun c11 => ?_) (fun c11 => ?_)
  · rw [if_neg c11] at hF
    refine A_iconst C (x := 0) dX6_mayTake_46 (by decide) (pc' := 47) rfl ?_
    refine A_istore C (lv' := [some (.ref 21), some (.int a0), some (.int a1), some (.int x2), some (.int x7), some (.int (0 : Int32)), none, none]) dX6_mayTake_47 rfl eN rfl rfl (pc' := 49) rfl ?_
    refine A_iconst C (x := 0) dX6_mayTake_49 (by decide) (pc' := 50) rfl ?_
    refine A_istore C (lv' := [some (.ref 21), some (.int a0), some (.int a1), some (.int x2), some (.int x7), some (.int (0 : Int32)), some (.int (0 : Int32)), none]) dX6_mayTake_50 rfl eN rfl rfl (pc' := 52) rfl ?_
    obtain ⟨q36, h37, hF⟩ := Option.bind_eq_some_iff.mp hF
    refine A_mask [true, true, false, true, true, true, true, false] (lv' := [some (.ref 21), some (.int a0), none, some (.int x2), some (.int x7), some (.int (0 : Int32)), some (.int (0 : Int32)), none]) rfl ?_
    refine L_X6_mayTake_52_ok hu eN C FU a0 x2 x7 (0 : Int32) (0 : Int32) s q36 h37 ?_
    refine A_iload C dX6_mayTake_135 rfl (pc' := 137) rfl ?_
    obtain ⟨h38, hF⟩ := grd_some hF
    cases hF
    exact A_zret C T h38 (Nat.le_refl _) (Nat.le_refl _) dX6_mayTake_137
  · rw [if_pos c11] at hF
    refine A_aload_n C dX6_mayTake_30 rfl (pc' := 31) rfl ?_
    refine A_iconst C (x := 1) dX6_mayTake_31 (by decide) (pc' := 32) rfl ?_
    refine A_iload_n C dX6_mayTake_32 rfl (pc' := 33) rfl ?_
    refine A_iload_n C dX6_mayTake_33 rfl (pc' := 34) rfl ?_
    refine A_iload C dX6_mayTake_34 rfl (pc' := 36) rfl ?_
    obtain ⟨q39, h40, hF⟩ := Option.bind_eq_some_iff.mp hF
    refine A_callV C (av := [.int (1 : Int32), .int a0, .int x2, .int x7]) (rest := []) (st2 := [.int q39]) (k2 := 0) (n2 := 0) (F_X6_anyItem_ok hu h40) mk_X6_anyItem lm_X6_109 wi_X6_anyItem wv_X6_anyItem (HPg_21 s o) rfl rfl rfl rfl ⟨by decide, by decide⟩ (Nat.le_of_ble_eq_true rfl) rfl rfl dX6_mayTake_36 rfl rfl rfl (pc' := 39) rfl ?_
    refine A_if_ne C dX6_mayTake_39 (tgt := 46) (by decide) (pc' := 42) rfl (fun c41 => ?_) (fun c41 => ?_)
    · rw [if_neg c41] at hF
      refine A_iconst C (x := 0) dX6_mayTake_46 (by decide) (pc' := 47) rfl ?_
      refine A_istore C (lv' := [some (.ref 21), some (.int a0), some (.int a1), some (.int x2), some (.int x7), some (.int (0 : Int32)), none, none]) dX6_mayTake_47 rfl eN rfl rfl (pc' := 49) rfl ?_
      refine A_iconst C (x := 0) dX6_mayTake_49 (by decide) (pc' := 50) rfl ?_
      refine A_istore C (lv' := [some (.ref 21), some (.int a0), some (.int a1), some (.int x2), some (.int x7), some (.int (0 : Int32)), some (.int (0 : Int32)), none]) dX6_mayTake_50 rfl eN rfl rfl (pc' := 52) rfl ?_
      obtain ⟨q42, h43, hF⟩ := Option.bind_eq_some_iff.mp hF
      refine A_mask [true, true, false, true, true, true, true, false] (lv' := [some (.ref 21), some (.int a0), none, some (.int x2), some (.int x7), some (.int (0 : Int32)), some (.int (0 : Int32)), none]) rfl ?_
      refine L_X6_mayTake_52_ok hu eN C FU a0 x2 x7 (0 : Int32) (0 : Int32) s q42 h43 ?_
      refine A_iload C dX6_mayTake_135 rfl (pc' := 137) rfl ?_
      obtain ⟨h44, hF⟩ := grd_some hF
      cases hF
      exact A_zret C T h44 (Nat.le_refl _) (Nat.le_refl _) dX6_mayTake_137
    · rw [if_pos c41] at hF
      refine A_iconst C (x := 1) dX6_mayTake_42 (by decide) (pc' := 43) rfl ?_
      refine A_goto C dX6_mayTake_43 (tgt := 47) (by decide) ?_
      refine A_istore C (lv' := [some (.ref 21), some (.int a0), some (.int a1), some (.int x2), some (.int x7), some (.int (1 : Int32)), none, none]) dX6_mayTake_47 rfl eN rfl rfl (pc' := 49) rfl ?_
      refine A_iconst C (x := 0) dX6_mayTake_49 (by decide) (pc' := 50) rfl ?_
      refine A_istore C (lv' := [some (.ref 21), some (.int a0), some (.int a1), some (.int x2), some (.int x7), some (.int (1 : Int32)), some (.int (0 : Int32)), none]) dX6_mayTake_50 rfl eN rfl rfl (pc' := 52) rfl ?_
      obtain ⟨q45, h46, hF⟩ := Option.bind_eq_some_iff.mp hF
      refine A_mask [true, true, false, true, true, true, true, false] (lv' := [some (.ref 21), some (.int a0), none, some (.int x2), some (.int x7), some (.int (1 : Int32)), some (.int (0 : Int32)), none]) rfl ?_
      refine L_X6_mayTake_52_ok hu eN C FU a0 x2 x7 (1 : Int32) (0 : Int32) s q45 h46 ?_
      refine A_iload C dX6_mayTake_135 rfl (pc' := 137) rfl ?_
      obtain ⟨h47, hF⟩ := grd_some hF
      cases hF
      exact A_zret C T h47 (Nat.le_refl _) (Nat.le_refl _) dX6_mayTake_137
def L_X6_load_5 : Nat → Int32 → Int32 → Int32 → Int32 → Sg → Option (Int32)
  | 0, _, _, _, _, _ => none
  | fu + 1, b1, b2, b3, b4, s =>
    if (64 : Int32) ≤ b4 then
      some b3
    else
      grd (ixb b4 64 = true) <|
      if (s 30 b4.toNatClampNeg) < 0 then
        bnd (b3 + (0 : Int32)) fun x4 =>
        bnd (b4 + (1 : Int32)) fun x6 =>
        L_X6_load_5 fu b1 b2 x4 x6 s
      else
        grd (ixb b4 64 = true) <|
        grd (¬ (s 2202 0) = 0) <|
        if ((s 30 b4.toNatClampNeg) / (s 2202 0)) = b2 then
          (F_X6_isOf b4 (1 : Int32) b1 s).bind fun q15 =>
          if q15 = 0 then
            bnd (b3 + (0 : Int32)) fun x18 =>
            bnd (b4 + (1 : Int32)) fun x20 =>
            L_X6_load_5 fu b1 b2 x18 x20 s
          else
            bnd (b3 + (1 : Int32)) fun x22 =>
            bnd (b4 + (1 : Int32)) fun x24 =>
            L_X6_load_5 fu b1 b2 x22 x24 s
        else
          bnd (b3 + (0 : Int32)) fun x11 =>
          bnd (b4 + (1 : Int32)) fun x13 =>
          L_X6_load_5 fu b1 b2 x11 x13 s
def L_X6_load_66 : Nat → Int32 → Int32 → Int32 → Sg → Option (Int32)
  | 0, _, _, _, _ => none
  | fu + 1, b1, b3, b4, s =>
    if (s 2223 0) ≤ b4 then
      some b3
    else
      grd (ixb b4 64 = true) <|
      if (s 38 b4.toNatClampNeg) = b1 then
        bnd (b3 + (1 : Int32)) fun x35 =>
        bnd (b4 + (1 : Int32)) fun x37 =>
        L_X6_load_66 fu b1 x35 x37 s
      else
        bnd (b3 + (0 : Int32)) fun x31 =>
        bnd (b4 + (1 : Int32)) fun x33 =>
        L_X6_load_66 fu b1 x31 x33 s
def F_X6_load (a0 : Int32) (a1 : Int32) (s : Sg) : Option Int32 :=
  (L_X6_load_5 FU a0 a1 (0 : Int32) (0 : Int32) s).bind fun q26 =>
  (L_X6_load_66 FU a0 q26 (0 : Int32) s).bind fun q39 =>
  some q39
set_option maxHeartbeats 4000000 in
set_option maxRecDepth 100000 in
theorem L_X6_load_5_ok {Γ : Cx} (hu : Un Γ.2.1) (eN : 5 = Γ.2.2.2.2.2) (C : Cok Γ cX6_load RX6 (some .int) 2 0 0) {o : Nat → Int64} : ∀ (fu : Nat) (b1 : Int32) (b2 : Int32) (b3 : Int32) (b4 : Int32) (s : Sg) (q : (Int32)), L_X6_load_5 fu b1 b2 b3 b4 s = some q → AW Γ (HP s o) 0 0 [some (.ref 21), some (.int b1), none, some (.int q), none] [] 63 → AW Γ (HP s o) 0 0 [some (.ref 21), some (.int b1), some (.int b2), some (.int b3), some (.int b4)] [] 5 := by
  intro fu
  induction fu with
  | zero => intro b1 b2 b3 b4 s q hF; rw [L_X6_load_5] at hF; cases hF
  | succ fu ih =>
    intro b1 b2 b3 b4 s q hF hexit
    rw [L_X6_load_5] at hF
    refine A_iload C dX6_load_5 rfl (pc' := 7) rfl ?_
    refine A_bipush C (x := 64) dX6_load_7 (by decide) (pc' := 9) rfl ?_
    refine A_icmp_ge C dX6_load_9 (tgt := 63) (by decide) (pc' := 12) rfl (fun c1 => ?_) (fun c1 => ?_)
    · rw [if_pos c1] at hF
      cases hF
      refine A_mask [true, true, false, true, false] (lv' := [some (.ref 21), some (.int b1), none, some (.int b3), none]) rfl ?_
      exact hexit
    · rw [if_neg c1] at hF
      refine A_iload_n C dX6_load_12 rfl (pc' := 13) rfl ?_
      refine A_aload_n C dX6_load_13 rfl (pc' := 14) rfl ?_
      refine A_get C (j := 12) cl_X6 rfl rfl lf_X6_34 dX6_load_14 (HPg_21 s o) rfl (pc' := 17) rfl ?_
      refine A_iload C dX6_load_17 rfl (pc' := 19) rfl ?_
      obtain ⟨h2, hF⟩ := grd_some hF
      refine A_iald C (HPg_30 s o) (ixb_in h2) dX6_load_19 (pc' := 20) rfl ?_
      refine A_if_lt C dX6_load_20 (tgt := 54) (by decide) (pc' := 23) rfl (fun c3 => ?_) (fun c3 => ?_)
      · rw [if_pos c3] at hF
        refine A_iconst C (x := 0) dX6_load_54 (by decide) (pc' := 55) rfl ?_
        refine A_iadd C dX6_load_55 (pc' := 56) rfl ?_
        obtain ⟨x4, e5, hF⟩ := bnd_some hF
        refine A_topi e5 ?_
        refine A_istore_n C (lv' := [some (.ref 21), some (.int b1), some (.int b2), some (.int x4), some (.int b4)]) dX6_load_56 rfl eN rfl rfl (pc' := 57) rfl ?_
        obtain ⟨x6, e7, hF⟩ := bnd_some hF
        refine A_iinc C (lv' := [some (.ref 21), some (.int b1), some (.int b2), some (.int x4), some (.int x6)]) dX6_load_57 rfl (by rw [e7]; rfl) rfl eN rfl rfl (pc' := 60) rfl ?_
        refine A_goto C dX6_load_60 (tgt := 5) (by decide) ?_
        refine A_mask [true, true, true, true, true] (lv' := [some (.ref 21), some (.int b1), some (.int b2), some (.int x4), some (.int x6)]) rfl ?_
        exact ih b1 b2 x4 x6 s q hF hexit
      · rw [if_neg c3] at hF
        refine A_aload_n C dX6_load_23 rfl (pc' := 24) rfl ?_
        refine A_get C (j := 12) cl_X6 rfl rfl lf_X6_34 dX6_load_24 (HPg_21 s o) rfl (pc' := 27) rfl ?_
        refine A_iload C dX6_load_27 rfl (pc' := 29) rfl ?_
        obtain ⟨h8, hF⟩ := grd_some hF
        refine A_iald C (HPg_30 s o) (ixb_in h8) dX6_load_29 (pc' := 30) rfl ?_
        refine A_aload_n C dX6_load_30 rfl (pc' := 31) rfl ?_
        refine A_get C (j := 2) cl_X6 rfl rfl lf_X6_66 dX6_load_31 (HPg_21 s o) rfl (pc' := 34) rfl ?_
        obtain ⟨h9, hF⟩ := grd_some hF
        refine A_idiv C dX6_load_34 h9 (pc' := 35) rfl ?_
        refine A_iload_n C dX6_load_35 rfl (pc' := 36) rfl ?_
        refine A_icmp_ne C dX6_load_36 (tgt := 54) (by decide) (pc' := 39) rfl (fun c10 => ?_) (fun c10 => ?_)
        · rw [if_neg c10] at hF
          refine A_iconst C (x := 0) dX6_load_54 (by decide) (pc' := 55) rfl ?_
          refine A_iadd C dX6_load_55 (pc' := 56) rfl ?_
          obtain ⟨x11, e12, hF⟩ := bnd_some hF
          refine A_topi e12 ?_
          refine A_istore_n C (lv' := [some (.ref 21), some (.int b1), some (.int b2), some (.int x11), some (.int b4)]) dX6_load_56 rfl eN rfl rfl (pc' := 57) rfl ?_
          obtain ⟨x13, e14, hF⟩ := bnd_some hF
          refine A_iinc C (lv' := [some (.ref 21), some (.int b1), some (.int b2), some (.int x11), some (.int x13)]) dX6_load_57 rfl (by rw [e14]; rfl) rfl eN rfl rfl (pc' := 60) rfl ?_
          refine A_goto C dX6_load_60 (tgt := 5) (by decide) ?_
          refine A_mask [true, true, true, true, true] (lv' := [some (.ref 21), some (.int b1), some (.int b2), some (.int x11), some (.int x13)]) rfl ?_
          exact ih b1 b2 x11 x13 s q hF hexit
        · rw [if_pos c10] at hF
          refine A_aload_n C dX6_load_39 rfl (pc' := 40) rfl ?_
          refine A_iload C dX6_load_40 rfl (pc' := 42) rfl ?_
          refine A_iconst C (x := 1) dX6_load_42 (by decide) (pc' := 43) rfl ?_
          refine A_iload_n C dX6_load_43 rfl (pc' := 44) rfl ?_
          obtain ⟨q15, h16, hF⟩ := Option.bind_eq_some_iff.mp hF
          refine A_callV C (av := [.int b4, .int (1 : Int32), .int b1]) (rest := [.int b3]) (st2 := [.int q15, .int b3]) (k2 := 0) (n2 := 0) (F_X6_isOf_ok hu h16) mk_X6_isOf lm_X6_87 wi_X6_isOf wv_X6_isOf (HPg_21 s o) rfl rfl rfl rfl ⟨by decide, by decide⟩ (Nat.le_of_ble_eq_true rfl) rfl rfl dX6_load_44 rfl rfl rfl (pc' := 47) rfl ?_
          refine A_if_eq C dX6_load_47 (tgt := 54) (by decide) (pc' := 50) rfl (fun c17 => ?_) (fun c17 => ?_)
          · rw [if_pos c17] at hF
            refine A_iconst C (x := 0) dX6_load_54 (by decide) (pc' := 55) rfl ?_
            refine A_iadd C dX6_load_55 (pc' := 56) rfl ?_
            obtain ⟨x18, e19, hF⟩ := bnd_some hF
            refine A_topi e19 ?_
            refine A_istore_n C (lv' := [some (.ref 21), some (.int b1), some (.int b2), some (.int x18), some (.int b4)]) dX6_load_56 rfl eN rfl rfl (pc' := 57) rfl ?_
            obtain ⟨x20, e21, hF⟩ := bnd_some hF
            refine A_iinc C (lv' := [some (.ref 21), some (.int b1), some (.int b2), some (.int x18), some (.int x20)]) dX6_load_57 rfl (by rw [e21]; rfl) rfl eN rfl rfl (pc' := 60) rfl ?_
            refine A_goto C dX6_load_60 (tgt := 5) (by decide) ?_
            refine A_mask [true, true, true, true, true] (lv' := [some (.ref 21), some (.int b1), some (.int b2), some (.int x18), some (.int x20)]) rfl ?_
            exact ih b1 b2 x18 x20 s q hF hexit
          · rw [if_neg c17] at hF
            refine A_iconst C (x := 1) dX6_load_50 (by decide) (pc' := 51) rfl ?_
            refine A_goto C dX6_load_51 (tgt := 55) (by decide) ?_
            refine A_iadd C dX6_load_55 (pc' := 56) rfl ?_
            obtain ⟨x22, e23, hF⟩ := bnd_some hF
            refine A_topi e23 ?_
            refine A_istore_n C (lv' := [some (.ref 21), some (.int b1), some (.int b2), some (.int x22), some (.int b4)]) dX6_load_56 rfl eN rfl rfl (pc' := 57) rfl ?_
            obtain ⟨x24, e25, hF⟩ := bnd_some hF
            refine A_iinc C (lv' := [some (.ref 21), some (.int b1), some (.int b2), some (.int x22), some (.int x24)]) dX6_load_57 rfl (by rw [e25]; rfl) rfl eN rfl rfl (pc' := 60) rfl ?_
            refine A_goto C dX6_load_60 (tgt := 5) (by decide) ?_
            refine A_mask [true, true, true, true, true] (lv' := [some (.ref 21), some (.int b1), some (.int b2), some (.int x22), some (.int x24)]) rfl ?_
            exact ih b1 b2 x22 x24 s q hF hexit
set_option maxHeartbeats 4000000 in
set_option maxRecDepth 100000 in
theorem L_X6_load_66_ok {Γ : Cx} (hu : Un Γ.2.1) (eN : 5 = Γ.2.2.2.2.2) (C : Cok Γ cX6_load RX6 (some .int) 2 0 0) {o : Nat → Int64} : ∀ (fu : Nat) (b1 : Int32) (b3 : Int32) (b4 : Int32) (s : Sg) (q : (Int32)), L_X6_load_66 fu b1 b3 b4 s = some q → AW Γ (HP s o) 0 0 [none, none, none, some (.int q), none] [] 100 → AW Γ (HP s o) 0 0 [some (.ref 21), some (.int b1), none, some (.int b3), some (.int b4)] [] 66 := by
  intro fu
  induction fu with
  | zero => intro b1 b3 b4 s q hF; rw [L_X6_load_66] at hF; cases hF
  | succ fu ih =>
    intro b1 b3 b4 s q hF hexit
    rw [L_X6_load_66] at hF
    refine A_iload C dX6_load_66 rfl (pc' := 68) rfl ?_
    refine A_aload_n C dX6_load_68 rfl (pc' := 69) rfl ?_
    refine A_get C (j := 23) cl_X6 rfl rfl lf_X6_155 dX6_load_69 (HPg_21 s o) rfl (pc' := 72) rfl ?_
    refine A_icmp_ge C dX6_load_72 (tgt := 100) (by decide) (pc' := 75) rfl (fun c28 => ?_) (fun c28 => ?_)
    · rw [if_pos c28] at hF
      cases hF
      refine A_mask [false, false, false, true, false] (lv' := [none, none, none, some (.int b3), none]) rfl ?_
      exact hexit
    · rw [if_neg c28] at hF
      refine A_iload_n C dX6_load_75 rfl (pc' := 76) rfl ?_
      refine A_aload_n C dX6_load_76 rfl (pc' := 77) rfl ?_
      refine A_get C (j := 22) cl_X6 rfl rfl lf_X6_59 dX6_load_77 (HPg_21 s o) rfl (pc' := 80) rfl ?_
      refine A_iload C dX6_load_80 rfl (pc' := 82) rfl ?_
      obtain ⟨h29, hF⟩ := grd_some hF
      refine A_iald C (HPg_38 s o) (ixb_in h29) dX6_load_82 (pc' := 83) rfl ?_
      refine A_iload_n C dX6_load_83 rfl (pc' := 84) rfl ?_
      refine A_icmp_ne C dX6_load_84 (tgt := 91) (by decide) (pc' := 87) rfl (fun c30 => ?_) (fun c30 => ?_)
      · rw [if_neg c30] at hF
        refine A_iconst C (x := 0) dX6_load_91 (by decide) (pc' := 92) rfl ?_
        refine A_iadd C dX6_load_92 (pc' := 93) rfl ?_
        obtain ⟨x31, e32, hF⟩ := bnd_some hF
        refine A_topi e32 ?_
        refine A_istore_n C (lv' := [some (.ref 21), some (.int b1), none, some (.int x31), some (.int b4)]) dX6_load_93 rfl eN rfl rfl (pc' := 94) rfl ?_
        obtain ⟨x33, e34, hF⟩ := bnd_some hF
        refine A_iinc C (lv' := [some (.ref 21), some (.int b1), none, some (.int x31), some (.int x33)]) dX6_load_94 rfl (by rw [e34]; rfl) rfl eN rfl rfl (pc' := 97) rfl ?_
        refine A_goto C dX6_load_97 (tgt := 66) (by decide) ?_
        refine A_mask [true, true, false, true, true] (lv' := [some (.ref 21), some (.int b1), none, some (.int x31), some (.int x33)]) rfl ?_
        exact ih b1 x31 x33 s q hF hexit
      · rw [if_pos c30] at hF
        refine A_iconst C (x := 1) dX6_load_87 (by decide) (pc' := 88) rfl ?_
        refine A_goto C dX6_load_88 (tgt := 92) (by decide) ?_
        refine A_iadd C dX6_load_92 (pc' := 93) rfl ?_
        obtain ⟨x35, e36, hF⟩ := bnd_some hF
        refine A_topi e36 ?_
        refine A_istore_n C (lv' := [some (.ref 21), some (.int b1), none, some (.int x35), some (.int b4)]) dX6_load_93 rfl eN rfl rfl (pc' := 94) rfl ?_
        obtain ⟨x37, e38, hF⟩ := bnd_some hF
        refine A_iinc C (lv' := [some (.ref 21), some (.int b1), none, some (.int x35), some (.int x37)]) dX6_load_94 rfl (by rw [e38]; rfl) rfl eN rfl rfl (pc' := 97) rfl ?_
        refine A_goto C dX6_load_97 (tgt := 66) (by decide) ?_
        refine A_mask [true, true, false, true, true] (lv' := [some (.ref 21), some (.int b1), none, some (.int x35), some (.int x37)]) rfl ?_
        exact ih b1 x35 x37 s q hF hexit
set_option maxHeartbeats 4000000 in
set_option maxRecDepth 100000 in
theorem F_X6_load_ok {u : Uv} (hu : Un u) {a0 a1 : Int32} {s : Sg} {o : Nat → Int64} {r : Int32} (hF : F_X6_load a0 a1 s = some r) : AM u (yX6_load, cX6_load, 5, (some .int)) 2 0 0 [.ref 21, .int a0, .int a1] (HP s o) (some (.int r)) (HP s o) := by
  refine AM.of hu (lv := [some (.ref 21), some (.int a0), some (.int a1), none, none]) (by decide) rfl (Nat.le_of_ble_eq_true rfl) rfl ?_
  intro Γ eu eN C T
  subst eu
  have C : Cok Γ cX6_load RX6 (some .int) 2 0 0 := C
  unfold F_X6_load at hF
  refine A_iconst C (x := 0) dX6_load_0 (by decide) (pc' := 1) rfl ?_
  refine A_istore_n C (lv' := [some (.ref 21), some (.int a0), some (.int a1), some (.int (0 : Int32)), none]) dX6_load_1 rfl eN rfl rfl (pc' := 2) rfl ?_
  refine A_iconst C (x := 0) dX6_load_2 (by decide) (pc' := 3) rfl ?_
  refine A_istore C (lv' := [some (.ref 21), some (.int a0), some (.int a1), some (.int (0 : Int32)), some (.int (0 : Int32))]) dX6_load_3 rfl eN rfl rfl (pc' := 5) rfl ?_
  obtain ⟨q26, h27, hF⟩ := Option.bind_eq_some_iff.mp hF
  refine A_mask [true, true, true, true, true] (lv' := [some (.ref 21), some (.int a0), some (.int a1), some (.int (0 : Int32)), some (.int (0 : Int32))]) rfl ?_
  refine L_X6_load_5_ok hu eN C FU a0 a1 (0 : Int32) (0 : Int32) s q26 h27 ?_
  refine A_iconst C (x := 0) dX6_load_63 (by decide) (pc' := 64) rfl ?_
  refine A_istore C (lv' := [some (.ref 21), some (.int a0), none, some (.int q26), some (.int (0 : Int32))]) dX6_load_64 rfl eN rfl rfl (pc' := 66) rfl ?_
  obtain ⟨q39, h40, hF⟩ := Option.bind_eq_some_iff.mp hF
  refine A_mask [true, true, false, true, true] (lv' := [some (.ref 21), some (.int a0), none, some (.int q26), some (.int (0 : Int32))]) rfl ?_
  refine L_X6_load_66_ok hu eN C FU a0 q26 (0 : Int32) s q39 h40 ?_
  refine A_iload_n C dX6_load_100 rfl (pc' := 101) rfl ?_
  cases hF
  exact A_iret C T (Nat.le_refl _) (Nat.le_refl _) dX6_load_101
def L_X6_absent_105 : Nat → Int32 → Int32 → Int32 → Int32 → Int32 → Int32 → Sg → Option (Int32)
  | 0, _, _, _, _, _, _, _ => none
  | fu + 1, b1, b2, b3, b4, b5, b6, s =>
    jn (fun (x23 : Int32) (x24 : Int32) (y25 : Int32) => if y25 = 0 then
          bnd (x24 + (1 : Int32)) fun x27 =>
          L_X6_absent_105 fu b1 b2 b3 b4 x23 x27 s
        else
          bnd (x24 + (1 : Int32)) fun x29 =>
          L_X6_absent_105 fu b1 b2 b3 b4 x24 x29 s) fun J156 =>
    if (8 : Int32) ≤ b6 then
      some b5
    else
      if b6 = b1 then
        J156 b5 b6 (0 : Int32)
      else
        (F_X6_mayTake b6 b4 s).bind fun q33 =>
        if q33 = 0 then
          J156 b5 b6 (0 : Int32)
        else
          if b5 < 0 then
            J156 b5 b6 (1 : Int32)
          else
            (F_X6_load b6 b2 s).bind fun q37 =>
            (F_X6_load b5 b2 s).bind fun q39 =>
            if q39 ≤ q37 then
              J156 b5 b6 (0 : Int32)
            else
              J156 b5 b6 (1 : Int32)
def L_X6_absent_51 : Nat → Int32 → Int32 → Int32 → Sg → Option (Sg)
  | 0, _, _, _, _ => none
  | fu + 1, b1, b2, b3, s =>
    if ((b2 + (1 : Int32)) * (s 2202 0)) ≤ b3 then
      some s
    else
      (F_X6_itemAt (1 : Int32) b1 b3 s).bind fun q11 =>
      if q11 < 0 then
        bnd (b3 + (1 : Int32)) fun x14 =>
        L_X6_absent_51 fu b1 b2 x14 s
      else
        grd (ixb q11 64 = true) <|
        if (s 30 q11.toNatClampNeg) = b3 then
          grd (ixb (s 2223 0) 64 = true) <|
          bnd (va_up s 33 (upd (s 33) (s 2223 0).toNatClampNeg q11)) fun s21 =>
          (L_X6_absent_105 FU b1 b2 b3 q11 (-1 : Int32) (0 : Int32) s21).bind fun q42 =>
          grd (ixb (s21 2223 0) 64 = true) <|
          bnd (va_up s21 38 (upd (s21 38) (s21 2223 0).toNatClampNeg q42)) fun s45 =>
          bnd (va_up s45 2223 (fun _ => ((s45 2223 0) + (1 : Int32)))) fun s47 =>
          bnd (b3 + (1 : Int32)) fun x49 =>
          L_X6_absent_51 fu b1 b2 x49 s47
        else
          bnd (b3 + (1 : Int32)) fun x18 =>
          L_X6_absent_51 fu b1 b2 x18 s
def F_X6_absent (a0 : Int32) (a1 : Int32) (s : Sg) : Option (Int32 × Sg) :=
  jn (fun (y1 : Int32) (s2 : Sg) => (F_X6_throwing y1 (0 : Int32) s2).bind fun q3 =>
      if q3.1 = 0 then
        bnd (va_up q3.2 2223 (fun _ => (0 : Int32))) fun s6 =>
        bnd (a1 * (s6 2202 0)) fun x8 =>
        (L_X6_absent_51 FU a0 a1 x8 s6).bind fun q51 =>
        some ((q51 2223 0), q51)
      else
        some ((0 : Int32), q3.2)) fun J30 =>
  (F_X6_in a0 (0 : Int32) (7 : Int32) s).bind fun q53 =>
  if q53 = 0 then
    J30 (1 : Int32) s
  else
    (F_X6_in a1 (0 : Int32) ((s 2201 0) - (1 : Int32)) s).bind fun q56 =>
    if q56 = 0 then
      J30 (1 : Int32) s
    else
      J30 (0 : Int32) s
set_option maxHeartbeats 4000000 in
set_option maxRecDepth 100000 in
theorem L_X6_absent_105_ok {Γ : Cx} (hu : Un Γ.2.1) (eN : 8 = Γ.2.2.2.2.2) (C : Cok Γ cX6_absent RX6 (some .int) 5 0 0) {o : Nat → Int64} : ∀ (fu : Nat) (b1 : Int32) (b2 : Int32) (b3 : Int32) (b4 : Int32) (b5 : Int32) (b6 : Int32) (s : Sg) (q : (Int32)), L_X6_absent_105 fu b1 b2 b3 b4 b5 b6 s = some q → AW Γ (HP s o) 0 0 [some (.ref 21), some (.int b1), some (.int b2), some (.int b3), none, some (.int q), none, none] [] 178 → AW Γ (HP s o) 0 0 [some (.ref 21), some (.int b1), some (.int b2), some (.int b3), some (.int b4), some (.int b5), some (.int b6), none] [] 105 := by
  intro fu
  induction fu with
  | zero => intro b1 b2 b3 b4 b5 b6 s q hF; rw [L_X6_absent_105] at hF; cases hF
  | succ fu ih =>
    intro b1 b2 b3 b4 b5 b6 s q hF hexit
    rw [L_X6_absent_105] at hF
    obtain ⟨J156, eJ156, hF⟩ := jn_some hF
    have hJ156 : ∀ (x23 : Int32) (x24 : Int32) (y25 : Int32), J156 x23 x24 y25 = some q → AW Γ (HP s o) 0 0 [some (.ref 21), some (.int b1), some (.int b2), some (.int b3), some (.int b4), some (.int x23), some (.int x24), none] [.int y25] 156 := by
      intro x23 x24 y25 hF
      rw [eJ156] at hF
      dsimp only at hF
      refine A_istore C (lv' := [some (.ref 21), some (.int b1), some (.int b2), some (.int b3), some (.int b4), some (.int x23), some (.int x24), some (.int y25)]) dX6_absent_156 rfl eN rfl rfl (pc' := 158) rfl ?_
      refine A_iload C dX6_absent_158 rfl (pc' := 160) rfl ?_
      refine A_if_eq C dX6_absent_160 (tgt := 168) (by decide) (pc' := 163) rfl (fun c26 => ?_) (fun c26 => ?_)
      · rw [if_pos c26] at hF
        refine A_iload C dX6_absent_168 rfl (pc' := 170) rfl ?_
        refine A_istore C (lv' := [some (.ref 21), some (.int b1), some (.int b2), some (.int b3), some (.int b4), some (.int x23), some (.int x24), some (.int y25)]) dX6_absent_170 rfl eN rfl rfl (pc' := 172) rfl ?_
        obtain ⟨x27, e28, hF⟩ := bnd_some hF
        refine A_iinc C (lv' := [some (.ref 21), some (.int b1), some (.int b2), some (.int b3), some (.int b4), some (.int x23), some (.int x27), some (.int y25)]) dX6_absent_172 rfl (by rw [e28]; rfl) rfl eN rfl rfl (pc' := 175) rfl ?_
        refine A_goto C dX6_absent_175 (tgt := 105) (by decide) ?_
        refine A_mask [true, true, true, true, true, true, true, false] (lv' := [some (.ref 21), some (.int b1), some (.int b2), some (.int b3), some (.int b4), some (.int x23), some (.int x27), none]) rfl ?_
        exact ih b1 b2 b3 b4 x23 x27 s q hF hexit
      · rw [if_neg c26] at hF
        refine A_iload C dX6_absent_163 rfl (pc' := 165) rfl ?_
        refine A_goto C dX6_absent_165 (tgt := 170) (by decide) ?_
        refine A_istore C (lv' := [some (.ref 21), some (.int b1), some (.int b2), some (.int b3), some (.int b4), some (.int x24), some (.int x24), some (.int y25)]) dX6_absent_170 rfl eN rfl rfl (pc' := 172) rfl ?_
        obtain ⟨x29, e30, hF⟩ := bnd_some hF
        refine A_iinc C (lv' := [some (.ref 21), some (.int b1), some (.int b2), some (.int b3), some (.int b4), some (.int x24), some (.int x29), some (.int y25)]) dX6_absent_172 rfl (by rw [e30]; rfl) rfl eN rfl rfl (pc' := 175) rfl ?_
        refine A_goto C dX6_absent_175 (tgt := 105) (by decide) ?_
        refine A_mask [true, true, true, true, true, true, true, false] (lv' := [some (.ref 21), some (.int b1), some (.int b2), some (.int b3), some (.int b4), some (.int x24), some (.int x29), none]) rfl ?_
        exact ih b1 b2 b3 b4 x24 x29 s q hF hexit
    clear eJ156
    refine A_iload C dX6_absent_105 rfl (pc' := 107) rfl ?_
    refine A_bipush C (x := 8) dX6_absent_107 (by decide) (pc' := 109) rfl ?_
    refine A_icmp_ge C dX6_absent_109 (tgt := 178) (by decide) (pc' := 112) rfl (fun c31 => ?_) (fun c31 => ?_)
    · rw [if_pos c31] at hF
      cases hF
      refine A_mask [true, true, true, true, false, true, false, false] (lv' := [some (.ref 21), some (.int b1), some (.int b2), some (.int b3), none, some (.int b5), none, none]) rfl ?_
      exact hexit
    · rw [if_neg c31] at hF
      refine A_iload C dX6_absent_112 rfl (pc' := 114) rfl ?_
      refine A_iload_n C dX6_absent_114 rfl (pc' := 115) rfl ?_
      refine A_icmp_eq C dX6_absent_115 (tgt := 155) (by decide) (pc' := 118) rfl (fun c32 => ?_) (fun c32 => ?_)
      · rw [if_pos c32] at hF
        refine A_iconst C (x := 0) dX6_absent_155 (by decide) (pc' := 156) rfl ?_
        refine A_mask [true, true, true, true, true, true, true, false] (lv' := [some (.ref 21), some (.int b1), some (.int b2), some (.int b3), some (.int b4), some (.int b5), some (.int b6), none]) rfl ?_
        exact hJ156 b5 b6 (0 : Int32) hF
      · rw [if_neg c32] at hF
        refine A_aload_n C dX6_absent_118 rfl (pc' := 119) rfl ?_
        refine A_iload C dX6_absent_119 rfl (pc' := 121) rfl ?_
        refine A_iload C dX6_absent_121 rfl (pc' := 123) rfl ?_
        obtain ⟨q33, h34, hF⟩ := Option.bind_eq_some_iff.mp hF
        refine A_callV C (av := [.int b6, .int b4]) (rest := []) (st2 := [.int q33]) (k2 := 0) (n2 := 0) (F_X6_mayTake_ok hu h34) mk_X6_mayTake lm_X6_158 wi_X6_mayTake wv_X6_mayTake (HPg_21 s o) rfl rfl rfl rfl ⟨by decide, by decide⟩ (Nat.le_of_ble_eq_true rfl) rfl rfl dX6_absent_123 rfl rfl rfl (pc' := 126) rfl ?_
        refine A_if_eq C dX6_absent_126 (tgt := 155) (by decide) (pc' := 129) rfl (fun c35 => ?_) (fun c35 => ?_)
        · rw [if_pos c35] at hF
          refine A_iconst C (x := 0) dX6_absent_155 (by decide) (pc' := 156) rfl ?_
          refine A_mask [true, true, true, true, true, true, true, false] (lv' := [some (.ref 21), some (.int b1), some (.int b2), some (.int b3), some (.int b4), some (.int b5), some (.int b6), none]) rfl ?_
          exact hJ156 b5 b6 (0 : Int32) hF
        · rw [if_neg c35] at hF
          refine A_iload C dX6_absent_129 rfl (pc' := 131) rfl ?_
          refine A_if_lt C dX6_absent_131 (tgt := 151) (by decide) (pc' := 134) rfl (fun c36 => ?_) (fun c36 => ?_)
          · rw [if_pos c36] at hF
            refine A_iconst C (x := 1) dX6_absent_151 (by decide) (pc' := 152) rfl ?_
            refine A_goto C dX6_absent_152 (tgt := 156) (by decide) ?_
            refine A_mask [true, true, true, true, true, true, true, false] (lv' := [some (.ref 21), some (.int b1), some (.int b2), some (.int b3), some (.int b4), some (.int b5), some (.int b6), none]) rfl ?_
            exact hJ156 b5 b6 (1 : Int32) hF
          · rw [if_neg c36] at hF
            refine A_aload_n C dX6_absent_134 rfl (pc' := 135) rfl ?_
            refine A_iload C dX6_absent_135 rfl (pc' := 137) rfl ?_
            refine A_iload_n C dX6_absent_137 rfl (pc' := 138) rfl ?_
            obtain ⟨q37, h38, hF⟩ := Option.bind_eq_some_iff.mp hF
            refine A_callV C (av := [.int b6, .int b2]) (rest := []) (st2 := [.int q37]) (k2 := 0) (n2 := 0) (F_X6_load_ok hu h38) mk_X6_load lm_X6_161 wi_X6_load wv_X6_load (HPg_21 s o) rfl rfl rfl rfl ⟨by decide, by decide⟩ (Nat.le_of_ble_eq_true rfl) rfl rfl dX6_absent_138 rfl rfl rfl (pc' := 141) rfl ?_
            refine A_aload_n C dX6_absent_141 rfl (pc' := 142) rfl ?_
            refine A_iload C dX6_absent_142 rfl (pc' := 144) rfl ?_
            refine A_iload_n C dX6_absent_144 rfl (pc' := 145) rfl ?_
            obtain ⟨q39, h40, hF⟩ := Option.bind_eq_some_iff.mp hF
            refine A_callV C (av := [.int b5, .int b2]) (rest := [.int q37]) (st2 := [.int q39, .int q37]) (k2 := 0) (n2 := 0) (F_X6_load_ok hu h40) mk_X6_load lm_X6_161 wi_X6_load wv_X6_load (HPg_21 s o) rfl rfl rfl rfl ⟨by decide, by decide⟩ (Nat.le_of_ble_eq_true rfl) rfl rfl dX6_absent_145 rfl rfl rfl (pc' := 148) rfl ?_
            refine A_icmp_ge C dX6_absent_148 (tgt := 155) (by decide) (pc' := 151) rfl (fun c41 => ?_) (fun c41 => ?_)
            · rw [if_pos c41] at hF
              refine A_iconst C (x := 0) dX6_absent_155 (by decide) (pc' := 156) rfl ?_
              refine A_mask [true, true, true, true, true, true, true, false] (lv' := [some (.ref 21), some (.int b1), some (.int b2), some (.int b3), some (.int b4), some (.int b5), some (.int b6), none]) rfl ?_
              exact hJ156 b5 b6 (0 : Int32) hF
            · rw [if_neg c41] at hF
              refine A_iconst C (x := 1) dX6_absent_151 (by decide) (pc' := 152) rfl ?_
              refine A_goto C dX6_absent_152 (tgt := 156) (by decide) ?_
              refine A_mask [true, true, true, true, true, true, true, false] (lv' := [some (.ref 21), some (.int b1), some (.int b2), some (.int b3), some (.int b4), some (.int b5), some (.int b6), none]) rfl ?_
              exact hJ156 b5 b6 (1 : Int32) hF
set_option maxHeartbeats 4000000 in
set_option maxRecDepth 100000 in
theorem L_X6_absent_51_ok {Γ : Cx} (hu : Un Γ.2.1) (eN : 8 = Γ.2.2.2.2.2) (C : Cok Γ cX6_absent RX6 (some .int) 5 0 0) {o : Nat → Int64} : ∀ (fu : Nat) (b1 : Int32) (b2 : Int32) (b3 : Int32) (s : Sg) (q : (Sg)), L_X6_absent_51 fu b1 b2 b3 s = some q → AW Γ (HP q o) 0 0 [some (.ref 21), none, none, none, none, none, none, none] [] 205 → AW Γ (HP s o) 0 0 [some (.ref 21), some (.int b1), some (.int b2), some (.int b3), none, none, none, none] [] 51 := by
  intro fu
  induction fu with
  | zero => intro b1 b2 b3 s q hF; rw [L_X6_absent_51] at hF; cases hF
  | succ fu ih =>
    intro b1 b2 b3 s q hF hexit
    rw [L_X6_absent_51] at hF
    refine A_iload_n C dX6_absent_51 rfl (pc' := 52) rfl ?_
    refine A_iload_n C dX6_absent_52 rfl (pc' := 53) rfl ?_
    refine A_iconst C (x := 1) dX6_absent_53 (by decide) (pc' := 54) rfl ?_
    refine A_iadd C dX6_absent_54 (pc' := 55) rfl ?_
    refine A_aload_n C dX6_absent_55 rfl (pc' := 56) rfl ?_
    refine A_get C (j := 2) cl_X6 rfl rfl lf_X6_66 dX6_absent_56 (HPg_21 s o) rfl (pc' := 59) rfl ?_
    refine A_imul C dX6_absent_59 (pc' := 60) rfl ?_
    refine A_icmp_ge C dX6_absent_60 (tgt := 205) (by decide) (pc' := 63) rfl (fun c10 => ?_) (fun c10 => ?_)
    · rw [if_pos c10] at hF
      cases hF
      refine A_mask [true, false, false, false, false, false, false, false] (lv' := [some (.ref 21), none, none, none, none, none, none, none]) rfl ?_
      exact hexit
    · rw [if_neg c10] at hF
      refine A_aload_n C dX6_absent_63 rfl (pc' := 64) rfl ?_
      refine A_iconst C (x := 1) dX6_absent_64 (by decide) (pc' := 65) rfl ?_
      refine A_iload_n C dX6_absent_65 rfl (pc' := 66) rfl ?_
      refine A_iload_n C dX6_absent_66 rfl (pc' := 67) rfl ?_
      obtain ⟨q11, h12, hF⟩ := Option.bind_eq_some_iff.mp hF
      refine A_callV C (av := [.int (1 : Int32), .int b1, .int b3]) (rest := []) (st2 := [.int q11]) (k2 := 0) (n2 := 0) (F_X6_itemAt_ok hu h12) mk_X6_itemAt lm_X6_98 wi_X6_itemAt wv_X6_itemAt (HPg_21 s o) rfl rfl rfl rfl ⟨by decide, by decide⟩ (Nat.le_of_ble_eq_true rfl) rfl rfl dX6_absent_67 rfl rfl rfl (pc' := 70) rfl ?_
      refine A_istore C (lv' := [some (.ref 21), some (.int b1), some (.int b2), some (.int b3), some (.int q11), none, none, none]) dX6_absent_70 rfl eN rfl rfl (pc' := 72) rfl ?_
      refine A_iload C dX6_absent_72 rfl (pc' := 74) rfl ?_
      refine A_if_lt C dX6_absent_74 (tgt := 199) (by decide) (pc' := 77) rfl (fun c13 => ?_) (fun c13 => ?_)
      · rw [if_pos c13] at hF
        obtain ⟨x14, e15, hF⟩ := bnd_some hF
        refine A_iinc C (lv' := [some (.ref 21), some (.int b1), some (.int b2), some (.int x14), some (.int q11), none, none, none]) dX6_absent_199 rfl (by rw [e15]; rfl) rfl eN rfl rfl (pc' := 202) rfl ?_
        refine A_goto C dX6_absent_202 (tgt := 51) (by decide) ?_
        refine A_mask [true, true, true, true, false, false, false, false] (lv' := [some (.ref 21), some (.int b1), some (.int b2), some (.int x14), none, none, none, none]) rfl ?_
        exact ih b1 b2 x14 s q hF hexit
      · rw [if_neg c13] at hF
        refine A_aload_n C dX6_absent_77 rfl (pc' := 78) rfl ?_
        refine A_get C (j := 12) cl_X6 rfl rfl lf_X6_34 dX6_absent_78 (HPg_21 s o) rfl (pc' := 81) rfl ?_
        refine A_iload C dX6_absent_81 rfl (pc' := 83) rfl ?_
        obtain ⟨h16, hF⟩ := grd_some hF
        refine A_iald C (HPg_30 s o) (ixb_in h16) dX6_absent_83 (pc' := 84) rfl ?_
        refine A_iload_n C dX6_absent_84 rfl (pc' := 85) rfl ?_
        refine A_icmp_ne C dX6_absent_85 (tgt := 199) (by decide) (pc' := 88) rfl (fun c17 => ?_) (fun c17 => ?_)
        · rw [if_neg c17] at hF
          obtain ⟨x18, e19, hF⟩ := bnd_some hF
          refine A_iinc C (lv' := [some (.ref 21), some (.int b1), some (.int b2), some (.int x18), some (.int q11), none, none, none]) dX6_absent_199 rfl (by rw [e19]; rfl) rfl eN rfl rfl (pc' := 202) rfl ?_
          refine A_goto C dX6_absent_202 (tgt := 51) (by decide) ?_
          refine A_mask [true, true, true, true, false, false, false, false] (lv' := [some (.ref 21), some (.int b1), some (.int b2), some (.int x18), none, none, none, none]) rfl ?_
          exact ih b1 b2 x18 s q hF hexit
        · rw [if_pos c17] at hF
          refine A_aload_n C dX6_absent_88 rfl (pc' := 89) rfl ?_
          refine A_get C (j := 16) cl_X6 rfl rfl lf_X6_44 dX6_absent_89 (HPg_21 s o) rfl (pc' := 92) rfl ?_
          refine A_aload_n C dX6_absent_92 rfl (pc' := 93) rfl ?_
          refine A_get C (j := 23) cl_X6 rfl rfl lf_X6_155 dX6_absent_93 (HPg_21 s o) rfl (pc' := 96) rfl ?_
          refine A_iload C dX6_absent_96 rfl (pc' := 98) rfl ?_
          obtain ⟨h20, hF⟩ := grd_some hF
          obtain ⟨s21, e22, hF⟩ := bnd_some hF
          refine A_iast C (h1 := HP s21 o) (HPg_33 s o) (ixb_in h20) (by rw [e22]; exact HPs_33 s o _) dX6_absent_98 (pc' := 99) rfl ?_
          refine A_iconst C (x := -1) dX6_absent_99 (by decide) (pc' := 100) rfl ?_
          refine A_istore C (lv' := [some (.ref 21), some (.int b1), some (.int b2), some (.int b3), some (.int q11), some (.int (-1 : Int32)), none, none]) dX6_absent_100 rfl eN rfl rfl (pc' := 102) rfl ?_
          refine A_iconst C (x := 0) dX6_absent_102 (by decide) (pc' := 103) rfl ?_
          refine A_istore C (lv' := [some (.ref 21), some (.int b1), some (.int b2), some (.int b3), some (.int q11), some (.int (-1 : Int32)), some (.int (0 : Int32)), none]) dX6_absent_103 rfl eN rfl rfl (pc' := 105) rfl ?_
          obtain ⟨q42, h43, hF⟩ := Option.bind_eq_some_iff.mp hF
          refine A_mask [true, true, true, true, true, true, true, false] (lv' := [some (.ref 21), some (.int b1), some (.int b2), some (.int b3), some (.int q11), some (.int (-1 : Int32)), some (.int (0 : Int32)), none]) rfl ?_
          refine L_X6_absent_105_ok hu eN C FU b1 b2 b3 q11 (-1 : Int32) (0 : Int32) s21 q42 h43 ?_
          refine A_aload_n C dX6_absent_178 rfl (pc' := 179) rfl ?_
          refine A_get C (j := 22) cl_X6 rfl rfl lf_X6_59 dX6_absent_179 (HPg_21 s21 o) rfl (pc' := 182) rfl ?_
          refine A_aload_n C dX6_absent_182 rfl (pc' := 183) rfl ?_
          refine A_get C (j := 23) cl_X6 rfl rfl lf_X6_155 dX6_absent_183 (HPg_21 s21 o) rfl (pc' := 186) rfl ?_
          refine A_iload C dX6_absent_186 rfl (pc' := 188) rfl ?_
          obtain ⟨h44, hF⟩ := grd_some hF
          obtain ⟨s45, e46, hF⟩ := bnd_some hF
          refine A_iast C (h1 := HP s45 o) (HPg_38 s21 o) (ixb_in h44) (by rw [e46]; exact HPs_38 s21 o _) dX6_absent_188 (pc' := 189) rfl ?_
          refine A_aload_n C dX6_absent_189 rfl (pc' := 190) rfl ?_
          refine A_dup C dX6_absent_190 rfl (pc' := 191) rfl ?_
          refine A_get C (j := 23) cl_X6 rfl rfl lf_X6_155 dX6_absent_191 (HPg_21 s45 o) rfl (pc' := 194) rfl ?_
          refine A_iconst C (x := 1) dX6_absent_194 (by decide) (pc' := 195) rfl ?_
          refine A_iadd C dX6_absent_195 (pc' := 196) rfl ?_
          obtain ⟨s47, e48, hF⟩ := bnd_some hF
          refine A_put C (j := 23) (h1 := HP s47 o) tyX6 tyX6_ok nmX6 cl_X6 rfl rfl lf_X6_155 rfl (tyX6_ok 23 (by decide)) (fun _ => rfl) (fun _ => rfl) rfl dX6_absent_196 (HPg_21 s45 o) (by rw [e48]; exact HPp_21_23 s45 o _) (pc' := 199) rfl ?_
          obtain ⟨x49, e50, hF⟩ := bnd_some hF
          refine A_iinc C (lv' := [some (.ref 21), some (.int b1), some (.int b2), some (.int x49), none, some (.int q42), none, none]) dX6_absent_199 rfl (by rw [e50]; rfl) rfl eN rfl rfl (pc' := 202) rfl ?_
          refine A_goto C dX6_absent_202 (tgt := 51) (by decide) ?_
          refine A_mask [true, true, true, true, false, false, false, false] (lv' := [some (.ref 21), some (.int b1), some (.int b2), some (.int x49), none, none, none, none]) rfl ?_
          exact ih b1 b2 x49 s47 q hF hexit
set_option maxHeartbeats 4000000 in
set_option maxRecDepth 100000 in
theorem F_X6_absent_ok {u : Uv} (hu : Un u) {a0 a1 : Int32} {s : Sg} {o : Nat → Int64} {r : (Int32 × Sg)} (hF : F_X6_absent a0 a1 s = some r) : AM u (yX6_absent, cX6_absent, 8, (some .int)) 5 0 0 [.ref 21, .int a0, .int a1] (HP s o) (some (.int r.1)) (HP r.2 o) := by
  refine AM.of hu (lv := [some (.ref 21), some (.int a0), some (.int a1), none, none, none, none, none]) (by decide) rfl (Nat.le_of_ble_eq_true rfl) rfl ?_
  intro Γ eu eN C T
  subst eu
  have C : Cok Γ cX6_absent RX6 (some .int) 5 0 0 := C
  unfold F_X6_absent at hF
  obtain ⟨J30, eJ30, hF⟩ := jn_some hF
  have hJ30 : ∀ (y1 : Int32) (s2 : Sg), J30 y1 s2 = some r → AW Γ (HP s2 o) 0 0 [some (.ref 21), some (.int a0), some (.int a1), none, none, none, none, none] [.int y1, .ref 21] 30 := by
    intro y1 s2 hF
    rw [eJ30] at hF
    dsimp only at hF
    refine A_iconst C (x := 0) dX6_absent_30 (by decide) (pc' := 31) rfl ?_
    obtain ⟨q3, h4, hF⟩ := Option.bind_eq_some_iff.mp hF
    refine A_callV C (av := [.int y1, .int (0 : Int32)]) (rest := []) (st2 := [.int q3.1]) (k2 := 0) (n2 := 0) (F_X6_throwing_ok hu h4) mk_X6_throwing lm_X6_90 wi_X6_throwing wv_X6_throwing (HPg_21 s2 o) rfl rfl rfl rfl ⟨by decide, by decide⟩ (Nat.le_of_ble_eq_true rfl) rfl rfl dX6_absent_31 rfl rfl rfl (pc' := 34) rfl ?_
    refine A_if_eq C dX6_absent_34 (tgt := 39) (by decide) (pc' := 37) rfl (fun c5 => ?_) (fun c5 => ?_)
    · rw [if_pos c5] at hF
      refine A_aload_n C dX6_absent_39 rfl (pc' := 40) rfl ?_
      refine A_iconst C (x := 0) dX6_absent_40 (by decide) (pc' := 41) rfl ?_
      obtain ⟨s6, e7, hF⟩ := bnd_some hF
      refine A_put C (j := 23) (h1 := HP s6 o) tyX6 tyX6_ok nmX6 cl_X6 rfl rfl lf_X6_155 rfl (tyX6_ok 23 (by decide)) (fun _ => rfl) (fun _ => rfl) rfl dX6_absent_41 (HPg_21 q3.2 o) (by rw [e7]; exact HPp_21_23 q3.2 o _) (pc' := 44) rfl ?_
      refine A_iload_n C dX6_absent_44 rfl (pc' := 45) rfl ?_
      refine A_aload_n C dX6_absent_45 rfl (pc' := 46) rfl ?_
      refine A_get C (j := 2) cl_X6 rfl rfl lf_X6_66 dX6_absent_46 (HPg_21 s6 o) rfl (pc' := 49) rfl ?_
      refine A_imul C dX6_absent_49 (pc' := 50) rfl ?_
      obtain ⟨x8, e9, hF⟩ := bnd_some hF
      refine A_topi e9 ?_
      refine A_istore_n C (lv' := [some (.ref 21), some (.int a0), some (.int a1), some (.int x8), none, none, none, none]) dX6_absent_50 rfl eN rfl rfl (pc' := 51) rfl ?_
      obtain ⟨q51, h52, hF⟩ := Option.bind_eq_some_iff.mp hF
      refine A_mask [true, true, true, true, false, false, false, false] (lv' := [some (.ref 21), some (.int a0), some (.int a1), some (.int x8), none, none, none, none]) rfl ?_
      refine L_X6_absent_51_ok hu eN C FU a0 a1 x8 s6 q51 h52 ?_
      refine A_aload_n C dX6_absent_205 rfl (pc' := 206) rfl ?_
      refine A_get C (j := 23) cl_X6 rfl rfl lf_X6_155 dX6_absent_206 (HPg_21 q51 o) rfl (pc' := 209) rfl ?_
      cases hF
      exact A_iret C T (Nat.le_refl _) (Nat.le_refl _) dX6_absent_209
    · rw [if_neg c5] at hF
      refine A_iconst C (x := 0) dX6_absent_37 (by decide) (pc' := 38) rfl ?_
      cases hF
      exact A_iret C T (Nat.le_refl _) (Nat.le_refl _) dX6_absent_38
  clear eJ30
  refine A_aload_n C dX6_absent_0 rfl (pc' := 1) rfl ?_
  refine A_iload_n C dX6_absent_1 rfl (pc' := 2) rfl ?_
  refine A_iconst C (x := 0) dX6_absent_2 (by decide) (pc' := 3) rfl ?_
  refine A_bipush C (x := 7) dX6_absent_3 (by decide) (pc' := 5) rfl ?_
  obtain ⟨q53, h54, hF⟩ := Option.bind_eq_some_iff.mp hF
  refine A_callS C (av := [.int a0, .int (0 : Int32), .int (7 : Int32)]) (rest := [.ref 21]) (st2 := [.int q53, .ref 21]) (k2 := 0) (n2 := 0) (F_X6_in_ok hu h54) mk_X6_in lm_X6_72 ws_X6_in rfl rfl rfl ⟨by decide, by decide⟩ (Nat.le_of_ble_eq_true rfl) rfl rfl dX6_absent_5 rfl rfl rfl (pc' := 8) rfl ?_
  refine A_if_eq C dX6_absent_8 (tgt := 25) (by decide) (pc' := 11) rfl (fun c55 => ?_) (fun c55 => ?_)
  · rw [if_pos c55] at hF
    refine A_iconst C (x := 1) dX6_absent_25 (by decide) (pc' := 26) rfl ?_
    refine A_goto C dX6_absent_26 (tgt := 30) (by decide) ?_
    refine A_mask [true, true, true, false, false, false, false, false] (lv' := [some (.ref 21), some (.int a0), some (.int a1), none, none, none, none, none]) rfl ?_
    exact hJ30 (1 : Int32) s hF
  · rw [if_neg c55] at hF
    refine A_iload_n C dX6_absent_11 rfl (pc' := 12) rfl ?_
    refine A_iconst C (x := 0) dX6_absent_12 (by decide) (pc' := 13) rfl ?_
    refine A_aload_n C dX6_absent_13 rfl (pc' := 14) rfl ?_
    refine A_get C (j := 1) cl_X6 rfl rfl lf_X6_62 dX6_absent_14 (HPg_21 s o) rfl (pc' := 17) rfl ?_
    refine A_iconst C (x := 1) dX6_absent_17 (by decide) (pc' := 18) rfl ?_
    refine A_isub C dX6_absent_18 (pc' := 19) rfl ?_
    obtain ⟨q56, h57, hF⟩ := Option.bind_eq_some_iff.mp hF
    refine A_callS C (av := [.int a1, .int (0 : Int32), .int ((s 2201 0) - (1 : Int32))]) (rest := [.ref 21]) (st2 := [.int q56, .ref 21]) (k2 := 0) (n2 := 0) (F_X6_in_ok hu h57) mk_X6_in lm_X6_72 ws_X6_in rfl rfl rfl ⟨by decide, by decide⟩ (Nat.le_of_ble_eq_true rfl) rfl rfl dX6_absent_19 rfl rfl rfl (pc' := 22) rfl ?_
    refine A_if_ne C dX6_absent_22 (tgt := 29) (by decide) (pc' := 25) rfl (fun c58 => ?_) (fun c58 => ?_)
    · rw [if_neg c58] at hF
      refine A_iconst C (x := 0) dX6_absent_29 (by decide) (pc' := 30) rfl ?_
      refine A_mask [true, true, true, false, false, false, false, false] (lv' := [some (.ref 21), some (.int a0), some (.int a1), none, none, none, none, none]) rfl ?_
      exact hJ30 (0 : Int32) s hF
    · rw [if_pos c58] at hF
      refine A_iconst C (x := 1) dX6_absent_25 (by decide) (pc' := 26) rfl ?_
      refine A_goto C dX6_absent_26 (tgt := 30) (by decide) ?_
      refine A_mask [true, true, true, false, false, false, false, false] (lv' := [some (.ref 21), some (.int a0), some (.int a1), none, none, none, none, none]) rfl ?_
      exact hJ30 (1 : Int32) s hF
def F_X6_substitute (a0 : Int32) (s : Sg) : Option (Int32 × Sg) :=
  (F_X6_in a0 (0 : Int32) ((s 2223 0) - (1 : Int32)) s).bind fun q1 =>
  if q1 = 0 then
    (F_X6_throwing (1 : Int32) (0 : Int32) s).bind fun q8 =>
    if q8.1 = 0 then
      grd (ixb a0 64 = true) <|
      some ((q8.2 38 a0.toNatClampNeg), q8.2)
    else
      some ((0 : Int32), q8.2)
  else
    (F_X6_throwing (0 : Int32) (0 : Int32) s).bind fun q4 =>
    if q4.1 = 0 then
      grd (ixb a0 64 = true) <|
      some ((q4.2 38 a0.toNatClampNeg), q4.2)
    else
      some ((0 : Int32), q4.2)
set_option maxHeartbeats 4000000 in
set_option maxRecDepth 100000 in
theorem F_X6_substitute_ok {u : Uv} (hu : Un u) {a0 : Int32} {s : Sg} {o : Nat → Int64} {r : (Int32 × Sg)} (hF : F_X6_substitute a0 s = some r) : AM u (yX6_substitute, cX6_substitute, 2, (some .int)) 1 0 0 [.ref 21, .int a0] (HP s o) (some (.int r.1)) (HP r.2 o) := by
  refine AM.of hu (lv := [some (.ref 21), some (.int a0)]) (by decide) rfl (Nat.le_of_ble_eq_true rfl) rfl ?_
  intro Γ eu eN C T
  subst eu
  have C : Cok Γ cX6_substitute RX6 (some .int) 1 0 0 := C
  unfold F_X6_substitute at hF
  refine A_aload_n C dX6_substitute_0 rfl (pc' := 1) rfl ?_
  refine A_iload_n C dX6_substitute_1 rfl (pc' := 2) rfl ?_
  refine A_iconst C (x := 0) dX6_substitute_2 (by decide) (pc' := 3) rfl ?_
  refine A_aload_n C dX6_substitute_3 rfl (pc' := 4) rfl ?_
  refine A_get C (j := 23) cl_X6 rfl rfl lf_X6_155 dX6_substitute_4 (HPg_21 s o) rfl (pc' := 7) rfl ?_
  refine A_iconst C (x := 1) dX6_substitute_7 (by decide) (pc' := 8) rfl ?_
  refine A_isub C dX6_substitute_8 (pc' := 9) rfl ?_
  obtain ⟨q1, h2, hF⟩ := Option.bind_eq_some_iff.mp hF
  refine A_callS C (av := [.int a0, .int (0 : Int32), .int ((s 2223 0) - (1 : Int32))]) (rest := [.ref 21]) (st2 := [.int q1, .ref 21]) (k2 := 0) (n2 := 0) (F_X6_in_ok hu h2) mk_X6_in lm_X6_72 ws_X6_in rfl rfl rfl ⟨by decide, by decide⟩ (Nat.le_of_ble_eq_true rfl) rfl rfl dX6_substitute_9 rfl rfl rfl (pc' := 12) rfl ?_
  refine A_if_ne C dX6_substitute_12 (tgt := 19) (by decide) (pc' := 15) rfl (fun c3 => ?_) (fun c3 => ?_)
  · rw [if_neg c3] at hF
    refine A_iconst C (x := 0) dX6_substitute_19 (by decide) (pc' := 20) rfl ?_
    refine A_iconst C (x := 0) dX6_substitute_20 (by decide) (pc' := 21) rfl ?_
    obtain ⟨q4, h5, hF⟩ := Option.bind_eq_some_iff.mp hF
    refine A_callV C (av := [.int (0 : Int32), .int (0 : Int32)]) (rest := []) (st2 := [.int q4.1]) (k2 := 0) (n2 := 0) (F_X6_throwing_ok hu h5) mk_X6_throwing lm_X6_90 wi_X6_throwing wv_X6_throwing (HPg_21 s o) rfl rfl rfl rfl ⟨by decide, by decide⟩ (Nat.le_of_ble_eq_true rfl) rfl rfl dX6_substitute_21 rfl rfl rfl (pc' := 24) rfl ?_
    refine A_if_eq C dX6_substitute_24 (tgt := 29) (by decide) (pc' := 27) rfl (fun c6 => ?_) (fun c6 => ?_)
    · rw [if_pos c6] at hF
      refine A_aload_n C dX6_substitute_29 rfl (pc' := 30) rfl ?_
      refine A_get C (j := 22) cl_X6 rfl rfl lf_X6_59 dX6_substitute_30 (HPg_21 q4.2 o) rfl (pc' := 33) rfl ?_
      refine A_iload_n C dX6_substitute_33 rfl (pc' := 34) rfl ?_
      obtain ⟨h7, hF⟩ := grd_some hF
      refine A_iald C (HPg_38 q4.2 o) (ixb_in h7) dX6_substitute_34 (pc' := 35) rfl ?_
      cases hF
      exact A_iret C T (Nat.le_refl _) (Nat.le_refl _) dX6_substitute_35
    · rw [if_neg c6] at hF
      refine A_iconst C (x := 0) dX6_substitute_27 (by decide) (pc' := 28) rfl ?_
      cases hF
      exact A_iret C T (Nat.le_refl _) (Nat.le_refl _) dX6_substitute_28
  · rw [if_pos c3] at hF
    refine A_iconst C (x := 1) dX6_substitute_15 (by decide) (pc' := 16) rfl ?_
    refine A_goto C dX6_substitute_16 (tgt := 20) (by decide) ?_
    refine A_iconst C (x := 0) dX6_substitute_20 (by decide) (pc' := 21) rfl ?_
    obtain ⟨q8, h9, hF⟩ := Option.bind_eq_some_iff.mp hF
    refine A_callV C (av := [.int (1 : Int32), .int (0 : Int32)]) (rest := []) (st2 := [.int q8.1]) (k2 := 0) (n2 := 0) (F_X6_throwing_ok hu h9) mk_X6_throwing lm_X6_90 wi_X6_throwing wv_X6_throwing (HPg_21 s o) rfl rfl rfl rfl ⟨by decide, by decide⟩ (Nat.le_of_ble_eq_true rfl) rfl rfl dX6_substitute_21 rfl rfl rfl (pc' := 24) rfl ?_
    refine A_if_eq C dX6_substitute_24 (tgt := 29) (by decide) (pc' := 27) rfl (fun c10 => ?_) (fun c10 => ?_)
    · rw [if_pos c10] at hF
      refine A_aload_n C dX6_substitute_29 rfl (pc' := 30) rfl ?_
      refine A_get C (j := 22) cl_X6 rfl rfl lf_X6_59 dX6_substitute_30 (HPg_21 q8.2 o) rfl (pc' := 33) rfl ?_
      refine A_iload_n C dX6_substitute_33 rfl (pc' := 34) rfl ?_
      obtain ⟨h11, hF⟩ := grd_some hF
      refine A_iald C (HPg_38 q8.2 o) (ixb_in h11) dX6_substitute_34 (pc' := 35) rfl ?_
      cases hF
      exact A_iret C T (Nat.le_refl _) (Nat.le_refl _) dX6_substitute_35
    · rw [if_neg c10] at hF
      refine A_iconst C (x := 0) dX6_substitute_27 (by decide) (pc' := 28) rfl ?_
      cases hF
      exact A_iret C T (Nat.le_refl _) (Nat.le_refl _) dX6_substitute_28
