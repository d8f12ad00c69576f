def F_X4_aim (a0 : Int32) (s : Sg) : Option Sg :=
  jn (fun (y1 : Int32) (s2 : Sg) => if y1 = 0 then
        grd (ixb a0 64 = true) <|
        bnd (va_up s2 3 (upd (s2 3) a0.toNatClampNeg (0 : Int32))) fun s5 =>
        some s5
      else
        grd (ixb (a0 - (1 : Int32)) 64 = true) <|
        (F_X0_periodOfItem (s2 2 (a0 - (1 : Int32)).toNatClampNeg) s2).bind fun q8 =>
        grd (ixb a0 64 = true) <|
        bnd (va_up s2 3 (upd (s2 3) a0.toNatClampNeg (q8 + (1 : Int32)))) fun s11 =>
        some s11) fun J41 =>
  if a0 < (s 202 0) then
    if a0 ≤ 0 then
      J41 (0 : Int32) s
    else
      grd (ixb (a0 - (1 : Int32)) 64 = true) <|
      (F_X5_lessonOf (s 2 (a0 - (1 : Int32)).toNatClampNeg) s).bind fun q16 =>
      grd (ixb a0 64 = true) <|
      (F_X5_lessonOf (s 2 a0.toNatClampNeg) s).bind fun q19 =>
      if q16 = q19 then
        J41 (1 : Int32) s
      else
        J41 (0 : Int32) s
  else
    some s
set_option maxHeartbeats 4000000 in
set_option maxRecDepth 100000 in
theorem F_X4_aim_ok {u : Uv} (hu : Un u) {a0 : Int32} {s : Sg} {o : Nat → Int64} {r : Sg} (hF : F_X4_aim a0 s = some r) : AM u (yX4_aim, cX4_aim, 4, none) 2 0 0 [.ref 1, .ref 8, .int a0] (HP s o) none (HP r o) := by
  refine AM.of hu (lv := [some (.ref 1), some (.ref 8), some (.int a0), none]) (by decide) rfl (Nat.le_of_ble_eq_true rfl) rfl ?_
  intro Γ eu eN C T
  subst eu
  have C : Cok Γ cX4_aim RX4 none 2 0 0 := C
  unfold F_X4_aim at hF
  obtain ⟨J41, eJ41, hF⟩ := jn_some hF
  have hJ41 : ∀ (y1 : Int32) (s2 : Sg), J41 y1 s2 = some r → AW Γ (HP s2 o) 0 0 [some (.ref 1), some (.ref 8), some (.int a0), none] [.int y1] 41 := by
    intro y1 s2 hF
    rw [eJ41] at hF
    dsimp only at hF
    refine A_istore_n C (lv' := [some (.ref 1), some (.ref 8), some (.int a0), some (.int y1)]) dX4_aim_41 rfl eN rfl rfl (pc' := 42) rfl ?_
    refine A_aload_n C dX4_aim_42 rfl (pc' := 43) rfl ?_
    refine A_get C (j := 1) cl_X4 rfl rfl lf_X4_15 dX4_aim_43 (HPg_1 s2 o) rfl (pc' := 46) rfl ?_
    refine A_iload_n C dX4_aim_46 rfl (pc' := 47) rfl ?_
    refine A_iload_n C dX4_aim_47 rfl (pc' := 48) rfl ?_
    refine A_if_eq C dX4_aim_48 (tgt := 68) (by decide) (pc' := 51) rfl (fun c3 => ?_) (fun c3 => ?_)
    · rw [if_pos c3] at hF
      refine A_iconst C (x := 0) dX4_aim_68 (by decide) (pc' := 69) rfl ?_
      obtain ⟨h4, hF⟩ := grd_some hF
      obtain ⟨s5, e6, hF⟩ := bnd_some hF
      refine A_iast C (h1 := HP s5 o) (HPg_3 s2 o) (ixb_in h4) (by rw [e6]; exact HPs_3 s2 o _) dX4_aim_69 (pc' := 70) rfl ?_
      cases hF
      exact A_vret C T (Nat.le_refl _) (Nat.le_refl _) dX4_aim_70
    · rw [if_neg c3] at hF
      refine A_aload_n C dX4_aim_51 rfl (pc' := 52) rfl ?_
      refine A_aload_n C dX4_aim_52 rfl (pc' := 53) rfl ?_
      refine A_get C (j := 0) cl_X4 rfl rfl lf_X4_9 dX4_aim_53 (HPg_1 s2 o) rfl (pc' := 56) rfl ?_
      refine A_iload_n C dX4_aim_56 rfl (pc' := 57) rfl ?_
      refine A_iconst C (x := 1) dX4_aim_57 (by decide) (pc' := 58) rfl ?_
      refine A_isub C dX4_aim_58 (pc' := 59) rfl ?_
      obtain ⟨h7, hF⟩ := grd_some hF
      refine A_iald C (HPg_2 s2 o) (ixb_in h7) dX4_aim_59 (pc' := 60) rfl ?_
      obtain ⟨q8, h9, hF⟩ := Option.bind_eq_some_iff.mp hF
      refine A_callVN C (av := [.int (s2 2 (a0 - (1 : Int32)).toNatClampNeg)]) (rest := [.int a0, .ref 3]) (st2 := [.int q8, .int a0, .ref 3]) (k2 := 0) (n2 := 0) (F_X0_periodOfItem_ok hu h9) mk_X0_periodOfItem lm_X4_74 wi_X0_periodOfItem wv_X0_periodOfItem (HPg_8 s2 o) rfl rfl rfl rfl ⟨by decide, by decide⟩ (Nat.le_of_ble_eq_true rfl) rfl rfl dX4_aim_60 rfl rfl rfl (pc' := 63) rfl ?_
      refine A_iconst C (x := 1) dX4_aim_63 (by decide) (pc' := 64) rfl ?_
      refine A_iadd C dX4_aim_64 (pc' := 65) rfl ?_
      refine A_goto C dX4_aim_65 (tgt := 69) (by decide) ?_
      obtain ⟨h10, hF⟩ := grd_some hF
      obtain ⟨s11, e12, hF⟩ := bnd_some hF
      refine A_iast C (h1 := HP s11 o) (HPg_3 s2 o) (ixb_in h10) (by rw [e12]; exact HPs_3 s2 o _) dX4_aim_69 (pc' := 70) rfl ?_
      cases hF
      exact A_vret C T (Nat.le_refl _) (Nat.le_refl _) dX4_aim_70
  clear eJ41
  refine A_iload_n C dX4_aim_0 rfl (pc' := 1) rfl ?_
  refine A_aload_n C dX4_aim_1 rfl (pc' := 2) rfl ?_
  refine A_get C (j := 2) cl_X4 rfl rfl lf_X4_31 dX4_aim_2 (HPg_1 s o) rfl (pc' := 5) rfl ?_
  refine A_icmp_lt C dX4_aim_5 (tgt := 9) (by decide) (pc' := 8) rfl (fun c13 => ?_) (fun c13 => ?_)
  · rw [if_pos c13] at hF
    refine A_iload_n C dX4_aim_9 rfl (pc' := 10) rfl ?_
    refine A_if_le C dX4_aim_10 (tgt := 40) (by decide) (pc' := 13) rfl (fun c14 => ?_) (fun c14 => ?_)
    · rw [if_pos c14] at hF
      refine A_iconst C (x := 0) dX4_aim_40 (by decide) (pc' := 41) rfl ?_
      refine A_mask [true, true, true, false] (lv' := [some (.ref 1), some (.ref 8), some (.int a0), none]) rfl ?_
      exact hJ41 (0 : Int32) s hF
    · rw [if_neg c14] at hF
      refine A_aload_n C dX4_aim_13 rfl (pc' := 14) rfl ?_
      refine A_get C (j := 0) cl_X4 rfl rfl lf_X4_9 dX4_aim_14 (HPg_1 s o) rfl (pc' := 17) rfl ?_
      refine A_iload_n C dX4_aim_17 rfl (pc' := 18) rfl ?_
      refine A_iconst C (x := 1) dX4_aim_18 (by decide) (pc' := 19) rfl ?_
      refine A_isub C dX4_aim_19 (pc' := 20) rfl ?_
      obtain ⟨h15, hF⟩ := grd_some hF
      refine A_iald C (HPg_2 s o) (ixb_in h15) dX4_aim_20 (pc' := 21) rfl ?_
      obtain ⟨q16, h17, hF⟩ := Option.bind_eq_some_iff.mp hF
      refine A_callSN C (av := [.int (s 2 (a0 - (1 : Int32)).toNatClampNeg)]) (rest := []) (st2 := [.int q16]) (k2 := 0) (n2 := 0) (F_X5_lessonOf_ok hu h17) mk_X5_lessonOf lm_X4_70 ws_X5_lessonOf rfl rfl rfl ⟨by decide, by decide⟩ (Nat.le_of_ble_eq_true rfl) rfl rfl dX4_aim_21 rfl rfl rfl (pc' := 24) rfl ?_
      refine A_aload_n C dX4_aim_24 rfl (pc' := 25) rfl ?_
      refine A_get C (j := 0) cl_X4 rfl rfl lf_X4_9 dX4_aim_25 (HPg_1 s o) rfl (pc' := 28) rfl ?_
      refine A_iload_n C dX4_aim_28 rfl (pc' := 29) rfl ?_
      obtain ⟨h18, hF⟩ := grd_some hF
      refine A_iald C (HPg_2 s o) (ixb_in h18) dX4_aim_29 (pc' := 30) rfl ?_
      obtain ⟨q19, h20, hF⟩ := Option.bind_eq_some_iff.mp hF
      refine A_callSN C (av := [.int (s 2 a0.toNatClampNeg)]) (rest := [.int q16]) (st2 := [.int q19, .int q16]) (k2 := 0) (n2 := 0) (F_X5_lessonOf_ok hu h20) mk_X5_lessonOf lm_X4_70 ws_X5_lessonOf rfl rfl rfl ⟨by decide, by decide⟩ (Nat.le_of_ble_eq_true rfl) rfl rfl dX4_aim_30 rfl rfl rfl (pc' := 33) rfl ?_
      refine A_icmp_ne C dX4_aim_33 (tgt := 40) (by decide) (pc' := 36) rfl (fun c21 => ?_) (fun c21 => ?_)
      · rw [if_neg c21] at hF
        refine A_iconst C (x := 0) dX4_aim_40 (by decide) (pc' := 41) rfl ?_
        refine A_mask [true, true, true, false] (lv' := [some (.ref 1), some (.ref 8), some (.int a0), none]) rfl ?_
        exact hJ41 (0 : Int32) s hF
      · rw [if_pos c21] at hF
        refine A_iconst C (x := 1) dX4_aim_36 (by decide) (pc' := 37) rfl ?_
        refine A_goto C dX4_aim_37 (tgt := 41) (by decide) ?_
        refine A_mask [true, true, true, false] (lv' := [some (.ref 1), some (.ref 8), some (.int a0), none]) rfl ?_
        exact hJ41 (1 : Int32) s hF
  · rw [if_neg c13] at hF
    cases hF
    exact A_vret C T (Nat.le_refl _) (Nat.le_refl _) dX4_aim_8
def L_X4_takeAllOut_2 : Nat → Int32 → Int32 → Sg → Option (Sg)
  | 0, _, _, _ => none
  | fu + 1, b2, b3, s =>
    if b2 ≤ b3 then
      some s
    else
      grd (ixb b3 64 = true) <|
      (F_X0_takeOut (s 2 b3.toNatClampNeg) s).bind fun q3 =>
      bnd (b3 + (1 : Int32)) fun x5 =>
      L_X4_takeAllOut_2 fu b2 x5 q3
def F_X4_takeAllOut (a0 : Int32) (s : Sg) : Option Sg :=
  (L_X4_takeAllOut_2 FU a0 (0 : Int32) s).bind fun q7 =>
  some q7
set_option maxHeartbeats 4000000 in
set_option maxRecDepth 100000 in
theorem L_X4_takeAllOut_2_ok {Γ : Cx} (hu : Un Γ.2.1) (eN : 4 = Γ.2.2.2.2.2) (C : Cok Γ cX4_takeAllOut RX4 none 2 0 0) {o : Nat → Int64} : ∀ (fu : Nat) (b2 : Int32) (b3 : Int32) (s : Sg) (q : (Sg)), L_X4_takeAllOut_2 fu b2 b3 s = some q → AW Γ (HP q o) 0 0 [none, none, none, none] [] 23 → AW Γ (HP s o) 0 0 [some (.ref 1), some (.ref 8), some (.int b2), some (.int b3)] [] 2 := by
  intro fu
  induction fu with
  | zero => intro b2 b3 s q hF; rw [L_X4_takeAllOut_2] at hF; cases hF
  | succ fu ih =>
    intro b2 b3 s q hF hexit
    rw [L_X4_takeAllOut_2] at hF
    refine A_iload_n C dX4_takeAllOut_2 rfl (pc' := 3) rfl ?_
    refine A_iload_n C dX4_takeAllOut_3 rfl (pc' := 4) rfl ?_
    refine A_icmp_ge C dX4_takeAllOut_4 (tgt := 23) (by decide) (pc' := 7) rfl (fun c1 => ?_) (fun c1 => ?_)
    · rw [if_pos c1] at hF
      cases hF
      refine A_mask [false, false, false, false] (lv' := [none, none, none, none]) rfl ?_
      exact hexit
    · rw [if_neg c1] at hF
      refine A_aload_n C dX4_takeAllOut_7 rfl (pc' := 8) rfl ?_
      refine A_aload_n C dX4_takeAllOut_8 rfl (pc' := 9) rfl ?_
      refine A_get C (j := 0) cl_X4 rfl rfl lf_X4_9 dX4_takeAllOut_9 (HPg_1 s o) rfl (pc' := 12) rfl ?_
      refine A_iload_n C dX4_takeAllOut_12 rfl (pc' := 13) rfl ?_
      obtain ⟨h2, hF⟩ := grd_some hF
      refine A_iald C (HPg_2 s o) (ixb_in h2) dX4_takeAllOut_13 (pc' := 14) rfl ?_
      obtain ⟨q3, h4, hF⟩ := Option.bind_eq_some_iff.mp hF
      refine A_callVN C (av := [.int (s 2 b3.toNatClampNeg)]) (rest := []) (st2 := []) (k2 := 0) (n2 := 0) (F_X0_takeOut_ok hu h4) mk_X0_takeOut lm_X4_39 wi_X0_takeOut wv_X0_takeOut (HPg_8 s o) rfl rfl rfl rfl ⟨by decide, by decide⟩ (Nat.le_of_ble_eq_true rfl) rfl rfl dX4_takeAllOut_14 rfl rfl rfl (pc' := 17) rfl ?_
      obtain ⟨x5, e6, hF⟩ := bnd_some hF
      refine A_iinc C (lv' := [some (.ref 1), some (.ref 8), some (.int b2), some (.int x5)]) dX4_takeAllOut_17 rfl (by rw [e6]; rfl) rfl eN rfl rfl (pc' := 20) rfl ?_
      refine A_goto C dX4_takeAllOut_20 (tgt := 2) (by decide) ?_
      refine A_mask [true, true, true, true] (lv' := [some (.ref 1), some (.ref 8), some (.int b2), some (.int x5)]) rfl ?_
      exact ih b2 x5 q3 q hF hexit
set_option maxHeartbeats 4000000 in
set_option maxRecDepth 100000 in
theorem F_X4_takeAllOut_ok {u : Uv} (hu : Un u) {a0 : Int32} {s : Sg} {o : Nat → Int64} {r : Sg} (hF : F_X4_takeAllOut a0 s = some r) : AM u (yX4_takeAllOut, cX4_takeAllOut, 4, none) 2 0 0 [.ref 1, .ref 8, .int a0] (HP s o) none (HP r o) := by
  refine AM.of hu (lv := [some (.ref 1), some (.ref 8), some (.int a0), none]) (by decide) rfl (Nat.le_of_ble_eq_true rfl) rfl ?_
  intro Γ eu eN C T
  subst eu
  have C : Cok Γ cX4_takeAllOut RX4 none 2 0 0 := C
  unfold F_X4_takeAllOut at hF
  refine A_iconst C (x := 0) dX4_takeAllOut_0 (by decide) (pc' := 1) rfl ?_
  refine A_istore_n C (lv' := [some (.ref 1), some (.ref 8), some (.int a0), some (.int (0 : Int32))]) dX4_takeAllOut_1 rfl eN rfl rfl (pc' := 2) rfl ?_
  obtain ⟨q7, h8, hF⟩ := Option.bind_eq_some_iff.mp hF
  refine A_mask [true, true, true, true] (lv' := [some (.ref 1), some (.ref 8), some (.int a0), some (.int (0 : Int32))]) rfl ?_
  refine L_X4_takeAllOut_2_ok hu eN C FU a0 (0 : Int32) s q7 h8 ?_
  cases hF
  exact A_vret C T (Nat.le_refl _) (Nat.le_refl _) dX4_takeAllOut_23
def F_X4_tryNext (a0 : Int32) (s : Sg) : Option (Int32 × Sg) :=
  grd (ixb a0 64 = true) <|
  bnd (s 3 a0.toNatClampNeg) fun x2 =>
  grd (ixb a0 64 = true) <|
  grd (ixb a0 64 = true) <|
  bnd (va_up s 3 (upd (s 3) a0.toNatClampNeg ((s 3 a0.toNatClampNeg) + (1 : Int32)))) fun s6 =>
  bnd (va_up s6 203 (fun _ => ((s6 203 0) + (1 : Int32)))) fun s8 =>
  grd (ixb a0 64 = true) <|
  (F_X0_putByRules (s8 2 a0.toNatClampNeg) x2 s8).bind fun q11 =>
  if q11.1 = 0 then
    some ((1 : Int32), q11.2)
  else
    some ((0 : Int32), q11.2)
set_option maxHeartbeats 4000000 in
set_option maxRecDepth 100000 in
theorem F_X4_tryNext_ok {u : Uv} (hu : Un u) {a0 : Int32} {s : Sg} {o : Nat → Int64} {r : (Int32 × Sg)} (hF : F_X4_tryNext a0 s = some r) : AM u (yX4_tryNext, cX4_tryNext, 4, (some .boolean)) 4 0 0 [.ref 1, .ref 8, .int a0] (HP s o) (some (.int r.1)) (HP r.2 o) := by
  refine AM.of hu (lv := [some (.ref 1), some (.ref 8), some (.int a0), none]) (by decide) rfl (Nat.le_of_ble_eq_true rfl) rfl ?_
  intro Γ eu eN C T
  subst eu
  have C : Cok Γ cX4_tryNext RX4 (some .boolean) 4 0 0 := C
  unfold F_X4_tryNext at hF
  refine A_aload_n C dX4_tryNext_0 rfl (pc' := 1) rfl ?_
  refine A_get C (j := 1) cl_X4 rfl rfl lf_X4_15 dX4_tryNext_1 (HPg_1 s o) rfl (pc' := 4) rfl ?_
  refine A_iload_n C dX4_tryNext_4 rfl (pc' := 5) rfl ?_
  obtain ⟨h1, hF⟩ := grd_some hF
  refine A_iald C (HPg_3 s o) (ixb_in h1) dX4_tryNext_5 (pc' := 6) rfl ?_
  obtain ⟨x2, e3, hF⟩ := bnd_some hF
  refine A_topi e3 ?_
  refine A_istore_n C (lv' := [some (.ref 1), some (.ref 8), some (.int a0), some (.int x2)]) dX4_tryNext_6 rfl eN rfl rfl (pc' := 7) rfl ?_
  refine A_aload_n C dX4_tryNext_7 rfl (pc' := 8) rfl ?_
  refine A_get C (j := 1) cl_X4 rfl rfl lf_X4_15 dX4_tryNext_8 (HPg_1 s o) rfl (pc' := 11) rfl ?_
  refine A_iload_n C dX4_tryNext_11 rfl (pc' := 12) rfl ?_
  refine A_dup2 C dX4_tryNext_12 rfl rfl (pc' := 13) rfl ?_
  obtain ⟨h4, hF⟩ := grd_some hF
  refine A_iald C (HPg_3 s o) (ixb_in h4) dX4_tryNext_13 (pc' := 14) rfl ?_
  refine A_iconst C (x := 1) dX4_tryNext_14 (by decide) (pc' := 15) rfl ?_
  refine A_iadd C dX4_tryNext_15 (pc' := 16) rfl ?_
  obtain ⟨h5, hF⟩ := grd_some hF
  obtain ⟨s6, e7, hF⟩ := bnd_some hF
  refine A_iast C (h1 := HP s6 o) (HPg_3 s o) (ixb_in h5) (by rw [e7]; exact HPs_3 s o _) dX4_tryNext_16 (pc' := 17) rfl ?_
  refine A_aload_n C dX4_tryNext_17 rfl (pc' := 18) rfl ?_
  refine A_dup C dX4_tryNext_18 rfl (pc' := 19) rfl ?_
  refine A_get C (j := 3) cl_X4 rfl rfl lf_X4_18 dX4_tryNext_19 (HPg_1 s6 o) rfl (pc' := 22) rfl ?_
  refine A_iconst C (x := 1) dX4_tryNext_22 (by decide) (pc' := 23) rfl ?_
  refine A_iadd C dX4_tryNext_23 (pc' := 24) rfl ?_
  obtain ⟨s8, e9, hF⟩ := bnd_some hF
  refine A_put C (j := 3) (h1 := HP s8 o) tyX4 tyX4_ok nmX4 cl_X4 rfl rfl lf_X4_18 rfl (tyX4_ok 3 (by decide)) (fun _ => rfl) (fun _ => rfl) rfl dX4_tryNext_24 (HPg_1 s6 o) (by rw [e9]; exact HPp_1_3 s6 o _) (pc' := 27) rfl ?_
  refine A_aload_n C dX4_tryNext_27 rfl (pc' := 28) rfl ?_
  refine A_aload_n C dX4_tryNext_28 rfl (pc' := 29) rfl ?_
  refine A_get C (j := 0) cl_X4 rfl rfl lf_X4_9 dX4_tryNext_29 (HPg_1 s8 o) rfl (pc' := 32) rfl ?_
  refine A_iload_n C dX4_tryNext_32 rfl (pc' := 33) rfl ?_
  obtain ⟨h10, hF⟩ := grd_some hF
  refine A_iald C (HPg_2 s8 o) (ixb_in h10) dX4_tryNext_33 (pc' := 34) rfl ?_
  refine A_iload_n C dX4_tryNext_34 rfl (pc' := 35) rfl ?_
  obtain ⟨q11, h12, hF⟩ := Option.bind_eq_some_iff.mp hF
  refine A_callVN C (av := [.int (s8 2 a0.toNatClampNeg), .int x2]) (rest := []) (st2 := [.int q11.1]) (k2 := 0) (n2 := 0) (F_X0_putByRules_ok hu h12) mk_X0_putByRules lm_X4_77 wi_X0_putByRules wv_X0_putByRules (HPg_8 s8 o) rfl rfl rfl rfl ⟨by decide, by decide⟩ (Nat.le_of_ble_eq_true rfl) rfl rfl dX4_tryNext_35 rfl rfl rfl (pc' := 38) rfl ?_
  refine A_if_ne C dX4_tryNext_38 (tgt := 45) (by decide) (pc' := 41) rfl (fun c13 => ?_) (fun c13 => ?_)
  · rw [if_neg c13] at hF
    refine A_iconst C (x := 0) dX4_tryNext_45 (by decide) (pc' := 46) rfl ?_
    cases hF
    exact A_zret C T (Or.inl rfl) (Nat.le_refl _) (Nat.le_refl _) dX4_tryNext_46
  · rw [if_pos c13] at hF
    refine A_iconst C (x := 1) dX4_tryNext_41 (by decide) (pc' := 42) rfl ?_
    refine A_goto C dX4_tryNext_42 (tgt := 46) (by decide) ?_
    cases hF
    exact A_zret C T (Or.inr rfl) (Nat.le_refl _) (Nat.le_refl _) dX4_tryNext_46
def L_X4_run_21 : Nat → Int32 → Int32 → Int32 → Sg → Option ((Int32 × Sg) ⊕ (Int32 × Sg))
  | 0, _, _, _, _ => none
  | fu + 1, b2, b3, b4, s =>
    if (100000 : Int32) ≤ b4 then
      some (.inr (b3, s))
    else
      if b3 < (s 202 0) then
        grd (ixb b3 64 = true) <|
        if (s 3 b3.toNatClampNeg) < (s 902 0) then
          if (s 203 0) < b2 then
            (F_X4_tryNext b3 s).bind fun q12 =>
            if q12.1 = 0 then
              bnd (b4 + (1 : Int32)) fun x15 =>
              L_X4_run_21 fu b2 b3 x15 q12.2
            else
              bnd (b3 + (1 : Int32)) fun x17 =>
              (F_X4_aim x17 q12.2).bind fun q19 =>
              bnd (b4 + (1 : Int32)) fun x21 =>
              L_X4_run_21 fu b2 x17 x21 q19
          else
            some (.inr (b3, s))
        else
          bnd (b3 + (-1 : Int32)) fun x23 =>
          if 0 ≤ x23 then
            grd (ixb x23 64 = true) <|
            (F_X0_takeOut (s 2 x23.toNatClampNeg) s).bind fun q27 =>
            bnd (b4 + (1 : Int32)) fun x29 =>
            L_X4_run_21 fu b2 x23 x29 q27
          else
            some (.inl ((0 : Int32), s))
      else
        some (.inl ((1 : Int32), s))
def F_X4_run (a0 : Int32) (s : Sg) : Option (Int32 × Sg) :=
  bnd (va_up s 203 (fun _ => (0 : Int32))) fun s1 =>
  (F_X4_collect  s1).bind fun q3 =>
  (F_X4_aim (0 : Int32) q3).bind fun q5 =>
  (L_X4_run_21 FU a0 (0 : Int32) (0 : Int32) q5).bind fun q31 => match q31 with
  | .inl v33 => some v33
  | .inr t34 =>
  (F_X4_takeAllOut t34.1 t34.2).bind fun q35 =>
  some ((2 : Int32), q35)
set_option maxHeartbeats 4000000 in
set_option maxRecDepth 100000 in
theorem L_X4_run_21_ok {Γ : Cx} (hu : Un Γ.2.1) (eN : 5 = Γ.2.2.2.2.2) (C : Cok Γ cX4_run RX4 (some .int) 5 0 0) {o : Nat → Int64} : ∀ (fu : Nat) (b2 : Int32) (b3 : Int32) (b4 : Int32) (s : Sg) (q : ((Int32 × Sg) ⊕ (Int32 × Sg))), L_X4_run_21 fu b2 b3 b4 s = some q → (∀ v, q = .inl v → Tgt Γ 0 0 (some (.int v.1)) (HP v.2 o)) → (∀ t, q = .inr t → AW Γ (HP t.2 o) 0 0 [some (.ref 1), some (.ref 8), none, some (.int t.1), none] [] 108) → AW Γ (HP s o) 0 0 [some (.ref 1), some (.ref 8), some (.int b2), some (.int b3), some (.int b4)] [] 21 := by
  intro fu
  induction fu with
  | zero => intro b2 b3 b4 s q hF; rw [L_X4_run_21] at hF; cases hF
  | succ fu ih =>
    intro b2 b3 b4 s q hF hret hexit
    rw [L_X4_run_21] at hF
    refine A_iload C dX4_run_21 rfl (pc' := 23) rfl ?_
    refine A_ldc C dX4_run_23 kc_X4_30 (pc' := 25) rfl ?_
    refine A_icmp_ge C dX4_run_25 (tgt := 108) (by decide) (pc' := 28) rfl (fun c7 => ?_) (fun c7 => ?_)
    · rw [if_pos c7] at hF
      cases hF
      refine A_mask [true, true, false, true, false] (lv' := [some (.ref 1), some (.ref 8), none, some (.int b3), none]) rfl ?_
      exact hexit (b3, s) rfl
    · rw [if_neg c7] at hF
      refine A_iload_n C dX4_run_28 rfl (pc' := 29) rfl ?_
      refine A_aload_n C dX4_run_29 rfl (pc' := 30) rfl ?_
      refine A_get C (j := 2) cl_X4 rfl rfl lf_X4_31 dX4_run_30 (HPg_1 s o) rfl (pc' := 33) rfl ?_
      refine A_icmp_lt C dX4_run_33 (tgt := 38) (by decide) (pc' := 36) rfl (fun c8 => ?_) (fun c8 => ?_)
      · rw [if_pos c8] at hF
        refine A_aload_n C dX4_run_38 rfl (pc' := 39) rfl ?_
        refine A_get C (j := 1) cl_X4 rfl rfl lf_X4_15 dX4_run_39 (HPg_1 s o) rfl (pc' := 42) rfl ?_
        refine A_iload_n C dX4_run_42 rfl (pc' := 43) rfl ?_
        obtain ⟨h9, hF⟩ := grd_some hF
        refine A_iald C (HPg_3 s o) (ixb_in h9) dX4_run_43 (pc' := 44) rfl ?_
        refine A_aload_n C dX4_run_44 rfl (pc' := 45) rfl ?_
        refine A_getN C (j := 2) cl_X0 rfl rfl lf_X4_34 dX4_run_45 (HPg_8 s o) rfl (pc' := 48) rfl ?_
        refine A_icmp_lt C dX4_run_48 (tgt := 73) (by decide) (pc' := 51) rfl (fun c10 => ?_) (fun c10 => ?_)
        · rw [if_pos c10] at hF
          refine A_aload_n C dX4_run_73 rfl (pc' := 74) rfl ?_
          refine A_get C (j := 3) cl_X4 rfl rfl lf_X4_18 dX4_run_74 (HPg_1 s o) rfl (pc' := 77) rfl ?_
          refine A_iload_n C dX4_run_77 rfl (pc' := 78) rfl ?_
          refine A_icmp_lt C dX4_run_78 (tgt := 84) (by decide) (pc' := 81) rfl (fun c11 => ?_) (fun c11 => ?_)
          · rw [if_pos c11] at hF
            refine A_aload_n C dX4_run_84 rfl (pc' := 85) rfl ?_
            refine A_aload_n C dX4_run_85 rfl (pc' := 86) rfl ?_
            refine A_iload_n C dX4_run_86 rfl (pc' := 87) rfl ?_
            obtain ⟨q12, h13, hF⟩ := Option.bind_eq_some_iff.mp hF
            refine A_callV C (av := [.ref 8, .int b3]) (rest := []) (st2 := [.int q12.1]) (k2 := 0) (n2 := 0) (F_X4_tryNext_ok hu h13) mk_X4_tryNext lm_X4_43 wi_X4_tryNext wv_X4_tryNext (HPg_1 s o) rfl rfl rfl rfl ⟨by decide, by decide⟩ (Nat.le_of_ble_eq_true rfl) rfl rfl dX4_run_87 rfl rfl rfl (pc' := 90) rfl ?_
            refine A_if_eq C dX4_run_90 (tgt := 102) (by decide) (pc' := 93) rfl (fun c14 => ?_) (fun c14 => ?_)
            · rw [if_pos c14] at hF
              obtain ⟨x15, e16, hF⟩ := bnd_some hF
              refine A_iinc C (lv' := [some (.ref 1), some (.ref 8), some (.int b2), some (.int b3), some (.int x15)]) dX4_run_102 rfl (by rw [e16]; rfl) rfl eN rfl rfl (pc' := 105) rfl ?_
              refine A_goto C dX4_run_105 (tgt := 21) (by decide) ?_
              refine A_mask [true, true, true, true, true] (lv' := [some (.ref 1), some (.ref 8), some (.int b2), some (.int b3), some (.int x15)]) rfl ?_
              exact ih b2 b3 x15 q12.2 q hF hret hexit
            · rw [if_neg c14] at hF
              obtain ⟨x17, e18, hF⟩ := bnd_some hF
              refine A_iinc C (lv' := [some (.ref 1), some (.ref 8), some (.int b2), some (.int x17), some (.int b4)]) dX4_run_93 rfl (by rw [e18]; rfl) rfl eN rfl rfl (pc' := 96) rfl ?_
              refine A_aload_n C dX4_run_96 rfl (pc' := 97) rfl ?_
              refine A_aload_n C dX4_run_97 rfl (pc' := 98) rfl ?_
              refine A_iload_n C dX4_run_98 rfl (pc' := 99) rfl ?_
              obtain ⟨q19, h20, hF⟩ := Option.bind_eq_some_iff.mp hF
              refine A_callV C (av := [.ref 8, .int x17]) (rest := []) (st2 := []) (k2 := 0) (n2 := 0) (F_X4_aim_ok hu h20) mk_X4_aim lm_X4_26 wi_X4_aim wv_X4_aim (HPg_1 q12.2 o) rfl rfl rfl rfl ⟨by decide, by decide⟩ (Nat.le_of_ble_eq_true rfl) rfl rfl dX4_run_99 rfl rfl rfl (pc' := 102) rfl ?_
              obtain ⟨x21, e22, hF⟩ := bnd_some hF
              refine A_iinc C (lv' := [some (.ref 1), some (.ref 8), some (.int b2), some (.int x17), some (.int x21)]) dX4_run_102 rfl (by rw [e22]; rfl) rfl eN rfl rfl (pc' := 105) rfl ?_
              refine A_goto C dX4_run_105 (tgt := 21) (by decide) ?_
              refine A_mask [true, true, true, true, true] (lv' := [some (.ref 1), some (.ref 8), some (.int b2), some (.int x17), some (.int x21)]) rfl ?_
              exact ih b2 x17 x21 q19 q hF hret hexit
          · rw [if_neg c11] at hF
            refine A_goto C dX4_run_81 (tgt := 108) (by decide) ?_
            cases hF
            refine A_mask [true, true, false, true, false] (lv' := [some (.ref 1), some (.ref 8), none, some (.int b3), none]) rfl ?_
            exact hexit (b3, s) rfl
        · rw [if_neg c10] at hF
          obtain ⟨x23, e24, hF⟩ := bnd_some hF
          refine A_iinc C (lv' := [some (.ref 1), some (.ref 8), some (.int b2), some (.int x23), some (.int b4)]) dX4_run_51 rfl (by rw [e24]; rfl) rfl eN rfl rfl (pc' := 54) rfl ?_
          refine A_iload_n C dX4_run_54 rfl (pc' := 55) rfl ?_
          refine A_if_ge C dX4_run_55 (tgt := 60) (by decide) (pc' := 58) rfl (fun c25 => ?_) (fun c25 => ?_)
          · rw [if_pos c25] at hF
            refine A_aload_n C dX4_run_60 rfl (pc' := 61) rfl ?_
            refine A_aload_n C dX4_run_61 rfl (pc' := 62) rfl ?_
            refine A_get C (j := 0) cl_X4 rfl rfl lf_X4_9 dX4_run_62 (HPg_1 s o) rfl (pc' := 65) rfl ?_
            refine A_iload_n C dX4_run_65 rfl (pc' := 66) rfl ?_
            obtain ⟨h26, hF⟩ := grd_some hF
            refine A_iald C (HPg_2 s o) (ixb_in h26) dX4_run_66 (pc' := 67) rfl ?_
            obtain ⟨q27, h28, hF⟩ := Option.bind_eq_some_iff.mp hF
            refine A_callVN C (av := [.int (s 2 x23.toNatClampNeg)]) (rest := []) (st2 := []) (k2 := 0) (n2 := 0) (F_X0_takeOut_ok hu h28) mk_X0_takeOut lm_X4_39 wi_X0_takeOut wv_X0_takeOut (HPg_8 s o) rfl rfl rfl rfl ⟨by decide, by decide⟩ (Nat.le_of_ble_eq_true rfl) rfl rfl dX4_run_67 rfl rfl rfl (pc' := 70) rfl ?_
            refine A_goto C dX4_run_70 (tgt := 102) (by decide) ?_
            obtain ⟨x29, e30, hF⟩ := bnd_some hF
            refine A_iinc C (lv' := [some (.ref 1), some (.ref 8), some (.int b2), some (.int x23), some (.int x29)]) dX4_run_102 rfl (by rw [e30]; rfl) rfl eN rfl rfl (pc' := 105) rfl ?_
            refine A_goto C dX4_run_105 (tgt := 21) (by decide) ?_
            refine A_mask [true, true, true, true, true] (lv' := [some (.ref 1), some (.ref 8), some (.int b2), some (.int x23), some (.int x29)]) rfl ?_
            exact ih b2 x23 x29 q27 q hF hret hexit
          · rw [if_neg c25] at hF
            refine A_iconst C (x := 0) dX4_run_58 (by decide) (pc' := 59) rfl ?_
            cases hF
            exact A_iret C (hret ((0 : Int32), s) rfl) (Nat.le_refl _) (Nat.le_refl _) dX4_run_59
      · rw [if_neg c8] at hF
        refine A_iconst C (x := 1) dX4_run_36 (by decide) (pc' := 37) rfl ?_
        cases hF
        exact A_iret C (hret ((1 : Int32), s) rfl) (Nat.le_refl _) (Nat.le_refl _) dX4_run_37
set_option maxHeartbeats 4000000 in
set_option maxRecDepth 100000 in
theorem F_X4_run_ok {u : Uv} (hu : Un u) {a0 : Int32} {s : Sg} {o : Nat → Int64} {r : (Int32 × Sg)} (hF : F_X4_run a0 s = some r) : AM u (yX4_run, cX4_run, 5, (some .int)) 5 0 0 [.ref 1, .ref 8, .int a0] (HP s o) (some (.int r.1)) (HP r.2 o) := by
  refine AM.of hu (lv := [some (.ref 1), some (.ref 8), some (.int a0), none, none]) (by decide) rfl (Nat.le_of_ble_eq_true rfl) rfl ?_
  intro Γ eu eN C T
  subst eu
  have C : Cok Γ cX4_run RX4 (some .int) 5 0 0 := C
  unfold F_X4_run at hF
  refine A_aload_n C dX4_run_0 rfl (pc' := 1) rfl ?_
  refine A_iconst C (x := 0) dX4_run_1 (by decide) (pc' := 2) rfl ?_
  obtain ⟨s1, e2, hF⟩ := bnd_some hF
  refine A_put C (j := 3) (h1 := HP s1 o) tyX4 tyX4_ok nmX4 cl_X4 rfl rfl lf_X4_18 rfl (tyX4_ok 3 (by decide)) (fun _ => rfl) (fun _ => rfl) rfl dX4_run_2 (HPg_1 s o) (by rw [e2]; exact HPp_1_3 s o _) (pc' := 5) rfl ?_
  refine A_aload_n C dX4_run_5 rfl (pc' := 6) rfl ?_
  refine A_aload_n C dX4_run_6 rfl (pc' := 7) rfl ?_
  obtain ⟨q3, h4, hF⟩ := Option.bind_eq_some_iff.mp hF
  refine A_callV C (av := [.ref 8]) (rest := []) (st2 := []) (k2 := 0) (n2 := 0) (F_X4_collect_ok hu h4) mk_X4_collect lm_X4_22 wi_X4_collect wv_X4_collect (HPg_1 s1 o) rfl rfl rfl rfl ⟨by decide, by decide⟩ (Nat.le_of_ble_eq_true rfl) rfl rfl dX4_run_7 rfl rfl rfl (pc' := 10) rfl ?_
  refine A_aload_n C dX4_run_10 rfl (pc' := 11) rfl ?_
  refine A_aload_n C dX4_run_11 rfl (pc' := 12) rfl ?_
  refine A_iconst C (x := 0) dX4_run_12 (by decide) (pc' := 13) rfl ?_
  obtain ⟨q5, h6, hF⟩ := Option.bind_eq_some_iff.mp hF
  refine A_callV C (av := [.ref 8, .int (0 : Int32)]) (rest := []) (st2 := []) (k2 := 0) (n2 := 0) (F_X4_aim_ok hu h6) mk_X4_aim lm_X4_26 wi_X4_aim wv_X4_aim (HPg_1 q3 o) rfl rfl rfl rfl ⟨by decide, by decide⟩ (Nat.le_of_ble_eq_true rfl) rfl rfl dX4_run_13 rfl rfl rfl (pc' := 16) rfl ?_
  refine A_iconst C (x := 0) dX4_run_16 (by decide) (pc' := 17) rfl ?_
  refine A_istore_n C (lv' := [some (.ref 1), some (.ref 8), some (.int a0), some (.int (0 : Int32)), none]) dX4_run_17 rfl eN rfl rfl (pc' := 18) rfl ?_
  refine A_iconst C (x := 0) dX4_run_18 (by decide) (pc' := 19) rfl ?_
  refine A_istore C (lv' := [some (.ref 1), some (.ref 8), some (.int a0), some (.int (0 : Int32)), some (.int (0 : Int32))]) dX4_run_19 rfl eN rfl rfl (pc' := 21) rfl ?_
  obtain ⟨q31, h32, hF⟩ := Option.bind_eq_some_iff.mp hF
  refine A_mask [true, true, true, true, true] (lv' := [some (.ref 1), some (.ref 8), some (.int a0), some (.int (0 : Int32)), some (.int (0 : Int32))]) rfl ?_
  refine L_X4_run_21_ok hu eN C FU a0 (0 : Int32) (0 : Int32) q5 q31 h32 (fun v33 e9 => ?_) (fun t34 e9 => ?_)
  · subst e9
    dsimp only at hF
    cases hF
    exact T
  subst e9
  dsimp only at hF
  refine A_aload_n C dX4_run_108 rfl (pc' := 109) rfl ?_
  refine A_aload_n C dX4_run_109 rfl (pc' := 110) rfl ?_
  refine A_iload_n C dX4_run_110 rfl (pc' := 111) rfl ?_
  obtain ⟨q35, h36, hF⟩ := Option.bind_eq_some_iff.mp hF
  refine A_callV C (av := [.ref 8, .int t34.1]) (rest := []) (st2 := []) (k2 := 0) (n2 := 0) (F_X4_takeAllOut_ok hu h36) mk_X4_takeAllOut lm_X4_47 wi_X4_takeAllOut wv_X4_takeAllOut (HPg_1 t34.2 o) rfl rfl rfl rfl ⟨by decide, by decide⟩ (Nat.le_of_ble_eq_true rfl) rfl rfl dX4_run_111 rfl rfl rfl (pc' := 114) rfl ?_
  refine A_iconst C (x := 2) dX4_run_114 (by decide) (pc' := 115) rfl ?_
  cases hF
  exact A_iret C T (Nat.le_refl _) (Nat.le_refl _) dX4_run_115
def L_X1_timesGiven_4 : Nat → Int32 → Int32 → Int32 → Sg → Option (Int32)
  | 0, _, _, _, _ => none
  | fu + 1, b1, b2, b3, s =>
    if (s 501 0) ≤ b3 then
      some b2
    else
      grd (ixb b3 6 = true) <|
      if (s 5 b3.toNatClampNeg) = b1 then
        bnd (b2 + (1 : Int32)) fun x6 =>
        bnd (b3 + (1 : Int32)) fun x8 =>
        L_X1_timesGiven_4 fu b1 x6 x8 s
      else
        bnd (b3 + (1 : Int32)) fun x4 =>
        L_X1_timesGiven_4 fu b1 b2 x4 s
def F_X1_timesGiven (a0 : Int32) (s : Sg) : Option Int32 :=
  (L_X1_timesGiven_4 FU a0 (0 : Int32) (0 : Int32) s).bind fun q10 =>
  some q10
set_option maxHeartbeats 4000000 in
set_option maxRecDepth 100000 in
theorem L_X1_timesGiven_4_ok {Γ : Cx} (hu : Un Γ.2.1) (eN : 4 = Γ.2.2.2.2.2) (C : Cok Γ cX1_timesGiven RX1 (some .int) 0 0 0) {o : Nat → Int64} : ∀ (fu : Nat) (b1 : Int32) (b2 : Int32) (b3 : Int32) (s : Sg) (q : (Int32)), L_X1_timesGiven_4 fu b1 b2 b3 s = some q → AW Γ (HP s o) 0 0 [none, none, some (.int q), none] [] 31 → AW Γ (HP s o) 0 0 [some (.ref 4), some (.int b1), some (.int b2), some (.int b3)] [] 4 := by
  intro fu
  induction fu with
  | zero => intro b1 b2 b3 s q hF; rw [L_X1_timesGiven_4] at hF; cases hF
  | succ fu ih =>
    intro b1 b2 b3 s q hF hexit
    rw [L_X1_timesGiven_4] at hF
    refine A_iload_n C dX1_timesGiven_4 rfl (pc' := 5) rfl ?_
    refine A_aload_n C dX1_timesGiven_5 rfl (pc' := 6) rfl ?_
    refine A_get C (j := 1) cl_X1 rfl rfl lf_X1_15 dX1_timesGiven_6 (HPg_4 s o) rfl (pc' := 9) rfl ?_
    refine A_icmp_ge C dX1_timesGiven_9 (tgt := 31) (by decide) (pc' := 12) rfl (fun c1 => ?_) (fun c1 => ?_)
    · rw [if_pos c1] at hF
      cases hF
      refine A_mask [false, false, true, false] (lv' := [none, none, some (.int b2), none]) rfl ?_
      exact hexit
    · rw [if_neg c1] at hF
      refine A_aload_n C dX1_timesGiven_12 rfl (pc' := 13) rfl ?_
      refine A_get C (j := 0) cl_X1 rfl rfl lf_X1_9 dX1_timesGiven_13 (HPg_4 s o) rfl (pc' := 16) rfl ?_
      refine A_iload_n C dX1_timesGiven_16 rfl (pc' := 17) rfl ?_
      obtain ⟨h2, hF⟩ := grd_some hF
      refine A_iald C (HPg_5 s o) (ixb_in h2) dX1_timesGiven_17 (pc' := 18) rfl ?_
      refine A_iload_n C dX1_timesGiven_18 rfl (pc' := 19) rfl ?_
      refine A_icmp_ne C dX1_timesGiven_19 (tgt := 25) (by decide) (pc' := 22) rfl (fun c3 => ?_) (fun c3 => ?_)
      · rw [if_neg c3] at hF
        obtain ⟨x4, e5, hF⟩ := bnd_some hF
        refine A_iinc C (lv' := [some (.ref 4), some (.int b1), some (.int b2), some (.int x4)]) dX1_timesGiven_25 rfl (by rw [e5]; rfl) rfl eN rfl rfl (pc' := 28) rfl ?_
        refine A_goto C dX1_timesGiven_28 (tgt := 4) (by decide) ?_
        refine A_mask [true, true, true, true] (lv' := [some (.ref 4), some (.int b1), some (.int b2), some (.int x4)]) rfl ?_
        exact ih b1 b2 x4 s q hF hexit
      · rw [if_pos c3] at hF
        obtain ⟨x6, e7, hF⟩ := bnd_some hF
        refine A_iinc C (lv' := [some (.ref 4), some (.int b1), some (.int x6), some (.int b3)]) dX1_timesGiven_22 rfl (by rw [e7]; rfl) rfl eN rfl rfl (pc' := 25) rfl ?_
        obtain ⟨x8, e9, hF⟩ := bnd_some hF
        refine A_iinc C (lv' := [some (.ref 4), some (.int b1), some (.int x6), some (.int x8)]) dX1_timesGiven_25 rfl (by rw [e9]; rfl) rfl eN rfl rfl (pc' := 28) rfl ?_
        refine A_goto C dX1_timesGiven_28 (tgt := 4) (by decide) ?_
        refine A_mask [true, true, true, true] (lv' := [some (.ref 4), some (.int b1), some (.int x6), some (.int x8)]) rfl ?_
        exact ih b1 x6 x8 s q hF hexit
set_option maxHeartbeats 4000000 in
set_option maxRecDepth 100000 in
theorem F_X1_timesGiven_ok {u : Uv} (hu : Un u) {a0 : Int32} {s : Sg} {o : Nat → Int64} {r : Int32} (hF : F_X1_timesGiven a0 s = some r) : AM u (yX1_timesGiven, cX1_timesGiven, 4, (some .int)) 0 0 0 [.ref 4, .int a0] (HP s o) (some (.int r)) (HP s o) := by
  refine AM.of hu (lv := [some (.ref 4), some (.int a0), none, none]) (by decide) rfl (Nat.le_of_ble_eq_true rfl) rfl ?_
  intro Γ eu eN C T
  subst eu
  have C : Cok Γ cX1_timesGiven RX1 (some .int) 0 0 0 := C
  unfold F_X1_timesGiven at hF
  refine A_iconst C (x := 0) dX1_timesGiven_0 (by decide) (pc' := 1) rfl ?_
  refine A_istore_n C (lv' := [some (.ref 4), some (.int a0), some (.int (0 : Int32)), none]) dX1_timesGiven_1 rfl eN rfl rfl (pc' := 2) rfl ?_
  refine A_iconst C (x := 0) dX1_timesGiven_2 (by decide) (pc' := 3) rfl ?_
  refine A_istore_n C (lv' := [some (.ref 4), some (.int a0), some (.int (0 : Int32)), some (.int (0 : Int32))]) dX1_timesGiven_3 rfl eN rfl rfl (pc' := 4) rfl ?_
  obtain ⟨q10, h11, hF⟩ := Option.bind_eq_some_iff.mp hF
  refine A_mask [true, true, true, true] (lv' := [some (.ref 4), some (.int a0), some (.int (0 : Int32)), some (.int (0 : Int32))]) rfl ?_
  refine L_X1_timesGiven_4_ok hu eN C FU a0 (0 : Int32) (0 : Int32) s q10 h11 ?_
  refine A_iload_n C dX1_timesGiven_31 rfl (pc' := 32) rfl ?_
  cases hF
  exact A_iret C T (Nat.le_refl _) (Nat.le_refl _) dX1_timesGiven_32
def L_X1_bestFor_9 : Nat → Int32 → Int32 → Int32 → Int32 → Int32 → Int32 → Sg → Option (Int32)
  | 0, _, _, _, _, _, _, _ => none
  | fu + 1, b2, b3, b4, b5, b6, b7, s =>
    if (8 : Int32) ≤ b7 then
      some b5
    else
      bnd ((8 : Int32) + b7) fun x2 =>
      if b7 = b2 then
        bnd (b7 + (1 : Int32)) fun x5 =>
        L_X1_bestFor_9 fu b2 b3 b4 b5 b6 x5 s
      else
        grd (ixb x2 22 = true) <|
        grd (ixb x2 22 = true) <|
        if (((s 19 x2.toNatClampNeg) ||| (s 18 x2.toNatClampNeg)) &&& b3) = 0 then
          (F_X0_itemsOnDay b7 b4 s).bind fun q10 =>
          (F_X1_timesGiven b7 s).bind fun q12 =>
          bnd (q10 + q12) fun x14 =>
          if b5 = (-1 : Int32) then
            bnd (b7 + (1 : Int32)) fun x17 =>
            L_X1_bestFor_9 fu b2 b3 b4 b7 x14 x17 s
          else
            if b6 ≤ x14 then
              bnd (b7 + (1 : Int32)) fun x20 =>
              L_X1_bestFor_9 fu b2 b3 b4 b5 b6 x20 s
            else
              bnd (b7 + (1 : Int32)) fun x22 =>
              L_X1_bestFor_9 fu b2 b3 b4 b7 x14 x22 s
        else
          bnd (b7 + (1 : Int32)) fun x24 =>
          L_X1_bestFor_9 fu b2 b3 b4 b5 b6 x24 s
def F_X1_bestFor (a0 : Int32) (a1 : Int32) (a2 : Int32) (s : Sg) : Option Int32 :=
  (L_X1_bestFor_9 FU a0 a1 a2 (-1 : Int32) (0 : Int32) (0 : Int32) s).bind fun q26 =>
  some q26
set_option maxHeartbeats 4000000 in
set_option maxRecDepth 100000 in
theorem L_X1_bestFor_9_ok {Γ : Cx} (hu : Un Γ.2.1) (eN : 10 = Γ.2.2.2.2.2) (C : Cok Γ cX1_bestFor RX1 (some .int) 2 0 0) {o : Nat → Int64} : ∀ (fu : Nat) (b2 : Int32) (b3 : Int32) (b4 : Int32) (b5 : Int32) (b6 : Int32) (b7 : Int32) (s : Sg) (q : (Int32)), L_X1_bestFor_9 fu b2 b3 b4 b5 b6 b7 s = some q → AW Γ (HP s o) 0 0 [none, none, none, none, none, some (.int q), none, none, none, none] [] 96 → AW Γ (HP s o) 0 0 [some (.ref 4), some (.ref 8), some (.int b2), some (.int b3), some (.int b4), some (.int b5), some (.int b6), some (.int b7), none, none] [] 9 := by
  intro fu
  induction fu with
  | zero => intro b2 b3 b4 b5 b6 b7 s q hF; rw [L_X1_bestFor_9] at hF; cases hF
  | succ fu ih =>
    intro b2 b3 b4 b5 b6 b7 s q hF hexit
    rw [L_X1_bestFor_9] at hF
    refine A_iload C dX1_bestFor_9 rfl (pc' := 11) rfl ?_
    refine A_bipush C (x := 8) dX1_bestFor_11 (by decide) (pc' := 13) rfl ?_
    refine A_icmp_ge C dX1_bestFor_13 (tgt := 96) (by decide) (pc' := 16) rfl (fun c1 => ?_) (fun c1 => ?_)
    · rw [if_pos c1] at hF
      cases hF
      refine A_mask [false, false, false, false, false, true, false, false, false, false] (lv' := [none, none, none, none, none, some (.int b5), none, none, none, none]) rfl ?_
      exact hexit
    · rw [if_neg c1] at hF
      refine A_bipush C (x := 8) dX1_bestFor_16 (by decide) (pc' := 18) rfl ?_
      refine A_iload C dX1_bestFor_18 rfl (pc' := 20) rfl ?_
      refine A_iadd C dX1_bestFor_20 (pc' := 21) rfl ?_
      obtain ⟨x2, e3, hF⟩ := bnd_some hF
      refine A_topi e3 ?_
      refine A_istore C (lv' := [some (.ref 4), some (.ref 8), some (.int b2), some (.int b3), some (.int b4), some (.int b5), some (.int b6), some (.int b7), some (.int x2), none]) dX1_bestFor_21 rfl eN rfl rfl (pc' := 23) rfl ?_
      refine A_iload C dX1_bestFor_23 rfl (pc' := 25) rfl ?_
      refine A_iload_n C dX1_bestFor_25 rfl (pc' := 26) rfl ?_
      refine A_icmp_eq C dX1_bestFor_26 (tgt := 90) (by decide) (pc' := 29) rfl (fun c4 => ?_) (fun c4 => ?_)
      · rw [if_pos c4] at hF
        obtain ⟨x5, e6, hF⟩ := bnd_some hF
        refine A_iinc C (lv' := [some (.ref 4), some (.ref 8), some (.int b2), some (.int b3), some (.int b4), some (.int b5), some (.int b6), some (.int x5), some (.int x2), none]) dX1_bestFor_90 rfl (by rw [e6]; rfl) rfl eN rfl rfl (pc' := 93) rfl ?_
        refine A_goto C dX1_bestFor_93 (tgt := 9) (by decide) ?_
        refine A_mask [true, true, true, true, true, true, true, true, false, false] (lv' := [some (.ref 4), some (.ref 8), some (.int b2), some (.int b3), some (.int b4), some (.int b5), some (.int b6), some (.int x5), none, none]) rfl ?_
        exact ih b2 b3 b4 b5 b6 x5 s q hF hexit
      · rw [if_neg c4] at hF
        refine A_aload_n C dX1_bestFor_29 rfl (pc' := 30) rfl ?_
        refine A_getN C (j := 8) cl_X0 rfl rfl lf_X1_36 dX1_bestFor_30 (HPg_8 s o) rfl (pc' := 33) rfl ?_
        refine A_iload C dX1_bestFor_33 rfl (pc' := 35) rfl ?_
        obtain ⟨h7, hF⟩ := grd_some hF
        refine A_iald C (HPg_19 s o) (ixb_in h7) dX1_bestFor_35 (pc' := 36) rfl ?_
        refine A_aload_n C dX1_bestFor_36 rfl (pc' := 37) rfl ?_
        refine A_getN C (j := 7) cl_X0 rfl rfl lf_X1_39 dX1_bestFor_37 (HPg_8 s o) rfl (pc' := 40) rfl ?_
        refine A_iload C dX1_bestFor_40 rfl (pc' := 42) rfl ?_
        obtain ⟨h8, hF⟩ := grd_some hF
        refine A_iald C (HPg_18 s o) (ixb_in h8) dX1_bestFor_42 (pc' := 43) rfl ?_
        refine A_ior C dX1_bestFor_43 (pc' := 44) rfl ?_
        refine A_iload_n C dX1_bestFor_44 rfl (pc' := 45) rfl ?_
        refine A_iand C dX1_bestFor_45 (pc' := 46) rfl ?_
        refine A_if_eq C dX1_bestFor_46 (tgt := 52) (by decide) (pc' := 49) rfl (fun c9 => ?_) (fun c9 => ?_)
        · rw [if_pos c9] at hF
          refine A_aload_n C dX1_bestFor_52 rfl (pc' := 53) rfl ?_
          refine A_iload C dX1_bestFor_53 rfl (pc' := 55) rfl ?_
          refine A_iload C dX1_bestFor_55 rfl (pc' := 57) rfl ?_
          obtain ⟨q10, h11, hF⟩ := Option.bind_eq_some_iff.mp hF
          refine A_callVN C (av := [.int b7, .int b4]) (rest := []) (st2 := [.int q10]) (k2 := 0) (n2 := 0) (F_X0_itemsOnDay_ok hu h11) mk_X0_itemsOnDay lm_X1_42 wi_X0_itemsOnDay wv_X0_itemsOnDay (HPg_8 s o) rfl rfl rfl rfl ⟨by decide, by decide⟩ (Nat.le_of_ble_eq_true rfl) rfl rfl dX1_bestFor_57 rfl rfl rfl (pc' := 60) rfl ?_
          refine A_aload_n C dX1_bestFor_60 rfl (pc' := 61) rfl ?_
          refine A_iload C dX1_bestFor_61 rfl (pc' := 63) rfl ?_
          obtain ⟨q12, h13, hF⟩ := Option.bind_eq_some_iff.mp hF
          refine A_callV C (av := [.int b7]) (rest := [.int q10]) (st2 := [.int q12, .int q10]) (k2 := 0) (n2 := 0) (F_X1_timesGiven_ok hu h13) mk_X1_timesGiven lm_X1_45 wi_X1_timesGiven wv_X1_timesGiven (HPg_4 s o) rfl rfl rfl rfl ⟨by decide, by decide⟩ (Nat.le_of_ble_eq_true rfl) rfl rfl dX1_bestFor_63 rfl rfl rfl (pc' := 66) rfl ?_
          refine A_iadd C dX1_bestFor_66 (pc' := 67) rfl ?_
          obtain ⟨x14, e15, hF⟩ := bnd_some hF
          refine A_topi e15 ?_
          refine A_istore C (lv' := [some (.ref 4), some (.ref 8), some (.int b2), some (.int b3), some (.int b4), some (.int b5), some (.int b6), some (.int b7), some (.int x2), some (.int x14)]) dX1_bestFor_67 rfl eN rfl rfl (pc' := 69) rfl ?_
          refine A_iload C dX1_bestFor_69 rfl (pc' := 71) rfl ?_
          refine A_iconst C (x := -1) dX1_bestFor_71 (by decide) (pc' := 72) rfl ?_
          refine A_icmp_eq C dX1_bestFor_72 (tgt := 82) (by decide) (pc' := 75) rfl (fun c16 => ?_) (fun c16 => ?_)
          · rw [if_pos c16] at hF
            refine A_iload C dX1_bestFor_82 rfl (pc' := 84) rfl ?_
            refine A_istore C (lv' := [some (.ref 4), some (.ref 8), some (.int b2), some (.int b3), some (.int b4), some (.int b7), some (.int b6), some (.int b7), some (.int x2), some (.int x14)]) dX1_bestFor_84 rfl eN rfl rfl (pc' := 86) rfl ?_
            refine A_iload C dX1_bestFor_86 rfl (pc' := 88) rfl ?_
            refine A_istore C (lv' := [some (.ref 4), some (.ref 8), some (.int b2), some (.int b3), some (.int b4), some (.int b7), some (.int x14), some (.int b7), some (.int x2), some (.int x14)]) dX1_bestFor_88 rfl eN rfl rfl (pc' := 90) rfl ?_
            obtain ⟨x17, e18, hF⟩ := bnd_some hF
            refine A_iinc C (lv' := [some (.ref 4), some (.ref 8), some (.int b2), some (.int b3), some (.int b4), some (.int b7), some (.int x14), some (.int x17), some (.int x2), some (.int x14)]) dX1_bestFor_90 rfl (by rw [e18]; rfl) rfl eN rfl rfl (pc' := 93) rfl ?_
            refine A_goto C dX1_bestFor_93 (tgt := 9) (by decide) ?_
            refine A_mask [true, true, true, true, true, true, true, true, false, false] (lv' := [some (.ref 4), some (.ref 8), some (.int b2), some (.int b3), some (.int b4), some (.int b7), some (.int x14), some (.int x17), none, none]) rfl ?_
            exact ih b2 b3 b4 b7 x14 x17 s q hF hexit
          · rw [if_neg c16] at hF
            refine A_iload C dX1_bestFor_75 rfl (pc' := 77) rfl ?_
            refine A_iload C dX1_bestFor_77 rfl (pc' := 79) rfl ?_
            refine A_icmp_ge C dX1_bestFor_79 (tgt := 90) (by decide) (pc' := 82) rfl (fun c19 => ?_) (fun c19 => ?_)
            · rw [if_pos c19] at hF
              obtain ⟨x20, e21, hF⟩ := bnd_some hF
              refine A_iinc C (lv' := [some (.ref 4), some (.ref 8), some (.int b2), some (.int b3), some (.int b4), some (.int b5), some (.int b6), some (.int x20), some (.int x2), some (.int x14)]) dX1_bestFor_90 rfl (by rw [e21]; rfl) rfl eN rfl rfl (pc' := 93) rfl ?_
              refine A_goto C dX1_bestFor_93 (tgt := 9) (by decide) ?_
              refine A_mask [true, true, true, true, true, true, true, true, false, false] (lv' := [some (.ref 4), some (.ref 8), some (.int b2), some (.int b3), some (.int b4), some (.int b5), some (.int b6), some (.int x20), none, none]) rfl ?_
              exact ih b2 b3 b4 b5 b6 x20 s q hF hexit
            · rw [if_neg c19] at hF
              refine A_iload C dX1_bestFor_82 rfl (pc' := 84) rfl ?_
              refine A_istore C (lv' := [some (.ref 4), some (.ref 8), some (.int b2), some (.int b3), some (.int b4), some (.int b7), some (.int b6), some (.int b7), some (.int x2), some (.int x14)]) dX1_bestFor_84 rfl eN rfl rfl (pc' := 86) rfl ?_
              refine A_iload C dX1_bestFor_86 rfl (pc' := 88) rfl ?_
              refine A_istore C (lv' := [some (.ref 4), some (.ref 8), some (.int b2), some (.int b3), some (.int b4), some (.int b7), some (.int x14), some (.int b7), some (.int x2), some (.int x14)]) dX1_bestFor_88 rfl eN rfl rfl (pc' := 90) rfl ?_
              obtain ⟨x22, e23, hF⟩ := bnd_some hF
              refine A_iinc C (lv' := [some (.ref 4), some (.ref 8), some (.int b2), some (.int b3), some (.int b4), some (.int b7), some (.int x14), some (.int x22), some (.int x2), some (.int x14)]) dX1_bestFor_90 rfl (by rw [e23]; rfl) rfl eN rfl rfl (pc' := 93) rfl ?_
              refine A_goto C dX1_bestFor_93 (tgt := 9) (by decide) ?_
              refine A_mask [true, true, true, true, true, true, true, true, false, false] (lv' := [some (.ref 4), some (.ref 8), some (.int b2), some (.int b3), some (.int b4), some (.int b7), some (.int x14), some (.int x22), none, none]) rfl ?_
              exact ih b2 b3 b4 b7 x14 x22 s q hF hexit
        · rw [if_neg c9] at hF
          refine A_goto C dX1_bestFor_49 (tgt := 90) (by decide) ?_
          obtain ⟨x24, e25, hF⟩ := bnd_some hF
          refine A_iinc C (lv' := [some (.ref 4), some (.ref 8), some (.int b2), some (.int b3), some (.int b4), some (.int b5), some (.int b6), some (.int x24), some (.int x2), none]) dX1_bestFor_90 rfl (by rw [e25]; rfl) rfl eN rfl rfl (pc' := 93) rfl ?_
          refine A_goto C dX1_bestFor_93 (tgt := 9) (by decide) ?_
          refine A_mask [true, true, true, true, true, true, true, true, false, false] (lv' := [some (.ref 4), some (.ref 8), some (.int b2), some (.int b3), some (.int b4), some (.int b5), some (.int b6), some (.int x24), none, none]) rfl ?_
          exact ih b2 b3 b4 b5 b6 x24 s q hF hexit
set_option maxHeartbeats 4000000 in
set_option maxRecDepth 100000 in
theorem F_X1_bestFor_ok {u : Uv} (hu : Un u) {a0 a1 a2 : Int32} {s : Sg} {o : Nat → Int64} {r : Int32} (hF : F_X1_bestFor a0 a1 a2 s = some r) : AM u (yX1_bestFor, cX1_bestFor, 10, (some .int)) 2 0 0 [.ref 4, .ref 8, .int a0, .int a1, .int a2] (HP s o) (some (.int r)) (HP s o) := by
  refine AM.of hu (lv := [some (.ref 4), some (.ref 8), some (.int a0), some (.int a1), some (.int a2), none, none, none, none, none]) (by decide) rfl (Nat.le_of_ble_eq_true rfl) rfl ?_
  intro Γ eu eN C T
  subst eu
  have C : Cok Γ cX1_bestFor RX1 (some .int) 2 0 0 := C
  unfold F_X1_bestFor at hF
  refine A_iconst C (x := -1) dX1_bestFor_0 (by decide) (pc' := 1) rfl ?_
  refine A_istore C (lv' := [some (.ref 4), some (.ref 8), some (.int a0), some (.int a1), some (.int a2), some (.int (-1 : Int32)), none, none, none, none]) dX1_bestFor_1 rfl eN rfl rfl (pc' := 3) rfl ?_
  refine A_iconst C (x := 0) dX1_bestFor_3 (by decide) (pc' := 4) rfl ?_
  refine A_istore C (lv' := [some (.ref 4), some (.ref 8), some (.int a0), some (.int a1), some (.int a2), some (.int (-1 : Int32)), some (.int (0 : Int32)), none, none, none]) dX1_bestFor_4 rfl eN rfl rfl (pc' := 6) rfl ?_
  refine A_iconst C (x := 0) dX1_bestFor_6 (by decide) (pc' := 7) rfl ?_
  refine A_istore C (lv' := [some (.ref 4), some (.ref 8), some (.int a0), some (.int a1), some (.int a2), some (.int (-1 : Int32)), some (.int (0 : Int32)), some (.int (0 : Int32)), none, none]) dX1_bestFor_7 rfl eN rfl rfl (pc' := 9) rfl ?_
  obtain ⟨q26, h27, hF⟩ := Option.bind_eq_some_iff.mp hF
  refine A_mask [true, true, true, true, true, true, true, true, false, false] (lv' := [some (.ref 4), some (.ref 8), some (.int a0), some (.int a1), some (.int a2), some (.int (-1 : Int32)), some (.int (0 : Int32)), some (.int (0 : Int32)), none, none]) rfl ?_
  refine L_X1_bestFor_9_ok hu eN C FU a0 a1 a2 (-1 : Int32) (0 : Int32) (0 : Int32) s q26 h27 ?_
  refine A_iload C dX1_bestFor_96 rfl (pc' := 98) rfl ?_
  cases hF
  exact A_iret C T (Nat.le_refl _) (Nat.le_refl _) dX1_bestFor_98
def L_X1_find_8 : Nat → Int32 → Int32 → Int32 → Sg → Option (Sg)
  | 0, _, _, _, _ => none
  | fu + 1, b2, b3, b4, s =>
    if (s 901 0) ≤ b4 then
      some s
    else
      bnd ((b3 * (s 901 0)) + b4) fun x4 =>
      (F_X0_itemBeginningAt b2 x4 s).bind fun q6 =>
      if q6 = (-1 : Int32) then
        bnd (b4 + (1 : Int32)) fun x9 =>
        L_X1_find_8 fu b2 b3 x9 s
      else
        (F_X0_bitsOfItem q6 s).bind fun q11 =>
        (F_X1_bestFor b2 q11 b3 s).bind fun q13 =>
        grd (ixb (s 501 0) 6 = true) <|
        bnd (va_up s 5 (upd (s 5) (s 501 0).toNatClampNeg q13)) fun s16 =>
        bnd (va_up s16 501 (fun _ => ((s16 501 0) + (1 : Int32)))) fun s18 =>
        bnd (b4 + (1 : Int32)) fun x20 =>
        L_X1_find_8 fu b2 b3 x20 s18
def F_X1_find (a0 : Int32) (a1 : Int32) (s : Sg) : Option Sg :=
  bnd (va_up s 501 (fun _ => (0 : Int32))) fun s1 =>
  (L_X1_find_8 FU a0 a1 (0 : Int32) s1).bind fun q22 =>
  some q22
set_option maxHeartbeats 4000000 in
set_option maxRecDepth 100000 in
theorem L_X1_find_8_ok {Γ : Cx} (hu : Un Γ.2.1) (eN : 7 = Γ.2.2.2.2.2) (C : Cok Γ cX1_find RX1 none 3 0 0) {o : Nat → Int64} : ∀ (fu : Nat) (b2 : Int32) (b3 : Int32) (b4 : Int32) (s : Sg) (q : (Sg)), L_X1_find_8 fu b2 b3 b4 s = some q → AW Γ (HP q o) 0 0 [none, none, none, none, none, none, none] [] 81 → AW Γ (HP s o) 0 0 [some (.ref 4), some (.ref 8), some (.int b2), some (.int b3), some (.int b4), none, none] [] 8 := by
  intro fu
  induction fu with
  | zero => intro b2 b3 b4 s q hF; rw [L_X1_find_8] at hF; cases hF
  | succ fu ih =>
    intro b2 b3 b4 s q hF hexit
    rw [L_X1_find_8] at hF
    refine A_iload C dX1_find_8 rfl (pc' := 10) rfl ?_
    refine A_aload_n C dX1_find_10 rfl (pc' := 11) rfl ?_
    refine A_getN C (j := 1) cl_X0 rfl rfl lf_X1_19 dX1_find_11 (HPg_8 s o) rfl (pc' := 14) rfl ?_
    refine A_icmp_ge C dX1_find_14 (tgt := 81) (by decide) (pc' := 17) rfl (fun c3 => ?_) (fun c3 => ?_)
    · rw [if_pos c3] at hF
      cases hF
      refine A_mask [false, false, false, false, false, false, false] (lv' := [none, none, none, none, none, none, none]) rfl ?_
      exact hexit
    · rw [if_neg c3] at hF
      refine A_iload_n C dX1_find_17 rfl (pc' := 18) rfl ?_
      refine A_aload_n C dX1_find_18 rfl (pc' := 19) rfl ?_
      refine A_getN C (j := 1) cl_X0 rfl rfl lf_X1_19 dX1_find_19 (HPg_8 s o) rfl (pc' := 22) rfl ?_
      refine A_imul C dX1_find_22 (pc' := 23) rfl ?_
      refine A_iload C dX1_find_23 rfl (pc' := 25) rfl ?_
      refine A_iadd C dX1_find_25 (pc' := 26) rfl ?_
      obtain ⟨x4, e5, hF⟩ := bnd_some hF
      refine A_topi e5 ?_
      refine A_istore C (lv' := [some (.ref 4), some (.ref 8), some (.int b2), some (.int b3), some (.int b4), some (.int x4), none]) dX1_find_26 rfl eN rfl rfl (pc' := 28) rfl ?_
      refine A_aload_n C dX1_find_28 rfl (pc' := 29) rfl ?_
      refine A_iload_n C dX1_find_29 rfl (pc' := 30) rfl ?_
      refine A_iload C dX1_find_30 rfl (pc' := 32) rfl ?_
      obtain ⟨q6, h7, hF⟩ := Option.bind_eq_some_iff.mp hF
      refine A_callVN C (av := [.int b2, .int x4]) (rest := []) (st2 := [.int q6]) (k2 := 0) (n2 := 0) (F_X0_itemBeginningAt_ok hu h7) mk_X0_itemBeginningAt lm_X1_24 wi_X0_itemBeginningAt wv_X0_itemBeginningAt (HPg_8 s o) rfl rfl rfl rfl ⟨by decide, by decide⟩ (Nat.le_of_ble_eq_true rfl) rfl rfl dX1_find_32 rfl rfl rfl (pc' := 35) rfl ?_
      refine A_istore C (lv' := [some (.ref 4), some (.ref 8), some (.int b2), some (.int b3), some (.int b4), some (.int x4), some (.int q6)]) dX1_find_35 rfl eN rfl rfl (pc' := 37) rfl ?_
      refine A_iload C dX1_find_37 rfl (pc' := 39) rfl ?_
      refine A_iconst C (x := -1) dX1_find_39 (by decide) (pc' := 40) rfl ?_
      refine A_icmp_eq C dX1_find_40 (tgt := 75) (by decide) (pc' := 43) rfl (fun c8 => ?_) (fun c8 => ?_)
      · rw [if_pos c8] at hF
        obtain ⟨x9, e10, hF⟩ := bnd_some hF
        refine A_iinc C (lv' := [some (.ref 4), some (.ref 8), some (.int b2), some (.int b3), some (.int x9), some (.int x4), some (.int q6)]) dX1_find_75 rfl (by rw [e10]; rfl) rfl eN rfl rfl (pc' := 78) rfl ?_
        refine A_goto C dX1_find_78 (tgt := 8) (by decide) ?_
        refine A_mask [true, true, true, true, true, false, false] (lv' := [some (.ref 4), some (.ref 8), some (.int b2), some (.int b3), some (.int x9), none, none]) rfl ?_
        exact ih b2 b3 x9 s q hF hexit
      · rw [if_neg c8] at hF
        refine A_aload_n C dX1_find_43 rfl (pc' := 44) rfl ?_
        refine A_get C (j := 0) cl_X1 rfl rfl lf_X1_9 dX1_find_44 (HPg_4 s o) rfl (pc' := 47) rfl ?_
        refine A_aload_n C dX1_find_47 rfl (pc' := 48) rfl ?_
        refine A_get C (j := 1) cl_X1 rfl rfl lf_X1_15 dX1_find_48 (HPg_4 s o) rfl (pc' := 51) rfl ?_
        refine A_aload_n C dX1_find_51 rfl (pc' := 52) rfl ?_
        refine A_aload_n C dX1_find_52 rfl (pc' := 53) rfl ?_
        refine A_iload_n C dX1_find_53 rfl (pc' := 54) rfl ?_
        refine A_aload_n C dX1_find_54 rfl (pc' := 55) rfl ?_
        refine A_iload C dX1_find_55 rfl (pc' := 57) rfl ?_
        obtain ⟨q11, h12, hF⟩ := Option.bind_eq_some_iff.mp hF
        refine A_callVN C (av := [.int q6]) (rest := [.int b2, .ref 8, .ref 4, .int (s 501 0), .ref 5]) (st2 := [.int q11, .int b2, .ref 8, .ref 4, .int (s 501 0), .ref 5]) (k2 := 0) (n2 := 0) (F_X0_bitsOfItem_ok hu h12) mk_X0_bitsOfItem lm_X1_28 wi_X0_bitsOfItem wv_X0_bitsOfItem (HPg_8 s o) rfl rfl rfl rfl ⟨by decide, by decide⟩ (Nat.le_of_ble_eq_true rfl) rfl rfl dX1_find_57 rfl rfl rfl (pc' := 60) rfl ?_
        refine A_iload_n C dX1_find_60 rfl (pc' := 61) rfl ?_
        obtain ⟨q13, h14, hF⟩ := Option.bind_eq_some_iff.mp hF
        refine A_callV C (av := [.ref 8, .int b2, .int q11, .int b3]) (rest := [.int (s 501 0), .ref 5]) (st2 := [.int q13, .int (s 501 0), .ref 5]) (k2 := 0) (n2 := 0) (F_X1_bestFor_ok hu h14) mk_X1_bestFor lm_X1_32 wi_X1_bestFor wv_X1_bestFor (HPg_4 s o) rfl rfl rfl rfl ⟨by decide, by decide⟩ (Nat.le_of_ble_eq_true rfl) rfl rfl dX1_find_61 rfl rfl rfl (pc' := 64) rfl ?_
        obtain ⟨h15, hF⟩ := grd_some hF
        obtain ⟨s16, e17, hF⟩ := bnd_some hF
        refine A_iast C (h1 := HP s16 o) (HPg_5 s o) (ixb_in h15) (by rw [e17]; exact HPs_5 s o _) dX1_find_64 (pc' := 65) rfl ?_
        refine A_aload_n C dX1_find_65 rfl (pc' := 66) rfl ?_
        refine A_dup C dX1_find_66 rfl (pc' := 67) rfl ?_
        refine A_get C (j := 1) cl_X1 rfl rfl lf_X1_15 dX1_find_67 (HPg_4 s16 o) rfl (pc' := 70) rfl ?_
        refine A_iconst C (x := 1) dX1_find_70 (by decide) (pc' := 71) rfl ?_
        refine A_iadd C dX1_find_71 (pc' := 72) rfl ?_
        obtain ⟨s18, e19, hF⟩ := bnd_some hF
        refine A_put C (j := 1) (h1 := HP s18 o) tyX1 tyX1_ok nmX1 cl_X1 rfl rfl lf_X1_15 rfl (tyX1_ok 1 (by decide)) (fun _ => rfl) (fun _ => rfl) rfl dX1_find_72 (HPg_4 s16 o) (by rw [e19]; exact HPp_4_1 s16 o _) (pc' := 75) rfl ?_
        obtain ⟨x20, e21, hF⟩ := bnd_some hF
        refine A_iinc C (lv' := [some (.ref 4), some (.ref 8), some (.int b2), some (.int b3), some (.int x20), some (.int x4), some (.int q6)]) dX1_find_75 rfl (by rw [e21]; rfl) rfl eN rfl rfl (pc' := 78) rfl ?_
        refine A_goto C dX1_find_78 (tgt := 8) (by decide) ?_
        refine A_mask [true, true, true, true, true, false, false] (lv' := [some (.ref 4), some (.ref 8), some (.int b2), some (.int b3), some (.int x20), none, none]) rfl ?_
        exact ih b2 b3 x20 s18 q hF hexit
set_option maxHeartbeats 4000000 in
set_option maxRecDepth 100000 in
theorem F_X1_find_ok {u : Uv} (hu : Un u) {a0 a1 : Int32} {s : Sg} {o : Nat → Int64} {r : Sg} (hF : F_X1_find a0 a1 s = some r) : AM u (yX1_find, cX1_find, 7, none) 3 0 0 [.ref 4, .ref 8, .int a0, .int a1] (HP s o) none (HP r o) := by
  refine AM.of hu (lv := [some (.ref 4), some (.ref 8), some (.int a0), some (.int a1), none, none, none]) (by decide) rfl (Nat.le_of_ble_eq_true rfl) rfl ?_
  intro Γ eu eN C T
  subst eu
  have C : Cok Γ cX1_find RX1 none 3 0 0 := C
  unfold F_X1_find at hF
  refine A_aload_n C dX1_find_0 rfl (pc' := 1) rfl ?_
  refine A_iconst C (x := 0) dX1_find_1 (by decide) (pc' := 2) rfl ?_
  obtain ⟨s1, e2, hF⟩ := bnd_some hF
  refine A_put C (j := 1) (h1 := HP s1 o) tyX1 tyX1_ok nmX1 cl_X1 rfl rfl lf_X1_15 rfl (tyX1_ok 1 (by decide)) (fun _ => rfl) (fun _ => rfl) rfl dX1_find_2 (HPg_4 s o) (by rw [e2]; exact HPp_4_1 s o _) (pc' := 5) rfl ?_
  refine A_iconst C (x := 0) dX1_find_5 (by decide) (pc' := 6) rfl ?_
  refine A_istore C (lv' := [some (.ref 4), some (.ref 8), some (.int a0), some (.int a1), some (.int (0 : Int32)), none, none]) dX1_find_6 rfl eN rfl rfl (pc' := 8) rfl ?_
  obtain ⟨q22, h23, hF⟩ := Option.bind_eq_some_iff.mp hF
  refine A_mask [true, true, true, true, true, false, false] (lv' := [some (.ref 4), some (.ref 8), some (.int a0), some (.int a1), some (.int (0 : Int32)), none, none]) rfl ?_
  refine L_X1_find_8_ok hu eN C FU a0 a1 (0 : Int32) s1 q22 h23 ?_
  cases hF
  exact A_vret C T (Nat.le_refl _) (Nat.le_refl _) dX1_find_81
def F_X2_startOf (a0 : Int32) (s : Sg) : Option Int32 :=
  some ((((s 701 0) + a0) - ((s 701 0) + a0) / (21 : Int32) * (21 : Int32)) * (64 : Int32))
set_option maxHeartbeats 4000000 in
set_option maxRecDepth 100000 in
theorem F_X2_startOf_ok {u : Uv} (hu : Un u) {a0 : Int32} {s : Sg} {o : Nat → Int64} {r : Int32} (hF : F_X2_startOf a0 s = some r) : AM u (yX2_startOf, cX2_startOf, 2, (some .int)) 0 0 0 [.ref 6, .int a0] (HP s o) (some (.int r)) (HP s o) := by
  refine AM.of hu (lv := [some (.ref 6), some (.int a0)]) (by decide) rfl (Nat.le_of_ble_eq_true rfl) rfl ?_
  intro Γ eu eN C T
  subst eu
  have C : Cok Γ cX2_startOf RX2 (some .int) 0 0 0 := C
  unfold F_X2_startOf at hF
  refine A_aload_n C dX2_startOf_0 rfl (pc' := 1) rfl ?_
  refine A_get C (j := 1) cl_X2 rfl rfl lf_X2_15 dX2_startOf_1 (HPg_6 s o) rfl (pc' := 4) rfl ?_
  refine A_iload_n C dX2_startOf_4 rfl (pc' := 5) rfl ?_
  refine A_iadd C dX2_startOf_5 (pc' := 6) rfl ?_
  refine A_bipush C (x := 21) dX2_startOf_6 (by decide) (pc' := 8) rfl ?_
  refine A_irem C dX2_startOf_8 (by decide) (pc' := 9) rfl ?_
  refine A_bipush C (x := 64) dX2_startOf_9 (by decide) (pc' := 11) rfl ?_
  refine A_imul C dX2_startOf_11 (pc' := 12) rfl ?_
  cases hF
  exact A_iret C T (Nat.le_refl _) (Nat.le_refl _) dX2_startOf_12
def F_X2_draw (s : Sg) : Option Sg :=
  (F_X2_startOf (s 702 0) s).bind fun q1 =>
  grd (¬ (0 : Int32) < 0 ∧ ¬ q1 < 0 ∧ ¬ (64 : Int32) < 0 ∧ (0 : Int32).toNatClampNeg + (64 : Int32).toNatClampNeg ≤ 64 ∧ q1.toNatClampNeg + (64 : Int32).toNatClampNeg ≤ 1344) <|
  bnd (va_up s 7 (va_cpy (s 20) (s 7) (0 : Int32).toNatClampNeg q1.toNatClampNeg (64 : Int32).toNatClampNeg)) fun s4 =>
  some s4
set_option maxHeartbeats 4000000 in
set_option maxRecDepth 100000 in
theorem F_X2_draw_ok {u : Uv} (hu : Un u) {s : Sg} {o : Nat → Int64} {r : Sg} (hF : F_X2_draw  s = some r) : AM u (yX2_draw, cX2_draw, 2, none) 1 0 0 [.ref 6, .ref 20] (HP s o) none (HP r o) := by
  refine AM.of hu (lv := [some (.ref 6), some (.ref 20)]) (by decide) rfl (Nat.le_of_ble_eq_true rfl) rfl ?_
  intro Γ eu eN C T
  subst eu
  have C : Cok Γ cX2_draw RX2 none 1 0 0 := C
  unfold F_X2_draw at hF
  refine A_aload_n C dX2_draw_0 rfl (pc' := 1) rfl ?_
  refine A_iconst C (x := 0) dX2_draw_1 (by decide) (pc' := 2) rfl ?_
  refine A_aload_n C dX2_draw_2 rfl (pc' := 3) rfl ?_
  refine A_get C (j := 0) cl_X2 rfl rfl lf_X2_11 dX2_draw_3 (HPg_6 s o) rfl (pc' := 6) rfl ?_
  refine A_aload_n C dX2_draw_6 rfl (pc' := 7) rfl ?_
  refine A_aload_n C dX2_draw_7 rfl (pc' := 8) rfl ?_
  refine A_get C (j := 2) cl_X2 rfl rfl lf_X2_19 dX2_draw_8 (HPg_6 s o) rfl (pc' := 11) rfl ?_
  obtain ⟨q1, h2, hF⟩ := Option.bind_eq_some_iff.mp hF
  refine A_callV C (av := [.int (s 702 0)]) (rest := [.ref 7, .int (0 : Int32), .ref 20]) (st2 := [.int q1, .ref 7, .int (0 : Int32), .ref 20]) (k2 := 0) (n2 := 0) (F_X2_startOf_ok hu h2) mk_X2_startOf lm_X2_22 wi_X2_startOf wv_X2_startOf (HPg_6 s o) rfl rfl rfl rfl ⟨by decide, by decide⟩ (Nat.le_of_ble_eq_true rfl) rfl rfl dX2_draw_11 rfl rfl rfl (pc' := 14) rfl ?_
  refine A_bipush C (x := 64) dX2_draw_14 (by decide) (pc' := 16) rfl ?_
  obtain ⟨h3, hF⟩ := grd_some hF
  obtain ⟨s4, e5, hF⟩ := bnd_some hF
  refine A_copyi C (h1 := HP s4 o) lm_X2_26 wac_n wac_s wac_i (HPg_20 s o) (HPg_7 s o) h3.1 h3.2.1 h3.2.2.1 h3.2.2.2.1 h3.2.2.2.2 (by decide) (by decide +kernel) (by rw [e5]; exact HPs_7 s o _) dX2_draw_16 (pc' := 19) rfl ?_
  cases hF
  exact A_vret C T (Nat.le_refl _) (Nat.le_refl _) dX2_draw_19
def F_X2_takeBack (s : Sg) : Option Sg :=
  bnd (va_up s 702 (fun _ => ((s 702 0) - (1 : Int32)))) fun s1 =>
  (F_X2_startOf (s1 702 0) s1).bind fun q3 =>
  grd (¬ q3 < 0 ∧ ¬ (0 : Int32) < 0 ∧ ¬ (64 : Int32) < 0 ∧ q3.toNatClampNeg + (64 : Int32).toNatClampNeg ≤ 1344 ∧ (0 : Int32).toNatClampNeg + (64 : Int32).toNatClampNeg ≤ 64) <|
  bnd (va_up s1 20 (va_cpy (s1 7) (s1 20) q3.toNatClampNeg (0 : Int32).toNatClampNeg (64 : Int32).toNatClampNeg)) fun s6 =>
  some s6
set_option maxHeartbeats 4000000 in
set_option maxRecDepth 100000 in
theorem F_X2_takeBack_ok {u : Uv} (hu : Un u) {s : Sg} {o : Nat → Int64} {r : Sg} (hF : F_X2_takeBack  s = some r) : AM u (yX2_takeBack, cX2_takeBack, 2, none) 1 0 0 [.ref 6, .ref 20] (HP s o) none (HP r o) := by
  refine AM.of hu (lv := [some (.ref 6), some (.ref 20)]) (by decide) rfl (Nat.le_of_ble_eq_true rfl) rfl ?_
  intro Γ eu eN C T
  subst eu
  have C : Cok Γ cX2_takeBack RX2 none 1 0 0 := C
  unfold F_X2_takeBack at hF
  refine A_aload_n C dX2_takeBack_0 rfl (pc' := 1) rfl ?_
  refine A_dup C dX2_takeBack_1 rfl (pc' := 2) rfl ?_
  refine A_get C (j := 2) cl_X2 rfl rfl lf_X2_19 dX2_takeBack_2 (HPg_6 s o) rfl (pc' := 5) rfl ?_
  refine A_iconst C (x := 1) dX2_takeBack_5 (by decide) (pc' := 6) rfl ?_
  refine A_isub C dX2_takeBack_6 (pc' := 7) rfl ?_
  obtain ⟨s1, e2, hF⟩ := bnd_some hF
  refine A_put C (j := 2) (h1 := HP s1 o) tyX2 tyX2_ok nmX2 cl_X2 rfl rfl lf_X2_19 rfl (tyX2_ok 2 (by decide)) (fun _ => rfl) (fun _ => rfl) rfl dX2_takeBack_7 (HPg_6 s o) (by rw [e2]; exact HPp_6_2 s o _) (pc' := 10) rfl ?_
  refine A_aload_n C dX2_takeBack_10 rfl (pc' := 11) rfl ?_
  refine A_get C (j := 0) cl_X2 rfl rfl lf_X2_11 dX2_takeBack_11 (HPg_6 s1 o) rfl (pc' := 14) rfl ?_
  refine A_aload_n C dX2_takeBack_14 rfl (pc' := 15) rfl ?_
  refine A_aload_n C dX2_takeBack_15 rfl (pc' := 16) rfl ?_
  refine A_get C (j := 2) cl_X2 rfl rfl lf_X2_19 dX2_takeBack_16 (HPg_6 s1 o) rfl (pc' := 19) rfl ?_
  obtain ⟨q3, h4, hF⟩ := Option.bind_eq_some_iff.mp hF
  refine A_callV C (av := [.int (s1 702 0)]) (rest := [.ref 7]) (st2 := [.int q3, .ref 7]) (k2 := 0) (n2 := 0) (F_X2_startOf_ok hu h4) mk_X2_startOf lm_X2_22 wi_X2_startOf wv_X2_startOf (HPg_6 s1 o) rfl rfl rfl rfl ⟨by decide, by decide⟩ (Nat.le_of_ble_eq_true rfl) rfl rfl dX2_takeBack_19 rfl rfl rfl (pc' := 22) rfl ?_
  refine A_aload_n C dX2_takeBack_22 rfl (pc' := 23) rfl ?_
  refine A_iconst C (x := 0) dX2_takeBack_23 (by decide) (pc' := 24) rfl ?_
  refine A_bipush C (x := 64) dX2_takeBack_24 (by decide) (pc' := 26) rfl ?_
  obtain ⟨h5, hF⟩ := grd_some hF
  obtain ⟨s6, e7, hF⟩ := bnd_some hF
  refine A_copyi C (h1 := HP s6 o) lm_X2_26 wac_n wac_s wac_i (HPg_7 s1 o) (HPg_20 s1 o) h5.1 h5.2.1 h5.2.2.1 h5.2.2.2.1 h5.2.2.2.2 (by decide) (by decide +kernel) (by rw [e7]; exact HPs_20 s1 o _) dX2_takeBack_26 (pc' := 29) rfl ?_
  cases hF
  exact A_vret C T (Nat.le_refl _) (Nat.le_refl _) dX2_takeBack_29
