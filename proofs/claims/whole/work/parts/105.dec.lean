def L_X6_itemAt_3 : Nat → Int32 → Int32 → Int32 → Int32 → Sg → Option (Int32 ⊕ (Unit))
  | 0, _, _, _, _, _ => none
  | fu + 1, b1, b2, b3, b4, s =>
    if (64 : Int32) ≤ b4 then
      some (.inr ())
    else
      (F_X6_covers b4 b3 s).bind fun q2 =>
      if q2 = 0 then
        bnd (b4 + (1 : Int32)) fun x5 =>
        L_X6_itemAt_3 fu b1 b2 b3 x5 s
      else
        (F_X6_isOf b4 b1 b2 s).bind fun q7 =>
        if q7 = 0 then
          bnd (b4 + (1 : Int32)) fun x10 =>
          L_X6_itemAt_3 fu b1 b2 b3 x10 s
        else
          some (.inl b4)
def F_X6_itemAt (a0 : Int32) (a1 : Int32) (a2 : Int32) (s : Sg) : Option Int32 :=
  (L_X6_itemAt_3 FU a0 a1 a2 (0 : Int32) s).bind fun q12 => match q12 with
  | .inl v14 => some v14
  | .inr t15 =>
  some (-1 : Int32)
set_option maxHeartbeats 4000000 in
set_option maxRecDepth 100000 in
theorem L_X6_itemAt_3_ok {Γ : Cx} (hu : Un Γ.2.1) (eN : 5 = Γ.2.2.2.2.2) (C : Cok Γ cX6_itemAt RX6 (some .int) 2 0 0) {o : Nat → Int64} : ∀ (fu : Nat) (b1 : Int32) (b2 : Int32) (b3 : Int32) (b4 : Int32) (s : Sg) (q : (Int32 ⊕ (Unit))), L_X6_itemAt_3 fu b1 b2 b3 b4 s = some q → (∀ v, q = .inl v → Tgt Γ 0 0 (some (.int v)) (HP s o)) → (∀ t, q = .inr t → AW Γ (HP s o) 0 0 [none, none, none, none, none] [] 40) → AW Γ (HP s o) 0 0 [some (.ref 21), some (.int b1), some (.int b2), some (.int b3), some (.int b4)] [] 3 := by
  intro fu
  induction fu with
  | zero => intro b1 b2 b3 b4 s q hF; rw [L_X6_itemAt_3] at hF; cases hF
  | succ fu ih =>
    intro b1 b2 b3 b4 s q hF hret hexit
    rw [L_X6_itemAt_3] at hF
    refine A_iload C dX6_itemAt_3 rfl (pc' := 5) rfl ?_
    refine A_bipush C (x := 64) dX6_itemAt_5 (by decide) (pc' := 7) rfl ?_
    refine A_icmp_ge C dX6_itemAt_7 (tgt := 40) (by decide) (pc' := 10) rfl (fun c1 => ?_) (fun c1 => ?_)
    · rw [if_pos c1] at hF
      cases hF
      refine A_mask [false, false, false, false, false] (lv' := [none, none, none, none, none]) rfl ?_
      exact hexit () rfl
    · rw [if_neg c1] at hF
      refine A_aload_n C dX6_itemAt_10 rfl (pc' := 11) rfl ?_
      refine A_iload C dX6_itemAt_11 rfl (pc' := 13) rfl ?_
      refine A_iload_n C dX6_itemAt_13 rfl (pc' := 14) rfl ?_
      obtain ⟨q2, h3, hF⟩ := Option.bind_eq_some_iff.mp hF
      refine A_callV C (av := [.int b4, .int b3]) (rest := []) (st2 := [.int q2]) (k2 := 0) (n2 := 0) (F_X6_covers_ok hu h3) mk_X6_covers lm_X6_83 wi_X6_covers wv_X6_covers (HPg_21 s o) rfl rfl rfl rfl ⟨by decide, by decide⟩ (Nat.le_of_ble_eq_true rfl) rfl rfl dX6_itemAt_14 rfl rfl rfl (pc' := 17) rfl ?_
      refine A_if_eq C dX6_itemAt_17 (tgt := 34) (by decide) (pc' := 20) rfl (fun c4 => ?_) (fun c4 => ?_)
      · rw [if_pos c4] at hF
        obtain ⟨x5, e6, hF⟩ := bnd_some hF
        refine A_iinc C (lv' := [some (.ref 21), some (.int b1), some (.int b2), some (.int b3), some (.int x5)]) dX6_itemAt_34 rfl (by rw [e6]; rfl) rfl eN rfl rfl (pc' := 37) rfl ?_
        refine A_goto C dX6_itemAt_37 (tgt := 3) (by decide) ?_
        refine A_mask [true, true, true, true, true] (lv' := [some (.ref 21), some (.int b1), some (.int b2), some (.int b3), some (.int x5)]) rfl ?_
        exact ih b1 b2 b3 x5 s q hF hret hexit
      · rw [if_neg c4] at hF
        refine A_aload_n C dX6_itemAt_20 rfl (pc' := 21) rfl ?_
        refine A_iload C dX6_itemAt_21 rfl (pc' := 23) rfl ?_
        refine A_iload_n C dX6_itemAt_23 rfl (pc' := 24) rfl ?_
        refine A_iload_n C dX6_itemAt_24 rfl (pc' := 25) rfl ?_
        obtain ⟨q7, h8, hF⟩ := Option.bind_eq_some_iff.mp hF
        refine A_callV C (av := [.int b4, .int b1, .int b2]) (rest := []) (st2 := [.int q7]) (k2 := 0) (n2 := 0) (F_X6_isOf_ok hu h8) mk_X6_isOf lm_X6_87 wi_X6_isOf wv_X6_isOf (HPg_21 s o) rfl rfl rfl rfl ⟨by decide, by decide⟩ (Nat.le_of_ble_eq_true rfl) rfl rfl dX6_itemAt_25 rfl rfl rfl (pc' := 28) rfl ?_
        refine A_if_eq C dX6_itemAt_28 (tgt := 34) (by decide) (pc' := 31) rfl (fun c9 => ?_) (fun c9 => ?_)
        · rw [if_pos c9] at hF
          obtain ⟨x10, e11, hF⟩ := bnd_some hF
          refine A_iinc C (lv' := [some (.ref 21), some (.int b1), some (.int b2), some (.int b3), some (.int x10)]) dX6_itemAt_34 rfl (by rw [e11]; rfl) rfl eN rfl rfl (pc' := 37) rfl ?_
          refine A_goto C dX6_itemAt_37 (tgt := 3) (by decide) ?_
          refine A_mask [true, true, true, true, true] (lv' := [some (.ref 21), some (.int b1), some (.int b2), some (.int b3), some (.int x10)]) rfl ?_
          exact ih b1 b2 b3 x10 s q hF hret hexit
        · rw [if_neg c9] at hF
          refine A_iload C dX6_itemAt_31 rfl (pc' := 33) rfl ?_
          cases hF
          exact A_iret C (hret b4 rfl) (Nat.le_refl _) (Nat.le_refl _) dX6_itemAt_33
set_option maxHeartbeats 4000000 in
set_option maxRecDepth 100000 in
theorem F_X6_itemAt_ok {u : Uv} (hu : Un u) {a0 a1 a2 : Int32} {s : Sg} {o : Nat → Int64} {r : Int32} (hF : F_X6_itemAt a0 a1 a2 s = some r) : AM u (yX6_itemAt, cX6_itemAt, 5, (some .int)) 2 0 0 [.ref 21, .int a0, .int a1, .int a2] (HP s o) (some (.int r)) (HP s o) := by
  refine AM.of hu (lv := [some (.ref 21), some (.int a0), some (.int a1), some (.int a2), none]) (by decide) rfl (Nat.le_of_ble_eq_true rfl) rfl ?_
  intro Γ eu eN C T
  subst eu
  have C : Cok Γ cX6_itemAt RX6 (some .int) 2 0 0 := C
  unfold F_X6_itemAt at hF
  refine A_iconst C (x := 0) dX6_itemAt_0 (by decide) (pc' := 1) rfl ?_
  refine A_istore C (lv' := [some (.ref 21), some (.int a0), some (.int a1), some (.int a2), some (.int (0 : Int32))]) dX6_itemAt_1 rfl eN rfl rfl (pc' := 3) rfl ?_
  obtain ⟨q12, h13, hF⟩ := Option.bind_eq_some_iff.mp hF
  refine A_mask [true, true, true, true, true] (lv' := [some (.ref 21), some (.int a0), some (.int a1), some (.int a2), some (.int (0 : Int32))]) rfl ?_
  refine L_X6_itemAt_3_ok hu eN C FU a0 a1 a2 (0 : Int32) s q12 h13 (fun v14 e9 => ?_) (fun t15 e9 => ?_)
  · subst e9
    dsimp only at hF
    cases hF
    exact T
  subst e9
  dsimp only at hF
  refine A_iconst C (x := -1) dX6_itemAt_40 (by decide) (pc' := 41) rfl ?_
  cases hF
  exact A_iret C T (Nat.le_refl _) (Nat.le_refl _) dX6_itemAt_41
def F_X6_isPeriod (a0 : Int32) (s : Sg) : Option Int32 :=
  (F_X6_in a0 (0 : Int32) (((s 2201 0) * (s 2202 0)) - (1 : Int32)) s).bind fun q1 =>
  grd (q1 = 0 ∨ q1 = 1) <|
  some q1
set_option maxHeartbeats 4000000 in
set_option maxRecDepth 100000 in
theorem F_X6_isPeriod_ok {u : Uv} (hu : Un u) {a0 : Int32} {s : Sg} {o : Nat → Int64} {r : Int32} (hF : F_X6_isPeriod a0 s = some r) : AM u (yX6_isPeriod, cX6_isPeriod, 2, (some .boolean)) 1 0 0 [.ref 21, .int a0] (HP s o) (some (.int r)) (HP s o) := by
  refine AM.of hu (lv := [some (.ref 21), some (.int a0)]) (by decide) rfl (Nat.le_of_ble_eq_true rfl) rfl ?_
  intro Γ eu eN C T
  subst eu
  have C : Cok Γ cX6_isPeriod RX6 (some .boolean) 1 0 0 := C
  unfold F_X6_isPeriod at hF
  refine A_iload_n C dX6_isPeriod_0 rfl (pc' := 1) rfl ?_
  refine A_iconst C (x := 0) dX6_isPeriod_1 (by decide) (pc' := 2) rfl ?_
  refine A_aload_n C dX6_isPeriod_2 rfl (pc' := 3) rfl ?_
  refine A_get C (j := 1) cl_X6 rfl rfl lf_X6_62 dX6_isPeriod_3 (HPg_21 s o) rfl (pc' := 6) rfl ?_
  refine A_aload_n C dX6_isPeriod_6 rfl (pc' := 7) rfl ?_
  refine A_get C (j := 2) cl_X6 rfl rfl lf_X6_66 dX6_isPeriod_7 (HPg_21 s o) rfl (pc' := 10) rfl ?_
  refine A_imul C dX6_isPeriod_10 (pc' := 11) rfl ?_
  refine A_iconst C (x := 1) dX6_isPeriod_11 (by decide) (pc' := 12) rfl ?_
  refine A_isub C dX6_isPeriod_12 (pc' := 13) rfl ?_
  obtain ⟨q1, h2, hF⟩ := Option.bind_eq_some_iff.mp hF
  refine A_callS C (av := [.int a0, .int (0 : Int32), .int (((s 2201 0) * (s 2202 0)) - (1 : Int32))]) (rest := []) (st2 := [.int q1]) (k2 := 0) (n2 := 0) (F_X6_in_ok hu h2) mk_X6_in lm_X6_72 ws_X6_in rfl rfl rfl ⟨by decide, by decide⟩ (Nat.le_of_ble_eq_true rfl) rfl rfl dX6_isPeriod_13 rfl rfl rfl (pc' := 16) rfl ?_
  obtain ⟨h3, hF⟩ := grd_some hF
  cases hF
  exact A_zret C T h3 (Nat.le_refl _) (Nat.le_refl _) dX6_isPeriod_16
def F_X6_block (a0 : Int32) (a1 : Int32) (a2 : Int32) (a3 : Int32) (s : Sg) : Option Sg :=
  jn (fun (y1 : Int32) (y2 : Int32) (s3 : Sg) => (F_X6_throwing y1 y2 s3).bind fun q4 =>
      if q4.1 = 0 then
        grd (ixb ((((240 : Int32) * a0) + ((30 : Int32) * a1)) + a2) 660 = true) <|
        bnd (va_up q4.2 32 (upd (q4.2 32) ((((240 : Int32) * a0) + ((30 : Int32) * a1)) + a2).toNatClampNeg (vp_nar .boolean a3))) fun s8 =>
        some s8
      else
        some q4.2) fun J71 =>
  jn (fun (y10 : Int32) (s11 : Sg) => if y10 = 0 then
        if a3 = 0 then
          J71 y10 (0 : Int32) s11
        else
          (F_X6_itemAt a0 a1 a2 s11).bind fun q14 =>
          if q14 < 0 then
            J71 y10 (0 : Int32) s11
          else
            J71 y10 (1 : Int32) s11
      else
        J71 y10 (0 : Int32) s11) fun J41 =>
  jn (fun (y17 : Int32) (y18 : Int32) (y19 : Int32) (s20 : Sg) => (F_X6_in y17 y18 y19 s20).bind fun q21 =>
      if q21 = 0 then
        J41 (1 : Int32) s20
      else
        (F_X6_isPeriod a2 s20).bind fun q24 =>
        if q24 = 0 then
          J41 (1 : Int32) s20
        else
          J41 (0 : Int32) s20) fun J22 =>
  (F_X6_in a0 (0 : Int32) (2 : Int32) s).bind fun q27 =>
  if q27 = 0 then
    J41 (1 : Int32) s
  else
    if a0 = (2 : Int32) then
      J22 a1 (0 : Int32) (5 : Int32) s
    else
      J22 a1 (0 : Int32) (7 : Int32) s
set_option maxHeartbeats 4000000 in
set_option maxRecDepth 100000 in
theorem F_X6_block_ok {u : Uv} (hu : Un u) {a0 a1 a2 a3 : Int32} {s : Sg} {o : Nat → Int64} {r : Sg} (hF : F_X6_block a0 a1 a2 a3 s = some r) : AM u (yX6_block, cX6_block, 6, none) 3 0 0 [.ref 21, .int a0, .int a1, .int a2, .int a3] (HP s o) none (HP r o) := by
  refine AM.of hu (lv := [some (.ref 21), some (.int a0), some (.int a1), some (.int a2), some (.int a3), none]) (by decide) rfl (Nat.le_of_ble_eq_true rfl) rfl ?_
  intro Γ eu eN C T
  subst eu
  have C : Cok Γ cX6_block RX6 none 3 0 0 := C
  unfold F_X6_block at hF
  obtain ⟨J71, eJ71, hF⟩ := jn_some hF
  have hJ71 : ∀ (y1 : Int32) (y2 : Int32) (s3 : Sg), J71 y1 y2 s3 = some r → AW Γ (HP s3 o) 0 0 [some (.ref 21), some (.int a0), some (.int a1), some (.int a2), some (.int a3), none] [.int y2, .int y1, .ref 21] 71 := by
    intro y1 y2 s3 hF
    rw [eJ71] at hF
    dsimp only at hF
    obtain ⟨q4, h5, hF⟩ := Option.bind_eq_some_iff.mp hF
    refine A_callV C (av := [.int y1, .int y2]) (rest := []) (st2 := [.int q4.1]) (k2 := 0) (n2 := 0) (F_X6_throwing_ok hu h5) mk_X6_throwing lm_X6_90 wi_X6_throwing wv_X6_throwing (HPg_21 s3 o) rfl rfl rfl rfl ⟨by decide, by decide⟩ (Nat.le_of_ble_eq_true rfl) rfl rfl dX6_block_71 rfl rfl rfl (pc' := 74) rfl ?_
    refine A_if_eq C dX6_block_74 (tgt := 78) (by decide) (pc' := 77) rfl (fun c6 => ?_) (fun c6 => ?_)
    · rw [if_pos c6] at hF
      refine A_aload_n C dX6_block_78 rfl (pc' := 79) rfl ?_
      refine A_get C (j := 14) cl_X6 rfl rfl lf_X6_40 dX6_block_79 (HPg_21 q4.2 o) rfl (pc' := 82) rfl ?_
      refine A_sipush C (x := 240) dX6_block_82 (by decide) (pc' := 85) rfl ?_
      refine A_iload_n C dX6_block_85 rfl (pc' := 86) rfl ?_
      refine A_imul C dX6_block_86 (pc' := 87) rfl ?_
      refine A_bipush C (x := 30) dX6_block_87 (by decide) (pc' := 89) rfl ?_
      refine A_iload_n C dX6_block_89 rfl (pc' := 90) rfl ?_
      refine A_imul C dX6_block_90 (pc' := 91) rfl ?_
      refine A_iadd C dX6_block_91 (pc' := 92) rfl ?_
      refine A_iload_n C dX6_block_92 rfl (pc' := 93) rfl ?_
      refine A_iadd C dX6_block_93 (pc' := 94) rfl ?_
      refine A_iload C dX6_block_94 rfl (pc' := 96) rfl ?_
      obtain ⟨h7, hF⟩ := grd_some hF
      obtain ⟨s8, e9, hF⟩ := bnd_some hF
      refine A_zast C (h1 := HP s8 o) (HPg_32 q4.2 o) (ixb_in h7) (by rw [e9]; exact HPs_32 q4.2 o _) dX6_block_96 (pc' := 97) rfl ?_
      cases hF
      exact A_vret C T (Nat.le_refl _) (Nat.le_refl _) dX6_block_97
    · rw [if_neg c6] at hF
      cases hF
      exact A_vret C T (Nat.le_refl _) (Nat.le_refl _) dX6_block_77
  clear eJ71
  obtain ⟨J41, eJ41, hF⟩ := jn_some hF
  have hJ41 : ∀ (y10 : Int32) (s11 : Sg), J41 y10 s11 = some r → AW Γ (HP s11 o) 0 0 [some (.ref 21), some (.int a0), some (.int a1), some (.int a2), some (.int a3), none] [.int y10] 41 := by
    intro y10 s11 hF
    rw [eJ41] at hF
    dsimp only at hF
    refine A_istore C (lv' := [some (.ref 21), some (.int a0), some (.int a1), some (.int a2), some (.int a3), some (.int y10)]) dX6_block_41 rfl eN rfl rfl (pc' := 43) rfl ?_
    refine A_aload_n C dX6_block_43 rfl (pc' := 44) rfl ?_
    refine A_iload C dX6_block_44 rfl (pc' := 46) rfl ?_
    refine A_iload C dX6_block_46 rfl (pc' := 48) rfl ?_
    refine A_if_ne C dX6_block_48 (tgt := 70) (by decide) (pc' := 51) rfl (fun c12 => ?_) (fun c12 => ?_)
    · rw [if_neg c12] at hF
      refine A_iconst C (x := 0) dX6_block_70 (by decide) (pc' := 71) rfl ?_
      refine A_mask [true, true, true, true, true, false] (lv' := [some (.ref 21), some (.int a0), some (.int a1), some (.int a2), some (.int a3), none]) rfl ?_
      exact hJ71 y10 (0 : Int32) s11 hF
    · rw [if_pos c12] at hF
      refine A_iload C dX6_block_51 rfl (pc' := 53) rfl ?_
      refine A_if_eq C dX6_block_53 (tgt := 70) (by decide) (pc' := 56) rfl (fun c13 => ?_) (fun c13 => ?_)
      · rw [if_pos c13] at hF
        refine A_iconst C (x := 0) dX6_block_70 (by decide) (pc' := 71) rfl ?_
        refine A_mask [true, true, true, true, true, false] (lv' := [some (.ref 21), some (.int a0), some (.int a1), some (.int a2), some (.int a3), none]) rfl ?_
        exact hJ71 y10 (0 : Int32) s11 hF
      · rw [if_neg c13] at hF
        refine A_aload_n C dX6_block_56 rfl (pc' := 57) rfl ?_
        refine A_iload_n C dX6_block_57 rfl (pc' := 58) rfl ?_
        refine A_iload_n C dX6_block_58 rfl (pc' := 59) rfl ?_
        refine A_iload_n C dX6_block_59 rfl (pc' := 60) rfl ?_
        obtain ⟨q14, h15, hF⟩ := Option.bind_eq_some_iff.mp hF
        refine A_callV C (av := [.int a0, .int a1, .int a2]) (rest := [.int y10, .ref 21]) (st2 := [.int q14, .int y10, .ref 21]) (k2 := 0) (n2 := 0) (F_X6_itemAt_ok hu h15) mk_X6_itemAt lm_X6_98 wi_X6_itemAt wv_X6_itemAt (HPg_21 s11 o) rfl rfl rfl rfl ⟨by decide, by decide⟩ (Nat.le_of_ble_eq_true rfl) rfl rfl dX6_block_60 rfl rfl rfl (pc' := 63) rfl ?_
        refine A_if_lt C dX6_block_63 (tgt := 70) (by decide) (pc' := 66) rfl (fun c16 => ?_) (fun c16 => ?_)
        · rw [if_pos c16] at hF
          refine A_iconst C (x := 0) dX6_block_70 (by decide) (pc' := 71) rfl ?_
          refine A_mask [true, true, true, true, true, false] (lv' := [some (.ref 21), some (.int a0), some (.int a1), some (.int a2), some (.int a3), none]) rfl ?_
          exact hJ71 y10 (0 : Int32) s11 hF
        · rw [if_neg c16] at hF
          refine A_iconst C (x := 1) dX6_block_66 (by decide) (pc' := 67) rfl ?_
          refine A_goto C dX6_block_67 (tgt := 71) (by decide) ?_
          refine A_mask [true, true, true, true, true, false] (lv' := [some (.ref 21), some (.int a0), some (.int a1), some (.int a2), some (.int a3), none]) rfl ?_
          exact hJ71 y10 (1 : Int32) s11 hF
  clear eJ41
  obtain ⟨J22, eJ22, hF⟩ := jn_some hF
  have hJ22 : ∀ (y17 : Int32) (y18 : Int32) (y19 : Int32) (s20 : Sg), J22 y17 y18 y19 s20 = some r → AW Γ (HP s20 o) 0 0 [some (.ref 21), some (.int a0), some (.int a1), some (.int a2), some (.int a3), none] [.int y19, .int y18, .int y17] 22 := by
    intro y17 y18 y19 s20 hF
    rw [eJ22] at hF
    dsimp only at hF
    obtain ⟨q21, h22, hF⟩ := Option.bind_eq_some_iff.mp hF
    refine A_callS C (av := [.int y17, .int y18, .int y19]) (rest := []) (st2 := [.int q21]) (k2 := 0) (n2 := 0) (F_X6_in_ok hu h22) mk_X6_in lm_X6_72 ws_X6_in rfl rfl rfl ⟨by decide, by decide⟩ (Nat.le_of_ble_eq_true rfl) rfl rfl dX6_block_22 rfl rfl rfl (pc' := 25) rfl ?_
    refine A_if_eq C dX6_block_25 (tgt := 36) (by decide) (pc' := 28) rfl (fun c23 => ?_) (fun c23 => ?_)
    · rw [if_pos c23] at hF
      refine A_iconst C (x := 1) dX6_block_36 (by decide) (pc' := 37) rfl ?_
      refine A_goto C dX6_block_37 (tgt := 41) (by decide) ?_
      refine A_mask [true, true, true, true, true, false] (lv' := [some (.ref 21), some (.int a0), some (.int a1), some (.int a2), some (.int a3), none]) rfl ?_
      exact hJ41 (1 : Int32) s20 hF
    · rw [if_neg c23] at hF
      refine A_aload_n C dX6_block_28 rfl (pc' := 29) rfl ?_
      refine A_iload_n C dX6_block_29 rfl (pc' := 30) rfl ?_
      obtain ⟨q24, h25, hF⟩ := Option.bind_eq_some_iff.mp hF
      refine A_callV C (av := [.int a2]) (rest := []) (st2 := [.int q24]) (k2 := 0) (n2 := 0) (F_X6_isPeriod_ok hu h25) mk_X6_isPeriod lm_X6_94 wi_X6_isPeriod wv_X6_isPeriod (HPg_21 s20 o) rfl rfl rfl rfl ⟨by decide, by decide⟩ (Nat.le_of_ble_eq_true rfl) rfl rfl dX6_block_30 rfl rfl rfl (pc' := 33) rfl ?_
      refine A_if_ne C dX6_block_33 (tgt := 40) (by decide) (pc' := 36) rfl (fun c26 => ?_) (fun c26 => ?_)
      · rw [if_neg c26] at hF
        refine A_iconst C (x := 0) dX6_block_40 (by decide) (pc' := 41) rfl ?_
        refine A_mask [true, true, true, true, true, false] (lv' := [some (.ref 21), some (.int a0), some (.int a1), some (.int a2), some (.int a3), none]) rfl ?_
        exact hJ41 (0 : Int32) s20 hF
      · rw [if_pos c26] at hF
        refine A_iconst C (x := 1) dX6_block_36 (by decide) (pc' := 37) rfl ?_
        refine A_goto C dX6_block_37 (tgt := 41) (by decide) ?_
        refine A_mask [true, true, true, true, true, false] (lv' := [some (.ref 21), some (.int a0), some (.int a1), some (.int a2), some (.int a3), none]) rfl ?_
        exact hJ41 (1 : Int32) s20 hF
  clear eJ22
  refine A_iload_n C dX6_block_0 rfl (pc' := 1) rfl ?_
  refine A_iconst C (x := 0) dX6_block_1 (by decide) (pc' := 2) rfl ?_
  refine A_iconst C (x := 2) dX6_block_2 (by decide) (pc' := 3) rfl ?_
  obtain ⟨q27, h28, hF⟩ := Option.bind_eq_some_iff.mp hF
  refine A_callS C (av := [.int a0, .int (0 : Int32), .int (2 : Int32)]) (rest := []) (st2 := [.int q27]) (k2 := 0) (n2 := 0) (F_X6_in_ok hu h28) mk_X6_in lm_X6_72 ws_X6_in rfl rfl rfl ⟨by decide, by decide⟩ (Nat.le_of_ble_eq_true rfl) rfl rfl dX6_block_3 rfl rfl rfl (pc' := 6) rfl ?_
  refine A_if_eq C dX6_block_6 (tgt := 36) (by decide) (pc' := 9) rfl (fun c29 => ?_) (fun c29 => ?_)
  · rw [if_pos c29] at hF
    refine A_iconst C (x := 1) dX6_block_36 (by decide) (pc' := 37) rfl ?_
    refine A_goto C dX6_block_37 (tgt := 41) (by decide) ?_
    refine A_mask [true, true, true, true, true, false] (lv' := [some (.ref 21), some (.int a0), some (.int a1), some (.int a2), some (.int a3), none]) rfl ?_
    exact hJ41 (1 : Int32) s hF
  · rw [if_neg c29] at hF
    refine A_iload_n C dX6_block_9 rfl (pc' := 10) rfl ?_
    refine A_iconst C (x := 0) dX6_block_10 (by decide) (pc' := 11) rfl ?_
    refine A_iload_n C dX6_block_11 rfl (pc' := 12) rfl ?_
    refine A_iconst C (x := 2) dX6_block_12 (by decide) (pc' := 13) rfl ?_
    refine A_icmp_ne C dX6_block_13 (tgt := 20) (by decide) (pc' := 16) rfl (fun c30 => ?_) (fun c30 => ?_)
    · rw [if_neg c30] at hF
      refine A_bipush C (x := 7) dX6_block_20 (by decide) (pc' := 22) rfl ?_
      refine A_mask [true, true, true, true, true, false] (lv' := [some (.ref 21), some (.int a0), some (.int a1), some (.int a2), some (.int a3), none]) rfl ?_
      exact hJ22 a1 (0 : Int32) (7 : Int32) s hF
    · rw [if_pos c30] at hF
      refine A_iconst C (x := 5) dX6_block_16 (by decide) (pc' := 17) rfl ?_
      refine A_goto C dX6_block_17 (tgt := 22) (by decide) ?_
      refine A_mask [true, true, true, true, true, false] (lv' := [some (.ref 21), some (.int a0), some (.int a1), some (.int a2), some (.int a3), none]) rfl ?_
      exact hJ22 a1 (0 : Int32) (5 : Int32) s hF
def L_X6_undo_34 : Nat → Int32 → Sg → Option (Sg)
  | 0, _, _ => none
  | fu + 1, b1, s =>
    if (64 : Int32) ≤ b1 then
      some s
    else
      grd (ixb (((64 : Int32) * (s 2221 0)) + b1) 1280 = true) <|
      grd (ixb b1 64 = true) <|
      bnd (va_up s 30 (upd (s 30) b1.toNatClampNeg (s 36 (((64 : Int32) * (s 2221 0)) + b1).toNatClampNeg))) fun s11 =>
      grd (ixb (((64 : Int32) * (s11 2221 0)) + b1) 1280 = true) <|
      grd (ixb b1 64 = true) <|
      bnd (va_up s11 31 (upd (s11 31) b1.toNatClampNeg (s11 37 (((64 : Int32) * (s11 2221 0)) + b1).toNatClampNeg))) fun s15 =>
      bnd (b1 + (1 : Int32)) fun x17 =>
      L_X6_undo_34 fu x17 s15
def F_X6_undo (s : Sg) : Option (Int32 × Sg) :=
  jn (fun (y1 : Int32) (s2 : Sg) => (F_X6_throwing y1 (0 : Int32) s2).bind fun q3 =>
      if q3.1 = 0 then
        bnd (va_up q3.2 2221 (fun _ => ((q3.2 2221 0) - (1 : Int32)))) fun s6 =>
        (L_X6_undo_34 FU (0 : Int32) s6).bind fun q19 =>
        some ((q19 2221 0), q19)
      else
        some ((0 : Int32), q3.2)) fun J13 =>
  if (s 2221 0) = 0 then
    J13 (1 : Int32) s
  else
    J13 (0 : Int32) s
set_option maxHeartbeats 4000000 in
set_option maxRecDepth 100000 in
theorem L_X6_undo_34_ok {Γ : Cx} (hu : Un Γ.2.1) (eN : 2 = Γ.2.2.2.2.2) (C : Cok Γ cX6_undo RX6 (some .int) 1 0 0) {o : Nat → Int64} : ∀ (fu : Nat) (b1 : Int32) (s : Sg) (q : (Sg)), L_X6_undo_34 fu b1 s = some q → AW Γ (HP q o) 0 0 [some (.ref 21), none] [] 86 → AW Γ (HP s o) 0 0 [some (.ref 21), some (.int b1)] [] 34 := by
  intro fu
  induction fu with
  | zero => intro b1 s q hF; rw [L_X6_undo_34] at hF; cases hF
  | succ fu ih =>
    intro b1 s q hF hexit
    rw [L_X6_undo_34] at hF
    refine A_iload_n C dX6_undo_34 rfl (pc' := 35) rfl ?_
    refine A_bipush C (x := 64) dX6_undo_35 (by decide) (pc' := 37) rfl ?_
    refine A_icmp_ge C dX6_undo_37 (tgt := 86) (by decide) (pc' := 40) rfl (fun c8 => ?_) (fun c8 => ?_)
    · rw [if_pos c8] at hF
      cases hF
      refine A_mask [true, false] (lv' := [some (.ref 21), none]) rfl ?_
      exact hexit
    · rw [if_neg c8] at hF
      refine A_aload_n C dX6_undo_40 rfl (pc' := 41) rfl ?_
      refine A_get C (j := 12) cl_X6 rfl rfl lf_X6_34 dX6_undo_41 (HPg_21 s o) rfl (pc' := 44) rfl ?_
      refine A_iload_n C dX6_undo_44 rfl (pc' := 45) rfl ?_
      refine A_aload_n C dX6_undo_45 rfl (pc' := 46) rfl ?_
      refine A_get C (j := 19) cl_X6 rfl rfl lf_X6_53 dX6_undo_46 (HPg_21 s o) rfl (pc' := 49) rfl ?_
      refine A_bipush C (x := 64) dX6_undo_49 (by decide) (pc' := 51) rfl ?_
      refine A_aload_n C dX6_undo_51 rfl (pc' := 52) rfl ?_
      refine A_get C (j := 21) cl_X6 rfl rfl lf_X6_116 dX6_undo_52 (HPg_21 s o) rfl (pc' := 55) rfl ?_
      refine A_imul C dX6_undo_55 (pc' := 56) rfl ?_
      refine A_iload_n C dX6_undo_56 rfl (pc' := 57) rfl ?_
      refine A_iadd C dX6_undo_57 (pc' := 58) rfl ?_
      obtain ⟨h9, hF⟩ := grd_some hF
      refine A_iald C (HPg_36 s o) (ixb_in h9) dX6_undo_58 (pc' := 59) rfl ?_
      obtain ⟨h10, hF⟩ := grd_some hF
      obtain ⟨s11, e12, hF⟩ := bnd_some hF
      refine A_iast C (h1 := HP s11 o) (HPg_30 s o) (ixb_in h10) (by rw [e12]; exact HPs_30 s o _) dX6_undo_59 (pc' := 60) rfl ?_
      refine A_aload_n C dX6_undo_60 rfl (pc' := 61) rfl ?_
      refine A_get C (j := 13) cl_X6 rfl rfl lf_X6_37 dX6_undo_61 (HPg_21 s11 o) rfl (pc' := 64) rfl ?_
      refine A_iload_n C dX6_undo_64 rfl (pc' := 65) rfl ?_
      refine A_aload_n C dX6_undo_65 rfl (pc' := 66) rfl ?_
      refine A_get C (j := 20) cl_X6 rfl rfl lf_X6_56 dX6_undo_66 (HPg_21 s11 o) rfl (pc' := 69) rfl ?_
      refine A_bipush C (x := 64) dX6_undo_69 (by decide) (pc' := 71) rfl ?_
      refine A_aload_n C dX6_undo_71 rfl (pc' := 72) rfl ?_
      refine A_get C (j := 21) cl_X6 rfl rfl lf_X6_116 dX6_undo_72 (HPg_21 s11 o) rfl (pc' := 75) rfl ?_
      refine A_imul C dX6_undo_75 (pc' := 76) rfl ?_
      refine A_iload_n C dX6_undo_76 rfl (pc' := 77) rfl ?_
      refine A_iadd C dX6_undo_77 (pc' := 78) rfl ?_
      obtain ⟨h13, hF⟩ := grd_some hF
      refine A_iald C (HPg_37 s11 o) (ixb_in h13) dX6_undo_78 (pc' := 79) rfl ?_
      obtain ⟨h14, hF⟩ := grd_some hF
      obtain ⟨s15, e16, hF⟩ := bnd_some hF
      refine A_iast C (h1 := HP s15 o) (HPg_31 s11 o) (ixb_in h14) (by rw [e16]; exact HPs_31 s11 o _) dX6_undo_79 (pc' := 80) rfl ?_
      obtain ⟨x17, e18, hF⟩ := bnd_some hF
      refine A_iinc C (lv' := [some (.ref 21), some (.int x17)]) dX6_undo_80 rfl (by rw [e18]; rfl) rfl eN rfl rfl (pc' := 83) rfl ?_
      refine A_goto C dX6_undo_83 (tgt := 34) (by decide) ?_
      refine A_mask [true, true] (lv' := [some (.ref 21), some (.int x17)]) rfl ?_
      exact ih x17 s15 q hF hexit
set_option maxHeartbeats 4000000 in
set_option maxRecDepth 100000 in
theorem F_X6_undo_ok {u : Uv} (hu : Un u) {s : Sg} {o : Nat → Int64} {r : (Int32 × Sg)} (hF : F_X6_undo  s = some r) : AM u (yX6_undo, cX6_undo, 2, (some .int)) 1 0 0 [.ref 21] (HP s o) (some (.int r.1)) (HP r.2 o) := by
  refine AM.of hu (lv := [some (.ref 21), none]) (by decide) rfl (Nat.le_of_ble_eq_true rfl) rfl ?_
  intro Γ eu eN C T
  subst eu
  have C : Cok Γ cX6_undo RX6 (some .int) 1 0 0 := C
  unfold F_X6_undo at hF
  obtain ⟨J13, eJ13, hF⟩ := jn_some hF
  have hJ13 : ∀ (y1 : Int32) (s2 : Sg), J13 y1 s2 = some r → AW Γ (HP s2 o) 0 0 [some (.ref 21), none] [.int y1, .ref 21] 13 := by
    intro y1 s2 hF
    rw [eJ13] at hF
    dsimp only at hF
    refine A_iconst C (x := 0) dX6_undo_13 (by decide) (pc' := 14) rfl ?_
    obtain ⟨q3, h4, hF⟩ := Option.bind_eq_some_iff.mp hF
    refine A_callV C (av := [.int y1, .int (0 : Int32)]) (rest := []) (st2 := [.int q3.1]) (k2 := 0) (n2 := 0) (F_X6_throwing_ok hu h4) mk_X6_throwing lm_X6_90 wi_X6_throwing wv_X6_throwing (HPg_21 s2 o) rfl rfl rfl rfl ⟨by decide, by decide⟩ (Nat.le_of_ble_eq_true rfl) rfl rfl dX6_undo_14 rfl rfl rfl (pc' := 17) rfl ?_
    refine A_if_eq C dX6_undo_17 (tgt := 22) (by decide) (pc' := 20) rfl (fun c5 => ?_) (fun c5 => ?_)
    · rw [if_pos c5] at hF
      refine A_aload_n C dX6_undo_22 rfl (pc' := 23) rfl ?_
      refine A_dup C dX6_undo_23 rfl (pc' := 24) rfl ?_
      refine A_get C (j := 21) cl_X6 rfl rfl lf_X6_116 dX6_undo_24 (HPg_21 q3.2 o) rfl (pc' := 27) rfl ?_
      refine A_iconst C (x := 1) dX6_undo_27 (by decide) (pc' := 28) rfl ?_
      refine A_isub C dX6_undo_28 (pc' := 29) rfl ?_
      obtain ⟨s6, e7, hF⟩ := bnd_some hF
      refine A_put C (j := 21) (h1 := HP s6 o) tyX6 tyX6_ok nmX6 cl_X6 rfl rfl lf_X6_116 rfl (tyX6_ok 21 (by decide)) (fun _ => rfl) (fun _ => rfl) rfl dX6_undo_29 (HPg_21 q3.2 o) (by rw [e7]; exact HPp_21_21 q3.2 o _) (pc' := 32) rfl ?_
      refine A_iconst C (x := 0) dX6_undo_32 (by decide) (pc' := 33) rfl ?_
      refine A_istore_n C (lv' := [some (.ref 21), some (.int (0 : Int32))]) dX6_undo_33 rfl eN rfl rfl (pc' := 34) rfl ?_
      obtain ⟨q19, h20, hF⟩ := Option.bind_eq_some_iff.mp hF
      refine A_mask [true, true] (lv' := [some (.ref 21), some (.int (0 : Int32))]) rfl ?_
      refine L_X6_undo_34_ok hu eN C FU (0 : Int32) s6 q19 h20 ?_
      refine A_aload_n C dX6_undo_86 rfl (pc' := 87) rfl ?_
      refine A_get C (j := 21) cl_X6 rfl rfl lf_X6_116 dX6_undo_87 (HPg_21 q19 o) rfl (pc' := 90) rfl ?_
      cases hF
      exact A_iret C T (Nat.le_refl _) (Nat.le_refl _) dX6_undo_90
    · rw [if_neg c5] at hF
      refine A_iconst C (x := 0) dX6_undo_20 (by decide) (pc' := 21) rfl ?_
      cases hF
      exact A_iret C T (Nat.le_refl _) (Nat.le_refl _) dX6_undo_21
  clear eJ13
  refine A_aload_n C dX6_undo_0 rfl (pc' := 1) rfl ?_
  refine A_aload_n C dX6_undo_1 rfl (pc' := 2) rfl ?_
  refine A_get C (j := 21) cl_X6 rfl rfl lf_X6_116 dX6_undo_2 (HPg_21 s o) rfl (pc' := 5) rfl ?_
  refine A_if_ne C dX6_undo_5 (tgt := 12) (by decide) (pc' := 8) rfl (fun c21 => ?_) (fun c21 => ?_)
  · rw [if_neg c21] at hF
    refine A_iconst C (x := 0) dX6_undo_12 (by decide) (pc' := 13) rfl ?_
    refine A_mask [true, false] (lv' := [some (.ref 21), none]) rfl ?_
    exact hJ13 (0 : Int32) s hF
  · rw [if_pos c21] at hF
    refine A_iconst C (x := 1) dX6_undo_8 (by decide) (pc' := 9) rfl ?_
    refine A_goto C dX6_undo_9 (tgt := 13) (by decide) ?_
    refine A_mask [true, false] (lv' := [some (.ref 21), none]) rfl ?_
    exact hJ13 (1 : Int32) s hF
def F_X6_isItem (a0 : Int32) (a1 : Int32) (s : Sg) : Option Int32 :=
  (F_X6_in a0 (0 : Int32) ((s 2204 0) - (1 : Int32)) s).bind fun q1 =>
  if q1 = 0 then
    some (0 : Int32)
  else
    grd (ixb a0 16 = true) <|
    (F_X6_in a1 (0 : Int32) ((s 28 a0.toNatClampNeg) - (1 : Int32)) s).bind fun q5 =>
    if q5 = 0 then
      some (0 : Int32)
    else
      some (1 : Int32)
set_option maxHeartbeats 4000000 in
set_option maxRecDepth 100000 in
theorem F_X6_isItem_ok {u : Uv} (hu : Un u) {a0 a1 : Int32} {s : Sg} {o : Nat → Int64} {r : Int32} (hF : F_X6_isItem a0 a1 s = some r) : AM u (yX6_isItem, cX6_isItem, 3, (some .boolean)) 1 0 0 [.ref 21, .int a0, .int a1] (HP s o) (some (.int r)) (HP s o) := by
  refine AM.of hu (lv := [some (.ref 21), some (.int a0), some (.int a1)]) (by decide) rfl (Nat.le_of_ble_eq_true rfl) rfl ?_
  intro Γ eu eN C T
  subst eu
  have C : Cok Γ cX6_isItem RX6 (some .boolean) 1 0 0 := C
  unfold F_X6_isItem at hF
  refine A_iload_n C dX6_isItem_0 rfl (pc' := 1) rfl ?_
  refine A_iconst C (x := 0) dX6_isItem_1 (by decide) (pc' := 2) rfl ?_
  refine A_aload_n C dX6_isItem_2 rfl (pc' := 3) rfl ?_
  refine A_get C (j := 4) cl_X6 rfl rfl lf_X6_76 dX6_isItem_3 (HPg_21 s o) rfl (pc' := 6) rfl ?_
  refine A_iconst C (x := 1) dX6_isItem_6 (by decide) (pc' := 7) rfl ?_
  refine A_isub C dX6_isItem_7 (pc' := 8) rfl ?_
  obtain ⟨q1, h2, hF⟩ := Option.bind_eq_some_iff.mp hF
  refine A_callS C (av := [.int a0, .int (0 : Int32), .int ((s 2204 0) - (1 : Int32))]) (rest := []) (st2 := [.int q1]) (k2 := 0) (n2 := 0) (F_X6_in_ok hu h2) mk_X6_in lm_X6_72 ws_X6_in rfl rfl rfl ⟨by decide, by decide⟩ (Nat.le_of_ble_eq_true rfl) rfl rfl dX6_isItem_8 rfl rfl rfl (pc' := 11) rfl ?_
  refine A_if_eq C dX6_isItem_11 (tgt := 34) (by decide) (pc' := 14) rfl (fun c3 => ?_) (fun c3 => ?_)
  · rw [if_pos c3] at hF
    refine A_iconst C (x := 0) dX6_isItem_34 (by decide) (pc' := 35) rfl ?_
    cases hF
    exact A_zret C T (Or.inl rfl) (Nat.le_refl _) (Nat.le_refl _) dX6_isItem_35
  · rw [if_neg c3] at hF
    refine A_iload_n C dX6_isItem_14 rfl (pc' := 15) rfl ?_
    refine A_iconst C (x := 0) dX6_isItem_15 (by decide) (pc' := 16) rfl ?_
    refine A_aload_n C dX6_isItem_16 rfl (pc' := 17) rfl ?_
    refine A_get C (j := 10) cl_X6 rfl rfl lf_X6_28 dX6_isItem_17 (HPg_21 s o) rfl (pc' := 20) rfl ?_
    refine A_iload_n C dX6_isItem_20 rfl (pc' := 21) rfl ?_
    obtain ⟨h4, hF⟩ := grd_some hF
    refine A_iald C (HPg_28 s o) (ixb_in h4) dX6_isItem_21 (pc' := 22) rfl ?_
    refine A_iconst C (x := 1) dX6_isItem_22 (by decide) (pc' := 23) rfl ?_
    refine A_isub C dX6_isItem_23 (pc' := 24) rfl ?_
    obtain ⟨q5, h6, hF⟩ := Option.bind_eq_some_iff.mp hF
    refine A_callS C (av := [.int a1, .int (0 : Int32), .int ((s 28 a0.toNatClampNeg) - (1 : Int32))]) (rest := []) (st2 := [.int q5]) (k2 := 0) (n2 := 0) (F_X6_in_ok hu h6) mk_X6_in lm_X6_72 ws_X6_in rfl rfl rfl ⟨by decide, by decide⟩ (Nat.le_of_ble_eq_true rfl) rfl rfl dX6_isItem_24 rfl rfl rfl (pc' := 27) rfl ?_
    refine A_if_eq C dX6_isItem_27 (tgt := 34) (by decide) (pc' := 30) rfl (fun c7 => ?_) (fun c7 => ?_)
    · rw [if_pos c7] at hF
      refine A_iconst C (x := 0) dX6_isItem_34 (by decide) (pc' := 35) rfl ?_
      cases hF
      exact A_zret C T (Or.inl rfl) (Nat.le_refl _) (Nat.le_refl _) dX6_isItem_35
    · rw [if_neg c7] at hF
      refine A_iconst C (x := 1) dX6_isItem_30 (by decide) (pc' := 31) rfl ?_
      refine A_goto C dX6_isItem_31 (tgt := 35) (by decide) ?_
      cases hF
      exact A_zret C T (Or.inr rfl) (Nat.le_refl _) (Nat.le_refl _) dX6_isItem_35
def F_X6_isBlocked (a0 : Int32) (a1 : Int32) (a2 : Int32) (s : Sg) : Option Int32 :=
  grd (ixb ((((240 : Int32) * a0) + ((30 : Int32) * a1)) + a2) 660 = true) <|
  grd ((s 32 ((((240 : Int32) * a0) + ((30 : Int32) * a1)) + a2).toNatClampNeg) = 0 ∨ (s 32 ((((240 : Int32) * a0) + ((30 : Int32) * a1)) + a2).toNatClampNeg) = 1) <|
  some (s 32 ((((240 : Int32) * a0) + ((30 : Int32) * a1)) + a2).toNatClampNeg)
set_option maxHeartbeats 4000000 in
set_option maxRecDepth 100000 in
theorem F_X6_isBlocked_ok {u : Uv} (hu : Un u) {a0 a1 a2 : Int32} {s : Sg} {o : Nat → Int64} {r : Int32} (hF : F_X6_isBlocked a0 a1 a2 s = some r) : AM u (yX6_isBlocked, cX6_isBlocked, 4, (some .boolean)) 0 0 0 [.ref 21, .int a0, .int a1, .int a2] (HP s o) (some (.int r)) (HP s o) := by
  refine AM.of hu (lv := [some (.ref 21), some (.int a0), some (.int a1), some (.int a2)]) (by decide) rfl (Nat.le_of_ble_eq_true rfl) rfl ?_
  intro Γ eu eN C T
  subst eu
  have C : Cok Γ cX6_isBlocked RX6 (some .boolean) 0 0 0 := C
  unfold F_X6_isBlocked at hF
  refine A_aload_n C dX6_isBlocked_0 rfl (pc' := 1) rfl ?_
  refine A_get C (j := 14) cl_X6 rfl rfl lf_X6_40 dX6_isBlocked_1 (HPg_21 s o) rfl (pc' := 4) rfl ?_
  refine A_sipush C (x := 240) dX6_isBlocked_4 (by decide) (pc' := 7) rfl ?_
  refine A_iload_n C dX6_isBlocked_7 rfl (pc' := 8) rfl ?_
  refine A_imul C dX6_isBlocked_8 (pc' := 9) rfl ?_
  refine A_bipush C (x := 30) dX6_isBlocked_9 (by decide) (pc' := 11) rfl ?_
  refine A_iload_n C dX6_isBlocked_11 rfl (pc' := 12) rfl ?_
  refine A_imul C dX6_isBlocked_12 (pc' := 13) rfl ?_
  refine A_iadd C dX6_isBlocked_13 (pc' := 14) rfl ?_
  refine A_iload_n C dX6_isBlocked_14 rfl (pc' := 15) rfl ?_
  refine A_iadd C dX6_isBlocked_15 (pc' := 16) rfl ?_
  obtain ⟨h1, hF⟩ := grd_some hF
  refine A_zald C (HPg_32 s o) (ixb_in h1) dX6_isBlocked_16 (pc' := 17) rfl ?_
  obtain ⟨h2, hF⟩ := grd_some hF
  cases hF
  exact A_zret C T h2 (Nat.le_refl _) (Nat.le_refl _) dX6_isBlocked_17
def L_X6_anyBlocked_6 : Nat → Int32 → Int32 → Int32 → Int32 → Int32 → Int32 → Sg → Option (Int32)
  | 0, _, _, _, _, _, _, _ => none
  | fu + 1, b1, b2, b3, b4, b5, b6, s =>
    if b4 ≤ b6 then
      some b5
    else
      if b5 = 0 then
        (F_X6_isBlocked b1 b2 (b3 + b6) s).bind fun q5 =>
        if q5 = 0 then
          bnd (b6 + (1 : Int32)) fun x8 =>
          L_X6_anyBlocked_6 fu b1 b2 b3 b4 (0 : Int32) x8 s
        else
          bnd (b6 + (1 : Int32)) fun x10 =>
          L_X6_anyBlocked_6 fu b1 b2 b3 b4 (1 : Int32) x10 s
      else
        bnd (b6 + (1 : Int32)) fun x3 =>
        L_X6_anyBlocked_6 fu b1 b2 b3 b4 (1 : Int32) x3 s
def F_X6_anyBlocked (a0 : Int32) (a1 : Int32) (a2 : Int32) (a3 : Int32) (s : Sg) : Option Int32 :=
  (L_X6_anyBlocked_6 FU a0 a1 a2 a3 (0 : Int32) (0 : Int32) s).bind fun q12 =>
  grd (q12 = 0 ∨ q12 = 1) <|
  some q12
set_option maxHeartbeats 4000000 in
set_option maxRecDepth 100000 in
theorem L_X6_anyBlocked_6_ok {Γ : Cx} (hu : Un Γ.2.1) (eN : 7 = Γ.2.2.2.2.2) (C : Cok Γ cX6_anyBlocked RX6 (some .boolean) 1 0 0) {o : Nat → Int64} : ∀ (fu : Nat) (b1 : Int32) (b2 : Int32) (b3 : Int32) (b4 : Int32) (b5 : Int32) (b6 : Int32) (s : Sg) (q : (Int32)), L_X6_anyBlocked_6 fu b1 b2 b3 b4 b5 b6 s = some q → AW Γ (HP s o) 0 0 [none, none, none, none, none, some (.int q), none] [] 44 → AW Γ (HP s o) 0 0 [some (.ref 21), some (.int b1), some (.int b2), some (.int b3), some (.int b4), some (.int b5), some (.int b6)] [] 6 := by
  intro fu
  induction fu with
  | zero => intro b1 b2 b3 b4 b5 b6 s q hF; rw [L_X6_anyBlocked_6] at hF; cases hF
  | succ fu ih =>
    intro b1 b2 b3 b4 b5 b6 s q hF hexit
    rw [L_X6_anyBlocked_6] at hF
    refine A_iload C dX6_anyBlocked_6 rfl (pc' := 8) rfl ?_
    refine A_iload C dX6_anyBlocked_8 rfl (pc' := 10) rfl ?_
    refine A_icmp_ge C dX6_anyBlocked_10 (tgt := 44) (by decide) (pc' := 13) rfl (fun c1 => ?_) (fun c1 => ?_)
    · rw [if_pos c1] at hF
      cases hF
      refine A_mask [false, false, false, false, false, true, false] (lv' := [none, none, none, none, none, some (.int b5), none]) rfl ?_
      exact hexit
    · rw [if_neg c1] at hF
      refine A_iload C dX6_anyBlocked_13 rfl (pc' := 15) rfl ?_
      refine A_if_ne C dX6_anyBlocked_15 (tgt := 31) (by decide) (pc' := 18) rfl (fun c2 => ?_) (fun c2 => ?_)
      · rw [if_neg c2] at hF
        refine A_iconst C (x := 1) dX6_anyBlocked_31 (by decide) (pc' := 32) rfl ?_
        refine A_goto C dX6_anyBlocked_32 (tgt := 36) (by decide) ?_
        refine A_istore C (lv' := [some (.ref 21), some (.int b1), some (.int b2), some (.int b3), some (.int b4), some (.int (1 : Int32)), some (.int b6)]) dX6_anyBlocked_36 rfl eN rfl rfl (pc' := 38) rfl ?_
        obtain ⟨x3, e4, hF⟩ := bnd_some hF
        refine A_iinc C (lv' := [some (.ref 21), some (.int b1), some (.int b2), some (.int b3), some (.int b4), some (.int (1 : Int32)), some (.int x3)]) dX6_anyBlocked_38 rfl (by rw [e4]; rfl) rfl eN rfl rfl (pc' := 41) rfl ?_
        refine A_goto C dX6_anyBlocked_41 (tgt := 6) (by decide) ?_
        refine A_mask [true, true, true, true, true, true, true] (lv' := [some (.ref 21), some (.int b1), some (.int b2), some (.int b3), some (.int b4), some (.int (1 : Int32)), some (.int x3)]) rfl ?_
        exact ih b1 b2 b3 b4 (1 : Int32) x3 s q hF hexit
      · rw [if_pos c2] at hF
        refine A_aload_n C dX6_anyBlocked_18 rfl (pc' := 19) rfl ?_
        refine A_iload_n C dX6_anyBlocked_19 rfl (pc' := 20) rfl ?_
        refine A_iload_n C dX6_anyBlocked_20 rfl (pc' := 21) rfl ?_
        refine A_iload_n C dX6_anyBlocked_21 rfl (pc' := 22) rfl ?_
        refine A_iload C dX6_anyBlocked_22 rfl (pc' := 24) rfl ?_
        refine A_iadd C dX6_anyBlocked_24 (pc' := 25) rfl ?_
        obtain ⟨q5, h6, hF⟩ := Option.bind_eq_some_iff.mp hF
        refine A_callV C (av := [.int b1, .int b2, .int (b3 + b6)]) (rest := []) (st2 := [.int q5]) (k2 := 0) (n2 := 0) (F_X6_isBlocked_ok hu h6) mk_X6_isBlocked lm_X6_102 wi_X6_isBlocked wv_X6_isBlocked (HPg_21 s o) rfl rfl rfl rfl ⟨by decide, by decide⟩ (Nat.le_of_ble_eq_true rfl) rfl rfl dX6_anyBlocked_25 rfl rfl rfl (pc' := 28) rfl ?_
        refine A_if_eq C dX6_anyBlocked_28 (tgt := 35) (by decide) (pc' := 31) rfl (fun c7 => ?_) (fun c7 => ?_)
        · rw [if_pos c7] at hF
          refine A_iconst C (x := 0) dX6_anyBlocked_35 (by decide) (pc' := 36) rfl ?_
          refine A_istore C (lv' := [some (.ref 21), some (.int b1), some (.int b2), some (.int b3), some (.int b4), some (.int (0 : Int32)), some (.int b6)]) dX6_anyBlocked_36 rfl eN rfl rfl (pc' := 38) rfl ?_
          obtain ⟨x8, e9, hF⟩ := bnd_some hF
          refine A_iinc C (lv' := [some (.ref 21), some (.int b1), some (.int b2), some (.int b3), some (.int b4), some (.int (0 : Int32)), some (.int x8)]) dX6_anyBlocked_38 rfl (by rw [e9]; rfl) rfl eN rfl rfl (pc' := 41) rfl ?_
          refine A_goto C dX6_anyBlocked_41 (tgt := 6) (by decide) ?_
          refine A_mask [true, true, true, true, true, true, true] (lv' := [some (.ref 21), some (.int b1), some (.int b2), some (.int b3), some (.int b4), some (.int (0 : Int32)), some (.int x8)]) rfl ?_
          exact ih b1 b2 b3 b4 (0 : Int32) x8 s q hF hexit
        · rw [if_neg c7] at hF
          refine A_iconst C (x := 1) dX6_anyBlocked_31 (by decide) (pc' := 32) rfl ?_
          refine A_goto C dX6_anyBlocked_32 (tgt := 36) (by decide) ?_
          refine A_istore C (lv' := [some (.ref 21), some (.int b1), some (.int b2), some (.int b3), some (.int b4), some (.int (1 : Int32)), some (.int b6)]) dX6_anyBlocked_36 rfl eN rfl rfl (pc' := 38) rfl ?_
          obtain ⟨x10, e11, hF⟩ := bnd_some hF
          refine A_iinc C (lv' := [some (.ref 21), some (.int b1), some (.int b2), some (.int b3), some (.int b4), some (.int (1 : Int32)), some (.int x10)]) dX6_anyBlocked_38 rfl (by rw [e11]; rfl) rfl eN rfl rfl (pc' := 41) rfl ?_
          refine A_goto C dX6_anyBlocked_41 (tgt := 6) (by decide) ?_
          refine A_mask [true, true, true, true, true, true, true] (lv' := [some (.ref 21), some (.int b1), some (.int b2), some (.int b3), some (.int b4), some (.int (1 : Int32)), some (.int x10)]) rfl ?_
          exact ih b1 b2 b3 b4 (1 : Int32) x10 s q hF hexit
set_option maxHeartbeats 4000000 in
set_option maxRecDepth 100000 in
theorem F_X6_anyBlocked_ok {u : Uv} (hu : Un u) {a0 a1 a2 a3 : Int32} {s : Sg} {o : Nat → Int64} {r : Int32} (hF : F_X6_anyBlocked a0 a1 a2 a3 s = some r) : AM u (yX6_anyBlocked, cX6_anyBlocked, 7, (some .boolean)) 1 0 0 [.ref 21, .int a0, .int a1, .int a2, .int a3] (HP s o) (some (.int r)) (HP s o) := by
  refine AM.of hu (lv := [some (.ref 21), some (.int a0), some (.int a1), some (.int a2), some (.int a3), none, none]) (by decide) rfl (Nat.le_of_ble_eq_true rfl) rfl ?_
  intro Γ eu eN C T
  subst eu
  have C : Cok Γ cX6_anyBlocked RX6 (some .boolean) 1 0 0 := C
  unfold F_X6_anyBlocked at hF
  refine A_iconst C (x := 0) dX6_anyBlocked_0 (by decide) (pc' := 1) rfl ?_
  refine A_istore C (lv' := [some (.ref 21), some (.int a0), some (.int a1), some (.int a2), some (.int a3), some (.int (0 : Int32)), none]) dX6_anyBlocked_1 rfl eN rfl rfl (pc' := 3) rfl ?_
  refine A_iconst C (x := 0) dX6_anyBlocked_3 (by decide) (pc' := 4) rfl ?_
  refine A_istore C (lv' := [some (.ref 21), some (.int a0), some (.int a1), some (.int a2), some (.int a3), some (.int (0 : Int32)), some (.int (0 : Int32))]) dX6_anyBlocked_4 rfl eN rfl rfl (pc' := 6) rfl ?_
  obtain ⟨q12, h13, hF⟩ := Option.bind_eq_some_iff.mp hF
  refine A_mask [true, true, true, true, true, true, true] (lv' := [some (.ref 21), some (.int a0), some (.int a1), some (.int a2), some (.int a3), some (.int (0 : Int32)), some (.int (0 : Int32))]) rfl ?_
  refine L_X6_anyBlocked_6_ok hu eN C FU a0 a1 a2 a3 (0 : Int32) (0 : Int32) s q12 h13 ?_
  refine A_iload C dX6_anyBlocked_44 rfl (pc' := 46) rfl ?_
  obtain ⟨h14, hF⟩ := grd_some hF
  cases hF
  exact A_zret C T h14 (Nat.le_refl _) (Nat.le_refl _) dX6_anyBlocked_46
def L_X6_anyItem_6 : Nat → Int32 → Int32 → Int32 → Int32 → Int32 → Int32 → Sg → Option (Int32)
  | 0, _, _, _, _, _, _, _ => none
  | fu + 1, b1, b2, b3, b4, b5, b6, s =>
    if b4 ≤ b6 then
      some b5
    else
      if b5 = 0 then
        (F_X6_itemAt b1 b2 (b3 + b6) s).bind fun q5 =>
        if q5 < 0 then
          bnd (b6 + (1 : Int32)) fun x8 =>
          L_X6_anyItem_6 fu b1 b2 b3 b4 (0 : Int32) x8 s
        else
          bnd (b6 + (1 : Int32)) fun x10 =>
          L_X6_anyItem_6 fu b1 b2 b3 b4 (1 : Int32) x10 s
      else
        bnd (b6 + (1 : Int32)) fun x3 =>
        L_X6_anyItem_6 fu b1 b2 b3 b4 (1 : Int32) x3 s
def F_X6_anyItem (a0 : Int32) (a1 : Int32) (a2 : Int32) (a3 : Int32) (s : Sg) : Option Int32 :=
  (L_X6_anyItem_6 FU a0 a1 a2 a3 (0 : Int32) (0 : Int32) s).bind fun q12 =>
  grd (q12 = 0 ∨ q12 = 1) <|
  some q12
set_option maxHeartbeats 4000000 in
set_option maxRecDepth 100000 in
theorem L_X6_anyItem_6_ok {Γ : Cx} (hu : Un Γ.2.1) (eN : 7 = Γ.2.2.2.2.2) (C : Cok Γ cX6_anyItem RX6 (some .boolean) 3 0 0) {o : Nat → Int64} : ∀ (fu : Nat) (b1 : Int32) (b2 : Int32) (b3 : Int32) (b4 : Int32) (b5 : Int32) (b6 : Int32) (s : Sg) (q : (Int32)), L_X6_anyItem_6 fu b1 b2 b3 b4 b5 b6 s = some q → AW Γ (HP s o) 0 0 [none, none, none, none, none, some (.int q), none] [] 44 → AW Γ (HP s o) 0 0 [some (.ref 21), some (.int b1), some (.int b2), some (.int b3), some (.int b4), some (.int b5), some (.int b6)] [] 6 := by
  intro fu
  induction fu with
  | zero => intro b1 b2 b3 b4 b5 b6 s q hF; rw [L_X6_anyItem_6] at hF; cases hF
  | succ fu ih =>
    intro b1 b2 b3 b4 b5 b6 s q hF hexit
    rw [L_X6_anyItem_6] at hF
    refine A_iload C dX6_anyItem_6 rfl (pc' := 8) rfl ?_
    refine A_iload C dX6_anyItem_8 rfl (pc' := 10) rfl ?_
    refine A_icmp_ge C dX6_anyItem_10 (tgt := 44) (by decide) (pc' := 13) rfl (fun c1 => ?_) (fun c1 => ?_)
    · rw [if_pos c1] at hF
      cases hF
      refine A_mask [false, false, false, false, false, true, false] (lv' := [none, none, none, none, none, some (.int b5), none]) rfl ?_
      exact hexit
    · rw [if_neg c1] at hF
      refine A_iload C dX6_anyItem_13 rfl (pc' := 15) rfl ?_
      refine A_if_ne C dX6_anyItem_15 (tgt := 31) (by decide) (pc' := 18) rfl (fun c2 => ?_) (fun c2 => ?_)
      · rw [if_neg c2] at hF
        refine A_iconst C (x := 1) dX6_anyItem_31 (by decide) (pc' := 32) rfl ?_
        refine A_goto C dX6_anyItem_32 (tgt := 36) (by decide) ?_
        refine A_istore C (lv' := [some (.ref 21), some (.int b1), some (.int b2), some (.int b3), some (.int b4), some (.int (1 : Int32)), some (.int b6)]) dX6_anyItem_36 rfl eN rfl rfl (pc' := 38) rfl ?_
        obtain ⟨x3, e4, hF⟩ := bnd_some hF
        refine A_iinc C (lv' := [some (.ref 21), some (.int b1), some (.int b2), some (.int b3), some (.int b4), some (.int (1 : Int32)), some (.int x3)]) dX6_anyItem_38 rfl (by rw [e4]; rfl) rfl eN rfl rfl (pc' := 41) rfl ?_
        refine A_goto C dX6_anyItem_41 (tgt := 6) (by decide) ?_
        refine A_mask [true, true, true, true, true, true, true] (lv' := [some (.ref 21), some (.int b1), some (.int b2), some (.int b3), some (.int b4), some (.int (1 : Int32)), some (.int x3)]) rfl ?_
        exact ih b1 b2 b3 b4 (1 : Int32) x3 s q hF hexit
      · rw [if_pos c2] at hF
        refine A_aload_n C dX6_anyItem_18 rfl (pc' := 19) rfl ?_
        refine A_iload_n C dX6_anyItem_19 rfl (pc' := 20) rfl ?_
        refine A_iload_n C dX6_anyItem_20 rfl (pc' := 21) rfl ?_
        refine A_iload_n C dX6_anyItem_21 rfl (pc' := 22) rfl ?_
        refine A_iload C dX6_anyItem_22 rfl (pc' := 24) rfl ?_
        refine A_iadd C dX6_anyItem_24 (pc' := 25) rfl ?_
        obtain ⟨q5, h6, hF⟩ := Option.bind_eq_some_iff.mp hF
        refine A_callV C (av := [.int b1, .int b2, .int (b3 + b6)]) (rest := []) (st2 := [.int q5]) (k2 := 0) (n2 := 0) (F_X6_itemAt_ok hu h6) mk_X6_itemAt lm_X6_98 wi_X6_itemAt wv_X6_itemAt (HPg_21 s o) rfl rfl rfl rfl ⟨by decide, by decide⟩ (Nat.le_of_ble_eq_true rfl) rfl rfl dX6_anyItem_25 rfl rfl rfl (pc' := 28) rfl ?_
        refine A_if_lt C dX6_anyItem_28 (tgt := 35) (by decide) (pc' := 31) rfl (fun c7 => ?_) (fun c7 => ?_)
        · rw [if_pos c7] at hF
          refine A_iconst C (x := 0) dX6_anyItem_35 (by decide) (pc' := 36) rfl ?_
          refine A_istore C (lv' := [some (.ref 21), some (.int b1), some (.int b2), some (.int b3), some (.int b4), some (.int (0 : Int32)), some (.int b6)]) dX6_anyItem_36 rfl eN rfl rfl (pc' := 38) rfl ?_
          obtain ⟨x8, e9, hF⟩ := bnd_some hF
          refine A_iinc C (lv' := [some (.ref 21), some (.int b1), some (.int b2), some (.int b3), some (.int b4), some (.int (0 : Int32)), some (.int x8)]) dX6_anyItem_38 rfl (by rw [e9]; rfl) rfl eN rfl rfl (pc' := 41) rfl ?_
          refine A_goto C dX6_anyItem_41 (tgt := 6) (by decide) ?_
          refine A_mask [true, true, true, true, true, true, true] (lv' := [some (.ref 21), some (.int b1), some (.int b2), some (.int b3), some (.int b4), some (.int (0 : Int32)), some (.int x8)]) rfl ?_
          exact ih b1 b2 b3 b4 (0 : Int32) x8 s q hF hexit
        · rw [if_neg c7] at hF
          refine A_iconst C (x := 1) dX6_anyItem_31 (by decide) (pc' := 32) rfl ?_
          refine A_goto C dX6_anyItem_32 (tgt := 36) (by decide) ?_
          refine A_istore C (lv' := [some (.ref 21), some (.int b1), some (.int b2), some (.int b3), some (.int b4), some (.int (1 : Int32)), some (.int b6)]) dX6_anyItem_36 rfl eN rfl rfl (pc' := 38) rfl ?_
          obtain ⟨x10, e11, hF⟩ := bnd_some hF
          refine A_iinc C (lv' := [some (.ref 21), some (.int b1), some (.int b2), some (.int b3), some (.int b4), some (.int (1 : Int32)), some (.int x10)]) dX6_anyItem_38 rfl (by rw [e11]; rfl) rfl eN rfl rfl (pc' := 41) rfl ?_
          refine A_goto C dX6_anyItem_41 (tgt := 6) (by decide) ?_
          refine A_mask [true, true, true, true, true, true, true] (lv' := [some (.ref 21), some (.int b1), some (.int b2), some (.int b3), some (.int b4), some (.int (1 : Int32)), some (.int x10)]) rfl ?_
          exact ih b1 b2 b3 b4 (1 : Int32) x10 s q hF hexit
set_option maxHeartbeats 4000000 in
set_option maxRecDepth 100000 in
theorem F_X6_anyItem_ok {u : Uv} (hu : Un u) {a0 a1 a2 a3 : Int32} {s : Sg} {o : Nat → Int64} {r : Int32} (hF : F_X6_anyItem a0 a1 a2 a3 s = some r) : AM u (yX6_anyItem, cX6_anyItem, 7, (some .boolean)) 3 0 0 [.ref 21, .int a0, .int a1, .int a2, .int a3] (HP s o) (some (.int r)) (HP s o) := by
  refine AM.of hu (lv := [some (.ref 21), some (.int a0), some (.int a1), some (.int a2), some (.int a3), none, none]) (by decide) rfl (Nat.le_of_ble_eq_true rfl) rfl ?_
  intro Γ eu eN C T
  subst eu
  have C : Cok Γ cX6_anyItem RX6 (some .boolean) 3 0 0 := C
  unfold F_X6_anyItem at hF
  refine A_iconst C (x := 0) dX6_anyItem_0 (by decide) (pc' := 1) rfl ?_
  refine A_istore C (lv' := [some (.ref 21), some (.int a0), some (.int a1), some (.int a2), some (.int a3), some (.int (0 : Int32)), none]) dX6_anyItem_1 rfl eN rfl rfl (pc' := 3) rfl ?_
  refine A_iconst C (x := 0) dX6_anyItem_3 (by decide) (pc' := 4) rfl ?_
  refine A_istore C (lv' := [some (.ref 21), some (.int a0), some (.int a1), some (.int a2), some (.int a3), some (.int (0 : Int32)), some (.int (0 : Int32))]) dX6_anyItem_4 rfl eN rfl rfl (pc' := 6) rfl ?_
  obtain ⟨q12, h13, hF⟩ := Option.bind_eq_some_iff.mp hF
  refine A_mask [true, true, true, true, true, true, true] (lv' := [some (.ref 21), some (.int a0), some (.int a1), some (.int a2), some (.int a3), some (.int (0 : Int32)), some (.int (0 : Int32))]) rfl ?_
  refine L_X6_anyItem_6_ok hu eN C FU a0 a1 a2 a3 (0 : Int32) (0 : Int32) s q12 h13 ?_
  refine A_iload C dX6_anyItem_44 rfl (pc' := 46) rfl ?_
  obtain ⟨h14, hF⟩ := grd_some hF
  cases hF
  exact A_zret C T h14 (Nat.le_refl _) (Nat.le_refl _) dX6_anyItem_46
def L_X6_freeRoom_2 : Nat → Int32 → Int32 → Int32 → Sg → Option (Int32 ⊕ (Unit))
  | 0, _, _, _, _ => none
  | fu + 1, b1, b2, b3, s =>
    if (6 : Int32) ≤ b3 then
      some (.inr ())
    else
      grd (ixb b3 6 = true) <|
      grd (ixb b1 16 = true) <|
      if (s 22 b3.toNatClampNeg) = (s 26 b1.toNatClampNeg) then
        grd (ixb b1 16 = true) <|
        (F_X6_anyBlocked (2 : Int32) b3 b2 (s 27 b1.toNatClampNeg) s).bind fun q8 =>
        if q8 = 0 then
          grd (ixb b1 16 = true) <|
          (F_X6_anyItem (2 : Int32) b3 b2 (s 27 b1.toNatClampNeg) s).bind fun q14 =>
          if q14 = 0 then
            some (.inl b3)
          else
            bnd (b3 + (1 : Int32)) fun x17 =>
            L_X6_freeRoom_2 fu b1 b2 x17 s
        else
          bnd (b3 + (1 : Int32)) fun x11 =>
          L_X6_freeRoom_2 fu b1 b2 x11 s
      else
        bnd (b3 + (1 : Int32)) fun x5 =>
        L_X6_freeRoom_2 fu b1 b2 x5 s
def F_X6_freeRoom (a0 : Int32) (a1 : Int32) (s : Sg) : Option Int32 :=
  (L_X6_freeRoom_2 FU a0 a1 (0 : Int32) s).bind fun q19 => match q19 with
  | .inl v21 => some v21
  | .inr t22 =>
  some (-1 : Int32)
set_option maxHeartbeats 4000000 in
set_option maxRecDepth 100000 in
theorem L_X6_freeRoom_2_ok {Γ : Cx} (hu : Un Γ.2.1) (eN : 4 = Γ.2.2.2.2.2) (C : Cok Γ cX6_freeRoom RX6 (some .int) 4 0 0) {o : Nat → Int64} : ∀ (fu : Nat) (b1 : Int32) (b2 : Int32) (b3 : Int32) (s : Sg) (q : (Int32 ⊕ (Unit))), L_X6_freeRoom_2 fu b1 b2 b3 s = some q → (∀ v, q = .inl v → Tgt Γ 0 0 (some (.int v)) (HP s o)) → (∀ t, q = .inr t → AW Γ (HP s o) 0 0 [none, none, none, none] [] 63) → AW Γ (HP s o) 0 0 [some (.ref 21), some (.int b1), some (.int b2), some (.int b3)] [] 2 := by
  intro fu
  induction fu with
  | zero => intro b1 b2 b3 s q hF; rw [L_X6_freeRoom_2] at hF; cases hF
  | succ fu ih =>
    intro b1 b2 b3 s q hF hret hexit
    rw [L_X6_freeRoom_2] at hF
    refine A_iload_n C dX6_freeRoom_2 rfl (pc' := 3) rfl ?_
    refine A_bipush C (x := 6) dX6_freeRoom_3 (by decide) (pc' := 5) rfl ?_
    refine A_icmp_ge C dX6_freeRoom_5 (tgt := 63) (by decide) (pc' := 8) rfl (fun c1 => ?_) (fun c1 => ?_)
    · rw [if_pos c1] at hF
      cases hF
      refine A_mask [false, false, false, false] (lv' := [none, none, none, none]) rfl ?_
      exact hexit () rfl
    · rw [if_neg c1] at hF
      refine A_aload_n C dX6_freeRoom_8 rfl (pc' := 9) rfl ?_
      refine A_get C (j := 3) cl_X6 rfl rfl lf_X6_7 dX6_freeRoom_9 (HPg_21 s o) rfl (pc' := 12) rfl ?_
      refine A_iload_n C dX6_freeRoom_12 rfl (pc' := 13) rfl ?_
      obtain ⟨h2, hF⟩ := grd_some hF
      refine A_iald C (HPg_22 s o) (ixb_in h2) dX6_freeRoom_13 (pc' := 14) rfl ?_
      refine A_aload_n C dX6_freeRoom_14 rfl (pc' := 15) rfl ?_
      refine A_get C (j := 8) cl_X6 rfl rfl lf_X6_22 dX6_freeRoom_15 (HPg_21 s o) rfl (pc' := 18) rfl ?_
      refine A_iload_n C dX6_freeRoom_18 rfl (pc' := 19) rfl ?_
      obtain ⟨h3, hF⟩ := grd_some hF
      refine A_iald C (HPg_26 s o) (ixb_in h3) dX6_freeRoom_19 (pc' := 20) rfl ?_
      refine A_icmp_ne C dX6_freeRoom_20 (tgt := 57) (by decide) (pc' := 23) rfl (fun c4 => ?_) (fun c4 => ?_)
      · rw [if_neg c4] at hF
        obtain ⟨x5, e6, hF⟩ := bnd_some hF
        refine A_iinc C (lv' := [some (.ref 21), some (.int b1), some (.int b2), some (.int x5)]) dX6_freeRoom_57 rfl (by rw [e6]; rfl) rfl eN rfl rfl (pc' := 60) rfl ?_
        refine A_goto C dX6_freeRoom_60 (tgt := 2) (by decide) ?_
        refine A_mask [true, true, true, true] (lv' := [some (.ref 21), some (.int b1), some (.int b2), some (.int x5)]) rfl ?_
        exact ih b1 b2 x5 s q hF hret hexit
      · rw [if_pos c4] at hF
        refine A_aload_n C dX6_freeRoom_23 rfl (pc' := 24) rfl ?_
        refine A_iconst C (x := 2) dX6_freeRoom_24 (by decide) (pc' := 25) rfl ?_
        refine A_iload_n C dX6_freeRoom_25 rfl (pc' := 26) rfl ?_
        refine A_iload_n C dX6_freeRoom_26 rfl (pc' := 27) rfl ?_
        refine A_aload_n C dX6_freeRoom_27 rfl (pc' := 28) rfl ?_
        refine A_get C (j := 9) cl_X6 rfl rfl lf_X6_25 dX6_freeRoom_28 (HPg_21 s o) rfl (pc' := 31) rfl ?_
        refine A_iload_n C dX6_freeRoom_31 rfl (pc' := 32) rfl ?_
        obtain ⟨h7, hF⟩ := grd_some hF
        refine A_iald C (HPg_27 s o) (ixb_in h7) dX6_freeRoom_32 (pc' := 33) rfl ?_
        obtain ⟨q8, h9, hF⟩ := Option.bind_eq_some_iff.mp hF
        refine A_callV C (av := [.int (2 : Int32), .int b3, .int b2, .int (s 27 b1.toNatClampNeg)]) (rest := []) (st2 := [.int q8]) (k2 := 0) (n2 := 0) (F_X6_anyBlocked_ok hu h9) mk_X6_anyBlocked lm_X6_105 wi_X6_anyBlocked wv_X6_anyBlocked (HPg_21 s o) rfl rfl rfl rfl ⟨by decide, by decide⟩ (Nat.le_of_ble_eq_true rfl) rfl rfl dX6_freeRoom_33 rfl rfl rfl (pc' := 36) rfl ?_
        refine A_if_ne C dX6_freeRoom_36 (tgt := 57) (by decide) (pc' := 39) rfl (fun c10 => ?_) (fun c10 => ?_)
        · rw [if_neg c10] at hF
          obtain ⟨x11, e12, hF⟩ := bnd_some hF
          refine A_iinc C (lv' := [some (.ref 21), some (.int b1), some (.int b2), some (.int x11)]) dX6_freeRoom_57 rfl (by rw [e12]; rfl) rfl eN rfl rfl (pc' := 60) rfl ?_
          refine A_goto C dX6_freeRoom_60 (tgt := 2) (by decide) ?_
          refine A_mask [true, true, true, true] (lv' := [some (.ref 21), some (.int b1), some (.int b2), some (.int x11)]) rfl ?_
          exact ih b1 b2 x11 s q hF hret hexit
        · rw [if_pos c10] at hF
          refine A_aload_n C dX6_freeRoom_39 rfl (pc' := 40) rfl ?_
          refine A_iconst C (x := 2) dX6_freeRoom_40 (by decide) (pc' := 41) rfl ?_
          refine A_iload_n C dX6_freeRoom_41 rfl (pc' := 42) rfl ?_
          refine A_iload_n C dX6_freeRoom_42 rfl (pc' := 43) rfl ?_
          refine A_aload_n C dX6_freeRoom_43 rfl (pc' := 44) rfl ?_
          refine A_get C (j := 9) cl_X6 rfl rfl lf_X6_25 dX6_freeRoom_44 (HPg_21 s o) rfl (pc' := 47) rfl ?_
          refine A_iload_n C dX6_freeRoom_47 rfl (pc' := 48) rfl ?_
          obtain ⟨h13, hF⟩ := grd_some hF
          refine A_iald C (HPg_27 s o) (ixb_in h13) dX6_freeRoom_48 (pc' := 49) rfl ?_
          obtain ⟨q14, h15, hF⟩ := Option.bind_eq_some_iff.mp hF
          refine A_callV C (av := [.int (2 : Int32), .int b3, .int b2, .int (s 27 b1.toNatClampNeg)]) (rest := []) (st2 := [.int q14]) (k2 := 0) (n2 := 0) (F_X6_anyItem_ok hu h15) mk_X6_anyItem lm_X6_109 wi_X6_anyItem wv_X6_anyItem (HPg_21 s o) rfl rfl rfl rfl ⟨by decide, by decide⟩ (Nat.le_of_ble_eq_true rfl) rfl rfl dX6_freeRoom_49 rfl rfl rfl (pc' := 52) rfl ?_
          refine A_if_ne C dX6_freeRoom_52 (tgt := 57) (by decide) (pc' := 55) rfl (fun c16 => ?_) (fun c16 => ?_)
          · rw [if_neg c16] at hF
            obtain ⟨x17, e18, hF⟩ := bnd_some hF
            refine A_iinc C (lv' := [some (.ref 21), some (.int b1), some (.int b2), some (.int x17)]) dX6_freeRoom_57 rfl (by rw [e18]; rfl) rfl eN rfl rfl (pc' := 60) rfl ?_
            refine A_goto C dX6_freeRoom_60 (tgt := 2) (by decide) ?_
            refine A_mask [true, true, true, true] (lv' := [some (.ref 21), some (.int b1), some (.int b2), some (.int x17)]) rfl ?_
            exact ih b1 b2 x17 s q hF hret hexit
          · rw [if_pos c16] at hF
            refine A_iload_n C dX6_freeRoom_55 rfl (pc' := 56) rfl ?_
            cases hF
            exact A_iret C (hret b3 rfl) (Nat.le_refl _) (Nat.le_refl _) dX6_freeRoom_56
set_option maxHeartbeats 4000000 in
set_option maxRecDepth 100000 in
theorem F_X6_freeRoom_ok {u : Uv} (hu : Un u) {a0 a1 : Int32} {s : Sg} {o : Nat → Int64} {r : Int32} (hF : F_X6_freeRoom a0 a1 s = some r) : AM u (yX6_freeRoom, cX6_freeRoom, 4, (some .int)) 4 0 0 [.ref 21, .int a0, .int a1] (HP s o) (some (.int r)) (HP s o) := by
  refine AM.of hu (lv := [some (.ref 21), some (.int a0), some (.int a1), none]) (by decide) rfl (Nat.le_of_ble_eq_true rfl) rfl ?_
  intro Γ eu eN C T
  subst eu
  have C : Cok Γ cX6_freeRoom RX6 (some .int) 4 0 0 := C
  unfold F_X6_freeRoom at hF
  refine A_iconst C (x := 0) dX6_freeRoom_0 (by decide) (pc' := 1) rfl ?_
  refine A_istore_n C (lv' := [some (.ref 21), some (.int a0), some (.int a1), some (.int (0 : Int32))]) dX6_freeRoom_1 rfl eN rfl rfl (pc' := 2) rfl ?_
  obtain ⟨q19, h20, hF⟩ := Option.bind_eq_some_iff.mp hF
  refine A_mask [true, true, true, true] (lv' := [some (.ref 21), some (.int a0), some (.int a1), some (.int (0 : Int32))]) rfl ?_
  refine L_X6_freeRoom_2_ok hu eN C FU a0 a1 (0 : Int32) s q19 h20 (fun v21 e9 => ?_) (fun t22 e9 => ?_)
  · subst e9
    dsimp only at hF
    cases hF
    exact T
  subst e9
  dsimp only at hF
  refine A_iconst C (x := -1) dX6_freeRoom_63 (by decide) (pc' := 64) rfl ?_
  cases hF
  exact A_iret C T (Nat.le_refl _) (Nat.le_refl _) dX6_freeRoom_64
def L_X6_rule_172 : Nat → Int32 → Int32 → Int32 → Int32 → Sg → Option (Int32 ⊕ (Unit))
  | 0, _, _, _, _, _ => none
  | fu + 1, b1, b2, b3, b6, s =>
    if (((4 : Int32) * b3) + (4 : Int32)) ≤ b6 then
      some (.inr ())
    else
      if b6 = b1 then
        bnd (b6 + (1 : Int32)) fun x13 =>
        L_X6_rule_172 fu b1 b2 b3 x13 s
      else
        grd (ixb b6 64 = true) <|
        if (s 30 b6.toNatClampNeg) < 0 then
          bnd (b6 + (1 : Int32)) fun x17 =>
          L_X6_rule_172 fu b1 b2 b3 x17 s
        else
          grd (ixb b6 64 = true) <|
          grd (¬ (s 2202 0) = 0) <|
          grd (¬ (s 2202 0) = 0) <|
          if ((s 30 b6.toNatClampNeg) / (s 2202 0)) = (b2 / (s 2202 0)) then
            some (.inl (6 : Int32))
          else
            bnd (b6 + (1 : Int32)) fun x23 =>
            L_X6_rule_172 fu b1 b2 b3 x23 s
def F_X6_rule (a0 : Int32) (a1 : Int32) (s : Sg) : Option Int32 :=
  jn (fun (x1 : Int32) (x2 : Int32) (x3 : Int32) => grd (ixb x1 16 = true) <|
      (F_X6_anyItem (0 : Int32) (s 23 x1.toNatClampNeg) a1 x2 s).bind fun q5 =>
      if q5 = 0 then
        if x3 = 0 then
          bnd ((4 : Int32) * x1) fun x9 =>
          (L_X6_rule_172 FU a0 a1 x1 x9 s).bind fun q25 => match q25 with
          | .inl v27 => some v27
          | .inr t28 =>
          (F_X6_freeRoom x1 a1 s).bind fun q29 =>
          if 0 ≤ q29 then
            some (0 : Int32)
          else
            some (7 : Int32)
        else
          grd (ixb x1 16 = true) <|
          (F_X6_anyItem (0 : Int32) (s 24 x1.toNatClampNeg) a1 x2 s).bind fun q33 =>
          if q33 = 0 then
            bnd ((4 : Int32) * x1) fun x36 =>
            (L_X6_rule_172 FU a0 a1 x1 x36 s).bind fun q38 => match q38 with
            | .inl v40 => some v40
            | .inr t41 =>
            (F_X6_freeRoom x1 a1 s).bind fun q42 =>
            if 0 ≤ q42 then
              some (0 : Int32)
            else
              some (7 : Int32)
          else
            some (5 : Int32)
      else
        some (5 : Int32)) fun J126 =>
  jn (fun (x45 : Int32) (x46 : Int32) (y47 : Int32) => grd (ixb x45 16 = true) <|
      (F_X6_anyBlocked (0 : Int32) (s 23 x45.toNatClampNeg) a1 x46 s).bind fun q49 =>
      if q49 = 0 then
        if y47 = 0 then
          J126 x45 x46 y47
        else
          grd (ixb x45 16 = true) <|
          (F_X6_anyBlocked (0 : Int32) (s 24 x45.toNatClampNeg) a1 x46 s).bind fun q54 =>
          if q54 = 0 then
            J126 x45 x46 y47
          else
            some (4 : Int32)
      else
        some (4 : Int32)) fun J83 =>
  (F_X6_lessonOf a0 s).bind fun q57 =>
  grd (ixb q57 16 = true) <|
  bnd (s 27 q57.toNatClampNeg) fun x60 =>
  grd (¬ (s 2202 0) = 0) <|
  if ((a1 - a1 / (s 2202 0) * (s 2202 0)) + x60) ≤ (s 2202 0) then
    grd (ixb q57 16 = true) <|
    (F_X6_anyBlocked (1 : Int32) (s 25 q57.toNatClampNeg) a1 x60 s).bind fun q65 =>
    if q65 = 0 then
      grd (ixb q57 16 = true) <|
      (F_X6_anyItem (1 : Int32) (s 25 q57.toNatClampNeg) a1 x60 s).bind fun q69 =>
      if q69 = 0 then
        grd (ixb q57 16 = true) <|
        if (s 24 q57.toNatClampNeg) < 0 then
          J83 q57 x60 (0 : Int32)
        else
          J83 q57 x60 (1 : Int32)
      else
        some (3 : Int32)
    else
      some (2 : Int32)
  else
    some (1 : Int32)
set_option maxHeartbeats 4000000 in
set_option maxRecDepth 100000 in
theorem L_X6_rule_172_ok {Γ : Cx} (hu : Un Γ.2.1) (eN : 7 = Γ.2.2.2.2.2) (C : Cok Γ cX6_rule RX6 (some .int) 5 0 0) {o : Nat → Int64} : ∀ (fu : Nat) (b1 : Int32) (b2 : Int32) (b3 : Int32) (b6 : Int32) (s : Sg) (q : (Int32 ⊕ (Unit))), L_X6_rule_172 fu b1 b2 b3 b6 s = some q → (∀ v, q = .inl v → Tgt Γ 0 0 (some (.int v)) (HP s o)) → (∀ t, q = .inr t → AW Γ (HP s o) 0 0 [some (.ref 21), none, some (.int b2), some (.int b3), none, none, none] [] 228) → AW Γ (HP s o) 0 0 [some (.ref 21), some (.int b1), some (.int b2), some (.int b3), none, none, some (.int b6)] [] 172 := by
  intro fu
  induction fu with
  | zero => intro b1 b2 b3 b6 s q hF; rw [L_X6_rule_172] at hF; cases hF
  | succ fu ih =>
    intro b1 b2 b3 b6 s q hF hret hexit
    rw [L_X6_rule_172] at hF
    refine A_iload C dX6_rule_172 rfl (pc' := 174) rfl ?_
    refine A_iconst C (x := 4) dX6_rule_174 (by decide) (pc' := 175) rfl ?_
    refine A_iload_n C dX6_rule_175 rfl (pc' := 176) rfl ?_
    refine A_imul C dX6_rule_176 (pc' := 177) rfl ?_
    refine A_iconst C (x := 4) dX6_rule_177 (by decide) (pc' := 178) rfl ?_
    refine A_iadd C dX6_rule_178 (pc' := 179) rfl ?_
    refine A_icmp_ge C dX6_rule_179 (tgt := 228) (by decide) (pc' := 182) rfl (fun c11 => ?_) (fun c11 => ?_)
    · rw [if_pos c11] at hF
      cases hF
      refine A_mask [true, false, true, true, false, false, false] (lv' := [some (.ref 21), none, some (.int b2), some (.int b3), none, none, none]) rfl ?_
      exact hexit () rfl
    · rw [if_neg c11] at hF
      refine A_iload C dX6_rule_182 rfl (pc' := 184) rfl ?_
      refine A_iload_n C dX6_rule_184 rfl (pc' := 185) rfl ?_
      refine A_icmp_eq C dX6_rule_185 (tgt := 222) (by decide) (pc' := 188) rfl (fun c12 => ?_) (fun c12 => ?_)
      · rw [if_pos c12] at hF
        obtain ⟨x13, e14, hF⟩ := bnd_some hF
        refine A_iinc C (lv' := [some (.ref 21), some (.int b1), some (.int b2), some (.int b3), none, none, some (.int x13)]) dX6_rule_222 rfl (by rw [e14]; rfl) rfl eN rfl rfl (pc' := 225) rfl ?_
        refine A_goto C dX6_rule_225 (tgt := 172) (by decide) ?_
        refine A_mask [true, true, true, true, false, false, true] (lv' := [some (.ref 21), some (.int b1), some (.int b2), some (.int b3), none, none, some (.int x13)]) rfl ?_
        exact ih b1 b2 b3 x13 s q hF hret hexit
      · rw [if_neg c12] at hF
        refine A_aload_n C dX6_rule_188 rfl (pc' := 189) rfl ?_
        refine A_get C (j := 12) cl_X6 rfl rfl lf_X6_34 dX6_rule_189 (HPg_21 s o) rfl (pc' := 192) rfl ?_
        refine A_iload C dX6_rule_192 rfl (pc' := 194) rfl ?_
        obtain ⟨h15, hF⟩ := grd_some hF
        refine A_iald C (HPg_30 s o) (ixb_in h15) dX6_rule_194 (pc' := 195) rfl ?_
        refine A_if_lt C dX6_rule_195 (tgt := 222) (by decide) (pc' := 198) rfl (fun c16 => ?_) (fun c16 => ?_)
        · rw [if_pos c16] at hF
          obtain ⟨x17, e18, hF⟩ := bnd_some hF
          refine A_iinc C (lv' := [some (.ref 21), some (.int b1), some (.int b2), some (.int b3), none, none, some (.int x17)]) dX6_rule_222 rfl (by rw [e18]; rfl) rfl eN rfl rfl (pc' := 225) rfl ?_
          refine A_goto C dX6_rule_225 (tgt := 172) (by decide) ?_
          refine A_mask [true, true, true, true, false, false, true] (lv' := [some (.ref 21), some (.int b1), some (.int b2), some (.int b3), none, none, some (.int x17)]) rfl ?_
          exact ih b1 b2 b3 x17 s q hF hret hexit
        · rw [if_neg c16] at hF
          refine A_aload_n C dX6_rule_198 rfl (pc' := 199) rfl ?_
          refine A_get C (j := 12) cl_X6 rfl rfl lf_X6_34 dX6_rule_199 (HPg_21 s o) rfl (pc' := 202) rfl ?_
          refine A_iload C dX6_rule_202 rfl (pc' := 204) rfl ?_
          obtain ⟨h19, hF⟩ := grd_some hF
          refine A_iald C (HPg_30 s o) (ixb_in h19) dX6_rule_204 (pc' := 205) rfl ?_
          refine A_aload_n C dX6_rule_205 rfl (pc' := 206) rfl ?_
          refine A_get C (j := 2) cl_X6 rfl rfl lf_X6_66 dX6_rule_206 (HPg_21 s o) rfl (pc' := 209) rfl ?_
          obtain ⟨h20, hF⟩ := grd_some hF
          refine A_idiv C dX6_rule_209 h20 (pc' := 210) rfl ?_
          refine A_iload_n C dX6_rule_210 rfl (pc' := 211) rfl ?_
          refine A_aload_n C dX6_rule_211 rfl (pc' := 212) rfl ?_
          refine A_get C (j := 2) cl_X6 rfl rfl lf_X6_66 dX6_rule_212 (HPg_21 s o) rfl (pc' := 215) rfl ?_
          obtain ⟨h21, hF⟩ := grd_some hF
          refine A_idiv C dX6_rule_215 h21 (pc' := 216) rfl ?_
          refine A_icmp_ne C dX6_rule_216 (tgt := 222) (by decide) (pc' := 219) rfl (fun c22 => ?_) (fun c22 => ?_)
          · rw [if_neg c22] at hF
            obtain ⟨x23, e24, hF⟩ := bnd_some hF
            refine A_iinc C (lv' := [some (.ref 21), some (.int b1), some (.int b2), some (.int b3), none, none, some (.int x23)]) dX6_rule_222 rfl (by rw [e24]; rfl) rfl eN rfl rfl (pc' := 225) rfl ?_
            refine A_goto C dX6_rule_225 (tgt := 172) (by decide) ?_
            refine A_mask [true, true, true, true, false, false, true] (lv' := [some (.ref 21), some (.int b1), some (.int b2), some (.int b3), none, none, some (.int x23)]) rfl ?_
            exact ih b1 b2 b3 x23 s q hF hret hexit
          · rw [if_pos c22] at hF
            refine A_bipush C (x := 6) dX6_rule_219 (by decide) (pc' := 221) rfl ?_
            cases hF
            exact A_iret C (hret (6 : Int32) rfl) (Nat.le_refl _) (Nat.le_refl _) dX6_rule_221
set_option maxHeartbeats 4000000 in
set_option maxRecDepth 100000 in
theorem F_X6_rule_ok {u : Uv} (hu : Un u) {a0 a1 : Int32} {s : Sg} {o : Nat → Int64} {r : Int32} (hF : F_X6_rule a0 a1 s = some r) : AM u (yX6_rule, cX6_rule, 7, (some .int)) 5 0 0 [.ref 21, .int a0, .int a1] (HP s o) (some (.int r)) (HP s o) := by
  refine AM.of hu (lv := [some (.ref 21), some (.int a0), some (.int a1), none, none, none, none]) (by decide) rfl (Nat.le_of_ble_eq_true rfl) rfl ?_
  intro Γ eu eN C T
  subst eu
  have C : Cok Γ cX6_rule RX6 (some .int) 5 0 0 := C
  unfold F_X6_rule at hF
  obtain ⟨J126, eJ126, hF⟩ := jn_some hF
  have hJ126 : ∀ (x1 : Int32) (x2 : Int32) (x3 : Int32), J126 x1 x2 x3 = some r → AW Γ (HP s o) 0 0 [some (.ref 21), some (.int a0), some (.int a1), some (.int x1), some (.int x2), some (.int x3), none] [] 126 := by
    intro x1 x2 x3 hF
    rw [eJ126] at hF
    dsimp only at hF
    refine A_aload_n C dX6_rule_126 rfl (pc' := 127) rfl ?_
    refine A_iconst C (x := 0) dX6_rule_127 (by decide) (pc' := 128) rfl ?_
    refine A_aload_n C dX6_rule_128 rfl (pc' := 129) rfl ?_
    refine A_get C (j := 5) cl_X6 rfl rfl lf_X6_13 dX6_rule_129 (HPg_21 s o) rfl (pc' := 132) rfl ?_
    refine A_iload_n C dX6_rule_132 rfl (pc' := 133) rfl ?_
    obtain ⟨h4, hF⟩ := grd_some hF
    refine A_iald C (HPg_23 s o) (ixb_in h4) dX6_rule_133 (pc' := 134) rfl ?_
    refine A_iload_n C dX6_rule_134 rfl (pc' := 135) rfl ?_
    refine A_iload C dX6_rule_135 rfl (pc' := 137) rfl ?_
    obtain ⟨q5, h6, hF⟩ := Option.bind_eq_some_iff.mp hF
    refine A_callV C (av := [.int (0 : Int32), .int (s 23 x1.toNatClampNeg), .int a1, .int x2]) (rest := []) (st2 := [.int q5]) (k2 := 0) (n2 := 0) (F_X6_anyItem_ok hu h6) mk_X6_anyItem lm_X6_109 wi_X6_anyItem wv_X6_anyItem (HPg_21 s o) rfl rfl rfl rfl ⟨by decide, by decide⟩ (Nat.le_of_ble_eq_true rfl) rfl rfl dX6_rule_137 rfl rfl rfl (pc' := 140) rfl ?_
    refine A_if_ne C dX6_rule_140 (tgt := 165) (by decide) (pc' := 143) rfl (fun c7 => ?_) (fun c7 => ?_)
    · rw [if_neg c7] at hF
      refine A_iconst C (x := 5) dX6_rule_165 (by decide) (pc' := 166) rfl ?_
      cases hF
      exact A_iret C T (Nat.le_refl _) (Nat.le_refl _) dX6_rule_166
    · rw [if_pos c7] at hF
      refine A_iload C dX6_rule_143 rfl (pc' := 145) rfl ?_
      refine A_if_eq C dX6_rule_145 (tgt := 167) (by decide) (pc' := 148) rfl (fun c8 => ?_) (fun c8 => ?_)
      · rw [if_pos c8] at hF
        refine A_iconst C (x := 4) dX6_rule_167 (by decide) (pc' := 168) rfl ?_
        refine A_iload_n C dX6_rule_168 rfl (pc' := 169) rfl ?_
        refine A_imul C dX6_rule_169 (pc' := 170) rfl ?_
        obtain ⟨x9, e10, hF⟩ := bnd_some hF
        refine A_topi e10 ?_
        refine A_istore C (lv' := [some (.ref 21), some (.int a0), some (.int a1), some (.int x1), some (.int x2), some (.int x3), some (.int x9)]) dX6_rule_170 rfl eN rfl rfl (pc' := 172) rfl ?_
        obtain ⟨q25, h26, hF⟩ := Option.bind_eq_some_iff.mp hF
        refine A_mask [true, true, true, true, false, false, true] (lv' := [some (.ref 21), some (.int a0), some (.int a1), some (.int x1), none, none, some (.int x9)]) rfl ?_
        refine L_X6_rule_172_ok hu eN C FU a0 a1 x1 x9 s q25 h26 (fun v27 e9 => ?_) (fun t28 e9 => ?_)
        · subst e9
          dsimp only at hF
          cases hF
          exact T
        subst e9
        dsimp only at hF
        refine A_aload_n C dX6_rule_228 rfl (pc' := 229) rfl ?_
        refine A_iload_n C dX6_rule_229 rfl (pc' := 230) rfl ?_
        refine A_iload_n C dX6_rule_230 rfl (pc' := 231) rfl ?_
        obtain ⟨q29, h30, hF⟩ := Option.bind_eq_some_iff.mp hF
        refine A_callV C (av := [.int x1, .int a1]) (rest := []) (st2 := [.int q29]) (k2 := 0) (n2 := 0) (F_X6_freeRoom_ok hu h30) mk_X6_freeRoom lm_X6_112 wi_X6_freeRoom wv_X6_freeRoom (HPg_21 s o) rfl rfl rfl rfl ⟨by decide, by decide⟩ (Nat.le_of_ble_eq_true rfl) rfl rfl dX6_rule_231 rfl rfl rfl (pc' := 234) rfl ?_
        refine A_if_ge C dX6_rule_234 (tgt := 242) (by decide) (pc' := 237) rfl (fun c31 => ?_) (fun c31 => ?_)
        · rw [if_pos c31] at hF
          refine A_iconst C (x := 0) dX6_rule_242 (by decide) (pc' := 243) rfl ?_
          cases hF
          exact A_iret C T (Nat.le_refl _) (Nat.le_refl _) dX6_rule_243
        · rw [if_neg c31] at hF
          refine A_bipush C (x := 7) dX6_rule_237 (by decide) (pc' := 239) rfl ?_
          refine A_goto C dX6_rule_239 (tgt := 243) (by decide) ?_
          cases hF
          exact A_iret C T (Nat.le_refl _) (Nat.le_refl _) dX6_rule_243
      · rw [if_neg c8] at hF
        refine A_aload_n C dX6_rule_148 rfl (pc' := 149) rfl ?_
        refine A_iconst C (x := 0) dX6_rule_149 (by decide) (pc' := 150) rfl ?_
        refine A_aload_n C dX6_rule_150 rfl (pc' := 151) rfl ?_
        refine A_get C (j := 6) cl_X6 rfl rfl lf_X6_16 dX6_rule_151 (HPg_21 s o) rfl (pc' := 154) rfl ?_
        refine A_iload_n C dX6_rule_154 rfl (pc' := 155) rfl ?_
        obtain ⟨h32, hF⟩ := grd_some hF
        refine A_iald C (HPg_24 s o) (ixb_in h32) dX6_rule_155 (pc' := 156) rfl ?_
        refine A_iload_n C dX6_rule_156 rfl (pc' := 157) rfl ?_
        refine A_iload C dX6_rule_157 rfl (pc' := 159) rfl ?_
        obtain ⟨q33, h34, hF⟩ := Option.bind_eq_some_iff.mp hF
        refine A_callV C (av := [.int (0 : Int32), .int (s 24 x1.toNatClampNeg), .int a1, .int x2]) (rest := []) (st2 := [.int q33]) (k2 := 0) (n2 := 0) (F_X6_anyItem_ok hu h34) mk_X6_anyItem lm_X6_109 wi_X6_anyItem wv_X6_anyItem (HPg_21 s o) rfl rfl rfl rfl ⟨by decide, by decide⟩ (Nat.le_of_ble_eq_true rfl) rfl rfl dX6_rule_159 rfl rfl rfl (pc' := 162) rfl ?_
        refine A_if_eq C dX6_rule_162 (tgt := 167) (by decide) (pc' := 165) rfl (fun c35 => ?_) (fun c35 => ?_)
        · rw [if_pos c35] at hF
          refine A_iconst C (x := 4) dX6_rule_167 (by decide) (pc' := 168) rfl ?_
          refine A_iload_n C dX6_rule_168 rfl (pc' := 169) rfl ?_
          refine A_imul C dX6_rule_169 (pc' := 170) rfl ?_
          obtain ⟨x36, e37, hF⟩ := bnd_some hF
          refine A_topi e37 ?_
          refine A_istore C (lv' := [some (.ref 21), some (.int a0), some (.int a1), some (.int x1), some (.int x2), some (.int x3), some (.int x36)]) dX6_rule_170 rfl eN rfl rfl (pc' := 172) rfl ?_
          obtain ⟨q38, h39, hF⟩ := Option.bind_eq_some_iff.mp hF
          refine A_mask [true, true, true, true, false, false, true] (lv' := [some (.ref 21), some (.int a0), some (.int a1), some (.int x1), none, none, some (.int x36)]) rfl ?_
          refine L_X6_rule_172_ok hu eN C FU a0 a1 x1 x36 s q38 h39 (fun v40 e9 => ?_) (fun t41 e9 => ?_)
          · subst e9
            dsimp only at hF
            cases hF
            exact T
          subst e9
          dsimp only at hF
          refine A_aload_n C dX6_rule_228 rfl (pc' := 229) rfl ?_
          refine A_iload_n C dX6_rule_229 rfl (pc' := 230) rfl ?_
          refine A_iload_n C dX6_rule_230 rfl (pc' := 231) rfl ?_
          obtain ⟨q42, h43, hF⟩ := Option.bind_eq_some_iff.mp hF
          refine A_callV C (av := [.int x1, .int a1]) (rest := []) (st2 := [.int q42]) (k2 := 0) (n2 := 0) (F_X6_freeRoom_ok hu h43) mk_X6_freeRoom lm_X6_112 wi_X6_freeRoom wv_X6_freeRoom (HPg_21 s o) rfl rfl rfl rfl ⟨by decide, by decide⟩ (Nat.le_of_ble_eq_true rfl) rfl rfl dX6_rule_231 rfl rfl rfl (pc' := 234) rfl ?_
          refine A_if_ge C dX6_rule_234 (tgt := 242) (by decide) (pc' := 237) rfl (fun c44 => ?_) (fun c44 => ?_)
          · rw [if_pos c44] at hF
            refine A_iconst C (x := 0) dX6_rule_242 (by decide) (pc' := 243) rfl ?_
            cases hF
            exact A_iret C T (Nat.le_refl _) (Nat.le_refl _) dX6_rule_243
          · rw [if_neg c44] at hF
            refine A_bipush C (x := 7) dX6_rule_237 (by decide) (pc' := 239) rfl ?_
            refine A_goto C dX6_rule_239 (tgt := 243) (by decide) ?_
            cases hF
            exact A_iret C T (Nat.le_refl _) (Nat.le_refl _) dX6_rule_243
        · rw [if_neg c35] at hF
          refine A_iconst C (x := 5) dX6_rule_165 (by decide) (pc' := 166) rfl ?_
          cases hF
          exact A_iret C T (Nat.le_refl _) (Nat.le_refl _) dX6_rule_166
  clear eJ126
  obtain ⟨J83, eJ83, hF⟩ := jn_some hF
  have hJ83 : ∀ (x45 : Int32) (x46 : Int32) (y47 : Int32), J83 x45 x46 y47 = some r → AW Γ (HP s o) 0 0 [some (.ref 21), some (.int a0), some (.int a1), some (.int x45), some (.int x46), none, none] [.int y47] 83 := by
    intro x45 x46 y47 hF
    rw [eJ83] at hF
    dsimp only at hF
    refine A_istore C (lv' := [some (.ref 21), some (.int a0), some (.int a1), some (.int x45), some (.int x46), some (.int y47), none]) dX6_rule_83 rfl eN rfl rfl (pc' := 85) rfl ?_
    refine A_aload_n C dX6_rule_85 rfl (pc' := 86) rfl ?_
    refine A_iconst C (x := 0) dX6_rule_86 (by decide) (pc' := 87) rfl ?_
    refine A_aload_n C dX6_rule_87 rfl (pc' := 88) rfl ?_
    refine A_get C (j := 5) cl_X6 rfl rfl lf_X6_13 dX6_rule_88 (HPg_21 s o) rfl (pc' := 91) rfl ?_
    refine A_iload_n C dX6_rule_91 rfl (pc' := 92) rfl ?_
    obtain ⟨h48, hF⟩ := grd_some hF
    refine A_iald C (HPg_23 s o) (ixb_in h48) dX6_rule_92 (pc' := 93) rfl ?_
    refine A_iload_n C dX6_rule_93 rfl (pc' := 94) rfl ?_
    refine A_iload C dX6_rule_94 rfl (pc' := 96) rfl ?_
    obtain ⟨q49, h50, hF⟩ := Option.bind_eq_some_iff.mp hF
    refine A_callV C (av := [.int (0 : Int32), .int (s 23 x45.toNatClampNeg), .int a1, .int x46]) (rest := []) (st2 := [.int q49]) (k2 := 0) (n2 := 0) (F_X6_anyBlocked_ok hu h50) mk_X6_anyBlocked lm_X6_105 wi_X6_anyBlocked wv_X6_anyBlocked (HPg_21 s o) rfl rfl rfl rfl ⟨by decide, by decide⟩ (Nat.le_of_ble_eq_true rfl) rfl rfl dX6_rule_96 rfl rfl rfl (pc' := 99) rfl ?_
    refine A_if_ne C dX6_rule_99 (tgt := 124) (by decide) (pc' := 102) rfl (fun c51 => ?_) (fun c51 => ?_)
    · rw [if_neg c51] at hF
      refine A_iconst C (x := 4) dX6_rule_124 (by decide) (pc' := 125) rfl ?_
      cases hF
      exact A_iret C T (Nat.le_refl _) (Nat.le_refl _) dX6_rule_125
    · rw [if_pos c51] at hF
      refine A_iload C dX6_rule_102 rfl (pc' := 104) rfl ?_
      refine A_if_eq C dX6_rule_104 (tgt := 126) (by decide) (pc' := 107) rfl (fun c52 => ?_) (fun c52 => ?_)
      · rw [if_pos c52] at hF
        refine A_mask [true, true, true, true, true, true, false] (lv' := [some (.ref 21), some (.int a0), some (.int a1), some (.int x45), some (.int x46), some (.int y47), none]) rfl ?_
        exact hJ126 x45 x46 y47 hF
      · rw [if_neg c52] at hF
        refine A_aload_n C dX6_rule_107 rfl (pc' := 108) rfl ?_
        refine A_iconst C (x := 0) dX6_rule_108 (by decide) (pc' := 109) rfl ?_
        refine A_aload_n C dX6_rule_109 rfl (pc' := 110) rfl ?_
        refine A_get C (j := 6) cl_X6 rfl rfl lf_X6_16 dX6_rule_110 (HPg_21 s o) rfl (pc' := 113) rfl ?_
        refine A_iload_n C dX6_rule_113 rfl (pc' := 114) rfl ?_
        obtain ⟨h53, hF⟩ := grd_some hF
        refine A_iald C (HPg_24 s o) (ixb_in h53) dX6_rule_114 (pc' := 115) rfl ?_
        refine A_iload_n C dX6_rule_115 rfl (pc' := 116) rfl ?_
        refine A_iload C dX6_rule_116 rfl (pc' := 118) rfl ?_
        obtain ⟨q54, h55, hF⟩ := Option.bind_eq_some_iff.mp hF
        refine A_callV C (av := [.int (0 : Int32), .int (s 24 x45.toNatClampNeg), .int a1, .int x46]) (rest := []) (st2 := [.int q54]) (k2 := 0) (n2 := 0) (F_X6_anyBlocked_ok hu h55) mk_X6_anyBlocked lm_X6_105 wi_X6_anyBlocked wv_X6_anyBlocked (HPg_21 s o) rfl rfl rfl rfl ⟨by decide, by decide⟩ (Nat.le_of_ble_eq_true rfl) rfl rfl dX6_rule_118 rfl rfl rfl (pc' := 121) rfl ?_
        refine A_if_eq C dX6_rule_121 (tgt := 126) (by decide) (pc' := 124) rfl (fun c56 => ?_) (fun c56 => ?_)
        · rw [if_pos c56] at hF
          refine A_mask [true, true, true, true, true, true, false] (lv' := [some (.ref 21), some (.int a0), some (.int a1), some (.int x45), some (.int x46), some (.int y47), none]) rfl ?_
          exact hJ126 x45 x46 y47 hF
        · rw [if_neg c56] at hF
          refine A_iconst C (x := 4) dX6_rule_124 (by decide) (pc' := 125) rfl ?_
          cases hF
          exact A_iret C T (Nat.le_refl _) (Nat.le_refl _) dX6_rule_125
  clear eJ83
  refine A_iload_n C dX6_rule_0 rfl (pc' := 1) rfl ?_
  obtain ⟨q57, h58, hF⟩ := Option.bind_eq_some_iff.mp hF
  refine A_callS C (av := [.int a0]) (rest := []) (st2 := [.int q57]) (k2 := 0) (n2 := 0) (F_X6_lessonOf_ok hu h58) mk_X6_lessonOf lm_X6_79 ws_X6_lessonOf rfl rfl rfl ⟨by decide, by decide⟩ (Nat.le_of_ble_eq_true rfl) rfl rfl dX6_rule_1 rfl rfl rfl (pc' := 4) rfl ?_
  refine A_istore_n C (lv' := [some (.ref 21), some (.int a0), some (.int a1), some (.int q57), none, none, none]) dX6_rule_4 rfl eN rfl rfl (pc' := 5) rfl ?_
  refine A_aload_n C dX6_rule_5 rfl (pc' := 6) rfl ?_
  refine A_get C (j := 9) cl_X6 rfl rfl lf_X6_25 dX6_rule_6 (HPg_21 s o) rfl (pc' := 9) rfl ?_
  refine A_iload_n C dX6_rule_9 rfl (pc' := 10) rfl ?_
  obtain ⟨h59, hF⟩ := grd_some hF
  refine A_iald C (HPg_27 s o) (ixb_in h59) dX6_rule_10 (pc' := 11) rfl ?_
  obtain ⟨x60, e61, hF⟩ := bnd_some hF
  refine A_topi e61 ?_
  refine A_istore C (lv' := [some (.ref 21), some (.int a0), some (.int a1), some (.int q57), some (.int x60), none, none]) dX6_rule_11 rfl eN rfl rfl (pc' := 13) rfl ?_
  refine A_iload_n C dX6_rule_13 rfl (pc' := 14) rfl ?_
  refine A_aload_n C dX6_rule_14 rfl (pc' := 15) rfl ?_
  refine A_get C (j := 2) cl_X6 rfl rfl lf_X6_66 dX6_rule_15 (HPg_21 s o) rfl (pc' := 18) rfl ?_
  obtain ⟨h62, hF⟩ := grd_some hF
  refine A_irem C dX6_rule_18 h62 (pc' := 19) rfl ?_
  refine A_iload C dX6_rule_19 rfl (pc' := 21) rfl ?_
  refine A_iadd C dX6_rule_21 (pc' := 22) rfl ?_
  refine A_aload_n C dX6_rule_22 rfl (pc' := 23) rfl ?_
  refine A_get C (j := 2) cl_X6 rfl rfl lf_X6_66 dX6_rule_23 (HPg_21 s o) rfl (pc' := 26) rfl ?_
  refine A_icmp_le C dX6_rule_26 (tgt := 31) (by decide) (pc' := 29) rfl (fun c63 => ?_) (fun c63 => ?_)
  · rw [if_pos c63] at hF
    refine A_aload_n C dX6_rule_31 rfl (pc' := 32) rfl ?_
    refine A_iconst C (x := 1) dX6_rule_32 (by decide) (pc' := 33) rfl ?_
    refine A_aload_n C dX6_rule_33 rfl (pc' := 34) rfl ?_
    refine A_get C (j := 7) cl_X6 rfl rfl lf_X6_19 dX6_rule_34 (HPg_21 s o) rfl (pc' := 37) rfl ?_
    refine A_iload_n C dX6_rule_37 rfl (pc' := 38) rfl ?_
    obtain ⟨h64, hF⟩ := grd_some hF
    refine A_iald C (HPg_25 s o) (ixb_in h64) dX6_rule_38 (pc' := 39) rfl ?_
    refine A_iload_n C dX6_rule_39 rfl (pc' := 40) rfl ?_
    refine A_iload C dX6_rule_40 rfl (pc' := 42) rfl ?_
    obtain ⟨q65, h66, hF⟩ := Option.bind_eq_some_iff.mp hF
    refine A_callV C (av := [.int (1 : Int32), .int (s 25 q57.toNatClampNeg), .int a1, .int x60]) (rest := []) (st2 := [.int q65]) (k2 := 0) (n2 := 0) (F_X6_anyBlocked_ok hu h66) mk_X6_anyBlocked lm_X6_105 wi_X6_anyBlocked wv_X6_anyBlocked (HPg_21 s o) rfl rfl rfl rfl ⟨by decide, by decide⟩ (Nat.le_of_ble_eq_true rfl) rfl rfl dX6_rule_42 rfl rfl rfl (pc' := 45) rfl ?_
    refine A_if_eq C dX6_rule_45 (tgt := 50) (by decide) (pc' := 48) rfl (fun c67 => ?_) (fun c67 => ?_)
    · rw [if_pos c67] at hF
      refine A_aload_n C dX6_rule_50 rfl (pc' := 51) rfl ?_
      refine A_iconst C (x := 1) dX6_rule_51 (by decide) (pc' := 52) rfl ?_
      refine A_aload_n C dX6_rule_52 rfl (pc' := 53) rfl ?_
      refine A_get C (j := 7) cl_X6 rfl rfl lf_X6_19 dX6_rule_53 (HPg_21 s o) rfl (pc' := 56) rfl ?_
      refine A_iload_n C dX6_rule_56 rfl (pc' := 57) rfl ?_
      obtain ⟨h68, hF⟩ := grd_some hF
      refine A_iald C (HPg_25 s o) (ixb_in h68) dX6_rule_57 (pc' := 58) rfl ?_
      refine A_iload_n C dX6_rule_58 rfl (pc' := 59) rfl ?_
      refine A_iload C dX6_rule_59 rfl (pc' := 61) rfl ?_
      obtain ⟨q69, h70, hF⟩ := Option.bind_eq_some_iff.mp hF
      refine A_callV C (av := [.int (1 : Int32), .int (s 25 q57.toNatClampNeg), .int a1, .int x60]) (rest := []) (st2 := [.int q69]) (k2 := 0) (n2 := 0) (F_X6_anyItem_ok hu h70) mk_X6_anyItem lm_X6_109 wi_X6_anyItem wv_X6_anyItem (HPg_21 s o) rfl rfl rfl rfl ⟨by decide, by decide⟩ (Nat.le_of_ble_eq_true rfl) rfl rfl dX6_rule_61 rfl rfl rfl (pc' := 64) rfl ?_
      refine A_if_eq C dX6_rule_64 (tgt := 69) (by decide) (pc' := 67) rfl (fun c71 => ?_) (fun c71 => ?_)
      · rw [if_pos c71] at hF
        refine A_aload_n C dX6_rule_69 rfl (pc' := 70) rfl ?_
        refine A_get C (j := 6) cl_X6 rfl rfl lf_X6_16 dX6_rule_70 (HPg_21 s o) rfl (pc' := 73) rfl ?_
        refine A_iload_n C dX6_rule_73 rfl (pc' := 74) rfl ?_
        obtain ⟨h72, hF⟩ := grd_some hF
        refine A_iald C (HPg_24 s o) (ixb_in h72) dX6_rule_74 (pc' := 75) rfl ?_
        refine A_if_lt C dX6_rule_75 (tgt := 82) (by decide) (pc' := 78) rfl (fun c73 => ?_) (fun c73 => ?_)
        · rw [if_pos c73] at hF
          refine A_iconst C (x := 0) dX6_rule_82 (by decide) (pc' := 83) rfl ?_
          refine A_mask [true, true, true, true, true, false, false] (lv' := [some (.ref 21), some (.int a0), some (.int a1), some (.int q57), some (.int x60), none, none]) rfl ?_
          exact hJ83 q57 x60 (0 : Int32) hF
        · rw [if_neg c73] at hF
          refine A_iconst C (x := 1) dX6_rule_78 (by decide) (pc' := 79) rfl ?_
          refine A_goto C dX6_rule_79 (tgt := 83) (by decide) ?_
          refine A_mask [true, true, true, true, true, false, false] (lv' := [some (.ref 21), some (.int a0), some (.int a1), some (.int q57), some (.int x60), none, none]) rfl ?_
          exact hJ83 q57 x60 (1 : Int32) hF
      · rw [if_neg c71] at hF
        refine A_iconst C (x := 3) dX6_rule_67 (by decide) (pc' := 68) rfl ?_
        cases hF
        exact A_iret C T (Nat.le_refl _) (Nat.le_refl _) dX6_rule_68
    · rw [if_neg c67] at hF
      refine A_iconst C (x := 2) dX6_rule_48 (by decide) (pc' := 49) rfl ?_
      cases hF
      exact A_iret C T (Nat.le_refl _) (Nat.le_refl _) dX6_rule_49
  · rw [if_neg c63] at hF
    refine A_iconst C (x := 1) dX6_rule_29 (by decide) (pc' := 30) rfl ?_
    cases hF
    exact A_iret C T (Nat.le_refl _) (Nat.le_refl _) dX6_rule_30
