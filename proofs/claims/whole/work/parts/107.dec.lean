def F_X6_tries (s : Sg) : Option (Int32 × Sg) :=
  bnd (va_up s 2200 (fun _ => (0 : Int32))) fun s1 =>
  some ((s1 2215 0), s1)
set_option maxHeartbeats 4000000 in
set_option maxRecDepth 100000 in
theorem F_X6_tries_ok {u : Uv} (hu : Un u) {s : Sg} {o : Nat → Int64} {r : (Int32 × Sg)} (hF : F_X6_tries  s = some r) : AM u (yX6_tries, cX6_tries, 1, (some .int)) 0 0 0 [.ref 21] (HP s o) (some (.int r.1)) (HP r.2 o) := by
  refine AM.of hu (lv := [some (.ref 21)]) (by decide) rfl (Nat.le_of_ble_eq_true rfl) rfl ?_
  intro Γ eu eN C T
  subst eu
  have C : Cok Γ cX6_tries RX6 (some .int) 0 0 0 := C
  unfold F_X6_tries at hF
  refine A_aload_n C dX6_tries_0 rfl (pc' := 1) rfl ?_
  refine A_iconst C (x := 0) dX6_tries_1 (by decide) (pc' := 2) rfl ?_
  obtain ⟨s1, e2, hF⟩ := bnd_some hF
  refine A_put C (j := 0) (h1 := HP s1 o) tyX6 tyX6_ok nmX6 cl_X6 rfl rfl lf_X6_69 rfl (tyX6_ok 0 (by decide)) (fun _ => rfl) (fun _ => rfl) rfl dX6_tries_2 (HPg_21 s o) (by rw [e2]; exact HPp_21_0 s o _) (pc' := 5) rfl ?_
  refine A_aload_n C dX6_tries_5 rfl (pc' := 6) rfl ?_
  refine A_get C (j := 15) cl_X6 rfl rfl lf_X6_139 dX6_tries_6 (HPg_21 s1 o) rfl (pc' := 9) rfl ?_
  cases hF
  exact A_iret C T (Nat.le_refl _) (Nat.le_refl _) dX6_tries_9
def F_X6_period (a0 : Int32) (a1 : Int32) (s : Sg) : Option (Int32 × Sg) :=
  jn (fun (y1 : Int32) (s2 : Sg) => (F_X6_throwing y1 (0 : Int32) s2).bind fun q3 =>
      if q3.1 = 0 then
        grd (ixb (((4 : Int32) * a0) + a1) 64 = true) <|
        some ((q3.2 30 (((4 : Int32) * a0) + a1).toNatClampNeg), q3.2)
      else
        some ((0 : Int32), q3.2)) fun J15 =>
  (F_X6_isItem a0 a1 s).bind fun q7 =>
  if q7 = 0 then
    J15 (1 : Int32) s
  else
    J15 (0 : Int32) s
set_option maxHeartbeats 4000000 in
set_option maxRecDepth 100000 in
theorem F_X6_period_ok {u : Uv} (hu : Un u) {a0 a1 : Int32} {s : Sg} {o : Nat → Int64} {r : (Int32 × Sg)} (hF : F_X6_period a0 a1 s = some r) : AM u (yX6_period, cX6_period, 3, (some .int)) 2 0 0 [.ref 21, .int a0, .int a1] (HP s o) (some (.int r.1)) (HP r.2 o) := by
  refine AM.of hu (lv := [some (.ref 21), some (.int a0), some (.int a1)]) (by decide) rfl (Nat.le_of_ble_eq_true rfl) rfl ?_
  intro Γ eu eN C T
  subst eu
  have C : Cok Γ cX6_period RX6 (some .int) 2 0 0 := C
  unfold F_X6_period at hF
  obtain ⟨J15, eJ15, hF⟩ := jn_some hF
  have hJ15 : ∀ (y1 : Int32) (s2 : Sg), J15 y1 s2 = some r → AW Γ (HP s2 o) 0 0 [some (.ref 21), some (.int a0), some (.int a1)] [.int y1, .ref 21] 15 := by
    intro y1 s2 hF
    rw [eJ15] at hF
    dsimp only at hF
    refine A_iconst C (x := 0) dX6_period_15 (by decide) (pc' := 16) rfl ?_
    obtain ⟨q3, h4, hF⟩ := Option.bind_eq_some_iff.mp hF
    refine A_callV C (av := [.int y1, .int (0 : Int32)]) (rest := []) (st2 := [.int q3.1]) (k2 := 0) (n2 := 0) (F_X6_throwing_ok hu h4) mk_X6_throwing lm_X6_90 wi_X6_throwing wv_X6_throwing (HPg_21 s2 o) rfl rfl rfl rfl ⟨by decide, by decide⟩ (Nat.le_of_ble_eq_true rfl) rfl rfl dX6_period_16 rfl rfl rfl (pc' := 19) rfl ?_
    refine A_if_eq C dX6_period_19 (tgt := 24) (by decide) (pc' := 22) rfl (fun c5 => ?_) (fun c5 => ?_)
    · rw [if_pos c5] at hF
      refine A_aload_n C dX6_period_24 rfl (pc' := 25) rfl ?_
      refine A_get C (j := 12) cl_X6 rfl rfl lf_X6_34 dX6_period_25 (HPg_21 q3.2 o) rfl (pc' := 28) rfl ?_
      refine A_iconst C (x := 4) dX6_period_28 (by decide) (pc' := 29) rfl ?_
      refine A_iload_n C dX6_period_29 rfl (pc' := 30) rfl ?_
      refine A_imul C dX6_period_30 (pc' := 31) rfl ?_
      refine A_iload_n C dX6_period_31 rfl (pc' := 32) rfl ?_
      refine A_iadd C dX6_period_32 (pc' := 33) rfl ?_
      obtain ⟨h6, hF⟩ := grd_some hF
      refine A_iald C (HPg_30 q3.2 o) (ixb_in h6) dX6_period_33 (pc' := 34) rfl ?_
      cases hF
      exact A_iret C T (Nat.le_refl _) (Nat.le_refl _) dX6_period_34
    · rw [if_neg c5] at hF
      refine A_iconst C (x := 0) dX6_period_22 (by decide) (pc' := 23) rfl ?_
      cases hF
      exact A_iret C T (Nat.le_refl _) (Nat.le_refl _) dX6_period_23
  clear eJ15
  refine A_aload_n C dX6_period_0 rfl (pc' := 1) rfl ?_
  refine A_aload_n C dX6_period_1 rfl (pc' := 2) rfl ?_
  refine A_iload_n C dX6_period_2 rfl (pc' := 3) rfl ?_
  refine A_iload_n C dX6_period_3 rfl (pc' := 4) rfl ?_
  obtain ⟨q7, h8, hF⟩ := Option.bind_eq_some_iff.mp hF
  refine A_callV C (av := [.int a0, .int a1]) (rest := [.ref 21]) (st2 := [.int q7, .ref 21]) (k2 := 0) (n2 := 0) (F_X6_isItem_ok hu h8) mk_X6_isItem lm_X6_119 wi_X6_isItem wv_X6_isItem (HPg_21 s o) rfl rfl rfl rfl ⟨by decide, by decide⟩ (Nat.le_of_ble_eq_true rfl) rfl rfl dX6_period_4 rfl rfl rfl (pc' := 7) rfl ?_
  refine A_if_ne C dX6_period_7 (tgt := 14) (by decide) (pc' := 10) rfl (fun c9 => ?_) (fun c9 => ?_)
  · rw [if_neg c9] at hF
    refine A_iconst C (x := 0) dX6_period_14 (by decide) (pc' := 15) rfl ?_
    refine A_mask [true, true, true] (lv' := [some (.ref 21), some (.int a0), some (.int a1)]) rfl ?_
    exact hJ15 (0 : Int32) s hF
  · rw [if_pos c9] at hF
    refine A_iconst C (x := 1) dX6_period_10 (by decide) (pc' := 11) rfl ?_
    refine A_goto C dX6_period_11 (tgt := 15) (by decide) ?_
    refine A_mask [true, true, true] (lv' := [some (.ref 21), some (.int a0), some (.int a1)]) rfl ?_
    exact hJ15 (1 : Int32) s hF
def F_X6_roomOf (a0 : Int32) (a1 : Int32) (s : Sg) : Option (Int32 × Sg) :=
  jn (fun (y1 : Int32) (s2 : Sg) => (F_X6_throwing y1 (0 : Int32) s2).bind fun q3 =>
      if q3.1 = 0 then
        grd (ixb (((4 : Int32) * a0) + a1) 64 = true) <|
        some ((q3.2 31 (((4 : Int32) * a0) + a1).toNatClampNeg), q3.2)
      else
        some ((0 : Int32), q3.2)) fun J15 =>
  (F_X6_isItem a0 a1 s).bind fun q7 =>
  if q7 = 0 then
    J15 (1 : Int32) s
  else
    J15 (0 : Int32) s
set_option maxHeartbeats 4000000 in
set_option maxRecDepth 100000 in
theorem F_X6_roomOf_ok {u : Uv} (hu : Un u) {a0 a1 : Int32} {s : Sg} {o : Nat → Int64} {r : (Int32 × Sg)} (hF : F_X6_roomOf a0 a1 s = some r) : AM u (yX6_roomOf, cX6_roomOf, 3, (some .int)) 2 0 0 [.ref 21, .int a0, .int a1] (HP s o) (some (.int r.1)) (HP r.2 o) := by
  refine AM.of hu (lv := [some (.ref 21), some (.int a0), some (.int a1)]) (by decide) rfl (Nat.le_of_ble_eq_true rfl) rfl ?_
  intro Γ eu eN C T
  subst eu
  have C : Cok Γ cX6_roomOf RX6 (some .int) 2 0 0 := C
  unfold F_X6_roomOf at hF
  obtain ⟨J15, eJ15, hF⟩ := jn_some hF
  have hJ15 : ∀ (y1 : Int32) (s2 : Sg), J15 y1 s2 = some r → AW Γ (HP s2 o) 0 0 [some (.ref 21), some (.int a0), some (.int a1)] [.int y1, .ref 21] 15 := by
    intro y1 s2 hF
    rw [eJ15] at hF
    dsimp only at hF
    refine A_iconst C (x := 0) dX6_roomOf_15 (by decide) (pc' := 16) rfl ?_
    obtain ⟨q3, h4, hF⟩ := Option.bind_eq_some_iff.mp hF
    refine A_callV C (av := [.int y1, .int (0 : Int32)]) (rest := []) (st2 := [.int q3.1]) (k2 := 0) (n2 := 0) (F_X6_throwing_ok hu h4) mk_X6_throwing lm_X6_90 wi_X6_throwing wv_X6_throwing (HPg_21 s2 o) rfl rfl rfl rfl ⟨by decide, by decide⟩ (Nat.le_of_ble_eq_true rfl) rfl rfl dX6_roomOf_16 rfl rfl rfl (pc' := 19) rfl ?_
    refine A_if_eq C dX6_roomOf_19 (tgt := 24) (by decide) (pc' := 22) rfl (fun c5 => ?_) (fun c5 => ?_)
    · rw [if_pos c5] at hF
      refine A_aload_n C dX6_roomOf_24 rfl (pc' := 25) rfl ?_
      refine A_get C (j := 13) cl_X6 rfl rfl lf_X6_37 dX6_roomOf_25 (HPg_21 q3.2 o) rfl (pc' := 28) rfl ?_
      refine A_iconst C (x := 4) dX6_roomOf_28 (by decide) (pc' := 29) rfl ?_
      refine A_iload_n C dX6_roomOf_29 rfl (pc' := 30) rfl ?_
      refine A_imul C dX6_roomOf_30 (pc' := 31) rfl ?_
      refine A_iload_n C dX6_roomOf_31 rfl (pc' := 32) rfl ?_
      refine A_iadd C dX6_roomOf_32 (pc' := 33) rfl ?_
      obtain ⟨h6, hF⟩ := grd_some hF
      refine A_iald C (HPg_31 q3.2 o) (ixb_in h6) dX6_roomOf_33 (pc' := 34) rfl ?_
      cases hF
      exact A_iret C T (Nat.le_refl _) (Nat.le_refl _) dX6_roomOf_34
    · rw [if_neg c5] at hF
      refine A_iconst C (x := 0) dX6_roomOf_22 (by decide) (pc' := 23) rfl ?_
      cases hF
      exact A_iret C T (Nat.le_refl _) (Nat.le_refl _) dX6_roomOf_23
  clear eJ15
  refine A_aload_n C dX6_roomOf_0 rfl (pc' := 1) rfl ?_
  refine A_aload_n C dX6_roomOf_1 rfl (pc' := 2) rfl ?_
  refine A_iload_n C dX6_roomOf_2 rfl (pc' := 3) rfl ?_
  refine A_iload_n C dX6_roomOf_3 rfl (pc' := 4) rfl ?_
  obtain ⟨q7, h8, hF⟩ := Option.bind_eq_some_iff.mp hF
  refine A_callV C (av := [.int a0, .int a1]) (rest := [.ref 21]) (st2 := [.int q7, .ref 21]) (k2 := 0) (n2 := 0) (F_X6_isItem_ok hu h8) mk_X6_isItem lm_X6_119 wi_X6_isItem wv_X6_isItem (HPg_21 s o) rfl rfl rfl rfl ⟨by decide, by decide⟩ (Nat.le_of_ble_eq_true rfl) rfl rfl dX6_roomOf_4 rfl rfl rfl (pc' := 7) rfl ?_
  refine A_if_ne C dX6_roomOf_7 (tgt := 14) (by decide) (pc' := 10) rfl (fun c9 => ?_) (fun c9 => ?_)
  · rw [if_neg c9] at hF
    refine A_iconst C (x := 0) dX6_roomOf_14 (by decide) (pc' := 15) rfl ?_
    refine A_mask [true, true, true] (lv' := [some (.ref 21), some (.int a0), some (.int a1)]) rfl ?_
    exact hJ15 (0 : Int32) s hF
  · rw [if_pos c9] at hF
    refine A_iconst C (x := 1) dX6_roomOf_10 (by decide) (pc' := 11) rfl ?_
    refine A_goto C dX6_roomOf_11 (tgt := 15) (by decide) ?_
    refine A_mask [true, true, true] (lv' := [some (.ref 21), some (.int a0), some (.int a1)]) rfl ?_
    exact hJ15 (1 : Int32) s hF
def L_X6_gaps_17 : Nat → Int32 → Int32 → Int32 → Int32 → Int32 → Int32 → Int32 → Sg → Option (Int32 × Int32 × Int32)
  | 0, _, _, _, _, _, _, _, _ => none
  | fu + 1, b1, b2, b3, b4, b5, b6, b7, s =>
    if ((b3 + (1 : Int32)) * (s 2202 0)) ≤ b7 then
      some (b4, b5, b6)
    else
      (F_X6_itemAt b1 b2 b7 s).bind fun q4 =>
      if q4 < 0 then
        bnd (b7 + (1 : Int32)) fun x7 =>
        L_X6_gaps_17 fu b1 b2 b3 b4 b5 b6 x7 s
      else
        if 0 ≤ b4 then
          bnd (b6 + (1 : Int32)) fun x10 =>
          bnd (b7 + (1 : Int32)) fun x12 =>
          L_X6_gaps_17 fu b1 b2 b3 b4 b7 x10 x12 s
        else
          bnd (b6 + (1 : Int32)) fun x14 =>
          bnd (b7 + (1 : Int32)) fun x16 =>
          L_X6_gaps_17 fu b1 b2 b3 b7 b7 x14 x16 s
def F_X6_gaps (a0 : Int32) (a1 : Int32) (a2 : Int32) (s : Sg) : Option Int32 :=
  bnd (a2 * (s 2202 0)) fun x1 =>
  (L_X6_gaps_17 FU a0 a1 a2 (-1 : Int32) (-1 : Int32) (0 : Int32) x1 s).bind fun q18 =>
  if q18.2.2 = 0 then
    some (0 : Int32)
  else
    some (((q18.2.1 - q18.1) + (1 : Int32)) - q18.2.2)
set_option maxHeartbeats 4000000 in
set_option maxRecDepth 100000 in
theorem L_X6_gaps_17_ok {Γ : Cx} (hu : Un Γ.2.1) (eN : 8 = Γ.2.2.2.2.2) (C : Cok Γ cX6_gaps RX6 (some .int) 3 0 0) {o : Nat → Int64} : ∀ (fu : Nat) (b1 : Int32) (b2 : Int32) (b3 : Int32) (b4 : Int32) (b5 : Int32) (b6 : Int32) (b7 : Int32) (s : Sg) (q : (Int32 × Int32 × Int32)), L_X6_gaps_17 fu b1 b2 b3 b4 b5 b6 b7 s = some q → AW Γ (HP s o) 0 0 [none, none, none, none, some (.int q.1), some (.int q.2.1), some (.int q.2.2), none] [] 68 → AW Γ (HP s o) 0 0 [some (.ref 21), some (.int b1), some (.int b2), some (.int b3), some (.int b4), some (.int b5), some (.int b6), some (.int b7)] [] 17 := by
  intro fu
  induction fu with
  | zero => intro b1 b2 b3 b4 b5 b6 b7 s q hF; rw [L_X6_gaps_17] at hF; cases hF
  | succ fu ih =>
    intro b1 b2 b3 b4 b5 b6 b7 s q hF hexit
    rw [L_X6_gaps_17] at hF
    refine A_iload C dX6_gaps_17 rfl (pc' := 19) rfl ?_
    refine A_iload_n C dX6_gaps_19 rfl (pc' := 20) rfl ?_
    refine A_iconst C (x := 1) dX6_gaps_20 (by decide) (pc' := 21) rfl ?_
    refine A_iadd C dX6_gaps_21 (pc' := 22) rfl ?_
    refine A_aload_n C dX6_gaps_22 rfl (pc' := 23) rfl ?_
    refine A_get C (j := 2) cl_X6 rfl rfl lf_X6_66 dX6_gaps_23 (HPg_21 s o) rfl (pc' := 26) rfl ?_
    refine A_imul C dX6_gaps_26 (pc' := 27) rfl ?_
    refine A_icmp_ge C dX6_gaps_27 (tgt := 68) (by decide) (pc' := 30) rfl (fun c3 => ?_) (fun c3 => ?_)
    · rw [if_pos c3] at hF
      cases hF
      refine A_mask [false, false, false, false, true, true, true, false] (lv' := [none, none, none, none, some (.int b4), some (.int b5), some (.int b6), none]) rfl ?_
      exact hexit
    · rw [if_neg c3] at hF
      refine A_aload_n C dX6_gaps_30 rfl (pc' := 31) rfl ?_
      refine A_iload_n C dX6_gaps_31 rfl (pc' := 32) rfl ?_
      refine A_iload_n C dX6_gaps_32 rfl (pc' := 33) rfl ?_
      refine A_iload C dX6_gaps_33 rfl (pc' := 35) rfl ?_
      obtain ⟨q4, h5, hF⟩ := Option.bind_eq_some_iff.mp hF
      refine A_callV C (av := [.int b1, .int b2, .int b7]) (rest := []) (st2 := [.int q4]) (k2 := 0) (n2 := 0) (F_X6_itemAt_ok hu h5) mk_X6_itemAt lm_X6_98 wi_X6_itemAt wv_X6_itemAt (HPg_21 s o) rfl rfl rfl rfl ⟨by decide, by decide⟩ (Nat.le_of_ble_eq_true rfl) rfl rfl dX6_gaps_35 rfl rfl rfl (pc' := 38) rfl ?_
      refine A_if_lt C dX6_gaps_38 (tgt := 62) (by decide) (pc' := 41) rfl (fun c6 => ?_) (fun c6 => ?_)
      · rw [if_pos c6] at hF
        obtain ⟨x7, e8, hF⟩ := bnd_some hF
        refine A_iinc C (lv' := [some (.ref 21), some (.int b1), some (.int b2), some (.int b3), some (.int b4), some (.int b5), some (.int b6), some (.int x7)]) dX6_gaps_62 rfl (by rw [e8]; rfl) rfl eN rfl rfl (pc' := 65) rfl ?_
        refine A_goto C dX6_gaps_65 (tgt := 17) (by decide) ?_
        refine A_mask [true, true, true, true, true, true, true, true] (lv' := [some (.ref 21), some (.int b1), some (.int b2), some (.int b3), some (.int b4), some (.int b5), some (.int b6), some (.int x7)]) rfl ?_
        exact ih b1 b2 b3 b4 b5 b6 x7 s q hF hexit
      · rw [if_neg c6] at hF
        refine A_iload C dX6_gaps_41 rfl (pc' := 43) rfl ?_
        refine A_if_ge C dX6_gaps_43 (tgt := 51) (by decide) (pc' := 46) rfl (fun c9 => ?_) (fun c9 => ?_)
        · rw [if_pos c9] at hF
          refine A_iload C dX6_gaps_51 rfl (pc' := 53) rfl ?_
          refine A_istore C (lv' := [some (.ref 21), some (.int b1), some (.int b2), some (.int b3), some (.int b4), some (.int b5), some (.int b6), some (.int b7)]) dX6_gaps_53 rfl eN rfl rfl (pc' := 55) rfl ?_
          refine A_iload C dX6_gaps_55 rfl (pc' := 57) rfl ?_
          refine A_istore C (lv' := [some (.ref 21), some (.int b1), some (.int b2), some (.int b3), some (.int b4), some (.int b7), some (.int b6), some (.int b7)]) dX6_gaps_57 rfl eN rfl rfl (pc' := 59) rfl ?_
          obtain ⟨x10, e11, hF⟩ := bnd_some hF
          refine A_iinc C (lv' := [some (.ref 21), some (.int b1), some (.int b2), some (.int b3), some (.int b4), some (.int b7), some (.int x10), some (.int b7)]) dX6_gaps_59 rfl (by rw [e11]; rfl) rfl eN rfl rfl (pc' := 62) rfl ?_
          obtain ⟨x12, e13, hF⟩ := bnd_some hF
          refine A_iinc C (lv' := [some (.ref 21), some (.int b1), some (.int b2), some (.int b3), some (.int b4), some (.int b7), some (.int x10), some (.int x12)]) dX6_gaps_62 rfl (by rw [e13]; rfl) rfl eN rfl rfl (pc' := 65) rfl ?_
          refine A_goto C dX6_gaps_65 (tgt := 17) (by decide) ?_
          refine A_mask [true, true, true, true, true, true, true, true] (lv' := [some (.ref 21), some (.int b1), some (.int b2), some (.int b3), some (.int b4), some (.int b7), some (.int x10), some (.int x12)]) rfl ?_
          exact ih b1 b2 b3 b4 b7 x10 x12 s q hF hexit
        · rw [if_neg c9] at hF
          refine A_iload C dX6_gaps_46 rfl (pc' := 48) rfl ?_
          refine A_goto C dX6_gaps_48 (tgt := 53) (by decide) ?_
          refine A_istore C (lv' := [some (.ref 21), some (.int b1), some (.int b2), some (.int b3), some (.int b7), some (.int b5), some (.int b6), some (.int b7)]) dX6_gaps_53 rfl eN rfl rfl (pc' := 55) rfl ?_
          refine A_iload C dX6_gaps_55 rfl (pc' := 57) rfl ?_
          refine A_istore C (lv' := [some (.ref 21), some (.int b1), some (.int b2), some (.int b3), some (.int b7), some (.int b7), some (.int b6), some (.int b7)]) dX6_gaps_57 rfl eN rfl rfl (pc' := 59) rfl ?_
          obtain ⟨x14, e15, hF⟩ := bnd_some hF
          refine A_iinc C (lv' := [some (.ref 21), some (.int b1), some (.int b2), some (.int b3), some (.int b7), some (.int b7), some (.int x14), some (.int b7)]) dX6_gaps_59 rfl (by rw [e15]; rfl) rfl eN rfl rfl (pc' := 62) rfl ?_
          obtain ⟨x16, e17, hF⟩ := bnd_some hF
          refine A_iinc C (lv' := [some (.ref 21), some (.int b1), some (.int b2), some (.int b3), some (.int b7), some (.int b7), some (.int x14), some (.int x16)]) dX6_gaps_62 rfl (by rw [e17]; rfl) rfl eN rfl rfl (pc' := 65) rfl ?_
          refine A_goto C dX6_gaps_65 (tgt := 17) (by decide) ?_
          refine A_mask [true, true, true, true, true, true, true, true] (lv' := [some (.ref 21), some (.int b1), some (.int b2), some (.int b3), some (.int b7), some (.int b7), some (.int x14), some (.int x16)]) rfl ?_
          exact ih b1 b2 b3 b7 b7 x14 x16 s q hF hexit
set_option maxHeartbeats 4000000 in
set_option maxRecDepth 100000 in
theorem F_X6_gaps_ok {u : Uv} (hu : Un u) {a0 a1 a2 : Int32} {s : Sg} {o : Nat → Int64} {r : Int32} (hF : F_X6_gaps a0 a1 a2 s = some r) : AM u (yX6_gaps, cX6_gaps, 8, (some .int)) 3 0 0 [.ref 21, .int a0, .int a1, .int a2] (HP s o) (some (.int r)) (HP s o) := by
  refine AM.of hu (lv := [some (.ref 21), some (.int a0), some (.int a1), some (.int a2), none, none, none, none]) (by decide) rfl (Nat.le_of_ble_eq_true rfl) rfl ?_
  intro Γ eu eN C T
  subst eu
  have C : Cok Γ cX6_gaps RX6 (some .int) 3 0 0 := C
  unfold F_X6_gaps at hF
  refine A_iconst C (x := -1) dX6_gaps_0 (by decide) (pc' := 1) rfl ?_
  refine A_istore C (lv' := [some (.ref 21), some (.int a0), some (.int a1), some (.int a2), some (.int (-1 : Int32)), none, none, none]) dX6_gaps_1 rfl eN rfl rfl (pc' := 3) rfl ?_
  refine A_iconst C (x := -1) dX6_gaps_3 (by decide) (pc' := 4) rfl ?_
  refine A_istore C (lv' := [some (.ref 21), some (.int a0), some (.int a1), some (.int a2), some (.int (-1 : Int32)), some (.int (-1 : Int32)), none, none]) dX6_gaps_4 rfl eN rfl rfl (pc' := 6) rfl ?_
  refine A_iconst C (x := 0) dX6_gaps_6 (by decide) (pc' := 7) rfl ?_
  refine A_istore C (lv' := [some (.ref 21), some (.int a0), some (.int a1), some (.int a2), some (.int (-1 : Int32)), some (.int (-1 : Int32)), some (.int (0 : Int32)), none]) dX6_gaps_7 rfl eN rfl rfl (pc' := 9) rfl ?_
  refine A_iload_n C dX6_gaps_9 rfl (pc' := 10) rfl ?_
  refine A_aload_n C dX6_gaps_10 rfl (pc' := 11) rfl ?_
  refine A_get C (j := 2) cl_X6 rfl rfl lf_X6_66 dX6_gaps_11 (HPg_21 s o) rfl (pc' := 14) rfl ?_
  refine A_imul C dX6_gaps_14 (pc' := 15) rfl ?_
  obtain ⟨x1, e2, hF⟩ := bnd_some hF
  refine A_topi e2 ?_
  refine A_istore C (lv' := [some (.ref 21), some (.int a0), some (.int a1), some (.int a2), some (.int (-1 : Int32)), some (.int (-1 : Int32)), some (.int (0 : Int32)), some (.int x1)]) dX6_gaps_15 rfl eN rfl rfl (pc' := 17) rfl ?_
  obtain ⟨q18, h19, hF⟩ := Option.bind_eq_some_iff.mp hF
  refine A_mask [true, true, true, true, true, true, true, true] (lv' := [some (.ref 21), some (.int a0), some (.int a1), some (.int a2), some (.int (-1 : Int32)), some (.int (-1 : Int32)), some (.int (0 : Int32)), some (.int x1)]) rfl ?_
  refine L_X6_gaps_17_ok hu eN C FU a0 a1 a2 (-1 : Int32) (-1 : Int32) (0 : Int32) x1 s q18 h19 ?_
  refine A_iload C dX6_gaps_68 rfl (pc' := 70) rfl ?_
  refine A_if_ne C dX6_gaps_70 (tgt := 77) (by decide) (pc' := 73) rfl (fun c20 => ?_) (fun c20 => ?_)
  · rw [if_neg c20] at hF
    refine A_iload C dX6_gaps_77 rfl (pc' := 79) rfl ?_
    refine A_iload C dX6_gaps_79 rfl (pc' := 81) rfl ?_
    refine A_isub C dX6_gaps_81 (pc' := 82) rfl ?_
    refine A_iconst C (x := 1) dX6_gaps_82 (by decide) (pc' := 83) rfl ?_
    refine A_iadd C dX6_gaps_83 (pc' := 84) rfl ?_
    refine A_iload C dX6_gaps_84 rfl (pc' := 86) rfl ?_
    refine A_isub C dX6_gaps_86 (pc' := 87) rfl ?_
    cases hF
    exact A_iret C T (Nat.le_refl _) (Nat.le_refl _) dX6_gaps_87
  · rw [if_pos c20] at hF
    refine A_iconst C (x := 0) dX6_gaps_73 (by decide) (pc' := 74) rfl ?_
    refine A_goto C dX6_gaps_74 (tgt := 87) (by decide) ?_
    cases hF
    exact A_iret C T (Nat.le_refl _) (Nat.le_refl _) dX6_gaps_87
def L_X6_penaltyNow_12 : Nat → Int32 → Int32 → Int32 → Sg → Option (Int32)
  | 0, _, _, _, _ => none
  | fu + 1, b1, b2, b3, s =>
    if (s 2201 0) ≤ b3 then
      some b1
    else
      (F_X6_gaps (0 : Int32) b2 b3 s).bind fun q3 =>
      (F_X6_gaps (1 : Int32) b2 b3 s).bind fun q5 =>
      bnd (b1 + (((2 : Int32) * q3) + q5)) fun x7 =>
      bnd (b3 + (1 : Int32)) fun x9 =>
      L_X6_penaltyNow_12 fu x7 b2 x9 s
def L_X6_penaltyNow_4 : Nat → Int32 → Int32 → Sg → Option (Int32)
  | 0, _, _, _ => none
  | fu + 1, b1, b2, s =>
    if (8 : Int32) ≤ b2 then
      some b1
    else
      (L_X6_penaltyNow_12 FU b1 b2 (0 : Int32) s).bind fun q11 =>
      bnd (b2 + (1 : Int32)) fun x13 =>
      L_X6_penaltyNow_4 fu q11 x13 s
def L_X6_penaltyNow_54 : Nat → Int32 → Int32 → Sg → Option (Int32)
  | 0, _, _, _ => none
  | fu + 1, b1, b2, s =>
    jn (fun (x17 : Int32) (x18 : Int32) (y19 : Int32) => if y19 = 0 then
          bnd (x17 + (0 : Int32)) fun x21 =>
          bnd (x18 + (1 : Int32)) fun x23 =>
          L_X6_penaltyNow_54 fu x21 x23 s
        else
          bnd (x17 + (3 : Int32)) fun x25 =>
          bnd (x18 + (1 : Int32)) fun x27 =>
          L_X6_penaltyNow_54 fu x25 x27 s) fun J98 =>
    if (64 : Int32) ≤ b2 then
      some b1
    else
      grd (ixb b2 64 = true) <|
      if (s 30 b2.toNatClampNeg) < 0 then
        J98 b1 b2 (0 : Int32)
      else
        grd (ixb b2 64 = true) <|
        (F_X6_lessonOf b2 s).bind fun q33 =>
        grd (ixb q33 16 = true) <|
        grd (¬ (s 2202 0) = 0) <|
        if (((s 30 b2.toNatClampNeg) + (s 27 q33.toNatClampNeg)) - ((s 30 b2.toNatClampNeg) + (s 27 q33.toNatClampNeg)) / (s 2202 0) * (s 2202 0)) = 0 then
          J98 b1 b2 (1 : Int32)
        else
          J98 b1 b2 (0 : Int32)
def F_X6_penaltyNow (s : Sg) : Option Int32 :=
  (L_X6_penaltyNow_4 FU (0 : Int32) (0 : Int32) s).bind fun q15 =>
  (L_X6_penaltyNow_54 FU q15 (0 : Int32) s).bind fun q38 =>
  some q38
set_option maxHeartbeats 4000000 in
set_option maxRecDepth 100000 in
theorem L_X6_penaltyNow_12_ok {Γ : Cx} (hu : Un Γ.2.1) (eN : 4 = Γ.2.2.2.2.2) (C : Cok Γ cX6_penaltyNow RX6 (some .int) 4 0 0) {o : Nat → Int64} : ∀ (fu : Nat) (b1 : Int32) (b2 : Int32) (b3 : Int32) (s : Sg) (q : (Int32)), L_X6_penaltyNow_12 fu b1 b2 b3 s = some q → AW Γ (HP s o) 0 0 [some (.ref 21), some (.int q), some (.int b2), none] [] 46 → AW Γ (HP s o) 0 0 [some (.ref 21), some (.int b1), some (.int b2), some (.int b3)] [] 12 := by
  intro fu
  induction fu with
  | zero => intro b1 b2 b3 s q hF; rw [L_X6_penaltyNow_12] at hF; cases hF
  | succ fu ih =>
    intro b1 b2 b3 s q hF hexit
    rw [L_X6_penaltyNow_12] at hF
    refine A_iload_n C dX6_penaltyNow_12 rfl (pc' := 13) rfl ?_
    refine A_aload_n C dX6_penaltyNow_13 rfl (pc' := 14) rfl ?_
    refine A_get C (j := 1) cl_X6 rfl rfl lf_X6_62 dX6_penaltyNow_14 (HPg_21 s o) rfl (pc' := 17) rfl ?_
    refine A_icmp_ge C dX6_penaltyNow_17 (tgt := 46) (by decide) (pc' := 20) rfl (fun c2 => ?_) (fun c2 => ?_)
    · rw [if_pos c2] at hF
      cases hF
      refine A_mask [true, true, true, false] (lv' := [some (.ref 21), some (.int b1), some (.int b2), none]) rfl ?_
      exact hexit
    · rw [if_neg c2] at hF
      refine A_iload_n C dX6_penaltyNow_20 rfl (pc' := 21) rfl ?_
      refine A_iconst C (x := 2) dX6_penaltyNow_21 (by decide) (pc' := 22) rfl ?_
      refine A_aload_n C dX6_penaltyNow_22 rfl (pc' := 23) rfl ?_
      refine A_iconst C (x := 0) dX6_penaltyNow_23 (by decide) (pc' := 24) rfl ?_
      refine A_iload_n C dX6_penaltyNow_24 rfl (pc' := 25) rfl ?_
      refine A_iload_n C dX6_penaltyNow_25 rfl (pc' := 26) rfl ?_
      obtain ⟨q3, h4, hF⟩ := Option.bind_eq_some_iff.mp hF
      refine A_callV C (av := [.int (0 : Int32), .int b2, .int b3]) (rest := [.int (2 : Int32), .int b1]) (st2 := [.int q3, .int (2 : Int32), .int b1]) (k2 := 0) (n2 := 0) (F_X6_gaps_ok hu h4) mk_X6_gaps lm_X6_145 wi_X6_gaps wv_X6_gaps (HPg_21 s o) rfl rfl rfl rfl ⟨by decide, by decide⟩ (Nat.le_of_ble_eq_true rfl) rfl rfl dX6_penaltyNow_26 rfl rfl rfl (pc' := 29) rfl ?_
      refine A_imul C dX6_penaltyNow_29 (pc' := 30) rfl ?_
      refine A_aload_n C dX6_penaltyNow_30 rfl (pc' := 31) rfl ?_
      refine A_iconst C (x := 1) dX6_penaltyNow_31 (by decide) (pc' := 32) rfl ?_
      refine A_iload_n C dX6_penaltyNow_32 rfl (pc' := 33) rfl ?_
      refine A_iload_n C dX6_penaltyNow_33 rfl (pc' := 34) rfl ?_
      obtain ⟨q5, h6, hF⟩ := Option.bind_eq_some_iff.mp hF
      refine A_callV C (av := [.int (1 : Int32), .int b2, .int b3]) (rest := [.int ((2 : Int32) * q3), .int b1]) (st2 := [.int q5, .int ((2 : Int32) * q3), .int b1]) (k2 := 0) (n2 := 0) (F_X6_gaps_ok hu h6) mk_X6_gaps lm_X6_145 wi_X6_gaps wv_X6_gaps (HPg_21 s o) rfl rfl rfl rfl ⟨by decide, by decide⟩ (Nat.le_of_ble_eq_true rfl) rfl rfl dX6_penaltyNow_34 rfl rfl rfl (pc' := 37) rfl ?_
      refine A_iadd C dX6_penaltyNow_37 (pc' := 38) rfl ?_
      refine A_iadd C dX6_penaltyNow_38 (pc' := 39) rfl ?_
      obtain ⟨x7, e8, hF⟩ := bnd_some hF
      refine A_topi e8 ?_
      refine A_istore_n C (lv' := [some (.ref 21), some (.int x7), some (.int b2), some (.int b3)]) dX6_penaltyNow_39 rfl eN rfl rfl (pc' := 40) rfl ?_
      obtain ⟨x9, e10, hF⟩ := bnd_some hF
      refine A_iinc C (lv' := [some (.ref 21), some (.int x7), some (.int b2), some (.int x9)]) dX6_penaltyNow_40 rfl (by rw [e10]; rfl) rfl eN rfl rfl (pc' := 43) rfl ?_
      refine A_goto C dX6_penaltyNow_43 (tgt := 12) (by decide) ?_
      refine A_mask [true, true, true, true] (lv' := [some (.ref 21), some (.int x7), some (.int b2), some (.int x9)]) rfl ?_
      exact ih x7 b2 x9 s q hF hexit
set_option maxHeartbeats 4000000 in
set_option maxRecDepth 100000 in
theorem L_X6_penaltyNow_4_ok {Γ : Cx} (hu : Un Γ.2.1) (eN : 4 = Γ.2.2.2.2.2) (C : Cok Γ cX6_penaltyNow RX6 (some .int) 4 0 0) {o : Nat → Int64} : ∀ (fu : Nat) (b1 : Int32) (b2 : Int32) (s : Sg) (q : (Int32)), L_X6_penaltyNow_4 fu b1 b2 s = some q → AW Γ (HP s o) 0 0 [some (.ref 21), some (.int q), none, none] [] 52 → AW Γ (HP s o) 0 0 [some (.ref 21), some (.int b1), some (.int b2), none] [] 4 := by
  intro fu
  induction fu with
  | zero => intro b1 b2 s q hF; rw [L_X6_penaltyNow_4] at hF; cases hF
  | succ fu ih =>
    intro b1 b2 s q hF hexit
    rw [L_X6_penaltyNow_4] at hF
    refine A_iload_n C dX6_penaltyNow_4 rfl (pc' := 5) rfl ?_
    refine A_bipush C (x := 8) dX6_penaltyNow_5 (by decide) (pc' := 7) rfl ?_
    refine A_icmp_ge C dX6_penaltyNow_7 (tgt := 52) (by decide) (pc' := 10) rfl (fun c1 => ?_) (fun c1 => ?_)
    · rw [if_pos c1] at hF
      cases hF
      refine A_mask [true, true, false, false] (lv' := [some (.ref 21), some (.int b1), none, none]) rfl ?_
      exact hexit
    · rw [if_neg c1] at hF
      refine A_iconst C (x := 0) dX6_penaltyNow_10 (by decide) (pc' := 11) rfl ?_
      refine A_istore_n C (lv' := [some (.ref 21), some (.int b1), some (.int b2), some (.int (0 : Int32))]) dX6_penaltyNow_11 rfl eN rfl rfl (pc' := 12) rfl ?_
      obtain ⟨q11, h12, hF⟩ := Option.bind_eq_some_iff.mp hF
      refine A_mask [true, true, true, true] (lv' := [some (.ref 21), some (.int b1), some (.int b2), some (.int (0 : Int32))]) rfl ?_
      refine L_X6_penaltyNow_12_ok hu eN C FU b1 b2 (0 : Int32) s q11 h12 ?_
      obtain ⟨x13, e14, hF⟩ := bnd_some hF
      refine A_iinc C (lv' := [some (.ref 21), some (.int q11), some (.int x13), none]) dX6_penaltyNow_46 rfl (by rw [e14]; rfl) rfl eN rfl rfl (pc' := 49) rfl ?_
      refine A_goto C dX6_penaltyNow_49 (tgt := 4) (by decide) ?_
      refine A_mask [true, true, true, false] (lv' := [some (.ref 21), some (.int q11), some (.int x13), none]) rfl ?_
      exact ih q11 x13 s q hF hexit
set_option maxHeartbeats 4000000 in
set_option maxRecDepth 100000 in
theorem L_X6_penaltyNow_54_ok {Γ : Cx} (hu : Un Γ.2.1) (eN : 4 = Γ.2.2.2.2.2) (C : Cok Γ cX6_penaltyNow RX6 (some .int) 4 0 0) {o : Nat → Int64} : ∀ (fu : Nat) (b1 : Int32) (b2 : Int32) (s : Sg) (q : (Int32)), L_X6_penaltyNow_54 fu b1 b2 s = some q → AW Γ (HP s o) 0 0 [none, some (.int q), none, none] [] 117 → AW Γ (HP s o) 0 0 [some (.ref 21), some (.int b1), some (.int b2), none] [] 54 := by
  intro fu
  induction fu with
  | zero => intro b1 b2 s q hF; rw [L_X6_penaltyNow_54] at hF; cases hF
  | succ fu ih =>
    intro b1 b2 s q hF hexit
    rw [L_X6_penaltyNow_54] at hF
    obtain ⟨J98, eJ98, hF⟩ := jn_some hF
    have hJ98 : ∀ (x17 : Int32) (x18 : Int32) (y19 : Int32), J98 x17 x18 y19 = some q → AW Γ (HP s o) 0 0 [some (.ref 21), some (.int x17), some (.int x18), none] [.int y19] 98 := by
      intro x17 x18 y19 hF
      rw [eJ98] at hF
      dsimp only at hF
      refine A_istore_n C (lv' := [some (.ref 21), some (.int x17), some (.int x18), some (.int y19)]) dX6_penaltyNow_98 rfl eN rfl rfl (pc' := 99) rfl ?_
      refine A_iload_n C dX6_penaltyNow_99 rfl (pc' := 100) rfl ?_
      refine A_iload_n C dX6_penaltyNow_100 rfl (pc' := 101) rfl ?_
      refine A_if_eq C dX6_penaltyNow_101 (tgt := 108) (by decide) (pc' := 104) rfl (fun c20 => ?_) (fun c20 => ?_)
      · rw [if_pos c20] at hF
        refine A_iconst C (x := 0) dX6_penaltyNow_108 (by decide) (pc' := 109) rfl ?_
        refine A_iadd C dX6_penaltyNow_109 (pc' := 110) rfl ?_
        obtain ⟨x21, e22, hF⟩ := bnd_some hF
        refine A_topi e22 ?_
        refine A_istore_n C (lv' := [some (.ref 21), some (.int x21), some (.int x18), some (.int y19)]) dX6_penaltyNow_110 rfl eN rfl rfl (pc' := 111) rfl ?_
        obtain ⟨x23, e24, hF⟩ := bnd_some hF
        refine A_iinc C (lv' := [some (.ref 21), some (.int x21), some (.int x23), some (.int y19)]) dX6_penaltyNow_111 rfl (by rw [e24]; rfl) rfl eN rfl rfl (pc' := 114) rfl ?_
        refine A_goto C dX6_penaltyNow_114 (tgt := 54) (by decide) ?_
        refine A_mask [true, true, true, false] (lv' := [some (.ref 21), some (.int x21), some (.int x23), none]) rfl ?_
        exact ih x21 x23 s q hF hexit
      · rw [if_neg c20] at hF
        refine A_iconst C (x := 3) dX6_penaltyNow_104 (by decide) (pc' := 105) rfl ?_
        refine A_goto C dX6_penaltyNow_105 (tgt := 109) (by decide) ?_
        refine A_iadd C dX6_penaltyNow_109 (pc' := 110) rfl ?_
        obtain ⟨x25, e26, hF⟩ := bnd_some hF
        refine A_topi e26 ?_
        refine A_istore_n C (lv' := [some (.ref 21), some (.int x25), some (.int x18), some (.int y19)]) dX6_penaltyNow_110 rfl eN rfl rfl (pc' := 111) rfl ?_
        obtain ⟨x27, e28, hF⟩ := bnd_some hF
        refine A_iinc C (lv' := [some (.ref 21), some (.int x25), some (.int x27), some (.int y19)]) dX6_penaltyNow_111 rfl (by rw [e28]; rfl) rfl eN rfl rfl (pc' := 114) rfl ?_
        refine A_goto C dX6_penaltyNow_114 (tgt := 54) (by decide) ?_
        refine A_mask [true, true, true, false] (lv' := [some (.ref 21), some (.int x25), some (.int x27), none]) rfl ?_
        exact ih x25 x27 s q hF hexit
    clear eJ98
    refine A_iload_n C dX6_penaltyNow_54 rfl (pc' := 55) rfl ?_
    refine A_bipush C (x := 64) dX6_penaltyNow_55 (by decide) (pc' := 57) rfl ?_
    refine A_icmp_ge C dX6_penaltyNow_57 (tgt := 117) (by decide) (pc' := 60) rfl (fun c29 => ?_) (fun c29 => ?_)
    · rw [if_pos c29] at hF
      cases hF
      refine A_mask [false, true, false, false] (lv' := [none, some (.int b1), none, none]) rfl ?_
      exact hexit
    · rw [if_neg c29] at hF
      refine A_aload_n C dX6_penaltyNow_60 rfl (pc' := 61) rfl ?_
      refine A_get C (j := 12) cl_X6 rfl rfl lf_X6_34 dX6_penaltyNow_61 (HPg_21 s o) rfl (pc' := 64) rfl ?_
      refine A_iload_n C dX6_penaltyNow_64 rfl (pc' := 65) rfl ?_
      obtain ⟨h30, hF⟩ := grd_some hF
      refine A_iald C (HPg_30 s o) (ixb_in h30) dX6_penaltyNow_65 (pc' := 66) rfl ?_
      refine A_if_lt C dX6_penaltyNow_66 (tgt := 97) (by decide) (pc' := 69) rfl (fun c31 => ?_) (fun c31 => ?_)
      · rw [if_pos c31] at hF
        refine A_iconst C (x := 0) dX6_penaltyNow_97 (by decide) (pc' := 98) rfl ?_
        refine A_mask [true, true, true, false] (lv' := [some (.ref 21), some (.int b1), some (.int b2), none]) rfl ?_
        exact hJ98 b1 b2 (0 : Int32) hF
      · rw [if_neg c31] at hF
        refine A_aload_n C dX6_penaltyNow_69 rfl (pc' := 70) rfl ?_
        refine A_get C (j := 12) cl_X6 rfl rfl lf_X6_34 dX6_penaltyNow_70 (HPg_21 s o) rfl (pc' := 73) rfl ?_
        refine A_iload_n C dX6_penaltyNow_73 rfl (pc' := 74) rfl ?_
        obtain ⟨h32, hF⟩ := grd_some hF
        refine A_iald C (HPg_30 s o) (ixb_in h32) dX6_penaltyNow_74 (pc' := 75) rfl ?_
        refine A_aload_n C dX6_penaltyNow_75 rfl (pc' := 76) rfl ?_
        refine A_get C (j := 9) cl_X6 rfl rfl lf_X6_25 dX6_penaltyNow_76 (HPg_21 s o) rfl (pc' := 79) rfl ?_
        refine A_iload_n C dX6_penaltyNow_79 rfl (pc' := 80) rfl ?_
        obtain ⟨q33, h34, hF⟩ := Option.bind_eq_some_iff.mp hF
        refine A_callS C (av := [.int b2]) (rest := [.ref 27, .int (s 30 b2.toNatClampNeg)]) (st2 := [.int q33, .ref 27, .int (s 30 b2.toNatClampNeg)]) (k2 := 0) (n2 := 0) (F_X6_lessonOf_ok hu h34) mk_X6_lessonOf lm_X6_79 ws_X6_lessonOf rfl rfl rfl ⟨by decide, by decide⟩ (Nat.le_of_ble_eq_true rfl) rfl rfl dX6_penaltyNow_80 rfl rfl rfl (pc' := 83) rfl ?_
        obtain ⟨h35, hF⟩ := grd_some hF
        refine A_iald C (HPg_27 s o) (ixb_in h35) dX6_penaltyNow_83 (pc' := 84) rfl ?_
        refine A_iadd C dX6_penaltyNow_84 (pc' := 85) rfl ?_
        refine A_aload_n C dX6_penaltyNow_85 rfl (pc' := 86) rfl ?_
        refine A_get C (j := 2) cl_X6 rfl rfl lf_X6_66 dX6_penaltyNow_86 (HPg_21 s o) rfl (pc' := 89) rfl ?_
        obtain ⟨h36, hF⟩ := grd_some hF
        refine A_irem C dX6_penaltyNow_89 h36 (pc' := 90) rfl ?_
        refine A_if_ne C dX6_penaltyNow_90 (tgt := 97) (by decide) (pc' := 93) rfl (fun c37 => ?_) (fun c37 => ?_)
        · rw [if_neg c37] at hF
          refine A_iconst C (x := 0) dX6_penaltyNow_97 (by decide) (pc' := 98) rfl ?_
          refine A_mask [true, true, true, false] (lv' := [some (.ref 21), some (.int b1), some (.int b2), none]) rfl ?_
          exact hJ98 b1 b2 (0 : Int32) hF
        · rw [if_pos c37] at hF
          refine A_iconst C (x := 1) dX6_penaltyNow_93 (by decide) (pc' := 94) rfl ?_
          refine A_goto C dX6_penaltyNow_94 (tgt := 98) (by decide) ?_
          refine A_mask [true, true, true, false] (lv' := [some (.ref 21), some (.int b1), some (.int b2), none]) rfl ?_
          exact hJ98 b1 b2 (1 : Int32) hF
set_option maxHeartbeats 4000000 in
set_option maxRecDepth 100000 in
theorem F_X6_penaltyNow_ok {u : Uv} (hu : Un u) {s : Sg} {o : Nat → Int64} {r : Int32} (hF : F_X6_penaltyNow  s = some r) : AM u (yX6_penaltyNow, cX6_penaltyNow, 4, (some .int)) 4 0 0 [.ref 21] (HP s o) (some (.int r)) (HP s o) := by
  refine AM.of hu (lv := [some (.ref 21), none, none, none]) (by decide) rfl (Nat.le_of_ble_eq_true rfl) rfl ?_
  intro Γ eu eN C T
  subst eu
  have C : Cok Γ cX6_penaltyNow RX6 (some .int) 4 0 0 := C
  unfold F_X6_penaltyNow at hF
  refine A_iconst C (x := 0) dX6_penaltyNow_0 (by decide) (pc' := 1) rfl ?_
  refine A_istore_n C (lv' := [some (.ref 21), some (.int (0 : Int32)), none, none]) dX6_penaltyNow_1 rfl eN rfl rfl (pc' := 2) rfl ?_
  refine A_iconst C (x := 0) dX6_penaltyNow_2 (by decide) (pc' := 3) rfl ?_
  refine A_istore_n C (lv' := [some (.ref 21), some (.int (0 : Int32)), some (.int (0 : Int32)), none]) dX6_penaltyNow_3 rfl eN rfl rfl (pc' := 4) rfl ?_
  obtain ⟨q15, h16, hF⟩ := Option.bind_eq_some_iff.mp hF
  refine A_mask [true, true, true, false] (lv' := [some (.ref 21), some (.int (0 : Int32)), some (.int (0 : Int32)), none]) rfl ?_
  refine L_X6_penaltyNow_4_ok hu eN C FU (0 : Int32) (0 : Int32) s q15 h16 ?_
  refine A_iconst C (x := 0) dX6_penaltyNow_52 (by decide) (pc' := 53) rfl ?_
  refine A_istore_n C (lv' := [some (.ref 21), some (.int q15), some (.int (0 : Int32)), none]) dX6_penaltyNow_53 rfl eN rfl rfl (pc' := 54) rfl ?_
  obtain ⟨q38, h39, hF⟩ := Option.bind_eq_some_iff.mp hF
  refine A_mask [true, true, true, false] (lv' := [some (.ref 21), some (.int q15), some (.int (0 : Int32)), none]) rfl ?_
  refine L_X6_penaltyNow_54_ok hu eN C FU q15 (0 : Int32) s q38 h39 ?_
  refine A_iload_n C dX6_penaltyNow_117 rfl (pc' := 118) rfl ?_
  cases hF
  exact A_iret C T (Nat.le_refl _) (Nat.le_refl _) dX6_penaltyNow_118
def F_X6_penalty (s : Sg) : Option (Int32 × Sg) :=
  bnd (va_up s 2200 (fun _ => (0 : Int32))) fun s1 =>
  (F_X6_penaltyNow  s1).bind fun q3 =>
  some (q3, s1)
set_option maxHeartbeats 4000000 in
set_option maxRecDepth 100000 in
theorem F_X6_penalty_ok {u : Uv} (hu : Un u) {s : Sg} {o : Nat → Int64} {r : (Int32 × Sg)} (hF : F_X6_penalty  s = some r) : AM u (yX6_penalty, cX6_penalty, 1, (some .int)) 5 0 0 [.ref 21] (HP s o) (some (.int r.1)) (HP r.2 o) := by
  refine AM.of hu (lv := [some (.ref 21)]) (by decide) rfl (Nat.le_of_ble_eq_true rfl) rfl ?_
  intro Γ eu eN C T
  subst eu
  have C : Cok Γ cX6_penalty RX6 (some .int) 5 0 0 := C
  unfold F_X6_penalty at hF
  refine A_aload_n C dX6_penalty_0 rfl (pc' := 1) rfl ?_
  refine A_iconst C (x := 0) dX6_penalty_1 (by decide) (pc' := 2) rfl ?_
  obtain ⟨s1, e2, hF⟩ := bnd_some hF
  refine A_put C (j := 0) (h1 := HP s1 o) tyX6 tyX6_ok nmX6 cl_X6 rfl rfl lf_X6_69 rfl (tyX6_ok 0 (by decide)) (fun _ => rfl) (fun _ => rfl) rfl dX6_penalty_2 (HPg_21 s o) (by rw [e2]; exact HPp_21_0 s o _) (pc' := 5) rfl ?_
  refine A_aload_n C dX6_penalty_5 rfl (pc' := 6) rfl ?_
  obtain ⟨q3, h4, hF⟩ := Option.bind_eq_some_iff.mp hF
  refine A_callV C (av := []) (rest := []) (st2 := [.int q3]) (k2 := 0) (n2 := 0) (F_X6_penaltyNow_ok hu h4) mk_X6_penaltyNow lm_X6_148 wi_X6_penaltyNow wv_X6_penaltyNow (HPg_21 s1 o) rfl rfl rfl rfl ⟨by decide, by decide⟩ (Nat.le_of_ble_eq_true rfl) rfl rfl dX6_penalty_6 rfl rfl rfl (pc' := 9) rfl ?_
  cases hF
  exact A_iret C T (Nat.le_refl _) (Nat.le_refl _) dX6_penalty_9
def L_X6_move_31 : Nat → Int32 → Int32 → Int32 → Int32 → Int32 → Int32 → Sg → Option (Int32 × Sg)
  | 0, _, _, _, _, _, _, _ => none
  | fu + 1, b1, b2, b3, b4, b5, b6, s =>
    jn (fun (x11 : Int32) (x12 : Int32) (x13 : Int32) (y14 : Int32) (s15 : Sg) => if x11 ≤ x13 then
          (F_X6_out b1 s15).bind fun q17 =>
          bnd (x12 + (1 : Int32)) fun x19 =>
          L_X6_move_31 fu b1 b2 b3 x11 y14 x19 q17
        else
          (F_X6_out b1 s15).bind fun q21 =>
          bnd (x12 + (1 : Int32)) fun x23 =>
          L_X6_move_31 fu b1 b2 b3 x13 y14 x23 q21) fun J82 =>
    if ((s 2201 0) * (s 2202 0)) ≤ b6 then
      some (b5, s)
    else
      (F_X6_rule b1 b6 s).bind fun q26 =>
      if q26 = 0 then
        (F_X6_put b1 b6 s).bind fun q31 =>
        (F_X6_penaltyNow  q31).bind fun q33 =>
        if b4 ≤ q33 then
          J82 b4 b6 q33 b5 q31
        else
          J82 b4 b6 q33 b6 q31
      else
        bnd (b6 + (1 : Int32)) fun x29 =>
        L_X6_move_31 fu b1 b2 b3 b4 b5 x29 s
def F_X6_move (a0 : Int32) (s : Sg) : Option (Int32 × Sg) :=
  grd (ixb a0 64 = true) <|
  bnd (s 30 a0.toNatClampNeg) fun x2 =>
  grd (ixb a0 64 = true) <|
  bnd (s 31 a0.toNatClampNeg) fun x5 =>
  (F_X6_penaltyNow  s).bind fun q7 =>
  (F_X6_out a0 s).bind fun q9 =>
  (L_X6_move_31 FU a0 x2 x5 q7 (-1 : Int32) (0 : Int32) q9).bind fun q36 =>
  if q36.1 < 0 then
    grd (ixb a0 64 = true) <|
    bnd (va_up q36.2 30 (upd (q36.2 30) a0.toNatClampNeg x2)) fun s40 =>
    grd (ixb a0 64 = true) <|
    bnd (va_up s40 31 (upd (s40 31) a0.toNatClampNeg x5)) fun s43 =>
    some ((0 : Int32), s43)
  else
    (F_X6_put a0 q36.1 q36.2).bind fun q45 =>
    some ((1 : Int32), q45)
set_option maxHeartbeats 4000000 in
set_option maxRecDepth 100000 in
theorem L_X6_move_31_ok {Γ : Cx} (hu : Un Γ.2.1) (eN : 8 = Γ.2.2.2.2.2) (C : Cok Γ cX6_move RX6 (some .boolean) 6 0 0) {o : Nat → Int64} : ∀ (fu : Nat) (b1 : Int32) (b2 : Int32) (b3 : Int32) (b4 : Int32) (b5 : Int32) (b6 : Int32) (s : Sg) (q : (Int32 × Sg)), L_X6_move_31 fu b1 b2 b3 b4 b5 b6 s = some q → AW Γ (HP q.2 o) 0 0 [some (.ref 21), some (.int b1), some (.int b2), some (.int b3), none, some (.int q.1), none, none] [] 111 → AW Γ (HP s o) 0 0 [some (.ref 21), some (.int b1), some (.int b2), some (.int b3), some (.int b4), some (.int b5), some (.int b6), none] [] 31 := by
  intro fu
  induction fu with
  | zero => intro b1 b2 b3 b4 b5 b6 s q hF; rw [L_X6_move_31] at hF; cases hF
  | succ fu ih =>
    intro b1 b2 b3 b4 b5 b6 s q hF hexit
    rw [L_X6_move_31] at hF
    obtain ⟨J82, eJ82, hF⟩ := jn_some hF
    have hJ82 : ∀ (x11 : Int32) (x12 : Int32) (x13 : Int32) (y14 : Int32) (s15 : Sg), J82 x11 x12 x13 y14 s15 = some q → AW Γ (HP s15 o) 0 0 [some (.ref 21), some (.int b1), some (.int b2), some (.int b3), some (.int x11), none, some (.int x12), some (.int x13)] [.int y14] 82 := by
      intro x11 x12 x13 y14 s15 hF
      rw [eJ82] at hF
      dsimp only at hF
      refine A_istore C (lv' := [some (.ref 21), some (.int b1), some (.int b2), some (.int b3), some (.int x11), some (.int y14), some (.int x12), some (.int x13)]) dX6_move_82 rfl eN rfl rfl (pc' := 84) rfl ?_
      refine A_iload C dX6_move_84 rfl (pc' := 86) rfl ?_
      refine A_iload C dX6_move_86 rfl (pc' := 88) rfl ?_
      refine A_icmp_ge C dX6_move_88 (tgt := 96) (by decide) (pc' := 91) rfl (fun c16 => ?_) (fun c16 => ?_)
      · rw [if_pos c16] at hF
        refine A_iload C dX6_move_96 rfl (pc' := 98) rfl ?_
        refine A_istore C (lv' := [some (.ref 21), some (.int b1), some (.int b2), some (.int b3), some (.int x11), some (.int y14), some (.int x12), some (.int x13)]) dX6_move_98 rfl eN rfl rfl (pc' := 100) rfl ?_
        refine A_aload_n C dX6_move_100 rfl (pc' := 101) rfl ?_
        refine A_iload_n C dX6_move_101 rfl (pc' := 102) rfl ?_
        obtain ⟨q17, h18, hF⟩ := Option.bind_eq_some_iff.mp hF
        refine A_callV C (av := [.int b1]) (rest := []) (st2 := []) (k2 := 0) (n2 := 0) (F_X6_out_ok hu h18) mk_X6_out lm_X6_135 wi_X6_out wv_X6_out (HPg_21 s15 o) rfl rfl rfl rfl ⟨by decide, by decide⟩ (Nat.le_of_ble_eq_true rfl) rfl rfl dX6_move_102 rfl rfl rfl (pc' := 105) rfl ?_
        obtain ⟨x19, e20, hF⟩ := bnd_some hF
        refine A_iinc C (lv' := [some (.ref 21), some (.int b1), some (.int b2), some (.int b3), some (.int x11), some (.int y14), some (.int x19), some (.int x13)]) dX6_move_105 rfl (by rw [e20]; rfl) rfl eN rfl rfl (pc' := 108) rfl ?_
        refine A_goto C dX6_move_108 (tgt := 31) (by decide) ?_
        refine A_mask [true, true, true, true, true, true, true, false] (lv' := [some (.ref 21), some (.int b1), some (.int b2), some (.int b3), some (.int x11), some (.int y14), some (.int x19), none]) rfl ?_
        exact ih b1 b2 b3 x11 y14 x19 q17 q hF hexit
      · rw [if_neg c16] at hF
        refine A_iload C dX6_move_91 rfl (pc' := 93) rfl ?_
        refine A_goto C dX6_move_93 (tgt := 98) (by decide) ?_
        refine A_istore C (lv' := [some (.ref 21), some (.int b1), some (.int b2), some (.int b3), some (.int x13), some (.int y14), some (.int x12), some (.int x13)]) dX6_move_98 rfl eN rfl rfl (pc' := 100) rfl ?_
        refine A_aload_n C dX6_move_100 rfl (pc' := 101) rfl ?_
        refine A_iload_n C dX6_move_101 rfl (pc' := 102) rfl ?_
        obtain ⟨q21, h22, hF⟩ := Option.bind_eq_some_iff.mp hF
        refine A_callV C (av := [.int b1]) (rest := []) (st2 := []) (k2 := 0) (n2 := 0) (F_X6_out_ok hu h22) mk_X6_out lm_X6_135 wi_X6_out wv_X6_out (HPg_21 s15 o) rfl rfl rfl rfl ⟨by decide, by decide⟩ (Nat.le_of_ble_eq_true rfl) rfl rfl dX6_move_102 rfl rfl rfl (pc' := 105) rfl ?_
        obtain ⟨x23, e24, hF⟩ := bnd_some hF
        refine A_iinc C (lv' := [some (.ref 21), some (.int b1), some (.int b2), some (.int b3), some (.int x13), some (.int y14), some (.int x23), some (.int x13)]) dX6_move_105 rfl (by rw [e24]; rfl) rfl eN rfl rfl (pc' := 108) rfl ?_
        refine A_goto C dX6_move_108 (tgt := 31) (by decide) ?_
        refine A_mask [true, true, true, true, true, true, true, false] (lv' := [some (.ref 21), some (.int b1), some (.int b2), some (.int b3), some (.int x13), some (.int y14), some (.int x23), none]) rfl ?_
        exact ih b1 b2 b3 x13 y14 x23 q21 q hF hexit
    clear eJ82
    refine A_iload C dX6_move_31 rfl (pc' := 33) rfl ?_
    refine A_aload_n C dX6_move_33 rfl (pc' := 34) rfl ?_
    refine A_get C (j := 1) cl_X6 rfl rfl lf_X6_62 dX6_move_34 (HPg_21 s o) rfl (pc' := 37) rfl ?_
    refine A_aload_n C dX6_move_37 rfl (pc' := 38) rfl ?_
    refine A_get C (j := 2) cl_X6 rfl rfl lf_X6_66 dX6_move_38 (HPg_21 s o) rfl (pc' := 41) rfl ?_
    refine A_imul C dX6_move_41 (pc' := 42) rfl ?_
    refine A_icmp_ge C dX6_move_42 (tgt := 111) (by decide) (pc' := 45) rfl (fun c25 => ?_) (fun c25 => ?_)
    · rw [if_pos c25] at hF
      cases hF
      refine A_mask [true, true, true, true, false, true, false, false] (lv' := [some (.ref 21), some (.int b1), some (.int b2), some (.int b3), none, some (.int b5), none, none]) rfl ?_
      exact hexit
    · rw [if_neg c25] at hF
      refine A_aload_n C dX6_move_45 rfl (pc' := 46) rfl ?_
      refine A_iload_n C dX6_move_46 rfl (pc' := 47) rfl ?_
      refine A_iload C dX6_move_47 rfl (pc' := 49) rfl ?_
      obtain ⟨q26, h27, hF⟩ := Option.bind_eq_some_iff.mp hF
      refine A_callV C (av := [.int b1, .int b6]) (rest := []) (st2 := [.int q26]) (k2 := 0) (n2 := 0) (F_X6_rule_ok hu h27) mk_X6_rule lm_X6_122 wi_X6_rule wv_X6_rule (HPg_21 s o) rfl rfl rfl rfl ⟨by decide, by decide⟩ (Nat.le_of_ble_eq_true rfl) rfl rfl dX6_move_49 rfl rfl rfl (pc' := 52) rfl ?_
      refine A_if_ne C dX6_move_52 (tgt := 105) (by decide) (pc' := 55) rfl (fun c28 => ?_) (fun c28 => ?_)
      · rw [if_neg c28] at hF
        obtain ⟨x29, e30, hF⟩ := bnd_some hF
        refine A_iinc C (lv' := [some (.ref 21), some (.int b1), some (.int b2), some (.int b3), some (.int b4), some (.int b5), some (.int x29), none]) dX6_move_105 rfl (by rw [e30]; rfl) rfl eN rfl rfl (pc' := 108) rfl ?_
        refine A_goto C dX6_move_108 (tgt := 31) (by decide) ?_
        refine A_mask [true, true, true, true, true, true, true, false] (lv' := [some (.ref 21), some (.int b1), some (.int b2), some (.int b3), some (.int b4), some (.int b5), some (.int x29), none]) rfl ?_
        exact ih b1 b2 b3 b4 b5 x29 s q hF hexit
      · rw [if_pos c28] at hF
        refine A_aload_n C dX6_move_55 rfl (pc' := 56) rfl ?_
        refine A_iload_n C dX6_move_56 rfl (pc' := 57) rfl ?_
        refine A_iload C dX6_move_57 rfl (pc' := 59) rfl ?_
        obtain ⟨q31, h32, hF⟩ := Option.bind_eq_some_iff.mp hF
        refine A_callV C (av := [.int b1, .int b6]) (rest := []) (st2 := []) (k2 := 0) (n2 := 0) (F_X6_put_ok hu h32) mk_X6_put lm_X6_128 wi_X6_put wv_X6_put (HPg_21 s o) rfl rfl rfl rfl ⟨by decide, by decide⟩ (Nat.le_of_ble_eq_true rfl) rfl rfl dX6_move_59 rfl rfl rfl (pc' := 62) rfl ?_
        refine A_aload_n C dX6_move_62 rfl (pc' := 63) rfl ?_
        obtain ⟨q33, h34, hF⟩ := Option.bind_eq_some_iff.mp hF
        refine A_callV C (av := []) (rest := []) (st2 := [.int q33]) (k2 := 0) (n2 := 0) (F_X6_penaltyNow_ok hu h34) mk_X6_penaltyNow lm_X6_148 wi_X6_penaltyNow wv_X6_penaltyNow (HPg_21 q31 o) rfl rfl rfl rfl ⟨by decide, by decide⟩ (Nat.le_of_ble_eq_true rfl) rfl rfl dX6_move_63 rfl rfl rfl (pc' := 66) rfl ?_
        refine A_istore C (lv' := [some (.ref 21), some (.int b1), some (.int b2), some (.int b3), some (.int b4), some (.int b5), some (.int b6), some (.int q33)]) dX6_move_66 rfl eN rfl rfl (pc' := 68) rfl ?_
        refine A_iload C dX6_move_68 rfl (pc' := 70) rfl ?_
        refine A_iload C dX6_move_70 rfl (pc' := 72) rfl ?_
        refine A_icmp_ge C dX6_move_72 (tgt := 80) (by decide) (pc' := 75) rfl (fun c35 => ?_) (fun c35 => ?_)
        · rw [if_pos c35] at hF
          refine A_iload C dX6_move_80 rfl (pc' := 82) rfl ?_
          refine A_mask [true, true, true, true, true, false, true, true] (lv' := [some (.ref 21), some (.int b1), some (.int b2), some (.int b3), some (.int b4), none, some (.int b6), some (.int q33)]) rfl ?_
          exact hJ82 b4 b6 q33 b5 q31 hF
        · rw [if_neg c35] at hF
          refine A_iload C dX6_move_75 rfl (pc' := 77) rfl ?_
          refine A_goto C dX6_move_77 (tgt := 82) (by decide) ?_
          refine A_mask [true, true, true, true, true, false, true, true] (lv' := [some (.ref 21), some (.int b1), some (.int b2), some (.int b3), some (.int b4), none, some (.int b6), some (.int q33)]) rfl ?_
          exact hJ82 b4 b6 q33 b6 q31 hF
set_option maxHeartbeats 4000000 in
set_option maxRecDepth 100000 in
theorem F_X6_move_ok {u : Uv} (hu : Un u) {a0 : Int32} {s : Sg} {o : Nat → Int64} {r : (Int32 × Sg)} (hF : F_X6_move a0 s = some r) : AM u (yX6_move, cX6_move, 8, (some .boolean)) 6 0 0 [.ref 21, .int a0] (HP s o) (some (.int r.1)) (HP r.2 o) := by
  refine AM.of hu (lv := [some (.ref 21), some (.int a0), none, none, none, none, none, none]) (by decide) rfl (Nat.le_of_ble_eq_true rfl) rfl ?_
  intro Γ eu eN C T
  subst eu
  have C : Cok Γ cX6_move RX6 (some .boolean) 6 0 0 := C
  unfold F_X6_move at hF
  refine A_aload_n C dX6_move_0 rfl (pc' := 1) rfl ?_
  refine A_get C (j := 12) cl_X6 rfl rfl lf_X6_34 dX6_move_1 (HPg_21 s o) rfl (pc' := 4) rfl ?_
  refine A_iload_n C dX6_move_4 rfl (pc' := 5) rfl ?_
  obtain ⟨h1, hF⟩ := grd_some hF
  refine A_iald C (HPg_30 s o) (ixb_in h1) dX6_move_5 (pc' := 6) rfl ?_
  obtain ⟨x2, e3, hF⟩ := bnd_some hF
  refine A_topi e3 ?_
  refine A_istore_n C (lv' := [some (.ref 21), some (.int a0), some (.int x2), none, none, none, none, none]) dX6_move_6 rfl eN rfl rfl (pc' := 7) rfl ?_
  refine A_aload_n C dX6_move_7 rfl (pc' := 8) rfl ?_
  refine A_get C (j := 13) cl_X6 rfl rfl lf_X6_37 dX6_move_8 (HPg_21 s o) rfl (pc' := 11) rfl ?_
  refine A_iload_n C dX6_move_11 rfl (pc' := 12) rfl ?_
  obtain ⟨h4, hF⟩ := grd_some hF
  refine A_iald C (HPg_31 s o) (ixb_in h4) dX6_move_12 (pc' := 13) rfl ?_
  obtain ⟨x5, e6, hF⟩ := bnd_some hF
  refine A_topi e6 ?_
  refine A_istore_n C (lv' := [some (.ref 21), some (.int a0), some (.int x2), some (.int x5), none, none, none, none]) dX6_move_13 rfl eN rfl rfl (pc' := 14) rfl ?_
  refine A_aload_n C dX6_move_14 rfl (pc' := 15) rfl ?_
  obtain ⟨q7, h8, hF⟩ := Option.bind_eq_some_iff.mp hF
  refine A_callV C (av := []) (rest := []) (st2 := [.int q7]) (k2 := 0) (n2 := 0) (F_X6_penaltyNow_ok hu h8) mk_X6_penaltyNow lm_X6_148 wi_X6_penaltyNow wv_X6_penaltyNow (HPg_21 s o) rfl rfl rfl rfl ⟨by decide, by decide⟩ (Nat.le_of_ble_eq_true rfl) rfl rfl dX6_move_15 rfl rfl rfl (pc' := 18) rfl ?_
  refine A_istore C (lv' := [some (.ref 21), some (.int a0), some (.int x2), some (.int x5), some (.int q7), none, none, none]) dX6_move_18 rfl eN rfl rfl (pc' := 20) rfl ?_
  refine A_iconst C (x := -1) dX6_move_20 (by decide) (pc' := 21) rfl ?_
  refine A_istore C (lv' := [some (.ref 21), some (.int a0), some (.int x2), some (.int x5), some (.int q7), some (.int (-1 : Int32)), none, none]) dX6_move_21 rfl eN rfl rfl (pc' := 23) rfl ?_
  refine A_aload_n C dX6_move_23 rfl (pc' := 24) rfl ?_
  refine A_iload_n C dX6_move_24 rfl (pc' := 25) rfl ?_
  obtain ⟨q9, h10, hF⟩ := Option.bind_eq_some_iff.mp hF
  refine A_callV C (av := [.int a0]) (rest := []) (st2 := []) (k2 := 0) (n2 := 0) (F_X6_out_ok hu h10) mk_X6_out lm_X6_135 wi_X6_out wv_X6_out (HPg_21 s o) rfl rfl rfl rfl ⟨by decide, by decide⟩ (Nat.le_of_ble_eq_true rfl) rfl rfl dX6_move_25 rfl rfl rfl (pc' := 28) rfl ?_
  refine A_iconst C (x := 0) dX6_move_28 (by decide) (pc' := 29) rfl ?_
  refine A_istore C (lv' := [some (.ref 21), some (.int a0), some (.int x2), some (.int x5), some (.int q7), some (.int (-1 : Int32)), some (.int (0 : Int32)), none]) dX6_move_29 rfl eN rfl rfl (pc' := 31) rfl ?_
  obtain ⟨q36, h37, hF⟩ := Option.bind_eq_some_iff.mp hF
  refine A_mask [true, true, true, true, true, true, true, false] (lv' := [some (.ref 21), some (.int a0), some (.int x2), some (.int x5), some (.int q7), some (.int (-1 : Int32)), some (.int (0 : Int32)), none]) rfl ?_
  refine L_X6_move_31_ok hu eN C FU a0 x2 x5 q7 (-1 : Int32) (0 : Int32) q9 q36 h37 ?_
  refine A_iload C dX6_move_111 rfl (pc' := 113) rfl ?_
  refine A_if_lt C dX6_move_113 (tgt := 125) (by decide) (pc' := 116) rfl (fun c38 => ?_) (fun c38 => ?_)
  · rw [if_pos c38] at hF
    refine A_aload_n C dX6_move_125 rfl (pc' := 126) rfl ?_
    refine A_get C (j := 12) cl_X6 rfl rfl lf_X6_34 dX6_move_126 (HPg_21 q36.2 o) rfl (pc' := 129) rfl ?_
    refine A_iload_n C dX6_move_129 rfl (pc' := 130) rfl ?_
    refine A_iload_n C dX6_move_130 rfl (pc' := 131) rfl ?_
    obtain ⟨h39, hF⟩ := grd_some hF
    obtain ⟨s40, e41, hF⟩ := bnd_some hF
    refine A_iast C (h1 := HP s40 o) (HPg_30 q36.2 o) (ixb_in h39) (by rw [e41]; exact HPs_30 q36.2 o _) dX6_move_131 (pc' := 132) rfl ?_
    refine A_aload_n C dX6_move_132 rfl (pc' := 133) rfl ?_
    refine A_get C (j := 13) cl_X6 rfl rfl lf_X6_37 dX6_move_133 (HPg_21 s40 o) rfl (pc' := 136) rfl ?_
    refine A_iload_n C dX6_move_136 rfl (pc' := 137) rfl ?_
    refine A_iload_n C dX6_move_137 rfl (pc' := 138) rfl ?_
    obtain ⟨h42, hF⟩ := grd_some hF
    obtain ⟨s43, e44, hF⟩ := bnd_some hF
    refine A_iast C (h1 := HP s43 o) (HPg_31 s40 o) (ixb_in h42) (by rw [e44]; exact HPs_31 s40 o _) dX6_move_138 (pc' := 139) rfl ?_
    refine A_iconst C (x := 0) dX6_move_139 (by decide) (pc' := 140) rfl ?_
    cases hF
    exact A_zret C T (Or.inl rfl) (Nat.le_refl _) (Nat.le_refl _) dX6_move_140
  · rw [if_neg c38] at hF
    refine A_aload_n C dX6_move_116 rfl (pc' := 117) rfl ?_
    refine A_iload_n C dX6_move_117 rfl (pc' := 118) rfl ?_
    refine A_iload C dX6_move_118 rfl (pc' := 120) rfl ?_
    obtain ⟨q45, h46, hF⟩ := Option.bind_eq_some_iff.mp hF
    refine A_callV C (av := [.int a0, .int q36.1]) (rest := []) (st2 := []) (k2 := 0) (n2 := 0) (F_X6_put_ok hu h46) mk_X6_put lm_X6_128 wi_X6_put wv_X6_put (HPg_21 q36.2 o) rfl rfl rfl rfl ⟨by decide, by decide⟩ (Nat.le_of_ble_eq_true rfl) rfl rfl dX6_move_120 rfl rfl rfl (pc' := 123) rfl ?_
    refine A_iconst C (x := 1) dX6_move_123 (by decide) (pc' := 124) rfl ?_
    cases hF
    exact A_zret C T (Or.inr rfl) (Nat.le_refl _) (Nat.le_refl _) dX6_move_124
def L_X6_improve_47 : Nat → Int32 → Int32 → Int32 → Int32 → Sg → Option (Int32 × Sg)
  | 0, _, _, _, _, _ => none
  | fu + 1, b1, b2, b3, b4, s =>
    if (64 : Int32) ≤ b4 then
      some (b2, s)
    else
      grd (ixb b4 64 = true) <|
      if (s 30 b4.toNatClampNeg) < 0 then
        bnd (b4 + (1 : Int32)) fun x13 =>
        L_X6_improve_47 fu b1 b2 b3 x13 s
      else
        (F_X6_move b4 s).bind fun q15 =>
        if q15.1 = 0 then
          bnd (b4 + (1 : Int32)) fun x18 =>
          L_X6_improve_47 fu b1 b2 b3 x18 q15.2
        else
          bnd (b4 + (1 : Int32)) fun x20 =>
          L_X6_improve_47 fu b1 (1 : Int32) b3 x20 q15.2
def L_X6_improve_33 : Nat → Int32 → Int32 → Int32 → Sg → Option (Sg)
  | 0, _, _, _, _ => none
  | fu + 1, b1, b2, b3, s =>
    if b1 ≤ b3 then
      some s
    else
      if b2 = 0 then
        some s
      else
        (L_X6_improve_47 FU b1 (0 : Int32) b3 (0 : Int32) s).bind fun q22 =>
        bnd (b3 + (1 : Int32)) fun x24 =>
        L_X6_improve_33 fu b1 q22.1 x24 q22.2
def F_X6_improve (a0 : Int32) (s : Sg) : Option (Int32 × Sg) :=
  jn (fun (y1 : Int32) (s2 : Sg) => (F_X6_throwing y1 (0 : Int32) s2).bind fun q3 =>
      if q3.1 = 0 then
        (F_X6_keep  q3.2).bind fun q6 =>
        (L_X6_improve_33 FU a0 (1 : Int32) (0 : Int32) q6).bind fun q26 =>
        (F_X6_note  q26).bind fun q28 =>
        (F_X6_penaltyNow  q28).bind fun q30 =>
        some (q30, q28)
      else
        some ((0 : Int32), q3.2)) fun J16 =>
  (F_X6_in a0 (1 : Int32) (10 : Int32) s).bind fun q32 =>
  if q32 = 0 then
    J16 (1 : Int32) s
  else
    J16 (0 : Int32) s
set_option maxHeartbeats 4000000 in
set_option maxRecDepth 100000 in
theorem L_X6_improve_47_ok {Γ : Cx} (hu : Un Γ.2.1) (eN : 5 = Γ.2.2.2.2.2) (C : Cok Γ cX6_improve RX6 (some .int) 7 0 0) {o : Nat → Int64} : ∀ (fu : Nat) (b1 : Int32) (b2 : Int32) (b3 : Int32) (b4 : Int32) (s : Sg) (q : (Int32 × Sg)), L_X6_improve_47 fu b1 b2 b3 b4 s = some q → AW Γ (HP q.2 o) 0 0 [some (.ref 21), some (.int b1), some (.int q.1), some (.int b3), none] [] 81 → AW Γ (HP s o) 0 0 [some (.ref 21), some (.int b1), some (.int b2), some (.int b3), some (.int b4)] [] 47 := by
  intro fu
  induction fu with
  | zero => intro b1 b2 b3 b4 s q hF; rw [L_X6_improve_47] at hF; cases hF
  | succ fu ih =>
    intro b1 b2 b3 b4 s q hF hexit
    rw [L_X6_improve_47] at hF
    refine A_iload C dX6_improve_47 rfl (pc' := 49) rfl ?_
    refine A_bipush C (x := 64) dX6_improve_49 (by decide) (pc' := 51) rfl ?_
    refine A_icmp_ge C dX6_improve_51 (tgt := 81) (by decide) (pc' := 54) rfl (fun c10 => ?_) (fun c10 => ?_)
    · rw [if_pos c10] at hF
      cases hF
      refine A_mask [true, true, true, true, false] (lv' := [some (.ref 21), some (.int b1), some (.int b2), some (.int b3), none]) rfl ?_
      exact hexit
    · rw [if_neg c10] at hF
      refine A_aload_n C dX6_improve_54 rfl (pc' := 55) rfl ?_
      refine A_get C (j := 12) cl_X6 rfl rfl lf_X6_34 dX6_improve_55 (HPg_21 s o) rfl (pc' := 58) rfl ?_
      refine A_iload C dX6_improve_58 rfl (pc' := 60) rfl ?_
      obtain ⟨h11, hF⟩ := grd_some hF
      refine A_iald C (HPg_30 s o) (ixb_in h11) dX6_improve_60 (pc' := 61) rfl ?_
      refine A_if_lt C dX6_improve_61 (tgt := 75) (by decide) (pc' := 64) rfl (fun c12 => ?_) (fun c12 => ?_)
      · rw [if_pos c12] at hF
        obtain ⟨x13, e14, hF⟩ := bnd_some hF
        refine A_iinc C (lv' := [some (.ref 21), some (.int b1), some (.int b2), some (.int b3), some (.int x13)]) dX6_improve_75 rfl (by rw [e14]; rfl) rfl eN rfl rfl (pc' := 78) rfl ?_
        refine A_goto C dX6_improve_78 (tgt := 47) (by decide) ?_
        refine A_mask [true, true, true, true, true] (lv' := [some (.ref 21), some (.int b1), some (.int b2), some (.int b3), some (.int x13)]) rfl ?_
        exact ih b1 b2 b3 x13 s q hF hexit
      · rw [if_neg c12] at hF
        refine A_aload_n C dX6_improve_64 rfl (pc' := 65) rfl ?_
        refine A_iload C dX6_improve_65 rfl (pc' := 67) rfl ?_
        obtain ⟨q15, h16, hF⟩ := Option.bind_eq_some_iff.mp hF
        refine A_callV C (av := [.int b4]) (rest := []) (st2 := [.int q15.1]) (k2 := 0) (n2 := 0) (F_X6_move_ok hu h16) mk_X6_move lm_X6_152 wi_X6_move wv_X6_move (HPg_21 s o) rfl rfl rfl rfl ⟨by decide, by decide⟩ (Nat.le_of_ble_eq_true rfl) rfl rfl dX6_improve_67 rfl rfl rfl (pc' := 70) rfl ?_
        refine A_if_eq C dX6_improve_70 (tgt := 75) (by decide) (pc' := 73) rfl (fun c17 => ?_) (fun c17 => ?_)
        · rw [if_pos c17] at hF
          obtain ⟨x18, e19, hF⟩ := bnd_some hF
          refine A_iinc C (lv' := [some (.ref 21), some (.int b1), some (.int b2), some (.int b3), some (.int x18)]) dX6_improve_75 rfl (by rw [e19]; rfl) rfl eN rfl rfl (pc' := 78) rfl ?_
          refine A_goto C dX6_improve_78 (tgt := 47) (by decide) ?_
          refine A_mask [true, true, true, true, true] (lv' := [some (.ref 21), some (.int b1), some (.int b2), some (.int b3), some (.int x18)]) rfl ?_
          exact ih b1 b2 b3 x18 q15.2 q hF hexit
        · rw [if_neg c17] at hF
          refine A_iconst C (x := 1) dX6_improve_73 (by decide) (pc' := 74) rfl ?_
          refine A_istore_n C (lv' := [some (.ref 21), some (.int b1), some (.int (1 : Int32)), some (.int b3), some (.int b4)]) dX6_improve_74 rfl eN rfl rfl (pc' := 75) rfl ?_
          obtain ⟨x20, e21, hF⟩ := bnd_some hF
          refine A_iinc C (lv' := [some (.ref 21), some (.int b1), some (.int (1 : Int32)), some (.int b3), some (.int x20)]) dX6_improve_75 rfl (by rw [e21]; rfl) rfl eN rfl rfl (pc' := 78) rfl ?_
          refine A_goto C dX6_improve_78 (tgt := 47) (by decide) ?_
          refine A_mask [true, true, true, true, true] (lv' := [some (.ref 21), some (.int b1), some (.int (1 : Int32)), some (.int b3), some (.int x20)]) rfl ?_
          exact ih b1 (1 : Int32) b3 x20 q15.2 q hF hexit
set_option maxHeartbeats 4000000 in
set_option maxRecDepth 100000 in
theorem L_X6_improve_33_ok {Γ : Cx} (hu : Un Γ.2.1) (eN : 5 = Γ.2.2.2.2.2) (C : Cok Γ cX6_improve RX6 (some .int) 7 0 0) {o : Nat → Int64} : ∀ (fu : Nat) (b1 : Int32) (b2 : Int32) (b3 : Int32) (s : Sg) (q : (Sg)), L_X6_improve_33 fu b1 b2 b3 s = some q → AW Γ (HP q o) 0 0 [some (.ref 21), none, none, none, none] [] 87 → AW Γ (HP s o) 0 0 [some (.ref 21), some (.int b1), some (.int b2), some (.int b3), none] [] 33 := by
  intro fu
  induction fu with
  | zero => intro b1 b2 b3 s q hF; rw [L_X6_improve_33] at hF; cases hF
  | succ fu ih =>
    intro b1 b2 b3 s q hF hexit
    rw [L_X6_improve_33] at hF
    refine A_iload_n C dX6_improve_33 rfl (pc' := 34) rfl ?_
    refine A_iload_n C dX6_improve_34 rfl (pc' := 35) rfl ?_
    refine A_icmp_ge C dX6_improve_35 (tgt := 87) (by decide) (pc' := 38) rfl (fun c8 => ?_) (fun c8 => ?_)
    · rw [if_pos c8] at hF
      cases hF
      refine A_mask [true, false, false, false, false] (lv' := [some (.ref 21), none, none, none, none]) rfl ?_
      exact hexit
    · rw [if_neg c8] at hF
      refine A_iload_n C dX6_improve_38 rfl (pc' := 39) rfl ?_
      refine A_if_eq C dX6_improve_39 (tgt := 87) (by decide) (pc' := 42) rfl (fun c9 => ?_) (fun c9 => ?_)
      · rw [if_pos c9] at hF
        cases hF
        refine A_mask [true, false, false, false, false] (lv' := [some (.ref 21), none, none, none, none]) rfl ?_
        exact hexit
      · rw [if_neg c9] at hF
        refine A_iconst C (x := 0) dX6_improve_42 (by decide) (pc' := 43) rfl ?_
        refine A_istore_n C (lv' := [some (.ref 21), some (.int b1), some (.int (0 : Int32)), some (.int b3), none]) dX6_improve_43 rfl eN rfl rfl (pc' := 44) rfl ?_
        refine A_iconst C (x := 0) dX6_improve_44 (by decide) (pc' := 45) rfl ?_
        refine A_istore C (lv' := [some (.ref 21), some (.int b1), some (.int (0 : Int32)), some (.int b3), some (.int (0 : Int32))]) dX6_improve_45 rfl eN rfl rfl (pc' := 47) rfl ?_
        obtain ⟨q22, h23, hF⟩ := Option.bind_eq_some_iff.mp hF
        refine A_mask [true, true, true, true, true] (lv' := [some (.ref 21), some (.int b1), some (.int (0 : Int32)), some (.int b3), some (.int (0 : Int32))]) rfl ?_
        refine L_X6_improve_47_ok hu eN C FU b1 (0 : Int32) b3 (0 : Int32) s q22 h23 ?_
        obtain ⟨x24, e25, hF⟩ := bnd_some hF
        refine A_iinc C (lv' := [some (.ref 21), some (.int b1), some (.int q22.1), some (.int x24), none]) dX6_improve_81 rfl (by rw [e25]; rfl) rfl eN rfl rfl (pc' := 84) rfl ?_
        refine A_goto C dX6_improve_84 (tgt := 33) (by decide) ?_
        refine A_mask [true, true, true, true, false] (lv' := [some (.ref 21), some (.int b1), some (.int q22.1), some (.int x24), none]) rfl ?_
        exact ih b1 q22.1 x24 q22.2 q hF hexit
set_option maxHeartbeats 4000000 in
set_option maxRecDepth 100000 in
theorem F_X6_improve_ok {u : Uv} (hu : Un u) {a0 : Int32} {s : Sg} {o : Nat → Int64} {r : (Int32 × Sg)} (hF : F_X6_improve a0 s = some r) : AM u (yX6_improve, cX6_improve, 5, (some .int)) 7 0 0 [.ref 21, .int a0] (HP s o) (some (.int r.1)) (HP r.2 o) := by
  refine AM.of hu (lv := [some (.ref 21), some (.int a0), none, none, none]) (by decide) rfl (Nat.le_of_ble_eq_true rfl) rfl ?_
  intro Γ eu eN C T
  subst eu
  have C : Cok Γ cX6_improve RX6 (some .int) 7 0 0 := C
  unfold F_X6_improve at hF
  obtain ⟨J16, eJ16, hF⟩ := jn_some hF
  have hJ16 : ∀ (y1 : Int32) (s2 : Sg), J16 y1 s2 = some r → AW Γ (HP s2 o) 0 0 [some (.ref 21), some (.int a0), none, none, none] [.int y1, .ref 21] 16 := by
    intro y1 s2 hF
    rw [eJ16] at hF
    dsimp only at hF
    refine A_iconst C (x := 0) dX6_improve_16 (by decide) (pc' := 17) rfl ?_
    obtain ⟨q3, h4, hF⟩ := Option.bind_eq_some_iff.mp hF
    refine A_callV C (av := [.int y1, .int (0 : Int32)]) (rest := []) (st2 := [.int q3.1]) (k2 := 0) (n2 := 0) (F_X6_throwing_ok hu h4) mk_X6_throwing lm_X6_90 wi_X6_throwing wv_X6_throwing (HPg_21 s2 o) rfl rfl rfl rfl ⟨by decide, by decide⟩ (Nat.le_of_ble_eq_true rfl) rfl rfl dX6_improve_17 rfl rfl rfl (pc' := 20) rfl ?_
    refine A_if_eq C dX6_improve_20 (tgt := 25) (by decide) (pc' := 23) rfl (fun c5 => ?_) (fun c5 => ?_)
    · rw [if_pos c5] at hF
      refine A_aload_n C dX6_improve_25 rfl (pc' := 26) rfl ?_
      obtain ⟨q6, h7, hF⟩ := Option.bind_eq_some_iff.mp hF
      refine A_callV C (av := []) (rest := []) (st2 := []) (k2 := 0) (n2 := 0) (F_X6_keep_ok hu h7) mk_X6_keep lm_X6_125 wi_X6_keep wv_X6_keep (HPg_21 q3.2 o) rfl rfl rfl rfl ⟨by decide, by decide⟩ (Nat.le_of_ble_eq_true rfl) rfl rfl dX6_improve_26 rfl rfl rfl (pc' := 29) rfl ?_
      refine A_iconst C (x := 1) dX6_improve_29 (by decide) (pc' := 30) rfl ?_
      refine A_istore_n C (lv' := [some (.ref 21), some (.int a0), some (.int (1 : Int32)), none, none]) dX6_improve_30 rfl eN rfl rfl (pc' := 31) rfl ?_
      refine A_iconst C (x := 0) dX6_improve_31 (by decide) (pc' := 32) rfl ?_
      refine A_istore_n C (lv' := [some (.ref 21), some (.int a0), some (.int (1 : Int32)), some (.int (0 : Int32)), none]) dX6_improve_32 rfl eN rfl rfl (pc' := 33) rfl ?_
      obtain ⟨q26, h27, hF⟩ := Option.bind_eq_some_iff.mp hF
      refine A_mask [true, true, true, true, false] (lv' := [some (.ref 21), some (.int a0), some (.int (1 : Int32)), some (.int (0 : Int32)), none]) rfl ?_
      refine L_X6_improve_33_ok hu eN C FU a0 (1 : Int32) (0 : Int32) q6 q26 h27 ?_
      refine A_aload_n C dX6_improve_87 rfl (pc' := 88) rfl ?_
      obtain ⟨q28, h29, hF⟩ := Option.bind_eq_some_iff.mp hF
      refine A_callV C (av := []) (rest := []) (st2 := []) (k2 := 0) (n2 := 0) (F_X6_note_ok hu h29) mk_X6_note lm_X6_132 wi_X6_note wv_X6_note (HPg_21 q26 o) rfl rfl rfl rfl ⟨by decide, by decide⟩ (Nat.le_of_ble_eq_true rfl) rfl rfl dX6_improve_88 rfl rfl rfl (pc' := 91) rfl ?_
      refine A_aload_n C dX6_improve_91 rfl (pc' := 92) rfl ?_
      obtain ⟨q30, h31, hF⟩ := Option.bind_eq_some_iff.mp hF
      refine A_callV C (av := []) (rest := []) (st2 := [.int q30]) (k2 := 0) (n2 := 0) (F_X6_penaltyNow_ok hu h31) mk_X6_penaltyNow lm_X6_148 wi_X6_penaltyNow wv_X6_penaltyNow (HPg_21 q28 o) rfl rfl rfl rfl ⟨by decide, by decide⟩ (Nat.le_of_ble_eq_true rfl) rfl rfl dX6_improve_92 rfl rfl rfl (pc' := 95) rfl ?_
      cases hF
      exact A_iret C T (Nat.le_refl _) (Nat.le_refl _) dX6_improve_95
    · rw [if_neg c5] at hF
      refine A_iconst C (x := 0) dX6_improve_23 (by decide) (pc' := 24) rfl ?_
      cases hF
      exact A_iret C T (Nat.le_refl _) (Nat.le_refl _) dX6_improve_24
  clear eJ16
  refine A_aload_n C dX6_improve_0 rfl (pc' := 1) rfl ?_
  refine A_iload_n C dX6_improve_1 rfl (pc' := 2) rfl ?_
  refine A_iconst C (x := 1) dX6_improve_2 (by decide) (pc' := 3) rfl ?_
  refine A_bipush C (x := 10) dX6_improve_3 (by decide) (pc' := 5) rfl ?_
  obtain ⟨q32, h33, hF⟩ := Option.bind_eq_some_iff.mp hF
  refine A_callS C (av := [.int a0, .int (1 : Int32), .int (10 : Int32)]) (rest := [.ref 21]) (st2 := [.int q32, .ref 21]) (k2 := 0) (n2 := 0) (F_X6_in_ok hu h33) mk_X6_in lm_X6_72 ws_X6_in rfl rfl rfl ⟨by decide, by decide⟩ (Nat.le_of_ble_eq_true rfl) rfl rfl dX6_improve_5 rfl rfl rfl (pc' := 8) rfl ?_
  refine A_if_ne C dX6_improve_8 (tgt := 15) (by decide) (pc' := 11) rfl (fun c34 => ?_) (fun c34 => ?_)
  · rw [if_neg c34] at hF
    refine A_iconst C (x := 0) dX6_improve_15 (by decide) (pc' := 16) rfl ?_
    refine A_mask [true, true, false, false, false] (lv' := [some (.ref 21), some (.int a0), none, none, none]) rfl ?_
    exact hJ16 (0 : Int32) s hF
  · rw [if_pos c34] at hF
    refine A_iconst C (x := 1) dX6_improve_11 (by decide) (pc' := 12) rfl ?_
    refine A_goto C dX6_improve_12 (tgt := 16) (by decide) ?_
    refine A_mask [true, true, false, false, false] (lv' := [some (.ref 21), some (.int a0), none, none, none]) rfl ?_
    exact hJ16 (1 : Int32) s hF
