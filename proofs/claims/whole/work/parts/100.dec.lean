def F_X5_isWithin (a0 : Int32) (a1 : Int32) (a2 : Int32) (s : Sg) : Option Int32 :=
  if a0 < a1 then
    some (0 : Int32)
  else
    if a2 < a0 then
      some (0 : Int32)
    else
      some (1 : Int32)
set_option maxHeartbeats 4000000 in
set_option maxRecDepth 100000 in
theorem F_X5_isWithin_ok {u : Uv} (hu : Un u) {a0 a1 a2 : Int32} {s : Sg} {o : Nat → Int64} {r : Int32} (hF : F_X5_isWithin a0 a1 a2 s = some r) : AM u (yX5_isWithin, cX5_isWithin, 3, (some .boolean)) 0 0 0 [.int a0, .int a1, .int a2] (HP s o) (some (.int r)) (HP s o) := by
  refine AM.of hu (lv := [some (.int a0), some (.int a1), some (.int a2)]) (by decide) rfl (Nat.le_of_ble_eq_true rfl) rfl ?_
  intro Γ eu eN C T
  subst eu
  have C : Cok Γ cX5_isWithin RX5 (some .boolean) 0 0 0 := C
  unfold F_X5_isWithin at hF
  refine A_iload_n C dX5_isWithin_0 rfl (pc' := 1) rfl ?_
  refine A_iload_n C dX5_isWithin_1 rfl (pc' := 2) rfl ?_
  refine A_icmp_lt C dX5_isWithin_2 (tgt := 14) (by decide) (pc' := 5) rfl (fun c1 => ?_) (fun c1 => ?_)
  · rw [if_pos c1] at hF
    refine A_iconst C (x := 0) dX5_isWithin_14 (by decide) (pc' := 15) rfl ?_
    cases hF
    exact A_zret C T (Or.inl rfl) (Nat.le_refl _) (Nat.le_refl _) dX5_isWithin_15
  · rw [if_neg c1] at hF
    refine A_iload_n C dX5_isWithin_5 rfl (pc' := 6) rfl ?_
    refine A_iload_n C dX5_isWithin_6 rfl (pc' := 7) rfl ?_
    refine A_icmp_gt C dX5_isWithin_7 (tgt := 14) (by decide) (pc' := 10) rfl (fun c2 => ?_) (fun c2 => ?_)
    · rw [if_pos c2] at hF
      refine A_iconst C (x := 0) dX5_isWithin_14 (by decide) (pc' := 15) rfl ?_
      cases hF
      exact A_zret C T (Or.inl rfl) (Nat.le_refl _) (Nat.le_refl _) dX5_isWithin_15
    · rw [if_neg c2] at hF
      refine A_iconst C (x := 1) dX5_isWithin_10 (by decide) (pc' := 11) rfl ?_
      refine A_goto C dX5_isWithin_11 (tgt := 15) (by decide) ?_
      cases hF
      exact A_zret C T (Or.inr rfl) (Nat.le_refl _) (Nat.le_refl _) dX5_isWithin_15
def F_X5_isUser (a0 : Int32) (a1 : Int32) (s : Sg) : Option Int32 :=
  if a0 = (0 : Int32) then
    (F_X5_isWithin a1 (0 : Int32) (7 : Int32) s).bind fun q2 =>
    grd (q2 = 0 ∨ q2 = 1) <|
    some q2
  else
  if a0 = (1 : Int32) then
    (F_X5_isWithin a1 (0 : Int32) (7 : Int32) s).bind fun q6 =>
    grd (q6 = 0 ∨ q6 = 1) <|
    some q6
  else
  if a0 = (2 : Int32) then
    (F_X5_isWithin a1 (0 : Int32) (5 : Int32) s).bind fun q10 =>
    grd (q10 = 0 ∨ q10 = 1) <|
    some q10
  else
  some (0 : Int32)
set_option maxHeartbeats 4000000 in
set_option maxRecDepth 100000 in
theorem F_X5_isUser_ok {u : Uv} (hu : Un u) {a0 a1 : Int32} {s : Sg} {o : Nat → Int64} {r : Int32} (hF : F_X5_isUser a0 a1 s = some r) : AM u (yX5_isUser, cX5_isUser, 2, (some .boolean)) 1 0 0 [.int a0, .int a1] (HP s o) (some (.int r)) (HP s o) := by
  refine AM.of hu (lv := [some (.int a0), some (.int a1)]) (by decide) rfl (Nat.le_of_ble_eq_true rfl) rfl ?_
  intro Γ eu eN C T
  subst eu
  have C : Cok Γ cX5_isUser RX5 (some .boolean) 1 0 0 := C
  unfold F_X5_isUser at hF
  refine A_iload_n C dX5_isUser_0 rfl (pc' := 1) rfl ?_
  by_cases c1 : a0 = (0 : Int32)
  · rw [if_pos c1] at hF
    refine A_tableIn C (tgt := 28) (off := 27) dX5_isUser_1 (by rw [c1]; decide) (by rw [c1]; decide) (by rw [c1]; decide) (by decide) ?_
    refine A_iload_n C dX5_isUser_28 rfl (pc' := 29) rfl ?_
    refine A_iconst C (x := 0) dX5_isUser_29 (by decide) (pc' := 30) rfl ?_
    refine A_bipush C (x := 7) dX5_isUser_30 (by decide) (pc' := 32) rfl ?_
    obtain ⟨q2, h3, hF⟩ := Option.bind_eq_some_iff.mp hF
    refine A_callS C (av := [.int a1, .int (0 : Int32), .int (7 : Int32)]) (rest := []) (st2 := [.int q2]) (k2 := 0) (n2 := 0) (F_X5_isWithin_ok hu h3) mk_X5_isWithin lm_X5_32 ws_X5_isWithin rfl rfl rfl ⟨by decide, by decide⟩ (Nat.le_of_ble_eq_true rfl) rfl rfl dX5_isUser_32 rfl rfl rfl (pc' := 35) rfl ?_
    obtain ⟨h4, hF⟩ := grd_some hF
    cases hF
    exact A_zret C T h4 (Nat.le_refl _) (Nat.le_refl _) dX5_isUser_35
  rw [if_neg c1] at hF
  by_cases c5 : a0 = (1 : Int32)
  · rw [if_pos c5] at hF
    refine A_tableIn C (tgt := 36) (off := 35) dX5_isUser_1 (by rw [c5]; decide) (by rw [c5]; decide) (by rw [c5]; decide) (by decide) ?_
    refine A_iload_n C dX5_isUser_36 rfl (pc' := 37) rfl ?_
    refine A_iconst C (x := 0) dX5_isUser_37 (by decide) (pc' := 38) rfl ?_
    refine A_bipush C (x := 7) dX5_isUser_38 (by decide) (pc' := 40) rfl ?_
    obtain ⟨q6, h7, hF⟩ := Option.bind_eq_some_iff.mp hF
    refine A_callS C (av := [.int a1, .int (0 : Int32), .int (7 : Int32)]) (rest := []) (st2 := [.int q6]) (k2 := 0) (n2 := 0) (F_X5_isWithin_ok hu h7) mk_X5_isWithin lm_X5_32 ws_X5_isWithin rfl rfl rfl ⟨by decide, by decide⟩ (Nat.le_of_ble_eq_true rfl) rfl rfl dX5_isUser_40 rfl rfl rfl (pc' := 43) rfl ?_
    obtain ⟨h8, hF⟩ := grd_some hF
    cases hF
    exact A_zret C T h8 (Nat.le_refl _) (Nat.le_refl _) dX5_isUser_43
  rw [if_neg c5] at hF
  by_cases c9 : a0 = (2 : Int32)
  · rw [if_pos c9] at hF
    refine A_tableIn C (tgt := 44) (off := 43) dX5_isUser_1 (by rw [c9]; decide) (by rw [c9]; decide) (by rw [c9]; decide) (by decide) ?_
    refine A_iload_n C dX5_isUser_44 rfl (pc' := 45) rfl ?_
    refine A_iconst C (x := 0) dX5_isUser_45 (by decide) (pc' := 46) rfl ?_
    refine A_iconst C (x := 5) dX5_isUser_46 (by decide) (pc' := 47) rfl ?_
    obtain ⟨q10, h11, hF⟩ := Option.bind_eq_some_iff.mp hF
    refine A_callS C (av := [.int a1, .int (0 : Int32), .int (5 : Int32)]) (rest := []) (st2 := [.int q10]) (k2 := 0) (n2 := 0) (F_X5_isWithin_ok hu h11) mk_X5_isWithin lm_X5_32 ws_X5_isWithin rfl rfl rfl ⟨by decide, by decide⟩ (Nat.le_of_ble_eq_true rfl) rfl rfl dX5_isUser_47 rfl rfl rfl (pc' := 50) rfl ?_
    obtain ⟨h12, hF⟩ := grd_some hF
    cases hF
    exact A_zret C T h12 (Nat.le_refl _) (Nat.le_refl _) dX5_isUser_50
  rw [if_neg c9] at hF
  refine A_tableOut C (tgt := 51) dX5_isUser_1 (tb_out 3 _ (by decide) (by decide) (fun j hj => match j, hj with | 0, _ => c1 | 1, _ => c5 | 2, _ => c9 | (k + 3), hj => absurd hj (by omega))) (by decide) ?_
  refine A_iconst C (x := 0) dX5_isUser_51 (by decide) (pc' := 52) rfl ?_
  cases hF
  exact A_zret C T (Or.inl rfl) (Nat.le_refl _) (Nat.le_refl _) dX5_isUser_52
def F_X5_userOf (a0 : Int32) (a1 : Int32) (s : Sg) : Option Int32 :=
  if a0 = (2 : Int32) then
    some ((16 : Int32) + a1)
  else
    if a0 = (1 : Int32) then
      some ((8 : Int32) + a1)
    else
      some a1
set_option maxHeartbeats 4000000 in
set_option maxRecDepth 100000 in
theorem F_X5_userOf_ok {u : Uv} (hu : Un u) {a0 a1 : Int32} {s : Sg} {o : Nat → Int64} {r : Int32} (hF : F_X5_userOf a0 a1 s = some r) : AM u (yX5_userOf, cX5_userOf, 2, (some .int)) 0 0 0 [.int a0, .int a1] (HP s o) (some (.int r)) (HP s o) := by
  refine AM.of hu (lv := [some (.int a0), some (.int a1)]) (by decide) rfl (Nat.le_of_ble_eq_true rfl) rfl ?_
  intro Γ eu eN C T
  subst eu
  have C : Cok Γ cX5_userOf RX5 (some .int) 0 0 0 := C
  unfold F_X5_userOf at hF
  refine A_iload_n C dX5_userOf_0 rfl (pc' := 1) rfl ?_
  refine A_iconst C (x := 2) dX5_userOf_1 (by decide) (pc' := 2) rfl ?_
  refine A_icmp_ne C dX5_userOf_2 (tgt := 10) (by decide) (pc' := 5) rfl (fun c1 => ?_) (fun c1 => ?_)
  · rw [if_neg c1] at hF
    refine A_iload_n C dX5_userOf_10 rfl (pc' := 11) rfl ?_
    refine A_iconst C (x := 1) dX5_userOf_11 (by decide) (pc' := 12) rfl ?_
    refine A_icmp_ne C dX5_userOf_12 (tgt := 22) (by decide) (pc' := 15) rfl (fun c2 => ?_) (fun c2 => ?_)
    · rw [if_neg c2] at hF
      refine A_iload_n C dX5_userOf_22 rfl (pc' := 23) rfl ?_
      cases hF
      exact A_iret C T (Nat.le_refl _) (Nat.le_refl _) dX5_userOf_23
    · rw [if_pos c2] at hF
      refine A_bipush C (x := 8) dX5_userOf_15 (by decide) (pc' := 17) rfl ?_
      refine A_iload_n C dX5_userOf_17 rfl (pc' := 18) rfl ?_
      refine A_iadd C dX5_userOf_18 (pc' := 19) rfl ?_
      refine A_goto C dX5_userOf_19 (tgt := 23) (by decide) ?_
      cases hF
      exact A_iret C T (Nat.le_refl _) (Nat.le_refl _) dX5_userOf_23
  · rw [if_pos c1] at hF
    refine A_bipush C (x := 16) dX5_userOf_5 (by decide) (pc' := 7) rfl ?_
    refine A_iload_n C dX5_userOf_7 rfl (pc' := 8) rfl ?_
    refine A_iadd C dX5_userOf_8 (pc' := 9) rfl ?_
    cases hF
    exact A_iret C T (Nat.le_refl _) (Nat.le_refl _) dX5_userOf_9
def F_X5_itemOf (a0 : Int32) (a1 : Int32) (s : Sg) : Option Int32 :=
  some ((a0 * (4 : Int32)) + a1)
set_option maxHeartbeats 4000000 in
set_option maxRecDepth 100000 in
theorem F_X5_itemOf_ok {u : Uv} (hu : Un u) {a0 a1 : Int32} {s : Sg} {o : Nat → Int64} {r : Int32} (hF : F_X5_itemOf a0 a1 s = some r) : AM u (yX5_itemOf, cX5_itemOf, 2, (some .int)) 0 0 0 [.int a0, .int a1] (HP s o) (some (.int r)) (HP s o) := by
  refine AM.of hu (lv := [some (.int a0), some (.int a1)]) (by decide) rfl (Nat.le_of_ble_eq_true rfl) rfl ?_
  intro Γ eu eN C T
  subst eu
  have C : Cok Γ cX5_itemOf RX5 (some .int) 0 0 0 := C
  unfold F_X5_itemOf at hF
  refine A_iload_n C dX5_itemOf_0 rfl (pc' := 1) rfl ?_
  refine A_iconst C (x := 4) dX5_itemOf_1 (by decide) (pc' := 2) rfl ?_
  refine A_imul C dX5_itemOf_2 (pc' := 3) rfl ?_
  refine A_iload_n C dX5_itemOf_3 rfl (pc' := 4) rfl ?_
  refine A_iadd C dX5_itemOf_4 (pc' := 5) rfl ?_
  cases hF
  exact A_iret C T (Nat.le_refl _) (Nat.le_refl _) dX5_itemOf_5
def F_X5_lessonOf (a0 : Int32) (s : Sg) : Option Int32 :=
  some (a0 / (4 : Int32))
set_option maxHeartbeats 4000000 in
set_option maxRecDepth 100000 in
theorem F_X5_lessonOf_ok {u : Uv} (hu : Un u) {a0 : Int32} {s : Sg} {o : Nat → Int64} {r : Int32} (hF : F_X5_lessonOf a0 s = some r) : AM u (yX5_lessonOf, cX5_lessonOf, 1, (some .int)) 0 0 0 [.int a0] (HP s o) (some (.int r)) (HP s o) := by
  refine AM.of hu (lv := [some (.int a0)]) (by decide) rfl (Nat.le_of_ble_eq_true rfl) rfl ?_
  intro Γ eu eN C T
  subst eu
  have C : Cok Γ cX5_lessonOf RX5 (some .int) 0 0 0 := C
  unfold F_X5_lessonOf at hF
  refine A_iload_n C dX5_lessonOf_0 rfl (pc' := 1) rfl ?_
  refine A_iconst C (x := 4) dX5_lessonOf_1 (by decide) (pc' := 2) rfl ?_
  refine A_idiv C dX5_lessonOf_2 (by decide) (pc' := 3) rfl ?_
  cases hF
  exact A_iret C T (Nat.le_refl _) (Nat.le_refl _) dX5_lessonOf_3
def F_X3_bitsAt (a0 : Int32) (a1 : Int32) (s : Sg) : Option Int32 :=
  grd (ixb a0 16 = true) <|
  if (s 14 a0.toNatClampNeg) = (2 : Int32) then
    some ((3 : Int32) <<< (a1 &&& 31))
  else
    some ((1 : Int32) <<< (a1 &&& 31))
set_option maxHeartbeats 4000000 in
set_option maxRecDepth 100000 in
theorem F_X3_bitsAt_ok {u : Uv} (hu : Un u) {a0 a1 : Int32} {s : Sg} {o : Nat → Int64} {r : Int32} (hF : F_X3_bitsAt a0 a1 s = some r) : AM u (yX3_bitsAt, cX3_bitsAt, 3, (some .int)) 0 0 0 [.ref 9, .int a0, .int a1] (HP s o) (some (.int r)) (HP s o) := by
  refine AM.of hu (lv := [some (.ref 9), some (.int a0), some (.int a1)]) (by decide) rfl (Nat.le_of_ble_eq_true rfl) rfl ?_
  intro Γ eu eN C T
  subst eu
  have C : Cok Γ cX3_bitsAt RX3 (some .int) 0 0 0 := C
  unfold F_X3_bitsAt at hF
  refine A_aload_n C dX3_bitsAt_0 rfl (pc' := 1) rfl ?_
  refine A_get C (j := 4) cl_X3 rfl rfl lf_X3_24 dX3_bitsAt_1 (HPg_9 s o) rfl (pc' := 4) rfl ?_
  refine A_iload_n C dX3_bitsAt_4 rfl (pc' := 5) rfl ?_
  obtain ⟨h1, hF⟩ := grd_some hF
  refine A_iald C (HPg_14 s o) (ixb_in h1) dX3_bitsAt_5 (pc' := 6) rfl ?_
  refine A_iconst C (x := 2) dX3_bitsAt_6 (by decide) (pc' := 7) rfl ?_
  refine A_icmp_ne C dX3_bitsAt_7 (tgt := 16) (by decide) (pc' := 10) rfl (fun c2 => ?_) (fun c2 => ?_)
  · rw [if_neg c2] at hF
    refine A_iconst C (x := 1) dX3_bitsAt_16 (by decide) (pc' := 17) rfl ?_
    refine A_iload_n C dX3_bitsAt_17 rfl (pc' := 18) rfl ?_
    refine A_ishl C dX3_bitsAt_18 (pc' := 19) rfl ?_
    cases hF
    exact A_iret C T (Nat.le_refl _) (Nat.le_refl _) dX3_bitsAt_19
  · rw [if_pos c2] at hF
    refine A_iconst C (x := 3) dX3_bitsAt_10 (by decide) (pc' := 11) rfl ?_
    refine A_iload_n C dX3_bitsAt_11 rfl (pc' := 12) rfl ?_
    refine A_ishl C dX3_bitsAt_12 (pc' := 13) rfl ?_
    refine A_goto C dX3_bitsAt_13 (tgt := 19) (by decide) ?_
    cases hF
    exact A_iret C T (Nat.le_refl _) (Nat.le_refl _) dX3_bitsAt_19
def F_X3_hasItem (a0 : Int32) (a1 : Int32) (s : Sg) : Option Int32 :=
  (F_X5_isWithin a0 (0 : Int32) ((s 1007 0) - (1 : Int32)) s).bind fun q1 =>
  if q1 = 0 then
    some (0 : Int32)
  else
    grd (ixb a0 16 = true) <|
    (F_X5_isWithin a1 (0 : Int32) ((s 15 a0.toNatClampNeg) - (1 : Int32)) s).bind fun q5 =>
    if q5 = 0 then
      some (0 : Int32)
    else
      some (1 : Int32)
set_option maxHeartbeats 4000000 in
set_option maxRecDepth 100000 in
theorem F_X3_hasItem_ok {u : Uv} (hu : Un u) {a0 a1 : Int32} {s : Sg} {o : Nat → Int64} {r : Int32} (hF : F_X3_hasItem a0 a1 s = some r) : AM u (yX3_hasItem, cX3_hasItem, 3, (some .boolean)) 1 0 0 [.ref 9, .int a0, .int a1] (HP s o) (some (.int r)) (HP s o) := by
  refine AM.of hu (lv := [some (.ref 9), some (.int a0), some (.int a1)]) (by decide) rfl (Nat.le_of_ble_eq_true rfl) rfl ?_
  intro Γ eu eN C T
  subst eu
  have C : Cok Γ cX3_hasItem RX3 (some .boolean) 1 0 0 := C
  unfold F_X3_hasItem at hF
  refine A_iload_n C dX3_hasItem_0 rfl (pc' := 1) rfl ?_
  refine A_iconst C (x := 0) dX3_hasItem_1 (by decide) (pc' := 2) rfl ?_
  refine A_aload_n C dX3_hasItem_2 rfl (pc' := 3) rfl ?_
  refine A_get C (j := 7) cl_X3 rfl rfl lf_X3_33 dX3_hasItem_3 (HPg_9 s o) rfl (pc' := 6) rfl ?_
  refine A_iconst C (x := 1) dX3_hasItem_6 (by decide) (pc' := 7) rfl ?_
  refine A_isub C dX3_hasItem_7 (pc' := 8) rfl ?_
  obtain ⟨q1, h2, hF⟩ := Option.bind_eq_some_iff.mp hF
  refine A_callSN C (av := [.int a0, .int (0 : Int32), .int ((s 1007 0) - (1 : Int32))]) (rest := []) (st2 := [.int q1]) (k2 := 0) (n2 := 0) (F_X5_isWithin_ok hu h2) mk_X5_isWithin lm_X3_37 ws_X5_isWithin rfl rfl rfl ⟨by decide, by decide⟩ (Nat.le_of_ble_eq_true rfl) rfl rfl dX3_hasItem_8 rfl rfl rfl (pc' := 11) rfl ?_
  refine A_if_eq C dX3_hasItem_11 (tgt := 34) (by decide) (pc' := 14) rfl (fun c3 => ?_) (fun c3 => ?_)
  · rw [if_pos c3] at hF
    refine A_iconst C (x := 0) dX3_hasItem_34 (by decide) (pc' := 35) rfl ?_
    cases hF
    exact A_zret C T (Or.inl rfl) (Nat.le_refl _) (Nat.le_refl _) dX3_hasItem_35
  · rw [if_neg c3] at hF
    refine A_iload_n C dX3_hasItem_14 rfl (pc' := 15) rfl ?_
    refine A_iconst C (x := 0) dX3_hasItem_15 (by decide) (pc' := 16) rfl ?_
    refine A_aload_n C dX3_hasItem_16 rfl (pc' := 17) rfl ?_
    refine A_get C (j := 5) cl_X3 rfl rfl lf_X3_27 dX3_hasItem_17 (HPg_9 s o) rfl (pc' := 20) rfl ?_
    refine A_iload_n C dX3_hasItem_20 rfl (pc' := 21) rfl ?_
    obtain ⟨h4, hF⟩ := grd_some hF
    refine A_iald C (HPg_15 s o) (ixb_in h4) dX3_hasItem_21 (pc' := 22) rfl ?_
    refine A_iconst C (x := 1) dX3_hasItem_22 (by decide) (pc' := 23) rfl ?_
    refine A_isub C dX3_hasItem_23 (pc' := 24) rfl ?_
    obtain ⟨q5, h6, hF⟩ := Option.bind_eq_some_iff.mp hF
    refine A_callSN C (av := [.int a1, .int (0 : Int32), .int ((s 15 a0.toNatClampNeg) - (1 : Int32))]) (rest := []) (st2 := [.int q5]) (k2 := 0) (n2 := 0) (F_X5_isWithin_ok hu h6) mk_X5_isWithin lm_X3_37 ws_X5_isWithin rfl rfl rfl ⟨by decide, by decide⟩ (Nat.le_of_ble_eq_true rfl) rfl rfl dX3_hasItem_24 rfl rfl rfl (pc' := 27) rfl ?_
    refine A_if_eq C dX3_hasItem_27 (tgt := 34) (by decide) (pc' := 30) rfl (fun c7 => ?_) (fun c7 => ?_)
    · rw [if_pos c7] at hF
      refine A_iconst C (x := 0) dX3_hasItem_34 (by decide) (pc' := 35) rfl ?_
      cases hF
      exact A_zret C T (Or.inl rfl) (Nat.le_refl _) (Nat.le_refl _) dX3_hasItem_35
    · rw [if_neg c7] at hF
      refine A_iconst C (x := 1) dX3_hasItem_30 (by decide) (pc' := 31) rfl ?_
      refine A_goto C dX3_hasItem_31 (tgt := 35) (by decide) ?_
      cases hF
      exact A_zret C T (Or.inr rfl) (Nat.le_refl _) (Nat.le_refl _) dX3_hasItem_35
def F_X3_add (a0 : Int32) (a1 : Int32) (a2 : Int32) (a3 : Int32) (a4 : Int32) (a5 : Int32) (s : Sg) : Option (Int32 × Sg) :=
  bnd (s 1007 0) fun x1 =>
  grd (ixb x1 16 = true) <|
  bnd (va_up s 10 (upd (s 10) x1.toNatClampNeg a0)) fun s4 =>
  grd (ixb x1 16 = true) <|
  bnd (va_up s4 11 (upd (s4 11) x1.toNatClampNeg a1)) fun s7 =>
  grd (ixb x1 16 = true) <|
  bnd (va_up s7 12 (upd (s7 12) x1.toNatClampNeg a2)) fun s10 =>
  grd (ixb x1 16 = true) <|
  bnd (va_up s10 13 (upd (s10 13) x1.toNatClampNeg a3)) fun s13 =>
  grd (ixb x1 16 = true) <|
  bnd (va_up s13 14 (upd (s13 14) x1.toNatClampNeg (a4 / (10 : Int32)))) fun s16 =>
  grd (ixb x1 16 = true) <|
  bnd (va_up s16 15 (upd (s16 15) x1.toNatClampNeg (a4 - a4 / (10 : Int32) * (10 : Int32)))) fun s19 =>
  grd (ixb x1 16 = true) <|
  bnd (va_up s19 16 (upd (s19 16) x1.toNatClampNeg a5)) fun s22 =>
  bnd (va_up s22 1007 (fun _ => ((s22 1007 0) + (1 : Int32)))) fun s24 =>
  some (x1, s24)
set_option maxHeartbeats 4000000 in
set_option maxRecDepth 100000 in
theorem F_X3_add_ok {u : Uv} (hu : Un u) {a0 a1 a2 a3 a4 a5 : Int32} {s : Sg} {o : Nat → Int64} {r : (Int32 × Sg)} (hF : F_X3_add a0 a1 a2 a3 a4 a5 s = some r) : AM u (yX3_add, cX3_add, 8, (some .int)) 0 0 0 [.ref 9, .int a0, .int a1, .int a2, .int a3, .int a4, .int a5] (HP s o) (some (.int r.1)) (HP r.2 o) := by
  refine AM.of hu (lv := [some (.ref 9), some (.int a0), some (.int a1), some (.int a2), some (.int a3), some (.int a4), some (.int a5), none]) (by decide) rfl (Nat.le_of_ble_eq_true rfl) rfl ?_
  intro Γ eu eN C T
  subst eu
  have C : Cok Γ cX3_add RX3 (some .int) 0 0 0 := C
  unfold F_X3_add at hF
  refine A_aload_n C dX3_add_0 rfl (pc' := 1) rfl ?_
  refine A_get C (j := 7) cl_X3 rfl rfl lf_X3_33 dX3_add_1 (HPg_9 s o) rfl (pc' := 4) rfl ?_
  obtain ⟨x1, e2, hF⟩ := bnd_some hF
  refine A_topi e2 ?_
  refine A_istore C (lv' := [some (.ref 9), some (.int a0), some (.int a1), some (.int a2), some (.int a3), some (.int a4), some (.int a5), some (.int x1)]) dX3_add_4 rfl eN rfl rfl (pc' := 6) rfl ?_
  refine A_aload_n C dX3_add_6 rfl (pc' := 7) rfl ?_
  refine A_get C (j := 0) cl_X3 rfl rfl lf_X3_9 dX3_add_7 (HPg_9 s o) rfl (pc' := 10) rfl ?_
  refine A_iload C dX3_add_10 rfl (pc' := 12) rfl ?_
  refine A_iload_n C dX3_add_12 rfl (pc' := 13) rfl ?_
  obtain ⟨h3, hF⟩ := grd_some hF
  obtain ⟨s4, e5, hF⟩ := bnd_some hF
  refine A_iast C (h1 := HP s4 o) (HPg_10 s o) (ixb_in h3) (by rw [e5]; exact HPs_10 s o _) dX3_add_13 (pc' := 14) rfl ?_
  refine A_aload_n C dX3_add_14 rfl (pc' := 15) rfl ?_
  refine A_get C (j := 1) cl_X3 rfl rfl lf_X3_15 dX3_add_15 (HPg_9 s4 o) rfl (pc' := 18) rfl ?_
  refine A_iload C dX3_add_18 rfl (pc' := 20) rfl ?_
  refine A_iload_n C dX3_add_20 rfl (pc' := 21) rfl ?_
  obtain ⟨h6, hF⟩ := grd_some hF
  obtain ⟨s7, e8, hF⟩ := bnd_some hF
  refine A_iast C (h1 := HP s7 o) (HPg_11 s4 o) (ixb_in h6) (by rw [e8]; exact HPs_11 s4 o _) dX3_add_21 (pc' := 22) rfl ?_
  refine A_aload_n C dX3_add_22 rfl (pc' := 23) rfl ?_
  refine A_get C (j := 2) cl_X3 rfl rfl lf_X3_18 dX3_add_23 (HPg_9 s7 o) rfl (pc' := 26) rfl ?_
  refine A_iload C dX3_add_26 rfl (pc' := 28) rfl ?_
  refine A_iload_n C dX3_add_28 rfl (pc' := 29) rfl ?_
  obtain ⟨h9, hF⟩ := grd_some hF
  obtain ⟨s10, e11, hF⟩ := bnd_some hF
  refine A_iast C (h1 := HP s10 o) (HPg_12 s7 o) (ixb_in h9) (by rw [e11]; exact HPs_12 s7 o _) dX3_add_29 (pc' := 30) rfl ?_
  refine A_aload_n C dX3_add_30 rfl (pc' := 31) rfl ?_
  refine A_get C (j := 3) cl_X3 rfl rfl lf_X3_21 dX3_add_31 (HPg_9 s10 o) rfl (pc' := 34) rfl ?_
  refine A_iload C dX3_add_34 rfl (pc' := 36) rfl ?_
  refine A_iload C dX3_add_36 rfl (pc' := 38) rfl ?_
  obtain ⟨h12, hF⟩ := grd_some hF
  obtain ⟨s13, e14, hF⟩ := bnd_some hF
  refine A_iast C (h1 := HP s13 o) (HPg_13 s10 o) (ixb_in h12) (by rw [e14]; exact HPs_13 s10 o _) dX3_add_38 (pc' := 39) rfl ?_
  refine A_aload_n C dX3_add_39 rfl (pc' := 40) rfl ?_
  refine A_get C (j := 4) cl_X3 rfl rfl lf_X3_24 dX3_add_40 (HPg_9 s13 o) rfl (pc' := 43) rfl ?_
  refine A_iload C dX3_add_43 rfl (pc' := 45) rfl ?_
  refine A_iload C dX3_add_45 rfl (pc' := 47) rfl ?_
  refine A_bipush C (x := 10) dX3_add_47 (by decide) (pc' := 49) rfl ?_
  refine A_idiv C dX3_add_49 (by decide) (pc' := 50) rfl ?_
  obtain ⟨h15, hF⟩ := grd_some hF
  obtain ⟨s16, e17, hF⟩ := bnd_some hF
  refine A_iast C (h1 := HP s16 o) (HPg_14 s13 o) (ixb_in h15) (by rw [e17]; exact HPs_14 s13 o _) dX3_add_50 (pc' := 51) rfl ?_
  refine A_aload_n C dX3_add_51 rfl (pc' := 52) rfl ?_
  refine A_get C (j := 5) cl_X3 rfl rfl lf_X3_27 dX3_add_52 (HPg_9 s16 o) rfl (pc' := 55) rfl ?_
  refine A_iload C dX3_add_55 rfl (pc' := 57) rfl ?_
  refine A_iload C dX3_add_57 rfl (pc' := 59) rfl ?_
  refine A_bipush C (x := 10) dX3_add_59 (by decide) (pc' := 61) rfl ?_
  refine A_irem C dX3_add_61 (by decide) (pc' := 62) rfl ?_
  obtain ⟨h18, hF⟩ := grd_some hF
  obtain ⟨s19, e20, hF⟩ := bnd_some hF
  refine A_iast C (h1 := HP s19 o) (HPg_15 s16 o) (ixb_in h18) (by rw [e20]; exact HPs_15 s16 o _) dX3_add_62 (pc' := 63) rfl ?_
  refine A_aload_n C dX3_add_63 rfl (pc' := 64) rfl ?_
  refine A_get C (j := 6) cl_X3 rfl rfl lf_X3_30 dX3_add_64 (HPg_9 s19 o) rfl (pc' := 67) rfl ?_
  refine A_iload C dX3_add_67 rfl (pc' := 69) rfl ?_
  refine A_iload C dX3_add_69 rfl (pc' := 71) rfl ?_
  obtain ⟨h21, hF⟩ := grd_some hF
  obtain ⟨s22, e23, hF⟩ := bnd_some hF
  refine A_iast C (h1 := HP s22 o) (HPg_16 s19 o) (ixb_in h21) (by rw [e23]; exact HPs_16 s19 o _) dX3_add_71 (pc' := 72) rfl ?_
  refine A_aload_n C dX3_add_72 rfl (pc' := 73) rfl ?_
  refine A_dup C dX3_add_73 rfl (pc' := 74) rfl ?_
  refine A_get C (j := 7) cl_X3 rfl rfl lf_X3_33 dX3_add_74 (HPg_9 s22 o) rfl (pc' := 77) rfl ?_
  refine A_iconst C (x := 1) dX3_add_77 (by decide) (pc' := 78) rfl ?_
  refine A_iadd C dX3_add_78 (pc' := 79) rfl ?_
  obtain ⟨s24, e25, hF⟩ := bnd_some hF
  refine A_put C (j := 7) (h1 := HP s24 o) tyX3 tyX3_ok nmX3 cl_X3 rfl rfl lf_X3_33 rfl (tyX3_ok 7 (by decide)) (fun _ => rfl) (fun _ => rfl) rfl dX3_add_79 (HPg_9 s22 o) (by rw [e25]; exact HPp_9_7 s22 o _) (pc' := 82) rfl ?_
  refine A_iload C dX3_add_82 rfl (pc' := 84) rfl ?_
  cases hF
  exact A_iret C T (Nat.le_refl _) (Nat.le_refl _) dX3_add_84
def F_X0_isPlaced (a0 : Int32) (s : Sg) : Option Int32 :=
  grd (ixb a0 64 = true) <|
  if (s 20 a0.toNatClampNeg) = (-1 : Int32) then
    some (0 : Int32)
  else
    some (1 : Int32)
set_option maxHeartbeats 4000000 in
set_option maxRecDepth 100000 in
theorem F_X0_isPlaced_ok {u : Uv} (hu : Un u) {a0 : Int32} {s : Sg} {o : Nat → Int64} {r : Int32} (hF : F_X0_isPlaced a0 s = some r) : AM u (yX0_isPlaced, cX0_isPlaced, 2, (some .boolean)) 0 0 0 [.ref 8, .int a0] (HP s o) (some (.int r)) (HP s o) := by
  refine AM.of hu (lv := [some (.ref 8), some (.int a0)]) (by decide) rfl (Nat.le_of_ble_eq_true rfl) rfl ?_
  intro Γ eu eN C T
  subst eu
  have C : Cok Γ cX0_isPlaced RX0 (some .boolean) 0 0 0 := C
  unfold F_X0_isPlaced at hF
  refine A_aload_n C dX0_isPlaced_0 rfl (pc' := 1) rfl ?_
  refine A_get C (j := 9) cl_X0 rfl rfl lf_X0_28 dX0_isPlaced_1 (HPg_8 s o) rfl (pc' := 4) rfl ?_
  refine A_iload_n C dX0_isPlaced_4 rfl (pc' := 5) rfl ?_
  obtain ⟨h1, hF⟩ := grd_some hF
  refine A_iald C (HPg_20 s o) (ixb_in h1) dX0_isPlaced_5 (pc' := 6) rfl ?_
  refine A_iconst C (x := -1) dX0_isPlaced_6 (by decide) (pc' := 7) rfl ?_
  refine A_icmp_eq C dX0_isPlaced_7 (tgt := 14) (by decide) (pc' := 10) rfl (fun c2 => ?_) (fun c2 => ?_)
  · rw [if_pos c2] at hF
    refine A_iconst C (x := 0) dX0_isPlaced_14 (by decide) (pc' := 15) rfl ?_
    cases hF
    exact A_zret C T (Or.inl rfl) (Nat.le_refl _) (Nat.le_refl _) dX0_isPlaced_15
  · rw [if_neg c2] at hF
    refine A_iconst C (x := 1) dX0_isPlaced_10 (by decide) (pc' := 11) rfl ?_
    refine A_goto C dX0_isPlaced_11 (tgt := 15) (by decide) ?_
    cases hF
    exact A_zret C T (Or.inr rfl) (Nat.le_refl _) (Nat.le_refl _) dX0_isPlaced_15
def F_X0_periodOfItem (a0 : Int32) (s : Sg) : Option Int32 :=
  (F_X0_isPlaced a0 s).bind fun q1 =>
  if q1 = 0 then
    some (-1 : Int32)
  else
    grd (ixb a0 64 = true) <|
    some ((s 20 a0.toNatClampNeg) / (6 : Int32))
set_option maxHeartbeats 4000000 in
set_option maxRecDepth 100000 in
theorem F_X0_periodOfItem_ok {u : Uv} (hu : Un u) {a0 : Int32} {s : Sg} {o : Nat → Int64} {r : Int32} (hF : F_X0_periodOfItem a0 s = some r) : AM u (yX0_periodOfItem, cX0_periodOfItem, 2, (some .int)) 1 0 0 [.ref 8, .int a0] (HP s o) (some (.int r)) (HP s o) := by
  refine AM.of hu (lv := [some (.ref 8), some (.int a0)]) (by decide) rfl (Nat.le_of_ble_eq_true rfl) rfl ?_
  intro Γ eu eN C T
  subst eu
  have C : Cok Γ cX0_periodOfItem RX0 (some .int) 1 0 0 := C
  unfold F_X0_periodOfItem at hF
  refine A_aload_n C dX0_periodOfItem_0 rfl (pc' := 1) rfl ?_
  refine A_iload_n C dX0_periodOfItem_1 rfl (pc' := 2) rfl ?_
  obtain ⟨q1, h2, hF⟩ := Option.bind_eq_some_iff.mp hF
  refine A_callV C (av := [.int a0]) (rest := []) (st2 := [.int q1]) (k2 := 0) (n2 := 0) (F_X0_isPlaced_ok hu h2) mk_X0_isPlaced lm_X0_53 wi_X0_isPlaced wv_X0_isPlaced (HPg_8 s o) rfl rfl rfl rfl ⟨by decide, by decide⟩ (Nat.le_of_ble_eq_true rfl) rfl rfl dX0_periodOfItem_2 rfl rfl rfl (pc' := 5) rfl ?_
  refine A_if_eq C dX0_periodOfItem_5 (tgt := 20) (by decide) (pc' := 8) rfl (fun c3 => ?_) (fun c3 => ?_)
  · rw [if_pos c3] at hF
    refine A_iconst C (x := -1) dX0_periodOfItem_20 (by decide) (pc' := 21) rfl ?_
    cases hF
    exact A_iret C T (Nat.le_refl _) (Nat.le_refl _) dX0_periodOfItem_21
  · rw [if_neg c3] at hF
    refine A_aload_n C dX0_periodOfItem_8 rfl (pc' := 9) rfl ?_
    refine A_get C (j := 9) cl_X0 rfl rfl lf_X0_28 dX0_periodOfItem_9 (HPg_8 s o) rfl (pc' := 12) rfl ?_
    refine A_iload_n C dX0_periodOfItem_12 rfl (pc' := 13) rfl ?_
    obtain ⟨h4, hF⟩ := grd_some hF
    refine A_iald C (HPg_20 s o) (ixb_in h4) dX0_periodOfItem_13 (pc' := 14) rfl ?_
    refine A_bipush C (x := 6) dX0_periodOfItem_14 (by decide) (pc' := 16) rfl ?_
    refine A_idiv C dX0_periodOfItem_16 (by decide) (pc' := 17) rfl ?_
    refine A_goto C dX0_periodOfItem_17 (tgt := 21) (by decide) ?_
    cases hF
    exact A_iret C T (Nat.le_refl _) (Nat.le_refl _) dX0_periodOfItem_21
def F_X0_roomOfItem (a0 : Int32) (s : Sg) : Option Int32 :=
  (F_X0_isPlaced a0 s).bind fun q1 =>
  if q1 = 0 then
    some (-1 : Int32)
  else
    grd (ixb a0 64 = true) <|
    some ((s 20 a0.toNatClampNeg) - (s 20 a0.toNatClampNeg) / (6 : Int32) * (6 : Int32))
set_option maxHeartbeats 4000000 in
set_option maxRecDepth 100000 in
theorem F_X0_roomOfItem_ok {u : Uv} (hu : Un u) {a0 : Int32} {s : Sg} {o : Nat → Int64} {r : Int32} (hF : F_X0_roomOfItem a0 s = some r) : AM u (yX0_roomOfItem, cX0_roomOfItem, 2, (some .int)) 1 0 0 [.ref 8, .int a0] (HP s o) (some (.int r)) (HP s o) := by
  refine AM.of hu (lv := [some (.ref 8), some (.int a0)]) (by decide) rfl (Nat.le_of_ble_eq_true rfl) rfl ?_
  intro Γ eu eN C T
  subst eu
  have C : Cok Γ cX0_roomOfItem RX0 (some .int) 1 0 0 := C
  unfold F_X0_roomOfItem at hF
  refine A_aload_n C dX0_roomOfItem_0 rfl (pc' := 1) rfl ?_
  refine A_iload_n C dX0_roomOfItem_1 rfl (pc' := 2) rfl ?_
  obtain ⟨q1, h2, hF⟩ := Option.bind_eq_some_iff.mp hF
  refine A_callV C (av := [.int a0]) (rest := []) (st2 := [.int q1]) (k2 := 0) (n2 := 0) (F_X0_isPlaced_ok hu h2) mk_X0_isPlaced lm_X0_53 wi_X0_isPlaced wv_X0_isPlaced (HPg_8 s o) rfl rfl rfl rfl ⟨by decide, by decide⟩ (Nat.le_of_ble_eq_true rfl) rfl rfl dX0_roomOfItem_2 rfl rfl rfl (pc' := 5) rfl ?_
  refine A_if_eq C dX0_roomOfItem_5 (tgt := 20) (by decide) (pc' := 8) rfl (fun c3 => ?_) (fun c3 => ?_)
  · rw [if_pos c3] at hF
    refine A_iconst C (x := -1) dX0_roomOfItem_20 (by decide) (pc' := 21) rfl ?_
    cases hF
    exact A_iret C T (Nat.le_refl _) (Nat.le_refl _) dX0_roomOfItem_21
  · rw [if_neg c3] at hF
    refine A_aload_n C dX0_roomOfItem_8 rfl (pc' := 9) rfl ?_
    refine A_get C (j := 9) cl_X0 rfl rfl lf_X0_28 dX0_roomOfItem_9 (HPg_8 s o) rfl (pc' := 12) rfl ?_
    refine A_iload_n C dX0_roomOfItem_12 rfl (pc' := 13) rfl ?_
    obtain ⟨h4, hF⟩ := grd_some hF
    refine A_iald C (HPg_20 s o) (ixb_in h4) dX0_roomOfItem_13 (pc' := 14) rfl ?_
    refine A_bipush C (x := 6) dX0_roomOfItem_14 (by decide) (pc' := 16) rfl ?_
    refine A_irem C dX0_roomOfItem_16 (by decide) (pc' := 17) rfl ?_
    refine A_goto C dX0_roomOfItem_17 (tgt := 21) (by decide) ?_
    cases hF
    exact A_iret C T (Nat.le_refl _) (Nat.le_refl _) dX0_roomOfItem_21
def F_X0_bitsOfItem (a0 : Int32) (s : Sg) : Option Int32 :=
  (F_X0_isPlaced a0 s).bind fun q1 =>
  if q1 = 0 then
    some (0 : Int32)
  else
    (F_X5_lessonOf a0 s).bind fun q4 =>
    grd (ixb a0 64 = true) <|
    (F_X3_bitsAt q4 ((s 20 a0.toNatClampNeg) / (6 : Int32)) s).bind fun q7 =>
    some q7
set_option maxHeartbeats 4000000 in
set_option maxRecDepth 100000 in
theorem F_X0_bitsOfItem_ok {u : Uv} (hu : Un u) {a0 : Int32} {s : Sg} {o : Nat → Int64} {r : Int32} (hF : F_X0_bitsOfItem a0 s = some r) : AM u (yX0_bitsOfItem, cX0_bitsOfItem, 2, (some .int)) 1 0 0 [.ref 8, .int a0] (HP s o) (some (.int r)) (HP s o) := by
  refine AM.of hu (lv := [some (.ref 8), some (.int a0)]) (by decide) rfl (Nat.le_of_ble_eq_true rfl) rfl ?_
  intro Γ eu eN C T
  subst eu
  have C : Cok Γ cX0_bitsOfItem RX0 (some .int) 1 0 0 := C
  unfold F_X0_bitsOfItem at hF
  refine A_aload_n C dX0_bitsOfItem_0 rfl (pc' := 1) rfl ?_
  refine A_iload_n C dX0_bitsOfItem_1 rfl (pc' := 2) rfl ?_
  obtain ⟨q1, h2, hF⟩ := Option.bind_eq_some_iff.mp hF
  refine A_callV C (av := [.int a0]) (rest := []) (st2 := [.int q1]) (k2 := 0) (n2 := 0) (F_X0_isPlaced_ok hu h2) mk_X0_isPlaced lm_X0_53 wi_X0_isPlaced wv_X0_isPlaced (HPg_8 s o) rfl rfl rfl rfl ⟨by decide, by decide⟩ (Nat.le_of_ble_eq_true rfl) rfl rfl dX0_bitsOfItem_2 rfl rfl rfl (pc' := 5) rfl ?_
  refine A_if_eq C dX0_bitsOfItem_5 (tgt := 31) (by decide) (pc' := 8) rfl (fun c3 => ?_) (fun c3 => ?_)
  · rw [if_pos c3] at hF
    refine A_iconst C (x := 0) dX0_bitsOfItem_31 (by decide) (pc' := 32) rfl ?_
    cases hF
    exact A_iret C T (Nat.le_refl _) (Nat.le_refl _) dX0_bitsOfItem_32
  · rw [if_neg c3] at hF
    refine A_aload_n C dX0_bitsOfItem_8 rfl (pc' := 9) rfl ?_
    refine A_get C (j := 5) cl_X0 rfl rfl lf_X0_12 dX0_bitsOfItem_9 (HPg_8 s o) rfl (pc' := 12) rfl ?_
    refine A_iload_n C dX0_bitsOfItem_12 rfl (pc' := 13) rfl ?_
    obtain ⟨q4, h5, hF⟩ := Option.bind_eq_some_iff.mp hF
    refine A_callSN C (av := [.int a0]) (rest := [.ref 9]) (st2 := [.int q4, .ref 9]) (k2 := 0) (n2 := 0) (F_X5_lessonOf_ok hu h5) mk_X5_lessonOf lm_X0_57 ws_X5_lessonOf rfl rfl rfl ⟨by decide, by decide⟩ (Nat.le_of_ble_eq_true rfl) rfl rfl dX0_bitsOfItem_13 rfl rfl rfl (pc' := 16) rfl ?_
    refine A_aload_n C dX0_bitsOfItem_16 rfl (pc' := 17) rfl ?_
    refine A_get C (j := 9) cl_X0 rfl rfl lf_X0_28 dX0_bitsOfItem_17 (HPg_8 s o) rfl (pc' := 20) rfl ?_
    refine A_iload_n C dX0_bitsOfItem_20 rfl (pc' := 21) rfl ?_
    obtain ⟨h6, hF⟩ := grd_some hF
    refine A_iald C (HPg_20 s o) (ixb_in h6) dX0_bitsOfItem_21 (pc' := 22) rfl ?_
    refine A_bipush C (x := 6) dX0_bitsOfItem_22 (by decide) (pc' := 24) rfl ?_
    refine A_idiv C dX0_bitsOfItem_24 (by decide) (pc' := 25) rfl ?_
    obtain ⟨q7, h8, hF⟩ := Option.bind_eq_some_iff.mp hF
    refine A_callVN C (av := [.int q4, .int ((s 20 a0.toNatClampNeg) / (6 : Int32))]) (rest := []) (st2 := [.int q7]) (k2 := 0) (n2 := 0) (F_X3_bitsAt_ok hu h8) mk_X3_bitsAt lm_X0_61 wi_X3_bitsAt wv_X3_bitsAt (HPg_9 s o) rfl rfl rfl rfl ⟨by decide, by decide⟩ (Nat.le_of_ble_eq_true rfl) rfl rfl dX0_bitsOfItem_25 rfl rfl rfl (pc' := 28) rfl ?_
    refine A_goto C dX0_bitsOfItem_28 (tgt := 32) (by decide) ?_
    cases hF
    exact A_iret C T (Nat.le_refl _) (Nat.le_refl _) dX0_bitsOfItem_32
def F_X0_isOnDay (a0 : Int32) (a1 : Int32) (s : Sg) : Option Int32 :=
  grd (ixb a0 64 = true) <|
  if (s 20 a0.toNatClampNeg) = (-1 : Int32) then
    some (0 : Int32)
  else
    grd (ixb a0 64 = true) <|
    grd (¬ (s 901 0) = 0) <|
    if (((s 20 a0.toNatClampNeg) / (6 : Int32)) / (s 901 0)) = a1 then
      some (1 : Int32)
    else
      some (0 : Int32)
set_option maxHeartbeats 4000000 in
set_option maxRecDepth 100000 in
theorem F_X0_isOnDay_ok {u : Uv} (hu : Un u) {a0 a1 : Int32} {s : Sg} {o : Nat → Int64} {r : Int32} (hF : F_X0_isOnDay a0 a1 s = some r) : AM u (yX0_isOnDay, cX0_isOnDay, 3, (some .boolean)) 0 0 0 [.ref 8, .int a0, .int a1] (HP s o) (some (.int r)) (HP s o) := by
  refine AM.of hu (lv := [some (.ref 8), some (.int a0), some (.int a1)]) (by decide) rfl (Nat.le_of_ble_eq_true rfl) rfl ?_
  intro Γ eu eN C T
  subst eu
  have C : Cok Γ cX0_isOnDay RX0 (some .boolean) 0 0 0 := C
  unfold F_X0_isOnDay at hF
  refine A_aload_n C dX0_isOnDay_0 rfl (pc' := 1) rfl ?_
  refine A_get C (j := 9) cl_X0 rfl rfl lf_X0_28 dX0_isOnDay_1 (HPg_8 s o) rfl (pc' := 4) rfl ?_
  refine A_iload_n C dX0_isOnDay_4 rfl (pc' := 5) rfl ?_
  obtain ⟨h1, hF⟩ := grd_some hF
  refine A_iald C (HPg_20 s o) (ixb_in h1) dX0_isOnDay_5 (pc' := 6) rfl ?_
  refine A_iconst C (x := -1) dX0_isOnDay_6 (by decide) (pc' := 7) rfl ?_
  refine A_icmp_eq C dX0_isOnDay_7 (tgt := 32) (by decide) (pc' := 10) rfl (fun c2 => ?_) (fun c2 => ?_)
  · rw [if_pos c2] at hF
    refine A_iconst C (x := 0) dX0_isOnDay_32 (by decide) (pc' := 33) rfl ?_
    cases hF
    exact A_zret C T (Or.inl rfl) (Nat.le_refl _) (Nat.le_refl _) dX0_isOnDay_33
  · rw [if_neg c2] at hF
    refine A_aload_n C dX0_isOnDay_10 rfl (pc' := 11) rfl ?_
    refine A_get C (j := 9) cl_X0 rfl rfl lf_X0_28 dX0_isOnDay_11 (HPg_8 s o) rfl (pc' := 14) rfl ?_
    refine A_iload_n C dX0_isOnDay_14 rfl (pc' := 15) rfl ?_
    obtain ⟨h3, hF⟩ := grd_some hF
    refine A_iald C (HPg_20 s o) (ixb_in h3) dX0_isOnDay_15 (pc' := 16) rfl ?_
    refine A_bipush C (x := 6) dX0_isOnDay_16 (by decide) (pc' := 18) rfl ?_
    refine A_idiv C dX0_isOnDay_18 (by decide) (pc' := 19) rfl ?_
    refine A_aload_n C dX0_isOnDay_19 rfl (pc' := 20) rfl ?_
    refine A_get C (j := 1) cl_X0 rfl rfl lf_X0_35 dX0_isOnDay_20 (HPg_8 s o) rfl (pc' := 23) rfl ?_
    obtain ⟨h4, hF⟩ := grd_some hF
    refine A_idiv C dX0_isOnDay_23 h4 (pc' := 24) rfl ?_
    refine A_iload_n C dX0_isOnDay_24 rfl (pc' := 25) rfl ?_
    refine A_icmp_ne C dX0_isOnDay_25 (tgt := 32) (by decide) (pc' := 28) rfl (fun c5 => ?_) (fun c5 => ?_)
    · rw [if_neg c5] at hF
      refine A_iconst C (x := 0) dX0_isOnDay_32 (by decide) (pc' := 33) rfl ?_
      cases hF
      exact A_zret C T (Or.inl rfl) (Nat.le_refl _) (Nat.le_refl _) dX0_isOnDay_33
    · rw [if_pos c5] at hF
      refine A_iconst C (x := 1) dX0_isOnDay_28 (by decide) (pc' := 29) rfl ?_
      refine A_goto C dX0_isOnDay_29 (tgt := 33) (by decide) ?_
      cases hF
      exact A_zret C T (Or.inr rfl) (Nat.le_refl _) (Nat.le_refl _) dX0_isOnDay_33
def F_X0_mark (a0 : Int32) (s : Sg) : Option Sg :=
  (F_X5_lessonOf a0 s).bind fun q1 =>
  grd (ixb a0 64 = true) <|
  (F_X3_bitsAt q1 ((s 20 a0.toNatClampNeg) / (6 : Int32)) s).bind fun q4 =>
  grd (ixb a0 64 = true) <|
  grd (ixb ((16 : Int32) + ((s 20 a0.toNatClampNeg) - (s 20 a0.toNatClampNeg) / (6 : Int32) * (6 : Int32))) 22 = true) <|
  grd (ixb ((16 : Int32) + ((s 20 a0.toNatClampNeg) - (s 20 a0.toNatClampNeg) / (6 : Int32) * (6 : Int32))) 22 = true) <|
  bnd (va_up s 19 (upd (s 19) ((16 : Int32) + ((s 20 a0.toNatClampNeg) - (s 20 a0.toNatClampNeg) / (6 : Int32) * (6 : Int32))).toNatClampNeg ((s 19 ((16 : Int32) + ((s 20 a0.toNatClampNeg) - (s 20 a0.toNatClampNeg) / (6 : Int32) * (6 : Int32))).toNatClampNeg) ||| q4))) fun s9 =>
  grd (ixb q1 16 = true) <|
  grd (ixb ((8 : Int32) + (s9 12 q1.toNatClampNeg)) 22 = true) <|
  grd (ixb ((8 : Int32) + (s9 12 q1.toNatClampNeg)) 22 = true) <|
  bnd (va_up s9 19 (upd (s9 19) ((8 : Int32) + (s9 12 q1.toNatClampNeg)).toNatClampNeg ((s9 19 ((8 : Int32) + (s9 12 q1.toNatClampNeg)).toNatClampNeg) ||| q4))) fun s14 =>
  grd (ixb q1 16 = true) <|
  grd (ixb (s14 10 q1.toNatClampNeg) 22 = true) <|
  grd (ixb (s14 10 q1.toNatClampNeg) 22 = true) <|
  bnd (va_up s14 19 (upd (s14 19) (s14 10 q1.toNatClampNeg).toNatClampNeg ((s14 19 (s14 10 q1.toNatClampNeg).toNatClampNeg) ||| q4))) fun s19 =>
  grd (ixb q1 16 = true) <|
  if (s19 11 q1.toNatClampNeg) = (-1 : Int32) then
    some s19
  else
    grd (ixb q1 16 = true) <|
    grd (ixb (s19 11 q1.toNatClampNeg) 22 = true) <|
    grd (ixb (s19 11 q1.toNatClampNeg) 22 = true) <|
    bnd (va_up s19 19 (upd (s19 19) (s19 11 q1.toNatClampNeg).toNatClampNeg ((s19 19 (s19 11 q1.toNatClampNeg).toNatClampNeg) ||| q4))) fun s26 =>
    some s26
set_option maxHeartbeats 4000000 in
set_option maxRecDepth 100000 in
theorem F_X0_mark_ok {u : Uv} (hu : Un u) {a0 : Int32} {s : Sg} {o : Nat → Int64} {r : Sg} (hF : F_X0_mark a0 s = some r) : AM u (yX0_mark, cX0_mark, 4, none) 1 0 0 [.ref 8, .int a0] (HP s o) none (HP r o) := by
  refine AM.of hu (lv := [some (.ref 8), some (.int a0), none, none]) (by decide) rfl (Nat.le_of_ble_eq_true rfl) rfl ?_
  intro Γ eu eN C T
  subst eu
  have C : Cok Γ cX0_mark RX0 none 1 0 0 := C
  unfold F_X0_mark at hF
  refine A_iload_n C dX0_mark_0 rfl (pc' := 1) rfl ?_
  obtain ⟨q1, h2, hF⟩ := Option.bind_eq_some_iff.mp hF
  refine A_callSN C (av := [.int a0]) (rest := []) (st2 := [.int q1]) (k2 := 0) (n2 := 0) (F_X5_lessonOf_ok hu h2) mk_X5_lessonOf lm_X0_57 ws_X5_lessonOf rfl rfl rfl ⟨by decide, by decide⟩ (Nat.le_of_ble_eq_true rfl) rfl rfl dX0_mark_1 rfl rfl rfl (pc' := 4) rfl ?_
  refine A_istore_n C (lv' := [some (.ref 8), some (.int a0), some (.int q1), none]) dX0_mark_4 rfl eN rfl rfl (pc' := 5) rfl ?_
  refine A_aload_n C dX0_mark_5 rfl (pc' := 6) rfl ?_
  refine A_get C (j := 5) cl_X0 rfl rfl lf_X0_12 dX0_mark_6 (HPg_8 s o) rfl (pc' := 9) rfl ?_
  refine A_iload_n C dX0_mark_9 rfl (pc' := 10) rfl ?_
  refine A_aload_n C dX0_mark_10 rfl (pc' := 11) rfl ?_
  refine A_get C (j := 9) cl_X0 rfl rfl lf_X0_28 dX0_mark_11 (HPg_8 s o) rfl (pc' := 14) rfl ?_
  refine A_iload_n C dX0_mark_14 rfl (pc' := 15) rfl ?_
  obtain ⟨h3, hF⟩ := grd_some hF
  refine A_iald C (HPg_20 s o) (ixb_in h3) dX0_mark_15 (pc' := 16) rfl ?_
  refine A_bipush C (x := 6) dX0_mark_16 (by decide) (pc' := 18) rfl ?_
  refine A_idiv C dX0_mark_18 (by decide) (pc' := 19) rfl ?_
  obtain ⟨q4, h5, hF⟩ := Option.bind_eq_some_iff.mp hF
  refine A_callVN C (av := [.int q1, .int ((s 20 a0.toNatClampNeg) / (6 : Int32))]) (rest := []) (st2 := [.int q4]) (k2 := 0) (n2 := 0) (F_X3_bitsAt_ok hu h5) mk_X3_bitsAt lm_X0_61 wi_X3_bitsAt wv_X3_bitsAt (HPg_9 s o) rfl rfl rfl rfl ⟨by decide, by decide⟩ (Nat.le_of_ble_eq_true rfl) rfl rfl dX0_mark_19 rfl rfl rfl (pc' := 22) rfl ?_
  refine A_istore_n C (lv' := [some (.ref 8), some (.int a0), some (.int q1), some (.int q4)]) dX0_mark_22 rfl eN rfl rfl (pc' := 23) rfl ?_
  refine A_aload_n C dX0_mark_23 rfl (pc' := 24) rfl ?_
  refine A_get C (j := 8) cl_X0 rfl rfl lf_X0_25 dX0_mark_24 (HPg_8 s o) rfl (pc' := 27) rfl ?_
  refine A_bipush C (x := 16) dX0_mark_27 (by decide) (pc' := 29) rfl ?_
  refine A_aload_n C dX0_mark_29 rfl (pc' := 30) rfl ?_
  refine A_get C (j := 9) cl_X0 rfl rfl lf_X0_28 dX0_mark_30 (HPg_8 s o) rfl (pc' := 33) rfl ?_
  refine A_iload_n C dX0_mark_33 rfl (pc' := 34) rfl ?_
  obtain ⟨h6, hF⟩ := grd_some hF
  refine A_iald C (HPg_20 s o) (ixb_in h6) dX0_mark_34 (pc' := 35) rfl ?_
  refine A_bipush C (x := 6) dX0_mark_35 (by decide) (pc' := 37) rfl ?_
  refine A_irem C dX0_mark_37 (by decide) (pc' := 38) rfl ?_
  refine A_iadd C dX0_mark_38 (pc' := 39) rfl ?_
  refine A_dup2 C dX0_mark_39 rfl rfl (pc' := 40) rfl ?_
  obtain ⟨h7, hF⟩ := grd_some hF
  refine A_iald C (HPg_19 s o) (ixb_in h7) dX0_mark_40 (pc' := 41) rfl ?_
  refine A_iload_n C dX0_mark_41 rfl (pc' := 42) rfl ?_
  refine A_ior C dX0_mark_42 (pc' := 43) rfl ?_
  obtain ⟨h8, hF⟩ := grd_some hF
  obtain ⟨s9, e10, hF⟩ := bnd_some hF
  refine A_iast C (h1 := HP s9 o) (HPg_19 s o) (ixb_in h8) (by rw [e10]; exact HPs_19 s o _) dX0_mark_43 (pc' := 44) rfl ?_
  refine A_aload_n C dX0_mark_44 rfl (pc' := 45) rfl ?_
  refine A_get C (j := 8) cl_X0 rfl rfl lf_X0_25 dX0_mark_45 (HPg_8 s9 o) rfl (pc' := 48) rfl ?_
  refine A_bipush C (x := 8) dX0_mark_48 (by decide) (pc' := 50) rfl ?_
  refine A_aload_n C dX0_mark_50 rfl (pc' := 51) rfl ?_
  refine A_get C (j := 5) cl_X0 rfl rfl lf_X0_12 dX0_mark_51 (HPg_8 s9 o) rfl (pc' := 54) rfl ?_
  refine A_getN C (j := 2) cl_X3 rfl rfl lf_X0_69 dX0_mark_54 (HPg_9 s9 o) rfl (pc' := 57) rfl ?_
  refine A_iload_n C dX0_mark_57 rfl (pc' := 58) rfl ?_
  obtain ⟨h11, hF⟩ := grd_some hF
  refine A_iald C (HPg_12 s9 o) (ixb_in h11) dX0_mark_58 (pc' := 59) rfl ?_
  refine A_iadd C dX0_mark_59 (pc' := 60) rfl ?_
  refine A_dup2 C dX0_mark_60 rfl rfl (pc' := 61) rfl ?_
  obtain ⟨h12, hF⟩ := grd_some hF
  refine A_iald C (HPg_19 s9 o) (ixb_in h12) dX0_mark_61 (pc' := 62) rfl ?_
  refine A_iload_n C dX0_mark_62 rfl (pc' := 63) rfl ?_
  refine A_ior C dX0_mark_63 (pc' := 64) rfl ?_
  obtain ⟨h13, hF⟩ := grd_some hF
  obtain ⟨s14, e15, hF⟩ := bnd_some hF
  refine A_iast C (h1 := HP s14 o) (HPg_19 s9 o) (ixb_in h13) (by rw [e15]; exact HPs_19 s9 o _) dX0_mark_64 (pc' := 65) rfl ?_
  refine A_aload_n C dX0_mark_65 rfl (pc' := 66) rfl ?_
  refine A_get C (j := 8) cl_X0 rfl rfl lf_X0_25 dX0_mark_66 (HPg_8 s14 o) rfl (pc' := 69) rfl ?_
  refine A_aload_n C dX0_mark_69 rfl (pc' := 70) rfl ?_
  refine A_get C (j := 5) cl_X0 rfl rfl lf_X0_12 dX0_mark_70 (HPg_8 s14 o) rfl (pc' := 73) rfl ?_
  refine A_getN C (j := 0) cl_X3 rfl rfl lf_X0_72 dX0_mark_73 (HPg_9 s14 o) rfl (pc' := 76) rfl ?_
  refine A_iload_n C dX0_mark_76 rfl (pc' := 77) rfl ?_
  obtain ⟨h16, hF⟩ := grd_some hF
  refine A_iald C (HPg_10 s14 o) (ixb_in h16) dX0_mark_77 (pc' := 78) rfl ?_
  refine A_dup2 C dX0_mark_78 rfl rfl (pc' := 79) rfl ?_
  obtain ⟨h17, hF⟩ := grd_some hF
  refine A_iald C (HPg_19 s14 o) (ixb_in h17) dX0_mark_79 (pc' := 80) rfl ?_
  refine A_iload_n C dX0_mark_80 rfl (pc' := 81) rfl ?_
  refine A_ior C dX0_mark_81 (pc' := 82) rfl ?_
  obtain ⟨h18, hF⟩ := grd_some hF
  obtain ⟨s19, e20, hF⟩ := bnd_some hF
  refine A_iast C (h1 := HP s19 o) (HPg_19 s14 o) (ixb_in h18) (by rw [e20]; exact HPs_19 s14 o _) dX0_mark_82 (pc' := 83) rfl ?_
  refine A_aload_n C dX0_mark_83 rfl (pc' := 84) rfl ?_
  refine A_get C (j := 5) cl_X0 rfl rfl lf_X0_12 dX0_mark_84 (HPg_8 s19 o) rfl (pc' := 87) rfl ?_
  refine A_getN C (j := 1) cl_X3 rfl rfl lf_X0_75 dX0_mark_87 (HPg_9 s19 o) rfl (pc' := 90) rfl ?_
  refine A_iload_n C dX0_mark_90 rfl (pc' := 91) rfl ?_
  obtain ⟨h21, hF⟩ := grd_some hF
  refine A_iald C (HPg_11 s19 o) (ixb_in h21) dX0_mark_91 (pc' := 92) rfl ?_
  refine A_iconst C (x := -1) dX0_mark_92 (by decide) (pc' := 93) rfl ?_
  refine A_icmp_eq C dX0_mark_93 (tgt := 114) (by decide) (pc' := 96) rfl (fun c22 => ?_) (fun c22 => ?_)
  · rw [if_pos c22] at hF
    cases hF
    exact A_vret C T (Nat.le_refl _) (Nat.le_refl _) dX0_mark_114
  · rw [if_neg c22] at hF
    refine A_aload_n C dX0_mark_96 rfl (pc' := 97) rfl ?_
    refine A_get C (j := 8) cl_X0 rfl rfl lf_X0_25 dX0_mark_97 (HPg_8 s19 o) rfl (pc' := 100) rfl ?_
    refine A_aload_n C dX0_mark_100 rfl (pc' := 101) rfl ?_
    refine A_get C (j := 5) cl_X0 rfl rfl lf_X0_12 dX0_mark_101 (HPg_8 s19 o) rfl (pc' := 104) rfl ?_
    refine A_getN C (j := 1) cl_X3 rfl rfl lf_X0_75 dX0_mark_104 (HPg_9 s19 o) rfl (pc' := 107) rfl ?_
    refine A_iload_n C dX0_mark_107 rfl (pc' := 108) rfl ?_
    obtain ⟨h23, hF⟩ := grd_some hF
    refine A_iald C (HPg_11 s19 o) (ixb_in h23) dX0_mark_108 (pc' := 109) rfl ?_
    refine A_dup2 C dX0_mark_109 rfl rfl (pc' := 110) rfl ?_
    obtain ⟨h24, hF⟩ := grd_some hF
    refine A_iald C (HPg_19 s19 o) (ixb_in h24) dX0_mark_110 (pc' := 111) rfl ?_
    refine A_iload_n C dX0_mark_111 rfl (pc' := 112) rfl ?_
    refine A_ior C dX0_mark_112 (pc' := 113) rfl ?_
    obtain ⟨h25, hF⟩ := grd_some hF
    obtain ⟨s26, e27, hF⟩ := bnd_some hF
    refine A_iast C (h1 := HP s26 o) (HPg_19 s19 o) (ixb_in h25) (by rw [e27]; exact HPs_19 s19 o _) dX0_mark_113 (pc' := 114) rfl ?_
    cases hF
    exact A_vret C T (Nat.le_refl _) (Nat.le_refl _) dX0_mark_114
def F_X0_putAt (a0 : Int32) (a1 : Int32) (s : Sg) : Option Sg :=
  grd (ixb a0 64 = true) <|
  bnd (va_up s 20 (upd (s 20) a0.toNatClampNeg a1)) fun s2 =>
  (F_X0_mark a0 s2).bind fun q4 =>
  some q4
set_option maxHeartbeats 4000000 in
set_option maxRecDepth 100000 in
theorem F_X0_putAt_ok {u : Uv} (hu : Un u) {a0 a1 : Int32} {s : Sg} {o : Nat → Int64} {r : Sg} (hF : F_X0_putAt a0 a1 s = some r) : AM u (yX0_putAt, cX0_putAt, 3, none) 2 0 0 [.ref 8, .int a0, .int a1] (HP s o) none (HP r o) := by
  refine AM.of hu (lv := [some (.ref 8), some (.int a0), some (.int a1)]) (by decide) rfl (Nat.le_of_ble_eq_true rfl) rfl ?_
  intro Γ eu eN C T
  subst eu
  have C : Cok Γ cX0_putAt RX0 none 2 0 0 := C
  unfold F_X0_putAt at hF
  refine A_aload_n C dX0_putAt_0 rfl (pc' := 1) rfl ?_
  refine A_get C (j := 9) cl_X0 rfl rfl lf_X0_28 dX0_putAt_1 (HPg_8 s o) rfl (pc' := 4) rfl ?_
  refine A_iload_n C dX0_putAt_4 rfl (pc' := 5) rfl ?_
  refine A_iload_n C dX0_putAt_5 rfl (pc' := 6) rfl ?_
  obtain ⟨h1, hF⟩ := grd_some hF
  obtain ⟨s2, e3, hF⟩ := bnd_some hF
  refine A_iast C (h1 := HP s2 o) (HPg_20 s o) (ixb_in h1) (by rw [e3]; exact HPs_20 s o _) dX0_putAt_6 (pc' := 7) rfl ?_
  refine A_aload_n C dX0_putAt_7 rfl (pc' := 8) rfl ?_
  refine A_iload_n C dX0_putAt_8 rfl (pc' := 9) rfl ?_
  obtain ⟨q4, h5, hF⟩ := Option.bind_eq_some_iff.mp hF
  refine A_callV C (av := [.int a0]) (rest := []) (st2 := []) (k2 := 0) (n2 := 0) (F_X0_mark_ok hu h5) mk_X0_mark lm_X0_65 wi_X0_mark wv_X0_mark (HPg_8 s2 o) rfl rfl rfl rfl ⟨by decide, by decide⟩ (Nat.le_of_ble_eq_true rfl) rfl rfl dX0_putAt_9 rfl rfl rfl (pc' := 12) rfl ?_
  cases hF
  exact A_vret C T (Nat.le_refl _) (Nat.le_refl _) dX0_putAt_12
def F_X0_takeOut (a0 : Int32) (s : Sg) : Option Sg :=
  (F_X5_lessonOf a0 s).bind fun q1 =>
  grd (ixb a0 64 = true) <|
  (F_X3_bitsAt q1 ((s 20 a0.toNatClampNeg) / (6 : Int32)) s).bind fun q4 =>
  bnd (q4 ^^^ (-1 : Int32)) fun x6 =>
  grd (ixb a0 64 = true) <|
  grd (ixb ((16 : Int32) + ((s 20 a0.toNatClampNeg) - (s 20 a0.toNatClampNeg) / (6 : Int32) * (6 : Int32))) 22 = true) <|
  grd (ixb ((16 : Int32) + ((s 20 a0.toNatClampNeg) - (s 20 a0.toNatClampNeg) / (6 : Int32) * (6 : Int32))) 22 = true) <|
  bnd (va_up s 19 (upd (s 19) ((16 : Int32) + ((s 20 a0.toNatClampNeg) - (s 20 a0.toNatClampNeg) / (6 : Int32) * (6 : Int32))).toNatClampNeg ((s 19 ((16 : Int32) + ((s 20 a0.toNatClampNeg) - (s 20 a0.toNatClampNeg) / (6 : Int32) * (6 : Int32))).toNatClampNeg) &&& x6))) fun s11 =>
  grd (ixb q1 16 = true) <|
  grd (ixb ((8 : Int32) + (s11 12 q1.toNatClampNeg)) 22 = true) <|
  grd (ixb ((8 : Int32) + (s11 12 q1.toNatClampNeg)) 22 = true) <|
  bnd (va_up s11 19 (upd (s11 19) ((8 : Int32) + (s11 12 q1.toNatClampNeg)).toNatClampNeg ((s11 19 ((8 : Int32) + (s11 12 q1.toNatClampNeg)).toNatClampNeg) &&& x6))) fun s16 =>
  grd (ixb q1 16 = true) <|
  grd (ixb (s16 10 q1.toNatClampNeg) 22 = true) <|
  grd (ixb (s16 10 q1.toNatClampNeg) 22 = true) <|
  bnd (va_up s16 19 (upd (s16 19) (s16 10 q1.toNatClampNeg).toNatClampNeg ((s16 19 (s16 10 q1.toNatClampNeg).toNatClampNeg) &&& x6))) fun s21 =>
  grd (ixb q1 16 = true) <|
  if (s21 11 q1.toNatClampNeg) = (-1 : Int32) then
    grd (ixb a0 64 = true) <|
    bnd (va_up s21 20 (upd (s21 20) a0.toNatClampNeg (-1 : Int32))) fun s26 =>
    some s26
  else
    grd (ixb q1 16 = true) <|
    grd (ixb (s21 11 q1.toNatClampNeg) 22 = true) <|
    grd (ixb (s21 11 q1.toNatClampNeg) 22 = true) <|
    bnd (va_up s21 19 (upd (s21 19) (s21 11 q1.toNatClampNeg).toNatClampNeg ((s21 19 (s21 11 q1.toNatClampNeg).toNatClampNeg) &&& x6))) fun s31 =>
    grd (ixb a0 64 = true) <|
    bnd (va_up s31 20 (upd (s31 20) a0.toNatClampNeg (-1 : Int32))) fun s34 =>
    some s34
set_option maxHeartbeats 4000000 in
set_option maxRecDepth 100000 in
theorem F_X0_takeOut_ok {u : Uv} (hu : Un u) {a0 : Int32} {s : Sg} {o : Nat → Int64} {r : Sg} (hF : F_X0_takeOut a0 s = some r) : AM u (yX0_takeOut, cX0_takeOut, 4, none) 1 0 0 [.ref 8, .int a0] (HP s o) none (HP r o) := by
  refine AM.of hu (lv := [some (.ref 8), some (.int a0), none, none]) (by decide) rfl (Nat.le_of_ble_eq_true rfl) rfl ?_
  intro Γ eu eN C T
  subst eu
  have C : Cok Γ cX0_takeOut RX0 none 1 0 0 := C
  unfold F_X0_takeOut at hF
  refine A_iload_n C dX0_takeOut_0 rfl (pc' := 1) rfl ?_
  obtain ⟨q1, h2, hF⟩ := Option.bind_eq_some_iff.mp hF
  refine A_callSN C (av := [.int a0]) (rest := []) (st2 := [.int q1]) (k2 := 0) (n2 := 0) (F_X5_lessonOf_ok hu h2) mk_X5_lessonOf lm_X0_57 ws_X5_lessonOf rfl rfl rfl ⟨by decide, by decide⟩ (Nat.le_of_ble_eq_true rfl) rfl rfl dX0_takeOut_1 rfl rfl rfl (pc' := 4) rfl ?_
  refine A_istore_n C (lv' := [some (.ref 8), some (.int a0), some (.int q1), none]) dX0_takeOut_4 rfl eN rfl rfl (pc' := 5) rfl ?_
  refine A_aload_n C dX0_takeOut_5 rfl (pc' := 6) rfl ?_
  refine A_get C (j := 5) cl_X0 rfl rfl lf_X0_12 dX0_takeOut_6 (HPg_8 s o) rfl (pc' := 9) rfl ?_
  refine A_iload_n C dX0_takeOut_9 rfl (pc' := 10) rfl ?_
  refine A_aload_n C dX0_takeOut_10 rfl (pc' := 11) rfl ?_
  refine A_get C (j := 9) cl_X0 rfl rfl lf_X0_28 dX0_takeOut_11 (HPg_8 s o) rfl (pc' := 14) rfl ?_
  refine A_iload_n C dX0_takeOut_14 rfl (pc' := 15) rfl ?_
  obtain ⟨h3, hF⟩ := grd_some hF
  refine A_iald C (HPg_20 s o) (ixb_in h3) dX0_takeOut_15 (pc' := 16) rfl ?_
  refine A_bipush C (x := 6) dX0_takeOut_16 (by decide) (pc' := 18) rfl ?_
  refine A_idiv C dX0_takeOut_18 (by decide) (pc' := 19) rfl ?_
  obtain ⟨q4, h5, hF⟩ := Option.bind_eq_some_iff.mp hF
  refine A_callVN C (av := [.int q1, .int ((s 20 a0.toNatClampNeg) / (6 : Int32))]) (rest := []) (st2 := [.int q4]) (k2 := 0) (n2 := 0) (F_X3_bitsAt_ok hu h5) mk_X3_bitsAt lm_X0_61 wi_X3_bitsAt wv_X3_bitsAt (HPg_9 s o) rfl rfl rfl rfl ⟨by decide, by decide⟩ (Nat.le_of_ble_eq_true rfl) rfl rfl dX0_takeOut_19 rfl rfl rfl (pc' := 22) rfl ?_
  refine A_iconst C (x := -1) dX0_takeOut_22 (by decide) (pc' := 23) rfl ?_
  refine A_ixor C dX0_takeOut_23 (pc' := 24) rfl ?_
  obtain ⟨x6, e7, hF⟩ := bnd_some hF
  refine A_topi e7 ?_
  refine A_istore_n C (lv' := [some (.ref 8), some (.int a0), some (.int q1), some (.int x6)]) dX0_takeOut_24 rfl eN rfl rfl (pc' := 25) rfl ?_
  refine A_aload_n C dX0_takeOut_25 rfl (pc' := 26) rfl ?_
  refine A_get C (j := 8) cl_X0 rfl rfl lf_X0_25 dX0_takeOut_26 (HPg_8 s o) rfl (pc' := 29) rfl ?_
  refine A_bipush C (x := 16) dX0_takeOut_29 (by decide) (pc' := 31) rfl ?_
  refine A_aload_n C dX0_takeOut_31 rfl (pc' := 32) rfl ?_
  refine A_get C (j := 9) cl_X0 rfl rfl lf_X0_28 dX0_takeOut_32 (HPg_8 s o) rfl (pc' := 35) rfl ?_
  refine A_iload_n C dX0_takeOut_35 rfl (pc' := 36) rfl ?_
  obtain ⟨h8, hF⟩ := grd_some hF
  refine A_iald C (HPg_20 s o) (ixb_in h8) dX0_takeOut_36 (pc' := 37) rfl ?_
  refine A_bipush C (x := 6) dX0_takeOut_37 (by decide) (pc' := 39) rfl ?_
  refine A_irem C dX0_takeOut_39 (by decide) (pc' := 40) rfl ?_
  refine A_iadd C dX0_takeOut_40 (pc' := 41) rfl ?_
  refine A_dup2 C dX0_takeOut_41 rfl rfl (pc' := 42) rfl ?_
  obtain ⟨h9, hF⟩ := grd_some hF
  refine A_iald C (HPg_19 s o) (ixb_in h9) dX0_takeOut_42 (pc' := 43) rfl ?_
  refine A_iload_n C dX0_takeOut_43 rfl (pc' := 44) rfl ?_
  refine A_iand C dX0_takeOut_44 (pc' := 45) rfl ?_
  obtain ⟨h10, hF⟩ := grd_some hF
  obtain ⟨s11, e12, hF⟩ := bnd_some hF
  refine A_iast C (h1 := HP s11 o) (HPg_19 s o) (ixb_in h10) (by rw [e12]; exact HPs_19 s o _) dX0_takeOut_45 (pc' := 46) rfl ?_
  refine A_aload_n C dX0_takeOut_46 rfl (pc' := 47) rfl ?_
  refine A_get C (j := 8) cl_X0 rfl rfl lf_X0_25 dX0_takeOut_47 (HPg_8 s11 o) rfl (pc' := 50) rfl ?_
  refine A_bipush C (x := 8) dX0_takeOut_50 (by decide) (pc' := 52) rfl ?_
  refine A_aload_n C dX0_takeOut_52 rfl (pc' := 53) rfl ?_
  refine A_get C (j := 5) cl_X0 rfl rfl lf_X0_12 dX0_takeOut_53 (HPg_8 s11 o) rfl (pc' := 56) rfl ?_
  refine A_getN C (j := 2) cl_X3 rfl rfl lf_X0_69 dX0_takeOut_56 (HPg_9 s11 o) rfl (pc' := 59) rfl ?_
  refine A_iload_n C dX0_takeOut_59 rfl (pc' := 60) rfl ?_
  obtain ⟨h13, hF⟩ := grd_some hF
  refine A_iald C (HPg_12 s11 o) (ixb_in h13) dX0_takeOut_60 (pc' := 61) rfl ?_
  refine A_iadd C dX0_takeOut_61 (pc' := 62) rfl ?_
  refine A_dup2 C dX0_takeOut_62 rfl rfl (pc' := 63) rfl ?_
  obtain ⟨h14, hF⟩ := grd_some hF
  refine A_iald C (HPg_19 s11 o) (ixb_in h14) dX0_takeOut_63 (pc' := 64) rfl ?_
  refine A_iload_n C dX0_takeOut_64 rfl (pc' := 65) rfl ?_
  refine A_iand C dX0_takeOut_65 (pc' := 66) rfl ?_
  obtain ⟨h15, hF⟩ := grd_some hF
  obtain ⟨s16, e17, hF⟩ := bnd_some hF
  refine A_iast C (h1 := HP s16 o) (HPg_19 s11 o) (ixb_in h15) (by rw [e17]; exact HPs_19 s11 o _) dX0_takeOut_66 (pc' := 67) rfl ?_
  refine A_aload_n C dX0_takeOut_67 rfl (pc' := 68) rfl ?_
  refine A_get C (j := 8) cl_X0 rfl rfl lf_X0_25 dX0_takeOut_68 (HPg_8 s16 o) rfl (pc' := 71) rfl ?_
  refine A_aload_n C dX0_takeOut_71 rfl (pc' := 72) rfl ?_
  refine A_get C (j := 5) cl_X0 rfl rfl lf_X0_12 dX0_takeOut_72 (HPg_8 s16 o) rfl (pc' := 75) rfl ?_
  refine A_getN C (j := 0) cl_X3 rfl rfl lf_X0_72 dX0_takeOut_75 (HPg_9 s16 o) rfl (pc' := 78) rfl ?_
  refine A_iload_n C dX0_takeOut_78 rfl (pc' := 79) rfl ?_
  obtain ⟨h18, hF⟩ := grd_some hF
  refine A_iald C (HPg_10 s16 o) (ixb_in h18) dX0_takeOut_79 (pc' := 80) rfl ?_
  refine A_dup2 C dX0_takeOut_80 rfl rfl (pc' := 81) rfl ?_
  obtain ⟨h19, hF⟩ := grd_some hF
  refine A_iald C (HPg_19 s16 o) (ixb_in h19) dX0_takeOut_81 (pc' := 82) rfl ?_
  refine A_iload_n C dX0_takeOut_82 rfl (pc' := 83) rfl ?_
  refine A_iand C dX0_takeOut_83 (pc' := 84) rfl ?_
  obtain ⟨h20, hF⟩ := grd_some hF
  obtain ⟨s21, e22, hF⟩ := bnd_some hF
  refine A_iast C (h1 := HP s21 o) (HPg_19 s16 o) (ixb_in h20) (by rw [e22]; exact HPs_19 s16 o _) dX0_takeOut_84 (pc' := 85) rfl ?_
  refine A_aload_n C dX0_takeOut_85 rfl (pc' := 86) rfl ?_
  refine A_get C (j := 5) cl_X0 rfl rfl lf_X0_12 dX0_takeOut_86 (HPg_8 s21 o) rfl (pc' := 89) rfl ?_
  refine A_getN C (j := 1) cl_X3 rfl rfl lf_X0_75 dX0_takeOut_89 (HPg_9 s21 o) rfl (pc' := 92) rfl ?_
  refine A_iload_n C dX0_takeOut_92 rfl (pc' := 93) rfl ?_
  obtain ⟨h23, hF⟩ := grd_some hF
  refine A_iald C (HPg_11 s21 o) (ixb_in h23) dX0_takeOut_93 (pc' := 94) rfl ?_
  refine A_iconst C (x := -1) dX0_takeOut_94 (by decide) (pc' := 95) rfl ?_
  refine A_icmp_eq C dX0_takeOut_95 (tgt := 116) (by decide) (pc' := 98) rfl (fun c24 => ?_) (fun c24 => ?_)
  · rw [if_pos c24] at hF
    refine A_aload_n C dX0_takeOut_116 rfl (pc' := 117) rfl ?_
    refine A_get C (j := 9) cl_X0 rfl rfl lf_X0_28 dX0_takeOut_117 (HPg_8 s21 o) rfl (pc' := 120) rfl ?_
    refine A_iload_n C dX0_takeOut_120 rfl (pc' := 121) rfl ?_
    refine A_iconst C (x := -1) dX0_takeOut_121 (by decide) (pc' := 122) rfl ?_
    obtain ⟨h25, hF⟩ := grd_some hF
    obtain ⟨s26, e27, hF⟩ := bnd_some hF
    refine A_iast C (h1 := HP s26 o) (HPg_20 s21 o) (ixb_in h25) (by rw [e27]; exact HPs_20 s21 o _) dX0_takeOut_122 (pc' := 123) rfl ?_
    cases hF
    exact A_vret C T (Nat.le_refl _) (Nat.le_refl _) dX0_takeOut_123
  · rw [if_neg c24] at hF
    refine A_aload_n C dX0_takeOut_98 rfl (pc' := 99) rfl ?_
    refine A_get C (j := 8) cl_X0 rfl rfl lf_X0_25 dX0_takeOut_99 (HPg_8 s21 o) rfl (pc' := 102) rfl ?_
    refine A_aload_n C dX0_takeOut_102 rfl (pc' := 103) rfl ?_
    refine A_get C (j := 5) cl_X0 rfl rfl lf_X0_12 dX0_takeOut_103 (HPg_8 s21 o) rfl (pc' := 106) rfl ?_
    refine A_getN C (j := 1) cl_X3 rfl rfl lf_X0_75 dX0_takeOut_106 (HPg_9 s21 o) rfl (pc' := 109) rfl ?_
    refine A_iload_n C dX0_takeOut_109 rfl (pc' := 110) rfl ?_
    obtain ⟨h28, hF⟩ := grd_some hF
    refine A_iald C (HPg_11 s21 o) (ixb_in h28) dX0_takeOut_110 (pc' := 111) rfl ?_
    refine A_dup2 C dX0_takeOut_111 rfl rfl (pc' := 112) rfl ?_
    obtain ⟨h29, hF⟩ := grd_some hF
    refine A_iald C (HPg_19 s21 o) (ixb_in h29) dX0_takeOut_112 (pc' := 113) rfl ?_
    refine A_iload_n C dX0_takeOut_113 rfl (pc' := 114) rfl ?_
    refine A_iand C dX0_takeOut_114 (pc' := 115) rfl ?_
    obtain ⟨h30, hF⟩ := grd_some hF
    obtain ⟨s31, e32, hF⟩ := bnd_some hF
    refine A_iast C (h1 := HP s31 o) (HPg_19 s21 o) (ixb_in h30) (by rw [e32]; exact HPs_19 s21 o _) dX0_takeOut_115 (pc' := 116) rfl ?_
    refine A_aload_n C dX0_takeOut_116 rfl (pc' := 117) rfl ?_
    refine A_get C (j := 9) cl_X0 rfl rfl lf_X0_28 dX0_takeOut_117 (HPg_8 s31 o) rfl (pc' := 120) rfl ?_
    refine A_iload_n C dX0_takeOut_120 rfl (pc' := 121) rfl ?_
    refine A_iconst C (x := -1) dX0_takeOut_121 (by decide) (pc' := 122) rfl ?_
    obtain ⟨h33, hF⟩ := grd_some hF
    obtain ⟨s34, e35, hF⟩ := bnd_some hF
    refine A_iast C (h1 := HP s34 o) (HPg_20 s31 o) (ixb_in h33) (by rw [e35]; exact HPs_20 s31 o _) dX0_takeOut_122 (pc' := 123) rfl ?_
    cases hF
    exact A_vret C T (Nat.le_refl _) (Nat.le_refl _) dX0_takeOut_123
def L_J7_fill_53178_5 : Nat → Int32 → Int32 → Int32 → Sg → Option (Sg)
  | 0, _, _, _, _ => none
  | fu + 1, b1, b2, b3, s =>
    if b3 ≤ b2 then
      some s
    else
      grd (ixb b2 22 = true) <|
      bnd (va_up s 19 (upd (s 19) b2.toNatClampNeg b1)) fun s3 =>
      bnd (b2 + (1 : Int32)) fun x5 =>
      L_J7_fill_53178_5 fu b1 x5 b3 s3
def F_J7_fill_53178 (a0 : Int32) (s : Sg) : Option Sg :=
  (L_J7_fill_53178_5 FU a0 (0 : Int32) (22 : Int32) s).bind fun q7 =>
  some q7
set_option maxHeartbeats 4000000 in
set_option maxRecDepth 100000 in
theorem L_J7_fill_53178_5_ok {Γ : Cx} (hu : Un Γ.2.1) (eN : 4 = Γ.2.2.2.2.2) (C : Cok Γ cJ7_fill_53178 RJ7 none 0 0 0) {o : Nat → Int64} : ∀ (fu : Nat) (b1 : Int32) (b2 : Int32) (b3 : Int32) (s : Sg) (q : (Sg)), L_J7_fill_53178_5 fu b1 b2 b3 s = some q → AW Γ (HP q o) 0 0 [none, none, none, none] [] 20 → AW Γ (HP s o) 0 0 [some (.ref 19), some (.int b1), some (.int b2), some (.int b3)] [] 5 := by
  intro fu
  induction fu with
  | zero => intro b1 b2 b3 s q hF; rw [L_J7_fill_53178_5] at hF; cases hF
  | succ fu ih =>
    intro b1 b2 b3 s q hF hexit
    rw [L_J7_fill_53178_5] at hF
    refine A_iload_n C dJ7_fill_53178_5 rfl (pc' := 6) rfl ?_
    refine A_iload_n C dJ7_fill_53178_6 rfl (pc' := 7) rfl ?_
    refine A_icmp_ge C dJ7_fill_53178_7 (tgt := 20) (by decide) (pc' := 10) rfl (fun c1 => ?_) (fun c1 => ?_)
    · rw [if_pos c1] at hF
      cases hF
      refine A_mask [false, false, false, false] (lv' := [none, none, none, none]) rfl ?_
      exact hexit
    · rw [if_neg c1] at hF
      refine A_aload_n C dJ7_fill_53178_10 rfl (pc' := 11) rfl ?_
      refine A_iload_n C dJ7_fill_53178_11 rfl (pc' := 12) rfl ?_
      refine A_iload_n C dJ7_fill_53178_12 rfl (pc' := 13) rfl ?_
      obtain ⟨h2, hF⟩ := grd_some hF
      obtain ⟨s3, e4, hF⟩ := bnd_some hF
      refine A_iast C (h1 := HP s3 o) (HPg_19 s o) (ixb_in h2) (by rw [e4]; exact HPs_19 s o _) dJ7_fill_53178_13 (pc' := 14) rfl ?_
      obtain ⟨x5, e6, hF⟩ := bnd_some hF
      refine A_iinc C (lv' := [some (.ref 19), some (.int b1), some (.int x5), some (.int b3)]) dJ7_fill_53178_14 rfl (by rw [e6]; rfl) rfl eN rfl rfl (pc' := 17) rfl ?_
      refine A_goto C dJ7_fill_53178_17 (tgt := 5) (by decide) ?_
      refine A_mask [true, true, true, true] (lv' := [some (.ref 19), some (.int b1), some (.int x5), some (.int b3)]) rfl ?_
      exact ih b1 x5 b3 s3 q hF hexit
set_option maxHeartbeats 4000000 in
set_option maxRecDepth 100000 in
theorem F_J7_fill_53178_ok {u : Uv} (hu : Un u) {a0 : Int32} {s : Sg} {o : Nat → Int64} {r : Sg} (hF : F_J7_fill_53178 a0 s = some r) : AM u (yJ7_fill_53178, cJ7_fill_53178, 4, none) 0 0 0 [.ref 19, .int a0] (HP s o) none (HP r o) := by
  refine AM.of hu (lv := [some (.ref 19), some (.int a0), none, none]) (by decide) rfl (Nat.le_of_ble_eq_true rfl) rfl ?_
  intro Γ eu eN C T
  subst eu
  have C : Cok Γ cJ7_fill_53178 RJ7 none 0 0 0 := C
  unfold F_J7_fill_53178 at hF
  refine A_iconst C (x := 0) dJ7_fill_53178_0 (by decide) (pc' := 1) rfl ?_
  refine A_istore_n C (lv' := [some (.ref 19), some (.int a0), some (.int (0 : Int32)), none]) dJ7_fill_53178_1 rfl eN rfl rfl (pc' := 2) rfl ?_
  refine A_aload_n C dJ7_fill_53178_2 rfl (pc' := 3) rfl ?_
  refine A_alen C (M := 22) (v := 22) (HPg_19 s o) (fun _ => rfl) (show Int32.ofNat 22 = 22 by decide) dJ7_fill_53178_3 (pc' := 4) rfl ?_
  refine A_istore_n C (lv' := [some (.ref 19), some (.int a0), some (.int (0 : Int32)), some (.int (22 : Int32))]) dJ7_fill_53178_4 rfl eN rfl rfl (pc' := 5) rfl ?_
  obtain ⟨q7, h8, hF⟩ := Option.bind_eq_some_iff.mp hF
  refine A_mask [true, true, true, true] (lv' := [some (.ref 19), some (.int a0), some (.int (0 : Int32)), some (.int (22 : Int32))]) rfl ?_
  refine L_J7_fill_53178_5_ok hu eN C FU a0 (0 : Int32) (22 : Int32) s q7 h8 ?_
  cases hF
  exact A_vret C T (Nat.le_refl _) (Nat.le_refl _) dJ7_fill_53178_20
