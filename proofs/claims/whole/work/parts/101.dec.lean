def L_X0_markAllAgain_10 : Nat → Int32 → Sg → Option (Sg)
  | 0, _, _ => none
  | fu + 1, b1, s =>
    if (64 : Int32) ≤ b1 then
      some s
    else
      (F_X0_isPlaced b1 s).bind fun q4 =>
      if q4 = 0 then
        bnd (b1 + (1 : Int32)) fun x7 =>
        L_X0_markAllAgain_10 fu x7 s
      else
        (F_X0_mark b1 s).bind fun q9 =>
        bnd (b1 + (1 : Int32)) fun x11 =>
        L_X0_markAllAgain_10 fu x11 q9
def F_X0_markAllAgain (s : Sg) : Option Sg :=
  (F_J7_fill_53178 (0 : Int32) s).bind fun q1 =>
  (L_X0_markAllAgain_10 FU (0 : Int32) q1).bind fun q13 =>
  some q13
set_option maxHeartbeats 4000000 in
set_option maxRecDepth 100000 in
theorem L_X0_markAllAgain_10_ok {Γ : Cx} (hu : Un Γ.2.1) (eN : 2 = Γ.2.2.2.2.2) (C : Cok Γ cX0_markAllAgain RX0 none 2 0 0) {o : Nat → Int64} : ∀ (fu : Nat) (b1 : Int32) (s : Sg) (q : (Sg)), L_X0_markAllAgain_10 fu b1 s = some q → AW Γ (HP q o) 0 0 [none, none] [] 35 → AW Γ (HP s o) 0 0 [some (.ref 8), some (.int b1)] [] 10 := by
  intro fu
  induction fu with
  | zero => intro b1 s q hF; rw [L_X0_markAllAgain_10] at hF; cases hF
  | succ fu ih =>
    intro b1 s q hF hexit
    rw [L_X0_markAllAgain_10] at hF
    refine A_iload_n C dX0_markAllAgain_10 rfl (pc' := 11) rfl ?_
    refine A_bipush C (x := 64) dX0_markAllAgain_11 (by decide) (pc' := 13) rfl ?_
    refine A_icmp_ge C dX0_markAllAgain_13 (tgt := 35) (by decide) (pc' := 16) rfl (fun c3 => ?_) (fun c3 => ?_)
    · rw [if_pos c3] at hF
      cases hF
      refine A_mask [false, false] (lv' := [none, none]) rfl ?_
      exact hexit
    · rw [if_neg c3] at hF
      refine A_aload_n C dX0_markAllAgain_16 rfl (pc' := 17) rfl ?_
      refine A_iload_n C dX0_markAllAgain_17 rfl (pc' := 18) rfl ?_
      obtain ⟨q4, h5, hF⟩ := Option.bind_eq_some_iff.mp hF
      refine A_callV C (av := [.int b1]) (rest := []) (st2 := [.int q4]) (k2 := 0) (n2 := 0) (F_X0_isPlaced_ok hu h5) mk_X0_isPlaced lm_X0_53 wi_X0_isPlaced wv_X0_isPlaced (HPg_8 s o) rfl rfl rfl rfl ⟨by decide, by decide⟩ (Nat.le_of_ble_eq_true rfl) rfl rfl dX0_markAllAgain_18 rfl rfl rfl (pc' := 21) rfl ?_
      refine A_if_eq C dX0_markAllAgain_21 (tgt := 29) (by decide) (pc' := 24) rfl (fun c6 => ?_) (fun c6 => ?_)
      · rw [if_pos c6] at hF
        obtain ⟨x7, e8, hF⟩ := bnd_some hF
        refine A_iinc C (lv' := [some (.ref 8), some (.int x7)]) dX0_markAllAgain_29 rfl (by rw [e8]; rfl) rfl eN rfl rfl (pc' := 32) rfl ?_
        refine A_goto C dX0_markAllAgain_32 (tgt := 10) (by decide) ?_
        refine A_mask [true, true] (lv' := [some (.ref 8), some (.int x7)]) rfl ?_
        exact ih x7 s q hF hexit
      · rw [if_neg c6] at hF
        refine A_aload_n C dX0_markAllAgain_24 rfl (pc' := 25) rfl ?_
        refine A_iload_n C dX0_markAllAgain_25 rfl (pc' := 26) rfl ?_
        obtain ⟨q9, h10, hF⟩ := Option.bind_eq_some_iff.mp hF
        refine A_callV C (av := [.int b1]) (rest := []) (st2 := []) (k2 := 0) (n2 := 0) (F_X0_mark_ok hu h10) mk_X0_mark lm_X0_65 wi_X0_mark wv_X0_mark (HPg_8 s o) rfl rfl rfl rfl ⟨by decide, by decide⟩ (Nat.le_of_ble_eq_true rfl) rfl rfl dX0_markAllAgain_26 rfl rfl rfl (pc' := 29) rfl ?_
        obtain ⟨x11, e12, hF⟩ := bnd_some hF
        refine A_iinc C (lv' := [some (.ref 8), some (.int x11)]) dX0_markAllAgain_29 rfl (by rw [e12]; rfl) rfl eN rfl rfl (pc' := 32) rfl ?_
        refine A_goto C dX0_markAllAgain_32 (tgt := 10) (by decide) ?_
        refine A_mask [true, true] (lv' := [some (.ref 8), some (.int x11)]) rfl ?_
        exact ih x11 q9 q hF hexit
set_option maxHeartbeats 4000000 in
set_option maxRecDepth 100000 in
theorem F_X0_markAllAgain_ok {u : Uv} (hu : Un u) {s : Sg} {o : Nat → Int64} {r : Sg} (hF : F_X0_markAllAgain  s = some r) : AM u (yX0_markAllAgain, cX0_markAllAgain, 2, none) 2 0 0 [.ref 8] (HP s o) none (HP r o) := by
  refine AM.of hu (lv := [some (.ref 8), none]) (by decide) rfl (Nat.le_of_ble_eq_true rfl) rfl ?_
  intro Γ eu eN C T
  subst eu
  have C : Cok Γ cX0_markAllAgain RX0 none 2 0 0 := C
  unfold F_X0_markAllAgain at hF
  refine A_aload_n C dX0_markAllAgain_0 rfl (pc' := 1) rfl ?_
  refine A_get C (j := 8) cl_X0 rfl rfl lf_X0_25 dX0_markAllAgain_1 (HPg_8 s o) rfl (pc' := 4) rfl ?_
  refine A_iconst C (x := 0) dX0_markAllAgain_4 (by decide) (pc' := 5) rfl ?_
  obtain ⟨q1, h2, hF⟩ := Option.bind_eq_some_iff.mp hF
  refine A_callS C (av := [.ref 19, .int (0 : Int32)]) (rest := []) (st2 := []) (k2 := 0) (n2 := 0) (F_J7_fill_53178_ok hu h2) mk_J7_fill_53178 lm_X0_47 ws_J7_fill_53178 rfl rfl rfl ⟨by decide, by decide⟩ (Nat.le_of_ble_eq_true rfl) rfl rfl dX0_markAllAgain_5 rfl rfl rfl (pc' := 8) rfl ?_
  refine A_iconst C (x := 0) dX0_markAllAgain_8 (by decide) (pc' := 9) rfl ?_
  refine A_istore_n C (lv' := [some (.ref 8), some (.int (0 : Int32))]) dX0_markAllAgain_9 rfl eN rfl rfl (pc' := 10) rfl ?_
  obtain ⟨q13, h14, hF⟩ := Option.bind_eq_some_iff.mp hF
  refine A_mask [true, true] (lv' := [some (.ref 8), some (.int (0 : Int32))]) rfl ?_
  refine L_X0_markAllAgain_10_ok hu eN C FU (0 : Int32) q1 q13 h14 ?_
  cases hF
  exact A_vret C T (Nat.le_refl _) (Nat.le_refl _) dX0_markAllAgain_35
def F_X0_eitherClass (a0 : Int32) (s : Sg) : Option Int32 :=
  grd (ixb a0 16 = true) <|
  bnd (s 11 a0.toNatClampNeg) fun x2 =>
  grd (ixb a0 16 = true) <|
  grd (ixb (s 10 a0.toNatClampNeg) 22 = true) <|
  if x2 = (-1 : Int32) then
    some ((s 18 (s 10 a0.toNatClampNeg).toNatClampNeg) ||| (0 : Int32))
  else
    grd (ixb x2 22 = true) <|
    some ((s 18 (s 10 a0.toNatClampNeg).toNatClampNeg) ||| (s 18 x2.toNatClampNeg))
set_option maxHeartbeats 4000000 in
set_option maxRecDepth 100000 in
theorem F_X0_eitherClass_ok {u : Uv} (hu : Un u) {a0 : Int32} {s : Sg} {o : Nat → Int64} {r : Int32} (hF : F_X0_eitherClass a0 s = some r) : AM u (yX0_eitherClass, cX0_eitherClass, 4, (some .int)) 0 0 0 [.ref 8, .ref 18, .int a0] (HP s o) (some (.int r)) (HP s o) := by
  refine AM.of hu (lv := [some (.ref 8), some (.ref 18), some (.int a0), none]) (by decide) rfl (Nat.le_of_ble_eq_true rfl) rfl ?_
  intro Γ eu eN C T
  subst eu
  have C : Cok Γ cX0_eitherClass RX0 (some .int) 0 0 0 := C
  unfold F_X0_eitherClass at hF
  refine A_aload_n C dX0_eitherClass_0 rfl (pc' := 1) rfl ?_
  refine A_get C (j := 5) cl_X0 rfl rfl lf_X0_12 dX0_eitherClass_1 (HPg_8 s o) rfl (pc' := 4) rfl ?_
  refine A_getN C (j := 1) cl_X3 rfl rfl lf_X0_75 dX0_eitherClass_4 (HPg_9 s o) rfl (pc' := 7) rfl ?_
  refine A_iload_n C dX0_eitherClass_7 rfl (pc' := 8) rfl ?_
  obtain ⟨h1, hF⟩ := grd_some hF
  refine A_iald C (HPg_11 s o) (ixb_in h1) dX0_eitherClass_8 (pc' := 9) rfl ?_
  obtain ⟨x2, e3, hF⟩ := bnd_some hF
  refine A_topi e3 ?_
  refine A_istore_n C (lv' := [some (.ref 8), some (.ref 18), some (.int a0), some (.int x2)]) dX0_eitherClass_9 rfl eN rfl rfl (pc' := 10) rfl ?_
  refine A_aload_n C dX0_eitherClass_10 rfl (pc' := 11) rfl ?_
  refine A_aload_n C dX0_eitherClass_11 rfl (pc' := 12) rfl ?_
  refine A_get C (j := 5) cl_X0 rfl rfl lf_X0_12 dX0_eitherClass_12 (HPg_8 s o) rfl (pc' := 15) rfl ?_
  refine A_getN C (j := 0) cl_X3 rfl rfl lf_X0_72 dX0_eitherClass_15 (HPg_9 s o) rfl (pc' := 18) rfl ?_
  refine A_iload_n C dX0_eitherClass_18 rfl (pc' := 19) rfl ?_
  obtain ⟨h4, hF⟩ := grd_some hF
  refine A_iald C (HPg_10 s o) (ixb_in h4) dX0_eitherClass_19 (pc' := 20) rfl ?_
  obtain ⟨h5, hF⟩ := grd_some hF
  refine A_iald C (HPg_18 s o) (ixb_in h5) dX0_eitherClass_20 (pc' := 21) rfl ?_
  refine A_iload_n C dX0_eitherClass_21 rfl (pc' := 22) rfl ?_
  refine A_iconst C (x := -1) dX0_eitherClass_22 (by decide) (pc' := 23) rfl ?_
  refine A_icmp_ne C dX0_eitherClass_23 (tgt := 30) (by decide) (pc' := 26) rfl (fun c6 => ?_) (fun c6 => ?_)
  · rw [if_neg c6] at hF
    refine A_aload_n C dX0_eitherClass_30 rfl (pc' := 31) rfl ?_
    refine A_iload_n C dX0_eitherClass_31 rfl (pc' := 32) rfl ?_
    obtain ⟨h7, hF⟩ := grd_some hF
    refine A_iald C (HPg_18 s o) (ixb_in h7) dX0_eitherClass_32 (pc' := 33) rfl ?_
    refine A_ior C dX0_eitherClass_33 (pc' := 34) rfl ?_
    cases hF
    exact A_iret C T (Nat.le_refl _) (Nat.le_refl _) dX0_eitherClass_34
  · rw [if_pos c6] at hF
    refine A_iconst C (x := 0) dX0_eitherClass_26 (by decide) (pc' := 27) rfl ?_
    refine A_goto C dX0_eitherClass_27 (tgt := 33) (by decide) ?_
    refine A_ior C dX0_eitherClass_33 (pc' := 34) rfl ?_
    cases hF
    exact A_iret C T (Nat.le_refl _) (Nat.le_refl _) dX0_eitherClass_34
def F_X0_eitherClass_v1 (a0 : Int32) (s : Sg) : Option Int32 :=
  grd (ixb a0 16 = true) <|
  bnd (s 11 a0.toNatClampNeg) fun x2 =>
  grd (ixb a0 16 = true) <|
  grd (ixb (s 10 a0.toNatClampNeg) 22 = true) <|
  if x2 = (-1 : Int32) then
    some ((s 19 (s 10 a0.toNatClampNeg).toNatClampNeg) ||| (0 : Int32))
  else
    grd (ixb x2 22 = true) <|
    some ((s 19 (s 10 a0.toNatClampNeg).toNatClampNeg) ||| (s 19 x2.toNatClampNeg))
set_option maxHeartbeats 4000000 in
set_option maxRecDepth 100000 in
theorem F_X0_eitherClass_v1_ok {u : Uv} (hu : Un u) {a0 : Int32} {s : Sg} {o : Nat → Int64} {r : Int32} (hF : F_X0_eitherClass_v1 a0 s = some r) : AM u (yX0_eitherClass, cX0_eitherClass, 4, (some .int)) 0 0 0 [.ref 8, .ref 19, .int a0] (HP s o) (some (.int r)) (HP s o) := by
  refine AM.of hu (lv := [some (.ref 8), some (.ref 19), some (.int a0), none]) (by decide) rfl (Nat.le_of_ble_eq_true rfl) rfl ?_
  intro Γ eu eN C T
  subst eu
  have C : Cok Γ cX0_eitherClass RX0 (some .int) 0 0 0 := C
  unfold F_X0_eitherClass_v1 at hF
  refine A_aload_n C dX0_eitherClass_0 rfl (pc' := 1) rfl ?_
  refine A_get C (j := 5) cl_X0 rfl rfl lf_X0_12 dX0_eitherClass_1 (HPg_8 s o) rfl (pc' := 4) rfl ?_
  refine A_getN C (j := 1) cl_X3 rfl rfl lf_X0_75 dX0_eitherClass_4 (HPg_9 s o) rfl (pc' := 7) rfl ?_
  refine A_iload_n C dX0_eitherClass_7 rfl (pc' := 8) rfl ?_
  obtain ⟨h1, hF⟩ := grd_some hF
  refine A_iald C (HPg_11 s o) (ixb_in h1) dX0_eitherClass_8 (pc' := 9) rfl ?_
  obtain ⟨x2, e3, hF⟩ := bnd_some hF
  refine A_topi e3 ?_
  refine A_istore_n C (lv' := [some (.ref 8), some (.ref 19), some (.int a0), some (.int x2)]) dX0_eitherClass_9 rfl eN rfl rfl (pc' := 10) rfl ?_
  refine A_aload_n C dX0_eitherClass_10 rfl (pc' := 11) rfl ?_
  refine A_aload_n C dX0_eitherClass_11 rfl (pc' := 12) rfl ?_
  refine A_get C (j := 5) cl_X0 rfl rfl lf_X0_12 dX0_eitherClass_12 (HPg_8 s o) rfl (pc' := 15) rfl ?_
  refine A_getN C (j := 0) cl_X3 rfl rfl lf_X0_72 dX0_eitherClass_15 (HPg_9 s o) rfl (pc' := 18) rfl ?_
  refine A_iload_n C dX0_eitherClass_18 rfl (pc' := 19) rfl ?_
  obtain ⟨h4, hF⟩ := grd_some hF
  refine A_iald C (HPg_10 s o) (ixb_in h4) dX0_eitherClass_19 (pc' := 20) rfl ?_
  obtain ⟨h5, hF⟩ := grd_some hF
  refine A_iald C (HPg_19 s o) (ixb_in h5) dX0_eitherClass_20 (pc' := 21) rfl ?_
  refine A_iload_n C dX0_eitherClass_21 rfl (pc' := 22) rfl ?_
  refine A_iconst C (x := -1) dX0_eitherClass_22 (by decide) (pc' := 23) rfl ?_
  refine A_icmp_ne C dX0_eitherClass_23 (tgt := 30) (by decide) (pc' := 26) rfl (fun c6 => ?_) (fun c6 => ?_)
  · rw [if_neg c6] at hF
    refine A_aload_n C dX0_eitherClass_30 rfl (pc' := 31) rfl ?_
    refine A_iload_n C dX0_eitherClass_31 rfl (pc' := 32) rfl ?_
    obtain ⟨h7, hF⟩ := grd_some hF
    refine A_iald C (HPg_19 s o) (ixb_in h7) dX0_eitherClass_32 (pc' := 33) rfl ?_
    refine A_ior C dX0_eitherClass_33 (pc' := 34) rfl ?_
    cases hF
    exact A_iret C T (Nat.le_refl _) (Nat.le_refl _) dX0_eitherClass_34
  · rw [if_pos c6] at hF
    refine A_iconst C (x := 0) dX0_eitherClass_26 (by decide) (pc' := 27) rfl ?_
    refine A_goto C dX0_eitherClass_27 (tgt := 33) (by decide) ?_
    refine A_ior C dX0_eitherClass_33 (pc' := 34) rfl ?_
    cases hF
    exact A_iret C T (Nat.le_refl _) (Nat.le_refl _) dX0_eitherClass_34
def L_X0_isLessonOnDay_2 : Nat → Int32 → Int32 → Int32 → Sg → Option (Int32 ⊕ (Unit))
  | 0, _, _, _, _ => none
  | fu + 1, b1, b2, b3, s =>
    grd (ixb b1 16 = true) <|
    if (s 15 b1.toNatClampNeg) ≤ b3 then
      some (.inr ())
    else
      (F_X5_itemOf b1 b3 s).bind fun q3 =>
      (F_X0_isOnDay q3 b2 s).bind fun q5 =>
      if q5 = 0 then
        bnd (b3 + (1 : Int32)) fun x8 =>
        L_X0_isLessonOnDay_2 fu b1 b2 x8 s
      else
        some (.inl (1 : Int32))
def F_X0_isLessonOnDay (a0 : Int32) (a1 : Int32) (s : Sg) : Option Int32 :=
  (L_X0_isLessonOnDay_2 FU a0 a1 (0 : Int32) s).bind fun q10 => match q10 with
  | .inl v12 => some v12
  | .inr t13 =>
  some (0 : Int32)
set_option maxHeartbeats 4000000 in
set_option maxRecDepth 100000 in
theorem L_X0_isLessonOnDay_2_ok {Γ : Cx} (hu : Un Γ.2.1) (eN : 4 = Γ.2.2.2.2.2) (C : Cok Γ cX0_isLessonOnDay RX0 (some .boolean) 1 0 0) {o : Nat → Int64} : ∀ (fu : Nat) (b1 : Int32) (b2 : Int32) (b3 : Int32) (s : Sg) (q : (Int32 ⊕ (Unit))), L_X0_isLessonOnDay_2 fu b1 b2 b3 s = some q → (∀ v, q = .inl v → Tgt Γ 0 0 (some (.int v)) (HP s o)) → (∀ t, q = .inr t → AW Γ (HP s o) 0 0 [none, none, none, none] [] 36) → AW Γ (HP s o) 0 0 [some (.ref 8), some (.int b1), some (.int b2), some (.int b3)] [] 2 := by
  intro fu
  induction fu with
  | zero => intro b1 b2 b3 s q hF; rw [L_X0_isLessonOnDay_2] at hF; cases hF
  | succ fu ih =>
    intro b1 b2 b3 s q hF hret hexit
    rw [L_X0_isLessonOnDay_2] at hF
    refine A_iload_n C dX0_isLessonOnDay_2 rfl (pc' := 3) rfl ?_
    refine A_aload_n C dX0_isLessonOnDay_3 rfl (pc' := 4) rfl ?_
    refine A_get C (j := 5) cl_X0 rfl rfl lf_X0_12 dX0_isLessonOnDay_4 (HPg_8 s o) rfl (pc' := 7) rfl ?_
    refine A_getN C (j := 5) cl_X3 rfl rfl lf_X0_99 dX0_isLessonOnDay_7 (HPg_9 s o) rfl (pc' := 10) rfl ?_
    refine A_iload_n C dX0_isLessonOnDay_10 rfl (pc' := 11) rfl ?_
    obtain ⟨h1, hF⟩ := grd_some hF
    refine A_iald C (HPg_15 s o) (ixb_in h1) dX0_isLessonOnDay_11 (pc' := 12) rfl ?_
    refine A_icmp_ge C dX0_isLessonOnDay_12 (tgt := 36) (by decide) (pc' := 15) rfl (fun c2 => ?_) (fun c2 => ?_)
    · rw [if_pos c2] at hF
      cases hF
      refine A_mask [false, false, false, false] (lv' := [none, none, none, none]) rfl ?_
      exact hexit () rfl
    · rw [if_neg c2] at hF
      refine A_aload_n C dX0_isLessonOnDay_15 rfl (pc' := 16) rfl ?_
      refine A_iload_n C dX0_isLessonOnDay_16 rfl (pc' := 17) rfl ?_
      refine A_iload_n C dX0_isLessonOnDay_17 rfl (pc' := 18) rfl ?_
      obtain ⟨q3, h4, hF⟩ := Option.bind_eq_some_iff.mp hF
      refine A_callSN C (av := [.int b1, .int b3]) (rest := [.ref 8]) (st2 := [.int q3, .ref 8]) (k2 := 0) (n2 := 0) (F_X5_itemOf_ok hu h4) mk_X5_itemOf lm_X0_102 ws_X5_itemOf rfl rfl rfl ⟨by decide, by decide⟩ (Nat.le_of_ble_eq_true rfl) rfl rfl dX0_isLessonOnDay_18 rfl rfl rfl (pc' := 21) rfl ?_
      refine A_iload_n C dX0_isLessonOnDay_21 rfl (pc' := 22) rfl ?_
      obtain ⟨q5, h6, hF⟩ := Option.bind_eq_some_iff.mp hF
      refine A_callV C (av := [.int q3, .int b2]) (rest := []) (st2 := [.int q5]) (k2 := 0) (n2 := 0) (F_X0_isOnDay_ok hu h6) mk_X0_isOnDay lm_X0_105 wi_X0_isOnDay wv_X0_isOnDay (HPg_8 s o) rfl rfl rfl rfl ⟨by decide, by decide⟩ (Nat.le_of_ble_eq_true rfl) rfl rfl dX0_isLessonOnDay_22 rfl rfl rfl (pc' := 25) rfl ?_
      refine A_if_eq C dX0_isLessonOnDay_25 (tgt := 30) (by decide) (pc' := 28) rfl (fun c7 => ?_) (fun c7 => ?_)
      · rw [if_pos c7] at hF
        obtain ⟨x8, e9, hF⟩ := bnd_some hF
        refine A_iinc C (lv' := [some (.ref 8), some (.int b1), some (.int b2), some (.int x8)]) dX0_isLessonOnDay_30 rfl (by rw [e9]; rfl) rfl eN rfl rfl (pc' := 33) rfl ?_
        refine A_goto C dX0_isLessonOnDay_33 (tgt := 2) (by decide) ?_
        refine A_mask [true, true, true, true] (lv' := [some (.ref 8), some (.int b1), some (.int b2), some (.int x8)]) rfl ?_
        exact ih b1 b2 x8 s q hF hret hexit
      · rw [if_neg c7] at hF
        refine A_iconst C (x := 1) dX0_isLessonOnDay_28 (by decide) (pc' := 29) rfl ?_
        cases hF
        exact A_zret C (hret (1 : Int32) rfl) (Or.inr rfl) (Nat.le_refl _) (Nat.le_refl _) dX0_isLessonOnDay_29
set_option maxHeartbeats 4000000 in
set_option maxRecDepth 100000 in
theorem F_X0_isLessonOnDay_ok {u : Uv} (hu : Un u) {a0 a1 : Int32} {s : Sg} {o : Nat → Int64} {r : Int32} (hF : F_X0_isLessonOnDay a0 a1 s = some r) : AM u (yX0_isLessonOnDay, cX0_isLessonOnDay, 4, (some .boolean)) 1 0 0 [.ref 8, .int a0, .int a1] (HP s o) (some (.int r)) (HP s o) := by
  refine AM.of hu (lv := [some (.ref 8), some (.int a0), some (.int a1), none]) (by decide) rfl (Nat.le_of_ble_eq_true rfl) rfl ?_
  intro Γ eu eN C T
  subst eu
  have C : Cok Γ cX0_isLessonOnDay RX0 (some .boolean) 1 0 0 := C
  unfold F_X0_isLessonOnDay at hF
  refine A_iconst C (x := 0) dX0_isLessonOnDay_0 (by decide) (pc' := 1) rfl ?_
  refine A_istore_n C (lv' := [some (.ref 8), some (.int a0), some (.int a1), some (.int (0 : Int32))]) dX0_isLessonOnDay_1 rfl eN rfl rfl (pc' := 2) rfl ?_
  obtain ⟨q10, h11, hF⟩ := Option.bind_eq_some_iff.mp hF
  refine A_mask [true, true, true, true] (lv' := [some (.ref 8), some (.int a0), some (.int a1), some (.int (0 : Int32))]) rfl ?_
  refine L_X0_isLessonOnDay_2_ok hu eN C FU a0 a1 (0 : Int32) s q10 h11 (fun v12 e9 => ?_) (fun t13 e9 => ?_)
  · subst e9
    dsimp only at hF
    cases hF
    exact T
  subst e9
  dsimp only at hF
  refine A_iconst C (x := 0) dX0_isLessonOnDay_36 (by decide) (pc' := 37) rfl ?_
  cases hF
  exact A_zret C T (Or.inl rfl) (Nat.le_refl _) (Nat.le_refl _) dX0_isLessonOnDay_37
def L_X0_lowestRoom_13 : Nat → Int32 → Int32 → Int32 → Sg → Option (Int32 ⊕ (Unit))
  | 0, _, _, _, _ => none
  | fu + 1, b1, b3, b4, s =>
    if (6 : Int32) ≤ b4 then
      some (.inr ())
    else
      bnd ((16 : Int32) + b4) fun x4 =>
      grd (ixb b4 6 = true) <|
      grd (ixb b1 16 = true) <|
      if (s 17 b4.toNatClampNeg) = (s 13 b1.toNatClampNeg) then
        grd (ixb x4 22 = true) <|
        grd (ixb x4 22 = true) <|
        if (((s 19 x4.toNatClampNeg) ||| (s 18 x4.toNatClampNeg)) &&& b3) = 0 then
          some (.inl b4)
        else
          bnd (b4 + (1 : Int32)) fun x14 =>
          L_X0_lowestRoom_13 fu b1 b3 x14 s
      else
        bnd (b4 + (1 : Int32)) fun x9 =>
        L_X0_lowestRoom_13 fu b1 b3 x9 s
def F_X0_lowestRoom (a0 : Int32) (a1 : Int32) (s : Sg) : Option Int32 :=
  (F_X3_bitsAt a0 a1 s).bind fun q1 =>
  (L_X0_lowestRoom_13 FU a0 q1 (0 : Int32) s).bind fun q16 => match q16 with
  | .inl v18 => some v18
  | .inr t19 =>
  some (-1 : Int32)
set_option maxHeartbeats 4000000 in
set_option maxRecDepth 100000 in
theorem L_X0_lowestRoom_13_ok {Γ : Cx} (hu : Un Γ.2.1) (eN : 6 = Γ.2.2.2.2.2) (C : Cok Γ cX0_lowestRoom RX0 (some .int) 1 0 0) {o : Nat → Int64} : ∀ (fu : Nat) (b1 : Int32) (b3 : Int32) (b4 : Int32) (s : Sg) (q : (Int32 ⊕ (Unit))), L_X0_lowestRoom_13 fu b1 b3 b4 s = some q → (∀ v, q = .inl v → Tgt Γ 0 0 (some (.int v)) (HP s o)) → (∀ t, q = .inr t → AW Γ (HP s o) 0 0 [none, none, none, none, none, none] [] 75) → AW Γ (HP s o) 0 0 [some (.ref 8), some (.int b1), none, some (.int b3), some (.int b4), none] [] 13 := by
  intro fu
  induction fu with
  | zero => intro b1 b3 b4 s q hF; rw [L_X0_lowestRoom_13] at hF; cases hF
  | succ fu ih =>
    intro b1 b3 b4 s q hF hret hexit
    rw [L_X0_lowestRoom_13] at hF
    refine A_iload C dX0_lowestRoom_13 rfl (pc' := 15) rfl ?_
    refine A_bipush C (x := 6) dX0_lowestRoom_15 (by decide) (pc' := 17) rfl ?_
    refine A_icmp_ge C dX0_lowestRoom_17 (tgt := 75) (by decide) (pc' := 20) rfl (fun c3 => ?_) (fun c3 => ?_)
    · rw [if_pos c3] at hF
      cases hF
      refine A_mask [false, false, false, false, false, false] (lv' := [none, none, none, none, none, none]) rfl ?_
      exact hexit () rfl
    · rw [if_neg c3] at hF
      refine A_bipush C (x := 16) dX0_lowestRoom_20 (by decide) (pc' := 22) rfl ?_
      refine A_iload C dX0_lowestRoom_22 rfl (pc' := 24) rfl ?_
      refine A_iadd C dX0_lowestRoom_24 (pc' := 25) rfl ?_
      obtain ⟨x4, e5, hF⟩ := bnd_some hF
      refine A_topi e5 ?_
      refine A_istore C (lv' := [some (.ref 8), some (.int b1), none, some (.int b3), some (.int b4), some (.int x4)]) dX0_lowestRoom_25 rfl eN rfl rfl (pc' := 27) rfl ?_
      refine A_aload_n C dX0_lowestRoom_27 rfl (pc' := 28) rfl ?_
      refine A_get C (j := 6) cl_X0 rfl rfl lf_X0_18 dX0_lowestRoom_28 (HPg_8 s o) rfl (pc' := 31) rfl ?_
      refine A_iload C dX0_lowestRoom_31 rfl (pc' := 33) rfl ?_
      obtain ⟨h6, hF⟩ := grd_some hF
      refine A_iald C (HPg_17 s o) (ixb_in h6) dX0_lowestRoom_33 (pc' := 34) rfl ?_
      refine A_aload_n C dX0_lowestRoom_34 rfl (pc' := 35) rfl ?_
      refine A_get C (j := 5) cl_X0 rfl rfl lf_X0_12 dX0_lowestRoom_35 (HPg_8 s o) rfl (pc' := 38) rfl ?_
      refine A_getN C (j := 3) cl_X3 rfl rfl lf_X0_108 dX0_lowestRoom_38 (HPg_9 s o) rfl (pc' := 41) rfl ?_
      refine A_iload_n C dX0_lowestRoom_41 rfl (pc' := 42) rfl ?_
      obtain ⟨h7, hF⟩ := grd_some hF
      refine A_iald C (HPg_13 s o) (ixb_in h7) dX0_lowestRoom_42 (pc' := 43) rfl ?_
      refine A_icmp_ne C dX0_lowestRoom_43 (tgt := 69) (by decide) (pc' := 46) rfl (fun c8 => ?_) (fun c8 => ?_)
      · rw [if_neg c8] at hF
        obtain ⟨x9, e10, hF⟩ := bnd_some hF
        refine A_iinc C (lv' := [some (.ref 8), some (.int b1), none, some (.int b3), some (.int x9), some (.int x4)]) dX0_lowestRoom_69 rfl (by rw [e10]; rfl) rfl eN rfl rfl (pc' := 72) rfl ?_
        refine A_goto C dX0_lowestRoom_72 (tgt := 13) (by decide) ?_
        refine A_mask [true, true, false, true, true, false] (lv' := [some (.ref 8), some (.int b1), none, some (.int b3), some (.int x9), none]) rfl ?_
        exact ih b1 b3 x9 s q hF hret hexit
      · rw [if_pos c8] at hF
        refine A_aload_n C dX0_lowestRoom_46 rfl (pc' := 47) rfl ?_
        refine A_get C (j := 8) cl_X0 rfl rfl lf_X0_25 dX0_lowestRoom_47 (HPg_8 s o) rfl (pc' := 50) rfl ?_
        refine A_iload C dX0_lowestRoom_50 rfl (pc' := 52) rfl ?_
        obtain ⟨h11, hF⟩ := grd_some hF
        refine A_iald C (HPg_19 s o) (ixb_in h11) dX0_lowestRoom_52 (pc' := 53) rfl ?_
        refine A_aload_n C dX0_lowestRoom_53 rfl (pc' := 54) rfl ?_
        refine A_get C (j := 7) cl_X0 rfl rfl lf_X0_22 dX0_lowestRoom_54 (HPg_8 s o) rfl (pc' := 57) rfl ?_
        refine A_iload C dX0_lowestRoom_57 rfl (pc' := 59) rfl ?_
        obtain ⟨h12, hF⟩ := grd_some hF
        refine A_iald C (HPg_18 s o) (ixb_in h12) dX0_lowestRoom_59 (pc' := 60) rfl ?_
        refine A_ior C dX0_lowestRoom_60 (pc' := 61) rfl ?_
        refine A_iload_n C dX0_lowestRoom_61 rfl (pc' := 62) rfl ?_
        refine A_iand C dX0_lowestRoom_62 (pc' := 63) rfl ?_
        refine A_if_ne C dX0_lowestRoom_63 (tgt := 69) (by decide) (pc' := 66) rfl (fun c13 => ?_) (fun c13 => ?_)
        · rw [if_neg c13] at hF
          obtain ⟨x14, e15, hF⟩ := bnd_some hF
          refine A_iinc C (lv' := [some (.ref 8), some (.int b1), none, some (.int b3), some (.int x14), some (.int x4)]) dX0_lowestRoom_69 rfl (by rw [e15]; rfl) rfl eN rfl rfl (pc' := 72) rfl ?_
          refine A_goto C dX0_lowestRoom_72 (tgt := 13) (by decide) ?_
          refine A_mask [true, true, false, true, true, false] (lv' := [some (.ref 8), some (.int b1), none, some (.int b3), some (.int x14), none]) rfl ?_
          exact ih b1 b3 x14 s q hF hret hexit
        · rw [if_pos c13] at hF
          refine A_iload C dX0_lowestRoom_66 rfl (pc' := 68) rfl ?_
          cases hF
          exact A_iret C (hret b4 rfl) (Nat.le_refl _) (Nat.le_refl _) dX0_lowestRoom_68
set_option maxHeartbeats 4000000 in
set_option maxRecDepth 100000 in
theorem F_X0_lowestRoom_ok {u : Uv} (hu : Un u) {a0 a1 : Int32} {s : Sg} {o : Nat → Int64} {r : Int32} (hF : F_X0_lowestRoom a0 a1 s = some r) : AM u (yX0_lowestRoom, cX0_lowestRoom, 6, (some .int)) 1 0 0 [.ref 8, .int a0, .int a1] (HP s o) (some (.int r)) (HP s o) := by
  refine AM.of hu (lv := [some (.ref 8), some (.int a0), some (.int a1), none, none, none]) (by decide) rfl (Nat.le_of_ble_eq_true rfl) rfl ?_
  intro Γ eu eN C T
  subst eu
  have C : Cok Γ cX0_lowestRoom RX0 (some .int) 1 0 0 := C
  unfold F_X0_lowestRoom at hF
  refine A_aload_n C dX0_lowestRoom_0 rfl (pc' := 1) rfl ?_
  refine A_get C (j := 5) cl_X0 rfl rfl lf_X0_12 dX0_lowestRoom_1 (HPg_8 s o) rfl (pc' := 4) rfl ?_
  refine A_iload_n C dX0_lowestRoom_4 rfl (pc' := 5) rfl ?_
  refine A_iload_n C dX0_lowestRoom_5 rfl (pc' := 6) rfl ?_
  obtain ⟨q1, h2, hF⟩ := Option.bind_eq_some_iff.mp hF
  refine A_callVN C (av := [.int a0, .int a1]) (rest := []) (st2 := [.int q1]) (k2 := 0) (n2 := 0) (F_X3_bitsAt_ok hu h2) mk_X3_bitsAt lm_X0_61 wi_X3_bitsAt wv_X3_bitsAt (HPg_9 s o) rfl rfl rfl rfl ⟨by decide, by decide⟩ (Nat.le_of_ble_eq_true rfl) rfl rfl dX0_lowestRoom_6 rfl rfl rfl (pc' := 9) rfl ?_
  refine A_istore_n C (lv' := [some (.ref 8), some (.int a0), some (.int a1), some (.int q1), none, none]) dX0_lowestRoom_9 rfl eN rfl rfl (pc' := 10) rfl ?_
  refine A_iconst C (x := 0) dX0_lowestRoom_10 (by decide) (pc' := 11) rfl ?_
  refine A_istore C (lv' := [some (.ref 8), some (.int a0), some (.int a1), some (.int q1), some (.int (0 : Int32)), none]) dX0_lowestRoom_11 rfl eN rfl rfl (pc' := 13) rfl ?_
  obtain ⟨q16, h17, hF⟩ := Option.bind_eq_some_iff.mp hF
  refine A_mask [true, true, false, true, true, false] (lv' := [some (.ref 8), some (.int a0), none, some (.int q1), some (.int (0 : Int32)), none]) rfl ?_
  refine L_X0_lowestRoom_13_ok hu eN C FU a0 q1 (0 : Int32) s q16 h17 (fun v18 e9 => ?_) (fun t19 e9 => ?_)
  · subst e9
    dsimp only at hF
    cases hF
    exact T
  subst e9
  dsimp only at hF
  refine A_iconst C (x := -1) dX0_lowestRoom_75 (by decide) (pc' := 76) rfl ?_
  cases hF
  exact A_iret C T (Nat.le_refl _) (Nat.le_refl _) dX0_lowestRoom_76
def F_X0_brokenRule (a0 : Int32) (a1 : Int32) (s : Sg) : Option Int32 :=
  jn (fun (x1 : Int32) => (F_X3_bitsAt x1 a1 s).bind fun q2 =>
      grd (ixb x1 16 = true) <|
      bnd ((8 : Int32) + (s 12 x1.toNatClampNeg)) fun x5 =>
      grd (ixb x5 22 = true) <|
      if ((s 18 x5.toNatClampNeg) &&& q2) = 0 then
        grd (ixb x5 22 = true) <|
        if ((s 19 x5.toNatClampNeg) &&& q2) = 0 then
          (F_X0_eitherClass x1 s).bind fun q11 =>
          if (q11 &&& q2) = 0 then
            (F_X0_eitherClass_v1 x1 s).bind fun q14 =>
            if (q14 &&& q2) = 0 then
              grd (¬ (s 901 0) = 0) <|
              (F_X0_isLessonOnDay x1 (a1 / (s 901 0)) s).bind fun q18 =>
              if q18 = 0 then
                (F_X0_lowestRoom x1 a1 s).bind fun q21 =>
                if q21 = (-1 : Int32) then
                  some (7 : Int32)
                else
                  some (0 : Int32)
              else
                some (6 : Int32)
            else
              some (5 : Int32)
          else
            some (4 : Int32)
        else
          some (3 : Int32)
      else
        some (2 : Int32)) fun J35 =>
  (F_X5_lessonOf a0 s).bind fun q24 =>
  grd (ixb q24 16 = true) <|
  if (s 14 q24.toNatClampNeg) = (2 : Int32) then
    grd (¬ (s 901 0) = 0) <|
    if (a1 - a1 / (s 901 0) * (s 901 0)) = ((s 901 0) - (1 : Int32)) then
      some (1 : Int32)
    else
      J35 q24
  else
    J35 q24
set_option maxHeartbeats 4000000 in
set_option maxRecDepth 100000 in
theorem F_X0_brokenRule_ok {u : Uv} (hu : Un u) {a0 a1 : Int32} {s : Sg} {o : Nat → Int64} {r : Int32} (hF : F_X0_brokenRule a0 a1 s = some r) : AM u (yX0_brokenRule, cX0_brokenRule, 6, (some .int)) 2 0 0 [.ref 8, .int a0, .int a1] (HP s o) (some (.int r)) (HP s o) := by
  refine AM.of hu (lv := [some (.ref 8), some (.int a0), some (.int a1), none, none, none]) (by decide) rfl (Nat.le_of_ble_eq_true rfl) rfl ?_
  intro Γ eu eN C T
  subst eu
  have C : Cok Γ cX0_brokenRule RX0 (some .int) 2 0 0 := C
  unfold F_X0_brokenRule at hF
  obtain ⟨J35, eJ35, hF⟩ := jn_some hF
  have hJ35 : ∀ (x1 : Int32), J35 x1 = some r → AW Γ (HP s o) 0 0 [some (.ref 8), none, some (.int a1), some (.int x1), none, none] [] 35 := by
    intro x1 hF
    rw [eJ35] at hF
    dsimp only at hF
    refine A_aload_n C dX0_brokenRule_35 rfl (pc' := 36) rfl ?_
    refine A_get C (j := 5) cl_X0 rfl rfl lf_X0_12 dX0_brokenRule_36 (HPg_8 s o) rfl (pc' := 39) rfl ?_
    refine A_iload_n C dX0_brokenRule_39 rfl (pc' := 40) rfl ?_
    refine A_iload_n C dX0_brokenRule_40 rfl (pc' := 41) rfl ?_
    obtain ⟨q2, h3, hF⟩ := Option.bind_eq_some_iff.mp hF
    refine A_callVN C (av := [.int x1, .int a1]) (rest := []) (st2 := [.int q2]) (k2 := 0) (n2 := 0) (F_X3_bitsAt_ok hu h3) mk_X3_bitsAt lm_X0_61 wi_X3_bitsAt wv_X3_bitsAt (HPg_9 s o) rfl rfl rfl rfl ⟨by decide, by decide⟩ (Nat.le_of_ble_eq_true rfl) rfl rfl dX0_brokenRule_41 rfl rfl rfl (pc' := 44) rfl ?_
    refine A_istore C (lv' := [some (.ref 8), none, some (.int a1), some (.int x1), some (.int q2), none]) dX0_brokenRule_44 rfl eN rfl rfl (pc' := 46) rfl ?_
    refine A_bipush C (x := 8) dX0_brokenRule_46 (by decide) (pc' := 48) rfl ?_
    refine A_aload_n C dX0_brokenRule_48 rfl (pc' := 49) rfl ?_
    refine A_get C (j := 5) cl_X0 rfl rfl lf_X0_12 dX0_brokenRule_49 (HPg_8 s o) rfl (pc' := 52) rfl ?_
    refine A_getN C (j := 2) cl_X3 rfl rfl lf_X0_69 dX0_brokenRule_52 (HPg_9 s o) rfl (pc' := 55) rfl ?_
    refine A_iload_n C dX0_brokenRule_55 rfl (pc' := 56) rfl ?_
    obtain ⟨h4, hF⟩ := grd_some hF
    refine A_iald C (HPg_12 s o) (ixb_in h4) dX0_brokenRule_56 (pc' := 57) rfl ?_
    refine A_iadd C dX0_brokenRule_57 (pc' := 58) rfl ?_
    obtain ⟨x5, e6, hF⟩ := bnd_some hF
    refine A_topi e6 ?_
    refine A_istore C (lv' := [some (.ref 8), none, some (.int a1), some (.int x1), some (.int q2), some (.int x5)]) dX0_brokenRule_58 rfl eN rfl rfl (pc' := 60) rfl ?_
    refine A_aload_n C dX0_brokenRule_60 rfl (pc' := 61) rfl ?_
    refine A_get C (j := 7) cl_X0 rfl rfl lf_X0_22 dX0_brokenRule_61 (HPg_8 s o) rfl (pc' := 64) rfl ?_
    refine A_iload C dX0_brokenRule_64 rfl (pc' := 66) rfl ?_
    obtain ⟨h7, hF⟩ := grd_some hF
    refine A_iald C (HPg_18 s o) (ixb_in h7) dX0_brokenRule_66 (pc' := 67) rfl ?_
    refine A_iload C dX0_brokenRule_67 rfl (pc' := 69) rfl ?_
    refine A_iand C dX0_brokenRule_69 (pc' := 70) rfl ?_
    refine A_if_eq C dX0_brokenRule_70 (tgt := 75) (by decide) (pc' := 73) rfl (fun c8 => ?_) (fun c8 => ?_)
    · rw [if_pos c8] at hF
      refine A_aload_n C dX0_brokenRule_75 rfl (pc' := 76) rfl ?_
      refine A_get C (j := 8) cl_X0 rfl rfl lf_X0_25 dX0_brokenRule_76 (HPg_8 s o) rfl (pc' := 79) rfl ?_
      refine A_iload C dX0_brokenRule_79 rfl (pc' := 81) rfl ?_
      obtain ⟨h9, hF⟩ := grd_some hF
      refine A_iald C (HPg_19 s o) (ixb_in h9) dX0_brokenRule_81 (pc' := 82) rfl ?_
      refine A_iload C dX0_brokenRule_82 rfl (pc' := 84) rfl ?_
      refine A_iand C dX0_brokenRule_84 (pc' := 85) rfl ?_
      refine A_if_eq C dX0_brokenRule_85 (tgt := 90) (by decide) (pc' := 88) rfl (fun c10 => ?_) (fun c10 => ?_)
      · rw [if_pos c10] at hF
        refine A_aload_n C dX0_brokenRule_90 rfl (pc' := 91) rfl ?_
        refine A_aload_n C dX0_brokenRule_91 rfl (pc' := 92) rfl ?_
        refine A_get C (j := 7) cl_X0 rfl rfl lf_X0_22 dX0_brokenRule_92 (HPg_8 s o) rfl (pc' := 95) rfl ?_
        refine A_iload_n C dX0_brokenRule_95 rfl (pc' := 96) rfl ?_
        obtain ⟨q11, h12, hF⟩ := Option.bind_eq_some_iff.mp hF
        refine A_callV C (av := [.ref 18, .int x1]) (rest := []) (st2 := [.int q11]) (k2 := 0) (n2 := 0) (F_X0_eitherClass_ok hu h12) mk_X0_eitherClass lm_X0_91 wi_X0_eitherClass wv_X0_eitherClass (HPg_8 s o) rfl rfl rfl rfl ⟨by decide, by decide⟩ (Nat.le_of_ble_eq_true rfl) rfl rfl dX0_brokenRule_96 rfl rfl rfl (pc' := 99) rfl ?_
        refine A_iload C dX0_brokenRule_99 rfl (pc' := 101) rfl ?_
        refine A_iand C dX0_brokenRule_101 (pc' := 102) rfl ?_
        refine A_if_eq C dX0_brokenRule_102 (tgt := 107) (by decide) (pc' := 105) rfl (fun c13 => ?_) (fun c13 => ?_)
        · rw [if_pos c13] at hF
          refine A_aload_n C dX0_brokenRule_107 rfl (pc' := 108) rfl ?_
          refine A_aload_n C dX0_brokenRule_108 rfl (pc' := 109) rfl ?_
          refine A_get C (j := 8) cl_X0 rfl rfl lf_X0_25 dX0_brokenRule_109 (HPg_8 s o) rfl (pc' := 112) rfl ?_
          refine A_iload_n C dX0_brokenRule_112 rfl (pc' := 113) rfl ?_
          obtain ⟨q14, h15, hF⟩ := Option.bind_eq_some_iff.mp hF
          refine A_callV C (av := [.ref 19, .int x1]) (rest := []) (st2 := [.int q14]) (k2 := 0) (n2 := 0) (F_X0_eitherClass_v1_ok hu h15) mk_X0_eitherClass lm_X0_91 wi_X0_eitherClass wv_X0_eitherClass (HPg_8 s o) rfl rfl rfl rfl ⟨by decide, by decide⟩ (Nat.le_of_ble_eq_true rfl) rfl rfl dX0_brokenRule_113 rfl rfl rfl (pc' := 116) rfl ?_
          refine A_iload C dX0_brokenRule_116 rfl (pc' := 118) rfl ?_
          refine A_iand C dX0_brokenRule_118 (pc' := 119) rfl ?_
          refine A_if_eq C dX0_brokenRule_119 (tgt := 124) (by decide) (pc' := 122) rfl (fun c16 => ?_) (fun c16 => ?_)
          · rw [if_pos c16] at hF
            refine A_aload_n C dX0_brokenRule_124 rfl (pc' := 125) rfl ?_
            refine A_iload_n C dX0_brokenRule_125 rfl (pc' := 126) rfl ?_
            refine A_iload_n C dX0_brokenRule_126 rfl (pc' := 127) rfl ?_
            refine A_aload_n C dX0_brokenRule_127 rfl (pc' := 128) rfl ?_
            refine A_get C (j := 1) cl_X0 rfl rfl lf_X0_35 dX0_brokenRule_128 (HPg_8 s o) rfl (pc' := 131) rfl ?_
            obtain ⟨h17, hF⟩ := grd_some hF
            refine A_idiv C dX0_brokenRule_131 h17 (pc' := 132) rfl ?_
            obtain ⟨q18, h19, hF⟩ := Option.bind_eq_some_iff.mp hF
            refine A_callV C (av := [.int x1, .int (a1 / (s 901 0))]) (rest := []) (st2 := [.int q18]) (k2 := 0) (n2 := 0) (F_X0_isLessonOnDay_ok hu h19) mk_X0_isLessonOnDay lm_X0_95 wi_X0_isLessonOnDay wv_X0_isLessonOnDay (HPg_8 s o) rfl rfl rfl rfl ⟨by decide, by decide⟩ (Nat.le_of_ble_eq_true rfl) rfl rfl dX0_brokenRule_132 rfl rfl rfl (pc' := 135) rfl ?_
            refine A_if_eq C dX0_brokenRule_135 (tgt := 141) (by decide) (pc' := 138) rfl (fun c20 => ?_) (fun c20 => ?_)
            · rw [if_pos c20] at hF
              refine A_aload_n C dX0_brokenRule_141 rfl (pc' := 142) rfl ?_
              refine A_iload_n C dX0_brokenRule_142 rfl (pc' := 143) rfl ?_
              refine A_iload_n C dX0_brokenRule_143 rfl (pc' := 144) rfl ?_
              obtain ⟨q21, h22, hF⟩ := Option.bind_eq_some_iff.mp hF
              refine A_callV C (av := [.int x1, .int a1]) (rest := []) (st2 := [.int q21]) (k2 := 0) (n2 := 0) (F_X0_lowestRoom_ok hu h22) mk_X0_lowestRoom lm_X0_81 wi_X0_lowestRoom wv_X0_lowestRoom (HPg_8 s o) rfl rfl rfl rfl ⟨by decide, by decide⟩ (Nat.le_of_ble_eq_true rfl) rfl rfl dX0_brokenRule_144 rfl rfl rfl (pc' := 147) rfl ?_
              refine A_iconst C (x := -1) dX0_brokenRule_147 (by decide) (pc' := 148) rfl ?_
              refine A_icmp_ne C dX0_brokenRule_148 (tgt := 156) (by decide) (pc' := 151) rfl (fun c23 => ?_) (fun c23 => ?_)
              · rw [if_neg c23] at hF
                refine A_iconst C (x := 0) dX0_brokenRule_156 (by decide) (pc' := 157) rfl ?_
                cases hF
                exact A_iret C T (Nat.le_refl _) (Nat.le_refl _) dX0_brokenRule_157
              · rw [if_pos c23] at hF
                refine A_bipush C (x := 7) dX0_brokenRule_151 (by decide) (pc' := 153) rfl ?_
                refine A_goto C dX0_brokenRule_153 (tgt := 157) (by decide) ?_
                cases hF
                exact A_iret C T (Nat.le_refl _) (Nat.le_refl _) dX0_brokenRule_157
            · rw [if_neg c20] at hF
              refine A_bipush C (x := 6) dX0_brokenRule_138 (by decide) (pc' := 140) rfl ?_
              cases hF
              exact A_iret C T (Nat.le_refl _) (Nat.le_refl _) dX0_brokenRule_140
          · rw [if_neg c16] at hF
            refine A_iconst C (x := 5) dX0_brokenRule_122 (by decide) (pc' := 123) rfl ?_
            cases hF
            exact A_iret C T (Nat.le_refl _) (Nat.le_refl _) dX0_brokenRule_123
        · rw [if_neg c13] at hF
          refine A_iconst C (x := 4) dX0_brokenRule_105 (by decide) (pc' := 106) rfl ?_
          cases hF
          exact A_iret C T (Nat.le_refl _) (Nat.le_refl _) dX0_brokenRule_106
      · rw [if_neg c10] at hF
        refine A_iconst C (x := 3) dX0_brokenRule_88 (by decide) (pc' := 89) rfl ?_
        cases hF
        exact A_iret C T (Nat.le_refl _) (Nat.le_refl _) dX0_brokenRule_89
    · rw [if_neg c8] at hF
      refine A_iconst C (x := 2) dX0_brokenRule_73 (by decide) (pc' := 74) rfl ?_
      cases hF
      exact A_iret C T (Nat.le_refl _) (Nat.le_refl _) dX0_brokenRule_74
  clear eJ35
  refine A_iload_n C dX0_brokenRule_0 rfl (pc' := 1) rfl ?_
  obtain ⟨q24, h25, hF⟩ := Option.bind_eq_some_iff.mp hF
  refine A_callSN C (av := [.int a0]) (rest := []) (st2 := [.int q24]) (k2 := 0) (n2 := 0) (F_X5_lessonOf_ok hu h25) mk_X5_lessonOf lm_X0_57 ws_X5_lessonOf rfl rfl rfl ⟨by decide, by decide⟩ (Nat.le_of_ble_eq_true rfl) rfl rfl dX0_brokenRule_1 rfl rfl rfl (pc' := 4) rfl ?_
  refine A_istore_n C (lv' := [some (.ref 8), some (.int a0), some (.int a1), some (.int q24), none, none]) dX0_brokenRule_4 rfl eN rfl rfl (pc' := 5) rfl ?_
  refine A_aload_n C dX0_brokenRule_5 rfl (pc' := 6) rfl ?_
  refine A_get C (j := 5) cl_X0 rfl rfl lf_X0_12 dX0_brokenRule_6 (HPg_8 s o) rfl (pc' := 9) rfl ?_
  refine A_getN C (j := 4) cl_X3 rfl rfl lf_X0_88 dX0_brokenRule_9 (HPg_9 s o) rfl (pc' := 12) rfl ?_
  refine A_iload_n C dX0_brokenRule_12 rfl (pc' := 13) rfl ?_
  obtain ⟨h26, hF⟩ := grd_some hF
  refine A_iald C (HPg_14 s o) (ixb_in h26) dX0_brokenRule_13 (pc' := 14) rfl ?_
  refine A_iconst C (x := 2) dX0_brokenRule_14 (by decide) (pc' := 15) rfl ?_
  refine A_icmp_ne C dX0_brokenRule_15 (tgt := 35) (by decide) (pc' := 18) rfl (fun c27 => ?_) (fun c27 => ?_)
  · rw [if_neg c27] at hF
    refine A_mask [true, false, true, true, false, false] (lv' := [some (.ref 8), none, some (.int a1), some (.int q24), none, none]) rfl ?_
    exact hJ35 q24 hF
  · rw [if_pos c27] at hF
    refine A_iload_n C dX0_brokenRule_18 rfl (pc' := 19) rfl ?_
    refine A_aload_n C dX0_brokenRule_19 rfl (pc' := 20) rfl ?_
    refine A_get C (j := 1) cl_X0 rfl rfl lf_X0_35 dX0_brokenRule_20 (HPg_8 s o) rfl (pc' := 23) rfl ?_
    obtain ⟨h28, hF⟩ := grd_some hF
    refine A_irem C dX0_brokenRule_23 h28 (pc' := 24) rfl ?_
    refine A_aload_n C dX0_brokenRule_24 rfl (pc' := 25) rfl ?_
    refine A_get C (j := 1) cl_X0 rfl rfl lf_X0_35 dX0_brokenRule_25 (HPg_8 s o) rfl (pc' := 28) rfl ?_
    refine A_iconst C (x := 1) dX0_brokenRule_28 (by decide) (pc' := 29) rfl ?_
    refine A_isub C dX0_brokenRule_29 (pc' := 30) rfl ?_
    refine A_icmp_ne C dX0_brokenRule_30 (tgt := 35) (by decide) (pc' := 33) rfl (fun c29 => ?_) (fun c29 => ?_)
    · rw [if_neg c29] at hF
      refine A_mask [true, false, true, true, false, false] (lv' := [some (.ref 8), none, some (.int a1), some (.int q24), none, none]) rfl ?_
      exact hJ35 q24 hF
    · rw [if_pos c29] at hF
      refine A_iconst C (x := 1) dX0_brokenRule_33 (by decide) (pc' := 34) rfl ?_
      cases hF
      exact A_iret C T (Nat.le_refl _) (Nat.le_refl _) dX0_brokenRule_34
def F_X0_putByRules (a0 : Int32) (a1 : Int32) (s : Sg) : Option (Int32 × Sg) :=
  (F_X0_brokenRule a0 a1 s).bind fun q1 =>
  if q1 = 0 then
    (F_X5_lessonOf a0 s).bind fun q4 =>
    (F_X0_lowestRoom q4 a1 s).bind fun q6 =>
    (F_X0_putAt a0 ((a1 * (6 : Int32)) + q6) s).bind fun q8 =>
    some (q1, q8)
  else
    some (q1, s)
set_option maxHeartbeats 4000000 in
set_option maxRecDepth 100000 in
theorem F_X0_putByRules_ok {u : Uv} (hu : Un u) {a0 a1 : Int32} {s : Sg} {o : Nat → Int64} {r : (Int32 × Sg)} (hF : F_X0_putByRules a0 a1 s = some r) : AM u (yX0_putByRules, cX0_putByRules, 4, (some .int)) 3 0 0 [.ref 8, .int a0, .int a1] (HP s o) (some (.int r.1)) (HP r.2 o) := by
  refine AM.of hu (lv := [some (.ref 8), some (.int a0), some (.int a1), none]) (by decide) rfl (Nat.le_of_ble_eq_true rfl) rfl ?_
  intro Γ eu eN C T
  subst eu
  have C : Cok Γ cX0_putByRules RX0 (some .int) 3 0 0 := C
  unfold F_X0_putByRules at hF
  refine A_aload_n C dX0_putByRules_0 rfl (pc' := 1) rfl ?_
  refine A_iload_n C dX0_putByRules_1 rfl (pc' := 2) rfl ?_
  refine A_iload_n C dX0_putByRules_2 rfl (pc' := 3) rfl ?_
  obtain ⟨q1, h2, hF⟩ := Option.bind_eq_some_iff.mp hF
  refine A_callV C (av := [.int a0, .int a1]) (rest := []) (st2 := [.int q1]) (k2 := 0) (n2 := 0) (F_X0_brokenRule_ok hu h2) mk_X0_brokenRule lm_X0_78 wi_X0_brokenRule wv_X0_brokenRule (HPg_8 s o) rfl rfl rfl rfl ⟨by decide, by decide⟩ (Nat.le_of_ble_eq_true rfl) rfl rfl dX0_putByRules_3 rfl rfl rfl (pc' := 6) rfl ?_
  refine A_istore_n C (lv' := [some (.ref 8), some (.int a0), some (.int a1), some (.int q1)]) dX0_putByRules_6 rfl eN rfl rfl (pc' := 7) rfl ?_
  refine A_iload_n C dX0_putByRules_7 rfl (pc' := 8) rfl ?_
  refine A_if_ne C dX0_putByRules_8 (tgt := 30) (by decide) (pc' := 11) rfl (fun c3 => ?_) (fun c3 => ?_)
  · rw [if_neg c3] at hF
    refine A_iload_n C dX0_putByRules_30 rfl (pc' := 31) rfl ?_
    cases hF
    exact A_iret C T (Nat.le_refl _) (Nat.le_refl _) dX0_putByRules_31
  · rw [if_pos c3] at hF
    refine A_aload_n C dX0_putByRules_11 rfl (pc' := 12) rfl ?_
    refine A_iload_n C dX0_putByRules_12 rfl (pc' := 13) rfl ?_
    refine A_iload_n C dX0_putByRules_13 rfl (pc' := 14) rfl ?_
    refine A_bipush C (x := 6) dX0_putByRules_14 (by decide) (pc' := 16) rfl ?_
    refine A_imul C dX0_putByRules_16 (pc' := 17) rfl ?_
    refine A_aload_n C dX0_putByRules_17 rfl (pc' := 18) rfl ?_
    refine A_iload_n C dX0_putByRules_18 rfl (pc' := 19) rfl ?_
    obtain ⟨q4, h5, hF⟩ := Option.bind_eq_some_iff.mp hF
    refine A_callSN C (av := [.int a0]) (rest := [.ref 8, .int (a1 * (6 : Int32)), .int a0, .ref 8]) (st2 := [.int q4, .ref 8, .int (a1 * (6 : Int32)), .int a0, .ref 8]) (k2 := 0) (n2 := 0) (F_X5_lessonOf_ok hu h5) mk_X5_lessonOf lm_X0_57 ws_X5_lessonOf rfl rfl rfl ⟨by decide, by decide⟩ (Nat.le_of_ble_eq_true rfl) rfl rfl dX0_putByRules_19 rfl rfl rfl (pc' := 22) rfl ?_
    refine A_iload_n C dX0_putByRules_22 rfl (pc' := 23) rfl ?_
    obtain ⟨q6, h7, hF⟩ := Option.bind_eq_some_iff.mp hF
    refine A_callV C (av := [.int q4, .int a1]) (rest := [.int (a1 * (6 : Int32)), .int a0, .ref 8]) (st2 := [.int q6, .int (a1 * (6 : Int32)), .int a0, .ref 8]) (k2 := 0) (n2 := 0) (F_X0_lowestRoom_ok hu h7) mk_X0_lowestRoom lm_X0_81 wi_X0_lowestRoom wv_X0_lowestRoom (HPg_8 s o) rfl rfl rfl rfl ⟨by decide, by decide⟩ (Nat.le_of_ble_eq_true rfl) rfl rfl dX0_putByRules_23 rfl rfl rfl (pc' := 26) rfl ?_
    refine A_iadd C dX0_putByRules_26 (pc' := 27) rfl ?_
    obtain ⟨q8, h9, hF⟩ := Option.bind_eq_some_iff.mp hF
    refine A_callV C (av := [.int a0, .int ((a1 * (6 : Int32)) + q6)]) (rest := []) (st2 := []) (k2 := 0) (n2 := 0) (F_X0_putAt_ok hu h9) mk_X0_putAt lm_X0_84 wi_X0_putAt wv_X0_putAt (HPg_8 s o) rfl rfl rfl rfl ⟨by decide, by decide⟩ (Nat.le_of_ble_eq_true rfl) rfl rfl dX0_putByRules_27 rfl rfl rfl (pc' := 30) rfl ?_
    refine A_iload_n C dX0_putByRules_30 rfl (pc' := 31) rfl ?_
    cases hF
    exact A_iret C T (Nat.le_refl _) (Nat.le_refl _) dX0_putByRules_31
def F_J6_bitCount_0f7a4 (a0 : Int32) (s : Sg) : Option Int32 :=
  bnd (a0 - (((a0.toUInt32 >>> ((1 : Int32).toUInt32 &&& Int32.toUInt32 31)).toInt32) &&& (1431655765 : Int32))) fun x1 =>
  bnd ((x1 &&& (858993459 : Int32)) + (((x1.toUInt32 >>> ((2 : Int32).toUInt32 &&& Int32.toUInt32 31)).toInt32) &&& (858993459 : Int32))) fun x3 =>
  bnd ((x3 + ((x3.toUInt32 >>> ((4 : Int32).toUInt32 &&& Int32.toUInt32 31)).toInt32)) &&& (252645135 : Int32)) fun x5 =>
  bnd (x5 + ((x5.toUInt32 >>> ((8 : Int32).toUInt32 &&& Int32.toUInt32 31)).toInt32)) fun x7 =>
  bnd (x7 + ((x7.toUInt32 >>> ((16 : Int32).toUInt32 &&& Int32.toUInt32 31)).toInt32)) fun x9 =>
  some (x9 &&& (63 : Int32))
set_option maxHeartbeats 4000000 in
set_option maxRecDepth 100000 in
theorem F_J6_bitCount_0f7a4_ok {u : Uv} (hu : Un u) {a0 : Int32} {s : Sg} {o : Nat → Int64} {r : Int32} (hF : F_J6_bitCount_0f7a4 a0 s = some r) : AM u (yJ6_bitCount_0f7a4, cJ6_bitCount_0f7a4, 1, (some .int)) 0 0 0 [.int a0] (HP s o) (some (.int r)) (HP s o) := by
  refine AM.of hu (lv := [some (.int a0)]) (by decide) rfl (Nat.le_of_ble_eq_true rfl) rfl ?_
  intro Γ eu eN C T
  subst eu
  have C : Cok Γ cJ6_bitCount_0f7a4 RJ6 (some .int) 0 0 0 := C
  unfold F_J6_bitCount_0f7a4 at hF
  refine A_iload_n C dJ6_bitCount_0f7a4_0 rfl (pc' := 1) rfl ?_
  refine A_iload_n C dJ6_bitCount_0f7a4_1 rfl (pc' := 2) rfl ?_
  refine A_iconst C (x := 1) dJ6_bitCount_0f7a4_2 (by decide) (pc' := 3) rfl ?_
  refine A_iushr C dJ6_bitCount_0f7a4_3 (pc' := 4) rfl ?_
  refine A_ldcw C dJ6_bitCount_0f7a4_4 kc_J6_265 (pc' := 7) rfl ?_
  refine A_iand C dJ6_bitCount_0f7a4_7 (pc' := 8) rfl ?_
  refine A_isub C dJ6_bitCount_0f7a4_8 (pc' := 9) rfl ?_
  obtain ⟨x1, e2, hF⟩ := bnd_some hF
  refine A_topi e2 ?_
  refine A_istore_n C (lv' := [some (.int x1)]) dJ6_bitCount_0f7a4_9 rfl eN rfl rfl (pc' := 10) rfl ?_
  refine A_iload_n C dJ6_bitCount_0f7a4_10 rfl (pc' := 11) rfl ?_
  refine A_ldcw C dJ6_bitCount_0f7a4_11 kc_J6_266 (pc' := 14) rfl ?_
  refine A_iand C dJ6_bitCount_0f7a4_14 (pc' := 15) rfl ?_
  refine A_iload_n C dJ6_bitCount_0f7a4_15 rfl (pc' := 16) rfl ?_
  refine A_iconst C (x := 2) dJ6_bitCount_0f7a4_16 (by decide) (pc' := 17) rfl ?_
  refine A_iushr C dJ6_bitCount_0f7a4_17 (pc' := 18) rfl ?_
  refine A_ldcw C dJ6_bitCount_0f7a4_18 kc_J6_266 (pc' := 21) rfl ?_
  refine A_iand C dJ6_bitCount_0f7a4_21 (pc' := 22) rfl ?_
  refine A_iadd C dJ6_bitCount_0f7a4_22 (pc' := 23) rfl ?_
  obtain ⟨x3, e4, hF⟩ := bnd_some hF
  refine A_topi e4 ?_
  refine A_istore_n C (lv' := [some (.int x3)]) dJ6_bitCount_0f7a4_23 rfl eN rfl rfl (pc' := 24) rfl ?_
  refine A_iload_n C dJ6_bitCount_0f7a4_24 rfl (pc' := 25) rfl ?_
  refine A_iload_n C dJ6_bitCount_0f7a4_25 rfl (pc' := 26) rfl ?_
  refine A_iconst C (x := 4) dJ6_bitCount_0f7a4_26 (by decide) (pc' := 27) rfl ?_
  refine A_iushr C dJ6_bitCount_0f7a4_27 (pc' := 28) rfl ?_
  refine A_iadd C dJ6_bitCount_0f7a4_28 (pc' := 29) rfl ?_
  refine A_ldcw C dJ6_bitCount_0f7a4_29 kc_J6_267 (pc' := 32) rfl ?_
  refine A_iand C dJ6_bitCount_0f7a4_32 (pc' := 33) rfl ?_
  obtain ⟨x5, e6, hF⟩ := bnd_some hF
  refine A_topi e6 ?_
  refine A_istore_n C (lv' := [some (.int x5)]) dJ6_bitCount_0f7a4_33 rfl eN rfl rfl (pc' := 34) rfl ?_
  refine A_iload_n C dJ6_bitCount_0f7a4_34 rfl (pc' := 35) rfl ?_
  refine A_iload_n C dJ6_bitCount_0f7a4_35 rfl (pc' := 36) rfl ?_
  refine A_bipush C (x := 8) dJ6_bitCount_0f7a4_36 (by decide) (pc' := 38) rfl ?_
  refine A_iushr C dJ6_bitCount_0f7a4_38 (pc' := 39) rfl ?_
  refine A_iadd C dJ6_bitCount_0f7a4_39 (pc' := 40) rfl ?_
  obtain ⟨x7, e8, hF⟩ := bnd_some hF
  refine A_topi e8 ?_
  refine A_istore_n C (lv' := [some (.int x7)]) dJ6_bitCount_0f7a4_40 rfl eN rfl rfl (pc' := 41) rfl ?_
  refine A_iload_n C dJ6_bitCount_0f7a4_41 rfl (pc' := 42) rfl ?_
  refine A_iload_n C dJ6_bitCount_0f7a4_42 rfl (pc' := 43) rfl ?_
  refine A_bipush C (x := 16) dJ6_bitCount_0f7a4_43 (by decide) (pc' := 45) rfl ?_
  refine A_iushr C dJ6_bitCount_0f7a4_45 (pc' := 46) rfl ?_
  refine A_iadd C dJ6_bitCount_0f7a4_46 (pc' := 47) rfl ?_
  obtain ⟨x9, e10, hF⟩ := bnd_some hF
  refine A_topi e10 ?_
  refine A_istore_n C (lv' := [some (.int x9)]) dJ6_bitCount_0f7a4_47 rfl eN rfl rfl (pc' := 48) rfl ?_
  refine A_iload_n C dJ6_bitCount_0f7a4_48 rfl (pc' := 49) rfl ?_
  refine A_bipush C (x := 63) dJ6_bitCount_0f7a4_49 (by decide) (pc' := 51) rfl ?_
  refine A_iand C dJ6_bitCount_0f7a4_51 (pc' := 52) rfl ?_
  cases hF
  exact A_iret C T (Nat.le_refl _) (Nat.le_refl _) dJ6_bitCount_0f7a4_52
def L_X0_gapsIn_7 : Nat → Int32 → Int32 → Int32 → Int32 → Sg → Option (Int32 × Int32)
  | 0, _, _, _, _, _ => none
  | fu + 1, b1, b2, b3, b4, s =>
    if (s 901 0) ≤ b4 then
      some (b2, b3)
    else
      bnd (b2 ||| ((b2 <<< ((1 : Int32) &&& 31)) &&& ((s 903 0) ^^^ (-1 : Int32)))) fun x2 =>
      bnd (b3 ||| ((b3 >>> ((1 : Int32) &&& 31)) &&& ((s 904 0) ^^^ (-1 : Int32)))) fun x4 =>
      bnd (b4 + (1 : Int32)) fun x6 =>
      L_X0_gapsIn_7 fu b1 x2 x4 x6 s
def F_X0_gapsIn (a0 : Int32) (s : Sg) : Option Int32 :=
  (L_X0_gapsIn_7 FU a0 a0 a0 (1 : Int32) s).bind fun q8 =>
  (F_J6_bitCount_0f7a4 ((q8.1 &&& q8.2) &&& (a0 ^^^ (-1 : Int32))) s).bind fun q10 =>
  some q10
set_option maxHeartbeats 4000000 in
set_option maxRecDepth 100000 in
theorem L_X0_gapsIn_7_ok {Γ : Cx} (hu : Un Γ.2.1) (eN : 5 = Γ.2.2.2.2.2) (C : Cok Γ cX0_gapsIn RX0 (some .int) 1 0 0) {o : Nat → Int64} : ∀ (fu : Nat) (b1 : Int32) (b2 : Int32) (b3 : Int32) (b4 : Int32) (s : Sg) (q : (Int32 × Int32)), L_X0_gapsIn_7 fu b1 b2 b3 b4 s = some q → AW Γ (HP s o) 0 0 [none, some (.int b1), some (.int q.1), some (.int q.2), none] [] 48 → AW Γ (HP s o) 0 0 [some (.ref 8), some (.int b1), some (.int b2), some (.int b3), some (.int b4)] [] 7 := by
  intro fu
  induction fu with
  | zero => intro b1 b2 b3 b4 s q hF; rw [L_X0_gapsIn_7] at hF; cases hF
  | succ fu ih =>
    intro b1 b2 b3 b4 s q hF hexit
    rw [L_X0_gapsIn_7] at hF
    refine A_iload C dX0_gapsIn_7 rfl (pc' := 9) rfl ?_
    refine A_aload_n C dX0_gapsIn_9 rfl (pc' := 10) rfl ?_
    refine A_get C (j := 1) cl_X0 rfl rfl lf_X0_35 dX0_gapsIn_10 (HPg_8 s o) rfl (pc' := 13) rfl ?_
    refine A_icmp_ge C dX0_gapsIn_13 (tgt := 48) (by decide) (pc' := 16) rfl (fun c1 => ?_) (fun c1 => ?_)
    · rw [if_pos c1] at hF
      cases hF
      refine A_mask [false, true, true, true, false] (lv' := [none, some (.int b1), some (.int b2), some (.int b3), none]) rfl ?_
      exact hexit
    · rw [if_neg c1] at hF
      refine A_iload_n C dX0_gapsIn_16 rfl (pc' := 17) rfl ?_
      refine A_iload_n C dX0_gapsIn_17 rfl (pc' := 18) rfl ?_
      refine A_iconst C (x := 1) dX0_gapsIn_18 (by decide) (pc' := 19) rfl ?_
      refine A_ishl C dX0_gapsIn_19 (pc' := 20) rfl ?_
      refine A_aload_n C dX0_gapsIn_20 rfl (pc' := 21) rfl ?_
      refine A_get C (j := 3) cl_X0 rfl rfl lf_X0_41 dX0_gapsIn_21 (HPg_8 s o) rfl (pc' := 24) rfl ?_
      refine A_iconst C (x := -1) dX0_gapsIn_24 (by decide) (pc' := 25) rfl ?_
      refine A_ixor C dX0_gapsIn_25 (pc' := 26) rfl ?_
      refine A_iand C dX0_gapsIn_26 (pc' := 27) rfl ?_
      refine A_ior C dX0_gapsIn_27 (pc' := 28) rfl ?_
      obtain ⟨x2, e3, hF⟩ := bnd_some hF
      refine A_topi e3 ?_
      refine A_istore_n C (lv' := [some (.ref 8), some (.int b1), some (.int x2), some (.int b3), some (.int b4)]) dX0_gapsIn_28 rfl eN rfl rfl (pc' := 29) rfl ?_
      refine A_iload_n C dX0_gapsIn_29 rfl (pc' := 30) rfl ?_
      refine A_iload_n C dX0_gapsIn_30 rfl (pc' := 31) rfl ?_
      refine A_iconst C (x := 1) dX0_gapsIn_31 (by decide) (pc' := 32) rfl ?_
      refine A_ishr C dX0_gapsIn_32 (pc' := 33) rfl ?_
      refine A_aload_n C dX0_gapsIn_33 rfl (pc' := 34) rfl ?_
      refine A_get C (j := 4) cl_X0 rfl rfl lf_X0_44 dX0_gapsIn_34 (HPg_8 s o) rfl (pc' := 37) rfl ?_
      refine A_iconst C (x := -1) dX0_gapsIn_37 (by decide) (pc' := 38) rfl ?_
      refine A_ixor C dX0_gapsIn_38 (pc' := 39) rfl ?_
      refine A_iand C dX0_gapsIn_39 (pc' := 40) rfl ?_
      refine A_ior C dX0_gapsIn_40 (pc' := 41) rfl ?_
      obtain ⟨x4, e5, hF⟩ := bnd_some hF
      refine A_topi e5 ?_
      refine A_istore_n C (lv' := [some (.ref 8), some (.int b1), some (.int x2), some (.int x4), some (.int b4)]) dX0_gapsIn_41 rfl eN rfl rfl (pc' := 42) rfl ?_
      obtain ⟨x6, e7, hF⟩ := bnd_some hF
      refine A_iinc C (lv' := [some (.ref 8), some (.int b1), some (.int x2), some (.int x4), some (.int x6)]) dX0_gapsIn_42 rfl (by rw [e7]; rfl) rfl eN rfl rfl (pc' := 45) rfl ?_
      refine A_goto C dX0_gapsIn_45 (tgt := 7) (by decide) ?_
      refine A_mask [true, true, true, true, true] (lv' := [some (.ref 8), some (.int b1), some (.int x2), some (.int x4), some (.int x6)]) rfl ?_
      exact ih b1 x2 x4 x6 s q hF hexit
set_option maxHeartbeats 4000000 in
set_option maxRecDepth 100000 in
theorem F_X0_gapsIn_ok {u : Uv} (hu : Un u) {a0 : Int32} {s : Sg} {o : Nat → Int64} {r : Int32} (hF : F_X0_gapsIn a0 s = some r) : AM u (yX0_gapsIn, cX0_gapsIn, 5, (some .int)) 1 0 0 [.ref 8, .int a0] (HP s o) (some (.int r)) (HP s o) := by
  refine AM.of hu (lv := [some (.ref 8), some (.int a0), none, none, none]) (by decide) rfl (Nat.le_of_ble_eq_true rfl) rfl ?_
  intro Γ eu eN C T
  subst eu
  have C : Cok Γ cX0_gapsIn RX0 (some .int) 1 0 0 := C
  unfold F_X0_gapsIn at hF
  refine A_iload_n C dX0_gapsIn_0 rfl (pc' := 1) rfl ?_
  refine A_istore_n C (lv' := [some (.ref 8), some (.int a0), some (.int a0), none, none]) dX0_gapsIn_1 rfl eN rfl rfl (pc' := 2) rfl ?_
  refine A_iload_n C dX0_gapsIn_2 rfl (pc' := 3) rfl ?_
  refine A_istore_n C (lv' := [some (.ref 8), some (.int a0), some (.int a0), some (.int a0), none]) dX0_gapsIn_3 rfl eN rfl rfl (pc' := 4) rfl ?_
  refine A_iconst C (x := 1) dX0_gapsIn_4 (by decide) (pc' := 5) rfl ?_
  refine A_istore C (lv' := [some (.ref 8), some (.int a0), some (.int a0), some (.int a0), some (.int (1 : Int32))]) dX0_gapsIn_5 rfl eN rfl rfl (pc' := 7) rfl ?_
  obtain ⟨q8, h9, hF⟩ := Option.bind_eq_some_iff.mp hF
  refine A_mask [true, true, true, true, true] (lv' := [some (.ref 8), some (.int a0), some (.int a0), some (.int a0), some (.int (1 : Int32))]) rfl ?_
  refine L_X0_gapsIn_7_ok hu eN C FU a0 a0 a0 (1 : Int32) s q8 h9 ?_
  refine A_iload_n C dX0_gapsIn_48 rfl (pc' := 49) rfl ?_
  refine A_iload_n C dX0_gapsIn_49 rfl (pc' := 50) rfl ?_
  refine A_iand C dX0_gapsIn_50 (pc' := 51) rfl ?_
  refine A_iload_n C dX0_gapsIn_51 rfl (pc' := 52) rfl ?_
  refine A_iconst C (x := -1) dX0_gapsIn_52 (by decide) (pc' := 53) rfl ?_
  refine A_ixor C dX0_gapsIn_53 (pc' := 54) rfl ?_
  refine A_iand C dX0_gapsIn_54 (pc' := 55) rfl ?_
  obtain ⟨q10, h11, hF⟩ := Option.bind_eq_some_iff.mp hF
  refine A_callS C (av := [.int ((q8.1 &&& q8.2) &&& (a0 ^^^ (-1 : Int32)))]) (rest := []) (st2 := [.int q10]) (k2 := 0) (n2 := 0) (F_J6_bitCount_0f7a4_ok hu h11) mk_J6_bitCount_0f7a4 lm_X0_120 ws_J6_bitCount_0f7a4 rfl rfl rfl ⟨by decide, by decide⟩ (Nat.le_of_ble_eq_true rfl) rfl rfl dX0_gapsIn_55 rfl rfl rfl (pc' := 58) rfl ?_
  cases hF
  exact A_iret C T (Nat.le_refl _) (Nat.le_refl _) dX0_gapsIn_58
def F_X0_classPart (a0 : Int32) (s : Sg) : Option Int32 :=
  (F_X0_gapsIn a0 s).bind fun q1 =>
  some ((2 : Int32) * q1)
set_option maxHeartbeats 4000000 in
set_option maxRecDepth 100000 in
theorem F_X0_classPart_ok {u : Uv} (hu : Un u) {a0 : Int32} {s : Sg} {o : Nat → Int64} {r : Int32} (hF : F_X0_classPart a0 s = some r) : AM u (yX0_classPart, cX0_classPart, 2, (some .int)) 2 0 0 [.ref 8, .int a0] (HP s o) (some (.int r)) (HP s o) := by
  refine AM.of hu (lv := [some (.ref 8), some (.int a0)]) (by decide) rfl (Nat.le_of_ble_eq_true rfl) rfl ?_
  intro Γ eu eN C T
  subst eu
  have C : Cok Γ cX0_classPart RX0 (some .int) 2 0 0 := C
  unfold F_X0_classPart at hF
  refine A_iconst C (x := 2) dX0_classPart_0 (by decide) (pc' := 1) rfl ?_
  refine A_aload_n C dX0_classPart_1 rfl (pc' := 2) rfl ?_
  refine A_iload_n C dX0_classPart_2 rfl (pc' := 3) rfl ?_
  obtain ⟨q1, h2, hF⟩ := Option.bind_eq_some_iff.mp hF
  refine A_callV C (av := [.int a0]) (rest := [.int (2 : Int32)]) (st2 := [.int q1, .int (2 : Int32)]) (k2 := 0) (n2 := 0) (F_X0_gapsIn_ok hu h2) mk_X0_gapsIn lm_X0_117 wi_X0_gapsIn wv_X0_gapsIn (HPg_8 s o) rfl rfl rfl rfl ⟨by decide, by decide⟩ (Nat.le_of_ble_eq_true rfl) rfl rfl dX0_classPart_3 rfl rfl rfl (pc' := 6) rfl ?_
  refine A_imul C dX0_classPart_6 (pc' := 7) rfl ?_
  cases hF
  exact A_iret C T (Nat.le_refl _) (Nat.le_refl _) dX0_classPart_7
def F_X0_teacherPart (a0 : Int32) (s : Sg) : Option Int32 :=
  (F_X0_gapsIn a0 s).bind fun q1 =>
  (F_J6_bitCount_0f7a4 (a0 &&& (s 904 0)) s).bind fun q3 =>
  some (((1 : Int32) * q1) + ((3 : Int32) * q3))
set_option maxHeartbeats 4000000 in
set_option maxRecDepth 100000 in
theorem F_X0_teacherPart_ok {u : Uv} (hu : Un u) {a0 : Int32} {s : Sg} {o : Nat → Int64} {r : Int32} (hF : F_X0_teacherPart a0 s = some r) : AM u (yX0_teacherPart, cX0_teacherPart, 2, (some .int)) 2 0 0 [.ref 8, .int a0] (HP s o) (some (.int r)) (HP s o) := by
  refine AM.of hu (lv := [some (.ref 8), some (.int a0)]) (by decide) rfl (Nat.le_of_ble_eq_true rfl) rfl ?_
  intro Γ eu eN C T
  subst eu
  have C : Cok Γ cX0_teacherPart RX0 (some .int) 2 0 0 := C
  unfold F_X0_teacherPart at hF
  refine A_iconst C (x := 1) dX0_teacherPart_0 (by decide) (pc' := 1) rfl ?_
  refine A_aload_n C dX0_teacherPart_1 rfl (pc' := 2) rfl ?_
  refine A_iload_n C dX0_teacherPart_2 rfl (pc' := 3) rfl ?_
  obtain ⟨q1, h2, hF⟩ := Option.bind_eq_some_iff.mp hF
  refine A_callV C (av := [.int a0]) (rest := [.int (1 : Int32)]) (st2 := [.int q1, .int (1 : Int32)]) (k2 := 0) (n2 := 0) (F_X0_gapsIn_ok hu h2) mk_X0_gapsIn lm_X0_117 wi_X0_gapsIn wv_X0_gapsIn (HPg_8 s o) rfl rfl rfl rfl ⟨by decide, by decide⟩ (Nat.le_of_ble_eq_true rfl) rfl rfl dX0_teacherPart_3 rfl rfl rfl (pc' := 6) rfl ?_
  refine A_imul C dX0_teacherPart_6 (pc' := 7) rfl ?_
  refine A_iconst C (x := 3) dX0_teacherPart_7 (by decide) (pc' := 8) rfl ?_
  refine A_iload_n C dX0_teacherPart_8 rfl (pc' := 9) rfl ?_
  refine A_aload_n C dX0_teacherPart_9 rfl (pc' := 10) rfl ?_
  refine A_get C (j := 4) cl_X0 rfl rfl lf_X0_44 dX0_teacherPart_10 (HPg_8 s o) rfl (pc' := 13) rfl ?_
  refine A_iand C dX0_teacherPart_13 (pc' := 14) rfl ?_
  obtain ⟨q3, h4, hF⟩ := Option.bind_eq_some_iff.mp hF
  refine A_callS C (av := [.int (a0 &&& (s 904 0))]) (rest := [.int (3 : Int32), .int ((1 : Int32) * q1)]) (st2 := [.int q3, .int (3 : Int32), .int ((1 : Int32) * q1)]) (k2 := 0) (n2 := 0) (F_J6_bitCount_0f7a4_ok hu h4) mk_J6_bitCount_0f7a4 lm_X0_120 ws_J6_bitCount_0f7a4 rfl rfl rfl ⟨by decide, by decide⟩ (Nat.le_of_ble_eq_true rfl) rfl rfl dX0_teacherPart_14 rfl rfl rfl (pc' := 17) rfl ?_
  refine A_imul C dX0_teacherPart_17 (pc' := 18) rfl ?_
  refine A_iadd C dX0_teacherPart_18 (pc' := 19) rfl ?_
  cases hF
  exact A_iret C T (Nat.le_refl _) (Nat.le_refl _) dX0_teacherPart_19
def L_X0_weekPenalty_4 : Nat → Int32 → Int32 → Sg → Option (Int32)
  | 0, _, _, _ => none
  | fu + 1, b1, b2, s =>
    if (8 : Int32) ≤ b2 then
      some b1
    else
      grd (ixb ((8 : Int32) + b2) 22 = true) <|
      (F_X0_teacherPart (s 19 ((8 : Int32) + b2).toNatClampNeg) s).bind fun q3 =>
      bnd (b1 + q3) fun x5 =>
      bnd (b2 + (1 : Int32)) fun x7 =>
      L_X0_weekPenalty_4 fu x5 x7 s
def L_X0_weekPenalty_34 : Nat → Int32 → Int32 → Sg → Option (Int32)
  | 0, _, _, _ => none
  | fu + 1, b1, b2, s =>
    if (8 : Int32) ≤ b2 then
      some b1
    else
      grd (ixb b2 22 = true) <|
      (F_X0_classPart (s 19 b2.toNatClampNeg) s).bind fun q13 =>
      bnd (b1 + q13) fun x15 =>
      bnd (b2 + (1 : Int32)) fun x17 =>
      L_X0_weekPenalty_34 fu x15 x17 s
def F_X0_weekPenalty (s : Sg) : Option Int32 :=
  (L_X0_weekPenalty_4 FU (0 : Int32) (0 : Int32) s).bind fun q9 =>
  (L_X0_weekPenalty_34 FU q9 (0 : Int32) s).bind fun q19 =>
  some q19
set_option maxHeartbeats 4000000 in
set_option maxRecDepth 100000 in
theorem L_X0_weekPenalty_4_ok {Γ : Cx} (hu : Un Γ.2.1) (eN : 3 = Γ.2.2.2.2.2) (C : Cok Γ cX0_weekPenalty RX0 (some .int) 3 0 0) {o : Nat → Int64} : ∀ (fu : Nat) (b1 : Int32) (b2 : Int32) (s : Sg) (q : (Int32)), L_X0_weekPenalty_4 fu b1 b2 s = some q → AW Γ (HP s o) 0 0 [some (.ref 8), some (.int q), none] [] 32 → AW Γ (HP s o) 0 0 [some (.ref 8), some (.int b1), some (.int b2)] [] 4 := by
  intro fu
  induction fu with
  | zero => intro b1 b2 s q hF; rw [L_X0_weekPenalty_4] at hF; cases hF
  | succ fu ih =>
    intro b1 b2 s q hF hexit
    rw [L_X0_weekPenalty_4] at hF
    refine A_iload_n C dX0_weekPenalty_4 rfl (pc' := 5) rfl ?_
    refine A_bipush C (x := 8) dX0_weekPenalty_5 (by decide) (pc' := 7) rfl ?_
    refine A_icmp_ge C dX0_weekPenalty_7 (tgt := 32) (by decide) (pc' := 10) rfl (fun c1 => ?_) (fun c1 => ?_)
    · rw [if_pos c1] at hF
      cases hF
      refine A_mask [true, true, false] (lv' := [some (.ref 8), some (.int b1), none]) rfl ?_
      exact hexit
    · rw [if_neg c1] at hF
      refine A_iload_n C dX0_weekPenalty_10 rfl (pc' := 11) rfl ?_
      refine A_aload_n C dX0_weekPenalty_11 rfl (pc' := 12) rfl ?_
      refine A_aload_n C dX0_weekPenalty_12 rfl (pc' := 13) rfl ?_
      refine A_get C (j := 8) cl_X0 rfl rfl lf_X0_25 dX0_weekPenalty_13 (HPg_8 s o) rfl (pc' := 16) rfl ?_
      refine A_bipush C (x := 8) dX0_weekPenalty_16 (by decide) (pc' := 18) rfl ?_
      refine A_iload_n C dX0_weekPenalty_18 rfl (pc' := 19) rfl ?_
      refine A_iadd C dX0_weekPenalty_19 (pc' := 20) rfl ?_
      obtain ⟨h2, hF⟩ := grd_some hF
      refine A_iald C (HPg_19 s o) (ixb_in h2) dX0_weekPenalty_20 (pc' := 21) rfl ?_
      obtain ⟨q3, h4, hF⟩ := Option.bind_eq_some_iff.mp hF
      refine A_callV C (av := [.int (s 19 ((8 : Int32) + b2).toNatClampNeg)]) (rest := [.int b1]) (st2 := [.int q3, .int b1]) (k2 := 0) (n2 := 0) (F_X0_teacherPart_ok hu h4) mk_X0_teacherPart lm_X0_111 wi_X0_teacherPart wv_X0_teacherPart (HPg_8 s o) rfl rfl rfl rfl ⟨by decide, by decide⟩ (Nat.le_of_ble_eq_true rfl) rfl rfl dX0_weekPenalty_21 rfl rfl rfl (pc' := 24) rfl ?_
      refine A_iadd C dX0_weekPenalty_24 (pc' := 25) rfl ?_
      obtain ⟨x5, e6, hF⟩ := bnd_some hF
      refine A_topi e6 ?_
      refine A_istore_n C (lv' := [some (.ref 8), some (.int x5), some (.int b2)]) dX0_weekPenalty_25 rfl eN rfl rfl (pc' := 26) rfl ?_
      obtain ⟨x7, e8, hF⟩ := bnd_some hF
      refine A_iinc C (lv' := [some (.ref 8), some (.int x5), some (.int x7)]) dX0_weekPenalty_26 rfl (by rw [e8]; rfl) rfl eN rfl rfl (pc' := 29) rfl ?_
      refine A_goto C dX0_weekPenalty_29 (tgt := 4) (by decide) ?_
      refine A_mask [true, true, true] (lv' := [some (.ref 8), some (.int x5), some (.int x7)]) rfl ?_
      exact ih x5 x7 s q hF hexit
set_option maxHeartbeats 4000000 in
set_option maxRecDepth 100000 in
theorem L_X0_weekPenalty_34_ok {Γ : Cx} (hu : Un Γ.2.1) (eN : 3 = Γ.2.2.2.2.2) (C : Cok Γ cX0_weekPenalty RX0 (some .int) 3 0 0) {o : Nat → Int64} : ∀ (fu : Nat) (b1 : Int32) (b2 : Int32) (s : Sg) (q : (Int32)), L_X0_weekPenalty_34 fu b1 b2 s = some q → AW Γ (HP s o) 0 0 [none, some (.int q), none] [] 59 → AW Γ (HP s o) 0 0 [some (.ref 8), some (.int b1), some (.int b2)] [] 34 := by
  intro fu
  induction fu with
  | zero => intro b1 b2 s q hF; rw [L_X0_weekPenalty_34] at hF; cases hF
  | succ fu ih =>
    intro b1 b2 s q hF hexit
    rw [L_X0_weekPenalty_34] at hF
    refine A_iload_n C dX0_weekPenalty_34 rfl (pc' := 35) rfl ?_
    refine A_bipush C (x := 8) dX0_weekPenalty_35 (by decide) (pc' := 37) rfl ?_
    refine A_icmp_ge C dX0_weekPenalty_37 (tgt := 59) (by decide) (pc' := 40) rfl (fun c11 => ?_) (fun c11 => ?_)
    · rw [if_pos c11] at hF
      cases hF
      refine A_mask [false, true, false] (lv' := [none, some (.int b1), none]) rfl ?_
      exact hexit
    · rw [if_neg c11] at hF
      refine A_iload_n C dX0_weekPenalty_40 rfl (pc' := 41) rfl ?_
      refine A_aload_n C dX0_weekPenalty_41 rfl (pc' := 42) rfl ?_
      refine A_aload_n C dX0_weekPenalty_42 rfl (pc' := 43) rfl ?_
      refine A_get C (j := 8) cl_X0 rfl rfl lf_X0_25 dX0_weekPenalty_43 (HPg_8 s o) rfl (pc' := 46) rfl ?_
      refine A_iload_n C dX0_weekPenalty_46 rfl (pc' := 47) rfl ?_
      obtain ⟨h12, hF⟩ := grd_some hF
      refine A_iald C (HPg_19 s o) (ixb_in h12) dX0_weekPenalty_47 (pc' := 48) rfl ?_
      obtain ⟨q13, h14, hF⟩ := Option.bind_eq_some_iff.mp hF
      refine A_callV C (av := [.int (s 19 b2.toNatClampNeg)]) (rest := [.int b1]) (st2 := [.int q13, .int b1]) (k2 := 0) (n2 := 0) (F_X0_classPart_ok hu h14) mk_X0_classPart lm_X0_114 wi_X0_classPart wv_X0_classPart (HPg_8 s o) rfl rfl rfl rfl ⟨by decide, by decide⟩ (Nat.le_of_ble_eq_true rfl) rfl rfl dX0_weekPenalty_48 rfl rfl rfl (pc' := 51) rfl ?_
      refine A_iadd C dX0_weekPenalty_51 (pc' := 52) rfl ?_
      obtain ⟨x15, e16, hF⟩ := bnd_some hF
      refine A_topi e16 ?_
      refine A_istore_n C (lv' := [some (.ref 8), some (.int x15), some (.int b2)]) dX0_weekPenalty_52 rfl eN rfl rfl (pc' := 53) rfl ?_
      obtain ⟨x17, e18, hF⟩ := bnd_some hF
      refine A_iinc C (lv' := [some (.ref 8), some (.int x15), some (.int x17)]) dX0_weekPenalty_53 rfl (by rw [e18]; rfl) rfl eN rfl rfl (pc' := 56) rfl ?_
      refine A_goto C dX0_weekPenalty_56 (tgt := 34) (by decide) ?_
      refine A_mask [true, true, true] (lv' := [some (.ref 8), some (.int x15), some (.int x17)]) rfl ?_
      exact ih x15 x17 s q hF hexit
set_option maxHeartbeats 4000000 in
set_option maxRecDepth 100000 in
theorem F_X0_weekPenalty_ok {u : Uv} (hu : Un u) {s : Sg} {o : Nat → Int64} {r : Int32} (hF : F_X0_weekPenalty  s = some r) : AM u (yX0_weekPenalty, cX0_weekPenalty, 3, (some .int)) 3 0 0 [.ref 8] (HP s o) (some (.int r)) (HP s o) := by
  refine AM.of hu (lv := [some (.ref 8), none, none]) (by decide) rfl (Nat.le_of_ble_eq_true rfl) rfl ?_
  intro Γ eu eN C T
  subst eu
  have C : Cok Γ cX0_weekPenalty RX0 (some .int) 3 0 0 := C
  unfold F_X0_weekPenalty at hF
  refine A_iconst C (x := 0) dX0_weekPenalty_0 (by decide) (pc' := 1) rfl ?_
  refine A_istore_n C (lv' := [some (.ref 8), some (.int (0 : Int32)), none]) dX0_weekPenalty_1 rfl eN rfl rfl (pc' := 2) rfl ?_
  refine A_iconst C (x := 0) dX0_weekPenalty_2 (by decide) (pc' := 3) rfl ?_
  refine A_istore_n C (lv' := [some (.ref 8), some (.int (0 : Int32)), some (.int (0 : Int32))]) dX0_weekPenalty_3 rfl eN rfl rfl (pc' := 4) rfl ?_
  obtain ⟨q9, h10, hF⟩ := Option.bind_eq_some_iff.mp hF
  refine A_mask [true, true, true] (lv' := [some (.ref 8), some (.int (0 : Int32)), some (.int (0 : Int32))]) rfl ?_
  refine L_X0_weekPenalty_4_ok hu eN C FU (0 : Int32) (0 : Int32) s q9 h10 ?_
  refine A_iconst C (x := 0) dX0_weekPenalty_32 (by decide) (pc' := 33) rfl ?_
  refine A_istore_n C (lv' := [some (.ref 8), some (.int q9), some (.int (0 : Int32))]) dX0_weekPenalty_33 rfl eN rfl rfl (pc' := 34) rfl ?_
  obtain ⟨q19, h20, hF⟩ := Option.bind_eq_some_iff.mp hF
  refine A_mask [true, true, true] (lv' := [some (.ref 8), some (.int q9), some (.int (0 : Int32))]) rfl ?_
  refine L_X0_weekPenalty_34_ok hu eN C FU q9 (0 : Int32) s q19 h20 ?_
  refine A_iload_n C dX0_weekPenalty_59 rfl (pc' := 60) rfl ?_
  cases hF
  exact A_iret C T (Nat.le_refl _) (Nat.le_refl _) dX0_weekPenalty_60
