set_option maxHeartbeats 4000000 in
set_option maxRecDepth 100000 in
theorem H_room_r {u : Uv} (hu : Un u) {a0 a1 : Int32} {s : Sg} {o : Nat → Int64} {q : Sg} (hF : F_X5_room a0 a1 s = some (.inl q)) : AMW u (yL_room, cL_room, 4, (some .int)) hhL_room 7 [.ref 0, .int a0, .int a1] (HP s o) (some (.int 0)) (HP q o) := by
  refine AMW.of hu (lv := [some (.ref 0), some (.int a0), some (.int a1), none]) (by decide) rfl (Nat.le_of_ble_eq_true rfl) rfl ?_
  intro Γ eu eN C TB T
  subst eu
  have C : Cok Γ cL_room RL (some .int) 7 1 6 := C
  refine A_aload_n C dL_room_0 rfl (pc' := 1) rfl ?_
  refine A_iload_n C dL_room_1 rfl (pc' := 2) rfl ?_
  refine A_iload_n C dL_room_2 rfl (pc' := 3) rfl ?_
  refine A_callVXr C (av := [.int a0, .int a1]) (rest := []) (st2 := []) (k2 := 1) (n2 := 6) (rv := none) (h' := HP q o) (F_X5_room_ok hu hF) mk_X5_room lm_L_7 wi_X5_room wv_X5_room (HPg_0 s o) rfl rfl rfl rfl ⟨by decide, by decide⟩ (Nat.le_of_ble_eq_true rfl) rfl rfl dL_room_3 rfl rfl rfl (pc' := 6) rfl ?_
  refine A_goto C dL_room_6 (tgt := 15) (by decide) ?_
  refine A_iconst C (x := 0) dL_room_15 (by decide) (pc' := 16) rfl ?_
  exact A_iret C T (Nat.le_refl _) (Nat.le_refl _) dL_room_16
set_option maxHeartbeats 4000000 in
set_option maxRecDepth 100000 in
theorem H_room_t1 {u : Uv} (hu : Un u) {a0 a1 : Int32} {s : Sg} {o : Nat → Int64} (hF : F_X5_room a0 a1 s = some (.inr 1)) : AMW u (yL_room, cL_room, 4, (some .int)) hhL_room 7 [.ref 0, .int a0, .int a1] (HP s o) (some (.int 1)) (HP s o) := by
  refine AMW.of hu (lv := [some (.ref 0), some (.int a0), some (.int a1), none]) (by decide) rfl (Nat.le_of_ble_eq_true rfl) rfl ?_
  intro Γ eu eN C TB T
  subst eu
  have C : Cok Γ cL_room RL (some .int) 7 1 6 := C
  refine A_aload_n C dL_room_0 rfl (pc' := 1) rfl ?_
  refine A_iload_n C dL_room_1 rfl (pc' := 2) rfl ?_
  refine A_iload_n C dL_room_2 rfl (pc' := 3) rfl ?_
  refine A_callVXt C (code := 1) (av := [.int a0, .int a1]) (rest := []) (k2 := 1) (n2 := 6) (F_X5_room_ok hu hF) mk_X5_room lm_L_7 wi_X5_room wv_X5_room (HPg_0 s o) rfl rfl rfl rfl ⟨by decide, by decide⟩ (Nat.le_of_ble_eq_true rfl) dL_room_3 rfl rfl ?_
  refine A_catch C TB [] ⟨0, 6, 9, 13⟩ [⟨0, 6, 12, 15⟩] rfl (fun z hz => absurd hz List.not_mem_nil) (by decide) (by decide) lc_L_13 wc_1 rfl rfl rfl ?_
  refine A_astore_n C (lv' := [some (.ref 0), some (.int a0), some (.int a1), some (.ref EXI)]) dL_room_9 rfl eN rfl rfl (pc' := 10) rfl ?_
  refine A_iconst C (x := 1) dL_room_10 (by decide) (pc' := 11) rfl ?_
  exact A_iret C T (Nat.le_refl _) (Nat.le_refl _) dL_room_11
set_option maxHeartbeats 4000000 in
set_option maxRecDepth 100000 in
theorem H_room_t2 {u : Uv} (hu : Un u) {a0 a1 : Int32} {s : Sg} {o : Nat → Int64} (hF : F_X5_room a0 a1 s = some (.inr 2)) : AMW u (yL_room, cL_room, 4, (some .int)) hhL_room 7 [.ref 0, .int a0, .int a1] (HP s o) (some (.int 2)) (HP s o) := by
  refine AMW.of hu (lv := [some (.ref 0), some (.int a0), some (.int a1), none]) (by decide) rfl (Nat.le_of_ble_eq_true rfl) rfl ?_
  intro Γ eu eN C TB T
  subst eu
  have C : Cok Γ cL_room RL (some .int) 7 1 6 := C
  refine A_aload_n C dL_room_0 rfl (pc' := 1) rfl ?_
  refine A_iload_n C dL_room_1 rfl (pc' := 2) rfl ?_
  refine A_iload_n C dL_room_2 rfl (pc' := 3) rfl ?_
  refine A_callVXt C (code := 2) (av := [.int a0, .int a1]) (rest := []) (k2 := 1) (n2 := 6) (F_X5_room_ok hu hF) mk_X5_room lm_L_7 wi_X5_room wv_X5_room (HPg_0 s o) rfl rfl rfl rfl ⟨by decide, by decide⟩ (Nat.le_of_ble_eq_true rfl) dL_room_3 rfl rfl ?_
  refine A_catch C TB [⟨0, 6, 9, 13⟩] ⟨0, 6, 12, 15⟩ [] rfl (fun z hz => by rw [List.mem_singleton] at hz; subst hz; exact ⟨by decide, "java/lang/IllegalArgumentException", lc_L_13, nc_2_1⟩) (by decide) (by decide) lc_L_15 wc_2 rfl rfl rfl ?_
  refine A_astore_n C (lv' := [some (.ref 0), some (.int a0), some (.int a1), some (.ref EXI)]) dL_room_12 rfl eN rfl rfl (pc' := 13) rfl ?_
  refine A_iconst C (x := 2) dL_room_13 (by decide) (pc' := 14) rfl ?_
  exact A_iret C T (Nat.le_refl _) (Nat.le_refl _) dL_room_14
set_option maxHeartbeats 4000000 in
set_option maxRecDepth 100000 in
theorem H_lesson_r {u : Uv} (hu : Un u) {a0 a1 a2 a3 a4 a5 : Int32} {s : Sg} {o : Nat → Int64} {q : (Int32 × Sg)} (hF : F_X5_lesson a0 a1 a2 a3 a4 a5 s = some (.inl q)) : AMW u (yL_lesson, cL_lesson, 9, (some .int)) hhL_lesson 7 [.ref 0, .int a0, .int a1, .int a2, .int a3, .int a4, .int a5, .ref 39] (HP s o) (some (.int 0)) (HP q.2 (vp_updL o 0 q.1.toInt64)) := by
  refine AMW.of hu (lv := [some (.ref 0), some (.int a0), some (.int a1), some (.int a2), some (.int a3), some (.int a4), some (.int a5), some (.ref 39), none]) (by decide) rfl (Nat.le_of_ble_eq_true rfl) rfl ?_
  intro Γ eu eN C TB T
  subst eu
  have C : Cok Γ cL_lesson RL (some .int) 7 1 6 := C
  refine A_aload C dL_lesson_0 rfl (pc' := 2) rfl ?_
  refine A_iconst C (x := 0) dL_lesson_2 (by decide) (pc' := 3) rfl ?_
  refine A_aload_n C dL_lesson_3 rfl (pc' := 4) rfl ?_
  refine A_iload_n C dL_lesson_4 rfl (pc' := 5) rfl ?_
  refine A_iload_n C dL_lesson_5 rfl (pc' := 6) rfl ?_
  refine A_iload_n C dL_lesson_6 rfl (pc' := 7) rfl ?_
  refine A_iload C dL_lesson_7 rfl (pc' := 9) rfl ?_
  refine A_iload C dL_lesson_9 rfl (pc' := 11) rfl ?_
  refine A_iload C dL_lesson_11 rfl (pc' := 13) rfl ?_
  refine A_callVXr C (av := [.int a0, .int a1, .int a2, .int a3, .int a4, .int a5]) (rest := [.int (0 : Int32), .ref 39]) (st2 := [.int q.1, .int (0 : Int32), .ref 39]) (k2 := 1) (n2 := 6) (rv := some (.int q.1)) (h' := HP q.2 o) (F_X5_lesson_ok hu hF) mk_X5_lesson lm_L_17 wi_X5_lesson wv_X5_lesson (HPg_0 s o) rfl rfl rfl rfl ⟨by decide, by decide⟩ (Nat.le_of_ble_eq_true rfl) rfl rfl dL_lesson_13 rfl rfl rfl (pc' := 16) rfl ?_
  refine A_i2l C dL_lesson_16 (pc' := 17) rfl ?_
  refine A_last C (h1 := HP q.2 (vp_updL o 0 q.1.toInt64)) (HPg_39 q.2 o) (ixb_in (by decide)) (by rw [sb_cl0]; exact HPs_39 q.2 o _) dL_lesson_17 (pc' := 18) rfl ?_
  refine A_goto C dL_lesson_18 (tgt := 29) (by decide) ?_
  refine A_iconst C (x := 0) dL_lesson_29 (by decide) (pc' := 30) rfl ?_
  exact A_iret C T (Nat.le_refl _) (Nat.le_refl _) dL_lesson_30
set_option maxHeartbeats 4000000 in
set_option maxRecDepth 100000 in
theorem H_lesson_t1 {u : Uv} (hu : Un u) {a0 a1 a2 a3 a4 a5 : Int32} {s : Sg} {o : Nat → Int64} (hF : F_X5_lesson a0 a1 a2 a3 a4 a5 s = some (.inr 1)) : AMW u (yL_lesson, cL_lesson, 9, (some .int)) hhL_lesson 7 [.ref 0, .int a0, .int a1, .int a2, .int a3, .int a4, .int a5, .ref 39] (HP s o) (some (.int 1)) (HP s o) := by
  refine AMW.of hu (lv := [some (.ref 0), some (.int a0), some (.int a1), some (.int a2), some (.int a3), some (.int a4), some (.int a5), some (.ref 39), none]) (by decide) rfl (Nat.le_of_ble_eq_true rfl) rfl ?_
  intro Γ eu eN C TB T
  subst eu
  have C : Cok Γ cL_lesson RL (some .int) 7 1 6 := C
  refine A_aload C dL_lesson_0 rfl (pc' := 2) rfl ?_
  refine A_iconst C (x := 0) dL_lesson_2 (by decide) (pc' := 3) rfl ?_
  refine A_aload_n C dL_lesson_3 rfl (pc' := 4) rfl ?_
  refine A_iload_n C dL_lesson_4 rfl (pc' := 5) rfl ?_
  refine A_iload_n C dL_lesson_5 rfl (pc' := 6) rfl ?_
  refine A_iload_n C dL_lesson_6 rfl (pc' := 7) rfl ?_
  refine A_iload C dL_lesson_7 rfl (pc' := 9) rfl ?_
  refine A_iload C dL_lesson_9 rfl (pc' := 11) rfl ?_
  refine A_iload C dL_lesson_11 rfl (pc' := 13) rfl ?_
  refine A_callVXt C (code := 1) (av := [.int a0, .int a1, .int a2, .int a3, .int a4, .int a5]) (rest := [.int (0 : Int32), .ref 39]) (k2 := 1) (n2 := 6) (F_X5_lesson_ok hu hF) mk_X5_lesson lm_L_17 wi_X5_lesson wv_X5_lesson (HPg_0 s o) rfl rfl rfl rfl ⟨by decide, by decide⟩ (Nat.le_of_ble_eq_true rfl) dL_lesson_13 rfl rfl ?_
  refine A_catch C TB [] ⟨0, 18, 21, 13⟩ [⟨0, 18, 25, 15⟩] rfl (fun z hz => absurd hz List.not_mem_nil) (by decide) (by decide) lc_L_13 wc_1 rfl rfl rfl ?_
  refine A_astore C (lv' := [some (.ref 0), some (.int a0), some (.int a1), some (.int a2), some (.int a3), some (.int a4), some (.int a5), some (.ref 39), some (.ref EXI)]) dL_lesson_21 rfl eN rfl rfl (pc' := 23) rfl ?_
  refine A_iconst C (x := 1) dL_lesson_23 (by decide) (pc' := 24) rfl ?_
  exact A_iret C T (Nat.le_refl _) (Nat.le_refl _) dL_lesson_24
set_option maxHeartbeats 4000000 in
set_option maxRecDepth 100000 in
theorem H_lesson_t2 {u : Uv} (hu : Un u) {a0 a1 a2 a3 a4 a5 : Int32} {s : Sg} {o : Nat → Int64} (hF : F_X5_lesson a0 a1 a2 a3 a4 a5 s = some (.inr 2)) : AMW u (yL_lesson, cL_lesson, 9, (some .int)) hhL_lesson 7 [.ref 0, .int a0, .int a1, .int a2, .int a3, .int a4, .int a5, .ref 39] (HP s o) (some (.int 2)) (HP s o) := by
  refine AMW.of hu (lv := [some (.ref 0), some (.int a0), some (.int a1), some (.int a2), some (.int a3), some (.int a4), some (.int a5), some (.ref 39), none]) (by decide) rfl (Nat.le_of_ble_eq_true rfl) rfl ?_
  intro Γ eu eN C TB T
  subst eu
  have C : Cok Γ cL_lesson RL (some .int) 7 1 6 := C
  refine A_aload C dL_lesson_0 rfl (pc' := 2) rfl ?_
  refine A_iconst C (x := 0) dL_lesson_2 (by decide) (pc' := 3) rfl ?_
  refine A_aload_n C dL_lesson_3 rfl (pc' := 4) rfl ?_
  refine A_iload_n C dL_lesson_4 rfl (pc' := 5) rfl ?_
  refine A_iload_n C dL_lesson_5 rfl (pc' := 6) rfl ?_
  refine A_iload_n C dL_lesson_6 rfl (pc' := 7) rfl ?_
  refine A_iload C dL_lesson_7 rfl (pc' := 9) rfl ?_
  refine A_iload C dL_lesson_9 rfl (pc' := 11) rfl ?_
  refine A_iload C dL_lesson_11 rfl (pc' := 13) rfl ?_
  refine A_callVXt C (code := 2) (av := [.int a0, .int a1, .int a2, .int a3, .int a4, .int a5]) (rest := [.int (0 : Int32), .ref 39]) (k2 := 1) (n2 := 6) (F_X5_lesson_ok hu hF) mk_X5_lesson lm_L_17 wi_X5_lesson wv_X5_lesson (HPg_0 s o) rfl rfl rfl rfl ⟨by decide, by decide⟩ (Nat.le_of_ble_eq_true rfl) dL_lesson_13 rfl rfl ?_
  refine A_catch C TB [⟨0, 18, 21, 13⟩] ⟨0, 18, 25, 15⟩ [] rfl (fun z hz => by rw [List.mem_singleton] at hz; subst hz; exact ⟨by decide, "java/lang/IllegalArgumentException", lc_L_13, nc_2_1⟩) (by decide) (by decide) lc_L_15 wc_2 rfl rfl rfl ?_
  refine A_astore C (lv' := [some (.ref 0), some (.int a0), some (.int a1), some (.int a2), some (.int a3), some (.int a4), some (.int a5), some (.ref 39), some (.ref EXI)]) dL_lesson_25 rfl eN rfl rfl (pc' := 27) rfl ?_
  refine A_iconst C (x := 2) dL_lesson_27 (by decide) (pc' := 28) rfl ?_
  exact A_iret C T (Nat.le_refl _) (Nat.le_refl _) dL_lesson_28
set_option maxHeartbeats 4000000 in
set_option maxRecDepth 100000 in
theorem H_block_r {u : Uv} (hu : Un u) {a0 a1 a2 a3 : Int32} {s : Sg} {o : Nat → Int64} {q : Sg} (hF : F_X5_block a0 a1 a2 a3 s = some (.inl q)) : AMW u (yL_block, cL_block, 6, (some .int)) hhL_block 7 [.ref 0, .int a0, .int a1, .int a2, .int a3] (HP s o) (some (.int 0)) (HP q o) := by
  refine AMW.of hu (lv := [some (.ref 0), some (.int a0), some (.int a1), some (.int a2), some (.int a3), none]) (by decide) rfl (Nat.le_of_ble_eq_true rfl) rfl ?_
  intro Γ eu eN C TB T
  subst eu
  have C : Cok Γ cL_block RL (some .int) 7 1 6 := C
  refine A_aload_n C dL_block_0 rfl (pc' := 1) rfl ?_
  refine A_iload_n C dL_block_1 rfl (pc' := 2) rfl ?_
  refine A_iload_n C dL_block_2 rfl (pc' := 3) rfl ?_
  refine A_iload_n C dL_block_3 rfl (pc' := 4) rfl ?_
  refine A_iload C dL_block_4 rfl (pc' := 6) rfl ?_
  refine A_callVXr C (av := [.int a0, .int a1, .int a2, .int a3]) (rest := []) (st2 := []) (k2 := 1) (n2 := 6) (rv := none) (h' := HP q o) (F_X5_block_ok hu hF) mk_X5_block lm_L_21 wi_X5_block wv_X5_block (HPg_0 s o) rfl rfl rfl rfl ⟨by decide, by decide⟩ (Nat.le_of_ble_eq_true rfl) rfl rfl dL_block_6 rfl rfl rfl (pc' := 9) rfl ?_
  refine A_goto C dL_block_9 (tgt := 20) (by decide) ?_
  refine A_iconst C (x := 0) dL_block_20 (by decide) (pc' := 21) rfl ?_
  exact A_iret C T (Nat.le_refl _) (Nat.le_refl _) dL_block_21
set_option maxHeartbeats 4000000 in
set_option maxRecDepth 100000 in
theorem H_block_t1 {u : Uv} (hu : Un u) {a0 a1 a2 a3 : Int32} {s : Sg} {o : Nat → Int64} (hF : F_X5_block a0 a1 a2 a3 s = some (.inr 1)) : AMW u (yL_block, cL_block, 6, (some .int)) hhL_block 7 [.ref 0, .int a0, .int a1, .int a2, .int a3] (HP s o) (some (.int 1)) (HP s o) := by
  refine AMW.of hu (lv := [some (.ref 0), some (.int a0), some (.int a1), some (.int a2), some (.int a3), none]) (by decide) rfl (Nat.le_of_ble_eq_true rfl) rfl ?_
  intro Γ eu eN C TB T
  subst eu
  have C : Cok Γ cL_block RL (some .int) 7 1 6 := C
  refine A_aload_n C dL_block_0 rfl (pc' := 1) rfl ?_
  refine A_iload_n C dL_block_1 rfl (pc' := 2) rfl ?_
  refine A_iload_n C dL_block_2 rfl (pc' := 3) rfl ?_
  refine A_iload_n C dL_block_3 rfl (pc' := 4) rfl ?_
  refine A_iload C dL_block_4 rfl (pc' := 6) rfl ?_
  refine A_callVXt C (code := 1) (av := [.int a0, .int a1, .int a2, .int a3]) (rest := []) (k2 := 1) (n2 := 6) (F_X5_block_ok hu hF) mk_X5_block lm_L_21 wi_X5_block wv_X5_block (HPg_0 s o) rfl rfl rfl rfl ⟨by decide, by decide⟩ (Nat.le_of_ble_eq_true rfl) dL_block_6 rfl rfl ?_
  refine A_catch C TB [] ⟨0, 9, 12, 13⟩ [⟨0, 9, 16, 15⟩] rfl (fun z hz => absurd hz List.not_mem_nil) (by decide) (by decide) lc_L_13 wc_1 rfl rfl rfl ?_
  refine A_astore C (lv' := [some (.ref 0), some (.int a0), some (.int a1), some (.int a2), some (.int a3), some (.ref EXI)]) dL_block_12 rfl eN rfl rfl (pc' := 14) rfl ?_
  refine A_iconst C (x := 1) dL_block_14 (by decide) (pc' := 15) rfl ?_
  exact A_iret C T (Nat.le_refl _) (Nat.le_refl _) dL_block_15
set_option maxHeartbeats 4000000 in
set_option maxRecDepth 100000 in
theorem H_block_t2 {u : Uv} (hu : Un u) {a0 a1 a2 a3 : Int32} {s : Sg} {o : Nat → Int64} (hF : F_X5_block a0 a1 a2 a3 s = some (.inr 2)) : AMW u (yL_block, cL_block, 6, (some .int)) hhL_block 7 [.ref 0, .int a0, .int a1, .int a2, .int a3] (HP s o) (some (.int 2)) (HP s o) := by
  refine AMW.of hu (lv := [some (.ref 0), some (.int a0), some (.int a1), some (.int a2), some (.int a3), none]) (by decide) rfl (Nat.le_of_ble_eq_true rfl) rfl ?_
  intro Γ eu eN C TB T
  subst eu
  have C : Cok Γ cL_block RL (some .int) 7 1 6 := C
  refine A_aload_n C dL_block_0 rfl (pc' := 1) rfl ?_
  refine A_iload_n C dL_block_1 rfl (pc' := 2) rfl ?_
  refine A_iload_n C dL_block_2 rfl (pc' := 3) rfl ?_
  refine A_iload_n C dL_block_3 rfl (pc' := 4) rfl ?_
  refine A_iload C dL_block_4 rfl (pc' := 6) rfl ?_
  refine A_callVXt C (code := 2) (av := [.int a0, .int a1, .int a2, .int a3]) (rest := []) (k2 := 1) (n2 := 6) (F_X5_block_ok hu hF) mk_X5_block lm_L_21 wi_X5_block wv_X5_block (HPg_0 s o) rfl rfl rfl rfl ⟨by decide, by decide⟩ (Nat.le_of_ble_eq_true rfl) dL_block_6 rfl rfl ?_
  refine A_catch C TB [⟨0, 9, 12, 13⟩] ⟨0, 9, 16, 15⟩ [] rfl (fun z hz => by rw [List.mem_singleton] at hz; subst hz; exact ⟨by decide, "java/lang/IllegalArgumentException", lc_L_13, nc_2_1⟩) (by decide) (by decide) lc_L_15 wc_2 rfl rfl rfl ?_
  refine A_astore C (lv' := [some (.ref 0), some (.int a0), some (.int a1), some (.int a2), some (.int a3), some (.ref EXI)]) dL_block_16 rfl eN rfl rfl (pc' := 18) rfl ?_
  refine A_iconst C (x := 2) dL_block_18 (by decide) (pc' := 19) rfl ?_
  exact A_iret C T (Nat.le_refl _) (Nat.le_refl _) dL_block_19
set_option maxHeartbeats 4000000 in
set_option maxRecDepth 100000 in
theorem H_place_r {u : Uv} (hu : Un u) {a0 a1 a2 : Int32} {s : Sg} {o : Nat → Int64} {q : (Int32 × Sg)} (hF : F_X5_place a0 a1 a2 s = some (.inl q)) : AMW u (yL_place, cL_place, 6, (some .int)) hhL_place 7 [.ref 0, .int a0, .int a1, .int a2, .ref 39] (HP s o) (some (.int 0)) (HP q.2 (vp_updL o 0 q.1.toInt64)) := by
  refine AMW.of hu (lv := [some (.ref 0), some (.int a0), some (.int a1), some (.int a2), some (.ref 39), none]) (by decide) rfl (Nat.le_of_ble_eq_true rfl) rfl ?_
  intro Γ eu eN C TB T
  subst eu
  have C : Cok Γ cL_place RL (some .int) 7 1 6 := C
  refine A_aload C dL_place_0 rfl (pc' := 2) rfl ?_
  refine A_iconst C (x := 0) dL_place_2 (by decide) (pc' := 3) rfl ?_
  refine A_aload_n C dL_place_3 rfl (pc' := 4) rfl ?_
  refine A_iload_n C dL_place_4 rfl (pc' := 5) rfl ?_
  refine A_iload_n C dL_place_5 rfl (pc' := 6) rfl ?_
  refine A_iload_n C dL_place_6 rfl (pc' := 7) rfl ?_
  refine A_callVXr C (av := [.int a0, .int a1, .int a2]) (rest := [.int (0 : Int32), .ref 39]) (st2 := [.int q.1, .int (0 : Int32), .ref 39]) (k2 := 1) (n2 := 6) (rv := some (.int q.1)) (h' := HP q.2 o) (F_X5_place_ok hu hF) mk_X5_place lm_L_25 wi_X5_place wv_X5_place (HPg_0 s o) rfl rfl rfl rfl ⟨by decide, by decide⟩ (Nat.le_of_ble_eq_true rfl) rfl rfl dL_place_7 rfl rfl rfl (pc' := 10) rfl ?_
  refine A_i2l C dL_place_10 (pc' := 11) rfl ?_
  refine A_last C (h1 := HP q.2 (vp_updL o 0 q.1.toInt64)) (HPg_39 q.2 o) (ixb_in (by decide)) (by rw [sb_cl0]; exact HPs_39 q.2 o _) dL_place_11 (pc' := 12) rfl ?_
  refine A_goto C dL_place_12 (tgt := 23) (by decide) ?_
  refine A_iconst C (x := 0) dL_place_23 (by decide) (pc' := 24) rfl ?_
  exact A_iret C T (Nat.le_refl _) (Nat.le_refl _) dL_place_24
set_option maxHeartbeats 4000000 in
set_option maxRecDepth 100000 in
theorem H_place_t1 {u : Uv} (hu : Un u) {a0 a1 a2 : Int32} {s : Sg} {o : Nat → Int64} (hF : F_X5_place a0 a1 a2 s = some (.inr 1)) : AMW u (yL_place, cL_place, 6, (some .int)) hhL_place 7 [.ref 0, .int a0, .int a1, .int a2, .ref 39] (HP s o) (some (.int 1)) (HP s o) := by
  refine AMW.of hu (lv := [some (.ref 0), some (.int a0), some (.int a1), some (.int a2), some (.ref 39), none]) (by decide) rfl (Nat.le_of_ble_eq_true rfl) rfl ?_
  intro Γ eu eN C TB T
  subst eu
  have C : Cok Γ cL_place RL (some .int) 7 1 6 := C
  refine A_aload C dL_place_0 rfl (pc' := 2) rfl ?_
  refine A_iconst C (x := 0) dL_place_2 (by decide) (pc' := 3) rfl ?_
  refine A_aload_n C dL_place_3 rfl (pc' := 4) rfl ?_
  refine A_iload_n C dL_place_4 rfl (pc' := 5) rfl ?_
  refine A_iload_n C dL_place_5 rfl (pc' := 6) rfl ?_
  refine A_iload_n C dL_place_6 rfl (pc' := 7) rfl ?_
  refine A_callVXt C (code := 1) (av := [.int a0, .int a1, .int a2]) (rest := [.int (0 : Int32), .ref 39]) (k2 := 1) (n2 := 6) (F_X5_place_ok hu hF) mk_X5_place lm_L_25 wi_X5_place wv_X5_place (HPg_0 s o) rfl rfl rfl rfl ⟨by decide, by decide⟩ (Nat.le_of_ble_eq_true rfl) dL_place_7 rfl rfl ?_
  refine A_catch C TB [] ⟨0, 12, 15, 13⟩ [⟨0, 12, 19, 15⟩] rfl (fun z hz => absurd hz List.not_mem_nil) (by decide) (by decide) lc_L_13 wc_1 rfl rfl rfl ?_
  refine A_astore C (lv' := [some (.ref 0), some (.int a0), some (.int a1), some (.int a2), some (.ref 39), some (.ref EXI)]) dL_place_15 rfl eN rfl rfl (pc' := 17) rfl ?_
  refine A_iconst C (x := 1) dL_place_17 (by decide) (pc' := 18) rfl ?_
  exact A_iret C T (Nat.le_refl _) (Nat.le_refl _) dL_place_18
set_option maxHeartbeats 4000000 in
set_option maxRecDepth 100000 in
theorem H_place_t2 {u : Uv} (hu : Un u) {a0 a1 a2 : Int32} {s : Sg} {o : Nat → Int64} (hF : F_X5_place a0 a1 a2 s = some (.inr 2)) : AMW u (yL_place, cL_place, 6, (some .int)) hhL_place 7 [.ref 0, .int a0, .int a1, .int a2, .ref 39] (HP s o) (some (.int 2)) (HP s o) := by
  refine AMW.of hu (lv := [some (.ref 0), some (.int a0), some (.int a1), some (.int a2), some (.ref 39), none]) (by decide) rfl (Nat.le_of_ble_eq_true rfl) rfl ?_
  intro Γ eu eN C TB T
  subst eu
  have C : Cok Γ cL_place RL (some .int) 7 1 6 := C
  refine A_aload C dL_place_0 rfl (pc' := 2) rfl ?_
  refine A_iconst C (x := 0) dL_place_2 (by decide) (pc' := 3) rfl ?_
  refine A_aload_n C dL_place_3 rfl (pc' := 4) rfl ?_
  refine A_iload_n C dL_place_4 rfl (pc' := 5) rfl ?_
  refine A_iload_n C dL_place_5 rfl (pc' := 6) rfl ?_
  refine A_iload_n C dL_place_6 rfl (pc' := 7) rfl ?_
  refine A_callVXt C (code := 2) (av := [.int a0, .int a1, .int a2]) (rest := [.int (0 : Int32), .ref 39]) (k2 := 1) (n2 := 6) (F_X5_place_ok hu hF) mk_X5_place lm_L_25 wi_X5_place wv_X5_place (HPg_0 s o) rfl rfl rfl rfl ⟨by decide, by decide⟩ (Nat.le_of_ble_eq_true rfl) dL_place_7 rfl rfl ?_
  refine A_catch C TB [⟨0, 12, 15, 13⟩] ⟨0, 12, 19, 15⟩ [] rfl (fun z hz => by rw [List.mem_singleton] at hz; subst hz; exact ⟨by decide, "java/lang/IllegalArgumentException", lc_L_13, nc_2_1⟩) (by decide) (by decide) lc_L_15 wc_2 rfl rfl rfl ?_
  refine A_astore C (lv' := [some (.ref 0), some (.int a0), some (.int a1), some (.int a2), some (.ref 39), some (.ref EXI)]) dL_place_19 rfl eN rfl rfl (pc' := 21) rfl ?_
  refine A_iconst C (x := 2) dL_place_21 (by decide) (pc' := 22) rfl ?_
  exact A_iret C T (Nat.le_refl _) (Nat.le_refl _) dL_place_22
set_option maxHeartbeats 4000000 in
set_option maxRecDepth 100000 in
theorem H_drop_r {u : Uv} (hu : Un u) {a0 a1 : Int32} {s : Sg} {o : Nat → Int64} {q : (Int32 × Sg)} (hF : F_X5_drop a0 a1 s = some (.inl q)) : AMW u (yL_drop, cL_drop, 5, (some .int)) hhL_drop 7 [.ref 0, .int a0, .int a1, .ref 39] (HP s o) (some (.int 0)) (HP q.2 (vp_updL o 0 q.1.toInt64)) := by
  refine AMW.of hu (lv := [some (.ref 0), some (.int a0), some (.int a1), some (.ref 39), none]) (by decide) rfl (Nat.le_of_ble_eq_true rfl) rfl ?_
  intro Γ eu eN C TB T
  subst eu
  have C : Cok Γ cL_drop RL (some .int) 7 1 6 := C
  refine A_aload_n C dL_drop_0 rfl (pc' := 1) rfl ?_
  refine A_iconst C (x := 0) dL_drop_1 (by decide) (pc' := 2) rfl ?_
  refine A_aload_n C dL_drop_2 rfl (pc' := 3) rfl ?_
  refine A_iload_n C dL_drop_3 rfl (pc' := 4) rfl ?_
  refine A_iload_n C dL_drop_4 rfl (pc' := 5) rfl ?_
  refine A_callVXr C (av := [.int a0, .int a1]) (rest := [.int (0 : Int32), .ref 39]) (st2 := [.int q.1, .int (0 : Int32), .ref 39]) (k2 := 1) (n2 := 6) (rv := some (.int q.1)) (h' := HP q.2 o) (F_X5_drop_ok hu hF) mk_X5_drop lm_L_29 wi_X5_drop wv_X5_drop (HPg_0 s o) rfl rfl rfl rfl ⟨by decide, by decide⟩ (Nat.le_of_ble_eq_true rfl) rfl rfl dL_drop_5 rfl rfl rfl (pc' := 8) rfl ?_
  refine A_i2l C dL_drop_8 (pc' := 9) rfl ?_
  refine A_last C (h1 := HP q.2 (vp_updL o 0 q.1.toInt64)) (HPg_39 q.2 o) (ixb_in (by decide)) (by rw [sb_cl0]; exact HPs_39 q.2 o _) dL_drop_9 (pc' := 10) rfl ?_
  refine A_goto C dL_drop_10 (tgt := 21) (by decide) ?_
  refine A_iconst C (x := 0) dL_drop_21 (by decide) (pc' := 22) rfl ?_
  exact A_iret C T (Nat.le_refl _) (Nat.le_refl _) dL_drop_22
set_option maxHeartbeats 4000000 in
set_option maxRecDepth 100000 in
theorem H_drop_t1 {u : Uv} (hu : Un u) {a0 a1 : Int32} {s : Sg} {o : Nat → Int64} (hF : F_X5_drop a0 a1 s = some (.inr 1)) : AMW u (yL_drop, cL_drop, 5, (some .int)) hhL_drop 7 [.ref 0, .int a0, .int a1, .ref 39] (HP s o) (some (.int 1)) (HP s o) := by
  refine AMW.of hu (lv := [some (.ref 0), some (.int a0), some (.int a1), some (.ref 39), none]) (by decide) rfl (Nat.le_of_ble_eq_true rfl) rfl ?_
  intro Γ eu eN C TB T
  subst eu
  have C : Cok Γ cL_drop RL (some .int) 7 1 6 := C
  refine A_aload_n C dL_drop_0 rfl (pc' := 1) rfl ?_
  refine A_iconst C (x := 0) dL_drop_1 (by decide) (pc' := 2) rfl ?_
  refine A_aload_n C dL_drop_2 rfl (pc' := 3) rfl ?_
  refine A_iload_n C dL_drop_3 rfl (pc' := 4) rfl ?_
  refine A_iload_n C dL_drop_4 rfl (pc' := 5) rfl ?_
  refine A_callVXt C (code := 1) (av := [.int a0, .int a1]) (rest := [.int (0 : Int32), .ref 39]) (k2 := 1) (n2 := 6) (F_X5_drop_ok hu hF) mk_X5_drop lm_L_29 wi_X5_drop wv_X5_drop (HPg_0 s o) rfl rfl rfl rfl ⟨by decide, by decide⟩ (Nat.le_of_ble_eq_true rfl) dL_drop_5 rfl rfl ?_
  refine A_catch C TB [] ⟨0, 10, 13, 13⟩ [⟨0, 10, 17, 15⟩] rfl (fun z hz => absurd hz List.not_mem_nil) (by decide) (by decide) lc_L_13 wc_1 rfl rfl rfl ?_
  refine A_astore C (lv' := [some (.ref 0), some (.int a0), some (.int a1), some (.ref 39), some (.ref EXI)]) dL_drop_13 rfl eN rfl rfl (pc' := 15) rfl ?_
  refine A_iconst C (x := 1) dL_drop_15 (by decide) (pc' := 16) rfl ?_
  exact A_iret C T (Nat.le_refl _) (Nat.le_refl _) dL_drop_16
set_option maxHeartbeats 4000000 in
set_option maxRecDepth 100000 in
theorem H_drop_t2 {u : Uv} (hu : Un u) {a0 a1 : Int32} {s : Sg} {o : Nat → Int64} (hF : F_X5_drop a0 a1 s = some (.inr 2)) : AMW u (yL_drop, cL_drop, 5, (some .int)) hhL_drop 7 [.ref 0, .int a0, .int a1, .ref 39] (HP s o) (some (.int 2)) (HP s o) := by
  refine AMW.of hu (lv := [some (.ref 0), some (.int a0), some (.int a1), some (.ref 39), none]) (by decide) rfl (Nat.le_of_ble_eq_true rfl) rfl ?_
  intro Γ eu eN C TB T
  subst eu
  have C : Cok Γ cL_drop RL (some .int) 7 1 6 := C
  refine A_aload_n C dL_drop_0 rfl (pc' := 1) rfl ?_
  refine A_iconst C (x := 0) dL_drop_1 (by decide) (pc' := 2) rfl ?_
  refine A_aload_n C dL_drop_2 rfl (pc' := 3) rfl ?_
  refine A_iload_n C dL_drop_3 rfl (pc' := 4) rfl ?_
  refine A_iload_n C dL_drop_4 rfl (pc' := 5) rfl ?_
  refine A_callVXt C (code := 2) (av := [.int a0, .int a1]) (rest := [.int (0 : Int32), .ref 39]) (k2 := 1) (n2 := 6) (F_X5_drop_ok hu hF) mk_X5_drop lm_L_29 wi_X5_drop wv_X5_drop (HPg_0 s o) rfl rfl rfl rfl ⟨by decide, by decide⟩ (Nat.le_of_ble_eq_true rfl) dL_drop_5 rfl rfl ?_
  refine A_catch C TB [⟨0, 10, 13, 13⟩] ⟨0, 10, 17, 15⟩ [] rfl (fun z hz => by rw [List.mem_singleton] at hz; subst hz; exact ⟨by decide, "java/lang/IllegalArgumentException", lc_L_13, nc_2_1⟩) (by decide) (by decide) lc_L_15 wc_2 rfl rfl rfl ?_
  refine A_astore C (lv' := [some (.ref 0), some (.int a0), some (.int a1), some (.ref 39), some (.ref EXI)]) dL_drop_17 rfl eN rfl rfl (pc' := 19) rfl ?_
  refine A_iconst C (x := 2) dL_drop_19 (by decide) (pc' := 20) rfl ?_
  exact A_iret C T (Nat.le_refl _) (Nat.le_refl _) dL_drop_20
set_option maxHeartbeats 4000000 in
set_option maxRecDepth 100000 in
theorem H_fill_r {u : Uv} (hu : Un u) {a0 : Int32} {s : Sg} {o : Nat → Int64} {q : (Int32 × Sg)} (hF : F_X5_fill a0 s = some (.inl q)) : AMW u (yL_fill, cL_fill, 4, (some .int)) hhL_fill 7 [.ref 0, .int a0, .ref 39] (HP s o) (some (.int 0)) (HP q.2 (vp_updL o 0 q.1.toInt64)) := by
  refine AMW.of hu (lv := [some (.ref 0), some (.int a0), some (.ref 39), none]) (by decide) rfl (Nat.le_of_ble_eq_true rfl) rfl ?_
  intro Γ eu eN C TB T
  subst eu
  have C : Cok Γ cL_fill RL (some .int) 7 1 6 := C
  refine A_aload_n C dL_fill_0 rfl (pc' := 1) rfl ?_
  refine A_iconst C (x := 0) dL_fill_1 (by decide) (pc' := 2) rfl ?_
  refine A_aload_n C dL_fill_2 rfl (pc' := 3) rfl ?_
  refine A_iload_n C dL_fill_3 rfl (pc' := 4) rfl ?_
  refine A_callVXr C (av := [.int a0]) (rest := [.int (0 : Int32), .ref 39]) (st2 := [.int q.1, .int (0 : Int32), .ref 39]) (k2 := 1) (n2 := 6) (rv := some (.int q.1)) (h' := HP q.2 o) (F_X5_fill_ok hu hF) mk_X5_fill lm_L_33 wi_X5_fill wv_X5_fill (HPg_0 s o) rfl rfl rfl rfl ⟨by decide, by decide⟩ (Nat.le_of_ble_eq_true rfl) rfl rfl dL_fill_4 rfl rfl rfl (pc' := 7) rfl ?_
  refine A_i2l C dL_fill_7 (pc' := 8) rfl ?_
  refine A_last C (h1 := HP q.2 (vp_updL o 0 q.1.toInt64)) (HPg_39 q.2 o) (ixb_in (by decide)) (by rw [sb_cl0]; exact HPs_39 q.2 o _) dL_fill_8 (pc' := 9) rfl ?_
  refine A_goto C dL_fill_9 (tgt := 15) (by decide) ?_
  refine A_iconst C (x := 0) dL_fill_15 (by decide) (pc' := 16) rfl ?_
  exact A_iret C T (Nat.le_refl _) (Nat.le_refl _) dL_fill_16
set_option maxHeartbeats 4000000 in
set_option maxRecDepth 100000 in
theorem H_fill_t1 {u : Uv} (hu : Un u) {a0 : Int32} {s : Sg} {o : Nat → Int64} (hF : F_X5_fill a0 s = some (.inr 1)) : AMW u (yL_fill, cL_fill, 4, (some .int)) hhL_fill 7 [.ref 0, .int a0, .ref 39] (HP s o) (some (.int 1)) (HP s o) := by
  refine AMW.of hu (lv := [some (.ref 0), some (.int a0), some (.ref 39), none]) (by decide) rfl (Nat.le_of_ble_eq_true rfl) rfl ?_
  intro Γ eu eN C TB T
  subst eu
  have C : Cok Γ cL_fill RL (some .int) 7 1 6 := C
  refine A_aload_n C dL_fill_0 rfl (pc' := 1) rfl ?_
  refine A_iconst C (x := 0) dL_fill_1 (by decide) (pc' := 2) rfl ?_
  refine A_aload_n C dL_fill_2 rfl (pc' := 3) rfl ?_
  refine A_iload_n C dL_fill_3 rfl (pc' := 4) rfl ?_
  refine A_callVXt C (code := 1) (av := [.int a0]) (rest := [.int (0 : Int32), .ref 39]) (k2 := 1) (n2 := 6) (F_X5_fill_ok hu hF) mk_X5_fill lm_L_33 wi_X5_fill wv_X5_fill (HPg_0 s o) rfl rfl rfl rfl ⟨by decide, by decide⟩ (Nat.le_of_ble_eq_true rfl) dL_fill_4 rfl rfl ?_
  refine A_catch C TB [] ⟨0, 9, 12, 13⟩ [] rfl (fun z hz => absurd hz List.not_mem_nil) (by decide) (by decide) lc_L_13 wc_1 rfl rfl rfl ?_
  refine A_astore_n C (lv' := [some (.ref 0), some (.int a0), some (.ref 39), some (.ref EXI)]) dL_fill_12 rfl eN rfl rfl (pc' := 13) rfl ?_
  refine A_iconst C (x := 1) dL_fill_13 (by decide) (pc' := 14) rfl ?_
  exact A_iret C T (Nat.le_refl _) (Nat.le_refl _) dL_fill_14
set_option maxHeartbeats 4000000 in
set_option maxRecDepth 100000 in
theorem H_period_r {u : Uv} (hu : Un u) {a0 a1 : Int32} {s : Sg} {o : Nat → Int64} {q : Int32} (hF : F_X5_period a0 a1 s = some (.inl q)) : AMW u (yL_period, cL_period, 5, (some .int)) hhL_period 7 [.ref 0, .int a0, .int a1, .ref 39] (HP s o) (some (.int 0)) (HP s (vp_updL o 0 q.toInt64)) := by
  refine AMW.of hu (lv := [some (.ref 0), some (.int a0), some (.int a1), some (.ref 39), none]) (by decide) rfl (Nat.le_of_ble_eq_true rfl) rfl ?_
  intro Γ eu eN C TB T
  subst eu
  have C : Cok Γ cL_period RL (some .int) 7 1 6 := C
  refine A_aload_n C dL_period_0 rfl (pc' := 1) rfl ?_
  refine A_iconst C (x := 0) dL_period_1 (by decide) (pc' := 2) rfl ?_
  refine A_aload_n C dL_period_2 rfl (pc' := 3) rfl ?_
  refine A_iload_n C dL_period_3 rfl (pc' := 4) rfl ?_
  refine A_iload_n C dL_period_4 rfl (pc' := 5) rfl ?_
  refine A_callVXr C (av := [.int a0, .int a1]) (rest := [.int (0 : Int32), .ref 39]) (st2 := [.int q, .int (0 : Int32), .ref 39]) (k2 := 1) (n2 := 6) (rv := some (.int q)) (h' := HP s o) (F_X5_period_ok hu hF) mk_X5_period lm_L_37 wi_X5_period wv_X5_period (HPg_0 s o) rfl rfl rfl rfl ⟨by decide, by decide⟩ (Nat.le_of_ble_eq_true rfl) rfl rfl dL_period_5 rfl rfl rfl (pc' := 8) rfl ?_
  refine A_i2l C dL_period_8 (pc' := 9) rfl ?_
  refine A_last C (h1 := HP s (vp_updL o 0 q.toInt64)) (HPg_39 s o) (ixb_in (by decide)) (by rw [sb_cl0]; exact HPs_39 s o _) dL_period_9 (pc' := 10) rfl ?_
  refine A_goto C dL_period_10 (tgt := 17) (by decide) ?_
  refine A_iconst C (x := 0) dL_period_17 (by decide) (pc' := 18) rfl ?_
  exact A_iret C T (Nat.le_refl _) (Nat.le_refl _) dL_period_18
set_option maxHeartbeats 4000000 in
set_option maxRecDepth 100000 in
theorem H_period_t1 {u : Uv} (hu : Un u) {a0 a1 : Int32} {s : Sg} {o : Nat → Int64} (hF : F_X5_period a0 a1 s = some (.inr 1)) : AMW u (yL_period, cL_period, 5, (some .int)) hhL_period 7 [.ref 0, .int a0, .int a1, .ref 39] (HP s o) (some (.int 1)) (HP s o) := by
  refine AMW.of hu (lv := [some (.ref 0), some (.int a0), some (.int a1), some (.ref 39), none]) (by decide) rfl (Nat.le_of_ble_eq_true rfl) rfl ?_
  intro Γ eu eN C TB T
  subst eu
  have C : Cok Γ cL_period RL (some .int) 7 1 6 := C
  refine A_aload_n C dL_period_0 rfl (pc' := 1) rfl ?_
  refine A_iconst C (x := 0) dL_period_1 (by decide) (pc' := 2) rfl ?_
  refine A_aload_n C dL_period_2 rfl (pc' := 3) rfl ?_
  refine A_iload_n C dL_period_3 rfl (pc' := 4) rfl ?_
  refine A_iload_n C dL_period_4 rfl (pc' := 5) rfl ?_
  refine A_callVXt C (code := 1) (av := [.int a0, .int a1]) (rest := [.int (0 : Int32), .ref 39]) (k2 := 1) (n2 := 6) (F_X5_period_ok hu hF) mk_X5_period lm_L_37 wi_X5_period wv_X5_period (HPg_0 s o) rfl rfl rfl rfl ⟨by decide, by decide⟩ (Nat.le_of_ble_eq_true rfl) dL_period_5 rfl rfl ?_
  refine A_catch C TB [] ⟨0, 10, 13, 13⟩ [] rfl (fun z hz => absurd hz List.not_mem_nil) (by decide) (by decide) lc_L_13 wc_1 rfl rfl rfl ?_
  refine A_astore C (lv' := [some (.ref 0), some (.int a0), some (.int a1), some (.ref 39), some (.ref EXI)]) dL_period_13 rfl eN rfl rfl (pc' := 15) rfl ?_
  refine A_iconst C (x := 1) dL_period_15 (by decide) (pc' := 16) rfl ?_
  exact A_iret C T (Nat.le_refl _) (Nat.le_refl _) dL_period_16
set_option maxHeartbeats 4000000 in
set_option maxRecDepth 100000 in
theorem H_roomOf_r {u : Uv} (hu : Un u) {a0 a1 : Int32} {s : Sg} {o : Nat → Int64} {q : Int32} (hF : F_X5_roomOf a0 a1 s = some (.inl q)) : AMW u (yL_roomOf, cL_roomOf, 5, (some .int)) hhL_roomOf 7 [.ref 0, .int a0, .int a1, .ref 39] (HP s o) (some (.int 0)) (HP s (vp_updL o 0 q.toInt64)) := by
  refine AMW.of hu (lv := [some (.ref 0), some (.int a0), some (.int a1), some (.ref 39), none]) (by decide) rfl (Nat.le_of_ble_eq_true rfl) rfl ?_
  intro Γ eu eN C TB T
  subst eu
  have C : Cok Γ cL_roomOf RL (some .int) 7 1 6 := C
  refine A_aload_n C dL_roomOf_0 rfl (pc' := 1) rfl ?_
  refine A_iconst C (x := 0) dL_roomOf_1 (by decide) (pc' := 2) rfl ?_
  refine A_aload_n C dL_roomOf_2 rfl (pc' := 3) rfl ?_
  refine A_iload_n C dL_roomOf_3 rfl (pc' := 4) rfl ?_
  refine A_iload_n C dL_roomOf_4 rfl (pc' := 5) rfl ?_
  refine A_callVXr C (av := [.int a0, .int a1]) (rest := [.int (0 : Int32), .ref 39]) (st2 := [.int q, .int (0 : Int32), .ref 39]) (k2 := 1) (n2 := 6) (rv := some (.int q)) (h' := HP s o) (F_X5_roomOf_ok hu hF) mk_X5_roomOf lm_L_40 wi_X5_roomOf wv_X5_roomOf (HPg_0 s o) rfl rfl rfl rfl ⟨by decide, by decide⟩ (Nat.le_of_ble_eq_true rfl) rfl rfl dL_roomOf_5 rfl rfl rfl (pc' := 8) rfl ?_
  refine A_i2l C dL_roomOf_8 (pc' := 9) rfl ?_
  refine A_last C (h1 := HP s (vp_updL o 0 q.toInt64)) (HPg_39 s o) (ixb_in (by decide)) (by rw [sb_cl0]; exact HPs_39 s o _) dL_roomOf_9 (pc' := 10) rfl ?_
  refine A_goto C dL_roomOf_10 (tgt := 17) (by decide) ?_
  refine A_iconst C (x := 0) dL_roomOf_17 (by decide) (pc' := 18) rfl ?_
  exact A_iret C T (Nat.le_refl _) (Nat.le_refl _) dL_roomOf_18
set_option maxHeartbeats 4000000 in
set_option maxRecDepth 100000 in
theorem H_roomOf_t1 {u : Uv} (hu : Un u) {a0 a1 : Int32} {s : Sg} {o : Nat → Int64} (hF : F_X5_roomOf a0 a1 s = some (.inr 1)) : AMW u (yL_roomOf, cL_roomOf, 5, (some .int)) hhL_roomOf 7 [.ref 0, .int a0, .int a1, .ref 39] (HP s o) (some (.int 1)) (HP s o) := by
  refine AMW.of hu (lv := [some (.ref 0), some (.int a0), some (.int a1), some (.ref 39), none]) (by decide) rfl (Nat.le_of_ble_eq_true rfl) rfl ?_
  intro Γ eu eN C TB T
  subst eu
  have C : Cok Γ cL_roomOf RL (some .int) 7 1 6 := C
  refine A_aload_n C dL_roomOf_0 rfl (pc' := 1) rfl ?_
  refine A_iconst C (x := 0) dL_roomOf_1 (by decide) (pc' := 2) rfl ?_
  refine A_aload_n C dL_roomOf_2 rfl (pc' := 3) rfl ?_
  refine A_iload_n C dL_roomOf_3 rfl (pc' := 4) rfl ?_
  refine A_iload_n C dL_roomOf_4 rfl (pc' := 5) rfl ?_
  refine A_callVXt C (code := 1) (av := [.int a0, .int a1]) (rest := [.int (0 : Int32), .ref 39]) (k2 := 1) (n2 := 6) (F_X5_roomOf_ok hu hF) mk_X5_roomOf lm_L_40 wi_X5_roomOf wv_X5_roomOf (HPg_0 s o) rfl rfl rfl rfl ⟨by decide, by decide⟩ (Nat.le_of_ble_eq_true rfl) dL_roomOf_5 rfl rfl ?_
  refine A_catch C TB [] ⟨0, 10, 13, 13⟩ [] rfl (fun z hz => absurd hz List.not_mem_nil) (by decide) (by decide) lc_L_13 wc_1 rfl rfl rfl ?_
  refine A_astore C (lv' := [some (.ref 0), some (.int a0), some (.int a1), some (.ref 39), some (.ref EXI)]) dL_roomOf_13 rfl eN rfl rfl (pc' := 15) rfl ?_
  refine A_iconst C (x := 1) dL_roomOf_15 (by decide) (pc' := 16) rfl ?_
  exact A_iret C T (Nat.le_refl _) (Nat.le_refl _) dL_roomOf_16
set_option maxHeartbeats 4000000 in
set_option maxRecDepth 100000 in
theorem H_improve_r {u : Uv} (hu : Un u) {a0 : Int32} {s : Sg} {o : Nat → Int64} {q : (Int32 × Sg)} (hF : F_X5_improve a0 s = some (.inl q)) : AMW u (yL_improve, cL_improve, 4, (some .int)) hhL_improve 7 [.ref 0, .int a0, .ref 39] (HP s o) (some (.int 0)) (HP q.2 (vp_updL o 0 q.1.toInt64)) := by
  refine AMW.of hu (lv := [some (.ref 0), some (.int a0), some (.ref 39), none]) (by decide) rfl (Nat.le_of_ble_eq_true rfl) rfl ?_
  intro Γ eu eN C TB T
  subst eu
  have C : Cok Γ cL_improve RL (some .int) 7 1 6 := C
  refine A_aload_n C dL_improve_0 rfl (pc' := 1) rfl ?_
  refine A_iconst C (x := 0) dL_improve_1 (by decide) (pc' := 2) rfl ?_
  refine A_aload_n C dL_improve_2 rfl (pc' := 3) rfl ?_
  refine A_iload_n C dL_improve_3 rfl (pc' := 4) rfl ?_
  refine A_callVXr C (av := [.int a0]) (rest := [.int (0 : Int32), .ref 39]) (st2 := [.int q.1, .int (0 : Int32), .ref 39]) (k2 := 1) (n2 := 6) (rv := some (.int q.1)) (h' := HP q.2 o) (F_X5_improve_ok hu hF) mk_X5_improve lm_L_43 wi_X5_improve wv_X5_improve (HPg_0 s o) rfl rfl rfl rfl ⟨by decide, by decide⟩ (Nat.le_of_ble_eq_true rfl) rfl rfl dL_improve_4 rfl rfl rfl (pc' := 7) rfl ?_
  refine A_i2l C dL_improve_7 (pc' := 8) rfl ?_
  refine A_last C (h1 := HP q.2 (vp_updL o 0 q.1.toInt64)) (HPg_39 q.2 o) (ixb_in (by decide)) (by rw [sb_cl0]; exact HPs_39 q.2 o _) dL_improve_8 (pc' := 9) rfl ?_
  refine A_goto C dL_improve_9 (tgt := 15) (by decide) ?_
  refine A_iconst C (x := 0) dL_improve_15 (by decide) (pc' := 16) rfl ?_
  exact A_iret C T (Nat.le_refl _) (Nat.le_refl _) dL_improve_16
set_option maxHeartbeats 4000000 in
set_option maxRecDepth 100000 in
theorem H_improve_t1 {u : Uv} (hu : Un u) {a0 : Int32} {s : Sg} {o : Nat → Int64} (hF : F_X5_improve a0 s = some (.inr 1)) : AMW u (yL_improve, cL_improve, 4, (some .int)) hhL_improve 7 [.ref 0, .int a0, .ref 39] (HP s o) (some (.int 1)) (HP s o) := by
  refine AMW.of hu (lv := [some (.ref 0), some (.int a0), some (.ref 39), none]) (by decide) rfl (Nat.le_of_ble_eq_true rfl) rfl ?_
  intro Γ eu eN C TB T
  subst eu
  have C : Cok Γ cL_improve RL (some .int) 7 1 6 := C
  refine A_aload_n C dL_improve_0 rfl (pc' := 1) rfl ?_
  refine A_iconst C (x := 0) dL_improve_1 (by decide) (pc' := 2) rfl ?_
  refine A_aload_n C dL_improve_2 rfl (pc' := 3) rfl ?_
  refine A_iload_n C dL_improve_3 rfl (pc' := 4) rfl ?_
  refine A_callVXt C (code := 1) (av := [.int a0]) (rest := [.int (0 : Int32), .ref 39]) (k2 := 1) (n2 := 6) (F_X5_improve_ok hu hF) mk_X5_improve lm_L_43 wi_X5_improve wv_X5_improve (HPg_0 s o) rfl rfl rfl rfl ⟨by decide, by decide⟩ (Nat.le_of_ble_eq_true rfl) dL_improve_4 rfl rfl ?_
  refine A_catch C TB [] ⟨0, 9, 12, 13⟩ [] rfl (fun z hz => absurd hz List.not_mem_nil) (by decide) (by decide) lc_L_13 wc_1 rfl rfl rfl ?_
  refine A_astore_n C (lv' := [some (.ref 0), some (.int a0), some (.ref 39), some (.ref EXI)]) dL_improve_12 rfl eN rfl rfl (pc' := 13) rfl ?_
  refine A_iconst C (x := 1) dL_improve_13 (by decide) (pc' := 14) rfl ?_
  exact A_iret C T (Nat.le_refl _) (Nat.le_refl _) dL_improve_14
set_option maxHeartbeats 4000000 in
set_option maxRecDepth 100000 in
theorem H_absent_r {u : Uv} (hu : Un u) {a0 a1 : Int32} {s : Sg} {o : Nat → Int64} {q : (Int32 × Sg)} (hF : F_X5_absent a0 a1 s = some (.inl q)) : AMW u (yL_absent, cL_absent, 5, (some .int)) hhL_absent 7 [.ref 0, .int a0, .int a1, .ref 39] (HP s o) (some (.int 0)) (HP q.2 (vp_updL o 0 q.1.toInt64)) := by
  refine AMW.of hu (lv := [some (.ref 0), some (.int a0), some (.int a1), some (.ref 39), none]) (by decide) rfl (Nat.le_of_ble_eq_true rfl) rfl ?_
  intro Γ eu eN C TB T
  subst eu
  have C : Cok Γ cL_absent RL (some .int) 7 1 6 := C
  refine A_aload_n C dL_absent_0 rfl (pc' := 1) rfl ?_
  refine A_iconst C (x := 0) dL_absent_1 (by decide) (pc' := 2) rfl ?_
  refine A_aload_n C dL_absent_2 rfl (pc' := 3) rfl ?_
  refine A_iload_n C dL_absent_3 rfl (pc' := 4) rfl ?_
  refine A_iload_n C dL_absent_4 rfl (pc' := 5) rfl ?_
  refine A_callVXr C (av := [.int a0, .int a1]) (rest := [.int (0 : Int32), .ref 39]) (st2 := [.int q.1, .int (0 : Int32), .ref 39]) (k2 := 1) (n2 := 6) (rv := some (.int q.1)) (h' := HP q.2 o) (F_X5_absent_ok hu hF) mk_X5_absent lm_L_46 wi_X5_absent wv_X5_absent (HPg_0 s o) rfl rfl rfl rfl ⟨by decide, by decide⟩ (Nat.le_of_ble_eq_true rfl) rfl rfl dL_absent_5 rfl rfl rfl (pc' := 8) rfl ?_
  refine A_i2l C dL_absent_8 (pc' := 9) rfl ?_
  refine A_last C (h1 := HP q.2 (vp_updL o 0 q.1.toInt64)) (HPg_39 q.2 o) (ixb_in (by decide)) (by rw [sb_cl0]; exact HPs_39 q.2 o _) dL_absent_9 (pc' := 10) rfl ?_
  refine A_goto C dL_absent_10 (tgt := 17) (by decide) ?_
  refine A_iconst C (x := 0) dL_absent_17 (by decide) (pc' := 18) rfl ?_
  exact A_iret C T (Nat.le_refl _) (Nat.le_refl _) dL_absent_18
set_option maxHeartbeats 4000000 in
set_option maxRecDepth 100000 in
theorem H_absent_t1 {u : Uv} (hu : Un u) {a0 a1 : Int32} {s : Sg} {o : Nat → Int64} (hF : F_X5_absent a0 a1 s = some (.inr 1)) : AMW u (yL_absent, cL_absent, 5, (some .int)) hhL_absent 7 [.ref 0, .int a0, .int a1, .ref 39] (HP s o) (some (.int 1)) (HP s o) := by
  refine AMW.of hu (lv := [some (.ref 0), some (.int a0), some (.int a1), some (.ref 39), none]) (by decide) rfl (Nat.le_of_ble_eq_true rfl) rfl ?_
  intro Γ eu eN C TB T
  subst eu
  have C : Cok Γ cL_absent RL (some .int) 7 1 6 := C
  refine A_aload_n C dL_absent_0 rfl (pc' := 1) rfl ?_
  refine A_iconst C (x := 0) dL_absent_1 (by decide) (pc' := 2) rfl ?_
  refine A_aload_n C dL_absent_2 rfl (pc' := 3) rfl ?_
  refine A_iload_n C dL_absent_3 rfl (pc' := 4) rfl ?_
  refine A_iload_n C dL_absent_4 rfl (pc' := 5) rfl ?_
  refine A_callVXt C (code := 1) (av := [.int a0, .int a1]) (rest := [.int (0 : Int32), .ref 39]) (k2 := 1) (n2 := 6) (F_X5_absent_ok hu hF) mk_X5_absent lm_L_46 wi_X5_absent wv_X5_absent (HPg_0 s o) rfl rfl rfl rfl ⟨by decide, by decide⟩ (Nat.le_of_ble_eq_true rfl) dL_absent_5 rfl rfl ?_
  refine A_catch C TB [] ⟨0, 10, 13, 13⟩ [] rfl (fun z hz => absurd hz List.not_mem_nil) (by decide) (by decide) lc_L_13 wc_1 rfl rfl rfl ?_
  refine A_astore C (lv' := [some (.ref 0), some (.int a0), some (.int a1), some (.ref 39), some (.ref EXI)]) dL_absent_13 rfl eN rfl rfl (pc' := 15) rfl ?_
  refine A_iconst C (x := 1) dL_absent_15 (by decide) (pc' := 16) rfl ?_
  exact A_iret C T (Nat.le_refl _) (Nat.le_refl _) dL_absent_16
set_option maxHeartbeats 4000000 in
set_option maxRecDepth 100000 in
theorem H_substitute_r {u : Uv} (hu : Un u) {a0 : Int32} {s : Sg} {o : Nat → Int64} {q : Int32} (hF : F_X5_substitute a0 s = some (.inl q)) : AMW u (yL_substitute, cL_substitute, 4, (some .int)) hhL_substitute 7 [.ref 0, .int a0, .ref 39] (HP s o) (some (.int 0)) (HP s (vp_updL o 0 q.toInt64)) := by
  refine AMW.of hu (lv := [some (.ref 0), some (.int a0), some (.ref 39), none]) (by decide) rfl (Nat.le_of_ble_eq_true rfl) rfl ?_
  intro Γ eu eN C TB T
  subst eu
  have C : Cok Γ cL_substitute RL (some .int) 7 1 6 := C
  refine A_aload_n C dL_substitute_0 rfl (pc' := 1) rfl ?_
  refine A_iconst C (x := 0) dL_substitute_1 (by decide) (pc' := 2) rfl ?_
  refine A_aload_n C dL_substitute_2 rfl (pc' := 3) rfl ?_
  refine A_iload_n C dL_substitute_3 rfl (pc' := 4) rfl ?_
  refine A_callVXr C (av := [.int a0]) (rest := [.int (0 : Int32), .ref 39]) (st2 := [.int q, .int (0 : Int32), .ref 39]) (k2 := 1) (n2 := 6) (rv := some (.int q)) (h' := HP s o) (F_X5_substitute_ok hu hF) mk_X5_substitute lm_L_49 wi_X5_substitute wv_X5_substitute (HPg_0 s o) rfl rfl rfl rfl ⟨by decide, by decide⟩ (Nat.le_of_ble_eq_true rfl) rfl rfl dL_substitute_4 rfl rfl rfl (pc' := 7) rfl ?_
  refine A_i2l C dL_substitute_7 (pc' := 8) rfl ?_
  refine A_last C (h1 := HP s (vp_updL o 0 q.toInt64)) (HPg_39 s o) (ixb_in (by decide)) (by rw [sb_cl0]; exact HPs_39 s o _) dL_substitute_8 (pc' := 9) rfl ?_
  refine A_goto C dL_substitute_9 (tgt := 15) (by decide) ?_
  refine A_iconst C (x := 0) dL_substitute_15 (by decide) (pc' := 16) rfl ?_
  exact A_iret C T (Nat.le_refl _) (Nat.le_refl _) dL_substitute_16
set_option maxHeartbeats 4000000 in
set_option maxRecDepth 100000 in
theorem H_substitute_t3 {u : Uv} (hu : Un u) {a0 : Int32} {s : Sg} {o : Nat → Int64} (hF : F_X5_substitute a0 s = some (.inr 3)) : AMW u (yL_substitute, cL_substitute, 4, (some .int)) hhL_substitute 7 [.ref 0, .int a0, .ref 39] (HP s o) (some (.int 1)) (HP s o) := by
  refine AMW.of hu (lv := [some (.ref 0), some (.int a0), some (.ref 39), none]) (by decide) rfl (Nat.le_of_ble_eq_true rfl) rfl ?_
  intro Γ eu eN C TB T
  subst eu
  have C : Cok Γ cL_substitute RL (some .int) 7 1 6 := C
  refine A_aload_n C dL_substitute_0 rfl (pc' := 1) rfl ?_
  refine A_iconst C (x := 0) dL_substitute_1 (by decide) (pc' := 2) rfl ?_
  refine A_aload_n C dL_substitute_2 rfl (pc' := 3) rfl ?_
  refine A_iload_n C dL_substitute_3 rfl (pc' := 4) rfl ?_
  refine A_callVXt C (code := 3) (av := [.int a0]) (rest := [.int (0 : Int32), .ref 39]) (k2 := 1) (n2 := 6) (F_X5_substitute_ok hu hF) mk_X5_substitute lm_L_49 wi_X5_substitute wv_X5_substitute (HPg_0 s o) rfl rfl rfl rfl ⟨by decide, by decide⟩ (Nat.le_of_ble_eq_true rfl) dL_substitute_4 rfl rfl ?_
  refine A_catch C TB [] ⟨0, 9, 12, 52⟩ [] rfl (fun z hz => absurd hz List.not_mem_nil) (by decide) (by decide) lc_L_52 wc_3 rfl rfl rfl ?_
  refine A_astore_n C (lv' := [some (.ref 0), some (.int a0), some (.ref 39), some (.ref EXI)]) dL_substitute_12 rfl eN rfl rfl (pc' := 13) rfl ?_
  refine A_iconst C (x := 1) dL_substitute_13 (by decide) (pc' := 14) rfl ?_
  exact A_iret C T (Nat.le_refl _) (Nat.le_refl _) dL_substitute_14
set_option maxHeartbeats 4000000 in
set_option maxRecDepth 100000 in
theorem H_undo_r {u : Uv} (hu : Un u) {s : Sg} {o : Nat → Int64} {q : (Int32 × Sg)} (hF : F_X5_undo  s = some (.inl q)) : AMW u (yL_undo, cL_undo, 3, (some .int)) hhL_undo 7 [.ref 0, .ref 39] (HP s o) (some (.int 0)) (HP q.2 (vp_updL o 0 q.1.toInt64)) := by
  refine AMW.of hu (lv := [some (.ref 0), some (.ref 39), none]) (by decide) rfl (Nat.le_of_ble_eq_true rfl) rfl ?_
  intro Γ eu eN C TB T
  subst eu
  have C : Cok Γ cL_undo RL (some .int) 7 1 6 := C
  refine A_aload_n C dL_undo_0 rfl (pc' := 1) rfl ?_
  refine A_iconst C (x := 0) dL_undo_1 (by decide) (pc' := 2) rfl ?_
  refine A_aload_n C dL_undo_2 rfl (pc' := 3) rfl ?_
  refine A_callVXr C (av := []) (rest := [.int (0 : Int32), .ref 39]) (st2 := [.int q.1, .int (0 : Int32), .ref 39]) (k2 := 1) (n2 := 6) (rv := some (.int q.1)) (h' := HP q.2 o) (F_X5_undo_ok hu hF) mk_X5_undo lm_L_54 wi_X5_undo wv_X5_undo (HPg_0 s o) rfl rfl rfl rfl ⟨by decide, by decide⟩ (Nat.le_of_ble_eq_true rfl) rfl rfl dL_undo_3 rfl rfl rfl (pc' := 6) rfl ?_
  refine A_i2l C dL_undo_6 (pc' := 7) rfl ?_
  refine A_last C (h1 := HP q.2 (vp_updL o 0 q.1.toInt64)) (HPg_39 q.2 o) (ixb_in (by decide)) (by rw [sb_cl0]; exact HPs_39 q.2 o _) dL_undo_7 (pc' := 8) rfl ?_
  refine A_goto C dL_undo_8 (tgt := 14) (by decide) ?_
  refine A_iconst C (x := 0) dL_undo_14 (by decide) (pc' := 15) rfl ?_
  exact A_iret C T (Nat.le_refl _) (Nat.le_refl _) dL_undo_15
set_option maxHeartbeats 4000000 in
set_option maxRecDepth 100000 in
theorem H_undo_t2 {u : Uv} (hu : Un u) {s : Sg} {o : Nat → Int64} (hF : F_X5_undo  s = some (.inr 2)) : AMW u (yL_undo, cL_undo, 3, (some .int)) hhL_undo 7 [.ref 0, .ref 39] (HP s o) (some (.int 1)) (HP s o) := by
  refine AMW.of hu (lv := [some (.ref 0), some (.ref 39), none]) (by decide) rfl (Nat.le_of_ble_eq_true rfl) rfl ?_
  intro Γ eu eN C TB T
  subst eu
  have C : Cok Γ cL_undo RL (some .int) 7 1 6 := C
  refine A_aload_n C dL_undo_0 rfl (pc' := 1) rfl ?_
  refine A_iconst C (x := 0) dL_undo_1 (by decide) (pc' := 2) rfl ?_
  refine A_aload_n C dL_undo_2 rfl (pc' := 3) rfl ?_
  refine A_callVXt C (code := 2) (av := []) (rest := [.int (0 : Int32), .ref 39]) (k2 := 1) (n2 := 6) (F_X5_undo_ok hu hF) mk_X5_undo lm_L_54 wi_X5_undo wv_X5_undo (HPg_0 s o) rfl rfl rfl rfl ⟨by decide, by decide⟩ (Nat.le_of_ble_eq_true rfl) dL_undo_3 rfl rfl ?_
  refine A_catch C TB [] ⟨0, 8, 11, 15⟩ [] rfl (fun z hz => absurd hz List.not_mem_nil) (by decide) (by decide) lc_L_15 wc_2 rfl rfl rfl ?_
  refine A_astore_n C (lv' := [some (.ref 0), some (.ref 39), some (.ref EXI)]) dL_undo_11 rfl eN rfl rfl (pc' := 12) rfl ?_
  refine A_iconst C (x := 1) dL_undo_12 (by decide) (pc' := 13) rfl ?_
  exact A_iret C T (Nat.le_refl _) (Nat.le_refl _) dL_undo_13
set_option maxHeartbeats 4000000 in
set_option maxRecDepth 100000 in
theorem H_page_r {u : Uv} (hu : Un u) {a0 a1 a2 : Int32} {s : Sg} {o : Nat → Int64} {q : Int32} (hF : F_X5_page a0 a1 a2 s = some (.inl q)) : AMW u (yL_page, cL_page, 6, (some .int)) hhL_page 7 [.ref 0, .int a0, .int a1, .int a2, .ref 39] (HP s o) (some (.int 0)) (HP s (vp_updL o 0 q.toInt64)) := by
  refine AMW.of hu (lv := [some (.ref 0), some (.int a0), some (.int a1), some (.int a2), some (.ref 39), none]) (by decide) rfl (Nat.le_of_ble_eq_true rfl) rfl ?_
  intro Γ eu eN C TB T
  subst eu
  have C : Cok Γ cL_page RL (some .int) 7 1 6 := C
  refine A_aload C dL_page_0 rfl (pc' := 2) rfl ?_
  refine A_iconst C (x := 0) dL_page_2 (by decide) (pc' := 3) rfl ?_
  refine A_aload_n C dL_page_3 rfl (pc' := 4) rfl ?_
  refine A_iload_n C dL_page_4 rfl (pc' := 5) rfl ?_
  refine A_iload_n C dL_page_5 rfl (pc' := 6) rfl ?_
  refine A_iload_n C dL_page_6 rfl (pc' := 7) rfl ?_
  refine A_callVXr C (av := [.int a0, .int a1, .int a2]) (rest := [.int (0 : Int32), .ref 39]) (st2 := [.int q, .int (0 : Int32), .ref 39]) (k2 := 1) (n2 := 6) (rv := some (.int q)) (h' := HP s o) (F_X5_page_ok hu hF) mk_X5_page lm_L_58 wi_X5_page wv_X5_page (HPg_0 s o) rfl rfl rfl rfl ⟨by decide, by decide⟩ (Nat.le_of_ble_eq_true rfl) rfl rfl dL_page_7 rfl rfl rfl (pc' := 10) rfl ?_
  refine A_i2l C dL_page_10 (pc' := 11) rfl ?_
  refine A_last C (h1 := HP s (vp_updL o 0 q.toInt64)) (HPg_39 s o) (ixb_in (by decide)) (by rw [sb_cl0]; exact HPs_39 s o _) dL_page_11 (pc' := 12) rfl ?_
  refine A_goto C dL_page_12 (tgt := 23) (by decide) ?_
  refine A_iconst C (x := 0) dL_page_23 (by decide) (pc' := 24) rfl ?_
  exact A_iret C T (Nat.le_refl _) (Nat.le_refl _) dL_page_24
set_option maxHeartbeats 4000000 in
set_option maxRecDepth 100000 in
theorem H_page_t1 {u : Uv} (hu : Un u) {a0 a1 a2 : Int32} {s : Sg} {o : Nat → Int64} (hF : F_X5_page a0 a1 a2 s = some (.inr 1)) : AMW u (yL_page, cL_page, 6, (some .int)) hhL_page 7 [.ref 0, .int a0, .int a1, .int a2, .ref 39] (HP s o) (some (.int 1)) (HP s o) := by
  refine AMW.of hu (lv := [some (.ref 0), some (.int a0), some (.int a1), some (.int a2), some (.ref 39), none]) (by decide) rfl (Nat.le_of_ble_eq_true rfl) rfl ?_
  intro Γ eu eN C TB T
  subst eu
  have C : Cok Γ cL_page RL (some .int) 7 1 6 := C
  refine A_aload C dL_page_0 rfl (pc' := 2) rfl ?_
  refine A_iconst C (x := 0) dL_page_2 (by decide) (pc' := 3) rfl ?_
  refine A_aload_n C dL_page_3 rfl (pc' := 4) rfl ?_
  refine A_iload_n C dL_page_4 rfl (pc' := 5) rfl ?_
  refine A_iload_n C dL_page_5 rfl (pc' := 6) rfl ?_
  refine A_iload_n C dL_page_6 rfl (pc' := 7) rfl ?_
  refine A_callVXt C (code := 1) (av := [.int a0, .int a1, .int a2]) (rest := [.int (0 : Int32), .ref 39]) (k2 := 1) (n2 := 6) (F_X5_page_ok hu hF) mk_X5_page lm_L_58 wi_X5_page wv_X5_page (HPg_0 s o) rfl rfl rfl rfl ⟨by decide, by decide⟩ (Nat.le_of_ble_eq_true rfl) dL_page_7 rfl rfl ?_
  refine A_catch C TB [] ⟨0, 12, 15, 13⟩ [⟨0, 12, 19, 52⟩] rfl (fun z hz => absurd hz List.not_mem_nil) (by decide) (by decide) lc_L_13 wc_1 rfl rfl rfl ?_
  refine A_astore C (lv' := [some (.ref 0), some (.int a0), some (.int a1), some (.int a2), some (.ref 39), some (.ref EXI)]) dL_page_15 rfl eN rfl rfl (pc' := 17) rfl ?_
  refine A_iconst C (x := 1) dL_page_17 (by decide) (pc' := 18) rfl ?_
  exact A_iret C T (Nat.le_refl _) (Nat.le_refl _) dL_page_18
set_option maxHeartbeats 4000000 in
set_option maxRecDepth 100000 in
theorem H_page_t3 {u : Uv} (hu : Un u) {a0 a1 a2 : Int32} {s : Sg} {o : Nat → Int64} (hF : F_X5_page a0 a1 a2 s = some (.inr 3)) : AMW u (yL_page, cL_page, 6, (some .int)) hhL_page 7 [.ref 0, .int a0, .int a1, .int a2, .ref 39] (HP s o) (some (.int 2)) (HP s o) := by
  refine AMW.of hu (lv := [some (.ref 0), some (.int a0), some (.int a1), some (.int a2), some (.ref 39), none]) (by decide) rfl (Nat.le_of_ble_eq_true rfl) rfl ?_
  intro Γ eu eN C TB T
  subst eu
  have C : Cok Γ cL_page RL (some .int) 7 1 6 := C
  refine A_aload C dL_page_0 rfl (pc' := 2) rfl ?_
  refine A_iconst C (x := 0) dL_page_2 (by decide) (pc' := 3) rfl ?_
  refine A_aload_n C dL_page_3 rfl (pc' := 4) rfl ?_
  refine A_iload_n C dL_page_4 rfl (pc' := 5) rfl ?_
  refine A_iload_n C dL_page_5 rfl (pc' := 6) rfl ?_
  refine A_iload_n C dL_page_6 rfl (pc' := 7) rfl ?_
  refine A_callVXt C (code := 3) (av := [.int a0, .int a1, .int a2]) (rest := [.int (0 : Int32), .ref 39]) (k2 := 1) (n2 := 6) (F_X5_page_ok hu hF) mk_X5_page lm_L_58 wi_X5_page wv_X5_page (HPg_0 s o) rfl rfl rfl rfl ⟨by decide, by decide⟩ (Nat.le_of_ble_eq_true rfl) dL_page_7 rfl rfl ?_
  refine A_catch C TB [⟨0, 12, 15, 13⟩] ⟨0, 12, 19, 52⟩ [] rfl (fun z hz => by rw [List.mem_singleton] at hz; subst hz; exact ⟨by decide, "java/lang/IllegalArgumentException", lc_L_13, nc_3_1⟩) (by decide) (by decide) lc_L_52 wc_3 rfl rfl rfl ?_
  refine A_astore C (lv' := [some (.ref 0), some (.int a0), some (.int a1), some (.int a2), some (.ref 39), some (.ref EXI)]) dL_page_19 rfl eN rfl rfl (pc' := 21) rfl ?_
  refine A_iconst C (x := 2) dL_page_21 (by decide) (pc' := 22) rfl ?_
  exact A_iret C T (Nat.le_refl _) (Nat.le_refl _) dL_page_22
def cellv (u : Uv) (i : Int32) : Int32 := if Int32.ofNat u.2.2.2.1 ≤ i then 0 else u.2.2.2.2.1 i.toNatClampNeg
set_option maxHeartbeats 4000000 in
theorem H_cell {u : Uv} (hu : Un u) (hL : u.2.2.2.1 < 2 ^ 31) {i : Int32} (hi : 0 ≤ i) {h : List va_E} : AM u (yL_cell, cL_cell, 2, (some .int)) 0 0 0 [.ref SCR, .int i] h (some (.int (cellv u i))) h := by
  refine AM.of hu (lv := [some (.ref SCR), some (.int i)]) (by decide) rfl (Nat.le_of_ble_eq_true rfl) rfl ?_
  intro Γ eu eN C T
  subst eu
  have C : Cok Γ cL_cell RL (some .int) 0 0 0 := C
  refine A_iload_n C dL_cell_0 rfl (pc' := 1) rfl ?_
  refine A_aload_n C dL_cell_1 rfl (pc' := 2) rfl ?_
  refine A_slen C dL_cell_2 (pc' := 3) rfl ?_
  refine A_icmp_ge C dL_cell_3 (tgt := 12) (by decide) (pc' := 6) rfl (fun c1 => ?_) (fun c1 => ?_)
  · refine A_iconst C (x := 0) dL_cell_12 (by decide) (pc' := 13) rfl ?_
    rw [cellv, if_pos c1] at T
    exact A_iret C T (Nat.le_refl _) (Nat.le_refl _) dL_cell_13
  · refine A_aload_n C dL_cell_6 rfl (pc' := 7) rfl ?_
    refine A_iload_n C dL_cell_7 rfl (pc' := 8) rfl ?_
    refine A_sald C ?_ dL_cell_8 (pc' := 9) rfl ?_
    · obtain ⟨j, hj, rfl⟩ := nI_of (x := i) (Int32.not_lt.mpr hi)
      refine vp_in_nI ?_ hL
      rcases Nat.lt_or_ge j Γ.2.1.2.2.2.1 with h1 | h1
      · exact h1
      · exact absurd (nI_le h1 hj) c1
    refine A_goto C dL_cell_9 (tgt := 13) (by decide) ?_
    rw [cellv, if_neg c1] at T
    exact A_iret C T (Nat.le_refl _) (Nat.le_refl _) dL_cell_13
theorem lgc (x : Int64) : lg_cmp x x = 0 := by simp [lg_cmp]
set_option maxHeartbeats 4000000 in
set_option maxRecDepth 100000 in
theorem LC_room {Γ : Cx} (hu : Un Γ.2.1) (eN : 7 = Γ.2.2.2.2.2) (C : Cok Γ cL_law RL (some .boolean) 10 1086 13806) {i : Int32} {s : Sg} {o : Nat → Int64} {k n : Nat} {x1 x2 : Int32} (v1 : vp_in (i + (1 : Int32)) Γ.2.1.2.2.2.1) (e1 : Γ.2.1.2.2.2.2.1 (i + (1 : Int32)).toNatClampNeg = x1) (v2 : vp_in (i + (2 : Int32)) Γ.2.1.2.2.2.1) (e2 : Γ.2.1.2.2.2.2.1 (i + (2 : Int32)).toNatClampNeg = x2) {kx : Int32} {s1 : Sg} {o1 : Nat → Int64} (hH : AMW Γ.2.1 (yL_room, cL_room, 4, (some .int)) hhL_room 7 [.ref 0, .int x1, .int x2] (HP s o) (some (.int kx)) (HP s1 o1)) (hcap : k + 1 ≤ 1086 ∧ n + 6 ≤ 13806) (hcap0 : k + 1 + 0 ≤ 1086 ∧ n + 6 + 0 ≤ 13806) {q : Sg} (hM : F_X6_room x1 x2 s1 = some q) (hT : q 2200 0 = kx) (kk : AW Γ (HP q o1) (k + 1) (n + 6) [some (.ref SCR), some (.ref 0), some (.ref 21), some (.ref 39), some (.int i), none, none] [] 1060) : AW Γ (HP s o) k n [some (.ref SCR), some (.ref 0), some (.ref 21), some (.ref 39), some (.int i), none, none] [] 136 := by
  refine A_aload_n C dL_law_136 rfl (pc' := 137) rfl ?_
  refine A_aload_n C dL_law_137 rfl (pc' := 138) rfl ?_
  refine A_iload C dL_law_138 rfl (pc' := 140) rfl ?_
  refine A_iconst C (x := 1) dL_law_140 (by decide) (pc' := 141) rfl ?_
  refine A_iadd C dL_law_141 (pc' := 142) rfl ?_
  refine A_sald C v1 dL_law_142 (pc' := 143) rfl ?_
  refine A_topi e1.symm ?_
  refine A_aload_n C dL_law_143 rfl (pc' := 144) rfl ?_
  refine A_iload C dL_law_144 rfl (pc' := 146) rfl ?_
  refine A_iconst C (x := 2) dL_law_146 (by decide) (pc' := 147) rfl ?_
  refine A_iadd C dL_law_147 (pc' := 148) rfl ?_
  refine A_sald C v2 dL_law_148 (pc' := 149) rfl ?_
  refine A_topi e2.symm ?_
  refine A_callSW C (av := [.ref 0, .int x1, .int x2]) (rest := []) (st2 := [.int kx]) (k2 := k + 1) (n2 := n + 6) hH mw_L_room lm_L_72 ws_L_room rfl rfl rfl hcap (Nat.le_of_ble_eq_true rfl) rfl rfl dL_law_149 rfl rfl rfl (pc' := 152) rfl ?_
  refine A_istore C (lv' := [some (.ref SCR), some (.ref 0), some (.ref 21), some (.ref 39), some (.int i), some (.int kx), none]) dL_law_152 rfl eN rfl rfl (pc' := 154) rfl ?_
  refine A_aload_n C dL_law_154 rfl (pc' := 155) rfl ?_
  refine A_aload_n C dL_law_155 rfl (pc' := 156) rfl ?_
  refine A_iload C dL_law_156 rfl (pc' := 158) rfl ?_
  refine A_iconst C (x := 1) dL_law_158 (by decide) (pc' := 159) rfl ?_
  refine A_iadd C dL_law_159 (pc' := 160) rfl ?_
  refine A_sald C v1 dL_law_160 (pc' := 161) rfl ?_
  refine A_topi e1.symm ?_
  refine A_aload_n C dL_law_161 rfl (pc' := 162) rfl ?_
  refine A_iload C dL_law_162 rfl (pc' := 164) rfl ?_
  refine A_iconst C (x := 2) dL_law_164 (by decide) (pc' := 165) rfl ?_
  refine A_iadd C dL_law_165 (pc' := 166) rfl ?_
  refine A_sald C v2 dL_law_166 (pc' := 167) rfl ?_
  refine A_topi e2.symm ?_
  refine A_callV C (av := [.int x1, .int x2]) (rest := []) (st2 := []) (k2 := k + 1) (n2 := n + 6) (F_X6_room_ok hu hM) mk_X6_room lm_L_75 wi_X6_room wv_X6_room (HPg_21 s1 o1) rfl rfl rfl rfl hcap0 (Nat.le_of_ble_eq_true rfl) rfl rfl dL_law_167 rfl rfl rfl (pc' := 170) rfl ?_
  refine A_aload_n C dL_law_170 rfl (pc' := 171) rfl ?_
  refine A_callV C (av := []) (rest := []) (st2 := [.int (q 2200 0)]) (k2 := k + 1) (n2 := n + 6) (F_X6_thrown_ok hu (rfl : F_X6_thrown q = some (q 2200 0))) mk_X6_thrown lm_L_76 wi_X6_thrown wv_X6_thrown (HPg_21 q o1) rfl rfl rfl rfl hcap0 (Nat.le_of_ble_eq_true rfl) rfl rfl dL_law_171 rfl rfl rfl (pc' := 174) rfl ?_
  refine A_iload C dL_law_174 rfl (pc' := 176) rfl ?_
  refine A_icmp_eq C dL_law_176 (tgt := 181) (by decide) (pc' := 179) rfl (fun _ => ?_) (fun c => absurd hT c)
  refine A_goto C dL_law_181 (tgt := 1060) (by decide) ?_
  refine A_mask [true, true, true, true, true, false, false] (lv' := [some (.ref SCR), some (.ref 0), some (.ref 21), some (.ref 39), some (.int i), none, none]) rfl ?_
  exact kk
set_option maxHeartbeats 4000000 in
set_option maxRecDepth 100000 in
theorem LC_lesson {Γ : Cx} (hu : Un Γ.2.1) (eN : 7 = Γ.2.2.2.2.2) (C : Cok Γ cL_law RL (some .boolean) 10 1086 13806) {i : Int32} {s : Sg} {o : Nat → Int64} {k n : Nat} {x1 x2 x3 x4 x5 x6 : Int32} (v1 : vp_in (i + (1 : Int32)) Γ.2.1.2.2.2.1) (e1 : Γ.2.1.2.2.2.2.1 (i + (1 : Int32)).toNatClampNeg = x1) (v2 : vp_in (i + (2 : Int32)) Γ.2.1.2.2.2.1) (e2 : Γ.2.1.2.2.2.2.1 (i + (2 : Int32)).toNatClampNeg = x2) (v3 : vp_in (i + (3 : Int32)) Γ.2.1.2.2.2.1) (e3 : Γ.2.1.2.2.2.2.1 (i + (3 : Int32)).toNatClampNeg = x3) (v4 : vp_in (i + (4 : Int32)) Γ.2.1.2.2.2.1) (e4 : Γ.2.1.2.2.2.2.1 (i + (4 : Int32)).toNatClampNeg = x4) (v5 : vp_in (i + (5 : Int32)) Γ.2.1.2.2.2.1) (e5 : Γ.2.1.2.2.2.2.1 (i + (5 : Int32)).toNatClampNeg = x5) (v6 : vp_in (i + (6 : Int32)) Γ.2.1.2.2.2.1) (e6 : Γ.2.1.2.2.2.2.1 (i + (6 : Int32)).toNatClampNeg = x6) {kx : Int32} {s1 : Sg} {o1 : Nat → Int64} (hH : AMW Γ.2.1 (yL_lesson, cL_lesson, 9, (some .int)) hhL_lesson 7 [.ref 0, .int x1, .int x2, .int x3, .int x4, .int x5, .int x6, .ref 39] (HP s o) (some (.int kx)) (HP s1 o1)) (hcap : k + 1 ≤ 1086 ∧ n + 6 ≤ 13806) (hcap0 : k + 1 + 0 ≤ 1086 ∧ n + 6 + 0 ≤ 13806) {q : (Int32 × Sg)} (hM : F_X6_lesson x1 x2 x3 x4 x5 x6 s1 = some q) (hT : q.2 2200 0 = kx) (hO : kx = 0 → o1 0 = q.1.toInt64) (kk : AW Γ (HP q.2 o1) (k + 1) (n + 6) [some (.ref SCR), some (.ref 0), some (.ref 21), some (.ref 39), some (.int i), none, none] [] 1060) : AW Γ (HP s o) k n [some (.ref SCR), some (.ref 0), some (.ref 21), some (.ref 39), some (.int i), none, none] [] 184 := by
  refine A_aload_n C dL_law_184 rfl (pc' := 185) rfl ?_
  refine A_aload_n C dL_law_185 rfl (pc' := 186) rfl ?_
  refine A_iload C dL_law_186 rfl (pc' := 188) rfl ?_
  refine A_iconst C (x := 1) dL_law_188 (by decide) (pc' := 189) rfl ?_
  refine A_iadd C dL_law_189 (pc' := 190) rfl ?_
  refine A_sald C v1 dL_law_190 (pc' := 191) rfl ?_
  refine A_topi e1.symm ?_
  refine A_aload_n C dL_law_191 rfl (pc' := 192) rfl ?_
  refine A_iload C dL_law_192 rfl (pc' := 194) rfl ?_
  refine A_iconst C (x := 2) dL_law_194 (by decide) (pc' := 195) rfl ?_
  refine A_iadd C dL_law_195 (pc' := 196) rfl ?_
  refine A_sald C v2 dL_law_196 (pc' := 197) rfl ?_
  refine A_topi e2.symm ?_
  refine A_aload_n C dL_law_197 rfl (pc' := 198) rfl ?_
  refine A_iload C dL_law_198 rfl (pc' := 200) rfl ?_
  refine A_iconst C (x := 3) dL_law_200 (by decide) (pc' := 201) rfl ?_
  refine A_iadd C dL_law_201 (pc' := 202) rfl ?_
  refine A_sald C v3 dL_law_202 (pc' := 203) rfl ?_
  refine A_topi e3.symm ?_
  refine A_aload_n C dL_law_203 rfl (pc' := 204) rfl ?_
  refine A_iload C dL_law_204 rfl (pc' := 206) rfl ?_
  refine A_iconst C (x := 4) dL_law_206 (by decide) (pc' := 207) rfl ?_
  refine A_iadd C dL_law_207 (pc' := 208) rfl ?_
  refine A_sald C v4 dL_law_208 (pc' := 209) rfl ?_
  refine A_topi e4.symm ?_
  refine A_aload_n C dL_law_209 rfl (pc' := 210) rfl ?_
  refine A_iload C dL_law_210 rfl (pc' := 212) rfl ?_
  refine A_iconst C (x := 5) dL_law_212 (by decide) (pc' := 213) rfl ?_
  refine A_iadd C dL_law_213 (pc' := 214) rfl ?_
  refine A_sald C v5 dL_law_214 (pc' := 215) rfl ?_
  refine A_topi e5.symm ?_
  refine A_aload_n C dL_law_215 rfl (pc' := 216) rfl ?_
  refine A_iload C dL_law_216 rfl (pc' := 218) rfl ?_
  refine A_bipush C (x := 6) dL_law_218 (by decide) (pc' := 220) rfl ?_
  refine A_iadd C dL_law_220 (pc' := 221) rfl ?_
  refine A_sald C v6 dL_law_221 (pc' := 222) rfl ?_
  refine A_topi e6.symm ?_
  refine A_aload_n C dL_law_222 rfl (pc' := 223) rfl ?_
  refine A_callSW C (av := [.ref 0, .int x1, .int x2, .int x3, .int x4, .int x5, .int x6, .ref 39]) (rest := []) (st2 := [.int kx]) (k2 := k + 1) (n2 := n + 6) hH mw_L_lesson lm_L_79 ws_L_lesson rfl rfl rfl hcap (Nat.le_of_ble_eq_true rfl) rfl rfl dL_law_223 rfl rfl rfl (pc' := 226) rfl ?_
  refine A_istore C (lv' := [some (.ref SCR), some (.ref 0), some (.ref 21), some (.ref 39), some (.int i), some (.int kx), none]) dL_law_226 rfl eN rfl rfl (pc' := 228) rfl ?_
  refine A_aload_n C dL_law_228 rfl (pc' := 229) rfl ?_
  refine A_aload_n C dL_law_229 rfl (pc' := 230) rfl ?_
  refine A_iload C dL_law_230 rfl (pc' := 232) rfl ?_
  refine A_iconst C (x := 1) dL_law_232 (by decide) (pc' := 233) rfl ?_
  refine A_iadd C dL_law_233 (pc' := 234) rfl ?_
  refine A_sald C v1 dL_law_234 (pc' := 235) rfl ?_
  refine A_topi e1.symm ?_
  refine A_aload_n C dL_law_235 rfl (pc' := 236) rfl ?_
  refine A_iload C dL_law_236 rfl (pc' := 238) rfl ?_
  refine A_iconst C (x := 2) dL_law_238 (by decide) (pc' := 239) rfl ?_
  refine A_iadd C dL_law_239 (pc' := 240) rfl ?_
  refine A_sald C v2 dL_law_240 (pc' := 241) rfl ?_
  refine A_topi e2.symm ?_
  refine A_aload_n C dL_law_241 rfl (pc' := 242) rfl ?_
  refine A_iload C dL_law_242 rfl (pc' := 244) rfl ?_
  refine A_iconst C (x := 3) dL_law_244 (by decide) (pc' := 245) rfl ?_
  refine A_iadd C dL_law_245 (pc' := 246) rfl ?_
  refine A_sald C v3 dL_law_246 (pc' := 247) rfl ?_
  refine A_topi e3.symm ?_
  refine A_aload_n C dL_law_247 rfl (pc' := 248) rfl ?_
  refine A_iload C dL_law_248 rfl (pc' := 250) rfl ?_
  refine A_iconst C (x := 4) dL_law_250 (by decide) (pc' := 251) rfl ?_
  refine A_iadd C dL_law_251 (pc' := 252) rfl ?_
  refine A_sald C v4 dL_law_252 (pc' := 253) rfl ?_
  refine A_topi e4.symm ?_
  refine A_aload_n C dL_law_253 rfl (pc' := 254) rfl ?_
  refine A_iload C dL_law_254 rfl (pc' := 256) rfl ?_
  refine A_iconst C (x := 5) dL_law_256 (by decide) (pc' := 257) rfl ?_
  refine A_iadd C dL_law_257 (pc' := 258) rfl ?_
  refine A_sald C v5 dL_law_258 (pc' := 259) rfl ?_
  refine A_topi e5.symm ?_
  refine A_aload_n C dL_law_259 rfl (pc' := 260) rfl ?_
  refine A_iload C dL_law_260 rfl (pc' := 262) rfl ?_
  refine A_bipush C (x := 6) dL_law_262 (by decide) (pc' := 264) rfl ?_
  refine A_iadd C dL_law_264 (pc' := 265) rfl ?_
  refine A_sald C v6 dL_law_265 (pc' := 266) rfl ?_
  refine A_topi e6.symm ?_
  refine A_callV C (av := [.int x1, .int x2, .int x3, .int x4, .int x5, .int x6]) (rest := []) (st2 := [.int q.1]) (k2 := k + 1) (n2 := n + 6) (F_X6_lesson_ok hu hM) mk_X6_lesson lm_L_82 wi_X6_lesson wv_X6_lesson (HPg_21 s1 o1) rfl rfl rfl rfl hcap0 (Nat.le_of_ble_eq_true rfl) rfl rfl dL_law_266 rfl rfl rfl (pc' := 269) rfl ?_
  refine A_istore C (lv' := [some (.ref SCR), some (.ref 0), some (.ref 21), some (.ref 39), some (.int i), some (.int kx), some (.int q.1)]) dL_law_269 rfl eN rfl rfl (pc' := 271) rfl ?_
  refine A_aload_n C dL_law_271 rfl (pc' := 272) rfl ?_
  refine A_callV C (av := []) (rest := []) (st2 := [.int (q.2 2200 0)]) (k2 := k + 1) (n2 := n + 6) (F_X6_thrown_ok hu (rfl : F_X6_thrown q.2 = some (q.2 2200 0))) mk_X6_thrown lm_L_76 wi_X6_thrown wv_X6_thrown (HPg_21 q.2 o1) rfl rfl rfl rfl hcap0 (Nat.le_of_ble_eq_true rfl) rfl rfl dL_law_272 rfl rfl rfl (pc' := 275) rfl ?_
  refine A_iload C dL_law_275 rfl (pc' := 277) rfl ?_
  refine A_icmp_eq C dL_law_277 (tgt := 282) (by decide) (pc' := 280) rfl (fun _ => ?_) (fun c => absurd hT c)
  refine A_iload C dL_law_282 rfl (pc' := 284) rfl ?_
  refine A_if_ne C dL_law_284 (tgt := 299) (by decide) (pc' := 287) rfl (fun _ => ?_) (fun c6 => ?_)
  · refine A_goto C dL_law_299 (tgt := 1060) (by decide) ?_
    refine A_mask [true, true, true, true, true, false, false] (lv' := [some (.ref SCR), some (.ref 0), some (.ref 21), some (.ref 39), some (.int i), none, none]) rfl ?_
    exact kk
  · refine A_aload_n C dL_law_287 rfl (pc' := 288) rfl ?_
    refine A_iconst C (x := 0) dL_law_288 (by decide) (pc' := 289) rfl ?_
    refine A_lald C (HPg_39 q.2 o1) (ixb_in (by decide)) dL_law_289 (pc' := 290) rfl ?_
    refine A_iload C dL_law_290 rfl (pc' := 292) rfl ?_
    refine A_i2l C dL_law_292 (pc' := 293) rfl ?_
    refine A_lcmp C dL_law_293 (pc' := 294) rfl ?_
    refine A_if_eq C dL_law_294 (tgt := 299) (by decide) (pc' := 297) rfl (fun _ => ?_) (fun c => absurd (by rw [sb_cl0, hO c6]; exact lgc _) c)
    refine A_goto C dL_law_299 (tgt := 1060) (by decide) ?_
    refine A_mask [true, true, true, true, true, false, false] (lv' := [some (.ref SCR), some (.ref 0), some (.ref 21), some (.ref 39), some (.int i), none, none]) rfl ?_
    exact kk
set_option maxHeartbeats 4000000 in
set_option maxRecDepth 100000 in
theorem LC_block0 {Γ : Cx} (hu : Un Γ.2.1) (eN : 7 = Γ.2.2.2.2.2) (C : Cok Γ cL_law RL (some .boolean) 10 1086 13806) {i : Int32} {s : Sg} {o : Nat → Int64} {k n : Nat} {x1 x2 x3 x4 : Int32} (v1 : vp_in (i + (1 : Int32)) Γ.2.1.2.2.2.1) (e1 : Γ.2.1.2.2.2.2.1 (i + (1 : Int32)).toNatClampNeg = x1) (v2 : vp_in (i + (2 : Int32)) Γ.2.1.2.2.2.1) (e2 : Γ.2.1.2.2.2.2.1 (i + (2 : Int32)).toNatClampNeg = x2) (v3 : vp_in (i + (3 : Int32)) Γ.2.1.2.2.2.1) (e3 : Γ.2.1.2.2.2.2.1 (i + (3 : Int32)).toNatClampNeg = x3) (v4 : vp_in (i + (4 : Int32)) Γ.2.1.2.2.2.1) (e4 : Γ.2.1.2.2.2.2.1 (i + (4 : Int32)).toNatClampNeg = x4) (h4 : x4 = 0) {kx : Int32} {s1 : Sg} {o1 : Nat → Int64} (hH : AMW Γ.2.1 (yL_block, cL_block, 6, (some .int)) hhL_block 7 [.ref 0, .int x1, .int x2, .int x3, .int (0 : Int32)] (HP s o) (some (.int kx)) (HP s1 o1)) (hcap : k + 1 ≤ 1086 ∧ n + 6 ≤ 13806) (hcap0 : k + 1 + 0 ≤ 1086 ∧ n + 6 + 0 ≤ 13806) {q : Sg} (hM : F_X6_block x1 x2 x3 (0 : Int32) s1 = some q) (hT : q 2200 0 = kx) (kk : AW Γ (HP q o1) (k + 1) (n + 6) [some (.ref SCR), some (.ref 0), some (.ref 21), some (.ref 39), some (.int i), none, none] [] 1060) : AW Γ (HP s o) k n [some (.ref SCR), some (.ref 0), some (.ref 21), some (.ref 39), some (.int i), none, none] [] 302 := by
  refine A_aload_n C dL_law_302 rfl (pc' := 303) rfl ?_
  refine A_aload_n C dL_law_303 rfl (pc' := 304) rfl ?_
  refine A_iload C dL_law_304 rfl (pc' := 306) rfl ?_
  refine A_iconst C (x := 1) dL_law_306 (by decide) (pc' := 307) rfl ?_
  refine A_iadd C dL_law_307 (pc' := 308) rfl ?_
  refine A_sald C v1 dL_law_308 (pc' := 309) rfl ?_
  refine A_topi e1.symm ?_
  refine A_aload_n C dL_law_309 rfl (pc' := 310) rfl ?_
  refine A_iload C dL_law_310 rfl (pc' := 312) rfl ?_
  refine A_iconst C (x := 2) dL_law_312 (by decide) (pc' := 313) rfl ?_
  refine A_iadd C dL_law_313 (pc' := 314) rfl ?_
  refine A_sald C v2 dL_law_314 (pc' := 315) rfl ?_
  refine A_topi e2.symm ?_
  refine A_aload_n C dL_law_315 rfl (pc' := 316) rfl ?_
  refine A_iload C dL_law_316 rfl (pc' := 318) rfl ?_
  refine A_iconst C (x := 3) dL_law_318 (by decide) (pc' := 319) rfl ?_
  refine A_iadd C dL_law_319 (pc' := 320) rfl ?_
  refine A_sald C v3 dL_law_320 (pc' := 321) rfl ?_
  refine A_topi e3.symm ?_
  refine A_aload_n C dL_law_321 rfl (pc' := 322) rfl ?_
  refine A_iload C dL_law_322 rfl (pc' := 324) rfl ?_
  refine A_iconst C (x := 4) dL_law_324 (by decide) (pc' := 325) rfl ?_
  refine A_iadd C dL_law_325 (pc' := 326) rfl ?_
  refine A_sald C v4 dL_law_326 (pc' := 327) rfl ?_
  refine A_topi e4.symm ?_
  refine A_if_eq C dL_law_327 (tgt := 334) (by decide) (pc' := 330) rfl (fun _ => ?_) (fun c => absurd h4 c)
  refine A_iconst C (x := 0) dL_law_334 (by decide) (pc' := 335) rfl ?_
  refine A_callSW C (av := [.ref 0, .int x1, .int x2, .int x3, .int (0 : Int32)]) (rest := []) (st2 := [.int kx]) (k2 := k + 1) (n2 := n + 6) hH mw_L_block lm_L_83 ws_L_block rfl rfl rfl hcap (Nat.le_of_ble_eq_true rfl) rfl rfl dL_law_335 rfl rfl rfl (pc' := 338) rfl ?_
  refine A_istore C (lv' := [some (.ref SCR), some (.ref 0), some (.ref 21), some (.ref 39), some (.int i), some (.int kx), none]) dL_law_338 rfl eN rfl rfl (pc' := 340) rfl ?_
  refine A_aload_n C dL_law_340 rfl (pc' := 341) rfl ?_
  refine A_aload_n C dL_law_341 rfl (pc' := 342) rfl ?_
  refine A_iload C dL_law_342 rfl (pc' := 344) rfl ?_
  refine A_iconst C (x := 1) dL_law_344 (by decide) (pc' := 345) rfl ?_
  refine A_iadd C dL_law_345 (pc' := 346) rfl ?_
  refine A_sald C v1 dL_law_346 (pc' := 347) rfl ?_
  refine A_topi e1.symm ?_
  refine A_aload_n C dL_law_347 rfl (pc' := 348) rfl ?_
  refine A_iload C dL_law_348 rfl (pc' := 350) rfl ?_
  refine A_iconst C (x := 2) dL_law_350 (by decide) (pc' := 351) rfl ?_
  refine A_iadd C dL_law_351 (pc' := 352) rfl ?_
  refine A_sald C v2 dL_law_352 (pc' := 353) rfl ?_
  refine A_topi e2.symm ?_
  refine A_aload_n C dL_law_353 rfl (pc' := 354) rfl ?_
  refine A_iload C dL_law_354 rfl (pc' := 356) rfl ?_
  refine A_iconst C (x := 3) dL_law_356 (by decide) (pc' := 357) rfl ?_
  refine A_iadd C dL_law_357 (pc' := 358) rfl ?_
  refine A_sald C v3 dL_law_358 (pc' := 359) rfl ?_
  refine A_topi e3.symm ?_
  refine A_aload_n C dL_law_359 rfl (pc' := 360) rfl ?_
  refine A_iload C dL_law_360 rfl (pc' := 362) rfl ?_
  refine A_iconst C (x := 4) dL_law_362 (by decide) (pc' := 363) rfl ?_
  refine A_iadd C dL_law_363 (pc' := 364) rfl ?_
  refine A_sald C v4 dL_law_364 (pc' := 365) rfl ?_
  refine A_topi e4.symm ?_
  refine A_if_eq C dL_law_365 (tgt := 372) (by decide) (pc' := 368) rfl (fun _ => ?_) (fun c => absurd h4 c)
  refine A_iconst C (x := 0) dL_law_372 (by decide) (pc' := 373) rfl ?_
  refine A_callV C (av := [.int x1, .int x2, .int x3, .int (0 : Int32)]) (rest := []) (st2 := []) (k2 := k + 1) (n2 := n + 6) (F_X6_block_ok hu hM) mk_X6_block lm_L_86 wi_X6_block wv_X6_block (HPg_21 s1 o1) rfl rfl rfl rfl hcap0 (Nat.le_of_ble_eq_true rfl) rfl rfl dL_law_373 rfl rfl rfl (pc' := 376) rfl ?_
  refine A_aload_n C dL_law_376 rfl (pc' := 377) rfl ?_
  refine A_callV C (av := []) (rest := []) (st2 := [.int (q 2200 0)]) (k2 := k + 1) (n2 := n + 6) (F_X6_thrown_ok hu (rfl : F_X6_thrown q = some (q 2200 0))) mk_X6_thrown lm_L_76 wi_X6_thrown wv_X6_thrown (HPg_21 q o1) rfl rfl rfl rfl hcap0 (Nat.le_of_ble_eq_true rfl) rfl rfl dL_law_377 rfl rfl rfl (pc' := 380) rfl ?_
  refine A_iload C dL_law_380 rfl (pc' := 382) rfl ?_
  refine A_icmp_eq C dL_law_382 (tgt := 387) (by decide) (pc' := 385) rfl (fun _ => ?_) (fun c => absurd hT c)
  refine A_goto C dL_law_387 (tgt := 1060) (by decide) ?_
  refine A_mask [true, true, true, true, true, false, false] (lv' := [some (.ref SCR), some (.ref 0), some (.ref 21), some (.ref 39), some (.int i), none, none]) rfl ?_
  exact kk
set_option maxHeartbeats 4000000 in
set_option maxRecDepth 100000 in
theorem LC_block1 {Γ : Cx} (hu : Un Γ.2.1) (eN : 7 = Γ.2.2.2.2.2) (C : Cok Γ cL_law RL (some .boolean) 10 1086 13806) {i : Int32} {s : Sg} {o : Nat → Int64} {k n : Nat} {x1 x2 x3 x4 : Int32} (v1 : vp_in (i + (1 : Int32)) Γ.2.1.2.2.2.1) (e1 : Γ.2.1.2.2.2.2.1 (i + (1 : Int32)).toNatClampNeg = x1) (v2 : vp_in (i + (2 : Int32)) Γ.2.1.2.2.2.1) (e2 : Γ.2.1.2.2.2.2.1 (i + (2 : Int32)).toNatClampNeg = x2) (v3 : vp_in (i + (3 : Int32)) Γ.2.1.2.2.2.1) (e3 : Γ.2.1.2.2.2.2.1 (i + (3 : Int32)).toNatClampNeg = x3) (v4 : vp_in (i + (4 : Int32)) Γ.2.1.2.2.2.1) (e4 : Γ.2.1.2.2.2.2.1 (i + (4 : Int32)).toNatClampNeg = x4) (h4 : ¬ x4 = 0) {kx : Int32} {s1 : Sg} {o1 : Nat → Int64} (hH : AMW Γ.2.1 (yL_block, cL_block, 6, (some .int)) hhL_block 7 [.ref 0, .int x1, .int x2, .int x3, .int (1 : Int32)] (HP s o) (some (.int kx)) (HP s1 o1)) (hcap : k + 1 ≤ 1086 ∧ n + 6 ≤ 13806) (hcap0 : k + 1 + 0 ≤ 1086 ∧ n + 6 + 0 ≤ 13806) {q : Sg} (hM : F_X6_block x1 x2 x3 (1 : Int32) s1 = some q) (hT : q 2200 0 = kx) (kk : AW Γ (HP q o1) (k + 1) (n + 6) [some (.ref SCR), some (.ref 0), some (.ref 21), some (.ref 39), some (.int i), none, none] [] 1060) : AW Γ (HP s o) k n [some (.ref SCR), some (.ref 0), some (.ref 21), some (.ref 39), some (.int i), none, none] [] 302 := by
  refine A_aload_n C dL_law_302 rfl (pc' := 303) rfl ?_
  refine A_aload_n C dL_law_303 rfl (pc' := 304) rfl ?_
  refine A_iload C dL_law_304 rfl (pc' := 306) rfl ?_
  refine A_iconst C (x := 1) dL_law_306 (by decide) (pc' := 307) rfl ?_
  refine A_iadd C dL_law_307 (pc' := 308) rfl ?_
  refine A_sald C v1 dL_law_308 (pc' := 309) rfl ?_
  refine A_topi e1.symm ?_
  refine A_aload_n C dL_law_309 rfl (pc' := 310) rfl ?_
  refine A_iload C dL_law_310 rfl (pc' := 312) rfl ?_
  refine A_iconst C (x := 2) dL_law_312 (by decide) (pc' := 313) rfl ?_
  refine A_iadd C dL_law_313 (pc' := 314) rfl ?_
  refine A_sald C v2 dL_law_314 (pc' := 315) rfl ?_
  refine A_topi e2.symm ?_
  refine A_aload_n C dL_law_315 rfl (pc' := 316) rfl ?_
  refine A_iload C dL_law_316 rfl (pc' := 318) rfl ?_
  refine A_iconst C (x := 3) dL_law_318 (by decide) (pc' := 319) rfl ?_
  refine A_iadd C dL_law_319 (pc' := 320) rfl ?_
  refine A_sald C v3 dL_law_320 (pc' := 321) rfl ?_
  refine A_topi e3.symm ?_
  refine A_aload_n C dL_law_321 rfl (pc' := 322) rfl ?_
  refine A_iload C dL_law_322 rfl (pc' := 324) rfl ?_
  refine A_iconst C (x := 4) dL_law_324 (by decide) (pc' := 325) rfl ?_
  refine A_iadd C dL_law_325 (pc' := 326) rfl ?_
  refine A_sald C v4 dL_law_326 (pc' := 327) rfl ?_
  refine A_topi e4.symm ?_
  refine A_if_eq C dL_law_327 (tgt := 334) (by decide) (pc' := 330) rfl (fun c => absurd c h4) (fun _ => ?_)
  refine A_iconst C (x := 1) dL_law_330 (by decide) (pc' := 331) rfl ?_
  refine A_goto C dL_law_331 (tgt := 335) (by decide) ?_
  refine A_callSW C (av := [.ref 0, .int x1, .int x2, .int x3, .int (1 : Int32)]) (rest := []) (st2 := [.int kx]) (k2 := k + 1) (n2 := n + 6) hH mw_L_block lm_L_83 ws_L_block rfl rfl rfl hcap (Nat.le_of_ble_eq_true rfl) rfl rfl dL_law_335 rfl rfl rfl (pc' := 338) rfl ?_
  refine A_istore C (lv' := [some (.ref SCR), some (.ref 0), some (.ref 21), some (.ref 39), some (.int i), some (.int kx), none]) dL_law_338 rfl eN rfl rfl (pc' := 340) rfl ?_
  refine A_aload_n C dL_law_340 rfl (pc' := 341) rfl ?_
  refine A_aload_n C dL_law_341 rfl (pc' := 342) rfl ?_
  refine A_iload C dL_law_342 rfl (pc' := 344) rfl ?_
  refine A_iconst C (x := 1) dL_law_344 (by decide) (pc' := 345) rfl ?_
  refine A_iadd C dL_law_345 (pc' := 346) rfl ?_
  refine A_sald C v1 dL_law_346 (pc' := 347) rfl ?_
  refine A_topi e1.symm ?_
  refine A_aload_n C dL_law_347 rfl (pc' := 348) rfl ?_
  refine A_iload C dL_law_348 rfl (pc' := 350) rfl ?_
  refine A_iconst C (x := 2) dL_law_350 (by decide) (pc' := 351) rfl ?_
  refine A_iadd C dL_law_351 (pc' := 352) rfl ?_
  refine A_sald C v2 dL_law_352 (pc' := 353) rfl ?_
  refine A_topi e2.symm ?_
  refine A_aload_n C dL_law_353 rfl (pc' := 354) rfl ?_
  refine A_iload C dL_law_354 rfl (pc' := 356) rfl ?_
  refine A_iconst C (x := 3) dL_law_356 (by decide) (pc' := 357) rfl ?_
  refine A_iadd C dL_law_357 (pc' := 358) rfl ?_
  refine A_sald C v3 dL_law_358 (pc' := 359) rfl ?_
  refine A_topi e3.symm ?_
  refine A_aload_n C dL_law_359 rfl (pc' := 360) rfl ?_
  refine A_iload C dL_law_360 rfl (pc' := 362) rfl ?_
  refine A_iconst C (x := 4) dL_law_362 (by decide) (pc' := 363) rfl ?_
  refine A_iadd C dL_law_363 (pc' := 364) rfl ?_
  refine A_sald C v4 dL_law_364 (pc' := 365) rfl ?_
  refine A_topi e4.symm ?_
  refine A_if_eq C dL_law_365 (tgt := 372) (by decide) (pc' := 368) rfl (fun c => absurd c h4) (fun _ => ?_)
  refine A_iconst C (x := 1) dL_law_368 (by decide) (pc' := 369) rfl ?_
  refine A_goto C dL_law_369 (tgt := 373) (by decide) ?_
  refine A_callV C (av := [.int x1, .int x2, .int x3, .int (1 : Int32)]) (rest := []) (st2 := []) (k2 := k + 1) (n2 := n + 6) (F_X6_block_ok hu hM) mk_X6_block lm_L_86 wi_X6_block wv_X6_block (HPg_21 s1 o1) rfl rfl rfl rfl hcap0 (Nat.le_of_ble_eq_true rfl) rfl rfl dL_law_373 rfl rfl rfl (pc' := 376) rfl ?_
  refine A_aload_n C dL_law_376 rfl (pc' := 377) rfl ?_
  refine A_callV C (av := []) (rest := []) (st2 := [.int (q 2200 0)]) (k2 := k + 1) (n2 := n + 6) (F_X6_thrown_ok hu (rfl : F_X6_thrown q = some (q 2200 0))) mk_X6_thrown lm_L_76 wi_X6_thrown wv_X6_thrown (HPg_21 q o1) rfl rfl rfl rfl hcap0 (Nat.le_of_ble_eq_true rfl) rfl rfl dL_law_377 rfl rfl rfl (pc' := 380) rfl ?_
  refine A_iload C dL_law_380 rfl (pc' := 382) rfl ?_
  refine A_icmp_eq C dL_law_382 (tgt := 387) (by decide) (pc' := 385) rfl (fun _ => ?_) (fun c => absurd hT c)
  refine A_goto C dL_law_387 (tgt := 1060) (by decide) ?_
  refine A_mask [true, true, true, true, true, false, false] (lv' := [some (.ref SCR), some (.ref 0), some (.ref 21), some (.ref 39), some (.int i), none, none]) rfl ?_
  exact kk
set_option maxHeartbeats 4000000 in
set_option maxRecDepth 100000 in
theorem LC_place {Γ : Cx} (hu : Un Γ.2.1) (eN : 7 = Γ.2.2.2.2.2) (C : Cok Γ cL_law RL (some .boolean) 10 1086 13806) {i : Int32} {s : Sg} {o : Nat → Int64} {k n : Nat} {x1 x2 x3 : Int32} (v1 : vp_in (i + (1 : Int32)) Γ.2.1.2.2.2.1) (e1 : Γ.2.1.2.2.2.2.1 (i + (1 : Int32)).toNatClampNeg = x1) (v2 : vp_in (i + (2 : Int32)) Γ.2.1.2.2.2.1) (e2 : Γ.2.1.2.2.2.2.1 (i + (2 : Int32)).toNatClampNeg = x2) (v3 : vp_in (i + (3 : Int32)) Γ.2.1.2.2.2.1) (e3 : Γ.2.1.2.2.2.2.1 (i + (3 : Int32)).toNatClampNeg = x3) {kx : Int32} {s1 : Sg} {o1 : Nat → Int64} (hH : AMW Γ.2.1 (yL_place, cL_place, 6, (some .int)) hhL_place 7 [.ref 0, .int x1, .int x2, .int x3, .ref 39] (HP s o) (some (.int kx)) (HP s1 o1)) (hcap : k + 1 ≤ 1086 ∧ n + 6 ≤ 13806) (hcap0 : k + 1 + 0 ≤ 1086 ∧ n + 6 + 0 ≤ 13806) {q : (Int32 × Sg)} (hM : F_X6_place x1 x2 x3 s1 = some q) (hT : q.2 2200 0 = kx) (hO : kx = 0 → o1 0 = q.1.toInt64) (kk : AW Γ (HP q.2 o1) (k + 1) (n + 6) [some (.ref SCR), some (.ref 0), some (.ref 21), some (.ref 39), some (.int i), none, none] [] 1060) : AW Γ (HP s o) k n [some (.ref SCR), some (.ref 0), some (.ref 21), some (.ref 39), some (.int i), none, none] [] 390 := by
  refine A_aload_n C dL_law_390 rfl (pc' := 391) rfl ?_
  refine A_aload_n C dL_law_391 rfl (pc' := 392) rfl ?_
  refine A_iload C dL_law_392 rfl (pc' := 394) rfl ?_
  refine A_iconst C (x := 1) dL_law_394 (by decide) (pc' := 395) rfl ?_
  refine A_iadd C dL_law_395 (pc' := 396) rfl ?_
  refine A_sald C v1 dL_law_396 (pc' := 397) rfl ?_
  refine A_topi e1.symm ?_
  refine A_aload_n C dL_law_397 rfl (pc' := 398) rfl ?_
  refine A_iload C dL_law_398 rfl (pc' := 400) rfl ?_
  refine A_iconst C (x := 2) dL_law_400 (by decide) (pc' := 401) rfl ?_
  refine A_iadd C dL_law_401 (pc' := 402) rfl ?_
  refine A_sald C v2 dL_law_402 (pc' := 403) rfl ?_
  refine A_topi e2.symm ?_
  refine A_aload_n C dL_law_403 rfl (pc' := 404) rfl ?_
  refine A_iload C dL_law_404 rfl (pc' := 406) rfl ?_
  refine A_iconst C (x := 3) dL_law_406 (by decide) (pc' := 407) rfl ?_
  refine A_iadd C dL_law_407 (pc' := 408) rfl ?_
  refine A_sald C v3 dL_law_408 (pc' := 409) rfl ?_
  refine A_topi e3.symm ?_
  refine A_aload_n C dL_law_409 rfl (pc' := 410) rfl ?_
  refine A_callSW C (av := [.ref 0, .int x1, .int x2, .int x3, .ref 39]) (rest := []) (st2 := [.int kx]) (k2 := k + 1) (n2 := n + 6) hH mw_L_place lm_L_87 ws_L_place rfl rfl rfl hcap (Nat.le_of_ble_eq_true rfl) rfl rfl dL_law_410 rfl rfl rfl (pc' := 413) rfl ?_
  refine A_istore C (lv' := [some (.ref SCR), some (.ref 0), some (.ref 21), some (.ref 39), some (.int i), some (.int kx), none]) dL_law_413 rfl eN rfl rfl (pc' := 415) rfl ?_
  refine A_aload_n C dL_law_415 rfl (pc' := 416) rfl ?_
  refine A_aload_n C dL_law_416 rfl (pc' := 417) rfl ?_
  refine A_iload C dL_law_417 rfl (pc' := 419) rfl ?_
  refine A_iconst C (x := 1) dL_law_419 (by decide) (pc' := 420) rfl ?_
  refine A_iadd C dL_law_420 (pc' := 421) rfl ?_
  refine A_sald C v1 dL_law_421 (pc' := 422) rfl ?_
  refine A_topi e1.symm ?_
  refine A_aload_n C dL_law_422 rfl (pc' := 423) rfl ?_
  refine A_iload C dL_law_423 rfl (pc' := 425) rfl ?_
  refine A_iconst C (x := 2) dL_law_425 (by decide) (pc' := 426) rfl ?_
  refine A_iadd C dL_law_426 (pc' := 427) rfl ?_
  refine A_sald C v2 dL_law_427 (pc' := 428) rfl ?_
  refine A_topi e2.symm ?_
  refine A_aload_n C dL_law_428 rfl (pc' := 429) rfl ?_
  refine A_iload C dL_law_429 rfl (pc' := 431) rfl ?_
  refine A_iconst C (x := 3) dL_law_431 (by decide) (pc' := 432) rfl ?_
  refine A_iadd C dL_law_432 (pc' := 433) rfl ?_
  refine A_sald C v3 dL_law_433 (pc' := 434) rfl ?_
  refine A_topi e3.symm ?_
  refine A_callV C (av := [.int x1, .int x2, .int x3]) (rest := []) (st2 := [.int q.1]) (k2 := k + 1) (n2 := n + 6) (F_X6_place_ok hu hM) mk_X6_place lm_L_90 wi_X6_place wv_X6_place (HPg_21 s1 o1) rfl rfl rfl rfl hcap0 (Nat.le_of_ble_eq_true rfl) rfl rfl dL_law_434 rfl rfl rfl (pc' := 437) rfl ?_
  refine A_istore C (lv' := [some (.ref SCR), some (.ref 0), some (.ref 21), some (.ref 39), some (.int i), some (.int kx), some (.int q.1)]) dL_law_437 rfl eN rfl rfl (pc' := 439) rfl ?_
  refine A_aload_n C dL_law_439 rfl (pc' := 440) rfl ?_
  refine A_callV C (av := []) (rest := []) (st2 := [.int (q.2 2200 0)]) (k2 := k + 1) (n2 := n + 6) (F_X6_thrown_ok hu (rfl : F_X6_thrown q.2 = some (q.2 2200 0))) mk_X6_thrown lm_L_76 wi_X6_thrown wv_X6_thrown (HPg_21 q.2 o1) rfl rfl rfl rfl hcap0 (Nat.le_of_ble_eq_true rfl) rfl rfl dL_law_440 rfl rfl rfl (pc' := 443) rfl ?_
  refine A_iload C dL_law_443 rfl (pc' := 445) rfl ?_
  refine A_icmp_eq C dL_law_445 (tgt := 450) (by decide) (pc' := 448) rfl (fun _ => ?_) (fun c => absurd hT c)
  refine A_iload C dL_law_450 rfl (pc' := 452) rfl ?_
  refine A_if_ne C dL_law_452 (tgt := 467) (by decide) (pc' := 455) rfl (fun _ => ?_) (fun c6 => ?_)
  · refine A_goto C dL_law_467 (tgt := 1060) (by decide) ?_
    refine A_mask [true, true, true, true, true, false, false] (lv' := [some (.ref SCR), some (.ref 0), some (.ref 21), some (.ref 39), some (.int i), none, none]) rfl ?_
    exact kk
  · refine A_aload_n C dL_law_455 rfl (pc' := 456) rfl ?_
    refine A_iconst C (x := 0) dL_law_456 (by decide) (pc' := 457) rfl ?_
    refine A_lald C (HPg_39 q.2 o1) (ixb_in (by decide)) dL_law_457 (pc' := 458) rfl ?_
    refine A_iload C dL_law_458 rfl (pc' := 460) rfl ?_
    refine A_i2l C dL_law_460 (pc' := 461) rfl ?_
    refine A_lcmp C dL_law_461 (pc' := 462) rfl ?_
    refine A_if_eq C dL_law_462 (tgt := 467) (by decide) (pc' := 465) rfl (fun _ => ?_) (fun c => absurd (by rw [sb_cl0, hO c6]; exact lgc _) c)
    refine A_goto C dL_law_467 (tgt := 1060) (by decide) ?_
    refine A_mask [true, true, true, true, true, false, false] (lv' := [some (.ref SCR), some (.ref 0), some (.ref 21), some (.ref 39), some (.int i), none, none]) rfl ?_
    exact kk
set_option maxHeartbeats 4000000 in
set_option maxRecDepth 100000 in
theorem LC_drop {Γ : Cx} (hu : Un Γ.2.1) (eN : 7 = Γ.2.2.2.2.2) (C : Cok Γ cL_law RL (some .boolean) 10 1086 13806) {i : Int32} {s : Sg} {o : Nat → Int64} {k n : Nat} {x1 x2 : Int32} (v1 : vp_in (i + (1 : Int32)) Γ.2.1.2.2.2.1) (e1 : Γ.2.1.2.2.2.2.1 (i + (1 : Int32)).toNatClampNeg = x1) (v2 : vp_in (i + (2 : Int32)) Γ.2.1.2.2.2.1) (e2 : Γ.2.1.2.2.2.2.1 (i + (2 : Int32)).toNatClampNeg = x2) {kx : Int32} {s1 : Sg} {o1 : Nat → Int64} (hH : AMW Γ.2.1 (yL_drop, cL_drop, 5, (some .int)) hhL_drop 7 [.ref 0, .int x1, .int x2, .ref 39] (HP s o) (some (.int kx)) (HP s1 o1)) (hcap : k + 1 ≤ 1086 ∧ n + 6 ≤ 13806) (hcap0 : k + 1 + 0 ≤ 1086 ∧ n + 6 + 0 ≤ 13806) {q : (Int32 × Sg)} (hM : F_X6_drop x1 x2 s1 = some q) (hT : q.2 2200 0 = kx) (hO : kx = 0 → o1 0 = q.1.toInt64) (kk : AW Γ (HP q.2 o1) (k + 1) (n + 6) [some (.ref SCR), some (.ref 0), some (.ref 21), some (.ref 39), some (.int i), none, none] [] 1060) : AW Γ (HP s o) k n [some (.ref SCR), some (.ref 0), some (.ref 21), some (.ref 39), some (.int i), none, none] [] 470 := by
  refine A_aload_n C dL_law_470 rfl (pc' := 471) rfl ?_
  refine A_aload_n C dL_law_471 rfl (pc' := 472) rfl ?_
  refine A_iload C dL_law_472 rfl (pc' := 474) rfl ?_
  refine A_iconst C (x := 1) dL_law_474 (by decide) (pc' := 475) rfl ?_
  refine A_iadd C dL_law_475 (pc' := 476) rfl ?_
  refine A_sald C v1 dL_law_476 (pc' := 477) rfl ?_
  refine A_topi e1.symm ?_
  refine A_aload_n C dL_law_477 rfl (pc' := 478) rfl ?_
  refine A_iload C dL_law_478 rfl (pc' := 480) rfl ?_
  refine A_iconst C (x := 2) dL_law_480 (by decide) (pc' := 481) rfl ?_
  refine A_iadd C dL_law_481 (pc' := 482) rfl ?_
  refine A_sald C v2 dL_law_482 (pc' := 483) rfl ?_
  refine A_topi e2.symm ?_
  refine A_aload_n C dL_law_483 rfl (pc' := 484) rfl ?_
  refine A_callSW C (av := [.ref 0, .int x1, .int x2, .ref 39]) (rest := []) (st2 := [.int kx]) (k2 := k + 1) (n2 := n + 6) hH mw_L_drop lm_L_91 ws_L_drop rfl rfl rfl hcap (Nat.le_of_ble_eq_true rfl) rfl rfl dL_law_484 rfl rfl rfl (pc' := 487) rfl ?_
  refine A_istore C (lv' := [some (.ref SCR), some (.ref 0), some (.ref 21), some (.ref 39), some (.int i), some (.int kx), none]) dL_law_487 rfl eN rfl rfl (pc' := 489) rfl ?_
  refine A_aload_n C dL_law_489 rfl (pc' := 490) rfl ?_
  refine A_aload_n C dL_law_490 rfl (pc' := 491) rfl ?_
  refine A_iload C dL_law_491 rfl (pc' := 493) rfl ?_
  refine A_iconst C (x := 1) dL_law_493 (by decide) (pc' := 494) rfl ?_
  refine A_iadd C dL_law_494 (pc' := 495) rfl ?_
  refine A_sald C v1 dL_law_495 (pc' := 496) rfl ?_
  refine A_topi e1.symm ?_
  refine A_aload_n C dL_law_496 rfl (pc' := 497) rfl ?_
  refine A_iload C dL_law_497 rfl (pc' := 499) rfl ?_
  refine A_iconst C (x := 2) dL_law_499 (by decide) (pc' := 500) rfl ?_
  refine A_iadd C dL_law_500 (pc' := 501) rfl ?_
  refine A_sald C v2 dL_law_501 (pc' := 502) rfl ?_
  refine A_topi e2.symm ?_
  refine A_callV C (av := [.int x1, .int x2]) (rest := []) (st2 := [.int q.1]) (k2 := k + 1) (n2 := n + 6) (F_X6_drop_ok hu hM) mk_X6_drop lm_L_94 wi_X6_drop wv_X6_drop (HPg_21 s1 o1) rfl rfl rfl rfl hcap0 (Nat.le_of_ble_eq_true rfl) rfl rfl dL_law_502 rfl rfl rfl (pc' := 505) rfl ?_
  refine A_istore C (lv' := [some (.ref SCR), some (.ref 0), some (.ref 21), some (.ref 39), some (.int i), some (.int kx), some (.int q.1)]) dL_law_505 rfl eN rfl rfl (pc' := 507) rfl ?_
  refine A_aload_n C dL_law_507 rfl (pc' := 508) rfl ?_
  refine A_callV C (av := []) (rest := []) (st2 := [.int (q.2 2200 0)]) (k2 := k + 1) (n2 := n + 6) (F_X6_thrown_ok hu (rfl : F_X6_thrown q.2 = some (q.2 2200 0))) mk_X6_thrown lm_L_76 wi_X6_thrown wv_X6_thrown (HPg_21 q.2 o1) rfl rfl rfl rfl hcap0 (Nat.le_of_ble_eq_true rfl) rfl rfl dL_law_508 rfl rfl rfl (pc' := 511) rfl ?_
  refine A_iload C dL_law_511 rfl (pc' := 513) rfl ?_
  refine A_icmp_eq C dL_law_513 (tgt := 518) (by decide) (pc' := 516) rfl (fun _ => ?_) (fun c => absurd hT c)
  refine A_iload C dL_law_518 rfl (pc' := 520) rfl ?_
  refine A_if_ne C dL_law_520 (tgt := 535) (by decide) (pc' := 523) rfl (fun _ => ?_) (fun c6 => ?_)
  · refine A_goto C dL_law_535 (tgt := 1060) (by decide) ?_
    refine A_mask [true, true, true, true, true, false, false] (lv' := [some (.ref SCR), some (.ref 0), some (.ref 21), some (.ref 39), some (.int i), none, none]) rfl ?_
    exact kk
  · refine A_aload_n C dL_law_523 rfl (pc' := 524) rfl ?_
    refine A_iconst C (x := 0) dL_law_524 (by decide) (pc' := 525) rfl ?_
    refine A_lald C (HPg_39 q.2 o1) (ixb_in (by decide)) dL_law_525 (pc' := 526) rfl ?_
    refine A_iload C dL_law_526 rfl (pc' := 528) rfl ?_
    refine A_i2l C dL_law_528 (pc' := 529) rfl ?_
    refine A_lcmp C dL_law_529 (pc' := 530) rfl ?_
    refine A_if_eq C dL_law_530 (tgt := 535) (by decide) (pc' := 533) rfl (fun _ => ?_) (fun c => absurd (by rw [sb_cl0, hO c6]; exact lgc _) c)
    refine A_goto C dL_law_535 (tgt := 1060) (by decide) ?_
    refine A_mask [true, true, true, true, true, false, false] (lv' := [some (.ref SCR), some (.ref 0), some (.ref 21), some (.ref 39), some (.int i), none, none]) rfl ?_
    exact kk
set_option maxHeartbeats 4000000 in
set_option maxRecDepth 100000 in
theorem LC_fill {Γ : Cx} (hu : Un Γ.2.1) (eN : 7 = Γ.2.2.2.2.2) (C : Cok Γ cL_law RL (some .boolean) 10 1086 13806) {i : Int32} {s : Sg} {o : Nat → Int64} {k n : Nat} {x1 : Int32} (v1 : vp_in (i + (1 : Int32)) Γ.2.1.2.2.2.1) (e1 : Γ.2.1.2.2.2.2.1 (i + (1 : Int32)).toNatClampNeg = x1) {kx : Int32} {s1 : Sg} {o1 : Nat → Int64} (hH : AMW Γ.2.1 (yL_fill, cL_fill, 4, (some .int)) hhL_fill 7 [.ref 0, .int x1, .ref 39] (HP s o) (some (.int kx)) (HP s1 o1)) (hcap : k + 1 ≤ 1086 ∧ n + 6 ≤ 13806) (hcap0 : k + 1 + 0 ≤ 1086 ∧ n + 6 + 0 ≤ 13806) {q : (Int32 × Sg)} (hM : F_X6_fill x1 s1 = some q) (hT : q.2 2200 0 = kx) (hO : kx = 0 → o1 0 = q.1.toInt64) (kk : AW Γ (HP q.2 o1) (k + 1) (n + 6) [some (.ref SCR), some (.ref 0), some (.ref 21), some (.ref 39), some (.int i), none, none] [] 1060) : AW Γ (HP s o) k n [some (.ref SCR), some (.ref 0), some (.ref 21), some (.ref 39), some (.int i), none, none] [] 538 := by
  refine A_aload_n C dL_law_538 rfl (pc' := 539) rfl ?_
  refine A_aload_n C dL_law_539 rfl (pc' := 540) rfl ?_
  refine A_iload C dL_law_540 rfl (pc' := 542) rfl ?_
  refine A_iconst C (x := 1) dL_law_542 (by decide) (pc' := 543) rfl ?_
  refine A_iadd C dL_law_543 (pc' := 544) rfl ?_
  refine A_sald C v1 dL_law_544 (pc' := 545) rfl ?_
  refine A_topi e1.symm ?_
  refine A_aload_n C dL_law_545 rfl (pc' := 546) rfl ?_
  refine A_callSW C (av := [.ref 0, .int x1, .ref 39]) (rest := []) (st2 := [.int kx]) (k2 := k + 1) (n2 := n + 6) hH mw_L_fill lm_L_95 ws_L_fill rfl rfl rfl hcap (Nat.le_of_ble_eq_true rfl) rfl rfl dL_law_546 rfl rfl rfl (pc' := 549) rfl ?_
  refine A_istore C (lv' := [some (.ref SCR), some (.ref 0), some (.ref 21), some (.ref 39), some (.int i), some (.int kx), none]) dL_law_549 rfl eN rfl rfl (pc' := 551) rfl ?_
  refine A_aload_n C dL_law_551 rfl (pc' := 552) rfl ?_
  refine A_aload_n C dL_law_552 rfl (pc' := 553) rfl ?_
  refine A_iload C dL_law_553 rfl (pc' := 555) rfl ?_
  refine A_iconst C (x := 1) dL_law_555 (by decide) (pc' := 556) rfl ?_
  refine A_iadd C dL_law_556 (pc' := 557) rfl ?_
  refine A_sald C v1 dL_law_557 (pc' := 558) rfl ?_
  refine A_topi e1.symm ?_
  refine A_callV C (av := [.int x1]) (rest := []) (st2 := [.int q.1]) (k2 := k + 1) (n2 := n + 6) (F_X6_fill_ok hu hM) mk_X6_fill lm_L_98 wi_X6_fill wv_X6_fill (HPg_21 s1 o1) rfl rfl rfl rfl hcap0 (Nat.le_of_ble_eq_true rfl) rfl rfl dL_law_558 rfl rfl rfl (pc' := 561) rfl ?_
  refine A_istore C (lv' := [some (.ref SCR), some (.ref 0), some (.ref 21), some (.ref 39), some (.int i), some (.int kx), some (.int q.1)]) dL_law_561 rfl eN rfl rfl (pc' := 563) rfl ?_
  refine A_aload_n C dL_law_563 rfl (pc' := 564) rfl ?_
  refine A_callV C (av := []) (rest := []) (st2 := [.int (q.2 2200 0)]) (k2 := k + 1) (n2 := n + 6) (F_X6_thrown_ok hu (rfl : F_X6_thrown q.2 = some (q.2 2200 0))) mk_X6_thrown lm_L_76 wi_X6_thrown wv_X6_thrown (HPg_21 q.2 o1) rfl rfl rfl rfl hcap0 (Nat.le_of_ble_eq_true rfl) rfl rfl dL_law_564 rfl rfl rfl (pc' := 567) rfl ?_
  refine A_iload C dL_law_567 rfl (pc' := 569) rfl ?_
  refine A_icmp_eq C dL_law_569 (tgt := 574) (by decide) (pc' := 572) rfl (fun _ => ?_) (fun c => absurd hT c)
  refine A_iload C dL_law_574 rfl (pc' := 576) rfl ?_
  refine A_if_ne C dL_law_576 (tgt := 591) (by decide) (pc' := 579) rfl (fun _ => ?_) (fun c6 => ?_)
  · refine A_goto C dL_law_591 (tgt := 1060) (by decide) ?_
    refine A_mask [true, true, true, true, true, false, false] (lv' := [some (.ref SCR), some (.ref 0), some (.ref 21), some (.ref 39), some (.int i), none, none]) rfl ?_
    exact kk
  · refine A_aload_n C dL_law_579 rfl (pc' := 580) rfl ?_
    refine A_iconst C (x := 0) dL_law_580 (by decide) (pc' := 581) rfl ?_
    refine A_lald C (HPg_39 q.2 o1) (ixb_in (by decide)) dL_law_581 (pc' := 582) rfl ?_
    refine A_iload C dL_law_582 rfl (pc' := 584) rfl ?_
    refine A_i2l C dL_law_584 (pc' := 585) rfl ?_
    refine A_lcmp C dL_law_585 (pc' := 586) rfl ?_
    refine A_if_eq C dL_law_586 (tgt := 591) (by decide) (pc' := 589) rfl (fun _ => ?_) (fun c => absurd (by rw [sb_cl0, hO c6]; exact lgc _) c)
    refine A_goto C dL_law_591 (tgt := 1060) (by decide) ?_
    refine A_mask [true, true, true, true, true, false, false] (lv' := [some (.ref SCR), some (.ref 0), some (.ref 21), some (.ref 39), some (.int i), none, none]) rfl ?_
    exact kk
set_option maxHeartbeats 4000000 in
set_option maxRecDepth 100000 in
theorem LC_tries {Γ : Cx} (hu : Un Γ.2.1) (eN : 7 = Γ.2.2.2.2.2) (C : Cok Γ cL_law RL (some .boolean) 10 1086 13806) {i : Int32} {s : Sg} {o : Nat → Int64} {k n : Nat} (hcap0 : k + 0 ≤ 1086 ∧ n + 0 ≤ 13806) {r : Int32} (hD : F_X5_tries  s = some r) {q : (Int32 × Sg)} (hM : F_X6_tries  s = some q) (hT : r = q.1) (kk : AW Γ (HP q.2 o) k n [some (.ref SCR), some (.ref 0), some (.ref 21), some (.ref 39), some (.int i), none, none] [] 1060) : AW Γ (HP s o) k n [some (.ref SCR), some (.ref 0), some (.ref 21), some (.ref 39), some (.int i), none, none] [] 594 := by
  refine A_aload_n C dL_law_594 rfl (pc' := 595) rfl ?_
  refine A_callV C (av := []) (rest := []) (st2 := [.int r]) (k2 := k) (n2 := n) (F_X5_tries_ok hu hD) mk_X5_tries lm_L_99 wi_X5_tries wv_X5_tries (HPg_0 s o) rfl rfl rfl rfl hcap0 (Nat.le_of_ble_eq_true rfl) rfl rfl dL_law_595 rfl rfl rfl (pc' := 598) rfl ?_
  refine A_aload_n C dL_law_598 rfl (pc' := 599) rfl ?_
  refine A_callV C (av := []) (rest := [.int r]) (st2 := [.int q.1, .int r]) (k2 := k) (n2 := n) (F_X6_tries_ok hu hM) mk_X6_tries lm_L_102 wi_X6_tries wv_X6_tries (HPg_21 s o) rfl rfl rfl rfl hcap0 (Nat.le_of_ble_eq_true rfl) rfl rfl dL_law_599 rfl rfl rfl (pc' := 602) rfl ?_
  refine A_icmp_eq C dL_law_602 (tgt := 1060) (by decide) (pc' := 605) rfl (fun _ => ?_) (fun c => absurd hT c)
  refine A_mask [true, true, true, true, true, false, false] (lv' := [some (.ref SCR), some (.ref 0), some (.ref 21), some (.ref 39), some (.int i), none, none]) rfl ?_
  exact kk
set_option maxHeartbeats 4000000 in
set_option maxRecDepth 100000 in
theorem LC_period {Γ : Cx} (hu : Un Γ.2.1) (eN : 7 = Γ.2.2.2.2.2) (C : Cok Γ cL_law RL (some .boolean) 10 1086 13806) {i : Int32} {s : Sg} {o : Nat → Int64} {k n : Nat} {x1 x2 : Int32} (v1 : vp_in (i + (1 : Int32)) Γ.2.1.2.2.2.1) (e1 : Γ.2.1.2.2.2.2.1 (i + (1 : Int32)).toNatClampNeg = x1) (v2 : vp_in (i + (2 : Int32)) Γ.2.1.2.2.2.1) (e2 : Γ.2.1.2.2.2.2.1 (i + (2 : Int32)).toNatClampNeg = x2) {kx : Int32} {s1 : Sg} {o1 : Nat → Int64} (hH : AMW Γ.2.1 (yL_period, cL_period, 5, (some .int)) hhL_period 7 [.ref 0, .int x1, .int x2, .ref 39] (HP s o) (some (.int kx)) (HP s1 o1)) (hcap : k + 1 ≤ 1086 ∧ n + 6 ≤ 13806) (hcap0 : k + 1 + 0 ≤ 1086 ∧ n + 6 + 0 ≤ 13806) {q : (Int32 × Sg)} (hM : F_X6_period x1 x2 s1 = some q) (hT : q.2 2200 0 = kx) (hO : kx = 0 → o1 0 = q.1.toInt64) (kk : AW Γ (HP q.2 o1) (k + 1) (n + 6) [some (.ref SCR), some (.ref 0), some (.ref 21), some (.ref 39), some (.int i), none, none] [] 1060) : AW Γ (HP s o) k n [some (.ref SCR), some (.ref 0), some (.ref 21), some (.ref 39), some (.int i), none, none] [] 607 := by
  refine A_aload_n C dL_law_607 rfl (pc' := 608) rfl ?_
  refine A_aload_n C dL_law_608 rfl (pc' := 609) rfl ?_
  refine A_iload C dL_law_609 rfl (pc' := 611) rfl ?_
  refine A_iconst C (x := 1) dL_law_611 (by decide) (pc' := 612) rfl ?_
  refine A_iadd C dL_law_612 (pc' := 613) rfl ?_
  refine A_sald C v1 dL_law_613 (pc' := 614) rfl ?_
  refine A_topi e1.symm ?_
  refine A_aload_n C dL_law_614 rfl (pc' := 615) rfl ?_
  refine A_iload C dL_law_615 rfl (pc' := 617) rfl ?_
  refine A_iconst C (x := 2) dL_law_617 (by decide) (pc' := 618) rfl ?_
  refine A_iadd C dL_law_618 (pc' := 619) rfl ?_
  refine A_sald C v2 dL_law_619 (pc' := 620) rfl ?_
  refine A_topi e2.symm ?_
  refine A_aload_n C dL_law_620 rfl (pc' := 621) rfl ?_
  refine A_callSW C (av := [.ref 0, .int x1, .int x2, .ref 39]) (rest := []) (st2 := [.int kx]) (k2 := k + 1) (n2 := n + 6) hH mw_L_period lm_L_103 ws_L_period rfl rfl rfl hcap (Nat.le_of_ble_eq_true rfl) rfl rfl dL_law_621 rfl rfl rfl (pc' := 624) rfl ?_
  refine A_istore C (lv' := [some (.ref SCR), some (.ref 0), some (.ref 21), some (.ref 39), some (.int i), some (.int kx), none]) dL_law_624 rfl eN rfl rfl (pc' := 626) rfl ?_
  refine A_aload_n C dL_law_626 rfl (pc' := 627) rfl ?_
  refine A_aload_n C dL_law_627 rfl (pc' := 628) rfl ?_
  refine A_iload C dL_law_628 rfl (pc' := 630) rfl ?_
  refine A_iconst C (x := 1) dL_law_630 (by decide) (pc' := 631) rfl ?_
  refine A_iadd C dL_law_631 (pc' := 632) rfl ?_
  refine A_sald C v1 dL_law_632 (pc' := 633) rfl ?_
  refine A_topi e1.symm ?_
  refine A_aload_n C dL_law_633 rfl (pc' := 634) rfl ?_
  refine A_iload C dL_law_634 rfl (pc' := 636) rfl ?_
  refine A_iconst C (x := 2) dL_law_636 (by decide) (pc' := 637) rfl ?_
  refine A_iadd C dL_law_637 (pc' := 638) rfl ?_
  refine A_sald C v2 dL_law_638 (pc' := 639) rfl ?_
  refine A_topi e2.symm ?_
  refine A_callV C (av := [.int x1, .int x2]) (rest := []) (st2 := [.int q.1]) (k2 := k + 1) (n2 := n + 6) (F_X6_period_ok hu hM) mk_X6_period lm_L_105 wi_X6_period wv_X6_period (HPg_21 s1 o1) rfl rfl rfl rfl hcap0 (Nat.le_of_ble_eq_true rfl) rfl rfl dL_law_639 rfl rfl rfl (pc' := 642) rfl ?_
  refine A_istore C (lv' := [some (.ref SCR), some (.ref 0), some (.ref 21), some (.ref 39), some (.int i), some (.int kx), some (.int q.1)]) dL_law_642 rfl eN rfl rfl (pc' := 644) rfl ?_
  refine A_aload_n C dL_law_644 rfl (pc' := 645) rfl ?_
  refine A_callV C (av := []) (rest := []) (st2 := [.int (q.2 2200 0)]) (k2 := k + 1) (n2 := n + 6) (F_X6_thrown_ok hu (rfl : F_X6_thrown q.2 = some (q.2 2200 0))) mk_X6_thrown lm_L_76 wi_X6_thrown wv_X6_thrown (HPg_21 q.2 o1) rfl rfl rfl rfl hcap0 (Nat.le_of_ble_eq_true rfl) rfl rfl dL_law_645 rfl rfl rfl (pc' := 648) rfl ?_
  refine A_iload C dL_law_648 rfl (pc' := 650) rfl ?_
  refine A_icmp_eq C dL_law_650 (tgt := 655) (by decide) (pc' := 653) rfl (fun _ => ?_) (fun c => absurd hT c)
  refine A_iload C dL_law_655 rfl (pc' := 657) rfl ?_
  refine A_if_ne C dL_law_657 (tgt := 672) (by decide) (pc' := 660) rfl (fun _ => ?_) (fun c6 => ?_)
  · refine A_goto C dL_law_672 (tgt := 1060) (by decide) ?_
    refine A_mask [true, true, true, true, true, false, false] (lv' := [some (.ref SCR), some (.ref 0), some (.ref 21), some (.ref 39), some (.int i), none, none]) rfl ?_
    exact kk
  · refine A_aload_n C dL_law_660 rfl (pc' := 661) rfl ?_
    refine A_iconst C (x := 0) dL_law_661 (by decide) (pc' := 662) rfl ?_
    refine A_lald C (HPg_39 q.2 o1) (ixb_in (by decide)) dL_law_662 (pc' := 663) rfl ?_
    refine A_iload C dL_law_663 rfl (pc' := 665) rfl ?_
    refine A_i2l C dL_law_665 (pc' := 666) rfl ?_
    refine A_lcmp C dL_law_666 (pc' := 667) rfl ?_
    refine A_if_eq C dL_law_667 (tgt := 672) (by decide) (pc' := 670) rfl (fun _ => ?_) (fun c => absurd (by rw [sb_cl0, hO c6]; exact lgc _) c)
    refine A_goto C dL_law_672 (tgt := 1060) (by decide) ?_
    refine A_mask [true, true, true, true, true, false, false] (lv' := [some (.ref SCR), some (.ref 0), some (.ref 21), some (.ref 39), some (.int i), none, none]) rfl ?_
    exact kk
set_option maxHeartbeats 4000000 in
set_option maxRecDepth 100000 in
theorem LC_roomOf {Γ : Cx} (hu : Un Γ.2.1) (eN : 7 = Γ.2.2.2.2.2) (C : Cok Γ cL_law RL (some .boolean) 10 1086 13806) {i : Int32} {s : Sg} {o : Nat → Int64} {k n : Nat} {x1 x2 : Int32} (v1 : vp_in (i + (1 : Int32)) Γ.2.1.2.2.2.1) (e1 : Γ.2.1.2.2.2.2.1 (i + (1 : Int32)).toNatClampNeg = x1) (v2 : vp_in (i + (2 : Int32)) Γ.2.1.2.2.2.1) (e2 : Γ.2.1.2.2.2.2.1 (i + (2 : Int32)).toNatClampNeg = x2) {kx : Int32} {s1 : Sg} {o1 : Nat → Int64} (hH : AMW Γ.2.1 (yL_roomOf, cL_roomOf, 5, (some .int)) hhL_roomOf 7 [.ref 0, .int x1, .int x2, .ref 39] (HP s o) (some (.int kx)) (HP s1 o1)) (hcap : k + 1 ≤ 1086 ∧ n + 6 ≤ 13806) (hcap0 : k + 1 + 0 ≤ 1086 ∧ n + 6 + 0 ≤ 13806) {q : (Int32 × Sg)} (hM : F_X6_roomOf x1 x2 s1 = some q) (hT : q.2 2200 0 = kx) (hO : kx = 0 → o1 0 = q.1.toInt64) (kk : AW Γ (HP q.2 o1) (k + 1) (n + 6) [some (.ref SCR), some (.ref 0), some (.ref 21), some (.ref 39), some (.int i), none, none] [] 1060) : AW Γ (HP s o) k n [some (.ref SCR), some (.ref 0), some (.ref 21), some (.ref 39), some (.int i), none, none] [] 675 := by
  refine A_aload_n C dL_law_675 rfl (pc' := 676) rfl ?_
  refine A_aload_n C dL_law_676 rfl (pc' := 677) rfl ?_
  refine A_iload C dL_law_677 rfl (pc' := 679) rfl ?_
  refine A_iconst C (x := 1) dL_law_679 (by decide) (pc' := 680) rfl ?_
  refine A_iadd C dL_law_680 (pc' := 681) rfl ?_
  refine A_sald C v1 dL_law_681 (pc' := 682) rfl ?_
  refine A_topi e1.symm ?_
  refine A_aload_n C dL_law_682 rfl (pc' := 683) rfl ?_
  refine A_iload C dL_law_683 rfl (pc' := 685) rfl ?_
  refine A_iconst C (x := 2) dL_law_685 (by decide) (pc' := 686) rfl ?_
  refine A_iadd C dL_law_686 (pc' := 687) rfl ?_
  refine A_sald C v2 dL_law_687 (pc' := 688) rfl ?_
  refine A_topi e2.symm ?_
  refine A_aload_n C dL_law_688 rfl (pc' := 689) rfl ?_
  refine A_callSW C (av := [.ref 0, .int x1, .int x2, .ref 39]) (rest := []) (st2 := [.int kx]) (k2 := k + 1) (n2 := n + 6) hH mw_L_roomOf lm_L_106 ws_L_roomOf rfl rfl rfl hcap (Nat.le_of_ble_eq_true rfl) rfl rfl dL_law_689 rfl rfl rfl (pc' := 692) rfl ?_
  refine A_istore C (lv' := [some (.ref SCR), some (.ref 0), some (.ref 21), some (.ref 39), some (.int i), some (.int kx), none]) dL_law_692 rfl eN rfl rfl (pc' := 694) rfl ?_
  refine A_aload_n C dL_law_694 rfl (pc' := 695) rfl ?_
  refine A_aload_n C dL_law_695 rfl (pc' := 696) rfl ?_
  refine A_iload C dL_law_696 rfl (pc' := 698) rfl ?_
  refine A_iconst C (x := 1) dL_law_698 (by decide) (pc' := 699) rfl ?_
  refine A_iadd C dL_law_699 (pc' := 700) rfl ?_
  refine A_sald C v1 dL_law_700 (pc' := 701) rfl ?_
  refine A_topi e1.symm ?_
  refine A_aload_n C dL_law_701 rfl (pc' := 702) rfl ?_
  refine A_iload C dL_law_702 rfl (pc' := 704) rfl ?_
  refine A_iconst C (x := 2) dL_law_704 (by decide) (pc' := 705) rfl ?_
  refine A_iadd C dL_law_705 (pc' := 706) rfl ?_
  refine A_sald C v2 dL_law_706 (pc' := 707) rfl ?_
  refine A_topi e2.symm ?_
  refine A_callV C (av := [.int x1, .int x2]) (rest := []) (st2 := [.int q.1]) (k2 := k + 1) (n2 := n + 6) (F_X6_roomOf_ok hu hM) mk_X6_roomOf lm_L_108 wi_X6_roomOf wv_X6_roomOf (HPg_21 s1 o1) rfl rfl rfl rfl hcap0 (Nat.le_of_ble_eq_true rfl) rfl rfl dL_law_707 rfl rfl rfl (pc' := 710) rfl ?_
  refine A_istore C (lv' := [some (.ref SCR), some (.ref 0), some (.ref 21), some (.ref 39), some (.int i), some (.int kx), some (.int q.1)]) dL_law_710 rfl eN rfl rfl (pc' := 712) rfl ?_
  refine A_aload_n C dL_law_712 rfl (pc' := 713) rfl ?_
  refine A_callV C (av := []) (rest := []) (st2 := [.int (q.2 2200 0)]) (k2 := k + 1) (n2 := n + 6) (F_X6_thrown_ok hu (rfl : F_X6_thrown q.2 = some (q.2 2200 0))) mk_X6_thrown lm_L_76 wi_X6_thrown wv_X6_thrown (HPg_21 q.2 o1) rfl rfl rfl rfl hcap0 (Nat.le_of_ble_eq_true rfl) rfl rfl dL_law_713 rfl rfl rfl (pc' := 716) rfl ?_
  refine A_iload C dL_law_716 rfl (pc' := 718) rfl ?_
  refine A_icmp_eq C dL_law_718 (tgt := 723) (by decide) (pc' := 721) rfl (fun _ => ?_) (fun c => absurd hT c)
  refine A_iload C dL_law_723 rfl (pc' := 725) rfl ?_
  refine A_if_ne C dL_law_725 (tgt := 740) (by decide) (pc' := 728) rfl (fun _ => ?_) (fun c6 => ?_)
  · refine A_goto C dL_law_740 (tgt := 1060) (by decide) ?_
    refine A_mask [true, true, true, true, true, false, false] (lv' := [some (.ref SCR), some (.ref 0), some (.ref 21), some (.ref 39), some (.int i), none, none]) rfl ?_
    exact kk
  · refine A_aload_n C dL_law_728 rfl (pc' := 729) rfl ?_
    refine A_iconst C (x := 0) dL_law_729 (by decide) (pc' := 730) rfl ?_
    refine A_lald C (HPg_39 q.2 o1) (ixb_in (by decide)) dL_law_730 (pc' := 731) rfl ?_
    refine A_iload C dL_law_731 rfl (pc' := 733) rfl ?_
    refine A_i2l C dL_law_733 (pc' := 734) rfl ?_
    refine A_lcmp C dL_law_734 (pc' := 735) rfl ?_
    refine A_if_eq C dL_law_735 (tgt := 740) (by decide) (pc' := 738) rfl (fun _ => ?_) (fun c => absurd (by rw [sb_cl0, hO c6]; exact lgc _) c)
    refine A_goto C dL_law_740 (tgt := 1060) (by decide) ?_
    refine A_mask [true, true, true, true, true, false, false] (lv' := [some (.ref SCR), some (.ref 0), some (.ref 21), some (.ref 39), some (.int i), none, none]) rfl ?_
    exact kk
set_option maxHeartbeats 4000000 in
set_option maxRecDepth 100000 in
theorem LC_penalty {Γ : Cx} (hu : Un Γ.2.1) (eN : 7 = Γ.2.2.2.2.2) (C : Cok Γ cL_law RL (some .boolean) 10 1086 13806) {i : Int32} {s : Sg} {o : Nat → Int64} {k n : Nat} (hcap0 : k + 0 ≤ 1086 ∧ n + 0 ≤ 13806) {r : Int32} (hD : F_X5_penalty  s = some r) {q : (Int32 × Sg)} (hM : F_X6_penalty  s = some q) (hT : r = q.1) (kk : AW Γ (HP q.2 o) k n [some (.ref SCR), some (.ref 0), some (.ref 21), some (.ref 39), some (.int i), none, none] [] 1060) : AW Γ (HP s o) k n [some (.ref SCR), some (.ref 0), some (.ref 21), some (.ref 39), some (.int i), none, none] [] 743 := by
  refine A_aload_n C dL_law_743 rfl (pc' := 744) rfl ?_
  refine A_callV C (av := []) (rest := []) (st2 := [.int r]) (k2 := k) (n2 := n) (F_X5_penalty_ok hu hD) mk_X5_penalty lm_L_109 wi_X5_penalty wv_X5_penalty (HPg_0 s o) rfl rfl rfl rfl hcap0 (Nat.le_of_ble_eq_true rfl) rfl rfl dL_law_744 rfl rfl rfl (pc' := 747) rfl ?_
  refine A_aload_n C dL_law_747 rfl (pc' := 748) rfl ?_
  refine A_callV C (av := []) (rest := [.int r]) (st2 := [.int q.1, .int r]) (k2 := k) (n2 := n) (F_X6_penalty_ok hu hM) mk_X6_penalty lm_L_112 wi_X6_penalty wv_X6_penalty (HPg_21 s o) rfl rfl rfl rfl hcap0 (Nat.le_of_ble_eq_true rfl) rfl rfl dL_law_748 rfl rfl rfl (pc' := 751) rfl ?_
  refine A_icmp_eq C dL_law_751 (tgt := 1060) (by decide) (pc' := 754) rfl (fun _ => ?_) (fun c => absurd hT c)
  refine A_mask [true, true, true, true, true, false, false] (lv' := [some (.ref SCR), some (.ref 0), some (.ref 21), some (.ref 39), some (.int i), none, none]) rfl ?_
  exact kk
set_option maxHeartbeats 4000000 in
set_option maxRecDepth 100000 in
theorem LC_improve {Γ : Cx} (hu : Un Γ.2.1) (eN : 7 = Γ.2.2.2.2.2) (C : Cok Γ cL_law RL (some .boolean) 10 1086 13806) {i : Int32} {s : Sg} {o : Nat → Int64} {k n : Nat} {x1 : Int32} (v1 : vp_in (i + (1 : Int32)) Γ.2.1.2.2.2.1) (e1 : Γ.2.1.2.2.2.2.1 (i + (1 : Int32)).toNatClampNeg = x1) {kx : Int32} {s1 : Sg} {o1 : Nat → Int64} (hH : AMW Γ.2.1 (yL_improve, cL_improve, 4, (some .int)) hhL_improve 7 [.ref 0, .int x1, .ref 39] (HP s o) (some (.int kx)) (HP s1 o1)) (hcap : k + 1 ≤ 1086 ∧ n + 6 ≤ 13806) (hcap0 : k + 1 + 0 ≤ 1086 ∧ n + 6 + 0 ≤ 13806) {q : (Int32 × Sg)} (hM : F_X6_improve x1 s1 = some q) (hT : q.2 2200 0 = kx) (hO : kx = 0 → o1 0 = q.1.toInt64) (kk : AW Γ (HP q.2 o1) (k + 1) (n + 6) [some (.ref SCR), some (.ref 0), some (.ref 21), some (.ref 39), some (.int i), none, none] [] 1060) : AW Γ (HP s o) k n [some (.ref SCR), some (.ref 0), some (.ref 21), some (.ref 39), some (.int i), none, none] [] 756 := by
  refine A_aload_n C dL_law_756 rfl (pc' := 757) rfl ?_
  refine A_aload_n C dL_law_757 rfl (pc' := 758) rfl ?_
  refine A_iload C dL_law_758 rfl (pc' := 760) rfl ?_
  refine A_iconst C (x := 1) dL_law_760 (by decide) (pc' := 761) rfl ?_
  refine A_iadd C dL_law_761 (pc' := 762) rfl ?_
  refine A_sald C v1 dL_law_762 (pc' := 763) rfl ?_
  refine A_topi e1.symm ?_
  refine A_aload_n C dL_law_763 rfl (pc' := 764) rfl ?_
  refine A_callSW C (av := [.ref 0, .int x1, .ref 39]) (rest := []) (st2 := [.int kx]) (k2 := k + 1) (n2 := n + 6) hH mw_L_improve lm_L_113 ws_L_improve rfl rfl rfl hcap (Nat.le_of_ble_eq_true rfl) rfl rfl dL_law_764 rfl rfl rfl (pc' := 767) rfl ?_
  refine A_istore C (lv' := [some (.ref SCR), some (.ref 0), some (.ref 21), some (.ref 39), some (.int i), some (.int kx), none]) dL_law_767 rfl eN rfl rfl (pc' := 769) rfl ?_
  refine A_aload_n C dL_law_769 rfl (pc' := 770) rfl ?_
  refine A_aload_n C dL_law_770 rfl (pc' := 771) rfl ?_
  refine A_iload C dL_law_771 rfl (pc' := 773) rfl ?_
  refine A_iconst C (x := 1) dL_law_773 (by decide) (pc' := 774) rfl ?_
  refine A_iadd C dL_law_774 (pc' := 775) rfl ?_
  refine A_sald C v1 dL_law_775 (pc' := 776) rfl ?_
  refine A_topi e1.symm ?_
  refine A_callV C (av := [.int x1]) (rest := []) (st2 := [.int q.1]) (k2 := k + 1) (n2 := n + 6) (F_X6_improve_ok hu hM) mk_X6_improve lm_L_115 wi_X6_improve wv_X6_improve (HPg_21 s1 o1) rfl rfl rfl rfl hcap0 (Nat.le_of_ble_eq_true rfl) rfl rfl dL_law_776 rfl rfl rfl (pc' := 779) rfl ?_
  refine A_istore C (lv' := [some (.ref SCR), some (.ref 0), some (.ref 21), some (.ref 39), some (.int i), some (.int kx), some (.int q.1)]) dL_law_779 rfl eN rfl rfl (pc' := 781) rfl ?_
  refine A_aload_n C dL_law_781 rfl (pc' := 782) rfl ?_
  refine A_callV C (av := []) (rest := []) (st2 := [.int (q.2 2200 0)]) (k2 := k + 1) (n2 := n + 6) (F_X6_thrown_ok hu (rfl : F_X6_thrown q.2 = some (q.2 2200 0))) mk_X6_thrown lm_L_76 wi_X6_thrown wv_X6_thrown (HPg_21 q.2 o1) rfl rfl rfl rfl hcap0 (Nat.le_of_ble_eq_true rfl) rfl rfl dL_law_782 rfl rfl rfl (pc' := 785) rfl ?_
  refine A_iload C dL_law_785 rfl (pc' := 787) rfl ?_
  refine A_icmp_eq C dL_law_787 (tgt := 792) (by decide) (pc' := 790) rfl (fun _ => ?_) (fun c => absurd hT c)
  refine A_iload C dL_law_792 rfl (pc' := 794) rfl ?_
  refine A_if_ne C dL_law_794 (tgt := 809) (by decide) (pc' := 797) rfl (fun _ => ?_) (fun c6 => ?_)
  · refine A_goto C dL_law_809 (tgt := 1060) (by decide) ?_
    refine A_mask [true, true, true, true, true, false, false] (lv' := [some (.ref SCR), some (.ref 0), some (.ref 21), some (.ref 39), some (.int i), none, none]) rfl ?_
    exact kk
  · refine A_aload_n C dL_law_797 rfl (pc' := 798) rfl ?_
    refine A_iconst C (x := 0) dL_law_798 (by decide) (pc' := 799) rfl ?_
    refine A_lald C (HPg_39 q.2 o1) (ixb_in (by decide)) dL_law_799 (pc' := 800) rfl ?_
    refine A_iload C dL_law_800 rfl (pc' := 802) rfl ?_
    refine A_i2l C dL_law_802 (pc' := 803) rfl ?_
    refine A_lcmp C dL_law_803 (pc' := 804) rfl ?_
    refine A_if_eq C dL_law_804 (tgt := 809) (by decide) (pc' := 807) rfl (fun _ => ?_) (fun c => absurd (by rw [sb_cl0, hO c6]; exact lgc _) c)
    refine A_goto C dL_law_809 (tgt := 1060) (by decide) ?_
    refine A_mask [true, true, true, true, true, false, false] (lv' := [some (.ref SCR), some (.ref 0), some (.ref 21), some (.ref 39), some (.int i), none, none]) rfl ?_
    exact kk
set_option maxHeartbeats 4000000 in
set_option maxRecDepth 100000 in
theorem LC_absent {Γ : Cx} (hu : Un Γ.2.1) (eN : 7 = Γ.2.2.2.2.2) (C : Cok Γ cL_law RL (some .boolean) 10 1086 13806) {i : Int32} {s : Sg} {o : Nat → Int64} {k n : Nat} {x1 x2 : Int32} (v1 : vp_in (i + (1 : Int32)) Γ.2.1.2.2.2.1) (e1 : Γ.2.1.2.2.2.2.1 (i + (1 : Int32)).toNatClampNeg = x1) (v2 : vp_in (i + (2 : Int32)) Γ.2.1.2.2.2.1) (e2 : Γ.2.1.2.2.2.2.1 (i + (2 : Int32)).toNatClampNeg = x2) {kx : Int32} {s1 : Sg} {o1 : Nat → Int64} (hH : AMW Γ.2.1 (yL_absent, cL_absent, 5, (some .int)) hhL_absent 7 [.ref 0, .int x1, .int x2, .ref 39] (HP s o) (some (.int kx)) (HP s1 o1)) (hcap : k + 1 ≤ 1086 ∧ n + 6 ≤ 13806) (hcap0 : k + 1 + 0 ≤ 1086 ∧ n + 6 + 0 ≤ 13806) {q : (Int32 × Sg)} (hM : F_X6_absent x1 x2 s1 = some q) (hT : q.2 2200 0 = kx) (hO : kx = 0 → o1 0 = q.1.toInt64) (kk : AW Γ (HP q.2 o1) (k + 1) (n + 6) [some (.ref SCR), some (.ref 0), some (.ref 21), some (.ref 39), some (.int i), none, none] [] 1060) : AW Γ (HP s o) k n [some (.ref SCR), some (.ref 0), some (.ref 21), some (.ref 39), some (.int i), none, none] [] 812 := by
  refine A_aload_n C dL_law_812 rfl (pc' := 813) rfl ?_
  refine A_aload_n C dL_law_813 rfl (pc' := 814) rfl ?_
  refine A_iload C dL_law_814 rfl (pc' := 816) rfl ?_
  refine A_iconst C (x := 1) dL_law_816 (by decide) (pc' := 817) rfl ?_
  refine A_iadd C dL_law_817 (pc' := 818) rfl ?_
  refine A_sald C v1 dL_law_818 (pc' := 819) rfl ?_
  refine A_topi e1.symm ?_
  refine A_aload_n C dL_law_819 rfl (pc' := 820) rfl ?_
  refine A_iload C dL_law_820 rfl (pc' := 822) rfl ?_
  refine A_iconst C (x := 2) dL_law_822 (by decide) (pc' := 823) rfl ?_
  refine A_iadd C dL_law_823 (pc' := 824) rfl ?_
  refine A_sald C v2 dL_law_824 (pc' := 825) rfl ?_
  refine A_topi e2.symm ?_
  refine A_aload_n C dL_law_825 rfl (pc' := 826) rfl ?_
  refine A_callSW C (av := [.ref 0, .int x1, .int x2, .ref 39]) (rest := []) (st2 := [.int kx]) (k2 := k + 1) (n2 := n + 6) hH mw_L_absent lm_L_116 ws_L_absent rfl rfl rfl hcap (Nat.le_of_ble_eq_true rfl) rfl rfl dL_law_826 rfl rfl rfl (pc' := 829) rfl ?_
  refine A_istore C (lv' := [some (.ref SCR), some (.ref 0), some (.ref 21), some (.ref 39), some (.int i), some (.int kx), none]) dL_law_829 rfl eN rfl rfl (pc' := 831) rfl ?_
  refine A_aload_n C dL_law_831 rfl (pc' := 832) rfl ?_
  refine A_aload_n C dL_law_832 rfl (pc' := 833) rfl ?_
  refine A_iload C dL_law_833 rfl (pc' := 835) rfl ?_
  refine A_iconst C (x := 1) dL_law_835 (by decide) (pc' := 836) rfl ?_
  refine A_iadd C dL_law_836 (pc' := 837) rfl ?_
  refine A_sald C v1 dL_law_837 (pc' := 838) rfl ?_
  refine A_topi e1.symm ?_
  refine A_aload_n C dL_law_838 rfl (pc' := 839) rfl ?_
  refine A_iload C dL_law_839 rfl (pc' := 841) rfl ?_
  refine A_iconst C (x := 2) dL_law_841 (by decide) (pc' := 842) rfl ?_
  refine A_iadd C dL_law_842 (pc' := 843) rfl ?_
  refine A_sald C v2 dL_law_843 (pc' := 844) rfl ?_
  refine A_topi e2.symm ?_
  refine A_callV C (av := [.int x1, .int x2]) (rest := []) (st2 := [.int q.1]) (k2 := k + 1) (n2 := n + 6) (F_X6_absent_ok hu hM) mk_X6_absent lm_L_118 wi_X6_absent wv_X6_absent (HPg_21 s1 o1) rfl rfl rfl rfl hcap0 (Nat.le_of_ble_eq_true rfl) rfl rfl dL_law_844 rfl rfl rfl (pc' := 847) rfl ?_
  refine A_istore C (lv' := [some (.ref SCR), some (.ref 0), some (.ref 21), some (.ref 39), some (.int i), some (.int kx), some (.int q.1)]) dL_law_847 rfl eN rfl rfl (pc' := 849) rfl ?_
  refine A_aload_n C dL_law_849 rfl (pc' := 850) rfl ?_
  refine A_callV C (av := []) (rest := []) (st2 := [.int (q.2 2200 0)]) (k2 := k + 1) (n2 := n + 6) (F_X6_thrown_ok hu (rfl : F_X6_thrown q.2 = some (q.2 2200 0))) mk_X6_thrown lm_L_76 wi_X6_thrown wv_X6_thrown (HPg_21 q.2 o1) rfl rfl rfl rfl hcap0 (Nat.le_of_ble_eq_true rfl) rfl rfl dL_law_850 rfl rfl rfl (pc' := 853) rfl ?_
  refine A_iload C dL_law_853 rfl (pc' := 855) rfl ?_
  refine A_icmp_eq C dL_law_855 (tgt := 860) (by decide) (pc' := 858) rfl (fun _ => ?_) (fun c => absurd hT c)
  refine A_iload C dL_law_860 rfl (pc' := 862) rfl ?_
  refine A_if_ne C dL_law_862 (tgt := 877) (by decide) (pc' := 865) rfl (fun _ => ?_) (fun c6 => ?_)
  · refine A_goto C dL_law_877 (tgt := 1060) (by decide) ?_
    refine A_mask [true, true, true, true, true, false, false] (lv' := [some (.ref SCR), some (.ref 0), some (.ref 21), some (.ref 39), some (.int i), none, none]) rfl ?_
    exact kk
  · refine A_aload_n C dL_law_865 rfl (pc' := 866) rfl ?_
    refine A_iconst C (x := 0) dL_law_866 (by decide) (pc' := 867) rfl ?_
    refine A_lald C (HPg_39 q.2 o1) (ixb_in (by decide)) dL_law_867 (pc' := 868) rfl ?_
    refine A_iload C dL_law_868 rfl (pc' := 870) rfl ?_
    refine A_i2l C dL_law_870 (pc' := 871) rfl ?_
    refine A_lcmp C dL_law_871 (pc' := 872) rfl ?_
    refine A_if_eq C dL_law_872 (tgt := 877) (by decide) (pc' := 875) rfl (fun _ => ?_) (fun c => absurd (by rw [sb_cl0, hO c6]; exact lgc _) c)
    refine A_goto C dL_law_877 (tgt := 1060) (by decide) ?_
    refine A_mask [true, true, true, true, true, false, false] (lv' := [some (.ref SCR), some (.ref 0), some (.ref 21), some (.ref 39), some (.int i), none, none]) rfl ?_
    exact kk
set_option maxHeartbeats 4000000 in
set_option maxRecDepth 100000 in
theorem LC_substitute {Γ : Cx} (hu : Un Γ.2.1) (eN : 7 = Γ.2.2.2.2.2) (C : Cok Γ cL_law RL (some .boolean) 10 1086 13806) {i : Int32} {s : Sg} {o : Nat → Int64} {k n : Nat} {x1 : Int32} (v1 : vp_in (i + (1 : Int32)) Γ.2.1.2.2.2.1) (e1 : Γ.2.1.2.2.2.2.1 (i + (1 : Int32)).toNatClampNeg = x1) {kx : Int32} {s1 : Sg} {o1 : Nat → Int64} (hH : AMW Γ.2.1 (yL_substitute, cL_substitute, 4, (some .int)) hhL_substitute 7 [.ref 0, .int x1, .ref 39] (HP s o) (some (.int kx)) (HP s1 o1)) (hcap : k + 1 ≤ 1086 ∧ n + 6 ≤ 13806) (hcap0 : k + 1 + 0 ≤ 1086 ∧ n + 6 + 0 ≤ 13806) {q : (Int32 × Sg)} (hM : F_X6_substitute x1 s1 = some q) (hT : q.2 2200 0 = kx) (hO : kx = 0 → o1 0 = q.1.toInt64) (kk : AW Γ (HP q.2 o1) (k + 1) (n + 6) [some (.ref SCR), some (.ref 0), some (.ref 21), some (.ref 39), some (.int i), none, none] [] 1060) : AW Γ (HP s o) k n [some (.ref SCR), some (.ref 0), some (.ref 21), some (.ref 39), some (.int i), none, none] [] 880 := by
  refine A_aload_n C dL_law_880 rfl (pc' := 881) rfl ?_
  refine A_aload_n C dL_law_881 rfl (pc' := 882) rfl ?_
  refine A_iload C dL_law_882 rfl (pc' := 884) rfl ?_
  refine A_iconst C (x := 1) dL_law_884 (by decide) (pc' := 885) rfl ?_
  refine A_iadd C dL_law_885 (pc' := 886) rfl ?_
  refine A_sald C v1 dL_law_886 (pc' := 887) rfl ?_
  refine A_topi e1.symm ?_
  refine A_aload_n C dL_law_887 rfl (pc' := 888) rfl ?_
  refine A_callSW C (av := [.ref 0, .int x1, .ref 39]) (rest := []) (st2 := [.int kx]) (k2 := k + 1) (n2 := n + 6) hH mw_L_substitute lm_L_119 ws_L_substitute rfl rfl rfl hcap (Nat.le_of_ble_eq_true rfl) rfl rfl dL_law_888 rfl rfl rfl (pc' := 891) rfl ?_
  refine A_istore C (lv' := [some (.ref SCR), some (.ref 0), some (.ref 21), some (.ref 39), some (.int i), some (.int kx), none]) dL_law_891 rfl eN rfl rfl (pc' := 893) rfl ?_
  refine A_aload_n C dL_law_893 rfl (pc' := 894) rfl ?_
  refine A_aload_n C dL_law_894 rfl (pc' := 895) rfl ?_
  refine A_iload C dL_law_895 rfl (pc' := 897) rfl ?_
  refine A_iconst C (x := 1) dL_law_897 (by decide) (pc' := 898) rfl ?_
  refine A_iadd C dL_law_898 (pc' := 899) rfl ?_
  refine A_sald C v1 dL_law_899 (pc' := 900) rfl ?_
  refine A_topi e1.symm ?_
  refine A_callV C (av := [.int x1]) (rest := []) (st2 := [.int q.1]) (k2 := k + 1) (n2 := n + 6) (F_X6_substitute_ok hu hM) mk_X6_substitute lm_L_121 wi_X6_substitute wv_X6_substitute (HPg_21 s1 o1) rfl rfl rfl rfl hcap0 (Nat.le_of_ble_eq_true rfl) rfl rfl dL_law_900 rfl rfl rfl (pc' := 903) rfl ?_
  refine A_istore C (lv' := [some (.ref SCR), some (.ref 0), some (.ref 21), some (.ref 39), some (.int i), some (.int kx), some (.int q.1)]) dL_law_903 rfl eN rfl rfl (pc' := 905) rfl ?_
  refine A_aload_n C dL_law_905 rfl (pc' := 906) rfl ?_
  refine A_callV C (av := []) (rest := []) (st2 := [.int (q.2 2200 0)]) (k2 := k + 1) (n2 := n + 6) (F_X6_thrown_ok hu (rfl : F_X6_thrown q.2 = some (q.2 2200 0))) mk_X6_thrown lm_L_76 wi_X6_thrown wv_X6_thrown (HPg_21 q.2 o1) rfl rfl rfl rfl hcap0 (Nat.le_of_ble_eq_true rfl) rfl rfl dL_law_906 rfl rfl rfl (pc' := 909) rfl ?_
  refine A_iload C dL_law_909 rfl (pc' := 911) rfl ?_
  refine A_icmp_eq C dL_law_911 (tgt := 916) (by decide) (pc' := 914) rfl (fun _ => ?_) (fun c => absurd hT c)
  refine A_iload C dL_law_916 rfl (pc' := 918) rfl ?_
  refine A_if_ne C dL_law_918 (tgt := 933) (by decide) (pc' := 921) rfl (fun _ => ?_) (fun c6 => ?_)
  · refine A_goto C dL_law_933 (tgt := 1060) (by decide) ?_
    refine A_mask [true, true, true, true, true, false, false] (lv' := [some (.ref SCR), some (.ref 0), some (.ref 21), some (.ref 39), some (.int i), none, none]) rfl ?_
    exact kk
  · refine A_aload_n C dL_law_921 rfl (pc' := 922) rfl ?_
    refine A_iconst C (x := 0) dL_law_922 (by decide) (pc' := 923) rfl ?_
    refine A_lald C (HPg_39 q.2 o1) (ixb_in (by decide)) dL_law_923 (pc' := 924) rfl ?_
    refine A_iload C dL_law_924 rfl (pc' := 926) rfl ?_
    refine A_i2l C dL_law_926 (pc' := 927) rfl ?_
    refine A_lcmp C dL_law_927 (pc' := 928) rfl ?_
    refine A_if_eq C dL_law_928 (tgt := 933) (by decide) (pc' := 931) rfl (fun _ => ?_) (fun c => absurd (by rw [sb_cl0, hO c6]; exact lgc _) c)
    refine A_goto C dL_law_933 (tgt := 1060) (by decide) ?_
    refine A_mask [true, true, true, true, true, false, false] (lv' := [some (.ref SCR), some (.ref 0), some (.ref 21), some (.ref 39), some (.int i), none, none]) rfl ?_
    exact kk
set_option maxHeartbeats 4000000 in
set_option maxRecDepth 100000 in
theorem LC_undo {Γ : Cx} (hu : Un Γ.2.1) (eN : 7 = Γ.2.2.2.2.2) (C : Cok Γ cL_law RL (some .boolean) 10 1086 13806) {i : Int32} {s : Sg} {o : Nat → Int64} {k n : Nat} {kx : Int32} {s1 : Sg} {o1 : Nat → Int64} (hH : AMW Γ.2.1 (yL_undo, cL_undo, 3, (some .int)) hhL_undo 7 [.ref 0, .ref 39] (HP s o) (some (.int kx)) (HP s1 o1)) (hcap : k + 1 ≤ 1086 ∧ n + 6 ≤ 13806) (hcap0 : k + 1 + 0 ≤ 1086 ∧ n + 6 + 0 ≤ 13806) {q : (Int32 × Sg)} (hM : F_X6_undo  s1 = some q) (hT : q.2 2200 0 = kx) (hO : kx = 0 → o1 0 = q.1.toInt64) (kk : AW Γ (HP q.2 o1) (k + 1) (n + 6) [some (.ref SCR), some (.ref 0), some (.ref 21), some (.ref 39), some (.int i), none, none] [] 1060) : AW Γ (HP s o) k n [some (.ref SCR), some (.ref 0), some (.ref 21), some (.ref 39), some (.int i), none, none] [] 936 := by
  refine A_aload_n C dL_law_936 rfl (pc' := 937) rfl ?_
  refine A_aload_n C dL_law_937 rfl (pc' := 938) rfl ?_
  refine A_callSW C (av := [.ref 0, .ref 39]) (rest := []) (st2 := [.int kx]) (k2 := k + 1) (n2 := n + 6) hH mw_L_undo lm_L_122 ws_L_undo rfl rfl rfl hcap (Nat.le_of_ble_eq_true rfl) rfl rfl dL_law_938 rfl rfl rfl (pc' := 941) rfl ?_
  refine A_istore C (lv' := [some (.ref SCR), some (.ref 0), some (.ref 21), some (.ref 39), some (.int i), some (.int kx), none]) dL_law_941 rfl eN rfl rfl (pc' := 943) rfl ?_
  refine A_aload_n C dL_law_943 rfl (pc' := 944) rfl ?_
  refine A_callV C (av := []) (rest := []) (st2 := [.int q.1]) (k2 := k + 1) (n2 := n + 6) (F_X6_undo_ok hu hM) mk_X6_undo lm_L_125 wi_X6_undo wv_X6_undo (HPg_21 s1 o1) rfl rfl rfl rfl hcap0 (Nat.le_of_ble_eq_true rfl) rfl rfl dL_law_944 rfl rfl rfl (pc' := 947) rfl ?_
  refine A_istore C (lv' := [some (.ref SCR), some (.ref 0), some (.ref 21), some (.ref 39), some (.int i), some (.int kx), some (.int q.1)]) dL_law_947 rfl eN rfl rfl (pc' := 949) rfl ?_
  refine A_aload_n C dL_law_949 rfl (pc' := 950) rfl ?_
  refine A_callV C (av := []) (rest := []) (st2 := [.int (q.2 2200 0)]) (k2 := k + 1) (n2 := n + 6) (F_X6_thrown_ok hu (rfl : F_X6_thrown q.2 = some (q.2 2200 0))) mk_X6_thrown lm_L_76 wi_X6_thrown wv_X6_thrown (HPg_21 q.2 o1) rfl rfl rfl rfl hcap0 (Nat.le_of_ble_eq_true rfl) rfl rfl dL_law_950 rfl rfl rfl (pc' := 953) rfl ?_
  refine A_iload C dL_law_953 rfl (pc' := 955) rfl ?_
  refine A_icmp_eq C dL_law_955 (tgt := 960) (by decide) (pc' := 958) rfl (fun _ => ?_) (fun c => absurd hT c)
  refine A_iload C dL_law_960 rfl (pc' := 962) rfl ?_
  refine A_if_ne C dL_law_962 (tgt := 977) (by decide) (pc' := 965) rfl (fun _ => ?_) (fun c6 => ?_)
  · refine A_goto C dL_law_977 (tgt := 1060) (by decide) ?_
    refine A_mask [true, true, true, true, true, false, false] (lv' := [some (.ref SCR), some (.ref 0), some (.ref 21), some (.ref 39), some (.int i), none, none]) rfl ?_
    exact kk
  · refine A_aload_n C dL_law_965 rfl (pc' := 966) rfl ?_
    refine A_iconst C (x := 0) dL_law_966 (by decide) (pc' := 967) rfl ?_
    refine A_lald C (HPg_39 q.2 o1) (ixb_in (by decide)) dL_law_967 (pc' := 968) rfl ?_
    refine A_iload C dL_law_968 rfl (pc' := 970) rfl ?_
    refine A_i2l C dL_law_970 (pc' := 971) rfl ?_
    refine A_lcmp C dL_law_971 (pc' := 972) rfl ?_
    refine A_if_eq C dL_law_972 (tgt := 977) (by decide) (pc' := 975) rfl (fun _ => ?_) (fun c => absurd (by rw [sb_cl0, hO c6]; exact lgc _) c)
    refine A_goto C dL_law_977 (tgt := 1060) (by decide) ?_
    refine A_mask [true, true, true, true, true, false, false] (lv' := [some (.ref SCR), some (.ref 0), some (.ref 21), some (.ref 39), some (.int i), none, none]) rfl ?_
    exact kk
set_option maxHeartbeats 4000000 in
set_option maxRecDepth 100000 in
theorem LC_page {Γ : Cx} (hu : Un Γ.2.1) (eN : 7 = Γ.2.2.2.2.2) (C : Cok Γ cL_law RL (some .boolean) 10 1086 13806) {i : Int32} {s : Sg} {o : Nat → Int64} {k n : Nat} {x1 x2 x3 : Int32} (v1 : vp_in (i + (1 : Int32)) Γ.2.1.2.2.2.1) (e1 : Γ.2.1.2.2.2.2.1 (i + (1 : Int32)).toNatClampNeg = x1) (v2 : vp_in (i + (2 : Int32)) Γ.2.1.2.2.2.1) (e2 : Γ.2.1.2.2.2.2.1 (i + (2 : Int32)).toNatClampNeg = x2) (v3 : vp_in (i + (3 : Int32)) Γ.2.1.2.2.2.1) (e3 : Γ.2.1.2.2.2.2.1 (i + (3 : Int32)).toNatClampNeg = x3) {kx : Int32} {s1 : Sg} {o1 : Nat → Int64} (hH : AMW Γ.2.1 (yL_page, cL_page, 6, (some .int)) hhL_page 7 [.ref 0, .int x1, .int x2, .int x3, .ref 39] (HP s o) (some (.int kx)) (HP s1 o1)) (hcap : k + 1 ≤ 1086 ∧ n + 6 ≤ 13806) (hcap0 : k + 1 + 0 ≤ 1086 ∧ n + 6 + 0 ≤ 13806) {q : (Int32 × Sg)} (hM : F_X6_page x1 x2 x3 s1 = some q) (hT : q.2 2200 0 = kx) (hO : kx = 0 → o1 0 = q.1.toInt64) (kk : AW Γ (HP q.2 o1) (k + 1) (n + 6) [some (.ref SCR), some (.ref 0), some (.ref 21), some (.ref 39), some (.int i), none, none] [] 1060) : AW Γ (HP s o) k n [some (.ref SCR), some (.ref 0), some (.ref 21), some (.ref 39), some (.int i), none, none] [] 980 := by
  refine A_aload_n C dL_law_980 rfl (pc' := 981) rfl ?_
  refine A_aload_n C dL_law_981 rfl (pc' := 982) rfl ?_
  refine A_iload C dL_law_982 rfl (pc' := 984) rfl ?_
  refine A_iconst C (x := 1) dL_law_984 (by decide) (pc' := 985) rfl ?_
  refine A_iadd C dL_law_985 (pc' := 986) rfl ?_
  refine A_sald C v1 dL_law_986 (pc' := 987) rfl ?_
  refine A_topi e1.symm ?_
  refine A_aload_n C dL_law_987 rfl (pc' := 988) rfl ?_
  refine A_iload C dL_law_988 rfl (pc' := 990) rfl ?_
  refine A_iconst C (x := 2) dL_law_990 (by decide) (pc' := 991) rfl ?_
  refine A_iadd C dL_law_991 (pc' := 992) rfl ?_
  refine A_sald C v2 dL_law_992 (pc' := 993) rfl ?_
  refine A_topi e2.symm ?_
  refine A_aload_n C dL_law_993 rfl (pc' := 994) rfl ?_
  refine A_iload C dL_law_994 rfl (pc' := 996) rfl ?_
  refine A_iconst C (x := 3) dL_law_996 (by decide) (pc' := 997) rfl ?_
  refine A_iadd C dL_law_997 (pc' := 998) rfl ?_
  refine A_sald C v3 dL_law_998 (pc' := 999) rfl ?_
  refine A_topi e3.symm ?_
  refine A_aload_n C dL_law_999 rfl (pc' := 1000) rfl ?_
  refine A_callSW C (av := [.ref 0, .int x1, .int x2, .int x3, .ref 39]) (rest := []) (st2 := [.int kx]) (k2 := k + 1) (n2 := n + 6) hH mw_L_page lm_L_126 ws_L_page rfl rfl rfl hcap (Nat.le_of_ble_eq_true rfl) rfl rfl dL_law_1000 rfl rfl rfl (pc' := 1003) rfl ?_
  refine A_istore C (lv' := [some (.ref SCR), some (.ref 0), some (.ref 21), some (.ref 39), some (.int i), some (.int kx), none]) dL_law_1003 rfl eN rfl rfl (pc' := 1005) rfl ?_
  refine A_aload_n C dL_law_1005 rfl (pc' := 1006) rfl ?_
  refine A_aload_n C dL_law_1006 rfl (pc' := 1007) rfl ?_
  refine A_iload C dL_law_1007 rfl (pc' := 1009) rfl ?_
  refine A_iconst C (x := 1) dL_law_1009 (by decide) (pc' := 1010) rfl ?_
  refine A_iadd C dL_law_1010 (pc' := 1011) rfl ?_
  refine A_sald C v1 dL_law_1011 (pc' := 1012) rfl ?_
  refine A_topi e1.symm ?_
  refine A_aload_n C dL_law_1012 rfl (pc' := 1013) rfl ?_
  refine A_iload C dL_law_1013 rfl (pc' := 1015) rfl ?_
  refine A_iconst C (x := 2) dL_law_1015 (by decide) (pc' := 1016) rfl ?_
  refine A_iadd C dL_law_1016 (pc' := 1017) rfl ?_
  refine A_sald C v2 dL_law_1017 (pc' := 1018) rfl ?_
  refine A_topi e2.symm ?_
  refine A_aload_n C dL_law_1018 rfl (pc' := 1019) rfl ?_
  refine A_iload C dL_law_1019 rfl (pc' := 1021) rfl ?_
  refine A_iconst C (x := 3) dL_law_1021 (by decide) (pc' := 1022) rfl ?_
  refine A_iadd C dL_law_1022 (pc' := 1023) rfl ?_
  refine A_sald C v3 dL_law_1023 (pc' := 1024) rfl ?_
  refine A_topi e3.symm ?_
  refine A_callV C (av := [.int x1, .int x2, .int x3]) (rest := []) (st2 := [.int q.1]) (k2 := k + 1) (n2 := n + 6) (F_X6_page_ok hu hM) mk_X6_page lm_L_128 wi_X6_page wv_X6_page (HPg_21 s1 o1) rfl rfl rfl rfl hcap0 (Nat.le_of_ble_eq_true rfl) rfl rfl dL_law_1024 rfl rfl rfl (pc' := 1027) rfl ?_
  refine A_istore C (lv' := [some (.ref SCR), some (.ref 0), some (.ref 21), some (.ref 39), some (.int i), some (.int kx), some (.int q.1)]) dL_law_1027 rfl eN rfl rfl (pc' := 1029) rfl ?_
  refine A_aload_n C dL_law_1029 rfl (pc' := 1030) rfl ?_
  refine A_callV C (av := []) (rest := []) (st2 := [.int (q.2 2200 0)]) (k2 := k + 1) (n2 := n + 6) (F_X6_thrown_ok hu (rfl : F_X6_thrown q.2 = some (q.2 2200 0))) mk_X6_thrown lm_L_76 wi_X6_thrown wv_X6_thrown (HPg_21 q.2 o1) rfl rfl rfl rfl hcap0 (Nat.le_of_ble_eq_true rfl) rfl rfl dL_law_1030 rfl rfl rfl (pc' := 1033) rfl ?_
  refine A_iload C dL_law_1033 rfl (pc' := 1035) rfl ?_
  refine A_icmp_eq C dL_law_1035 (tgt := 1040) (by decide) (pc' := 1038) rfl (fun _ => ?_) (fun c => absurd hT c)
  refine A_iload C dL_law_1040 rfl (pc' := 1042) rfl ?_
  refine A_if_ne C dL_law_1042 (tgt := 1057) (by decide) (pc' := 1045) rfl (fun _ => ?_) (fun c6 => ?_)
  · refine A_goto C dL_law_1057 (tgt := 1060) (by decide) ?_
    refine A_mask [true, true, true, true, true, false, false] (lv' := [some (.ref SCR), some (.ref 0), some (.ref 21), some (.ref 39), some (.int i), none, none]) rfl ?_
    exact kk
  · refine A_aload_n C dL_law_1045 rfl (pc' := 1046) rfl ?_
    refine A_iconst C (x := 0) dL_law_1046 (by decide) (pc' := 1047) rfl ?_
    refine A_lald C (HPg_39 q.2 o1) (ixb_in (by decide)) dL_law_1047 (pc' := 1048) rfl ?_
    refine A_iload C dL_law_1048 rfl (pc' := 1050) rfl ?_
    refine A_i2l C dL_law_1050 (pc' := 1051) rfl ?_
    refine A_lcmp C dL_law_1051 (pc' := 1052) rfl ?_
    refine A_if_eq C dL_law_1052 (tgt := 1057) (by decide) (pc' := 1055) rfl (fun _ => ?_) (fun c => absurd (by rw [sb_cl0, hO c6]; exact lgc _) c)
    refine A_goto C dL_law_1057 (tgt := 1060) (by decide) ?_
    refine A_mask [true, true, true, true, true, false, false] (lv' := [some (.ref SCR), some (.ref 0), some (.ref 21), some (.ref 39), some (.int i), none, none]) rfl ?_
    exact kk
