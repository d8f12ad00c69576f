def F_X2_keep (s : Sg) : Option Sg :=
  if (20 : Int32) ≤ (s 702 0) then
    bnd (va_up s 701 (fun _ => (((s 701 0) + (1 : Int32)) - ((s 701 0) + (1 : Int32)) / (21 : Int32) * (21 : Int32)))) fun s2 =>
    some s2
  else
    bnd (va_up s 702 (fun _ => ((s 702 0) + (1 : Int32)))) fun s4 =>
    some s4
set_option maxHeartbeats 4000000 in
set_option maxRecDepth 100000 in
theorem F_X2_keep_ok {u : Uv} (hu : Un u) {s : Sg} {o : Nat → Int64} {r : Sg} (hF : F_X2_keep  s = some r) : AM u (yX2_keep, cX2_keep, 1, none) 0 0 0 [.ref 6] (HP s o) none (HP r o) := by
  refine AM.of hu (lv := [some (.ref 6)]) (by decide) rfl (Nat.le_of_ble_eq_true rfl) rfl ?_
  intro Γ eu eN C T
  subst eu
  have C : Cok Γ cX2_keep RX2 none 0 0 0 := C
  unfold F_X2_keep at hF
  refine A_aload_n C dX2_keep_0 rfl (pc' := 1) rfl ?_
  refine A_get C (j := 2) cl_X2 rfl rfl lf_X2_19 dX2_keep_1 (HPg_6 s o) rfl (pc' := 4) rfl ?_
  refine A_bipush C (x := 20) dX2_keep_4 (by decide) (pc' := 6) rfl ?_
  refine A_icmp_ge C dX2_keep_6 (tgt := 22) (by decide) (pc' := 9) rfl (fun c1 => ?_) (fun c1 => ?_)
  · rw [if_pos c1] at hF
    refine A_aload_n C dX2_keep_22 rfl (pc' := 23) rfl ?_
    refine A_aload_n C dX2_keep_23 rfl (pc' := 24) rfl ?_
    refine A_get C (j := 1) cl_X2 rfl rfl lf_X2_15 dX2_keep_24 (HPg_6 s o) rfl (pc' := 27) rfl ?_
    refine A_iconst C (x := 1) dX2_keep_27 (by decide) (pc' := 28) rfl ?_
    refine A_iadd C dX2_keep_28 (pc' := 29) rfl ?_
    refine A_bipush C (x := 21) dX2_keep_29 (by decide) (pc' := 31) rfl ?_
    refine A_irem C dX2_keep_31 (by decide) (pc' := 32) rfl ?_
    obtain ⟨s2, e3, hF⟩ := bnd_some hF
    refine A_put C (j := 1) (h1 := HP s2 o) tyX2 tyX2_ok nmX2 cl_X2 rfl rfl lf_X2_15 rfl (tyX2_ok 1 (by decide)) (fun _ => rfl) (fun _ => rfl) rfl dX2_keep_32 (HPg_6 s o) (by rw [e3]; exact HPp_6_1 s o _) (pc' := 35) rfl ?_
    cases hF
    exact A_vret C T (Nat.le_refl _) (Nat.le_refl _) dX2_keep_35
  · rw [if_neg c1] at hF
    refine A_aload_n C dX2_keep_9 rfl (pc' := 10) rfl ?_
    refine A_dup C dX2_keep_10 rfl (pc' := 11) rfl ?_
    refine A_get C (j := 2) cl_X2 rfl rfl lf_X2_19 dX2_keep_11 (HPg_6 s o) rfl (pc' := 14) rfl ?_
    refine A_iconst C (x := 1) dX2_keep_14 (by decide) (pc' := 15) rfl ?_
    refine A_iadd C dX2_keep_15 (pc' := 16) rfl ?_
    obtain ⟨s4, e5, hF⟩ := bnd_some hF
    refine A_put C (j := 2) (h1 := HP s4 o) tyX2 tyX2_ok nmX2 cl_X2 rfl rfl lf_X2_19 rfl (tyX2_ok 2 (by decide)) (fun _ => rfl) (fun _ => rfl) rfl dX2_keep_16 (HPg_6 s o) (by rw [e5]; exact HPp_6_2 s o _) (pc' := 19) rfl ?_
    refine A_goto C dX2_keep_19 (tgt := 35) (by decide) ?_
    cases hF
    exact A_vret C T (Nat.le_refl _) (Nat.le_refl _) dX2_keep_35
def F_X5_tries (s : Sg) : Option Int32 :=
  some (s 203 0)
set_option maxHeartbeats 4000000 in
set_option maxRecDepth 100000 in
theorem F_X5_tries_ok {u : Uv} (hu : Un u) {s : Sg} {o : Nat → Int64} {r : Int32} (hF : F_X5_tries  s = some r) : AM u (yX5_tries, cX5_tries, 1, (some .int)) 0 0 0 [.ref 0] (HP s o) (some (.int r)) (HP s o) := by
  refine AM.of hu (lv := [some (.ref 0)]) (by decide) rfl (Nat.le_of_ble_eq_true rfl) rfl ?_
  intro Γ eu eN C T
  subst eu
  have C : Cok Γ cX5_tries RX5 (some .int) 0 0 0 := C
  unfold F_X5_tries at hF
  refine A_aload_n C dX5_tries_0 rfl (pc' := 1) rfl ?_
  refine A_get C (j := 1) cl_X5 rfl rfl lf_X5_12 dX5_tries_1 (HPg_0 s o) rfl (pc' := 4) rfl ?_
  refine A_getN C (j := 3) cl_X4 rfl rfl lf_X5_152 dX5_tries_4 (HPg_1 s o) rfl (pc' := 7) rfl ?_
  cases hF
  exact A_iret C T (Nat.le_refl _) (Nat.le_refl _) dX5_tries_7
def F_X5_penalty (s : Sg) : Option Int32 :=
  (F_X0_weekPenalty  s).bind fun q1 =>
  some q1
set_option maxHeartbeats 4000000 in
set_option maxRecDepth 100000 in
theorem F_X5_penalty_ok {u : Uv} (hu : Un u) {s : Sg} {o : Nat → Int64} {r : Int32} (hF : F_X5_penalty  s = some r) : AM u (yX5_penalty, cX5_penalty, 1, (some .int)) 4 0 0 [.ref 0] (HP s o) (some (.int r)) (HP s o) := by
  refine AM.of hu (lv := [some (.ref 0)]) (by decide) rfl (Nat.le_of_ble_eq_true rfl) rfl ?_
  intro Γ eu eN C T
  subst eu
  have C : Cok Γ cX5_penalty RX5 (some .int) 4 0 0 := C
  unfold F_X5_penalty at hF
  refine A_aload_n C dX5_penalty_0 rfl (pc' := 1) rfl ?_
  refine A_get C (j := 0) cl_X5 rfl rfl lf_X5_39 dX5_penalty_1 (HPg_0 s o) rfl (pc' := 4) rfl ?_
  obtain ⟨q1, h2, hF⟩ := Option.bind_eq_some_iff.mp hF
  refine A_callVN C (av := []) (rest := []) (st2 := [.int q1]) (k2 := 0) (n2 := 0) (F_X0_weekPenalty_ok hu h2) mk_X0_weekPenalty lm_X5_158 wi_X0_weekPenalty wv_X0_weekPenalty (HPg_8 s o) rfl rfl rfl rfl ⟨by decide, by decide⟩ (Nat.le_of_ble_eq_true rfl) rfl rfl dX5_penalty_4 rfl rfl rfl (pc' := 7) rfl ?_
  cases hF
  exact A_iret C T (Nat.le_refl _) (Nat.le_refl _) dX5_penalty_7
def F_X6_thrown (s : Sg) : Option Int32 :=
  some (s 2200 0)
set_option maxHeartbeats 4000000 in
set_option maxRecDepth 100000 in
theorem F_X6_thrown_ok {u : Uv} (hu : Un u) {s : Sg} {o : Nat → Int64} {r : Int32} (hF : F_X6_thrown  s = some r) : AM u (yX6_thrown, cX6_thrown, 1, (some .int)) 0 0 0 [.ref 21] (HP s o) (some (.int r)) (HP s o) := by
  refine AM.of hu (lv := [some (.ref 21)]) (by decide) rfl (Nat.le_of_ble_eq_true rfl) rfl ?_
  intro Γ eu eN C T
  subst eu
  have C : Cok Γ cX6_thrown RX6 (some .int) 0 0 0 := C
  unfold F_X6_thrown at hF
  refine A_aload_n C dX6_thrown_0 rfl (pc' := 1) rfl ?_
  refine A_get C (j := 0) cl_X6 rfl rfl lf_X6_69 dX6_thrown_1 (HPg_21 s o) rfl (pc' := 4) rfl ?_
  cases hF
  exact A_iret C T (Nat.le_refl _) (Nat.le_refl _) dX6_thrown_4
def F_X6_in (a0 : Int32) (a1 : Int32) (a2 : Int32) (s : Sg) : Option Int32 :=
  if a0 < a1 then
    some (0 : Int32)
  else
    if a2 < a0 then
      some (0 : Int32)
    else
      some (1 : Int32)
set_option maxHeartbeats 4000000 in
set_option maxRecDepth 100000 in
theorem F_X6_in_ok {u : Uv} (hu : Un u) {a0 a1 a2 : Int32} {s : Sg} {o : Nat → Int64} {r : Int32} (hF : F_X6_in a0 a1 a2 s = some r) : AM u (yX6_in, cX6_in, 3, (some .boolean)) 0 0 0 [.int a0, .int a1, .int a2] (HP s o) (some (.int r)) (HP s o) := by
  refine AM.of hu (lv := [some (.int a0), some (.int a1), some (.int a2)]) (by decide) rfl (Nat.le_of_ble_eq_true rfl) rfl ?_
  intro Γ eu eN C T
  subst eu
  have C : Cok Γ cX6_in RX6 (some .boolean) 0 0 0 := C
  unfold F_X6_in at hF
  refine A_iload_n C dX6_in_0 rfl (pc' := 1) rfl ?_
  refine A_iload_n C dX6_in_1 rfl (pc' := 2) rfl ?_
  refine A_icmp_lt C dX6_in_2 (tgt := 14) (by decide) (pc' := 5) rfl (fun c1 => ?_) (fun c1 => ?_)
  · rw [if_pos c1] at hF
    refine A_iconst C (x := 0) dX6_in_14 (by decide) (pc' := 15) rfl ?_
    cases hF
    exact A_zret C T (Or.inl rfl) (Nat.le_refl _) (Nat.le_refl _) dX6_in_15
  · rw [if_neg c1] at hF
    refine A_iload_n C dX6_in_5 rfl (pc' := 6) rfl ?_
    refine A_iload_n C dX6_in_6 rfl (pc' := 7) rfl ?_
    refine A_icmp_gt C dX6_in_7 (tgt := 14) (by decide) (pc' := 10) rfl (fun c2 => ?_) (fun c2 => ?_)
    · rw [if_pos c2] at hF
      refine A_iconst C (x := 0) dX6_in_14 (by decide) (pc' := 15) rfl ?_
      cases hF
      exact A_zret C T (Or.inl rfl) (Nat.le_refl _) (Nat.le_refl _) dX6_in_15
    · rw [if_neg c2] at hF
      refine A_iconst C (x := 1) dX6_in_10 (by decide) (pc' := 11) rfl ?_
      refine A_goto C dX6_in_11 (tgt := 15) (by decide) ?_
      cases hF
      exact A_zret C T (Or.inr rfl) (Nat.le_refl _) (Nat.le_refl _) dX6_in_15
def F_X6_throwing (a0 : Int32) (a1 : Int32) (s : Sg) : Option (Int32 × Sg) :=
  if a0 = 0 then
    if a1 = 0 then
      bnd (va_up s 2200 (fun _ => (0 : Int32))) fun s3 =>
      if (s3 2200 0) ≤ 0 then
        some ((0 : Int32), s3)
      else
        some ((1 : Int32), s3)
    else
      bnd (va_up s 2200 (fun _ => (2 : Int32))) fun s6 =>
      if (s6 2200 0) ≤ 0 then
        some ((0 : Int32), s6)
      else
        some ((1 : Int32), s6)
  else
    bnd (va_up s 2200 (fun _ => (1 : Int32))) fun s9 =>
    if (s9 2200 0) ≤ 0 then
      some ((0 : Int32), s9)
    else
      some ((1 : Int32), s9)
set_option maxHeartbeats 4000000 in
set_option maxRecDepth 100000 in
theorem F_X6_throwing_ok {u : Uv} (hu : Un u) {a0 a1 : Int32} {s : Sg} {o : Nat → Int64} {r : (Int32 × Sg)} (hF : F_X6_throwing a0 a1 s = some r) : AM u (yX6_throwing, cX6_throwing, 3, (some .boolean)) 0 0 0 [.ref 21, .int a0, .int a1] (HP s o) (some (.int r.1)) (HP r.2 o) := by
  refine AM.of hu (lv := [some (.ref 21), some (.int a0), some (.int a1)]) (by decide) rfl (Nat.le_of_ble_eq_true rfl) rfl ?_
  intro Γ eu eN C T
  subst eu
  have C : Cok Γ cX6_throwing RX6 (some .boolean) 0 0 0 := C
  unfold F_X6_throwing at hF
  refine A_aload_n C dX6_throwing_0 rfl (pc' := 1) rfl ?_
  refine A_iload_n C dX6_throwing_1 rfl (pc' := 2) rfl ?_
  refine A_if_eq C dX6_throwing_2 (tgt := 9) (by decide) (pc' := 5) rfl (fun c1 => ?_) (fun c1 => ?_)
  · rw [if_pos c1] at hF
    refine A_iload_n C dX6_throwing_9 rfl (pc' := 10) rfl ?_
    refine A_if_eq C dX6_throwing_10 (tgt := 17) (by decide) (pc' := 13) rfl (fun c2 => ?_) (fun c2 => ?_)
    · rw [if_pos c2] at hF
      refine A_iconst C (x := 0) dX6_throwing_17 (by decide) (pc' := 18) rfl ?_
      obtain ⟨s3, e4, hF⟩ := bnd_some hF
      refine A_put C (j := 0) (h1 := HP s3 o) tyX6 tyX6_ok nmX6 cl_X6 rfl rfl lf_X6_69 rfl (tyX6_ok 0 (by decide)) (fun _ => rfl) (fun _ => rfl) rfl dX6_throwing_18 (HPg_21 s o) (by rw [e4]; exact HPp_21_0 s o _) (pc' := 21) rfl ?_
      refine A_aload_n C dX6_throwing_21 rfl (pc' := 22) rfl ?_
      refine A_get C (j := 0) cl_X6 rfl rfl lf_X6_69 dX6_throwing_22 (HPg_21 s3 o) rfl (pc' := 25) rfl ?_
      refine A_if_le C dX6_throwing_25 (tgt := 32) (by decide) (pc' := 28) rfl (fun c5 => ?_) (fun c5 => ?_)
      · rw [if_pos c5] at hF
        refine A_iconst C (x := 0) dX6_throwing_32 (by decide) (pc' := 33) rfl ?_
        cases hF
        exact A_zret C T (Or.inl rfl) (Nat.le_refl _) (Nat.le_refl _) dX6_throwing_33
      · rw [if_neg c5] at hF
        refine A_iconst C (x := 1) dX6_throwing_28 (by decide) (pc' := 29) rfl ?_
        refine A_goto C dX6_throwing_29 (tgt := 33) (by decide) ?_
        cases hF
        exact A_zret C T (Or.inr rfl) (Nat.le_refl _) (Nat.le_refl _) dX6_throwing_33
    · rw [if_neg c2] at hF
      refine A_iconst C (x := 2) dX6_throwing_13 (by decide) (pc' := 14) rfl ?_
      refine A_goto C dX6_throwing_14 (tgt := 18) (by decide) ?_
      obtain ⟨s6, e7, hF⟩ := bnd_some hF
      refine A_put C (j := 0) (h1 := HP s6 o) tyX6 tyX6_ok nmX6 cl_X6 rfl rfl lf_X6_69 rfl (tyX6_ok 0 (by decide)) (fun _ => rfl) (fun _ => rfl) rfl dX6_throwing_18 (HPg_21 s o) (by rw [e7]; exact HPp_21_0 s o _) (pc' := 21) rfl ?_
      refine A_aload_n C dX6_throwing_21 rfl (pc' := 22) rfl ?_
      refine A_get C (j := 0) cl_X6 rfl rfl lf_X6_69 dX6_throwing_22 (HPg_21 s6 o) rfl (pc' := 25) rfl ?_
      refine A_if_le C dX6_throwing_25 (tgt := 32) (by decide) (pc' := 28) rfl (fun c8 => ?_) (fun c8 => ?_)
      · rw [if_pos c8] at hF
        refine A_iconst C (x := 0) dX6_throwing_32 (by decide) (pc' := 33) rfl ?_
        cases hF
        exact A_zret C T (Or.inl rfl) (Nat.le_refl _) (Nat.le_refl _) dX6_throwing_33
      · rw [if_neg c8] at hF
        refine A_iconst C (x := 1) dX6_throwing_28 (by decide) (pc' := 29) rfl ?_
        refine A_goto C dX6_throwing_29 (tgt := 33) (by decide) ?_
        cases hF
        exact A_zret C T (Or.inr rfl) (Nat.le_refl _) (Nat.le_refl _) dX6_throwing_33
  · rw [if_neg c1] at hF
    refine A_iconst C (x := 1) dX6_throwing_5 (by decide) (pc' := 6) rfl ?_
    refine A_goto C dX6_throwing_6 (tgt := 18) (by decide) ?_
    obtain ⟨s9, e10, hF⟩ := bnd_some hF
    refine A_put C (j := 0) (h1 := HP s9 o) tyX6 tyX6_ok nmX6 cl_X6 rfl rfl lf_X6_69 rfl (tyX6_ok 0 (by decide)) (fun _ => rfl) (fun _ => rfl) rfl dX6_throwing_18 (HPg_21 s o) (by rw [e10]; exact HPp_21_0 s o _) (pc' := 21) rfl ?_
    refine A_aload_n C dX6_throwing_21 rfl (pc' := 22) rfl ?_
    refine A_get C (j := 0) cl_X6 rfl rfl lf_X6_69 dX6_throwing_22 (HPg_21 s9 o) rfl (pc' := 25) rfl ?_
    refine A_if_le C dX6_throwing_25 (tgt := 32) (by decide) (pc' := 28) rfl (fun c11 => ?_) (fun c11 => ?_)
    · rw [if_pos c11] at hF
      refine A_iconst C (x := 0) dX6_throwing_32 (by decide) (pc' := 33) rfl ?_
      cases hF
      exact A_zret C T (Or.inl rfl) (Nat.le_refl _) (Nat.le_refl _) dX6_throwing_33
    · rw [if_neg c11] at hF
      refine A_iconst C (x := 1) dX6_throwing_28 (by decide) (pc' := 29) rfl ?_
      refine A_goto C dX6_throwing_29 (tgt := 33) (by decide) ?_
      cases hF
      exact A_zret C T (Or.inr rfl) (Nat.le_refl _) (Nat.le_refl _) dX6_throwing_33
def L_X6_room_30 : Nat → Int32 → Int32 → Int32 → Int32 → Int32 → Sg → Option (Int32)
  | 0, _, _, _, _, _, _ => none
  | fu + 1, b1, b2, b3, b4, b5, s =>
    if (64 : Int32) ≤ b5 then
      some b4
    else
      if b3 = 0 then
        if b4 = 0 then
          grd (ixb b5 64 = true) <|
          if (s 30 b5.toNatClampNeg) < 0 then
            bnd (b5 + (1 : Int32)) fun x20 =>
            L_X6_room_30 fu b1 b2 b3 (0 : Int32) x20 s
          else
            grd (ixb b5 64 = true) <|
            if (s 31 b5.toNatClampNeg) = b1 then
              bnd (b5 + (1 : Int32)) fun x26 =>
              L_X6_room_30 fu b1 b2 b3 (1 : Int32) x26 s
            else
              bnd (b5 + (1 : Int32)) fun x24 =>
              L_X6_room_30 fu b1 b2 b3 (0 : Int32) x24 s
        else
          bnd (b5 + (1 : Int32)) fun x16 =>
          L_X6_room_30 fu b1 b2 b3 (1 : Int32) x16 s
      else
        some b4
def F_X6_room (a0 : Int32) (a1 : Int32) (s : Sg) : Option Sg :=
  jn (fun (x1 : Int32) (x2 : Int32) (s3 : Sg) => (F_X6_throwing x1 x2 s3).bind fun q4 =>
      if q4.1 = 0 then
        grd (ixb a0 6 = true) <|
        bnd (va_up q4.2 22 (upd (q4.2 22) a0.toNatClampNeg a1)) fun s8 =>
        some s8
      else
        some q4.2) fun J80 =>
  (F_X6_in a0 (0 : Int32) (5 : Int32) s).bind fun q10 =>
  if q10 = 0 then
    (L_X6_room_30 FU a0 a1 (1 : Int32) (0 : Int32) (0 : Int32) s).bind fun q28 =>
    J80 (1 : Int32) q28 s
  else
    (F_X6_in a1 (0 : Int32) (2 : Int32) s).bind fun q30 =>
    if q30 = 0 then
      (L_X6_room_30 FU a0 a1 (1 : Int32) (0 : Int32) (0 : Int32) s).bind fun q35 =>
      J80 (1 : Int32) q35 s
    else
      (L_X6_room_30 FU a0 a1 (0 : Int32) (0 : Int32) (0 : Int32) s).bind fun q33 =>
      J80 (0 : Int32) q33 s
set_option maxHeartbeats 4000000 in
set_option maxRecDepth 100000 in
theorem L_X6_room_30_ok {Γ : Cx} (hu : Un Γ.2.1) (eN : 6 = Γ.2.2.2.2.2) (C : Cok Γ cX6_room RX6 none 1 0 0) {o : Nat → Int64} : ∀ (fu : Nat) (b1 : Int32) (b2 : Int32) (b3 : Int32) (b4 : Int32) (b5 : Int32) (s : Sg) (q : (Int32)), L_X6_room_30 fu b1 b2 b3 b4 b5 s = some q → AW Γ (HP s o) 0 0 [some (.ref 21), some (.int b1), some (.int b2), some (.int b3), some (.int q), none] [] 80 → AW Γ (HP s o) 0 0 [some (.ref 21), some (.int b1), some (.int b2), some (.int b3), some (.int b4), some (.int b5)] [] 30 := by
  intro fu
  induction fu with
  | zero => intro b1 b2 b3 b4 b5 s q hF; rw [L_X6_room_30] at hF; cases hF
  | succ fu ih =>
    intro b1 b2 b3 b4 b5 s q hF hexit
    rw [L_X6_room_30] at hF
    refine A_iload C dX6_room_30 rfl (pc' := 32) rfl ?_
    refine A_bipush C (x := 64) dX6_room_32 (by decide) (pc' := 34) rfl ?_
    refine A_icmp_ge C dX6_room_34 (tgt := 80) (by decide) (pc' := 37) rfl (fun c13 => ?_) (fun c13 => ?_)
    · rw [if_pos c13] at hF
      cases hF
      refine A_mask [true, true, true, true, true, false] (lv' := [some (.ref 21), some (.int b1), some (.int b2), some (.int b3), some (.int b4), none]) rfl ?_
      exact hexit
    · rw [if_neg c13] at hF
      refine A_iload_n C dX6_room_37 rfl (pc' := 38) rfl ?_
      refine A_if_ne C dX6_room_38 (tgt := 80) (by decide) (pc' := 41) rfl (fun c14 => ?_) (fun c14 => ?_)
      · rw [if_neg c14] at hF
        cases hF
        refine A_mask [true, true, true, true, true, false] (lv' := [some (.ref 21), some (.int b1), some (.int b2), some (.int b3), some (.int b4), none]) rfl ?_
        exact hexit
      · rw [if_pos c14] at hF
        refine A_iload C dX6_room_41 rfl (pc' := 43) rfl ?_
        refine A_if_ne C dX6_room_43 (tgt := 67) (by decide) (pc' := 46) rfl (fun c15 => ?_) (fun c15 => ?_)
        · rw [if_neg c15] at hF
          refine A_iconst C (x := 1) dX6_room_67 (by decide) (pc' := 68) rfl ?_
          refine A_goto C dX6_room_68 (tgt := 72) (by decide) ?_
          refine A_istore C (lv' := [some (.ref 21), some (.int b1), some (.int b2), some (.int b3), some (.int (1 : Int32)), some (.int b5)]) dX6_room_72 rfl eN rfl rfl (pc' := 74) rfl ?_
          obtain ⟨x16, e17, hF⟩ := bnd_some hF
          refine A_iinc C (lv' := [some (.ref 21), some (.int b1), some (.int b2), some (.int b3), some (.int (1 : Int32)), some (.int x16)]) dX6_room_74 rfl (by rw [e17]; rfl) rfl eN rfl rfl (pc' := 77) rfl ?_
          refine A_goto C dX6_room_77 (tgt := 30) (by decide) ?_
          refine A_mask [true, true, true, true, true, true] (lv' := [some (.ref 21), some (.int b1), some (.int b2), some (.int b3), some (.int (1 : Int32)), some (.int x16)]) rfl ?_
          exact ih b1 b2 b3 (1 : Int32) x16 s q hF hexit
        · rw [if_pos c15] at hF
          refine A_aload_n C dX6_room_46 rfl (pc' := 47) rfl ?_
          refine A_get C (j := 12) cl_X6 rfl rfl lf_X6_34 dX6_room_47 (HPg_21 s o) rfl (pc' := 50) rfl ?_
          refine A_iload C dX6_room_50 rfl (pc' := 52) rfl ?_
          obtain ⟨h18, hF⟩ := grd_some hF
          refine A_iald C (HPg_30 s o) (ixb_in h18) dX6_room_52 (pc' := 53) rfl ?_
          refine A_if_lt C dX6_room_53 (tgt := 71) (by decide) (pc' := 56) rfl (fun c19 => ?_) (fun c19 => ?_)
          · rw [if_pos c19] at hF
            refine A_iconst C (x := 0) dX6_room_71 (by decide) (pc' := 72) rfl ?_
            refine A_istore C (lv' := [some (.ref 21), some (.int b1), some (.int b2), some (.int b3), some (.int (0 : Int32)), some (.int b5)]) dX6_room_72 rfl eN rfl rfl (pc' := 74) rfl ?_
            obtain ⟨x20, e21, hF⟩ := bnd_some hF
            refine A_iinc C (lv' := [some (.ref 21), some (.int b1), some (.int b2), some (.int b3), some (.int (0 : Int32)), some (.int x20)]) dX6_room_74 rfl (by rw [e21]; rfl) rfl eN rfl rfl (pc' := 77) rfl ?_
            refine A_goto C dX6_room_77 (tgt := 30) (by decide) ?_
            refine A_mask [true, true, true, true, true, true] (lv' := [some (.ref 21), some (.int b1), some (.int b2), some (.int b3), some (.int (0 : Int32)), some (.int x20)]) rfl ?_
            exact ih b1 b2 b3 (0 : Int32) x20 s q hF hexit
          · rw [if_neg c19] at hF
            refine A_aload_n C dX6_room_56 rfl (pc' := 57) rfl ?_
            refine A_get C (j := 13) cl_X6 rfl rfl lf_X6_37 dX6_room_57 (HPg_21 s o) rfl (pc' := 60) rfl ?_
            refine A_iload C dX6_room_60 rfl (pc' := 62) rfl ?_
            obtain ⟨h22, hF⟩ := grd_some hF
            refine A_iald C (HPg_31 s o) (ixb_in h22) dX6_room_62 (pc' := 63) rfl ?_
            refine A_iload_n C dX6_room_63 rfl (pc' := 64) rfl ?_
            refine A_icmp_ne C dX6_room_64 (tgt := 71) (by decide) (pc' := 67) rfl (fun c23 => ?_) (fun c23 => ?_)
            · rw [if_neg c23] at hF
              refine A_iconst C (x := 0) dX6_room_71 (by decide) (pc' := 72) rfl ?_
              refine A_istore C (lv' := [some (.ref 21), some (.int b1), some (.int b2), some (.int b3), some (.int (0 : Int32)), some (.int b5)]) dX6_room_72 rfl eN rfl rfl (pc' := 74) rfl ?_
              obtain ⟨x24, e25, hF⟩ := bnd_some hF
              refine A_iinc C (lv' := [some (.ref 21), some (.int b1), some (.int b2), some (.int b3), some (.int (0 : Int32)), some (.int x24)]) dX6_room_74 rfl (by rw [e25]; rfl) rfl eN rfl rfl (pc' := 77) rfl ?_
              refine A_goto C dX6_room_77 (tgt := 30) (by decide) ?_
              refine A_mask [true, true, true, true, true, true] (lv' := [some (.ref 21), some (.int b1), some (.int b2), some (.int b3), some (.int (0 : Int32)), some (.int x24)]) rfl ?_
              exact ih b1 b2 b3 (0 : Int32) x24 s q hF hexit
            · rw [if_pos c23] at hF
              refine A_iconst C (x := 1) dX6_room_67 (by decide) (pc' := 68) rfl ?_
              refine A_goto C dX6_room_68 (tgt := 72) (by decide) ?_
              refine A_istore C (lv' := [some (.ref 21), some (.int b1), some (.int b2), some (.int b3), some (.int (1 : Int32)), some (.int b5)]) dX6_room_72 rfl eN rfl rfl (pc' := 74) rfl ?_
              obtain ⟨x26, e27, hF⟩ := bnd_some hF
              refine A_iinc C (lv' := [some (.ref 21), some (.int b1), some (.int b2), some (.int b3), some (.int (1 : Int32)), some (.int x26)]) dX6_room_74 rfl (by rw [e27]; rfl) rfl eN rfl rfl (pc' := 77) rfl ?_
              refine A_goto C dX6_room_77 (tgt := 30) (by decide) ?_
              refine A_mask [true, true, true, true, true, true] (lv' := [some (.ref 21), some (.int b1), some (.int b2), some (.int b3), some (.int (1 : Int32)), some (.int x26)]) rfl ?_
              exact ih b1 b2 b3 (1 : Int32) x26 s q hF hexit
set_option maxHeartbeats 4000000 in
set_option maxRecDepth 100000 in
theorem F_X6_room_ok {u : Uv} (hu : Un u) {a0 a1 : Int32} {s : Sg} {o : Nat → Int64} {r : Sg} (hF : F_X6_room a0 a1 s = some r) : AM u (yX6_room, cX6_room, 6, none) 1 0 0 [.ref 21, .int a0, .int a1] (HP s o) none (HP r o) := by
  refine AM.of hu (lv := [some (.ref 21), some (.int a0), some (.int a1), none, none, none]) (by decide) rfl (Nat.le_of_ble_eq_true rfl) rfl ?_
  intro Γ eu eN C T
  subst eu
  have C : Cok Γ cX6_room RX6 none 1 0 0 := C
  unfold F_X6_room at hF
  obtain ⟨J80, eJ80, hF⟩ := jn_some hF
  have hJ80 : ∀ (x1 : Int32) (x2 : Int32) (s3 : Sg), J80 x1 x2 s3 = some r → AW Γ (HP s3 o) 0 0 [some (.ref 21), some (.int a0), some (.int a1), some (.int x1), some (.int x2), none] [] 80 := by
    intro x1 x2 s3 hF
    rw [eJ80] at hF
    dsimp only at hF
    refine A_aload_n C dX6_room_80 rfl (pc' := 81) rfl ?_
    refine A_iload_n C dX6_room_81 rfl (pc' := 82) rfl ?_
    refine A_iload C dX6_room_82 rfl (pc' := 84) rfl ?_
    obtain ⟨q4, h5, hF⟩ := Option.bind_eq_some_iff.mp hF
    refine A_callV C (av := [.int x1, .int x2]) (rest := []) (st2 := [.int q4.1]) (k2 := 0) (n2 := 0) (F_X6_throwing_ok hu h5) mk_X6_throwing lm_X6_90 wi_X6_throwing wv_X6_throwing (HPg_21 s3 o) rfl rfl rfl rfl ⟨by decide, by decide⟩ (Nat.le_of_ble_eq_true rfl) rfl rfl dX6_room_84 rfl rfl rfl (pc' := 87) rfl ?_
    refine A_if_eq C dX6_room_87 (tgt := 91) (by decide) (pc' := 90) rfl (fun c6 => ?_) (fun c6 => ?_)
    · rw [if_pos c6] at hF
      refine A_aload_n C dX6_room_91 rfl (pc' := 92) rfl ?_
      refine A_get C (j := 3) cl_X6 rfl rfl lf_X6_7 dX6_room_92 (HPg_21 q4.2 o) rfl (pc' := 95) rfl ?_
      refine A_iload_n C dX6_room_95 rfl (pc' := 96) rfl ?_
      refine A_iload_n C dX6_room_96 rfl (pc' := 97) rfl ?_
      obtain ⟨h7, hF⟩ := grd_some hF
      obtain ⟨s8, e9, hF⟩ := bnd_some hF
      refine A_iast C (h1 := HP s8 o) (HPg_22 q4.2 o) (ixb_in h7) (by rw [e9]; exact HPs_22 q4.2 o _) dX6_room_97 (pc' := 98) rfl ?_
      cases hF
      exact A_vret C T (Nat.le_refl _) (Nat.le_refl _) dX6_room_98
    · rw [if_neg c6] at hF
      cases hF
      exact A_vret C T (Nat.le_refl _) (Nat.le_refl _) dX6_room_90
  clear eJ80
  refine A_iload_n C dX6_room_0 rfl (pc' := 1) rfl ?_
  refine A_iconst C (x := 0) dX6_room_1 (by decide) (pc' := 2) rfl ?_
  refine A_iconst C (x := 5) dX6_room_2 (by decide) (pc' := 3) rfl ?_
  obtain ⟨q10, h11, hF⟩ := Option.bind_eq_some_iff.mp hF
  refine A_callS C (av := [.int a0, .int (0 : Int32), .int (5 : Int32)]) (rest := []) (st2 := [.int q10]) (k2 := 0) (n2 := 0) (F_X6_in_ok hu h11) mk_X6_in lm_X6_72 ws_X6_in rfl rfl rfl ⟨by decide, by decide⟩ (Nat.le_of_ble_eq_true rfl) rfl rfl dX6_room_3 rfl rfl rfl (pc' := 6) rfl ?_
  refine A_if_eq C dX6_room_6 (tgt := 18) (by decide) (pc' := 9) rfl (fun c12 => ?_) (fun c12 => ?_)
  · rw [if_pos c12] at hF
    refine A_iconst C (x := 1) dX6_room_18 (by decide) (pc' := 19) rfl ?_
    refine A_goto C dX6_room_19 (tgt := 23) (by decide) ?_
    refine A_istore_n C (lv' := [some (.ref 21), some (.int a0), some (.int a1), some (.int (1 : Int32)), none, none]) dX6_room_23 rfl eN rfl rfl (pc' := 24) rfl ?_
    refine A_iconst C (x := 0) dX6_room_24 (by decide) (pc' := 25) rfl ?_
    refine A_istore C (lv' := [some (.ref 21), some (.int a0), some (.int a1), some (.int (1 : Int32)), some (.int (0 : Int32)), none]) dX6_room_25 rfl eN rfl rfl (pc' := 27) rfl ?_
    refine A_iconst C (x := 0) dX6_room_27 (by decide) (pc' := 28) rfl ?_
    refine A_istore C (lv' := [some (.ref 21), some (.int a0), some (.int a1), some (.int (1 : Int32)), some (.int (0 : Int32)), some (.int (0 : Int32))]) dX6_room_28 rfl eN rfl rfl (pc' := 30) rfl ?_
    obtain ⟨q28, h29, hF⟩ := Option.bind_eq_some_iff.mp hF
    refine A_mask [true, true, true, true, true, true] (lv' := [some (.ref 21), some (.int a0), some (.int a1), some (.int (1 : Int32)), some (.int (0 : Int32)), some (.int (0 : Int32))]) rfl ?_
    refine L_X6_room_30_ok hu eN C FU a0 a1 (1 : Int32) (0 : Int32) (0 : Int32) s q28 h29 ?_
    refine A_mask [true, true, true, true, true, false] (lv' := [some (.ref 21), some (.int a0), some (.int a1), some (.int (1 : Int32)), some (.int q28), none]) rfl ?_
    exact hJ80 (1 : Int32) q28 s hF
  · rw [if_neg c12] at hF
    refine A_iload_n C dX6_room_9 rfl (pc' := 10) rfl ?_
    refine A_iconst C (x := 0) dX6_room_10 (by decide) (pc' := 11) rfl ?_
    refine A_iconst C (x := 2) dX6_room_11 (by decide) (pc' := 12) rfl ?_
    obtain ⟨q30, h31, hF⟩ := Option.bind_eq_some_iff.mp hF
    refine A_callS C (av := [.int a1, .int (0 : Int32), .int (2 : Int32)]) (rest := []) (st2 := [.int q30]) (k2 := 0) (n2 := 0) (F_X6_in_ok hu h31) mk_X6_in lm_X6_72 ws_X6_in rfl rfl rfl ⟨by decide, by decide⟩ (Nat.le_of_ble_eq_true rfl) rfl rfl dX6_room_12 rfl rfl rfl (pc' := 15) rfl ?_
    refine A_if_ne C dX6_room_15 (tgt := 22) (by decide) (pc' := 18) rfl (fun c32 => ?_) (fun c32 => ?_)
    · rw [if_neg c32] at hF
      refine A_iconst C (x := 0) dX6_room_22 (by decide) (pc' := 23) rfl ?_
      refine A_istore_n C (lv' := [some (.ref 21), some (.int a0), some (.int a1), some (.int (0 : Int32)), none, none]) dX6_room_23 rfl eN rfl rfl (pc' := 24) rfl ?_
      refine A_iconst C (x := 0) dX6_room_24 (by decide) (pc' := 25) rfl ?_
      refine A_istore C (lv' := [some (.ref 21), some (.int a0), some (.int a1), some (.int (0 : Int32)), some (.int (0 : Int32)), none]) dX6_room_25 rfl eN rfl rfl (pc' := 27) rfl ?_
      refine A_iconst C (x := 0) dX6_room_27 (by decide) (pc' := 28) rfl ?_
      refine A_istore C (lv' := [some (.ref 21), some (.int a0), some (.int a1), some (.int (0 : Int32)), some (.int (0 : Int32)), some (.int (0 : Int32))]) dX6_room_28 rfl eN rfl rfl (pc' := 30) rfl ?_
      obtain ⟨q33, h34, hF⟩ := Option.bind_eq_some_iff.mp hF
      refine A_mask [true, true, true, true, true, true] (lv' := [some (.ref 21), some (.int a0), some (.int a1), some (.int (0 : Int32)), some (.int (0 : Int32)), some (.int (0 : Int32))]) rfl ?_
      refine L_X6_room_30_ok hu eN C FU a0 a1 (0 : Int32) (0 : Int32) (0 : Int32) s q33 h34 ?_
      refine A_mask [true, true, true, true, true, false] (lv' := [some (.ref 21), some (.int a0), some (.int a1), some (.int (0 : Int32)), some (.int q33), none]) rfl ?_
      exact hJ80 (0 : Int32) q33 s hF
    · rw [if_pos c32] at hF
      refine A_iconst C (x := 1) dX6_room_18 (by decide) (pc' := 19) rfl ?_
      refine A_goto C dX6_room_19 (tgt := 23) (by decide) ?_
      refine A_istore_n C (lv' := [some (.ref 21), some (.int a0), some (.int a1), some (.int (1 : Int32)), none, none]) dX6_room_23 rfl eN rfl rfl (pc' := 24) rfl ?_
      refine A_iconst C (x := 0) dX6_room_24 (by decide) (pc' := 25) rfl ?_
      refine A_istore C (lv' := [some (.ref 21), some (.int a0), some (.int a1), some (.int (1 : Int32)), some (.int (0 : Int32)), none]) dX6_room_25 rfl eN rfl rfl (pc' := 27) rfl ?_
      refine A_iconst C (x := 0) dX6_room_27 (by decide) (pc' := 28) rfl ?_
      refine A_istore C (lv' := [some (.ref 21), some (.int a0), some (.int a1), some (.int (1 : Int32)), some (.int (0 : Int32)), some (.int (0 : Int32))]) dX6_room_28 rfl eN rfl rfl (pc' := 30) rfl ?_
      obtain ⟨q35, h36, hF⟩ := Option.bind_eq_some_iff.mp hF
      refine A_mask [true, true, true, true, true, true] (lv' := [some (.ref 21), some (.int a0), some (.int a1), some (.int (1 : Int32)), some (.int (0 : Int32)), some (.int (0 : Int32))]) rfl ?_
      refine L_X6_room_30_ok hu eN C FU a0 a1 (1 : Int32) (0 : Int32) (0 : Int32) s q35 h36 ?_
      refine A_mask [true, true, true, true, true, false] (lv' := [some (.ref 21), some (.int a0), some (.int a1), some (.int (1 : Int32)), some (.int q35), none]) rfl ?_
      exact hJ80 (1 : Int32) q35 s hF
def F_X6_lesson (a0 : Int32) (a1 : Int32) (a2 : Int32) (a3 : Int32) (a4 : Int32) (a5 : Int32) (s : Sg) : Option (Int32 × Sg) :=
  jn (fun (y1 : Int32) (y2 : Int32) (s3 : Sg) => (F_X6_throwing y1 y2 s3).bind fun q4 =>
      if q4.1 = 0 then
        grd (ixb (q4.2 2204 0) 16 = true) <|
        bnd (va_up q4.2 23 (upd (q4.2 23) (q4.2 2204 0).toNatClampNeg a0)) fun s8 =>
        grd (ixb (s8 2204 0) 16 = true) <|
        bnd (va_up s8 24 (upd (s8 24) (s8 2204 0).toNatClampNeg a1)) fun s11 =>
        grd (ixb (s11 2204 0) 16 = true) <|
        bnd (va_up s11 25 (upd (s11 25) (s11 2204 0).toNatClampNeg a2)) fun s14 =>
        grd (ixb (s14 2204 0) 16 = true) <|
        bnd (va_up s14 26 (upd (s14 26) (s14 2204 0).toNatClampNeg a3)) fun s17 =>
        grd (ixb (s17 2204 0) 16 = true) <|
        bnd (va_up s17 27 (upd (s17 27) (s17 2204 0).toNatClampNeg (a4 / (10 : Int32)))) fun s20 =>
        grd (ixb (s20 2204 0) 16 = true) <|
        bnd (va_up s20 28 (upd (s20 28) (s20 2204 0).toNatClampNeg (a4 - a4 / (10 : Int32) * (10 : Int32)))) fun s23 =>
        grd (ixb (s23 2204 0) 16 = true) <|
        bnd (va_up s23 29 (upd (s23 29) (s23 2204 0).toNatClampNeg a5)) fun s26 =>
        bnd (va_up s26 2204 (fun _ => ((s26 2204 0) + (1 : Int32)))) fun s28 =>
        some (((s28 2204 0) - (1 : Int32)), s28)
      else
        some ((0 : Int32), q4.2)) fun J129 =>
  jn (fun (y30 : Int32) (s31 : Sg) => if y30 = 0 then
        if (s31 2204 0) = (16 : Int32) then
          J129 y30 (1 : Int32) s31
        else
          J129 y30 (0 : Int32) s31
      else
        J129 y30 (0 : Int32) s31) fun J105 =>
  jn (fun (y34 : Int32) (s35 : Sg) => if y34 = 0 then
        if a4 < 0 then
          J105 (1 : Int32) s35
        else
          (F_X6_in (a4 / (10 : Int32)) (1 : Int32) (2 : Int32) s35).bind fun q38 =>
          if q38 = 0 then
            J105 (1 : Int32) s35
          else
            (F_X6_in (a4 - a4 / (10 : Int32) * (10 : Int32)) (1 : Int32) (4 : Int32) s35).bind fun q41 =>
            if q41 = 0 then
              J105 (1 : Int32) s35
            else
              J105 (0 : Int32) s35
      else
        J105 (1 : Int32) s35) fun J62 =>
  (F_X6_in a0 (0 : Int32) (7 : Int32) s).bind fun q44 =>
  if q44 = 0 then
    J62 (1 : Int32) s
  else
    (F_X6_in a1 (-1 : Int32) (7 : Int32) s).bind fun q47 =>
    if q47 = 0 then
      J62 (1 : Int32) s
    else
      if a0 = a1 then
        J62 (1 : Int32) s
      else
        (F_X6_in a2 (0 : Int32) (7 : Int32) s).bind fun q51 =>
        if q51 = 0 then
          J62 (1 : Int32) s
        else
          (F_X6_in a3 (0 : Int32) (2 : Int32) s).bind fun q54 =>
          if q54 = 0 then
            J62 (1 : Int32) s
          else
            (F_X6_in a5 (33 : Int32) (126 : Int32) s).bind fun q57 =>
            if q57 = 0 then
              J62 (1 : Int32) s
            else
              J62 (0 : Int32) s
set_option maxHeartbeats 4000000 in
set_option maxRecDepth 100000 in
theorem F_X6_lesson_ok {u : Uv} (hu : Un u) {a0 a1 a2 a3 a4 a5 : Int32} {s : Sg} {o : Nat → Int64} {r : (Int32 × Sg)} (hF : F_X6_lesson a0 a1 a2 a3 a4 a5 s = some r) : AM u (yX6_lesson, cX6_lesson, 8, (some .int)) 1 0 0 [.ref 21, .int a0, .int a1, .int a2, .int a3, .int a4, .int a5] (HP s o) (some (.int r.1)) (HP r.2 o) := by
  refine AM.of hu (lv := [some (.ref 21), some (.int a0), some (.int a1), some (.int a2), some (.int a3), some (.int a4), some (.int a5), none]) (by decide) rfl (Nat.le_of_ble_eq_true rfl) rfl ?_
  intro Γ eu eN C T
  subst eu
  have C : Cok Γ cX6_lesson RX6 (some .int) 1 0 0 := C
  unfold F_X6_lesson at hF
  obtain ⟨J129, eJ129, hF⟩ := jn_some hF
  have hJ129 : ∀ (y1 : Int32) (y2 : Int32) (s3 : Sg), J129 y1 y2 s3 = some r → AW Γ (HP s3 o) 0 0 [some (.ref 21), some (.int a0), some (.int a1), some (.int a2), some (.int a3), some (.int a4), some (.int a5), none] [.int y2, .int y1, .ref 21] 129 := by
    intro y1 y2 s3 hF
    rw [eJ129] at hF
    dsimp only at hF
    obtain ⟨q4, h5, hF⟩ := Option.bind_eq_some_iff.mp hF
    refine A_callV C (av := [.int y1, .int y2]) (rest := []) (st2 := [.int q4.1]) (k2 := 0) (n2 := 0) (F_X6_throwing_ok hu h5) mk_X6_throwing lm_X6_90 wi_X6_throwing wv_X6_throwing (HPg_21 s3 o) rfl rfl rfl rfl ⟨by decide, by decide⟩ (Nat.le_of_ble_eq_true rfl) rfl rfl dX6_lesson_129 rfl rfl rfl (pc' := 132) rfl ?_
    refine A_if_eq C dX6_lesson_132 (tgt := 137) (by decide) (pc' := 135) rfl (fun c6 => ?_) (fun c6 => ?_)
    · rw [if_pos c6] at hF
      refine A_aload_n C dX6_lesson_137 rfl (pc' := 138) rfl ?_
      refine A_get C (j := 5) cl_X6 rfl rfl lf_X6_13 dX6_lesson_138 (HPg_21 q4.2 o) rfl (pc' := 141) rfl ?_
      refine A_aload_n C dX6_lesson_141 rfl (pc' := 142) rfl ?_
      refine A_get C (j := 4) cl_X6 rfl rfl lf_X6_76 dX6_lesson_142 (HPg_21 q4.2 o) rfl (pc' := 145) rfl ?_
      refine A_iload_n C dX6_lesson_145 rfl (pc' := 146) rfl ?_
      obtain ⟨h7, hF⟩ := grd_some hF
      obtain ⟨s8, e9, hF⟩ := bnd_some hF
      refine A_iast C (h1 := HP s8 o) (HPg_23 q4.2 o) (ixb_in h7) (by rw [e9]; exact HPs_23 q4.2 o _) dX6_lesson_146 (pc' := 147) rfl ?_
      refine A_aload_n C dX6_lesson_147 rfl (pc' := 148) rfl ?_
      refine A_get C (j := 6) cl_X6 rfl rfl lf_X6_16 dX6_lesson_148 (HPg_21 s8 o) rfl (pc' := 151) rfl ?_
      refine A_aload_n C dX6_lesson_151 rfl (pc' := 152) rfl ?_
      refine A_get C (j := 4) cl_X6 rfl rfl lf_X6_76 dX6_lesson_152 (HPg_21 s8 o) rfl (pc' := 155) rfl ?_
      refine A_iload_n C dX6_lesson_155 rfl (pc' := 156) rfl ?_
      obtain ⟨h10, hF⟩ := grd_some hF
      obtain ⟨s11, e12, hF⟩ := bnd_some hF
      refine A_iast C (h1 := HP s11 o) (HPg_24 s8 o) (ixb_in h10) (by rw [e12]; exact HPs_24 s8 o _) dX6_lesson_156 (pc' := 157) rfl ?_
      refine A_aload_n C dX6_lesson_157 rfl (pc' := 158) rfl ?_
      refine A_get C (j := 7) cl_X6 rfl rfl lf_X6_19 dX6_lesson_158 (HPg_21 s11 o) rfl (pc' := 161) rfl ?_
      refine A_aload_n C dX6_lesson_161 rfl (pc' := 162) rfl ?_
      refine A_get C (j := 4) cl_X6 rfl rfl lf_X6_76 dX6_lesson_162 (HPg_21 s11 o) rfl (pc' := 165) rfl ?_
      refine A_iload_n C dX6_lesson_165 rfl (pc' := 166) rfl ?_
      obtain ⟨h13, hF⟩ := grd_some hF
      obtain ⟨s14, e15, hF⟩ := bnd_some hF
      refine A_iast C (h1 := HP s14 o) (HPg_25 s11 o) (ixb_in h13) (by rw [e15]; exact HPs_25 s11 o _) dX6_lesson_166 (pc' := 167) rfl ?_
      refine A_aload_n C dX6_lesson_167 rfl (pc' := 168) rfl ?_
      refine A_get C (j := 8) cl_X6 rfl rfl lf_X6_22 dX6_lesson_168 (HPg_21 s14 o) rfl (pc' := 171) rfl ?_
      refine A_aload_n C dX6_lesson_171 rfl (pc' := 172) rfl ?_
      refine A_get C (j := 4) cl_X6 rfl rfl lf_X6_76 dX6_lesson_172 (HPg_21 s14 o) rfl (pc' := 175) rfl ?_
      refine A_iload C dX6_lesson_175 rfl (pc' := 177) rfl ?_
      obtain ⟨h16, hF⟩ := grd_some hF
      obtain ⟨s17, e18, hF⟩ := bnd_some hF
      refine A_iast C (h1 := HP s17 o) (HPg_26 s14 o) (ixb_in h16) (by rw [e18]; exact HPs_26 s14 o _) dX6_lesson_177 (pc' := 178) rfl ?_
      refine A_aload_n C dX6_lesson_178 rfl (pc' := 179) rfl ?_
      refine A_get C (j := 9) cl_X6 rfl rfl lf_X6_25 dX6_lesson_179 (HPg_21 s17 o) rfl (pc' := 182) rfl ?_
      refine A_aload_n C dX6_lesson_182 rfl (pc' := 183) rfl ?_
      refine A_get C (j := 4) cl_X6 rfl rfl lf_X6_76 dX6_lesson_183 (HPg_21 s17 o) rfl (pc' := 186) rfl ?_
      refine A_iload C dX6_lesson_186 rfl (pc' := 188) rfl ?_
      refine A_bipush C (x := 10) dX6_lesson_188 (by decide) (pc' := 190) rfl ?_
      refine A_idiv C dX6_lesson_190 (by decide) (pc' := 191) rfl ?_
      obtain ⟨h19, hF⟩ := grd_some hF
      obtain ⟨s20, e21, hF⟩ := bnd_some hF
      refine A_iast C (h1 := HP s20 o) (HPg_27 s17 o) (ixb_in h19) (by rw [e21]; exact HPs_27 s17 o _) dX6_lesson_191 (pc' := 192) rfl ?_
      refine A_aload_n C dX6_lesson_192 rfl (pc' := 193) rfl ?_
      refine A_get C (j := 10) cl_X6 rfl rfl lf_X6_28 dX6_lesson_193 (HPg_21 s20 o) rfl (pc' := 196) rfl ?_
      refine A_aload_n C dX6_lesson_196 rfl (pc' := 197) rfl ?_
      refine A_get C (j := 4) cl_X6 rfl rfl lf_X6_76 dX6_lesson_197 (HPg_21 s20 o) rfl (pc' := 200) rfl ?_
      refine A_iload C dX6_lesson_200 rfl (pc' := 202) rfl ?_
      refine A_bipush C (x := 10) dX6_lesson_202 (by decide) (pc' := 204) rfl ?_
      refine A_irem C dX6_lesson_204 (by decide) (pc' := 205) rfl ?_
      obtain ⟨h22, hF⟩ := grd_some hF
      obtain ⟨s23, e24, hF⟩ := bnd_some hF
      refine A_iast C (h1 := HP s23 o) (HPg_28 s20 o) (ixb_in h22) (by rw [e24]; exact HPs_28 s20 o _) dX6_lesson_205 (pc' := 206) rfl ?_
      refine A_aload_n C dX6_lesson_206 rfl (pc' := 207) rfl ?_
      refine A_get C (j := 11) cl_X6 rfl rfl lf_X6_31 dX6_lesson_207 (HPg_21 s23 o) rfl (pc' := 210) rfl ?_
      refine A_aload_n C dX6_lesson_210 rfl (pc' := 211) rfl ?_
      refine A_get C (j := 4) cl_X6 rfl rfl lf_X6_76 dX6_lesson_211 (HPg_21 s23 o) rfl (pc' := 214) rfl ?_
      refine A_iload C dX6_lesson_214 rfl (pc' := 216) rfl ?_
      obtain ⟨h25, hF⟩ := grd_some hF
      obtain ⟨s26, e27, hF⟩ := bnd_some hF
      refine A_iast C (h1 := HP s26 o) (HPg_29 s23 o) (ixb_in h25) (by rw [e27]; exact HPs_29 s23 o _) dX6_lesson_216 (pc' := 217) rfl ?_
      refine A_aload_n C dX6_lesson_217 rfl (pc' := 218) rfl ?_
      refine A_dup C dX6_lesson_218 rfl (pc' := 219) rfl ?_
      refine A_get C (j := 4) cl_X6 rfl rfl lf_X6_76 dX6_lesson_219 (HPg_21 s26 o) rfl (pc' := 222) rfl ?_
      refine A_iconst C (x := 1) dX6_lesson_222 (by decide) (pc' := 223) rfl ?_
      refine A_iadd C dX6_lesson_223 (pc' := 224) rfl ?_
      obtain ⟨s28, e29, hF⟩ := bnd_some hF
      refine A_put C (j := 4) (h1 := HP s28 o) tyX6 tyX6_ok nmX6 cl_X6 rfl rfl lf_X6_76 rfl (tyX6_ok 4 (by decide)) (fun _ => rfl) (fun _ => rfl) rfl dX6_lesson_224 (HPg_21 s26 o) (by rw [e29]; exact HPp_21_4 s26 o _) (pc' := 227) rfl ?_
      refine A_aload_n C dX6_lesson_227 rfl (pc' := 228) rfl ?_
      refine A_get C (j := 4) cl_X6 rfl rfl lf_X6_76 dX6_lesson_228 (HPg_21 s28 o) rfl (pc' := 231) rfl ?_
      refine A_iconst C (x := 1) dX6_lesson_231 (by decide) (pc' := 232) rfl ?_
      refine A_isub C dX6_lesson_232 (pc' := 233) rfl ?_
      cases hF
      exact A_iret C T (Nat.le_refl _) (Nat.le_refl _) dX6_lesson_233
    · rw [if_neg c6] at hF
      refine A_iconst C (x := 0) dX6_lesson_135 (by decide) (pc' := 136) rfl ?_
      cases hF
      exact A_iret C T (Nat.le_refl _) (Nat.le_refl _) dX6_lesson_136
  clear eJ129
  obtain ⟨J105, eJ105, hF⟩ := jn_some hF
  have hJ105 : ∀ (y30 : Int32) (s31 : Sg), J105 y30 s31 = some r → AW Γ (HP s31 o) 0 0 [some (.ref 21), some (.int a0), some (.int a1), some (.int a2), some (.int a3), some (.int a4), some (.int a5), none] [.int y30] 105 := by
    intro y30 s31 hF
    rw [eJ105] at hF
    dsimp only at hF
    refine A_istore C (lv' := [some (.ref 21), some (.int a0), some (.int a1), some (.int a2), some (.int a3), some (.int a4), some (.int a5), some (.int y30)]) dX6_lesson_105 rfl eN rfl rfl (pc' := 107) rfl ?_
    refine A_aload_n C dX6_lesson_107 rfl (pc' := 108) rfl ?_
    refine A_iload C dX6_lesson_108 rfl (pc' := 110) rfl ?_
    refine A_iload C dX6_lesson_110 rfl (pc' := 112) rfl ?_
    refine A_if_ne C dX6_lesson_112 (tgt := 128) (by decide) (pc' := 115) rfl (fun c32 => ?_) (fun c32 => ?_)
    · rw [if_neg c32] at hF
      refine A_iconst C (x := 0) dX6_lesson_128 (by decide) (pc' := 129) rfl ?_
      refine A_mask [true, true, true, true, true, true, true, false] (lv' := [some (.ref 21), some (.int a0), some (.int a1), some (.int a2), some (.int a3), some (.int a4), some (.int a5), none]) rfl ?_
      exact hJ129 y30 (0 : Int32) s31 hF
    · rw [if_pos c32] at hF
      refine A_aload_n C dX6_lesson_115 rfl (pc' := 116) rfl ?_
      refine A_get C (j := 4) cl_X6 rfl rfl lf_X6_76 dX6_lesson_116 (HPg_21 s31 o) rfl (pc' := 119) rfl ?_
      refine A_bipush C (x := 16) dX6_lesson_119 (by decide) (pc' := 121) rfl ?_
      refine A_icmp_ne C dX6_lesson_121 (tgt := 128) (by decide) (pc' := 124) rfl (fun c33 => ?_) (fun c33 => ?_)
      · rw [if_neg c33] at hF
        refine A_iconst C (x := 0) dX6_lesson_128 (by decide) (pc' := 129) rfl ?_
        refine A_mask [true, true, true, true, true, true, true, false] (lv' := [some (.ref 21), some (.int a0), some (.int a1), some (.int a2), some (.int a3), some (.int a4), some (.int a5), none]) rfl ?_
        exact hJ129 y30 (0 : Int32) s31 hF
      · rw [if_pos c33] at hF
        refine A_iconst C (x := 1) dX6_lesson_124 (by decide) (pc' := 125) rfl ?_
        refine A_goto C dX6_lesson_125 (tgt := 129) (by decide) ?_
        refine A_mask [true, true, true, true, true, true, true, false] (lv' := [some (.ref 21), some (.int a0), some (.int a1), some (.int a2), some (.int a3), some (.int a4), some (.int a5), none]) rfl ?_
        exact hJ129 y30 (1 : Int32) s31 hF
  clear eJ105
  obtain ⟨J62, eJ62, hF⟩ := jn_some hF
  have hJ62 : ∀ (y34 : Int32) (s35 : Sg), J62 y34 s35 = some r → AW Γ (HP s35 o) 0 0 [some (.ref 21), some (.int a0), some (.int a1), some (.int a2), some (.int a3), some (.int a4), some (.int a5), none] [.int y34] 62 := by
    intro y34 s35 hF
    rw [eJ62] at hF
    dsimp only at hF
    refine A_istore C (lv' := [some (.ref 21), some (.int a0), some (.int a1), some (.int a2), some (.int a3), some (.int a4), some (.int a5), some (.int y34)]) dX6_lesson_62 rfl eN rfl rfl (pc' := 64) rfl ?_
    refine A_iload C dX6_lesson_64 rfl (pc' := 66) rfl ?_
    refine A_if_ne C dX6_lesson_66 (tgt := 100) (by decide) (pc' := 69) rfl (fun c36 => ?_) (fun c36 => ?_)
    · rw [if_neg c36] at hF
      refine A_iconst C (x := 1) dX6_lesson_100 (by decide) (pc' := 101) rfl ?_
      refine A_goto C dX6_lesson_101 (tgt := 105) (by decide) ?_
      refine A_mask [true, true, true, true, true, true, true, false] (lv' := [some (.ref 21), some (.int a0), some (.int a1), some (.int a2), some (.int a3), some (.int a4), some (.int a5), none]) rfl ?_
      exact hJ105 (1 : Int32) s35 hF
    · rw [if_pos c36] at hF
      refine A_iload C dX6_lesson_69 rfl (pc' := 71) rfl ?_
      refine A_if_lt C dX6_lesson_71 (tgt := 100) (by decide) (pc' := 74) rfl (fun c37 => ?_) (fun c37 => ?_)
      · rw [if_pos c37] at hF
        refine A_iconst C (x := 1) dX6_lesson_100 (by decide) (pc' := 101) rfl ?_
        refine A_goto C dX6_lesson_101 (tgt := 105) (by decide) ?_
        refine A_mask [true, true, true, true, true, true, true, false] (lv' := [some (.ref 21), some (.int a0), some (.int a1), some (.int a2), some (.int a3), some (.int a4), some (.int a5), none]) rfl ?_
        exact hJ105 (1 : Int32) s35 hF
      · rw [if_neg c37] at hF
        refine A_iload C dX6_lesson_74 rfl (pc' := 76) rfl ?_
        refine A_bipush C (x := 10) dX6_lesson_76 (by decide) (pc' := 78) rfl ?_
        refine A_idiv C dX6_lesson_78 (by decide) (pc' := 79) rfl ?_
        refine A_iconst C (x := 1) dX6_lesson_79 (by decide) (pc' := 80) rfl ?_
        refine A_iconst C (x := 2) dX6_lesson_80 (by decide) (pc' := 81) rfl ?_
        obtain ⟨q38, h39, hF⟩ := Option.bind_eq_some_iff.mp hF
        refine A_callS C (av := [.int (a4 / (10 : Int32)), .int (1 : Int32), .int (2 : Int32)]) (rest := []) (st2 := [.int q38]) (k2 := 0) (n2 := 0) (F_X6_in_ok hu h39) mk_X6_in lm_X6_72 ws_X6_in rfl rfl rfl ⟨by decide, by decide⟩ (Nat.le_of_ble_eq_true rfl) rfl rfl dX6_lesson_81 rfl rfl rfl (pc' := 84) rfl ?_
        refine A_if_eq C dX6_lesson_84 (tgt := 100) (by decide) (pc' := 87) rfl (fun c40 => ?_) (fun c40 => ?_)
        · rw [if_pos c40] at hF
          refine A_iconst C (x := 1) dX6_lesson_100 (by decide) (pc' := 101) rfl ?_
          refine A_goto C dX6_lesson_101 (tgt := 105) (by decide) ?_
          refine A_mask [true, true, true, true, true, true, true, false] (lv' := [some (.ref 21), some (.int a0), some (.int a1), some (.int a2), some (.int a3), some (.int a4), some (.int a5), none]) rfl ?_
          exact hJ105 (1 : Int32) s35 hF
        · rw [if_neg c40] at hF
          refine A_iload C dX6_lesson_87 rfl (pc' := 89) rfl ?_
          refine A_bipush C (x := 10) dX6_lesson_89 (by decide) (pc' := 91) rfl ?_
          refine A_irem C dX6_lesson_91 (by decide) (pc' := 92) rfl ?_
          refine A_iconst C (x := 1) dX6_lesson_92 (by decide) (pc' := 93) rfl ?_
          refine A_iconst C (x := 4) dX6_lesson_93 (by decide) (pc' := 94) rfl ?_
          obtain ⟨q41, h42, hF⟩ := Option.bind_eq_some_iff.mp hF
          refine A_callS C (av := [.int (a4 - a4 / (10 : Int32) * (10 : Int32)), .int (1 : Int32), .int (4 : Int32)]) (rest := []) (st2 := [.int q41]) (k2 := 0) (n2 := 0) (F_X6_in_ok hu h42) mk_X6_in lm_X6_72 ws_X6_in rfl rfl rfl ⟨by decide, by decide⟩ (Nat.le_of_ble_eq_true rfl) rfl rfl dX6_lesson_94 rfl rfl rfl (pc' := 97) rfl ?_
          refine A_if_ne C dX6_lesson_97 (tgt := 104) (by decide) (pc' := 100) rfl (fun c43 => ?_) (fun c43 => ?_)
          · rw [if_neg c43] at hF
            refine A_iconst C (x := 0) dX6_lesson_104 (by decide) (pc' := 105) rfl ?_
            refine A_mask [true, true, true, true, true, true, true, false] (lv' := [some (.ref 21), some (.int a0), some (.int a1), some (.int a2), some (.int a3), some (.int a4), some (.int a5), none]) rfl ?_
            exact hJ105 (0 : Int32) s35 hF
          · rw [if_pos c43] at hF
            refine A_iconst C (x := 1) dX6_lesson_100 (by decide) (pc' := 101) rfl ?_
            refine A_goto C dX6_lesson_101 (tgt := 105) (by decide) ?_
            refine A_mask [true, true, true, true, true, true, true, false] (lv' := [some (.ref 21), some (.int a0), some (.int a1), some (.int a2), some (.int a3), some (.int a4), some (.int a5), none]) rfl ?_
            exact hJ105 (1 : Int32) s35 hF
  clear eJ62
  refine A_iload_n C dX6_lesson_0 rfl (pc' := 1) rfl ?_
  refine A_iconst C (x := 0) dX6_lesson_1 (by decide) (pc' := 2) rfl ?_
  refine A_bipush C (x := 7) dX6_lesson_2 (by decide) (pc' := 4) rfl ?_
  obtain ⟨q44, h45, hF⟩ := Option.bind_eq_some_iff.mp hF
  refine A_callS C (av := [.int a0, .int (0 : Int32), .int (7 : Int32)]) (rest := []) (st2 := [.int q44]) (k2 := 0) (n2 := 0) (F_X6_in_ok hu h45) mk_X6_in lm_X6_72 ws_X6_in rfl rfl rfl ⟨by decide, by decide⟩ (Nat.le_of_ble_eq_true rfl) rfl rfl dX6_lesson_4 rfl rfl rfl (pc' := 7) rfl ?_
  refine A_if_eq C dX6_lesson_7 (tgt := 57) (by decide) (pc' := 10) rfl (fun c46 => ?_) (fun c46 => ?_)
  · rw [if_pos c46] at hF
    refine A_iconst C (x := 1) dX6_lesson_57 (by decide) (pc' := 58) rfl ?_
    refine A_goto C dX6_lesson_58 (tgt := 62) (by decide) ?_
    refine A_mask [true, true, true, true, true, true, true, false] (lv' := [some (.ref 21), some (.int a0), some (.int a1), some (.int a2), some (.int a3), some (.int a4), some (.int a5), none]) rfl ?_
    exact hJ62 (1 : Int32) s hF
  · rw [if_neg c46] at hF
    refine A_iload_n C dX6_lesson_10 rfl (pc' := 11) rfl ?_
    refine A_iconst C (x := -1) dX6_lesson_11 (by decide) (pc' := 12) rfl ?_
    refine A_bipush C (x := 7) dX6_lesson_12 (by decide) (pc' := 14) rfl ?_
    obtain ⟨q47, h48, hF⟩ := Option.bind_eq_some_iff.mp hF
    refine A_callS C (av := [.int a1, .int (-1 : Int32), .int (7 : Int32)]) (rest := []) (st2 := [.int q47]) (k2 := 0) (n2 := 0) (F_X6_in_ok hu h48) mk_X6_in lm_X6_72 ws_X6_in rfl rfl rfl ⟨by decide, by decide⟩ (Nat.le_of_ble_eq_true rfl) rfl rfl dX6_lesson_14 rfl rfl rfl (pc' := 17) rfl ?_
    refine A_if_eq C dX6_lesson_17 (tgt := 57) (by decide) (pc' := 20) rfl (fun c49 => ?_) (fun c49 => ?_)
    · rw [if_pos c49] at hF
      refine A_iconst C (x := 1) dX6_lesson_57 (by decide) (pc' := 58) rfl ?_
      refine A_goto C dX6_lesson_58 (tgt := 62) (by decide) ?_
      refine A_mask [true, true, true, true, true, true, true, false] (lv' := [some (.ref 21), some (.int a0), some (.int a1), some (.int a2), some (.int a3), some (.int a4), some (.int a5), none]) rfl ?_
      exact hJ62 (1 : Int32) s hF
    · rw [if_neg c49] at hF
      refine A_iload_n C dX6_lesson_20 rfl (pc' := 21) rfl ?_
      refine A_iload_n C dX6_lesson_21 rfl (pc' := 22) rfl ?_
      refine A_icmp_eq C dX6_lesson_22 (tgt := 57) (by decide) (pc' := 25) rfl (fun c50 => ?_) (fun c50 => ?_)
      · rw [if_pos c50] at hF
        refine A_iconst C (x := 1) dX6_lesson_57 (by decide) (pc' := 58) rfl ?_
        refine A_goto C dX6_lesson_58 (tgt := 62) (by decide) ?_
        refine A_mask [true, true, true, true, true, true, true, false] (lv' := [some (.ref 21), some (.int a0), some (.int a1), some (.int a2), some (.int a3), some (.int a4), some (.int a5), none]) rfl ?_
        exact hJ62 (1 : Int32) s hF
      · rw [if_neg c50] at hF
        refine A_iload_n C dX6_lesson_25 rfl (pc' := 26) rfl ?_
        refine A_iconst C (x := 0) dX6_lesson_26 (by decide) (pc' := 27) rfl ?_
        refine A_bipush C (x := 7) dX6_lesson_27 (by decide) (pc' := 29) rfl ?_
        obtain ⟨q51, h52, hF⟩ := Option.bind_eq_some_iff.mp hF
        refine A_callS C (av := [.int a2, .int (0 : Int32), .int (7 : Int32)]) (rest := []) (st2 := [.int q51]) (k2 := 0) (n2 := 0) (F_X6_in_ok hu h52) mk_X6_in lm_X6_72 ws_X6_in rfl rfl rfl ⟨by decide, by decide⟩ (Nat.le_of_ble_eq_true rfl) rfl rfl dX6_lesson_29 rfl rfl rfl (pc' := 32) rfl ?_
        refine A_if_eq C dX6_lesson_32 (tgt := 57) (by decide) (pc' := 35) rfl (fun c53 => ?_) (fun c53 => ?_)
        · rw [if_pos c53] at hF
          refine A_iconst C (x := 1) dX6_lesson_57 (by decide) (pc' := 58) rfl ?_
          refine A_goto C dX6_lesson_58 (tgt := 62) (by decide) ?_
          refine A_mask [true, true, true, true, true, true, true, false] (lv' := [some (.ref 21), some (.int a0), some (.int a1), some (.int a2), some (.int a3), some (.int a4), some (.int a5), none]) rfl ?_
          exact hJ62 (1 : Int32) s hF
        · rw [if_neg c53] at hF
          refine A_iload C dX6_lesson_35 rfl (pc' := 37) rfl ?_
          refine A_iconst C (x := 0) dX6_lesson_37 (by decide) (pc' := 38) rfl ?_
          refine A_iconst C (x := 2) dX6_lesson_38 (by decide) (pc' := 39) rfl ?_
          obtain ⟨q54, h55, hF⟩ := Option.bind_eq_some_iff.mp hF
          refine A_callS C (av := [.int a3, .int (0 : Int32), .int (2 : Int32)]) (rest := []) (st2 := [.int q54]) (k2 := 0) (n2 := 0) (F_X6_in_ok hu h55) mk_X6_in lm_X6_72 ws_X6_in rfl rfl rfl ⟨by decide, by decide⟩ (Nat.le_of_ble_eq_true rfl) rfl rfl dX6_lesson_39 rfl rfl rfl (pc' := 42) rfl ?_
          refine A_if_eq C dX6_lesson_42 (tgt := 57) (by decide) (pc' := 45) rfl (fun c56 => ?_) (fun c56 => ?_)
          · rw [if_pos c56] at hF
            refine A_iconst C (x := 1) dX6_lesson_57 (by decide) (pc' := 58) rfl ?_
            refine A_goto C dX6_lesson_58 (tgt := 62) (by decide) ?_
            refine A_mask [true, true, true, true, true, true, true, false] (lv' := [some (.ref 21), some (.int a0), some (.int a1), some (.int a2), some (.int a3), some (.int a4), some (.int a5), none]) rfl ?_
            exact hJ62 (1 : Int32) s hF
          · rw [if_neg c56] at hF
            refine A_iload C dX6_lesson_45 rfl (pc' := 47) rfl ?_
            refine A_bipush C (x := 33) dX6_lesson_47 (by decide) (pc' := 49) rfl ?_
            refine A_bipush C (x := 126) dX6_lesson_49 (by decide) (pc' := 51) rfl ?_
            obtain ⟨q57, h58, hF⟩ := Option.bind_eq_some_iff.mp hF
            refine A_callS C (av := [.int a5, .int (33 : Int32), .int (126 : Int32)]) (rest := []) (st2 := [.int q57]) (k2 := 0) (n2 := 0) (F_X6_in_ok hu h58) mk_X6_in lm_X6_72 ws_X6_in rfl rfl rfl ⟨by decide, by decide⟩ (Nat.le_of_ble_eq_true rfl) rfl rfl dX6_lesson_51 rfl rfl rfl (pc' := 54) rfl ?_
            refine A_if_ne C dX6_lesson_54 (tgt := 61) (by decide) (pc' := 57) rfl (fun c59 => ?_) (fun c59 => ?_)
            · rw [if_neg c59] at hF
              refine A_iconst C (x := 0) dX6_lesson_61 (by decide) (pc' := 62) rfl ?_
              refine A_mask [true, true, true, true, true, true, true, false] (lv' := [some (.ref 21), some (.int a0), some (.int a1), some (.int a2), some (.int a3), some (.int a4), some (.int a5), none]) rfl ?_
              exact hJ62 (0 : Int32) s hF
            · rw [if_pos c59] at hF
              refine A_iconst C (x := 1) dX6_lesson_57 (by decide) (pc' := 58) rfl ?_
              refine A_goto C dX6_lesson_58 (tgt := 62) (by decide) ?_
              refine A_mask [true, true, true, true, true, true, true, false] (lv' := [some (.ref 21), some (.int a0), some (.int a1), some (.int a2), some (.int a3), some (.int a4), some (.int a5), none]) rfl ?_
              exact hJ62 (1 : Int32) s hF
def F_X6_lessonOf (a0 : Int32) (s : Sg) : Option Int32 :=
  some (a0 / (4 : Int32))
set_option maxHeartbeats 4000000 in
set_option maxRecDepth 100000 in
theorem F_X6_lessonOf_ok {u : Uv} (hu : Un u) {a0 : Int32} {s : Sg} {o : Nat → Int64} {r : Int32} (hF : F_X6_lessonOf a0 s = some r) : AM u (yX6_lessonOf, cX6_lessonOf, 1, (some .int)) 0 0 0 [.int a0] (HP s o) (some (.int r)) (HP s o) := by
  refine AM.of hu (lv := [some (.int a0)]) (by decide) rfl (Nat.le_of_ble_eq_true rfl) rfl ?_
  intro Γ eu eN C T
  subst eu
  have C : Cok Γ cX6_lessonOf RX6 (some .int) 0 0 0 := C
  unfold F_X6_lessonOf at hF
  refine A_iload_n C dX6_lessonOf_0 rfl (pc' := 1) rfl ?_
  refine A_iconst C (x := 4) dX6_lessonOf_1 (by decide) (pc' := 2) rfl ?_
  refine A_idiv C dX6_lessonOf_2 (by decide) (pc' := 3) rfl ?_
  cases hF
  exact A_iret C T (Nat.le_refl _) (Nat.le_refl _) dX6_lessonOf_3
def F_X6_covers (a0 : Int32) (a1 : Int32) (s : Sg) : Option Int32 :=
  grd (ixb a0 64 = true) <|
  if (s 30 a0.toNatClampNeg) < 0 then
    some (0 : Int32)
  else
    grd (ixb a0 64 = true) <|
    grd (ixb a0 64 = true) <|
    (F_X6_lessonOf a0 s).bind fun q5 =>
    grd (ixb q5 16 = true) <|
    (F_X6_in a1 (s 30 a0.toNatClampNeg) (((s 30 a0.toNatClampNeg) + (s 27 q5.toNatClampNeg)) - (1 : Int32)) s).bind fun q8 =>
    if q8 = 0 then
      some (0 : Int32)
    else
      some (1 : Int32)
set_option maxHeartbeats 4000000 in
set_option maxRecDepth 100000 in
theorem F_X6_covers_ok {u : Uv} (hu : Un u) {a0 a1 : Int32} {s : Sg} {o : Nat → Int64} {r : Int32} (hF : F_X6_covers a0 a1 s = some r) : AM u (yX6_covers, cX6_covers, 3, (some .boolean)) 1 0 0 [.ref 21, .int a0, .int a1] (HP s o) (some (.int r)) (HP s o) := by
  refine AM.of hu (lv := [some (.ref 21), some (.int a0), some (.int a1)]) (by decide) rfl (Nat.le_of_ble_eq_true rfl) rfl ?_
  intro Γ eu eN C T
  subst eu
  have C : Cok Γ cX6_covers RX6 (some .boolean) 1 0 0 := C
  unfold F_X6_covers at hF
  refine A_aload_n C dX6_covers_0 rfl (pc' := 1) rfl ?_
  refine A_get C (j := 12) cl_X6 rfl rfl lf_X6_34 dX6_covers_1 (HPg_21 s o) rfl (pc' := 4) rfl ?_
  refine A_iload_n C dX6_covers_4 rfl (pc' := 5) rfl ?_
  obtain ⟨h1, hF⟩ := grd_some hF
  refine A_iald C (HPg_30 s o) (ixb_in h1) dX6_covers_5 (pc' := 6) rfl ?_
  refine A_if_lt C dX6_covers_6 (tgt := 44) (by decide) (pc' := 9) rfl (fun c2 => ?_) (fun c2 => ?_)
  · rw [if_pos c2] at hF
    refine A_iconst C (x := 0) dX6_covers_44 (by decide) (pc' := 45) rfl ?_
    cases hF
    exact A_zret C T (Or.inl rfl) (Nat.le_refl _) (Nat.le_refl _) dX6_covers_45
  · rw [if_neg c2] at hF
    refine A_iload_n C dX6_covers_9 rfl (pc' := 10) rfl ?_
    refine A_aload_n C dX6_covers_10 rfl (pc' := 11) rfl ?_
    refine A_get C (j := 12) cl_X6 rfl rfl lf_X6_34 dX6_covers_11 (HPg_21 s o) rfl (pc' := 14) rfl ?_
    refine A_iload_n C dX6_covers_14 rfl (pc' := 15) rfl ?_
    obtain ⟨h3, hF⟩ := grd_some hF
    refine A_iald C (HPg_30 s o) (ixb_in h3) dX6_covers_15 (pc' := 16) rfl ?_
    refine A_aload_n C dX6_covers_16 rfl (pc' := 17) rfl ?_
    refine A_get C (j := 12) cl_X6 rfl rfl lf_X6_34 dX6_covers_17 (HPg_21 s o) rfl (pc' := 20) rfl ?_
    refine A_iload_n C dX6_covers_20 rfl (pc' := 21) rfl ?_
    obtain ⟨h4, hF⟩ := grd_some hF
    refine A_iald C (HPg_30 s o) (ixb_in h4) dX6_covers_21 (pc' := 22) rfl ?_
    refine A_aload_n C dX6_covers_22 rfl (pc' := 23) rfl ?_
    refine A_get C (j := 9) cl_X6 rfl rfl lf_X6_25 dX6_covers_23 (HPg_21 s o) rfl (pc' := 26) rfl ?_
    refine A_iload_n C dX6_covers_26 rfl (pc' := 27) rfl ?_
    obtain ⟨q5, h6, hF⟩ := Option.bind_eq_some_iff.mp hF
    refine A_callS C (av := [.int a0]) (rest := [.ref 27, .int (s 30 a0.toNatClampNeg), .int (s 30 a0.toNatClampNeg), .int a1]) (st2 := [.int q5, .ref 27, .int (s 30 a0.toNatClampNeg), .int (s 30 a0.toNatClampNeg), .int a1]) (k2 := 0) (n2 := 0) (F_X6_lessonOf_ok hu h6) mk_X6_lessonOf lm_X6_79 ws_X6_lessonOf rfl rfl rfl ⟨by decide, by decide⟩ (Nat.le_of_ble_eq_true rfl) rfl rfl dX6_covers_27 rfl rfl rfl (pc' := 30) rfl ?_
    obtain ⟨h7, hF⟩ := grd_some hF
    refine A_iald C (HPg_27 s o) (ixb_in h7) dX6_covers_30 (pc' := 31) rfl ?_
    refine A_iadd C dX6_covers_31 (pc' := 32) rfl ?_
    refine A_iconst C (x := 1) dX6_covers_32 (by decide) (pc' := 33) rfl ?_
    refine A_isub C dX6_covers_33 (pc' := 34) rfl ?_
    obtain ⟨q8, h9, hF⟩ := Option.bind_eq_some_iff.mp hF
    refine A_callS C (av := [.int a1, .int (s 30 a0.toNatClampNeg), .int (((s 30 a0.toNatClampNeg) + (s 27 q5.toNatClampNeg)) - (1 : Int32))]) (rest := []) (st2 := [.int q8]) (k2 := 0) (n2 := 0) (F_X6_in_ok hu h9) mk_X6_in lm_X6_72 ws_X6_in rfl rfl rfl ⟨by decide, by decide⟩ (Nat.le_of_ble_eq_true rfl) rfl rfl dX6_covers_34 rfl rfl rfl (pc' := 37) rfl ?_
    refine A_if_eq C dX6_covers_37 (tgt := 44) (by decide) (pc' := 40) rfl (fun c10 => ?_) (fun c10 => ?_)
    · rw [if_pos c10] at hF
      refine A_iconst C (x := 0) dX6_covers_44 (by decide) (pc' := 45) rfl ?_
      cases hF
      exact A_zret C T (Or.inl rfl) (Nat.le_refl _) (Nat.le_refl _) dX6_covers_45
    · rw [if_neg c10] at hF
      refine A_iconst C (x := 1) dX6_covers_40 (by decide) (pc' := 41) rfl ?_
      refine A_goto C dX6_covers_41 (tgt := 45) (by decide) ?_
      cases hF
      exact A_zret C T (Or.inr rfl) (Nat.le_refl _) (Nat.le_refl _) dX6_covers_45
def F_X6_isOf (a0 : Int32) (a1 : Int32) (a2 : Int32) (s : Sg) : Option Int32 :=
  (F_X6_lessonOf a0 s).bind fun q1 =>
  if q1 < (s 2204 0) then
    if a1 = 0 then
      grd (ixb q1 16 = true) <|
      if (s 23 q1.toNatClampNeg) = a2 then
        some (1 : Int32)
      else
        grd (ixb q1 16 = true) <|
        if (s 24 q1.toNatClampNeg) = a2 then
          some (1 : Int32)
        else
          some (0 : Int32)
    else
      if a1 = (1 : Int32) then
        grd (ixb q1 16 = true) <|
        if (s 25 q1.toNatClampNeg) = a2 then
          some (1 : Int32)
        else
          some (0 : Int32)
      else
        grd (ixb a0 64 = true) <|
        if (s 31 a0.toNatClampNeg) = a2 then
          some (1 : Int32)
        else
          some (0 : Int32)
  else
    some (0 : Int32)
set_option maxHeartbeats 4000000 in
set_option maxRecDepth 100000 in
theorem F_X6_isOf_ok {u : Uv} (hu : Un u) {a0 a1 a2 : Int32} {s : Sg} {o : Nat → Int64} {r : Int32} (hF : F_X6_isOf a0 a1 a2 s = some r) : AM u (yX6_isOf, cX6_isOf, 5, (some .boolean)) 1 0 0 [.ref 21, .int a0, .int a1, .int a2] (HP s o) (some (.int r)) (HP s o) := by
  refine AM.of hu (lv := [some (.ref 21), some (.int a0), some (.int a1), some (.int a2), none]) (by decide) rfl (Nat.le_of_ble_eq_true rfl) rfl ?_
  intro Γ eu eN C T
  subst eu
  have C : Cok Γ cX6_isOf RX6 (some .boolean) 1 0 0 := C
  unfold F_X6_isOf at hF
  refine A_iload_n C dX6_isOf_0 rfl (pc' := 1) rfl ?_
  obtain ⟨q1, h2, hF⟩ := Option.bind_eq_some_iff.mp hF
  refine A_callS C (av := [.int a0]) (rest := []) (st2 := [.int q1]) (k2 := 0) (n2 := 0) (F_X6_lessonOf_ok hu h2) mk_X6_lessonOf lm_X6_79 ws_X6_lessonOf rfl rfl rfl ⟨by decide, by decide⟩ (Nat.le_of_ble_eq_true rfl) rfl rfl dX6_isOf_1 rfl rfl rfl (pc' := 4) rfl ?_
  refine A_istore C (lv' := [some (.ref 21), some (.int a0), some (.int a1), some (.int a2), some (.int q1)]) dX6_isOf_4 rfl eN rfl rfl (pc' := 6) rfl ?_
  refine A_iload C dX6_isOf_6 rfl (pc' := 8) rfl ?_
  refine A_aload_n C dX6_isOf_8 rfl (pc' := 9) rfl ?_
  refine A_get C (j := 4) cl_X6 rfl rfl lf_X6_76 dX6_isOf_9 (HPg_21 s o) rfl (pc' := 12) rfl ?_
  refine A_icmp_lt C dX6_isOf_12 (tgt := 17) (by decide) (pc' := 15) rfl (fun c3 => ?_) (fun c3 => ?_)
  · rw [if_pos c3] at hF
    refine A_iload_n C dX6_isOf_17 rfl (pc' := 18) rfl ?_
    refine A_if_ne C dX6_isOf_18 (tgt := 51) (by decide) (pc' := 21) rfl (fun c4 => ?_) (fun c4 => ?_)
    · rw [if_neg c4] at hF
      refine A_iload_n C dX6_isOf_51 rfl (pc' := 52) rfl ?_
      refine A_iconst C (x := 1) dX6_isOf_52 (by decide) (pc' := 53) rfl ?_
      refine A_icmp_ne C dX6_isOf_53 (tgt := 75) (by decide) (pc' := 56) rfl (fun c5 => ?_) (fun c5 => ?_)
      · rw [if_neg c5] at hF
        refine A_aload_n C dX6_isOf_75 rfl (pc' := 76) rfl ?_
        refine A_get C (j := 13) cl_X6 rfl rfl lf_X6_37 dX6_isOf_76 (HPg_21 s o) rfl (pc' := 79) rfl ?_
        refine A_iload_n C dX6_isOf_79 rfl (pc' := 80) rfl ?_
        obtain ⟨h6, hF⟩ := grd_some hF
        refine A_iald C (HPg_31 s o) (ixb_in h6) dX6_isOf_80 (pc' := 81) rfl ?_
        refine A_iload_n C dX6_isOf_81 rfl (pc' := 82) rfl ?_
        refine A_icmp_ne C dX6_isOf_82 (tgt := 89) (by decide) (pc' := 85) rfl (fun c7 => ?_) (fun c7 => ?_)
        · rw [if_neg c7] at hF
          refine A_iconst C (x := 0) dX6_isOf_89 (by decide) (pc' := 90) rfl ?_
          cases hF
          exact A_zret C T (Or.inl rfl) (Nat.le_refl _) (Nat.le_refl _) dX6_isOf_90
        · rw [if_pos c7] at hF
          refine A_iconst C (x := 1) dX6_isOf_85 (by decide) (pc' := 86) rfl ?_
          refine A_goto C dX6_isOf_86 (tgt := 90) (by decide) ?_
          cases hF
          exact A_zret C T (Or.inr rfl) (Nat.le_refl _) (Nat.le_refl _) dX6_isOf_90
      · rw [if_pos c5] at hF
        refine A_aload_n C dX6_isOf_56 rfl (pc' := 57) rfl ?_
        refine A_get C (j := 7) cl_X6 rfl rfl lf_X6_19 dX6_isOf_57 (HPg_21 s o) rfl (pc' := 60) rfl ?_
        refine A_iload C dX6_isOf_60 rfl (pc' := 62) rfl ?_
        obtain ⟨h8, hF⟩ := grd_some hF
        refine A_iald C (HPg_25 s o) (ixb_in h8) dX6_isOf_62 (pc' := 63) rfl ?_
        refine A_iload_n C dX6_isOf_63 rfl (pc' := 64) rfl ?_
        refine A_icmp_ne C dX6_isOf_64 (tgt := 71) (by decide) (pc' := 67) rfl (fun c9 => ?_) (fun c9 => ?_)
        · rw [if_neg c9] at hF
          refine A_iconst C (x := 0) dX6_isOf_71 (by decide) (pc' := 72) rfl ?_
          refine A_goto C dX6_isOf_72 (tgt := 90) (by decide) ?_
          cases hF
          exact A_zret C T (Or.inl rfl) (Nat.le_refl _) (Nat.le_refl _) dX6_isOf_90
        · rw [if_pos c9] at hF
          refine A_iconst C (x := 1) dX6_isOf_67 (by decide) (pc' := 68) rfl ?_
          refine A_goto C dX6_isOf_68 (tgt := 90) (by decide) ?_
          cases hF
          exact A_zret C T (Or.inr rfl) (Nat.le_refl _) (Nat.le_refl _) dX6_isOf_90
    · rw [if_pos c4] at hF
      refine A_aload_n C dX6_isOf_21 rfl (pc' := 22) rfl ?_
      refine A_get C (j := 5) cl_X6 rfl rfl lf_X6_13 dX6_isOf_22 (HPg_21 s o) rfl (pc' := 25) rfl ?_
      refine A_iload C dX6_isOf_25 rfl (pc' := 27) rfl ?_
      obtain ⟨h10, hF⟩ := grd_some hF
      refine A_iald C (HPg_23 s o) (ixb_in h10) dX6_isOf_27 (pc' := 28) rfl ?_
      refine A_iload_n C dX6_isOf_28 rfl (pc' := 29) rfl ?_
      refine A_icmp_eq C dX6_isOf_29 (tgt := 43) (by decide) (pc' := 32) rfl (fun c11 => ?_) (fun c11 => ?_)
      · rw [if_pos c11] at hF
        refine A_iconst C (x := 1) dX6_isOf_43 (by decide) (pc' := 44) rfl ?_
        refine A_goto C dX6_isOf_44 (tgt := 90) (by decide) ?_
        cases hF
        exact A_zret C T (Or.inr rfl) (Nat.le_refl _) (Nat.le_refl _) dX6_isOf_90
      · rw [if_neg c11] at hF
        refine A_aload_n C dX6_isOf_32 rfl (pc' := 33) rfl ?_
        refine A_get C (j := 6) cl_X6 rfl rfl lf_X6_16 dX6_isOf_33 (HPg_21 s o) rfl (pc' := 36) rfl ?_
        refine A_iload C dX6_isOf_36 rfl (pc' := 38) rfl ?_
        obtain ⟨h12, hF⟩ := grd_some hF
        refine A_iald C (HPg_24 s o) (ixb_in h12) dX6_isOf_38 (pc' := 39) rfl ?_
        refine A_iload_n C dX6_isOf_39 rfl (pc' := 40) rfl ?_
        refine A_icmp_ne C dX6_isOf_40 (tgt := 47) (by decide) (pc' := 43) rfl (fun c13 => ?_) (fun c13 => ?_)
        · rw [if_neg c13] at hF
          refine A_iconst C (x := 0) dX6_isOf_47 (by decide) (pc' := 48) rfl ?_
          refine A_goto C dX6_isOf_48 (tgt := 90) (by decide) ?_
          cases hF
          exact A_zret C T (Or.inl rfl) (Nat.le_refl _) (Nat.le_refl _) dX6_isOf_90
        · rw [if_pos c13] at hF
          refine A_iconst C (x := 1) dX6_isOf_43 (by decide) (pc' := 44) rfl ?_
          refine A_goto C dX6_isOf_44 (tgt := 90) (by decide) ?_
          cases hF
          exact A_zret C T (Or.inr rfl) (Nat.le_refl _) (Nat.le_refl _) dX6_isOf_90
  · rw [if_neg c3] at hF
    refine A_iconst C (x := 0) dX6_isOf_15 (by decide) (pc' := 16) rfl ?_
    cases hF
    exact A_zret C T (Or.inl rfl) (Nat.le_refl _) (Nat.le_refl _) dX6_isOf_16
