def L_X6_keep_2 : Nat → Int32 → Sg → Option (Sg)
  | 0, _, _ => none
  | fu + 1, b1, s =>
    if (64 : Int32) ≤ b1 then
      some s
    else
      grd (ixb b1 64 = true) <|
      grd (ixb b1 64 = true) <|
      bnd (va_up s 34 (upd (s 34) b1.toNatClampNeg (s 30 b1.toNatClampNeg))) fun s4 =>
      grd (ixb b1 64 = true) <|
      grd (ixb b1 64 = true) <|
      bnd (va_up s4 35 (upd (s4 35) b1.toNatClampNeg (s4 31 b1.toNatClampNeg))) fun s8 =>
      bnd (b1 + (1 : Int32)) fun x10 =>
      L_X6_keep_2 fu x10 s8
def F_X6_keep (s : Sg) : Option Sg :=
  (L_X6_keep_2 FU (0 : Int32) s).bind fun q12 =>
  some q12
set_option maxHeartbeats 4000000 in
set_option maxRecDepth 100000 in
theorem L_X6_keep_2_ok {Γ : Cx} (hu : Un Γ.2.1) (eN : 2 = Γ.2.2.2.2.2) (C : Cok Γ cX6_keep RX6 none 0 0 0) {o : Nat → Int64} : ∀ (fu : Nat) (b1 : Int32) (s : Sg) (q : (Sg)), L_X6_keep_2 fu b1 s = some q → AW Γ (HP q o) 0 0 [none, none] [] 38 → AW Γ (HP s o) 0 0 [some (.ref 21), some (.int b1)] [] 2 := by
  intro fu
  induction fu with
  | zero => intro b1 s q hF; rw [L_X6_keep_2] at hF; cases hF
  | succ fu ih =>
    intro b1 s q hF hexit
    rw [L_X6_keep_2] at hF
    refine A_iload_n C dX6_keep_2 rfl (pc' := 3) rfl ?_
    refine A_bipush C (x := 64) dX6_keep_3 (by decide) (pc' := 5) rfl ?_
    refine A_icmp_ge C dX6_keep_5 (tgt := 38) (by decide) (pc' := 8) rfl (fun c1 => ?_) (fun c1 => ?_)
    · rw [if_pos c1] at hF
      cases hF
      refine A_mask [false, false] (lv' := [none, none]) rfl ?_
      exact hexit
    · rw [if_neg c1] at hF
      refine A_aload_n C dX6_keep_8 rfl (pc' := 9) rfl ?_
      refine A_get C (j := 17) cl_X6 rfl rfl lf_X6_47 dX6_keep_9 (HPg_21 s o) rfl (pc' := 12) rfl ?_
      refine A_iload_n C dX6_keep_12 rfl (pc' := 13) rfl ?_
      refine A_aload_n C dX6_keep_13 rfl (pc' := 14) rfl ?_
      refine A_get C (j := 12) cl_X6 rfl rfl lf_X6_34 dX6_keep_14 (HPg_21 s o) rfl (pc' := 17) rfl ?_
      refine A_iload_n C dX6_keep_17 rfl (pc' := 18) rfl ?_
      obtain ⟨h2, hF⟩ := grd_some hF
      refine A_iald C (HPg_30 s o) (ixb_in h2) dX6_keep_18 (pc' := 19) rfl ?_
      obtain ⟨h3, hF⟩ := grd_some hF
      obtain ⟨s4, e5, hF⟩ := bnd_some hF
      refine A_iast C (h1 := HP s4 o) (HPg_34 s o) (ixb_in h3) (by rw [e5]; exact HPs_34 s o _) dX6_keep_19 (pc' := 20) rfl ?_
      refine A_aload_n C dX6_keep_20 rfl (pc' := 21) rfl ?_
      refine A_get C (j := 18) cl_X6 rfl rfl lf_X6_50 dX6_keep_21 (HPg_21 s4 o) rfl (pc' := 24) rfl ?_
      refine A_iload_n C dX6_keep_24 rfl (pc' := 25) rfl ?_
      refine A_aload_n C dX6_keep_25 rfl (pc' := 26) rfl ?_
      refine A_get C (j := 13) cl_X6 rfl rfl lf_X6_37 dX6_keep_26 (HPg_21 s4 o) rfl (pc' := 29) rfl ?_
      refine A_iload_n C dX6_keep_29 rfl (pc' := 30) rfl ?_
      obtain ⟨h6, hF⟩ := grd_some hF
      refine A_iald C (HPg_31 s4 o) (ixb_in h6) dX6_keep_30 (pc' := 31) rfl ?_
      obtain ⟨h7, hF⟩ := grd_some hF
      obtain ⟨s8, e9, hF⟩ := bnd_some hF
      refine A_iast C (h1 := HP s8 o) (HPg_35 s4 o) (ixb_in h7) (by rw [e9]; exact HPs_35 s4 o _) dX6_keep_31 (pc' := 32) rfl ?_
      obtain ⟨x10, e11, hF⟩ := bnd_some hF
      refine A_iinc C (lv' := [some (.ref 21), some (.int x10)]) dX6_keep_32 rfl (by rw [e11]; rfl) rfl eN rfl rfl (pc' := 35) rfl ?_
      refine A_goto C dX6_keep_35 (tgt := 2) (by decide) ?_
      refine A_mask [true, true] (lv' := [some (.ref 21), some (.int x10)]) rfl ?_
      exact ih x10 s8 q hF hexit
set_option maxHeartbeats 4000000 in
set_option maxRecDepth 100000 in
theorem F_X6_keep_ok {u : Uv} (hu : Un u) {s : Sg} {o : Nat → Int64} {r : Sg} (hF : F_X6_keep  s = some r) : AM u (yX6_keep, cX6_keep, 2, none) 0 0 0 [.ref 21] (HP s o) none (HP r o) := by
  refine AM.of hu (lv := [some (.ref 21), none]) (by decide) rfl (Nat.le_of_ble_eq_true rfl) rfl ?_
  intro Γ eu eN C T
  subst eu
  have C : Cok Γ cX6_keep RX6 none 0 0 0 := C
  unfold F_X6_keep at hF
  refine A_iconst C (x := 0) dX6_keep_0 (by decide) (pc' := 1) rfl ?_
  refine A_istore_n C (lv' := [some (.ref 21), some (.int (0 : Int32))]) dX6_keep_1 rfl eN rfl rfl (pc' := 2) rfl ?_
  obtain ⟨q12, h13, hF⟩ := Option.bind_eq_some_iff.mp hF
  refine A_mask [true, true] (lv' := [some (.ref 21), some (.int (0 : Int32))]) rfl ?_
  refine L_X6_keep_2_ok hu eN C FU (0 : Int32) s q12 h13 ?_
  cases hF
  exact A_vret C T (Nat.le_refl _) (Nat.le_refl _) dX6_keep_38
def F_X6_put (a0 : Int32) (a1 : Int32) (s : Sg) : Option Sg :=
  (F_X6_lessonOf a0 s).bind fun q1 =>
  (F_X6_freeRoom q1 a1 s).bind fun q3 =>
  grd (ixb a0 64 = true) <|
  bnd (va_up s 30 (upd (s 30) a0.toNatClampNeg a1)) fun s6 =>
  grd (ixb a0 64 = true) <|
  bnd (va_up s6 31 (upd (s6 31) a0.toNatClampNeg q3)) fun s9 =>
  some s9
set_option maxHeartbeats 4000000 in
set_option maxRecDepth 100000 in
theorem F_X6_put_ok {u : Uv} (hu : Un u) {a0 a1 : Int32} {s : Sg} {o : Nat → Int64} {r : Sg} (hF : F_X6_put a0 a1 s = some r) : AM u (yX6_put, cX6_put, 4, none) 5 0 0 [.ref 21, .int a0, .int a1] (HP s o) none (HP r o) := by
  refine AM.of hu (lv := [some (.ref 21), some (.int a0), some (.int a1), none]) (by decide) rfl (Nat.le_of_ble_eq_true rfl) rfl ?_
  intro Γ eu eN C T
  subst eu
  have C : Cok Γ cX6_put RX6 none 5 0 0 := C
  unfold F_X6_put at hF
  refine A_aload_n C dX6_put_0 rfl (pc' := 1) rfl ?_
  refine A_iload_n C dX6_put_1 rfl (pc' := 2) rfl ?_
  obtain ⟨q1, h2, hF⟩ := Option.bind_eq_some_iff.mp hF
  refine A_callS C (av := [.int a0]) (rest := [.ref 21]) (st2 := [.int q1, .ref 21]) (k2 := 0) (n2 := 0) (F_X6_lessonOf_ok hu h2) mk_X6_lessonOf lm_X6_79 ws_X6_lessonOf rfl rfl rfl ⟨by decide, by decide⟩ (Nat.le_of_ble_eq_true rfl) rfl rfl dX6_put_2 rfl rfl rfl (pc' := 5) rfl ?_
  refine A_iload_n C dX6_put_5 rfl (pc' := 6) rfl ?_
  obtain ⟨q3, h4, hF⟩ := Option.bind_eq_some_iff.mp hF
  refine A_callV C (av := [.int q1, .int a1]) (rest := []) (st2 := [.int q3]) (k2 := 0) (n2 := 0) (F_X6_freeRoom_ok hu h4) mk_X6_freeRoom lm_X6_112 wi_X6_freeRoom wv_X6_freeRoom (HPg_21 s o) rfl rfl rfl rfl ⟨by decide, by decide⟩ (Nat.le_of_ble_eq_true rfl) rfl rfl dX6_put_6 rfl rfl rfl (pc' := 9) rfl ?_
  refine A_istore_n C (lv' := [some (.ref 21), some (.int a0), some (.int a1), some (.int q3)]) dX6_put_9 rfl eN rfl rfl (pc' := 10) rfl ?_
  refine A_aload_n C dX6_put_10 rfl (pc' := 11) rfl ?_
  refine A_get C (j := 12) cl_X6 rfl rfl lf_X6_34 dX6_put_11 (HPg_21 s o) rfl (pc' := 14) rfl ?_
  refine A_iload_n C dX6_put_14 rfl (pc' := 15) rfl ?_
  refine A_iload_n C dX6_put_15 rfl (pc' := 16) rfl ?_
  obtain ⟨h5, hF⟩ := grd_some hF
  obtain ⟨s6, e7, hF⟩ := bnd_some hF
  refine A_iast C (h1 := HP s6 o) (HPg_30 s o) (ixb_in h5) (by rw [e7]; exact HPs_30 s o _) dX6_put_16 (pc' := 17) rfl ?_
  refine A_aload_n C dX6_put_17 rfl (pc' := 18) rfl ?_
  refine A_get C (j := 13) cl_X6 rfl rfl lf_X6_37 dX6_put_18 (HPg_21 s6 o) rfl (pc' := 21) rfl ?_
  refine A_iload_n C dX6_put_21 rfl (pc' := 22) rfl ?_
  refine A_iload_n C dX6_put_22 rfl (pc' := 23) rfl ?_
  obtain ⟨h8, hF⟩ := grd_some hF
  obtain ⟨s9, e10, hF⟩ := bnd_some hF
  refine A_iast C (h1 := HP s9 o) (HPg_31 s6 o) (ixb_in h8) (by rw [e10]; exact HPs_31 s6 o _) dX6_put_23 (pc' := 24) rfl ?_
  cases hF
  exact A_vret C T (Nat.le_refl _) (Nat.le_refl _) dX6_put_24
def L_X6_note_4 : Nat → Int32 → Int32 → Sg → Option (Int32)
  | 0, _, _, _ => none
  | fu + 1, b1, b2, s =>
    if (64 : Int32) ≤ b2 then
      some b1
    else
      if b1 = 0 then
        grd (ixb b2 64 = true) <|
        grd (ixb b2 64 = true) <|
        if (s 34 b2.toNatClampNeg) = (s 30 b2.toNatClampNeg) then
          grd (ixb b2 64 = true) <|
          grd (ixb b2 64 = true) <|
          if (s 35 b2.toNatClampNeg) = (s 31 b2.toNatClampNeg) then
            bnd (b2 + (1 : Int32)) fun x13 =>
            L_X6_note_4 fu (0 : Int32) x13 s
          else
            bnd (b2 + (1 : Int32)) fun x15 =>
            L_X6_note_4 fu (1 : Int32) x15 s
        else
          bnd (b2 + (1 : Int32)) fun x8 =>
          L_X6_note_4 fu (1 : Int32) x8 s
      else
        bnd (b2 + (1 : Int32)) fun x3 =>
        L_X6_note_4 fu (1 : Int32) x3 s
def L_X6_note_127 : Nat → Int32 → Sg → Option (Sg)
  | 0, _, _ => none
  | fu + 1, b2, s =>
    if (64 : Int32) ≤ b2 then
      some s
    else
      grd (ixb b2 64 = true) <|
      grd (ixb (((64 : Int32) * (s 2221 0)) + b2) 1280 = true) <|
      bnd (va_up s 36 (upd (s 36) (((64 : Int32) * (s 2221 0)) + b2).toNatClampNeg (s 34 b2.toNatClampNeg))) fun s24 =>
      grd (ixb b2 64 = true) <|
      grd (ixb (((64 : Int32) * (s24 2221 0)) + b2) 1280 = true) <|
      bnd (va_up s24 37 (upd (s24 37) (((64 : Int32) * (s24 2221 0)) + b2).toNatClampNeg (s24 35 b2.toNatClampNeg))) fun s28 =>
      bnd (b2 + (1 : Int32)) fun x30 =>
      L_X6_note_127 fu x30 s28
def L_X6_note_72 : Nat → Int32 → Sg → Option (Sg)
  | 0, _, _ => none
  | fu + 1, b2, s =>
    if (1216 : Int32) ≤ b2 then
      some s
    else
      grd (ixb (b2 + (64 : Int32)) 1280 = true) <|
      grd (ixb b2 1280 = true) <|
      bnd (va_up s 36 (upd (s 36) b2.toNatClampNeg (s 36 (b2 + (64 : Int32)).toNatClampNeg))) fun s39 =>
      grd (ixb (b2 + (64 : Int32)) 1280 = true) <|
      grd (ixb b2 1280 = true) <|
      bnd (va_up s39 37 (upd (s39 37) b2.toNatClampNeg (s39 37 (b2 + (64 : Int32)).toNatClampNeg))) fun s43 =>
      bnd (b2 + (1 : Int32)) fun x45 =>
      L_X6_note_72 fu x45 s43
def F_X6_note (s : Sg) : Option Sg :=
  (L_X6_note_4 FU (0 : Int32) (0 : Int32) s).bind fun q17 =>
  if q17 = 0 then
    some s
  else
    if (s 2221 0) = (20 : Int32) then
      (L_X6_note_72 FU (0 : Int32) s).bind fun q47 =>
      bnd (va_up q47 2221 (fun _ => ((q47 2221 0) - (1 : Int32)))) fun s49 =>
      (L_X6_note_127 FU (0 : Int32) s49).bind fun q51 =>
      bnd (va_up q51 2221 (fun _ => ((q51 2221 0) + (1 : Int32)))) fun s53 =>
      some s53
    else
      (L_X6_note_127 FU (0 : Int32) s).bind fun q32 =>
      bnd (va_up q32 2221 (fun _ => ((q32 2221 0) + (1 : Int32)))) fun s34 =>
      some s34
set_option maxHeartbeats 4000000 in
set_option maxRecDepth 100000 in
theorem L_X6_note_4_ok {Γ : Cx} (hu : Un Γ.2.1) (eN : 3 = Γ.2.2.2.2.2) (C : Cok Γ cX6_note RX6 none 0 0 0) {o : Nat → Int64} : ∀ (fu : Nat) (b1 : Int32) (b2 : Int32) (s : Sg) (q : (Int32)), L_X6_note_4 fu b1 b2 s = some q → AW Γ (HP s o) 0 0 [some (.ref 21), some (.int q), none] [] 56 → AW Γ (HP s o) 0 0 [some (.ref 21), some (.int b1), some (.int b2)] [] 4 := by
  intro fu
  induction fu with
  | zero => intro b1 b2 s q hF; rw [L_X6_note_4] at hF; cases hF
  | succ fu ih =>
    intro b1 b2 s q hF hexit
    rw [L_X6_note_4] at hF
    refine A_iload_n C dX6_note_4 rfl (pc' := 5) rfl ?_
    refine A_bipush C (x := 64) dX6_note_5 (by decide) (pc' := 7) rfl ?_
    refine A_icmp_ge C dX6_note_7 (tgt := 56) (by decide) (pc' := 10) rfl (fun c1 => ?_) (fun c1 => ?_)
    · rw [if_pos c1] at hF
      cases hF
      refine A_mask [true, true, false] (lv' := [some (.ref 21), some (.int b1), none]) rfl ?_
      exact hexit
    · rw [if_neg c1] at hF
      refine A_iload_n C dX6_note_10 rfl (pc' := 11) rfl ?_
      refine A_if_ne C dX6_note_11 (tgt := 44) (by decide) (pc' := 14) rfl (fun c2 => ?_) (fun c2 => ?_)
      · rw [if_neg c2] at hF
        refine A_iconst C (x := 1) dX6_note_44 (by decide) (pc' := 45) rfl ?_
        refine A_goto C dX6_note_45 (tgt := 49) (by decide) ?_
        refine A_istore_n C (lv' := [some (.ref 21), some (.int (1 : Int32)), some (.int b2)]) dX6_note_49 rfl eN rfl rfl (pc' := 50) rfl ?_
        obtain ⟨x3, e4, hF⟩ := bnd_some hF
        refine A_iinc C (lv' := [some (.ref 21), some (.int (1 : Int32)), some (.int x3)]) dX6_note_50 rfl (by rw [e4]; rfl) rfl eN rfl rfl (pc' := 53) rfl ?_
        refine A_goto C dX6_note_53 (tgt := 4) (by decide) ?_
        refine A_mask [true, true, true] (lv' := [some (.ref 21), some (.int (1 : Int32)), some (.int x3)]) rfl ?_
        exact ih (1 : Int32) x3 s q hF hexit
      · rw [if_pos c2] at hF
        refine A_aload_n C dX6_note_14 rfl (pc' := 15) rfl ?_
        refine A_get C (j := 17) cl_X6 rfl rfl lf_X6_47 dX6_note_15 (HPg_21 s o) rfl (pc' := 18) rfl ?_
        refine A_iload_n C dX6_note_18 rfl (pc' := 19) rfl ?_
        obtain ⟨h5, hF⟩ := grd_some hF
        refine A_iald C (HPg_34 s o) (ixb_in h5) dX6_note_19 (pc' := 20) rfl ?_
        refine A_aload_n C dX6_note_20 rfl (pc' := 21) rfl ?_
        refine A_get C (j := 12) cl_X6 rfl rfl lf_X6_34 dX6_note_21 (HPg_21 s o) rfl (pc' := 24) rfl ?_
        refine A_iload_n C dX6_note_24 rfl (pc' := 25) rfl ?_
        obtain ⟨h6, hF⟩ := grd_some hF
        refine A_iald C (HPg_30 s o) (ixb_in h6) dX6_note_25 (pc' := 26) rfl ?_
        refine A_icmp_ne C dX6_note_26 (tgt := 44) (by decide) (pc' := 29) rfl (fun c7 => ?_) (fun c7 => ?_)
        · rw [if_neg c7] at hF
          refine A_iconst C (x := 1) dX6_note_44 (by decide) (pc' := 45) rfl ?_
          refine A_goto C dX6_note_45 (tgt := 49) (by decide) ?_
          refine A_istore_n C (lv' := [some (.ref 21), some (.int (1 : Int32)), some (.int b2)]) dX6_note_49 rfl eN rfl rfl (pc' := 50) rfl ?_
          obtain ⟨x8, e9, hF⟩ := bnd_some hF
          refine A_iinc C (lv' := [some (.ref 21), some (.int (1 : Int32)), some (.int x8)]) dX6_note_50 rfl (by rw [e9]; rfl) rfl eN rfl rfl (pc' := 53) rfl ?_
          refine A_goto C dX6_note_53 (tgt := 4) (by decide) ?_
          refine A_mask [true, true, true] (lv' := [some (.ref 21), some (.int (1 : Int32)), some (.int x8)]) rfl ?_
          exact ih (1 : Int32) x8 s q hF hexit
        · rw [if_pos c7] at hF
          refine A_aload_n C dX6_note_29 rfl (pc' := 30) rfl ?_
          refine A_get C (j := 18) cl_X6 rfl rfl lf_X6_50 dX6_note_30 (HPg_21 s o) rfl (pc' := 33) rfl ?_
          refine A_iload_n C dX6_note_33 rfl (pc' := 34) rfl ?_
          obtain ⟨h10, hF⟩ := grd_some hF
          refine A_iald C (HPg_35 s o) (ixb_in h10) dX6_note_34 (pc' := 35) rfl ?_
          refine A_aload_n C dX6_note_35 rfl (pc' := 36) rfl ?_
          refine A_get C (j := 13) cl_X6 rfl rfl lf_X6_37 dX6_note_36 (HPg_21 s o) rfl (pc' := 39) rfl ?_
          refine A_iload_n C dX6_note_39 rfl (pc' := 40) rfl ?_
          obtain ⟨h11, hF⟩ := grd_some hF
          refine A_iald C (HPg_31 s o) (ixb_in h11) dX6_note_40 (pc' := 41) rfl ?_
          refine A_icmp_eq C dX6_note_41 (tgt := 48) (by decide) (pc' := 44) rfl (fun c12 => ?_) (fun c12 => ?_)
          · rw [if_pos c12] at hF
            refine A_iconst C (x := 0) dX6_note_48 (by decide) (pc' := 49) rfl ?_
            refine A_istore_n C (lv' := [some (.ref 21), some (.int (0 : Int32)), some (.int b2)]) dX6_note_49 rfl eN rfl rfl (pc' := 50) rfl ?_
            obtain ⟨x13, e14, hF⟩ := bnd_some hF
            refine A_iinc C (lv' := [some (.ref 21), some (.int (0 : Int32)), some (.int x13)]) dX6_note_50 rfl (by rw [e14]; rfl) rfl eN rfl rfl (pc' := 53) rfl ?_
            refine A_goto C dX6_note_53 (tgt := 4) (by decide) ?_
            refine A_mask [true, true, true] (lv' := [some (.ref 21), some (.int (0 : Int32)), some (.int x13)]) rfl ?_
            exact ih (0 : Int32) x13 s q hF hexit
          · rw [if_neg c12] at hF
            refine A_iconst C (x := 1) dX6_note_44 (by decide) (pc' := 45) rfl ?_
            refine A_goto C dX6_note_45 (tgt := 49) (by decide) ?_
            refine A_istore_n C (lv' := [some (.ref 21), some (.int (1 : Int32)), some (.int b2)]) dX6_note_49 rfl eN rfl rfl (pc' := 50) rfl ?_
            obtain ⟨x15, e16, hF⟩ := bnd_some hF
            refine A_iinc C (lv' := [some (.ref 21), some (.int (1 : Int32)), some (.int x15)]) dX6_note_50 rfl (by rw [e16]; rfl) rfl eN rfl rfl (pc' := 53) rfl ?_
            refine A_goto C dX6_note_53 (tgt := 4) (by decide) ?_
            refine A_mask [true, true, true] (lv' := [some (.ref 21), some (.int (1 : Int32)), some (.int x15)]) rfl ?_
            exact ih (1 : Int32) x15 s q hF hexit
set_option maxHeartbeats 4000000 in
set_option maxRecDepth 100000 in
theorem L_X6_note_127_ok {Γ : Cx} (hu : Un Γ.2.1) (eN : 3 = Γ.2.2.2.2.2) (C : Cok Γ cX6_note RX6 none 0 0 0) {o : Nat → Int64} : ∀ (fu : Nat) (b2 : Int32) (s : Sg) (q : (Sg)), L_X6_note_127 fu b2 s = some q → AW Γ (HP q o) 0 0 [some (.ref 21), none, none] [] 179 → AW Γ (HP s o) 0 0 [some (.ref 21), none, some (.int b2)] [] 127 := by
  intro fu
  induction fu with
  | zero => intro b2 s q hF; rw [L_X6_note_127] at hF; cases hF
  | succ fu ih =>
    intro b2 s q hF hexit
    rw [L_X6_note_127] at hF
    refine A_iload_n C dX6_note_127 rfl (pc' := 128) rfl ?_
    refine A_bipush C (x := 64) dX6_note_128 (by decide) (pc' := 130) rfl ?_
    refine A_icmp_ge C dX6_note_130 (tgt := 179) (by decide) (pc' := 133) rfl (fun c21 => ?_) (fun c21 => ?_)
    · rw [if_pos c21] at hF
      cases hF
      refine A_mask [true, false, false] (lv' := [some (.ref 21), none, none]) rfl ?_
      exact hexit
    · rw [if_neg c21] at hF
      refine A_aload_n C dX6_note_133 rfl (pc' := 134) rfl ?_
      refine A_get C (j := 19) cl_X6 rfl rfl lf_X6_53 dX6_note_134 (HPg_21 s o) rfl (pc' := 137) rfl ?_
      refine A_bipush C (x := 64) dX6_note_137 (by decide) (pc' := 139) rfl ?_
      refine A_aload_n C dX6_note_139 rfl (pc' := 140) rfl ?_
      refine A_get C (j := 21) cl_X6 rfl rfl lf_X6_116 dX6_note_140 (HPg_21 s o) rfl (pc' := 143) rfl ?_
      refine A_imul C dX6_note_143 (pc' := 144) rfl ?_
      refine A_iload_n C dX6_note_144 rfl (pc' := 145) rfl ?_
      refine A_iadd C dX6_note_145 (pc' := 146) rfl ?_
      refine A_aload_n C dX6_note_146 rfl (pc' := 147) rfl ?_
      refine A_get C (j := 17) cl_X6 rfl rfl lf_X6_47 dX6_note_147 (HPg_21 s o) rfl (pc' := 150) rfl ?_
      refine A_iload_n C dX6_note_150 rfl (pc' := 151) rfl ?_
      obtain ⟨h22, hF⟩ := grd_some hF
      refine A_iald C (HPg_34 s o) (ixb_in h22) dX6_note_151 (pc' := 152) rfl ?_
      obtain ⟨h23, hF⟩ := grd_some hF
      obtain ⟨s24, e25, hF⟩ := bnd_some hF
      refine A_iast C (h1 := HP s24 o) (HPg_36 s o) (ixb_in h23) (by rw [e25]; exact HPs_36 s o _) dX6_note_152 (pc' := 153) rfl ?_
      refine A_aload_n C dX6_note_153 rfl (pc' := 154) rfl ?_
      refine A_get C (j := 20) cl_X6 rfl rfl lf_X6_56 dX6_note_154 (HPg_21 s24 o) rfl (pc' := 157) rfl ?_
      refine A_bipush C (x := 64) dX6_note_157 (by decide) (pc' := 159) rfl ?_
      refine A_aload_n C dX6_note_159 rfl (pc' := 160) rfl ?_
      refine A_get C (j := 21) cl_X6 rfl rfl lf_X6_116 dX6_note_160 (HPg_21 s24 o) rfl (pc' := 163) rfl ?_
      refine A_imul C dX6_note_163 (pc' := 164) rfl ?_
      refine A_iload_n C dX6_note_164 rfl (pc' := 165) rfl ?_
      refine A_iadd C dX6_note_165 (pc' := 166) rfl ?_
      refine A_aload_n C dX6_note_166 rfl (pc' := 167) rfl ?_
      refine A_get C (j := 18) cl_X6 rfl rfl lf_X6_50 dX6_note_167 (HPg_21 s24 o) rfl (pc' := 170) rfl ?_
      refine A_iload_n C dX6_note_170 rfl (pc' := 171) rfl ?_
      obtain ⟨h26, hF⟩ := grd_some hF
      refine A_iald C (HPg_35 s24 o) (ixb_in h26) dX6_note_171 (pc' := 172) rfl ?_
      obtain ⟨h27, hF⟩ := grd_some hF
      obtain ⟨s28, e29, hF⟩ := bnd_some hF
      refine A_iast C (h1 := HP s28 o) (HPg_37 s24 o) (ixb_in h27) (by rw [e29]; exact HPs_37 s24 o _) dX6_note_172 (pc' := 173) rfl ?_
      obtain ⟨x30, e31, hF⟩ := bnd_some hF
      refine A_iinc C (lv' := [some (.ref 21), none, some (.int x30)]) dX6_note_173 rfl (by rw [e31]; rfl) rfl eN rfl rfl (pc' := 176) rfl ?_
      refine A_goto C dX6_note_176 (tgt := 127) (by decide) ?_
      refine A_mask [true, false, true] (lv' := [some (.ref 21), none, some (.int x30)]) rfl ?_
      exact ih x30 s28 q hF hexit
set_option maxHeartbeats 4000000 in
set_option maxRecDepth 100000 in
theorem L_X6_note_72_ok {Γ : Cx} (hu : Un Γ.2.1) (eN : 3 = Γ.2.2.2.2.2) (C : Cok Γ cX6_note RX6 none 0 0 0) {o : Nat → Int64} : ∀ (fu : Nat) (b2 : Int32) (s : Sg) (q : (Sg)), L_X6_note_72 fu b2 s = some q → AW Γ (HP q o) 0 0 [some (.ref 21), none, none] [] 115 → AW Γ (HP s o) 0 0 [some (.ref 21), none, some (.int b2)] [] 72 := by
  intro fu
  induction fu with
  | zero => intro b2 s q hF; rw [L_X6_note_72] at hF; cases hF
  | succ fu ih =>
    intro b2 s q hF hexit
    rw [L_X6_note_72] at hF
    refine A_iload_n C dX6_note_72 rfl (pc' := 73) rfl ?_
    refine A_sipush C (x := 1216) dX6_note_73 (by decide) (pc' := 76) rfl ?_
    refine A_icmp_ge C dX6_note_76 (tgt := 115) (by decide) (pc' := 79) rfl (fun c36 => ?_) (fun c36 => ?_)
    · rw [if_pos c36] at hF
      cases hF
      refine A_mask [true, false, false] (lv' := [some (.ref 21), none, none]) rfl ?_
      exact hexit
    · rw [if_neg c36] at hF
      refine A_aload_n C dX6_note_79 rfl (pc' := 80) rfl ?_
      refine A_get C (j := 19) cl_X6 rfl rfl lf_X6_53 dX6_note_80 (HPg_21 s o) rfl (pc' := 83) rfl ?_
      refine A_iload_n C dX6_note_83 rfl (pc' := 84) rfl ?_
      refine A_aload_n C dX6_note_84 rfl (pc' := 85) rfl ?_
      refine A_get C (j := 19) cl_X6 rfl rfl lf_X6_53 dX6_note_85 (HPg_21 s o) rfl (pc' := 88) rfl ?_
      refine A_iload_n C dX6_note_88 rfl (pc' := 89) rfl ?_
      refine A_bipush C (x := 64) dX6_note_89 (by decide) (pc' := 91) rfl ?_
      refine A_iadd C dX6_note_91 (pc' := 92) rfl ?_
      obtain ⟨h37, hF⟩ := grd_some hF
      refine A_iald C (HPg_36 s o) (ixb_in h37) dX6_note_92 (pc' := 93) rfl ?_
      obtain ⟨h38, hF⟩ := grd_some hF
      obtain ⟨s39, e40, hF⟩ := bnd_some hF
      refine A_iast C (h1 := HP s39 o) (HPg_36 s o) (ixb_in h38) (by rw [e40]; exact HPs_36 s o _) dX6_note_93 (pc' := 94) rfl ?_
      refine A_aload_n C dX6_note_94 rfl (pc' := 95) rfl ?_
      refine A_get C (j := 20) cl_X6 rfl rfl lf_X6_56 dX6_note_95 (HPg_21 s39 o) rfl (pc' := 98) rfl ?_
      refine A_iload_n C dX6_note_98 rfl (pc' := 99) rfl ?_
      refine A_aload_n C dX6_note_99 rfl (pc' := 100) rfl ?_
      refine A_get C (j := 20) cl_X6 rfl rfl lf_X6_56 dX6_note_100 (HPg_21 s39 o) rfl (pc' := 103) rfl ?_
      refine A_iload_n C dX6_note_103 rfl (pc' := 104) rfl ?_
      refine A_bipush C (x := 64) dX6_note_104 (by decide) (pc' := 106) rfl ?_
      refine A_iadd C dX6_note_106 (pc' := 107) rfl ?_
      obtain ⟨h41, hF⟩ := grd_some hF
      refine A_iald C (HPg_37 s39 o) (ixb_in h41) dX6_note_107 (pc' := 108) rfl ?_
      obtain ⟨h42, hF⟩ := grd_some hF
      obtain ⟨s43, e44, hF⟩ := bnd_some hF
      refine A_iast C (h1 := HP s43 o) (HPg_37 s39 o) (ixb_in h42) (by rw [e44]; exact HPs_37 s39 o _) dX6_note_108 (pc' := 109) rfl ?_
      obtain ⟨x45, e46, hF⟩ := bnd_some hF
      refine A_iinc C (lv' := [some (.ref 21), none, some (.int x45)]) dX6_note_109 rfl (by rw [e46]; rfl) rfl eN rfl rfl (pc' := 112) rfl ?_
      refine A_goto C dX6_note_112 (tgt := 72) (by decide) ?_
      refine A_mask [true, false, true] (lv' := [some (.ref 21), none, some (.int x45)]) rfl ?_
      exact ih x45 s43 q hF hexit
set_option maxHeartbeats 4000000 in
set_option maxRecDepth 100000 in
theorem F_X6_note_ok {u : Uv} (hu : Un u) {s : Sg} {o : Nat → Int64} {r : Sg} (hF : F_X6_note  s = some r) : AM u (yX6_note, cX6_note, 3, none) 0 0 0 [.ref 21] (HP s o) none (HP r o) := by
  refine AM.of hu (lv := [some (.ref 21), none, none]) (by decide) rfl (Nat.le_of_ble_eq_true rfl) rfl ?_
  intro Γ eu eN C T
  subst eu
  have C : Cok Γ cX6_note RX6 none 0 0 0 := C
  unfold F_X6_note at hF
  refine A_iconst C (x := 0) dX6_note_0 (by decide) (pc' := 1) rfl ?_
  refine A_istore_n C (lv' := [some (.ref 21), some (.int (0 : Int32)), none]) dX6_note_1 rfl eN rfl rfl (pc' := 2) rfl ?_
  refine A_iconst C (x := 0) dX6_note_2 (by decide) (pc' := 3) rfl ?_
  refine A_istore_n C (lv' := [some (.ref 21), some (.int (0 : Int32)), some (.int (0 : Int32))]) dX6_note_3 rfl eN rfl rfl (pc' := 4) rfl ?_
  obtain ⟨q17, h18, hF⟩ := Option.bind_eq_some_iff.mp hF
  refine A_mask [true, true, true] (lv' := [some (.ref 21), some (.int (0 : Int32)), some (.int (0 : Int32))]) rfl ?_
  refine L_X6_note_4_ok hu eN C FU (0 : Int32) (0 : Int32) s q17 h18 ?_
  refine A_iload_n C dX6_note_56 rfl (pc' := 57) rfl ?_
  refine A_if_ne C dX6_note_57 (tgt := 61) (by decide) (pc' := 60) rfl (fun c19 => ?_) (fun c19 => ?_)
  · rw [if_neg c19] at hF
    refine A_aload_n C dX6_note_61 rfl (pc' := 62) rfl ?_
    refine A_get C (j := 21) cl_X6 rfl rfl lf_X6_116 dX6_note_62 (HPg_21 s o) rfl (pc' := 65) rfl ?_
    refine A_bipush C (x := 20) dX6_note_65 (by decide) (pc' := 67) rfl ?_
    refine A_icmp_ne C dX6_note_67 (tgt := 125) (by decide) (pc' := 70) rfl (fun c20 => ?_) (fun c20 => ?_)
    · rw [if_neg c20] at hF
      refine A_iconst C (x := 0) dX6_note_125 (by decide) (pc' := 126) rfl ?_
      refine A_istore_n C (lv' := [some (.ref 21), some (.int q17), some (.int (0 : Int32))]) dX6_note_126 rfl eN rfl rfl (pc' := 127) rfl ?_
      obtain ⟨q32, h33, hF⟩ := Option.bind_eq_some_iff.mp hF
      refine A_mask [true, false, true] (lv' := [some (.ref 21), none, some (.int (0 : Int32))]) rfl ?_
      refine L_X6_note_127_ok hu eN C FU (0 : Int32) s q32 h33 ?_
      refine A_aload_n C dX6_note_179 rfl (pc' := 180) rfl ?_
      refine A_dup C dX6_note_180 rfl (pc' := 181) rfl ?_
      refine A_get C (j := 21) cl_X6 rfl rfl lf_X6_116 dX6_note_181 (HPg_21 q32 o) rfl (pc' := 184) rfl ?_
      refine A_iconst C (x := 1) dX6_note_184 (by decide) (pc' := 185) rfl ?_
      refine A_iadd C dX6_note_185 (pc' := 186) rfl ?_
      obtain ⟨s34, e35, hF⟩ := bnd_some hF
      refine A_put C (j := 21) (h1 := HP s34 o) tyX6 tyX6_ok nmX6 cl_X6 rfl rfl lf_X6_116 rfl (tyX6_ok 21 (by decide)) (fun _ => rfl) (fun _ => rfl) rfl dX6_note_186 (HPg_21 q32 o) (by rw [e35]; exact HPp_21_21 q32 o _) (pc' := 189) rfl ?_
      cases hF
      exact A_vret C T (Nat.le_refl _) (Nat.le_refl _) dX6_note_189
    · rw [if_pos c20] at hF
      refine A_iconst C (x := 0) dX6_note_70 (by decide) (pc' := 71) rfl ?_
      refine A_istore_n C (lv' := [some (.ref 21), some (.int q17), some (.int (0 : Int32))]) dX6_note_71 rfl eN rfl rfl (pc' := 72) rfl ?_
      obtain ⟨q47, h48, hF⟩ := Option.bind_eq_some_iff.mp hF
      refine A_mask [true, false, true] (lv' := [some (.ref 21), none, some (.int (0 : Int32))]) rfl ?_
      refine L_X6_note_72_ok hu eN C FU (0 : Int32) s q47 h48 ?_
      refine A_aload_n C dX6_note_115 rfl (pc' := 116) rfl ?_
      refine A_dup C dX6_note_116 rfl (pc' := 117) rfl ?_
      refine A_get C (j := 21) cl_X6 rfl rfl lf_X6_116 dX6_note_117 (HPg_21 q47 o) rfl (pc' := 120) rfl ?_
      refine A_iconst C (x := 1) dX6_note_120 (by decide) (pc' := 121) rfl ?_
      refine A_isub C dX6_note_121 (pc' := 122) rfl ?_
      obtain ⟨s49, e50, hF⟩ := bnd_some hF
      refine A_put C (j := 21) (h1 := HP s49 o) tyX6 tyX6_ok nmX6 cl_X6 rfl rfl lf_X6_116 rfl (tyX6_ok 21 (by decide)) (fun _ => rfl) (fun _ => rfl) rfl dX6_note_122 (HPg_21 q47 o) (by rw [e50]; exact HPp_21_21 q47 o _) (pc' := 125) rfl ?_
      refine A_iconst C (x := 0) dX6_note_125 (by decide) (pc' := 126) rfl ?_
      refine A_istore_n C (lv' := [some (.ref 21), none, some (.int (0 : Int32))]) dX6_note_126 rfl eN rfl rfl (pc' := 127) rfl ?_
      obtain ⟨q51, h52, hF⟩ := Option.bind_eq_some_iff.mp hF
      refine A_mask [true, false, true] (lv' := [some (.ref 21), none, some (.int (0 : Int32))]) rfl ?_
      refine L_X6_note_127_ok hu eN C FU (0 : Int32) s49 q51 h52 ?_
      refine A_aload_n C dX6_note_179 rfl (pc' := 180) rfl ?_
      refine A_dup C dX6_note_180 rfl (pc' := 181) rfl ?_
      refine A_get C (j := 21) cl_X6 rfl rfl lf_X6_116 dX6_note_181 (HPg_21 q51 o) rfl (pc' := 184) rfl ?_
      refine A_iconst C (x := 1) dX6_note_184 (by decide) (pc' := 185) rfl ?_
      refine A_iadd C dX6_note_185 (pc' := 186) rfl ?_
      obtain ⟨s53, e54, hF⟩ := bnd_some hF
      refine A_put C (j := 21) (h1 := HP s53 o) tyX6 tyX6_ok nmX6 cl_X6 rfl rfl lf_X6_116 rfl (tyX6_ok 21 (by decide)) (fun _ => rfl) (fun _ => rfl) rfl dX6_note_186 (HPg_21 q51 o) (by rw [e54]; exact HPp_21_21 q51 o _) (pc' := 189) rfl ?_
      cases hF
      exact A_vret C T (Nat.le_refl _) (Nat.le_refl _) dX6_note_189
  · rw [if_pos c19] at hF
    cases hF
    exact A_vret C T (Nat.le_refl _) (Nat.le_refl _) dX6_note_60
def F_X6_place (a0 : Int32) (a1 : Int32) (a2 : Int32) (s : Sg) : Option (Int32 × Sg) :=
  jn (fun (y1 : Int32) (y2 : Int32) (s3 : Sg) => (F_X6_throwing y1 y2 s3).bind fun q4 =>
      if q4.1 = 0 then
        (F_X6_rule (((4 : Int32) * a0) + a1) a2 q4.2).bind fun q7 =>
        if q7 ≤ 0 then
          (F_X6_keep  q4.2).bind fun q10 =>
          (F_X6_put (((4 : Int32) * a0) + a1) a2 q10).bind fun q12 =>
          (F_X6_note  q12).bind fun q14 =>
          some ((0 : Int32), q14)
        else
          some (q7, q4.2)
      else
        some ((0 : Int32), q4.2)) fun J50 =>
  jn (fun (y16 : Int32) (s17 : Sg) => if y16 = 0 then
        grd (ixb (((4 : Int32) * a0) + a1) 64 = true) <|
        if (s17 30 (((4 : Int32) * a0) + a1).toNatClampNeg) < 0 then
          J50 y16 (0 : Int32) s17
        else
          J50 y16 (1 : Int32) s17
      else
        J50 y16 (0 : Int32) s17) fun J22 =>
  (F_X6_isItem a0 a1 s).bind fun q21 =>
  if q21 = 0 then
    J22 (1 : Int32) s
  else
    (F_X6_isPeriod a2 s).bind fun q24 =>
    if q24 = 0 then
      J22 (1 : Int32) s
    else
      J22 (0 : Int32) s
set_option maxHeartbeats 4000000 in
set_option maxRecDepth 100000 in
theorem F_X6_place_ok {u : Uv} (hu : Un u) {a0 a1 a2 : Int32} {s : Sg} {o : Nat → Int64} {r : (Int32 × Sg)} (hF : F_X6_place a0 a1 a2 s = some r) : AM u (yX6_place, cX6_place, 6, (some .int)) 6 0 0 [.ref 21, .int a0, .int a1, .int a2] (HP s o) (some (.int r.1)) (HP r.2 o) := by
  refine AM.of hu (lv := [some (.ref 21), some (.int a0), some (.int a1), some (.int a2), none, none]) (by decide) rfl (Nat.le_of_ble_eq_true rfl) rfl ?_
  intro Γ eu eN C T
  subst eu
  have C : Cok Γ cX6_place RX6 (some .int) 6 0 0 := C
  unfold F_X6_place at hF
  obtain ⟨J50, eJ50, hF⟩ := jn_some hF
  have hJ50 : ∀ (y1 : Int32) (y2 : Int32) (s3 : Sg), J50 y1 y2 s3 = some r → AW Γ (HP s3 o) 0 0 [some (.ref 21), some (.int a0), some (.int a1), some (.int a2), none, none] [.int y2, .int y1, .ref 21] 50 := by
    intro y1 y2 s3 hF
    rw [eJ50] at hF
    dsimp only at hF
    obtain ⟨q4, h5, hF⟩ := Option.bind_eq_some_iff.mp hF
    refine A_callV C (av := [.int y1, .int y2]) (rest := []) (st2 := [.int q4.1]) (k2 := 0) (n2 := 0) (F_X6_throwing_ok hu h5) mk_X6_throwing lm_X6_90 wi_X6_throwing wv_X6_throwing (HPg_21 s3 o) rfl rfl rfl rfl ⟨by decide, by decide⟩ (Nat.le_of_ble_eq_true rfl) rfl rfl dX6_place_50 rfl rfl rfl (pc' := 53) rfl ?_
    refine A_if_eq C dX6_place_53 (tgt := 58) (by decide) (pc' := 56) rfl (fun c6 => ?_) (fun c6 => ?_)
    · rw [if_pos c6] at hF
      refine A_aload_n C dX6_place_58 rfl (pc' := 59) rfl ?_
      refine A_iconst C (x := 4) dX6_place_59 (by decide) (pc' := 60) rfl ?_
      refine A_iload_n C dX6_place_60 rfl (pc' := 61) rfl ?_
      refine A_imul C dX6_place_61 (pc' := 62) rfl ?_
      refine A_iload_n C dX6_place_62 rfl (pc' := 63) rfl ?_
      refine A_iadd C dX6_place_63 (pc' := 64) rfl ?_
      refine A_iload_n C dX6_place_64 rfl (pc' := 65) rfl ?_
      obtain ⟨q7, h8, hF⟩ := Option.bind_eq_some_iff.mp hF
      refine A_callV C (av := [.int (((4 : Int32) * a0) + a1), .int a2]) (rest := []) (st2 := [.int q7]) (k2 := 0) (n2 := 0) (F_X6_rule_ok hu h8) mk_X6_rule lm_X6_122 wi_X6_rule wv_X6_rule (HPg_21 q4.2 o) rfl rfl rfl rfl ⟨by decide, by decide⟩ (Nat.le_of_ble_eq_true rfl) rfl rfl dX6_place_65 rfl rfl rfl (pc' := 68) rfl ?_
      refine A_istore C (lv' := [some (.ref 21), some (.int a0), some (.int a1), some (.int a2), none, some (.int q7)]) dX6_place_68 rfl eN rfl rfl (pc' := 70) rfl ?_
      refine A_iload C dX6_place_70 rfl (pc' := 72) rfl ?_
      refine A_if_le C dX6_place_72 (tgt := 78) (by decide) (pc' := 75) rfl (fun c9 => ?_) (fun c9 => ?_)
      · rw [if_pos c9] at hF
        refine A_aload_n C dX6_place_78 rfl (pc' := 79) rfl ?_
        obtain ⟨q10, h11, hF⟩ := Option.bind_eq_some_iff.mp hF
        refine A_callV C (av := []) (rest := []) (st2 := []) (k2 := 0) (n2 := 0) (F_X6_keep_ok hu h11) mk_X6_keep lm_X6_125 wi_X6_keep wv_X6_keep (HPg_21 q4.2 o) rfl rfl rfl rfl ⟨by decide, by decide⟩ (Nat.le_of_ble_eq_true rfl) rfl rfl dX6_place_79 rfl rfl rfl (pc' := 82) rfl ?_
        refine A_aload_n C dX6_place_82 rfl (pc' := 83) rfl ?_
        refine A_iconst C (x := 4) dX6_place_83 (by decide) (pc' := 84) rfl ?_
        refine A_iload_n C dX6_place_84 rfl (pc' := 85) rfl ?_
        refine A_imul C dX6_place_85 (pc' := 86) rfl ?_
        refine A_iload_n C dX6_place_86 rfl (pc' := 87) rfl ?_
        refine A_iadd C dX6_place_87 (pc' := 88) rfl ?_
        refine A_iload_n C dX6_place_88 rfl (pc' := 89) rfl ?_
        obtain ⟨q12, h13, hF⟩ := Option.bind_eq_some_iff.mp hF
        refine A_callV C (av := [.int (((4 : Int32) * a0) + a1), .int a2]) (rest := []) (st2 := []) (k2 := 0) (n2 := 0) (F_X6_put_ok hu h13) mk_X6_put lm_X6_128 wi_X6_put wv_X6_put (HPg_21 q10 o) rfl rfl rfl rfl ⟨by decide, by decide⟩ (Nat.le_of_ble_eq_true rfl) rfl rfl dX6_place_89 rfl rfl rfl (pc' := 92) rfl ?_
        refine A_aload_n C dX6_place_92 rfl (pc' := 93) rfl ?_
        obtain ⟨q14, h15, hF⟩ := Option.bind_eq_some_iff.mp hF
        refine A_callV C (av := []) (rest := []) (st2 := []) (k2 := 0) (n2 := 0) (F_X6_note_ok hu h15) mk_X6_note lm_X6_132 wi_X6_note wv_X6_note (HPg_21 q12 o) rfl rfl rfl rfl ⟨by decide, by decide⟩ (Nat.le_of_ble_eq_true rfl) rfl rfl dX6_place_93 rfl rfl rfl (pc' := 96) rfl ?_
        refine A_iconst C (x := 0) dX6_place_96 (by decide) (pc' := 97) rfl ?_
        cases hF
        exact A_iret C T (Nat.le_refl _) (Nat.le_refl _) dX6_place_97
      · rw [if_neg c9] at hF
        refine A_iload C dX6_place_75 rfl (pc' := 77) rfl ?_
        cases hF
        exact A_iret C T (Nat.le_refl _) (Nat.le_refl _) dX6_place_77
    · rw [if_neg c6] at hF
      refine A_iconst C (x := 0) dX6_place_56 (by decide) (pc' := 57) rfl ?_
      cases hF
      exact A_iret C T (Nat.le_refl _) (Nat.le_refl _) dX6_place_57
  clear eJ50
  obtain ⟨J22, eJ22, hF⟩ := jn_some hF
  have hJ22 : ∀ (y16 : Int32) (s17 : Sg), J22 y16 s17 = some r → AW Γ (HP s17 o) 0 0 [some (.ref 21), some (.int a0), some (.int a1), some (.int a2), none, none] [.int y16] 22 := by
    intro y16 s17 hF
    rw [eJ22] at hF
    dsimp only at hF
    refine A_istore C (lv' := [some (.ref 21), some (.int a0), some (.int a1), some (.int a2), some (.int y16), none]) dX6_place_22 rfl eN rfl rfl (pc' := 24) rfl ?_
    refine A_aload_n C dX6_place_24 rfl (pc' := 25) rfl ?_
    refine A_iload C dX6_place_25 rfl (pc' := 27) rfl ?_
    refine A_iload C dX6_place_27 rfl (pc' := 29) rfl ?_
    refine A_if_ne C dX6_place_29 (tgt := 49) (by decide) (pc' := 32) rfl (fun c18 => ?_) (fun c18 => ?_)
    · rw [if_neg c18] at hF
      refine A_iconst C (x := 0) dX6_place_49 (by decide) (pc' := 50) rfl ?_
      refine A_mask [true, true, true, true, false, false] (lv' := [some (.ref 21), some (.int a0), some (.int a1), some (.int a2), none, none]) rfl ?_
      exact hJ50 y16 (0 : Int32) s17 hF
    · rw [if_pos c18] at hF
      refine A_aload_n C dX6_place_32 rfl (pc' := 33) rfl ?_
      refine A_get C (j := 12) cl_X6 rfl rfl lf_X6_34 dX6_place_33 (HPg_21 s17 o) rfl (pc' := 36) rfl ?_
      refine A_iconst C (x := 4) dX6_place_36 (by decide) (pc' := 37) rfl ?_
      refine A_iload_n C dX6_place_37 rfl (pc' := 38) rfl ?_
      refine A_imul C dX6_place_38 (pc' := 39) rfl ?_
      refine A_iload_n C dX6_place_39 rfl (pc' := 40) rfl ?_
      refine A_iadd C dX6_place_40 (pc' := 41) rfl ?_
      obtain ⟨h19, hF⟩ := grd_some hF
      refine A_iald C (HPg_30 s17 o) (ixb_in h19) dX6_place_41 (pc' := 42) rfl ?_
      refine A_if_lt C dX6_place_42 (tgt := 49) (by decide) (pc' := 45) rfl (fun c20 => ?_) (fun c20 => ?_)
      · rw [if_pos c20] at hF
        refine A_iconst C (x := 0) dX6_place_49 (by decide) (pc' := 50) rfl ?_
        refine A_mask [true, true, true, true, false, false] (lv' := [some (.ref 21), some (.int a0), some (.int a1), some (.int a2), none, none]) rfl ?_
        exact hJ50 y16 (0 : Int32) s17 hF
      · rw [if_neg c20] at hF
        refine A_iconst C (x := 1) dX6_place_45 (by decide) (pc' := 46) rfl ?_
        refine A_goto C dX6_place_46 (tgt := 50) (by decide) ?_
        refine A_mask [true, true, true, true, false, false] (lv' := [some (.ref 21), some (.int a0), some (.int a1), some (.int a2), none, none]) rfl ?_
        exact hJ50 y16 (1 : Int32) s17 hF
  clear eJ22
  refine A_aload_n C dX6_place_0 rfl (pc' := 1) rfl ?_
  refine A_iload_n C dX6_place_1 rfl (pc' := 2) rfl ?_
  refine A_iload_n C dX6_place_2 rfl (pc' := 3) rfl ?_
  obtain ⟨q21, h22, hF⟩ := Option.bind_eq_some_iff.mp hF
  refine A_callV C (av := [.int a0, .int a1]) (rest := []) (st2 := [.int q21]) (k2 := 0) (n2 := 0) (F_X6_isItem_ok hu h22) mk_X6_isItem lm_X6_119 wi_X6_isItem wv_X6_isItem (HPg_21 s o) rfl rfl rfl rfl ⟨by decide, by decide⟩ (Nat.le_of_ble_eq_true rfl) rfl rfl dX6_place_3 rfl rfl rfl (pc' := 6) rfl ?_
  refine A_if_eq C dX6_place_6 (tgt := 17) (by decide) (pc' := 9) rfl (fun c23 => ?_) (fun c23 => ?_)
  · rw [if_pos c23] at hF
    refine A_iconst C (x := 1) dX6_place_17 (by decide) (pc' := 18) rfl ?_
    refine A_goto C dX6_place_18 (tgt := 22) (by decide) ?_
    refine A_mask [true, true, true, true, false, false] (lv' := [some (.ref 21), some (.int a0), some (.int a1), some (.int a2), none, none]) rfl ?_
    exact hJ22 (1 : Int32) s hF
  · rw [if_neg c23] at hF
    refine A_aload_n C dX6_place_9 rfl (pc' := 10) rfl ?_
    refine A_iload_n C dX6_place_10 rfl (pc' := 11) rfl ?_
    obtain ⟨q24, h25, hF⟩ := Option.bind_eq_some_iff.mp hF
    refine A_callV C (av := [.int a2]) (rest := []) (st2 := [.int q24]) (k2 := 0) (n2 := 0) (F_X6_isPeriod_ok hu h25) mk_X6_isPeriod lm_X6_94 wi_X6_isPeriod wv_X6_isPeriod (HPg_21 s o) rfl rfl rfl rfl ⟨by decide, by decide⟩ (Nat.le_of_ble_eq_true rfl) rfl rfl dX6_place_11 rfl rfl rfl (pc' := 14) rfl ?_
    refine A_if_ne C dX6_place_14 (tgt := 21) (by decide) (pc' := 17) rfl (fun c26 => ?_) (fun c26 => ?_)
    · rw [if_neg c26] at hF
      refine A_iconst C (x := 0) dX6_place_21 (by decide) (pc' := 22) rfl ?_
      refine A_mask [true, true, true, true, false, false] (lv' := [some (.ref 21), some (.int a0), some (.int a1), some (.int a2), none, none]) rfl ?_
      exact hJ22 (0 : Int32) s hF
    · rw [if_pos c26] at hF
      refine A_iconst C (x := 1) dX6_place_17 (by decide) (pc' := 18) rfl ?_
      refine A_goto C dX6_place_18 (tgt := 22) (by decide) ?_
      refine A_mask [true, true, true, true, false, false] (lv' := [some (.ref 21), some (.int a0), some (.int a1), some (.int a2), none, none]) rfl ?_
      exact hJ22 (1 : Int32) s hF
def F_X6_out (a0 : Int32) (s : Sg) : Option Sg :=
  grd (ixb a0 64 = true) <|
  bnd (va_up s 30 (upd (s 30) a0.toNatClampNeg (-1 : Int32))) fun s2 =>
  grd (ixb a0 64 = true) <|
  bnd (va_up s2 31 (upd (s2 31) a0.toNatClampNeg (-1 : Int32))) fun s5 =>
  some s5
set_option maxHeartbeats 4000000 in
set_option maxRecDepth 100000 in
theorem F_X6_out_ok {u : Uv} (hu : Un u) {a0 : Int32} {s : Sg} {o : Nat → Int64} {r : Sg} (hF : F_X6_out a0 s = some r) : AM u (yX6_out, cX6_out, 2, none) 0 0 0 [.ref 21, .int a0] (HP s o) none (HP r o) := by
  refine AM.of hu (lv := [some (.ref 21), some (.int a0)]) (by decide) rfl (Nat.le_of_ble_eq_true rfl) rfl ?_
  intro Γ eu eN C T
  subst eu
  have C : Cok Γ cX6_out RX6 none 0 0 0 := C
  unfold F_X6_out at hF
  refine A_aload_n C dX6_out_0 rfl (pc' := 1) rfl ?_
  refine A_get C (j := 12) cl_X6 rfl rfl lf_X6_34 dX6_out_1 (HPg_21 s o) rfl (pc' := 4) rfl ?_
  refine A_iload_n C dX6_out_4 rfl (pc' := 5) rfl ?_
  refine A_iconst C (x := -1) dX6_out_5 (by decide) (pc' := 6) rfl ?_
  obtain ⟨h1, hF⟩ := grd_some hF
  obtain ⟨s2, e3, hF⟩ := bnd_some hF
  refine A_iast C (h1 := HP s2 o) (HPg_30 s o) (ixb_in h1) (by rw [e3]; exact HPs_30 s o _) dX6_out_6 (pc' := 7) rfl ?_
  refine A_aload_n C dX6_out_7 rfl (pc' := 8) rfl ?_
  refine A_get C (j := 13) cl_X6 rfl rfl lf_X6_37 dX6_out_8 (HPg_21 s2 o) rfl (pc' := 11) rfl ?_
  refine A_iload_n C dX6_out_11 rfl (pc' := 12) rfl ?_
  refine A_iconst C (x := -1) dX6_out_12 (by decide) (pc' := 13) rfl ?_
  obtain ⟨h4, hF⟩ := grd_some hF
  obtain ⟨s5, e6, hF⟩ := bnd_some hF
  refine A_iast C (h1 := HP s5 o) (HPg_31 s2 o) (ixb_in h4) (by rw [e6]; exact HPs_31 s2 o _) dX6_out_13 (pc' := 14) rfl ?_
  cases hF
  exact A_vret C T (Nat.le_refl _) (Nat.le_refl _) dX6_out_14
def F_X6_drop (a0 : Int32) (a1 : Int32) (s : Sg) : Option (Int32 × Sg) :=
  jn (fun (y1 : Int32) (y2 : Int32) (s3 : Sg) => (F_X6_throwing y1 y2 s3).bind fun q4 =>
      if q4.1 = 0 then
        grd (ixb (((4 : Int32) * a0) + a1) 64 = true) <|
        bnd (q4.2 30 (((4 : Int32) * a0) + a1).toNatClampNeg) fun x8 =>
        (F_X6_keep  q4.2).bind fun q10 =>
        (F_X6_out (((4 : Int32) * a0) + a1) q10).bind fun q12 =>
        (F_X6_note  q12).bind fun q14 =>
        some (x8, q14)
      else
        some ((0 : Int32), q4.2)) fun J39 =>
  jn (fun (y16 : Int32) (s17 : Sg) => if y16 = 0 then
        grd (ixb (((4 : Int32) * a0) + a1) 64 = true) <|
        if 0 ≤ (s17 30 (((4 : Int32) * a0) + a1).toNatClampNeg) then
          J39 y16 (0 : Int32) s17
        else
          J39 y16 (1 : Int32) s17
      else
        J39 y16 (0 : Int32) s17) fun J14 =>
  (F_X6_isItem a0 a1 s).bind fun q21 =>
  if q21 = 0 then
    J14 (1 : Int32) s
  else
    J14 (0 : Int32) s
set_option maxHeartbeats 4000000 in
set_option maxRecDepth 100000 in
theorem F_X6_drop_ok {u : Uv} (hu : Un u) {a0 a1 : Int32} {s : Sg} {o : Nat → Int64} {r : (Int32 × Sg)} (hF : F_X6_drop a0 a1 s = some r) : AM u (yX6_drop, cX6_drop, 5, (some .int)) 2 0 0 [.ref 21, .int a0, .int a1] (HP s o) (some (.int r.1)) (HP r.2 o) := by
  refine AM.of hu (lv := [some (.ref 21), some (.int a0), some (.int a1), none, none]) (by decide) rfl (Nat.le_of_ble_eq_true rfl) rfl ?_
  intro Γ eu eN C T
  subst eu
  have C : Cok Γ cX6_drop RX6 (some .int) 2 0 0 := C
  unfold F_X6_drop at hF
  obtain ⟨J39, eJ39, hF⟩ := jn_some hF
  have hJ39 : ∀ (y1 : Int32) (y2 : Int32) (s3 : Sg), J39 y1 y2 s3 = some r → AW Γ (HP s3 o) 0 0 [some (.ref 21), some (.int a0), some (.int a1), none, none] [.int y2, .int y1, .ref 21] 39 := by
    intro y1 y2 s3 hF
    rw [eJ39] at hF
    dsimp only at hF
    obtain ⟨q4, h5, hF⟩ := Option.bind_eq_some_iff.mp hF
    refine A_callV C (av := [.int y1, .int y2]) (rest := []) (st2 := [.int q4.1]) (k2 := 0) (n2 := 0) (F_X6_throwing_ok hu h5) mk_X6_throwing lm_X6_90 wi_X6_throwing wv_X6_throwing (HPg_21 s3 o) rfl rfl rfl rfl ⟨by decide, by decide⟩ (Nat.le_of_ble_eq_true rfl) rfl rfl dX6_drop_39 rfl rfl rfl (pc' := 42) rfl ?_
    refine A_if_eq C dX6_drop_42 (tgt := 47) (by decide) (pc' := 45) rfl (fun c6 => ?_) (fun c6 => ?_)
    · rw [if_pos c6] at hF
      refine A_aload_n C dX6_drop_47 rfl (pc' := 48) rfl ?_
      refine A_get C (j := 12) cl_X6 rfl rfl lf_X6_34 dX6_drop_48 (HPg_21 q4.2 o) rfl (pc' := 51) rfl ?_
      refine A_iconst C (x := 4) dX6_drop_51 (by decide) (pc' := 52) rfl ?_
      refine A_iload_n C dX6_drop_52 rfl (pc' := 53) rfl ?_
      refine A_imul C dX6_drop_53 (pc' := 54) rfl ?_
      refine A_iload_n C dX6_drop_54 rfl (pc' := 55) rfl ?_
      refine A_iadd C dX6_drop_55 (pc' := 56) rfl ?_
      obtain ⟨h7, hF⟩ := grd_some hF
      refine A_iald C (HPg_30 q4.2 o) (ixb_in h7) dX6_drop_56 (pc' := 57) rfl ?_
      obtain ⟨x8, e9, hF⟩ := bnd_some hF
      refine A_topi e9 ?_
      refine A_istore C (lv' := [some (.ref 21), some (.int a0), some (.int a1), none, some (.int x8)]) dX6_drop_57 rfl eN rfl rfl (pc' := 59) rfl ?_
      refine A_aload_n C dX6_drop_59 rfl (pc' := 60) rfl ?_
      obtain ⟨q10, h11, hF⟩ := Option.bind_eq_some_iff.mp hF
      refine A_callV C (av := []) (rest := []) (st2 := []) (k2 := 0) (n2 := 0) (F_X6_keep_ok hu h11) mk_X6_keep lm_X6_125 wi_X6_keep wv_X6_keep (HPg_21 q4.2 o) rfl rfl rfl rfl ⟨by decide, by decide⟩ (Nat.le_of_ble_eq_true rfl) rfl rfl dX6_drop_60 rfl rfl rfl (pc' := 63) rfl ?_
      refine A_aload_n C dX6_drop_63 rfl (pc' := 64) rfl ?_
      refine A_iconst C (x := 4) dX6_drop_64 (by decide) (pc' := 65) rfl ?_
      refine A_iload_n C dX6_drop_65 rfl (pc' := 66) rfl ?_
      refine A_imul C dX6_drop_66 (pc' := 67) rfl ?_
      refine A_iload_n C dX6_drop_67 rfl (pc' := 68) rfl ?_
      refine A_iadd C dX6_drop_68 (pc' := 69) rfl ?_
      obtain ⟨q12, h13, hF⟩ := Option.bind_eq_some_iff.mp hF
      refine A_callV C (av := [.int (((4 : Int32) * a0) + a1)]) (rest := []) (st2 := []) (k2 := 0) (n2 := 0) (F_X6_out_ok hu h13) mk_X6_out lm_X6_135 wi_X6_out wv_X6_out (HPg_21 q10 o) rfl rfl rfl rfl ⟨by decide, by decide⟩ (Nat.le_of_ble_eq_true rfl) rfl rfl dX6_drop_69 rfl rfl rfl (pc' := 72) rfl ?_
      refine A_aload_n C dX6_drop_72 rfl (pc' := 73) rfl ?_
      obtain ⟨q14, h15, hF⟩ := Option.bind_eq_some_iff.mp hF
      refine A_callV C (av := []) (rest := []) (st2 := []) (k2 := 0) (n2 := 0) (F_X6_note_ok hu h15) mk_X6_note lm_X6_132 wi_X6_note wv_X6_note (HPg_21 q12 o) rfl rfl rfl rfl ⟨by decide, by decide⟩ (Nat.le_of_ble_eq_true rfl) rfl rfl dX6_drop_73 rfl rfl rfl (pc' := 76) rfl ?_
      refine A_iload C dX6_drop_76 rfl (pc' := 78) rfl ?_
      cases hF
      exact A_iret C T (Nat.le_refl _) (Nat.le_refl _) dX6_drop_78
    · rw [if_neg c6] at hF
      refine A_iconst C (x := 0) dX6_drop_45 (by decide) (pc' := 46) rfl ?_
      cases hF
      exact A_iret C T (Nat.le_refl _) (Nat.le_refl _) dX6_drop_46
  clear eJ39
  obtain ⟨J14, eJ14, hF⟩ := jn_some hF
  have hJ14 : ∀ (y16 : Int32) (s17 : Sg), J14 y16 s17 = some r → AW Γ (HP s17 o) 0 0 [some (.ref 21), some (.int a0), some (.int a1), none, none] [.int y16] 14 := by
    intro y16 s17 hF
    rw [eJ14] at hF
    dsimp only at hF
    refine A_istore_n C (lv' := [some (.ref 21), some (.int a0), some (.int a1), some (.int y16), none]) dX6_drop_14 rfl eN rfl rfl (pc' := 15) rfl ?_
    refine A_aload_n C dX6_drop_15 rfl (pc' := 16) rfl ?_
    refine A_iload_n C dX6_drop_16 rfl (pc' := 17) rfl ?_
    refine A_iload_n C dX6_drop_17 rfl (pc' := 18) rfl ?_
    refine A_if_ne C dX6_drop_18 (tgt := 38) (by decide) (pc' := 21) rfl (fun c18 => ?_) (fun c18 => ?_)
    · rw [if_neg c18] at hF
      refine A_iconst C (x := 0) dX6_drop_38 (by decide) (pc' := 39) rfl ?_
      refine A_mask [true, true, true, false, false] (lv' := [some (.ref 21), some (.int a0), some (.int a1), none, none]) rfl ?_
      exact hJ39 y16 (0 : Int32) s17 hF
    · rw [if_pos c18] at hF
      refine A_aload_n C dX6_drop_21 rfl (pc' := 22) rfl ?_
      refine A_get C (j := 12) cl_X6 rfl rfl lf_X6_34 dX6_drop_22 (HPg_21 s17 o) rfl (pc' := 25) rfl ?_
      refine A_iconst C (x := 4) dX6_drop_25 (by decide) (pc' := 26) rfl ?_
      refine A_iload_n C dX6_drop_26 rfl (pc' := 27) rfl ?_
      refine A_imul C dX6_drop_27 (pc' := 28) rfl ?_
      refine A_iload_n C dX6_drop_28 rfl (pc' := 29) rfl ?_
      refine A_iadd C dX6_drop_29 (pc' := 30) rfl ?_
      obtain ⟨h19, hF⟩ := grd_some hF
      refine A_iald C (HPg_30 s17 o) (ixb_in h19) dX6_drop_30 (pc' := 31) rfl ?_
      refine A_if_ge C dX6_drop_31 (tgt := 38) (by decide) (pc' := 34) rfl (fun c20 => ?_) (fun c20 => ?_)
      · rw [if_pos c20] at hF
        refine A_iconst C (x := 0) dX6_drop_38 (by decide) (pc' := 39) rfl ?_
        refine A_mask [true, true, true, false, false] (lv' := [some (.ref 21), some (.int a0), some (.int a1), none, none]) rfl ?_
        exact hJ39 y16 (0 : Int32) s17 hF
      · rw [if_neg c20] at hF
        refine A_iconst C (x := 1) dX6_drop_34 (by decide) (pc' := 35) rfl ?_
        refine A_goto C dX6_drop_35 (tgt := 39) (by decide) ?_
        refine A_mask [true, true, true, false, false] (lv' := [some (.ref 21), some (.int a0), some (.int a1), none, none]) rfl ?_
        exact hJ39 y16 (1 : Int32) s17 hF
  clear eJ14
  refine A_aload_n C dX6_drop_0 rfl (pc' := 1) rfl ?_
  refine A_iload_n C dX6_drop_1 rfl (pc' := 2) rfl ?_
  refine A_iload_n C dX6_drop_2 rfl (pc' := 3) rfl ?_
  obtain ⟨q21, h22, hF⟩ := Option.bind_eq_some_iff.mp hF
  refine A_callV C (av := [.int a0, .int a1]) (rest := []) (st2 := [.int q21]) (k2 := 0) (n2 := 0) (F_X6_isItem_ok hu h22) mk_X6_isItem lm_X6_119 wi_X6_isItem wv_X6_isItem (HPg_21 s o) rfl rfl rfl rfl ⟨by decide, by decide⟩ (Nat.le_of_ble_eq_true rfl) rfl rfl dX6_drop_3 rfl rfl rfl (pc' := 6) rfl ?_
  refine A_if_ne C dX6_drop_6 (tgt := 13) (by decide) (pc' := 9) rfl (fun c23 => ?_) (fun c23 => ?_)
  · rw [if_neg c23] at hF
    refine A_iconst C (x := 0) dX6_drop_13 (by decide) (pc' := 14) rfl ?_
    refine A_mask [true, true, true, false, false] (lv' := [some (.ref 21), some (.int a0), some (.int a1), none, none]) rfl ?_
    exact hJ14 (0 : Int32) s hF
  · rw [if_pos c23] at hF
    refine A_iconst C (x := 1) dX6_drop_9 (by decide) (pc' := 10) rfl ?_
    refine A_goto C dX6_drop_10 (tgt := 14) (by decide) ?_
    refine A_mask [true, true, true, false, false] (lv' := [some (.ref 21), some (.int a0), some (.int a1), none, none]) rfl ?_
    exact hJ14 (1 : Int32) s hF
def L_X6_restore_2 : Nat → Int32 → Sg → Option (Sg)
  | 0, _, _ => none
  | fu + 1, b1, s =>
    if (64 : Int32) ≤ b1 then
      some s
    else
      grd (ixb b1 64 = true) <|
      grd (ixb b1 64 = true) <|
      bnd (va_up s 30 (upd (s 30) b1.toNatClampNeg (s 34 b1.toNatClampNeg))) fun s4 =>
      grd (ixb b1 64 = true) <|
      grd (ixb b1 64 = true) <|
      bnd (va_up s4 31 (upd (s4 31) b1.toNatClampNeg (s4 35 b1.toNatClampNeg))) fun s8 =>
      bnd (b1 + (1 : Int32)) fun x10 =>
      L_X6_restore_2 fu x10 s8
def F_X6_restore (s : Sg) : Option Sg :=
  (L_X6_restore_2 FU (0 : Int32) s).bind fun q12 =>
  some q12
set_option maxHeartbeats 4000000 in
set_option maxRecDepth 100000 in
theorem L_X6_restore_2_ok {Γ : Cx} (hu : Un Γ.2.1) (eN : 2 = Γ.2.2.2.2.2) (C : Cok Γ cX6_restore RX6 none 0 0 0) {o : Nat → Int64} : ∀ (fu : Nat) (b1 : Int32) (s : Sg) (q : (Sg)), L_X6_restore_2 fu b1 s = some q → AW Γ (HP q o) 0 0 [none, none] [] 38 → AW Γ (HP s o) 0 0 [some (.ref 21), some (.int b1)] [] 2 := by
  intro fu
  induction fu with
  | zero => intro b1 s q hF; rw [L_X6_restore_2] at hF; cases hF
  | succ fu ih =>
    intro b1 s q hF hexit
    rw [L_X6_restore_2] at hF
    refine A_iload_n C dX6_restore_2 rfl (pc' := 3) rfl ?_
    refine A_bipush C (x := 64) dX6_restore_3 (by decide) (pc' := 5) rfl ?_
    refine A_icmp_ge C dX6_restore_5 (tgt := 38) (by decide) (pc' := 8) rfl (fun c1 => ?_) (fun c1 => ?_)
    · rw [if_pos c1] at hF
      cases hF
      refine A_mask [false, false] (lv' := [none, none]) rfl ?_
      exact hexit
    · rw [if_neg c1] at hF
      refine A_aload_n C dX6_restore_8 rfl (pc' := 9) rfl ?_
      refine A_get C (j := 12) cl_X6 rfl rfl lf_X6_34 dX6_restore_9 (HPg_21 s o) rfl (pc' := 12) rfl ?_
      refine A_iload_n C dX6_restore_12 rfl (pc' := 13) rfl ?_
      refine A_aload_n C dX6_restore_13 rfl (pc' := 14) rfl ?_
      refine A_get C (j := 17) cl_X6 rfl rfl lf_X6_47 dX6_restore_14 (HPg_21 s o) rfl (pc' := 17) rfl ?_
      refine A_iload_n C dX6_restore_17 rfl (pc' := 18) rfl ?_
      obtain ⟨h2, hF⟩ := grd_some hF
      refine A_iald C (HPg_34 s o) (ixb_in h2) dX6_restore_18 (pc' := 19) rfl ?_
      obtain ⟨h3, hF⟩ := grd_some hF
      obtain ⟨s4, e5, hF⟩ := bnd_some hF
      refine A_iast C (h1 := HP s4 o) (HPg_30 s o) (ixb_in h3) (by rw [e5]; exact HPs_30 s o _) dX6_restore_19 (pc' := 20) rfl ?_
      refine A_aload_n C dX6_restore_20 rfl (pc' := 21) rfl ?_
      refine A_get C (j := 13) cl_X6 rfl rfl lf_X6_37 dX6_restore_21 (HPg_21 s4 o) rfl (pc' := 24) rfl ?_
      refine A_iload_n C dX6_restore_24 rfl (pc' := 25) rfl ?_
      refine A_aload_n C dX6_restore_25 rfl (pc' := 26) rfl ?_
      refine A_get C (j := 18) cl_X6 rfl rfl lf_X6_50 dX6_restore_26 (HPg_21 s4 o) rfl (pc' := 29) rfl ?_
      refine A_iload_n C dX6_restore_29 rfl (pc' := 30) rfl ?_
      obtain ⟨h6, hF⟩ := grd_some hF
      refine A_iald C (HPg_35 s4 o) (ixb_in h6) dX6_restore_30 (pc' := 31) rfl ?_
      obtain ⟨h7, hF⟩ := grd_some hF
      obtain ⟨s8, e9, hF⟩ := bnd_some hF
      refine A_iast C (h1 := HP s8 o) (HPg_31 s4 o) (ixb_in h7) (by rw [e9]; exact HPs_31 s4 o _) dX6_restore_31 (pc' := 32) rfl ?_
      obtain ⟨x10, e11, hF⟩ := bnd_some hF
      refine A_iinc C (lv' := [some (.ref 21), some (.int x10)]) dX6_restore_32 rfl (by rw [e11]; rfl) rfl eN rfl rfl (pc' := 35) rfl ?_
      refine A_goto C dX6_restore_35 (tgt := 2) (by decide) ?_
      refine A_mask [true, true] (lv' := [some (.ref 21), some (.int x10)]) rfl ?_
      exact ih x10 s8 q hF hexit
set_option maxHeartbeats 4000000 in
set_option maxRecDepth 100000 in
theorem F_X6_restore_ok {u : Uv} (hu : Un u) {s : Sg} {o : Nat → Int64} {r : Sg} (hF : F_X6_restore  s = some r) : AM u (yX6_restore, cX6_restore, 2, none) 0 0 0 [.ref 21] (HP s o) none (HP r o) := by
  refine AM.of hu (lv := [some (.ref 21), none]) (by decide) rfl (Nat.le_of_ble_eq_true rfl) rfl ?_
  intro Γ eu eN C T
  subst eu
  have C : Cok Γ cX6_restore RX6 none 0 0 0 := C
  unfold F_X6_restore at hF
  refine A_iconst C (x := 0) dX6_restore_0 (by decide) (pc' := 1) rfl ?_
  refine A_istore_n C (lv' := [some (.ref 21), some (.int (0 : Int32))]) dX6_restore_1 rfl eN rfl rfl (pc' := 2) rfl ?_
  obtain ⟨q12, h13, hF⟩ := Option.bind_eq_some_iff.mp hF
  refine A_mask [true, true] (lv' := [some (.ref 21), some (.int (0 : Int32))]) rfl ?_
  refine L_X6_restore_2_ok hu eN C FU (0 : Int32) s q12 h13 ?_
  cases hF
  exact A_vret C T (Nat.le_refl _) (Nat.le_refl _) dX6_restore_38
def L_X6_fill_45 : Nat → Int32 → Int32 → Int32 → Int32 → Sg → Option (Int32 × Sg)
  | 0, _, _, _, _, _ => none
  | fu + 1, b1, b2, b3, b4, s =>
    grd (ixb b3 16 = true) <|
    if (s 28 b3.toNatClampNeg) ≤ b4 then
      some (b2, s)
    else
      grd (ixb (((4 : Int32) * b3) + b4) 64 = true) <|
      if 0 ≤ (s 30 (((4 : Int32) * b3) + b4).toNatClampNeg) then
        bnd (b4 + (1 : Int32)) fun x20 =>
        L_X6_fill_45 fu b1 b2 b3 x20 s
      else
        grd (ixb b2 64 = true) <|
        bnd (va_up s 33 (upd (s 33) b2.toNatClampNeg (((4 : Int32) * b3) + b4))) fun s23 =>
        bnd (b2 + (1 : Int32)) fun x25 =>
        bnd (b4 + (1 : Int32)) fun x27 =>
        L_X6_fill_45 fu b1 x25 b3 x27 s23
def L_X6_fill_34 : Nat → Int32 → Int32 → Int32 → Sg → Option (Int32 × Sg)
  | 0, _, _, _, _ => none
  | fu + 1, b1, b2, b3, s =>
    if (s 2204 0) ≤ b3 then
      some (b2, s)
    else
      (L_X6_fill_45 FU b1 b2 b3 (0 : Int32) s).bind fun q29 =>
      bnd (b3 + (1 : Int32)) fun x31 =>
      L_X6_fill_34 fu b1 q29.1 x31 q29.2
def L_X6_fill_135 : Nat → Int32 → Int32 → Int32 → Int32 → Int32 → Int32 → Int32 → Sg → Option (Int32 × Int32 × Int32 × Sg)
  | 0, _, _, _, _, _, _, _, _ => none
  | fu + 1, b1, b2, b3, b4, b5, b6, b7, s =>
    jn (fun (x78 : Int32) (x79 : Int32) (y80 : Int32) (s81 : Sg) => if y80 = 0 then
          bnd (va_up s81 2215 (fun _ => ((s81 2215 0) + (1 : Int32)))) fun s83 =>
          (F_X6_rule b6 x78 s83).bind fun q85 =>
          if q85 = 0 then
            (F_X6_put b6 x78 s83).bind fun q90 =>
            L_X6_fill_135 fu b1 b2 b3 x78 y80 b6 (1 : Int32) q90
          else
            bnd (x78 + (1 : Int32)) fun x88 =>
            L_X6_fill_135 fu b1 b2 b3 x88 y80 b6 (0 : Int32) s83
        else
          L_X6_fill_135 fu b1 b2 b3 x78 y80 b6 x79 s81) fun J172 =>
    if b7 = 0 then
      if b5 = 0 then
        if ((s 2201 0) * (s 2202 0)) ≤ b4 then
          some (b4, b5, b7, s)
        else
          if (s 2215 0) = b1 then
            J172 b4 b7 (1 : Int32) s
          else
            J172 b4 b7 (0 : Int32) s
      else
        some (b4, b5, b7, s)
    else
      some (b4, b5, b7, s)
def L_X6_fill_110 : Nat → Int32 → Int32 → Int32 → Int32 → Int32 → Sg → Option (Int32 × Int32 × Sg)
  | 0, _, _, _, _, _, _ => none
  | fu + 1, b1, b2, b3, b4, b5, s =>
    jn (fun (x37 : Int32) (x38 : Int32) (x39 : Int32) (y40 : Int32) (s41 : Sg) => if y40 = 0 then
          L_X6_fill_110 fu b1 b2 x37 (0 : Int32) x39 s41
        else
          bnd (x38 + (1 : Int32)) fun x43 =>
          L_X6_fill_110 fu b1 b2 x37 x43 x39 s41) fun J264 =>
    jn (fun (x45 : Int32) (x46 : Int32) (x47 : Int32) (x48 : Int32) (x49 : Int32) (s50 : Sg) => if x49 = 0 then
          if x47 = 0 then
            bnd (x45 + (-1 : Int32)) fun x53 =>
            if x53 < 0 then
              L_X6_fill_110 fu b1 b2 x53 x46 x47 s50
            else
              grd (ixb x53 64 = true) <|
              grd (ixb (s50 33 x53.toNatClampNeg) 64 = true) <|
              bnd ((s50 30 (s50 33 x53.toNatClampNeg).toNatClampNeg) + (1 : Int32)) fun x58 =>
              grd (ixb x53 64 = true) <|
              (F_X6_out (s50 33 x53.toNatClampNeg) s50).bind fun q61 =>
              L_X6_fill_110 fu b1 b2 x53 x58 x47 q61
          else
            L_X6_fill_110 fu b1 b2 x45 x46 x47 s50
        else
          bnd (x45 + (1 : Int32)) fun x63 =>
          if b2 ≤ x63 then
            J264 x63 x46 x47 (0 : Int32) s50
          else
            grd (ixb x63 64 = true) <|
            (F_X6_lessonOf (s50 33 x63.toNatClampNeg) s50).bind fun q67 =>
            (F_X6_lessonOf x48 s50).bind fun q69 =>
            if q67 = q69 then
              J264 x63 x46 x47 (1 : Int32) s50
            else
              J264 x63 x46 x47 (0 : Int32) s50) fun J229 =>
    if b3 < 0 then
      some (b3, b5, s)
    else
      if b2 ≤ b3 then
        some (b3, b5, s)
      else
        if b5 = 0 then
          grd (ixb b3 64 = true) <|
          bnd (s 33 b3.toNatClampNeg) fun x76 =>
          (L_X6_fill_135 FU b1 b2 b3 b4 b5 x76 (0 : Int32) s).bind fun q96 =>
          J229 b3 q96.1 q96.2.1 x76 q96.2.2.1 q96.2.2.2
        else
          some (b3, b5, s)
def F_X6_fill (a0 : Int32) (s : Sg) : Option (Int32 × Sg) :=
  jn (fun (x1 : Int32) (x2 : Int32) (s3 : Sg) => (F_X6_note  s3).bind fun q4 =>
      if x2 = 0 then
        if 0 ≤ x1 then
          some ((1 : Int32), q4)
        else
          some ((0 : Int32), q4)
      else
        some ((2 : Int32), q4)) fun J337 =>
  jn (fun (y8 : Int32) (s9 : Sg) => (F_X6_throwing y8 (0 : Int32) s9).bind fun q10 =>
      if q10.1 = 0 then
        (F_X6_keep  q10.2).bind fun q13 =>
        (L_X6_fill_34 FU a0 (0 : Int32) (0 : Int32) q13).bind fun q33 =>
        bnd (va_up q33.2 2215 (fun _ => (0 : Int32))) fun s35 =>
        (L_X6_fill_110 FU a0 q33.1 (0 : Int32) (0 : Int32) (0 : Int32) s35).bind fun q98 =>
        if q98.2.1 = 0 then
          if 0 ≤ q98.1 then
            J337 q98.1 q98.2.1 q98.2.2
          else
            (F_X6_restore  q98.2.2).bind fun q104 =>
            J337 q98.1 q98.2.1 q104
        else
          (F_X6_restore  q98.2.2).bind fun q101 =>
          J337 q98.1 q98.2.1 q101
      else
        some ((0 : Int32), q10.2)) fun J17 =>
  (F_X6_in a0 (1 : Int32) (20000 : Int32) s).bind fun q106 =>
  if q106 = 0 then
    J17 (1 : Int32) s
  else
    J17 (0 : Int32) s
set_option maxHeartbeats 4000000 in
set_option maxRecDepth 100000 in
theorem L_X6_fill_45_ok {Γ : Cx} (hu : Un Γ.2.1) (eN : 9 = Γ.2.2.2.2.2) (C : Cok Γ cX6_fill RX6 (some .int) 6 0 0) {o : Nat → Int64} : ∀ (fu : Nat) (b1 : Int32) (b2 : Int32) (b3 : Int32) (b4 : Int32) (s : Sg) (q : (Int32 × Sg)), L_X6_fill_45 fu b1 b2 b3 b4 s = some q → AW Γ (HP q.2 o) 0 0 [some (.ref 21), some (.int b1), some (.int q.1), some (.int b3), none, none, none, none, none] [] 91 → AW Γ (HP s o) 0 0 [some (.ref 21), some (.int b1), some (.int b2), some (.int b3), some (.int b4), none, none, none, none] [] 45 := by
  intro fu
  induction fu with
  | zero => intro b1 b2 b3 b4 s q hF; rw [L_X6_fill_45] at hF; cases hF
  | succ fu ih =>
    intro b1 b2 b3 b4 s q hF hexit
    rw [L_X6_fill_45] at hF
    refine A_iload C dX6_fill_45 rfl (pc' := 47) rfl ?_
    refine A_aload_n C dX6_fill_47 rfl (pc' := 48) rfl ?_
    refine A_get C (j := 10) cl_X6 rfl rfl lf_X6_28 dX6_fill_48 (HPg_21 s o) rfl (pc' := 51) rfl ?_
    refine A_iload_n C dX6_fill_51 rfl (pc' := 52) rfl ?_
    obtain ⟨h16, hF⟩ := grd_some hF
    refine A_iald C (HPg_28 s o) (ixb_in h16) dX6_fill_52 (pc' := 53) rfl ?_
    refine A_icmp_ge C dX6_fill_53 (tgt := 91) (by decide) (pc' := 56) rfl (fun c17 => ?_) (fun c17 => ?_)
    · rw [if_pos c17] at hF
      cases hF
      refine A_mask [true, true, true, true, false, false, false, false, false] (lv' := [some (.ref 21), some (.int b1), some (.int b2), some (.int b3), none, none, none, none, none]) rfl ?_
      exact hexit
    · rw [if_neg c17] at hF
      refine A_aload_n C dX6_fill_56 rfl (pc' := 57) rfl ?_
      refine A_get C (j := 12) cl_X6 rfl rfl lf_X6_34 dX6_fill_57 (HPg_21 s o) rfl (pc' := 60) rfl ?_
      refine A_iconst C (x := 4) dX6_fill_60 (by decide) (pc' := 61) rfl ?_
      refine A_iload_n C dX6_fill_61 rfl (pc' := 62) rfl ?_
      refine A_imul C dX6_fill_62 (pc' := 63) rfl ?_
      refine A_iload C dX6_fill_63 rfl (pc' := 65) rfl ?_
      refine A_iadd C dX6_fill_65 (pc' := 66) rfl ?_
      obtain ⟨h18, hF⟩ := grd_some hF
      refine A_iald C (HPg_30 s o) (ixb_in h18) dX6_fill_66 (pc' := 67) rfl ?_
      refine A_if_ge C dX6_fill_67 (tgt := 85) (by decide) (pc' := 70) rfl (fun c19 => ?_) (fun c19 => ?_)
      · rw [if_pos c19] at hF
        obtain ⟨x20, e21, hF⟩ := bnd_some hF
        refine A_iinc C (lv' := [some (.ref 21), some (.int b1), some (.int b2), some (.int b3), some (.int x20), none, none, none, none]) dX6_fill_85 rfl (by rw [e21]; rfl) rfl eN rfl rfl (pc' := 88) rfl ?_
        refine A_goto C dX6_fill_88 (tgt := 45) (by decide) ?_
        refine A_mask [true, true, true, true, true, false, false, false, false] (lv' := [some (.ref 21), some (.int b1), some (.int b2), some (.int b3), some (.int x20), none, none, none, none]) rfl ?_
        exact ih b1 b2 b3 x20 s q hF hexit
      · rw [if_neg c19] at hF
        refine A_aload_n C dX6_fill_70 rfl (pc' := 71) rfl ?_
        refine A_get C (j := 16) cl_X6 rfl rfl lf_X6_44 dX6_fill_71 (HPg_21 s o) rfl (pc' := 74) rfl ?_
        refine A_iload_n C dX6_fill_74 rfl (pc' := 75) rfl ?_
        refine A_iconst C (x := 4) dX6_fill_75 (by decide) (pc' := 76) rfl ?_
        refine A_iload_n C dX6_fill_76 rfl (pc' := 77) rfl ?_
        refine A_imul C dX6_fill_77 (pc' := 78) rfl ?_
        refine A_iload C dX6_fill_78 rfl (pc' := 80) rfl ?_
        refine A_iadd C dX6_fill_80 (pc' := 81) rfl ?_
        obtain ⟨h22, hF⟩ := grd_some hF
        obtain ⟨s23, e24, hF⟩ := bnd_some hF
        refine A_iast C (h1 := HP s23 o) (HPg_33 s o) (ixb_in h22) (by rw [e24]; exact HPs_33 s o _) dX6_fill_81 (pc' := 82) rfl ?_
        obtain ⟨x25, e26, hF⟩ := bnd_some hF
        refine A_iinc C (lv' := [some (.ref 21), some (.int b1), some (.int x25), some (.int b3), some (.int b4), none, none, none, none]) dX6_fill_82 rfl (by rw [e26]; rfl) rfl eN rfl rfl (pc' := 85) rfl ?_
        obtain ⟨x27, e28, hF⟩ := bnd_some hF
        refine A_iinc C (lv' := [some (.ref 21), some (.int b1), some (.int x25), some (.int b3), some (.int x27), none, none, none, none]) dX6_fill_85 rfl (by rw [e28]; rfl) rfl eN rfl rfl (pc' := 88) rfl ?_
        refine A_goto C dX6_fill_88 (tgt := 45) (by decide) ?_
        refine A_mask [true, true, true, true, true, false, false, false, false] (lv' := [some (.ref 21), some (.int b1), some (.int x25), some (.int b3), some (.int x27), none, none, none, none]) rfl ?_
        exact ih b1 x25 b3 x27 s23 q hF hexit
set_option maxHeartbeats 4000000 in
set_option maxRecDepth 100000 in
theorem L_X6_fill_34_ok {Γ : Cx} (hu : Un Γ.2.1) (eN : 9 = Γ.2.2.2.2.2) (C : Cok Γ cX6_fill RX6 (some .int) 6 0 0) {o : Nat → Int64} : ∀ (fu : Nat) (b1 : Int32) (b2 : Int32) (b3 : Int32) (s : Sg) (q : (Int32 × Sg)), L_X6_fill_34 fu b1 b2 b3 s = some q → AW Γ (HP q.2 o) 0 0 [some (.ref 21), some (.int b1), some (.int q.1), none, none, none, none, none, none] [] 97 → AW Γ (HP s o) 0 0 [some (.ref 21), some (.int b1), some (.int b2), some (.int b3), none, none, none, none, none] [] 34 := by
  intro fu
  induction fu with
  | zero => intro b1 b2 b3 s q hF; rw [L_X6_fill_34] at hF; cases hF
  | succ fu ih =>
    intro b1 b2 b3 s q hF hexit
    rw [L_X6_fill_34] at hF
    refine A_iload_n C dX6_fill_34 rfl (pc' := 35) rfl ?_
    refine A_aload_n C dX6_fill_35 rfl (pc' := 36) rfl ?_
    refine A_get C (j := 4) cl_X6 rfl rfl lf_X6_76 dX6_fill_36 (HPg_21 s o) rfl (pc' := 39) rfl ?_
    refine A_icmp_ge C dX6_fill_39 (tgt := 97) (by decide) (pc' := 42) rfl (fun c15 => ?_) (fun c15 => ?_)
    · rw [if_pos c15] at hF
      cases hF
      refine A_mask [true, true, true, false, false, false, false, false, false] (lv' := [some (.ref 21), some (.int b1), some (.int b2), none, none, none, none, none, none]) rfl ?_
      exact hexit
    · rw [if_neg c15] at hF
      refine A_iconst C (x := 0) dX6_fill_42 (by decide) (pc' := 43) rfl ?_
      refine A_istore C (lv' := [some (.ref 21), some (.int b1), some (.int b2), some (.int b3), some (.int (0 : Int32)), none, none, none, none]) dX6_fill_43 rfl eN rfl rfl (pc' := 45) rfl ?_
      obtain ⟨q29, h30, hF⟩ := Option.bind_eq_some_iff.mp hF
      refine A_mask [true, true, true, true, true, false, false, false, false] (lv' := [some (.ref 21), some (.int b1), some (.int b2), some (.int b3), some (.int (0 : Int32)), none, none, none, none]) rfl ?_
      refine L_X6_fill_45_ok hu eN C FU b1 b2 b3 (0 : Int32) s q29 h30 ?_
      obtain ⟨x31, e32, hF⟩ := bnd_some hF
      refine A_iinc C (lv' := [some (.ref 21), some (.int b1), some (.int q29.1), some (.int x31), none, none, none, none, none]) dX6_fill_91 rfl (by rw [e32]; rfl) rfl eN rfl rfl (pc' := 94) rfl ?_
      refine A_goto C dX6_fill_94 (tgt := 34) (by decide) ?_
      refine A_mask [true, true, true, true, false, false, false, false, false] (lv' := [some (.ref 21), some (.int b1), some (.int q29.1), some (.int x31), none, none, none, none, none]) rfl ?_
      exact ih b1 q29.1 x31 q29.2 q hF hexit
set_option maxHeartbeats 4000000 in
set_option maxRecDepth 100000 in
theorem L_X6_fill_135_ok {Γ : Cx} (hu : Un Γ.2.1) (eN : 9 = Γ.2.2.2.2.2) (C : Cok Γ cX6_fill RX6 (some .int) 6 0 0) {o : Nat → Int64} : ∀ (fu : Nat) (b1 : Int32) (b2 : Int32) (b3 : Int32) (b4 : Int32) (b5 : Int32) (b6 : Int32) (b7 : Int32) (s : Sg) (q : (Int32 × Int32 × Int32 × Sg)), L_X6_fill_135 fu b1 b2 b3 b4 b5 b6 b7 s = some q → AW Γ (HP q.2.2.2 o) 0 0 [some (.ref 21), some (.int b1), some (.int b2), some (.int b3), some (.int q.1), some (.int q.2.1), some (.int b6), some (.int q.2.2.1), none] [] 229 → AW Γ (HP s o) 0 0 [some (.ref 21), some (.int b1), some (.int b2), some (.int b3), some (.int b4), some (.int b5), some (.int b6), some (.int b7), none] [] 135 := by
  intro fu
  induction fu with
  | zero => intro b1 b2 b3 b4 b5 b6 b7 s q hF; rw [L_X6_fill_135] at hF; cases hF
  | succ fu ih =>
    intro b1 b2 b3 b4 b5 b6 b7 s q hF hexit
    rw [L_X6_fill_135] at hF
    obtain ⟨J172, eJ172, hF⟩ := jn_some hF
    have hJ172 : ∀ (x78 : Int32) (x79 : Int32) (y80 : Int32) (s81 : Sg), J172 x78 x79 y80 s81 = some q → AW Γ (HP s81 o) 0 0 [some (.ref 21), some (.int b1), some (.int b2), some (.int b3), some (.int x78), none, some (.int b6), some (.int x79), none] [.int y80] 172 := by
      intro x78 x79 y80 s81 hF
      rw [eJ172] at hF
      dsimp only at hF
      refine A_istore C (lv' := [some (.ref 21), some (.int b1), some (.int b2), some (.int b3), some (.int x78), some (.int y80), some (.int b6), some (.int x79), none]) dX6_fill_172 rfl eN rfl rfl (pc' := 174) rfl ?_
      refine A_iload C dX6_fill_174 rfl (pc' := 176) rfl ?_
      refine A_if_ne C dX6_fill_176 (tgt := 135) (by decide) (pc' := 179) rfl (fun c82 => ?_) (fun c82 => ?_)
      · rw [if_neg c82] at hF
        refine A_mask [true, true, true, true, true, true, true, true, false] (lv' := [some (.ref 21), some (.int b1), some (.int b2), some (.int b3), some (.int x78), some (.int y80), some (.int b6), some (.int x79), none]) rfl ?_
        exact ih b1 b2 b3 x78 y80 b6 x79 s81 q hF hexit
      · rw [if_pos c82] at hF
        refine A_aload_n C dX6_fill_179 rfl (pc' := 180) rfl ?_
        refine A_dup C dX6_fill_180 rfl (pc' := 181) rfl ?_
        refine A_get C (j := 15) cl_X6 rfl rfl lf_X6_139 dX6_fill_181 (HPg_21 s81 o) rfl (pc' := 184) rfl ?_
        refine A_iconst C (x := 1) dX6_fill_184 (by decide) (pc' := 185) rfl ?_
        refine A_iadd C dX6_fill_185 (pc' := 186) rfl ?_
        obtain ⟨s83, e84, hF⟩ := bnd_some hF
        refine A_put C (j := 15) (h1 := HP s83 o) tyX6 tyX6_ok nmX6 cl_X6 rfl rfl lf_X6_139 rfl (tyX6_ok 15 (by decide)) (fun _ => rfl) (fun _ => rfl) rfl dX6_fill_186 (HPg_21 s81 o) (by rw [e84]; exact HPp_21_15 s81 o _) (pc' := 189) rfl ?_
        refine A_aload_n C dX6_fill_189 rfl (pc' := 190) rfl ?_
        refine A_iload C dX6_fill_190 rfl (pc' := 192) rfl ?_
        refine A_iload C dX6_fill_192 rfl (pc' := 194) rfl ?_
        obtain ⟨q85, h86, hF⟩ := Option.bind_eq_some_iff.mp hF
        refine A_callV C (av := [.int b6, .int x78]) (rest := []) (st2 := [.int q85]) (k2 := 0) (n2 := 0) (F_X6_rule_ok hu h86) mk_X6_rule lm_X6_122 wi_X6_rule wv_X6_rule (HPg_21 s83 o) rfl rfl rfl rfl ⟨by decide, by decide⟩ (Nat.le_of_ble_eq_true rfl) rfl rfl dX6_fill_194 rfl rfl rfl (pc' := 197) rfl ?_
        refine A_if_ne C dX6_fill_197 (tgt := 204) (by decide) (pc' := 200) rfl (fun c87 => ?_) (fun c87 => ?_)
        · rw [if_neg c87] at hF
          refine A_iconst C (x := 0) dX6_fill_204 (by decide) (pc' := 205) rfl ?_
          refine A_istore C (lv' := [some (.ref 21), some (.int b1), some (.int b2), some (.int b3), some (.int x78), some (.int y80), some (.int b6), some (.int (0 : Int32)), none]) dX6_fill_205 rfl eN rfl rfl (pc' := 207) rfl ?_
          refine A_iload C dX6_fill_207 rfl (pc' := 209) rfl ?_
          refine A_if_eq C dX6_fill_209 (tgt := 223) (by decide) (pc' := 212) rfl (fun _ => ?_) (fun c => absurd c (by decide))
          obtain ⟨x88, e89, hF⟩ := bnd_some hF
          refine A_iinc C (lv' := [some (.ref 21), some (.int b1), some (.int b2), some (.int b3), some (.int x88), some (.int y80), some (.int b6), some (.int (0 : Int32)), none]) dX6_fill_223 rfl (by rw [e89]; rfl) rfl eN rfl rfl (pc' := 226) rfl ?_
          refine A_goto C dX6_fill_226 (tgt := 135) (by decide) ?_
          refine A_mask [true, true, true, true, true, true, true, true, false] (lv' := [some (.ref 21), some (.int b1), some (.int b2), some (.int b3), some (.int x88), some (.int y80), some (.int b6), some (.int (0 : Int32)), none]) rfl ?_
          exact ih b1 b2 b3 x88 y80 b6 (0 : Int32) s83 q hF hexit
        · rw [if_pos c87] at hF
          refine A_iconst C (x := 1) dX6_fill_200 (by decide) (pc' := 201) rfl ?_
          refine A_goto C dX6_fill_201 (tgt := 205) (by decide) ?_
          refine A_istore C (lv' := [some (.ref 21), some (.int b1), some (.int b2), some (.int b3), some (.int x78), some (.int y80), some (.int b6), some (.int (1 : Int32)), none]) dX6_fill_205 rfl eN rfl rfl (pc' := 207) rfl ?_
          refine A_iload C dX6_fill_207 rfl (pc' := 209) rfl ?_
          refine A_if_eq C dX6_fill_209 (tgt := 223) (by decide) (pc' := 212) rfl (fun c => absurd c (by decide)) (fun _ => ?_)
          refine A_aload_n C dX6_fill_212 rfl (pc' := 213) rfl ?_
          refine A_iload C dX6_fill_213 rfl (pc' := 215) rfl ?_
          refine A_iload C dX6_fill_215 rfl (pc' := 217) rfl ?_
          obtain ⟨q90, h91, hF⟩ := Option.bind_eq_some_iff.mp hF
          refine A_callV C (av := [.int b6, .int x78]) (rest := []) (st2 := []) (k2 := 0) (n2 := 0) (F_X6_put_ok hu h91) mk_X6_put lm_X6_128 wi_X6_put wv_X6_put (HPg_21 s83 o) rfl rfl rfl rfl ⟨by decide, by decide⟩ (Nat.le_of_ble_eq_true rfl) rfl rfl dX6_fill_217 rfl rfl rfl (pc' := 220) rfl ?_
          refine A_goto C dX6_fill_220 (tgt := 135) (by decide) ?_
          refine A_mask [true, true, true, true, true, true, true, true, false] (lv' := [some (.ref 21), some (.int b1), some (.int b2), some (.int b3), some (.int x78), some (.int y80), some (.int b6), some (.int (1 : Int32)), none]) rfl ?_
          exact ih b1 b2 b3 x78 y80 b6 (1 : Int32) q90 q hF hexit
    clear eJ172
    refine A_iload C dX6_fill_135 rfl (pc' := 137) rfl ?_
    refine A_if_ne C dX6_fill_137 (tgt := 229) (by decide) (pc' := 140) rfl (fun c92 => ?_) (fun c92 => ?_)
    · rw [if_neg c92] at hF
      cases hF
      refine A_mask [true, true, true, true, true, true, true, true, false] (lv' := [some (.ref 21), some (.int b1), some (.int b2), some (.int b3), some (.int b4), some (.int b5), some (.int b6), some (.int b7), none]) rfl ?_
      exact hexit
    · rw [if_pos c92] at hF
      refine A_iload C dX6_fill_140 rfl (pc' := 142) rfl ?_
      refine A_if_ne C dX6_fill_142 (tgt := 229) (by decide) (pc' := 145) rfl (fun c93 => ?_) (fun c93 => ?_)
      · rw [if_neg c93] at hF
        cases hF
        refine A_mask [true, true, true, true, true, true, true, true, false] (lv' := [some (.ref 21), some (.int b1), some (.int b2), some (.int b3), some (.int b4), some (.int b5), some (.int b6), some (.int b7), none]) rfl ?_
        exact hexit
      · rw [if_pos c93] at hF
        refine A_iload C dX6_fill_145 rfl (pc' := 147) rfl ?_
        refine A_aload_n C dX6_fill_147 rfl (pc' := 148) rfl ?_
        refine A_get C (j := 1) cl_X6 rfl rfl lf_X6_62 dX6_fill_148 (HPg_21 s o) rfl (pc' := 151) rfl ?_
        refine A_aload_n C dX6_fill_151 rfl (pc' := 152) rfl ?_
        refine A_get C (j := 2) cl_X6 rfl rfl lf_X6_66 dX6_fill_152 (HPg_21 s o) rfl (pc' := 155) rfl ?_
        refine A_imul C dX6_fill_155 (pc' := 156) rfl ?_
        refine A_icmp_ge C dX6_fill_156 (tgt := 229) (by decide) (pc' := 159) rfl (fun c94 => ?_) (fun c94 => ?_)
        · rw [if_pos c94] at hF
          cases hF
          refine A_mask [true, true, true, true, true, true, true, true, false] (lv' := [some (.ref 21), some (.int b1), some (.int b2), some (.int b3), some (.int b4), some (.int b5), some (.int b6), some (.int b7), none]) rfl ?_
          exact hexit
        · rw [if_neg c94] at hF
          refine A_aload_n C dX6_fill_159 rfl (pc' := 160) rfl ?_
          refine A_get C (j := 15) cl_X6 rfl rfl lf_X6_139 dX6_fill_160 (HPg_21 s o) rfl (pc' := 163) rfl ?_
          refine A_iload_n C dX6_fill_163 rfl (pc' := 164) rfl ?_
          refine A_icmp_ne C dX6_fill_164 (tgt := 171) (by decide) (pc' := 167) rfl (fun c95 => ?_) (fun c95 => ?_)
          · rw [if_neg c95] at hF
            refine A_iconst C (x := 0) dX6_fill_171 (by decide) (pc' := 172) rfl ?_
            refine A_mask [true, true, true, true, true, false, true, true, false] (lv' := [some (.ref 21), some (.int b1), some (.int b2), some (.int b3), some (.int b4), none, some (.int b6), some (.int b7), none]) rfl ?_
            exact hJ172 b4 b7 (0 : Int32) s hF
          · rw [if_pos c95] at hF
            refine A_iconst C (x := 1) dX6_fill_167 (by decide) (pc' := 168) rfl ?_
            refine A_goto C dX6_fill_168 (tgt := 172) (by decide) ?_
            refine A_mask [true, true, true, true, true, false, true, true, false] (lv' := [some (.ref 21), some (.int b1), some (.int b2), some (.int b3), some (.int b4), none, some (.int b6), some (.int b7), none]) rfl ?_
            exact hJ172 b4 b7 (1 : Int32) s hF
set_option maxHeartbeats 4000000 in
set_option maxRecDepth 100000 in
theorem L_X6_fill_110_ok {Γ : Cx} (hu : Un Γ.2.1) (eN : 9 = Γ.2.2.2.2.2) (C : Cok Γ cX6_fill RX6 (some .int) 6 0 0) {o : Nat → Int64} : ∀ (fu : Nat) (b1 : Int32) (b2 : Int32) (b3 : Int32) (b4 : Int32) (b5 : Int32) (s : Sg) (q : (Int32 × Int32 × Sg)), L_X6_fill_110 fu b1 b2 b3 b4 b5 s = some q → AW Γ (HP q.2.2 o) 0 0 [some (.ref 21), none, none, some (.int q.1), none, some (.int q.2.1), none, none, none] [] 324 → AW Γ (HP s o) 0 0 [some (.ref 21), some (.int b1), some (.int b2), some (.int b3), some (.int b4), some (.int b5), none, none, none] [] 110 := by
  intro fu
  induction fu with
  | zero => intro b1 b2 b3 b4 b5 s q hF; rw [L_X6_fill_110] at hF; cases hF
  | succ fu ih =>
    intro b1 b2 b3 b4 b5 s q hF hexit
    rw [L_X6_fill_110] at hF
    obtain ⟨J264, eJ264, hF⟩ := jn_some hF
    have hJ264 : ∀ (x37 : Int32) (x38 : Int32) (x39 : Int32) (y40 : Int32) (s41 : Sg), J264 x37 x38 x39 y40 s41 = some q → AW Γ (HP s41 o) 0 0 [some (.ref 21), some (.int b1), some (.int b2), some (.int x37), some (.int x38), some (.int x39), none, none, none] [.int y40] 264 := by
      intro x37 x38 x39 y40 s41 hF
      rw [eJ264] at hF
      dsimp only at hF
      refine A_istore C (lv' := [some (.ref 21), some (.int b1), some (.int b2), some (.int x37), some (.int x38), some (.int x39), none, none, some (.int y40)]) dX6_fill_264 rfl eN rfl rfl (pc' := 266) rfl ?_
      refine A_iload C dX6_fill_266 rfl (pc' := 268) rfl ?_
      refine A_if_eq C dX6_fill_268 (tgt := 278) (by decide) (pc' := 271) rfl (fun c42 => ?_) (fun c42 => ?_)
      · rw [if_pos c42] at hF
        refine A_iconst C (x := 0) dX6_fill_278 (by decide) (pc' := 279) rfl ?_
        refine A_istore C (lv' := [some (.ref 21), some (.int b1), some (.int b2), some (.int x37), some (.int (0 : Int32)), some (.int x39), none, none, some (.int y40)]) dX6_fill_279 rfl eN rfl rfl (pc' := 281) rfl ?_
        refine A_goto C dX6_fill_281 (tgt := 321) (by decide) ?_
        refine A_goto C dX6_fill_321 (tgt := 110) (by decide) ?_
        refine A_mask [true, true, true, true, true, true, false, false, false] (lv' := [some (.ref 21), some (.int b1), some (.int b2), some (.int x37), some (.int (0 : Int32)), some (.int x39), none, none, none]) rfl ?_
        exact ih b1 b2 x37 (0 : Int32) x39 s41 q hF hexit
      · rw [if_neg c42] at hF
        refine A_iload C dX6_fill_271 rfl (pc' := 273) rfl ?_
        refine A_iconst C (x := 1) dX6_fill_273 (by decide) (pc' := 274) rfl ?_
        refine A_iadd C dX6_fill_274 (pc' := 275) rfl ?_
        refine A_goto C dX6_fill_275 (tgt := 279) (by decide) ?_
        obtain ⟨x43, e44, hF⟩ := bnd_some hF
        refine A_topi e44 ?_
        refine A_istore C (lv' := [some (.ref 21), some (.int b1), some (.int b2), some (.int x37), some (.int x43), some (.int x39), none, none, some (.int y40)]) dX6_fill_279 rfl eN rfl rfl (pc' := 281) rfl ?_
        refine A_goto C dX6_fill_281 (tgt := 321) (by decide) ?_
        refine A_goto C dX6_fill_321 (tgt := 110) (by decide) ?_
        refine A_mask [true, true, true, true, true, true, false, false, false] (lv' := [some (.ref 21), some (.int b1), some (.int b2), some (.int x37), some (.int x43), some (.int x39), none, none, none]) rfl ?_
        exact ih b1 b2 x37 x43 x39 s41 q hF hexit
    clear eJ264
    obtain ⟨J229, eJ229, hF⟩ := jn_some hF
    have hJ229 : ∀ (x45 : Int32) (x46 : Int32) (x47 : Int32) (x48 : Int32) (x49 : Int32) (s50 : Sg), J229 x45 x46 x47 x48 x49 s50 = some q → AW Γ (HP s50 o) 0 0 [some (.ref 21), some (.int b1), some (.int b2), some (.int x45), some (.int x46), some (.int x47), some (.int x48), some (.int x49), none] [] 229 := by
      intro x45 x46 x47 x48 x49 s50 hF
      rw [eJ229] at hF
      dsimp only at hF
      refine A_iload C dX6_fill_229 rfl (pc' := 231) rfl ?_
      refine A_if_eq C dX6_fill_231 (tgt := 284) (by decide) (pc' := 234) rfl (fun c51 => ?_) (fun c51 => ?_)
      · rw [if_pos c51] at hF
        refine A_iload C dX6_fill_284 rfl (pc' := 286) rfl ?_
        refine A_if_ne C dX6_fill_286 (tgt := 321) (by decide) (pc' := 289) rfl (fun c52 => ?_) (fun c52 => ?_)
        · rw [if_neg c52] at hF
          refine A_goto C dX6_fill_321 (tgt := 110) (by decide) ?_
          refine A_mask [true, true, true, true, true, true, false, false, false] (lv' := [some (.ref 21), some (.int b1), some (.int b2), some (.int x45), some (.int x46), some (.int x47), none, none, none]) rfl ?_
          exact ih b1 b2 x45 x46 x47 s50 q hF hexit
        · rw [if_pos c52] at hF
          obtain ⟨x53, e54, hF⟩ := bnd_some hF
          refine A_iinc C (lv' := [some (.ref 21), some (.int b1), some (.int b2), some (.int x53), some (.int x46), some (.int x47), some (.int x48), some (.int x49), none]) dX6_fill_289 rfl (by rw [e54]; rfl) rfl eN rfl rfl (pc' := 292) rfl ?_
          refine A_iload_n C dX6_fill_292 rfl (pc' := 293) rfl ?_
          refine A_if_lt C dX6_fill_293 (tgt := 321) (by decide) (pc' := 296) rfl (fun c55 => ?_) (fun c55 => ?_)
          · rw [if_pos c55] at hF
            refine A_goto C dX6_fill_321 (tgt := 110) (by decide) ?_
            refine A_mask [true, true, true, true, true, true, false, false, false] (lv' := [some (.ref 21), some (.int b1), some (.int b2), some (.int x53), some (.int x46), some (.int x47), none, none, none]) rfl ?_
            exact ih b1 b2 x53 x46 x47 s50 q hF hexit
          · rw [if_neg c55] at hF
            refine A_aload_n C dX6_fill_296 rfl (pc' := 297) rfl ?_
            refine A_get C (j := 12) cl_X6 rfl rfl lf_X6_34 dX6_fill_297 (HPg_21 s50 o) rfl (pc' := 300) rfl ?_
            refine A_aload_n C dX6_fill_300 rfl (pc' := 301) rfl ?_
            refine A_get C (j := 16) cl_X6 rfl rfl lf_X6_44 dX6_fill_301 (HPg_21 s50 o) rfl (pc' := 304) rfl ?_
            refine A_iload_n C dX6_fill_304 rfl (pc' := 305) rfl ?_
            obtain ⟨h56, hF⟩ := grd_some hF
            refine A_iald C (HPg_33 s50 o) (ixb_in h56) dX6_fill_305 (pc' := 306) rfl ?_
            obtain ⟨h57, hF⟩ := grd_some hF
            refine A_iald C (HPg_30 s50 o) (ixb_in h57) dX6_fill_306 (pc' := 307) rfl ?_
            refine A_iconst C (x := 1) dX6_fill_307 (by decide) (pc' := 308) rfl ?_
            refine A_iadd C dX6_fill_308 (pc' := 309) rfl ?_
            obtain ⟨x58, e59, hF⟩ := bnd_some hF
            refine A_topi e59 ?_
            refine A_istore C (lv' := [some (.ref 21), some (.int b1), some (.int b2), some (.int x53), some (.int x58), some (.int x47), some (.int x48), some (.int x49), none]) dX6_fill_309 rfl eN rfl rfl (pc' := 311) rfl ?_
            refine A_aload_n C dX6_fill_311 rfl (pc' := 312) rfl ?_
            refine A_aload_n C dX6_fill_312 rfl (pc' := 313) rfl ?_
            refine A_get C (j := 16) cl_X6 rfl rfl lf_X6_44 dX6_fill_313 (HPg_21 s50 o) rfl (pc' := 316) rfl ?_
            refine A_iload_n C dX6_fill_316 rfl (pc' := 317) rfl ?_
            obtain ⟨h60, hF⟩ := grd_some hF
            refine A_iald C (HPg_33 s50 o) (ixb_in h60) dX6_fill_317 (pc' := 318) rfl ?_
            obtain ⟨q61, h62, hF⟩ := Option.bind_eq_some_iff.mp hF
            refine A_callV C (av := [.int (s50 33 x53.toNatClampNeg)]) (rest := []) (st2 := []) (k2 := 0) (n2 := 0) (F_X6_out_ok hu h62) mk_X6_out lm_X6_135 wi_X6_out wv_X6_out (HPg_21 s50 o) rfl rfl rfl rfl ⟨by decide, by decide⟩ (Nat.le_of_ble_eq_true rfl) rfl rfl dX6_fill_318 rfl rfl rfl (pc' := 321) rfl ?_
            refine A_goto C dX6_fill_321 (tgt := 110) (by decide) ?_
            refine A_mask [true, true, true, true, true, true, false, false, false] (lv' := [some (.ref 21), some (.int b1), some (.int b2), some (.int x53), some (.int x58), some (.int x47), none, none, none]) rfl ?_
            exact ih b1 b2 x53 x58 x47 q61 q hF hexit
      · rw [if_neg c51] at hF
        obtain ⟨x63, e64, hF⟩ := bnd_some hF
        refine A_iinc C (lv' := [some (.ref 21), some (.int b1), some (.int b2), some (.int x63), some (.int x46), some (.int x47), some (.int x48), some (.int x49), none]) dX6_fill_234 rfl (by rw [e64]; rfl) rfl eN rfl rfl (pc' := 237) rfl ?_
        refine A_iload_n C dX6_fill_237 rfl (pc' := 238) rfl ?_
        refine A_iload_n C dX6_fill_238 rfl (pc' := 239) rfl ?_
        refine A_icmp_ge C dX6_fill_239 (tgt := 263) (by decide) (pc' := 242) rfl (fun c65 => ?_) (fun c65 => ?_)
        · rw [if_pos c65] at hF
          refine A_iconst C (x := 0) dX6_fill_263 (by decide) (pc' := 264) rfl ?_
          refine A_mask [true, true, true, true, true, true, false, false, false] (lv' := [some (.ref 21), some (.int b1), some (.int b2), some (.int x63), some (.int x46), some (.int x47), none, none, none]) rfl ?_
          exact hJ264 x63 x46 x47 (0 : Int32) s50 hF
        · rw [if_neg c65] at hF
          refine A_aload_n C dX6_fill_242 rfl (pc' := 243) rfl ?_
          refine A_get C (j := 16) cl_X6 rfl rfl lf_X6_44 dX6_fill_243 (HPg_21 s50 o) rfl (pc' := 246) rfl ?_
          refine A_iload_n C dX6_fill_246 rfl (pc' := 247) rfl ?_
          obtain ⟨h66, hF⟩ := grd_some hF
          refine A_iald C (HPg_33 s50 o) (ixb_in h66) dX6_fill_247 (pc' := 248) rfl ?_
          obtain ⟨q67, h68, hF⟩ := Option.bind_eq_some_iff.mp hF
          refine A_callS C (av := [.int (s50 33 x63.toNatClampNeg)]) (rest := []) (st2 := [.int q67]) (k2 := 0) (n2 := 0) (F_X6_lessonOf_ok hu h68) mk_X6_lessonOf lm_X6_79 ws_X6_lessonOf rfl rfl rfl ⟨by decide, by decide⟩ (Nat.le_of_ble_eq_true rfl) rfl rfl dX6_fill_248 rfl rfl rfl (pc' := 251) rfl ?_
          refine A_iload C dX6_fill_251 rfl (pc' := 253) rfl ?_
          obtain ⟨q69, h70, hF⟩ := Option.bind_eq_some_iff.mp hF
          refine A_callS C (av := [.int x48]) (rest := [.int q67]) (st2 := [.int q69, .int q67]) (k2 := 0) (n2 := 0) (F_X6_lessonOf_ok hu h70) mk_X6_lessonOf lm_X6_79 ws_X6_lessonOf rfl rfl rfl ⟨by decide, by decide⟩ (Nat.le_of_ble_eq_true rfl) rfl rfl dX6_fill_253 rfl rfl rfl (pc' := 256) rfl ?_
          refine A_icmp_ne C dX6_fill_256 (tgt := 263) (by decide) (pc' := 259) rfl (fun c71 => ?_) (fun c71 => ?_)
          · rw [if_neg c71] at hF
            refine A_iconst C (x := 0) dX6_fill_263 (by decide) (pc' := 264) rfl ?_
            refine A_mask [true, true, true, true, true, true, false, false, false] (lv' := [some (.ref 21), some (.int b1), some (.int b2), some (.int x63), some (.int x46), some (.int x47), none, none, none]) rfl ?_
            exact hJ264 x63 x46 x47 (0 : Int32) s50 hF
          · rw [if_pos c71] at hF
            refine A_iconst C (x := 1) dX6_fill_259 (by decide) (pc' := 260) rfl ?_
            refine A_goto C dX6_fill_260 (tgt := 264) (by decide) ?_
            refine A_mask [true, true, true, true, true, true, false, false, false] (lv' := [some (.ref 21), some (.int b1), some (.int b2), some (.int x63), some (.int x46), some (.int x47), none, none, none]) rfl ?_
            exact hJ264 x63 x46 x47 (1 : Int32) s50 hF
    clear eJ229
    refine A_iload_n C dX6_fill_110 rfl (pc' := 111) rfl ?_
    refine A_if_lt C dX6_fill_111 (tgt := 324) (by decide) (pc' := 114) rfl (fun c72 => ?_) (fun c72 => ?_)
    · rw [if_pos c72] at hF
      cases hF
      refine A_mask [true, false, false, true, false, true, false, false, false] (lv' := [some (.ref 21), none, none, some (.int b3), none, some (.int b5), none, none, none]) rfl ?_
      exact hexit
    · rw [if_neg c72] at hF
      refine A_iload_n C dX6_fill_114 rfl (pc' := 115) rfl ?_
      refine A_iload_n C dX6_fill_115 rfl (pc' := 116) rfl ?_
      refine A_icmp_ge C dX6_fill_116 (tgt := 324) (by decide) (pc' := 119) rfl (fun c73 => ?_) (fun c73 => ?_)
      · rw [if_pos c73] at hF
        cases hF
        refine A_mask [true, false, false, true, false, true, false, false, false] (lv' := [some (.ref 21), none, none, some (.int b3), none, some (.int b5), none, none, none]) rfl ?_
        exact hexit
      · rw [if_neg c73] at hF
        refine A_iload C dX6_fill_119 rfl (pc' := 121) rfl ?_
        refine A_if_ne C dX6_fill_121 (tgt := 324) (by decide) (pc' := 124) rfl (fun c74 => ?_) (fun c74 => ?_)
        · rw [if_neg c74] at hF
          cases hF
          refine A_mask [true, false, false, true, false, true, false, false, false] (lv' := [some (.ref 21), none, none, some (.int b3), none, some (.int b5), none, none, none]) rfl ?_
          exact hexit
        · rw [if_pos c74] at hF
          refine A_aload_n C dX6_fill_124 rfl (pc' := 125) rfl ?_
          refine A_get C (j := 16) cl_X6 rfl rfl lf_X6_44 dX6_fill_125 (HPg_21 s o) rfl (pc' := 128) rfl ?_
          refine A_iload_n C dX6_fill_128 rfl (pc' := 129) rfl ?_
          obtain ⟨h75, hF⟩ := grd_some hF
          refine A_iald C (HPg_33 s o) (ixb_in h75) dX6_fill_129 (pc' := 130) rfl ?_
          obtain ⟨x76, e77, hF⟩ := bnd_some hF
          refine A_topi e77 ?_
          refine A_istore C (lv' := [some (.ref 21), some (.int b1), some (.int b2), some (.int b3), some (.int b4), some (.int b5), some (.int x76), none, none]) dX6_fill_130 rfl eN rfl rfl (pc' := 132) rfl ?_
          refine A_iconst C (x := 0) dX6_fill_132 (by decide) (pc' := 133) rfl ?_
          refine A_istore C (lv' := [some (.ref 21), some (.int b1), some (.int b2), some (.int b3), some (.int b4), some (.int b5), some (.int x76), some (.int (0 : Int32)), none]) dX6_fill_133 rfl eN rfl rfl (pc' := 135) rfl ?_
          obtain ⟨q96, h97, hF⟩ := Option.bind_eq_some_iff.mp hF
          refine A_mask [true, true, true, true, true, true, true, true, false] (lv' := [some (.ref 21), some (.int b1), some (.int b2), some (.int b3), some (.int b4), some (.int b5), some (.int x76), some (.int (0 : Int32)), none]) rfl ?_
          refine L_X6_fill_135_ok hu eN C FU b1 b2 b3 b4 b5 x76 (0 : Int32) s q96 h97 ?_
          refine A_mask [true, true, true, true, true, true, true, true, false] (lv' := [some (.ref 21), some (.int b1), some (.int b2), some (.int b3), some (.int q96.1), some (.int q96.2.1), some (.int x76), some (.int q96.2.2.1), none]) rfl ?_
          exact hJ229 b3 q96.1 q96.2.1 x76 q96.2.2.1 q96.2.2.2 hF
set_option maxHeartbeats 4000000 in
set_option maxRecDepth 100000 in
theorem F_X6_fill_ok {u : Uv} (hu : Un u) {a0 : Int32} {s : Sg} {o : Nat → Int64} {r : (Int32 × Sg)} (hF : F_X6_fill a0 s = some r) : AM u (yX6_fill, cX6_fill, 9, (some .int)) 6 0 0 [.ref 21, .int a0] (HP s o) (some (.int r.1)) (HP r.2 o) := by
  refine AM.of hu (lv := [some (.ref 21), some (.int a0), none, none, none, none, none, none, none]) (by decide) rfl (Nat.le_of_ble_eq_true rfl) rfl ?_
  intro Γ eu eN C T
  subst eu
  have C : Cok Γ cX6_fill RX6 (some .int) 6 0 0 := C
  unfold F_X6_fill at hF
  obtain ⟨J337, eJ337, hF⟩ := jn_some hF
  have hJ337 : ∀ (x1 : Int32) (x2 : Int32) (s3 : Sg), J337 x1 x2 s3 = some r → AW Γ (HP s3 o) 0 0 [some (.ref 21), none, none, some (.int x1), none, some (.int x2), none, none, none] [] 337 := by
    intro x1 x2 s3 hF
    rw [eJ337] at hF
    dsimp only at hF
    refine A_aload_n C dX6_fill_337 rfl (pc' := 338) rfl ?_
    obtain ⟨q4, h5, hF⟩ := Option.bind_eq_some_iff.mp hF
    refine A_callV C (av := []) (rest := []) (st2 := []) (k2 := 0) (n2 := 0) (F_X6_note_ok hu h5) mk_X6_note lm_X6_132 wi_X6_note wv_X6_note (HPg_21 s3 o) rfl rfl rfl rfl ⟨by decide, by decide⟩ (Nat.le_of_ble_eq_true rfl) rfl rfl dX6_fill_338 rfl rfl rfl (pc' := 341) rfl ?_
    refine A_iload C dX6_fill_341 rfl (pc' := 343) rfl ?_
    refine A_if_eq C dX6_fill_343 (tgt := 350) (by decide) (pc' := 346) rfl (fun c6 => ?_) (fun c6 => ?_)
    · rw [if_pos c6] at hF
      refine A_iload_n C dX6_fill_350 rfl (pc' := 351) rfl ?_
      refine A_if_ge C dX6_fill_351 (tgt := 358) (by decide) (pc' := 354) rfl (fun c7 => ?_) (fun c7 => ?_)
      · rw [if_pos c7] at hF
        refine A_iconst C (x := 1) dX6_fill_358 (by decide) (pc' := 359) rfl ?_
        cases hF
        exact A_iret C T (Nat.le_refl _) (Nat.le_refl _) dX6_fill_359
      · rw [if_neg c7] at hF
        refine A_iconst C (x := 0) dX6_fill_354 (by decide) (pc' := 355) rfl ?_
        refine A_goto C dX6_fill_355 (tgt := 359) (by decide) ?_
        cases hF
        exact A_iret C T (Nat.le_refl _) (Nat.le_refl _) dX6_fill_359
    · rw [if_neg c6] at hF
      refine A_iconst C (x := 2) dX6_fill_346 (by decide) (pc' := 347) rfl ?_
      refine A_goto C dX6_fill_347 (tgt := 359) (by decide) ?_
      cases hF
      exact A_iret C T (Nat.le_refl _) (Nat.le_refl _) dX6_fill_359
  clear eJ337
  obtain ⟨J17, eJ17, hF⟩ := jn_some hF
  have hJ17 : ∀ (y8 : Int32) (s9 : Sg), J17 y8 s9 = some r → AW Γ (HP s9 o) 0 0 [some (.ref 21), some (.int a0), none, none, none, none, none, none, none] [.int y8, .ref 21] 17 := by
    intro y8 s9 hF
    rw [eJ17] at hF
    dsimp only at hF
    refine A_iconst C (x := 0) dX6_fill_17 (by decide) (pc' := 18) rfl ?_
    obtain ⟨q10, h11, hF⟩ := Option.bind_eq_some_iff.mp hF
    refine A_callV C (av := [.int y8, .int (0 : Int32)]) (rest := []) (st2 := [.int q10.1]) (k2 := 0) (n2 := 0) (F_X6_throwing_ok hu h11) mk_X6_throwing lm_X6_90 wi_X6_throwing wv_X6_throwing (HPg_21 s9 o) rfl rfl rfl rfl ⟨by decide, by decide⟩ (Nat.le_of_ble_eq_true rfl) rfl rfl dX6_fill_18 rfl rfl rfl (pc' := 21) rfl ?_
    refine A_if_eq C dX6_fill_21 (tgt := 26) (by decide) (pc' := 24) rfl (fun c12 => ?_) (fun c12 => ?_)
    · rw [if_pos c12] at hF
      refine A_aload_n C dX6_fill_26 rfl (pc' := 27) rfl ?_
      obtain ⟨q13, h14, hF⟩ := Option.bind_eq_some_iff.mp hF
      refine A_callV C (av := []) (rest := []) (st2 := []) (k2 := 0) (n2 := 0) (F_X6_keep_ok hu h14) mk_X6_keep lm_X6_125 wi_X6_keep wv_X6_keep (HPg_21 q10.2 o) rfl rfl rfl rfl ⟨by decide, by decide⟩ (Nat.le_of_ble_eq_true rfl) rfl rfl dX6_fill_27 rfl rfl rfl (pc' := 30) rfl ?_
      refine A_iconst C (x := 0) dX6_fill_30 (by decide) (pc' := 31) rfl ?_
      refine A_istore_n C (lv' := [some (.ref 21), some (.int a0), some (.int (0 : Int32)), none, none, none, none, none, none]) dX6_fill_31 rfl eN rfl rfl (pc' := 32) rfl ?_
      refine A_iconst C (x := 0) dX6_fill_32 (by decide) (pc' := 33) rfl ?_
      refine A_istore_n C (lv' := [some (.ref 21), some (.int a0), some (.int (0 : Int32)), some (.int (0 : Int32)), none, none, none, none, none]) dX6_fill_33 rfl eN rfl rfl (pc' := 34) rfl ?_
      obtain ⟨q33, h34, hF⟩ := Option.bind_eq_some_iff.mp hF
      refine A_mask [true, true, true, true, false, false, false, false, false] (lv' := [some (.ref 21), some (.int a0), some (.int (0 : Int32)), some (.int (0 : Int32)), none, none, none, none, none]) rfl ?_
      refine L_X6_fill_34_ok hu eN C FU a0 (0 : Int32) (0 : Int32) q13 q33 h34 ?_
      refine A_aload_n C dX6_fill_97 rfl (pc' := 98) rfl ?_
      refine A_iconst C (x := 0) dX6_fill_98 (by decide) (pc' := 99) rfl ?_
      obtain ⟨s35, e36, hF⟩ := bnd_some hF
      refine A_put C (j := 15) (h1 := HP s35 o) tyX6 tyX6_ok nmX6 cl_X6 rfl rfl lf_X6_139 rfl (tyX6_ok 15 (by decide)) (fun _ => rfl) (fun _ => rfl) rfl dX6_fill_99 (HPg_21 q33.2 o) (by rw [e36]; exact HPp_21_15 q33.2 o _) (pc' := 102) rfl ?_
      refine A_iconst C (x := 0) dX6_fill_102 (by decide) (pc' := 103) rfl ?_
      refine A_istore_n C (lv' := [some (.ref 21), some (.int a0), some (.int q33.1), some (.int (0 : Int32)), none, none, none, none, none]) dX6_fill_103 rfl eN rfl rfl (pc' := 104) rfl ?_
      refine A_iconst C (x := 0) dX6_fill_104 (by decide) (pc' := 105) rfl ?_
      refine A_istore C (lv' := [some (.ref 21), some (.int a0), some (.int q33.1), some (.int (0 : Int32)), some (.int (0 : Int32)), none, none, none, none]) dX6_fill_105 rfl eN rfl rfl (pc' := 107) rfl ?_
      refine A_iconst C (x := 0) dX6_fill_107 (by decide) (pc' := 108) rfl ?_
      refine A_istore C (lv' := [some (.ref 21), some (.int a0), some (.int q33.1), some (.int (0 : Int32)), some (.int (0 : Int32)), some (.int (0 : Int32)), none, none, none]) dX6_fill_108 rfl eN rfl rfl (pc' := 110) rfl ?_
      obtain ⟨q98, h99, hF⟩ := Option.bind_eq_some_iff.mp hF
      refine A_mask [true, true, true, true, true, true, false, false, false] (lv' := [some (.ref 21), some (.int a0), some (.int q33.1), some (.int (0 : Int32)), some (.int (0 : Int32)), some (.int (0 : Int32)), none, none, none]) rfl ?_
      refine L_X6_fill_110_ok hu eN C FU a0 q33.1 (0 : Int32) (0 : Int32) (0 : Int32) s35 q98 h99 ?_
      refine A_iload C dX6_fill_324 rfl (pc' := 326) rfl ?_
      refine A_if_ne C dX6_fill_326 (tgt := 333) (by decide) (pc' := 329) rfl (fun c100 => ?_) (fun c100 => ?_)
      · rw [if_neg c100] at hF
        refine A_aload_n C dX6_fill_333 rfl (pc' := 334) rfl ?_
        obtain ⟨q101, h102, hF⟩ := Option.bind_eq_some_iff.mp hF
        refine A_callV C (av := []) (rest := []) (st2 := []) (k2 := 0) (n2 := 0) (F_X6_restore_ok hu h102) mk_X6_restore lm_X6_142 wi_X6_restore wv_X6_restore (HPg_21 q98.2.2 o) rfl rfl rfl rfl ⟨by decide, by decide⟩ (Nat.le_of_ble_eq_true rfl) rfl rfl dX6_fill_334 rfl rfl rfl (pc' := 337) rfl ?_
        refine A_mask [true, false, false, true, false, true, false, false, false] (lv' := [some (.ref 21), none, none, some (.int q98.1), none, some (.int q98.2.1), none, none, none]) rfl ?_
        exact hJ337 q98.1 q98.2.1 q101 hF
      · rw [if_pos c100] at hF
        refine A_iload_n C dX6_fill_329 rfl (pc' := 330) rfl ?_
        refine A_if_ge C dX6_fill_330 (tgt := 337) (by decide) (pc' := 333) rfl (fun c103 => ?_) (fun c103 => ?_)
        · rw [if_pos c103] at hF
          refine A_mask [true, false, false, true, false, true, false, false, false] (lv' := [some (.ref 21), none, none, some (.int q98.1), none, some (.int q98.2.1), none, none, none]) rfl ?_
          exact hJ337 q98.1 q98.2.1 q98.2.2 hF
        · rw [if_neg c103] at hF
          refine A_aload_n C dX6_fill_333 rfl (pc' := 334) rfl ?_
          obtain ⟨q104, h105, hF⟩ := Option.bind_eq_some_iff.mp hF
          refine A_callV C (av := []) (rest := []) (st2 := []) (k2 := 0) (n2 := 0) (F_X6_restore_ok hu h105) mk_X6_restore lm_X6_142 wi_X6_restore wv_X6_restore (HPg_21 q98.2.2 o) rfl rfl rfl rfl ⟨by decide, by decide⟩ (Nat.le_of_ble_eq_true rfl) rfl rfl dX6_fill_334 rfl rfl rfl (pc' := 337) rfl ?_
          refine A_mask [true, false, false, true, false, true, false, false, false] (lv' := [some (.ref 21), none, none, some (.int q98.1), none, some (.int q98.2.1), none, none, none]) rfl ?_
          exact hJ337 q98.1 q98.2.1 q104 hF
    · rw [if_neg c12] at hF
      refine A_iconst C (x := 0) dX6_fill_24 (by decide) (pc' := 25) rfl ?_
      cases hF
      exact A_iret C T (Nat.le_refl _) (Nat.le_refl _) dX6_fill_25
  clear eJ17
  refine A_aload_n C dX6_fill_0 rfl (pc' := 1) rfl ?_
  refine A_iload_n C dX6_fill_1 rfl (pc' := 2) rfl ?_
  refine A_iconst C (x := 1) dX6_fill_2 (by decide) (pc' := 3) rfl ?_
  refine A_sipush C (x := 20000) dX6_fill_3 (by decide) (pc' := 6) rfl ?_
  obtain ⟨q106, h107, hF⟩ := Option.bind_eq_some_iff.mp hF
  refine A_callS C (av := [.int a0, .int (1 : Int32), .int (20000 : Int32)]) (rest := [.ref 21]) (st2 := [.int q106, .ref 21]) (k2 := 0) (n2 := 0) (F_X6_in_ok hu h107) mk_X6_in lm_X6_72 ws_X6_in rfl rfl rfl ⟨by decide, by decide⟩ (Nat.le_of_ble_eq_true rfl) rfl rfl dX6_fill_6 rfl rfl rfl (pc' := 9) rfl ?_
  refine A_if_ne C dX6_fill_9 (tgt := 16) (by decide) (pc' := 12) rfl (fun c108 => ?_) (fun c108 => ?_)
  · rw [if_neg c108] at hF
    refine A_iconst C (x := 0) dX6_fill_16 (by decide) (pc' := 17) rfl ?_
    refine A_mask [true, true, false, false, false, false, false, false, false] (lv' := [some (.ref 21), some (.int a0), none, none, none, none, none, none, none]) rfl ?_
    exact hJ17 (0 : Int32) s hF
  · rw [if_pos c108] at hF
    refine A_iconst C (x := 1) dX6_fill_12 (by decide) (pc' := 13) rfl ?_
    refine A_goto C dX6_fill_13 (tgt := 17) (by decide) ?_
    refine A_mask [true, true, false, false, false, false, false, false, false] (lv' := [some (.ref 21), some (.int a0), none, none, none, none, none, none, none]) rfl ?_
    exact hJ17 (1 : Int32) s hF
