theorem lm_L_61 : wOk (.methodLink RL 61 yL_cell) = true := by decide +kernel
theorem ws_L_cell : wOk (.static yL_cell) = true := by decide +kernel
theorem lm_L_67 : wOk (.methodLink RL 67 yX5_init) = true := by decide +kernel
theorem wi_X5_init : wOk (.instanceMethod yX5_init) = true := by decide +kernel
theorem lm_L_71 : wOk (.methodLink RL 71 yX6_init) = true := by decide +kernel
theorem wi_X6_init : wOk (.instanceMethod yX6_init) = true := by decide +kernel
theorem lc_L_8 : wOk (.classLink RL 8 RX5) = true := by decide +kernel
theorem wn_X5 : wOk (.instantiable RX5 4) = true := by decide +kernel
theorem wz_X5 : wOk (.initialized RX5) = true := by decide +kernel
theorem lc_L_69 : wOk (.classLink RL 69 RX6) = true := by decide +kernel
theorem wn_X6 : wOk (.instantiable RX6 24) = true := by decide +kernel
theorem wz_X6 : wOk (.initialized RX6) = true := by decide +kernel
theorem wa_long : wOk (.arrayClass (newarray.typeOf .long)) = true := by decide +kernel
/-- the state behind both constructors -/
def S0 (dv pv f1 : Int32) (q1 q2 q3 : Nat → Int32) : Sg := fun c =>
  if c = 900 then fun _ => dv else if c = 901 then fun _ => pv else if c = 902 then fun _ => dv * pv else if c = 903 then fun _ => f1 else if c = 904 then fun _ => f1 <<< ((pv - 1) &&& 31)
  else if c = 20 then q1 else if c = 2201 then fun _ => dv else if c = 2202 then fun _ => pv else if c = 30 then q2 else if c = 31 then q3 else z0
set_option maxHeartbeats 8000000 in
set_option maxRecDepth 100000 in
theorem S0_heap (d9 p9 f1 : Int32) (q1 : Nat → Int32) (q : (Nat → Int32) × (Nat → Int32)) : HM d9 p9 f1 d9 p9 q1 q.1 q.2 ++ [.inl (1, 1, .inr (.inl (fun _ => 0)))] = HP (S0 d9 p9 f1 q1 q.1 q.2) (fun _ => 0) := rfl
set_option maxHeartbeats 4000000 in
set_option maxRecDepth 100000 in
theorem law_start {Γ : Cx} (hu : Un Γ.2.1) (eN : 7 = Γ.2.2.2.2.2) (C : Cok Γ cL_law RL (some .boolean) 10 1086 13806) {Inv : Sg → Prop} (hPA : PAll Inv) (hL : Γ.2.1.2.2.2.1 ≤ 3586)
    (hend : ∀ (h : List va_E) (k n : Nat) (lv : List (Option Value)), k ≤ 1086 → n ≤ 13806 → AW Γ h k n lv [.int 1] 1067)
    {c0 c1 f1 : Int32} {q1 : Nat → Int32} {q : (Nat → Int32) × (Nat → Int32)} (hc0 : ∀ {h : List va_E}, AM Γ.2.1 (yL_cell, cL_cell, 2, (some .int)) 0 0 0 [.ref SCR, .int 0] h (some (.int c0)) h) (hc1 : ∀ {h : List va_E}, AM Γ.2.1 (yL_cell, cL_cell, 2, (some .int)) 0 0 0 [.ref SCR, .int 1] h (some (.int c1)) h)
    (hF1 : Lfst FU (dayv c0) (perv c1) 0 0 = some f1) (hF2 : Lfil 64 FU (-1) 0 64 z0 = some q1) (hF3 : Lmod FU 0 z0 z0 = some q) (hI : Inv (S0 (dayv c0) (perv c1) f1 q1 q.1 q.2)) : AW Γ [] 0 0 [some (.ref SCR), none, none, none, none, none, none] [] 0 := by
  refine A_new C (id := 0) (h1 := [.inr (5, [.null, .null, .null, .null])]) (ci := 5) (fs0 := [.null, .null, .null, .null]) tyX5 tyX5_ok cl_X5 rfl lc_L_8 wn_X5 wz_X5 (fun j hj => by rcases (show j = 0 ∨ j = 1 ∨ j = 2 ∨ j = 3 by omega) with rfl | rfl | rfl | rfl <;> rfl) (fun _ => rfl) rfl rfl rfl rfl rfl ⟨by decide, by decide⟩ dL_law_0 rfl rfl (pc' := 3) rfl ?_
  refine A_widen (k1 := 1) (n1 := 4) (Nat.le_refl _) (Nat.le_refl _) ?_
  refine A_dup C dL_law_3 rfl (pc' := 4) rfl ?_
  refine A_aload_n C dL_law_4 rfl (pc' := 5) rfl ?_
  refine A_iconst C (x := 0) dL_law_5 (by decide) (pc' := 6) rfl ?_
  refine A_callS C (av := [.ref SCR, .int 0]) (rest := [.ref 0, .ref 0]) (st2 := [.int c0, .ref 0, .ref 0]) (k2 := 1) (n2 := 4) hc0 mk_L_cell lm_L_61 ws_L_cell rfl rfl rfl ⟨by decide, by decide⟩ (Nat.le_of_ble_eq_true rfl) rfl rfl dL_law_6 rfl rfl rfl (pc' := 9) rfl ?_
  refine A_aload_n C dL_law_9 rfl (pc' := 10) rfl ?_
  refine A_iconst C (x := 1) dL_law_10 (by decide) (pc' := 11) rfl ?_
  refine A_callS C (av := [.ref SCR, .int 1]) (rest := [.int c0, .ref 0, .ref 0]) (st2 := [.int c1, .int c0, .ref 0, .ref 0]) (k2 := 1) (n2 := 4) hc1 mk_L_cell lm_L_61 ws_L_cell rfl rfl rfl ⟨by decide, by decide⟩ (Nat.le_of_ble_eq_true rfl) rfl rfl dL_law_11 rfl rfl rfl (pc' := 14) rfl ?_
  refine A_callI C (av := [.int c0, .int c1]) (rest := [.ref 0]) (st2 := [.ref 0]) (k2 := 21) (n2 := 1735) (rv := none) (h' := (HD (dayv c0) (perv c1) f1 q1)) (K_X5 (a0 := c0) (a1 := c1) (f1 := f1) (q1 := q1) hu hF1 hF2) mk_X5_init lm_L_67 wi_X5_init rfl rfl rfl rfl ⟨by decide, by decide⟩ (Nat.le_of_ble_eq_true rfl) rfl rfl dL_law_14 rfl rfl rfl (pc' := 17) rfl ?_
  refine A_astore_n C (lv' := [some (.ref SCR), some (.ref 0), none, none, none, none, none]) dL_law_17 rfl eN rfl rfl (pc' := 18) rfl ?_
  refine A_new C (id := 21) (h1 := (HDm (dayv c0) (perv c1) f1 q1)) (ci := 6) (fs0 := [.int 0, .int 0, .int 0, .null, .int 0, .null, .null, .null, .null, .null, .null, .null, .null, .null, .null, .int 0, .null, .null, .null, .null, .null, .int 0, .null, .int 0]) tyX6 tyX6_ok cl_X6 rfl lc_L_69 wn_X6 wz_X6 (fun j hj => by rcases (show j = 0 ∨ j = 1 ∨ j = 2 ∨ j = 3 ∨ j = 4 ∨ j = 5 ∨ j = 6 ∨ j = 7 ∨ j = 8 ∨ j = 9 ∨ j = 10 ∨ j = 11 ∨ j = 12 ∨ j = 13 ∨ j = 14 ∨ j = 15 ∨ j = 16 ∨ j = 17 ∨ j = 18 ∨ j = 19 ∨ j = 20 ∨ j = 21 ∨ j = 22 ∨ j = 23 by omega) with rfl | rfl | rfl | rfl | rfl | rfl | rfl | rfl | rfl | rfl | rfl | rfl | rfl | rfl | rfl | rfl | rfl | rfl | rfl | rfl | rfl | rfl | rfl | rfl <;> rfl) (fun _ => rfl) rfl rfl rfl rfl rfl ⟨by decide, by decide⟩ dL_law_18 rfl rfl (pc' := 21) rfl ?_
  refine A_widen (k1 := 22) (n1 := 1759) (Nat.le_refl _) (Nat.le_refl _) ?_
  refine A_dup C dL_law_21 rfl (pc' := 22) rfl ?_
  refine A_aload_n C dL_law_22 rfl (pc' := 23) rfl ?_
  refine A_iconst C (x := 0) dL_law_23 (by decide) (pc' := 24) rfl ?_
  refine A_callS C (av := [.ref SCR, .int 0]) (rest := [.ref 21, .ref 21]) (st2 := [.int c0, .ref 21, .ref 21]) (k2 := 22) (n2 := 1759) hc0 mk_L_cell lm_L_61 ws_L_cell rfl rfl rfl ⟨by decide, by decide⟩ (Nat.le_of_ble_eq_true rfl) rfl rfl dL_law_24 rfl rfl rfl (pc' := 27) rfl ?_
  refine A_aload_n C dL_law_27 rfl (pc' := 28) rfl ?_
  refine A_iconst C (x := 1) dL_law_28 (by decide) (pc' := 29) rfl ?_
  refine A_callS C (av := [.ref SCR, .int 1]) (rest := [.int c0, .ref 21, .ref 21]) (st2 := [.int c1, .int c0, .ref 21, .ref 21]) (k2 := 22) (n2 := 1759) hc1 mk_L_cell lm_L_61 ws_L_cell rfl rfl rfl ⟨by decide, by decide⟩ (Nat.le_of_ble_eq_true rfl) rfl rfl dL_law_29 rfl rfl rfl (pc' := 32) rfl ?_
  refine A_callI C (av := [.int c0, .int c1]) (rest := [.ref 21]) (st2 := [.ref 21]) (k2 := 39) (n2 := 5481) (rv := none) (h' := (HM (dayv c0) (perv c1) f1 (dayv c0) (perv c1) q1 q.1 q.2)) (K_X6 (a0 := c0) (a1 := c1) (f1 := f1) (d9 := dayv c0) (p9 := perv c1) (q1 := q1) (q := q) hu hF3) mk_X6_init lm_L_71 wi_X6_init rfl rfl rfl rfl ⟨by decide, by decide⟩ (Nat.le_of_ble_eq_true rfl) rfl rfl dL_law_32 rfl rfl rfl (pc' := 35) rfl ?_
  refine A_astore_n C (lv' := [some (.ref SCR), some (.ref 0), some (.ref 21), none, none, none, none]) dL_law_35 rfl eN rfl rfl (pc' := 36) rfl ?_
  refine A_iconst C (x := 1) dL_law_36 (by decide) (pc' := 37) rfl ?_
  refine A_newa C (id := 39) (h1 := (HP (S0 (dayv c0) (perv c1) f1 q1 q.1 q.2) (fun _ => 0))) (tix := 1) (ty := .long) (M := 1) (a0 := (1, .inr (.inl (fun _ => 0)))) rfl wa_long (fun _ => rfl) (fun _ _ z => z) (fun _ => rfl) (by decide) (by decide) (by decide) rfl rfl rfl rfl ⟨by decide, by decide⟩ dL_law_37 rfl (S0_heap (dayv c0) (perv c1) f1 q1 q) (pc' := 39) rfl ?_
  refine A_widen (k1 := 40) (n1 := 5482) (Nat.le_refl _) (Nat.le_refl _) ?_
  refine A_astore_n C (lv' := [some (.ref SCR), some (.ref 0), some (.ref 21), some (.ref 39), none, none, none]) dL_law_39 rfl eN rfl rfl (pc' := 40) rfl ?_
  refine A_iconst C (x := 2) dL_law_40 (by decide) (pc' := 41) rfl ?_
  refine A_topi (y := nI (2 + 7 * 0)) (by decide) ?_
  refine A_istore C (lv' := [some (.ref SCR), some (.ref 0), some (.ref 21), some (.ref 39), some (.int (nI (2 + 7 * 0))), none, none]) dL_law_41 rfl eN rfl rfl (pc' := 43) rfl ?_
  exact law_loop hu eN C hPA hL hend 513 0 rfl _ _ 40 5482 hI (by decide) (by decide)
/-! THE CLAIM OUT OF ONE WALK OF THE LAW'S BODY. Your part is whole_start (and what it stands on); all else here is the same for every law, but numbers. -/
def R_law : String := "TimetableDeskLaw"
def lw_P (b : Addr) (xs : List Int32) (args : Array Value) (s : State) : Prop := args = #[.ref b] ∧ s.IntsAt b xs ∧ xs.length ≤ 3586 ∧ (Jvm.Cond.and given_1 narrow_1).before args s = true
def lw_Q (_ : Array Value) (s : State) (o : Outcome) (t : State) : Prop := o = .returned (some (.int 1)) ∧ Framed s o t [] 1086 13806
def lw_Z (below : List Frame) (a : Array Value) (s : State) : State → Prop := fun t => ∃ o, t.status = .running ∧ Ended t below o ∧ lw_Q a s o t
/-- the law's own end, with 1 on the stack, nothing written that was there before, its room as the claim has it -/
theorem lw_ret {p : Program} {l : Launch} {e : Env} {s : State} {m : MethodId} {below : List Frame} {meth : Method} {c : Code} {b : Nat} (hx : p.tables.exec = Jvm.exec) (hb : c.code = code) (hr : meth.sig.returnType = ret) (hlocks : meth.locks = false) {pc : Nat} {H : Heap} {ls : Array Slot} (hdg : decode code pc = .ok (.ireturn, 1)) : W p l e room_1 s m #[Value.ref b] below meth c H [] 1086 13806 (lw_Z below #[Value.ref b] s) (F0 m pc ls [.int 1]) := by
  intro T hT X
  obtain ⟨fs, hret, hrun, hended, hW, hframe⟩ := X.leave (v := some (.int 1)) (hlocks := hlocks) (fun h => by rw [hr] at h; cases h)
  have hmeth' : T.vm.method? m = some meth := X.method'
  refine ⟨T.setFrames fs, ?_, .returned (some (.int 1)), hrun, hended, rfl, ⟨_, rfl⟩, hW, hframe⟩
  jvm_step X.here [X.here.top, hx, hb, hdg, hmeth', hr, ret, narrow_b1]
  (try refine ⟨rfl, ?_⟩); (try refine ⟨rfl, ?_⟩)
  first | (intro acts; rw [hret _ acts rfl rfl rfl]) | rw [hret _ _ rfl rfl rfl]
  exact Steps.refl _
/-- what holds at the law's entry: the machine, the code, the tables' words (any of lw_tbl by 'hts w (by decide +kernel)'), the script of L ints xs at the cell b, what the Statement gives of the start (any of its parts by flat_of_before) -/
def lw_At (p : Program) (s : State) (m : MethodId) (meth : Method) (c : Code) (b L : Nat) (xs : Nat → Int32) : Prop :=
  p.tables.exec = Jvm.exec ∧ c.code = code ∧ meth.sig.returnType = ret ∧ c.maxLocals = 7 ∧ s.vm.findClass R_law = some m.cls ∧ (∀ w ∈ lw_tbl, w.before #[Value.ref b] s = true) ∧ va_X b L xs s s.heap ∧ b < s.heap.size ∧ meth.locks = false ∧ (Jvm.Cond.and given_1 narrow_1).before #[Value.ref b] s = true

/-- the law, from its entry, over any invariant that its fifteen steps keep -/
def Start (Inv : Sg → Prop) : Prop := ∀ c0 c1 : Int32, ∃ (f1 : Int32) (q1 : Nat → Int32) (q : (Nat → Int32) × (Nat → Int32)), Lfst FU (dayv c0) (perv c1) 0 0 = some f1 ∧ Lfil 64 FU (-1) 0 64 z0 = some q1 ∧ Lmod FU 0 z0 z0 = some q ∧ Inv (S0 (dayv c0) (perv c1) f1 q1 q.1 q.2)
theorem arrK {s : State} {ty : FieldType} {args : Array Value} (h : (Cond.arrayClass ty).before args s = true) : ∃ cA : ClassId, ArrOfT s cA ty ∧ s.vm.findClass ("[" ++ ty.toString) = some cA := by
  obtain ⟨c, k, comp, h1, h2, h3⟩ := Cond.arrayClass_spec (args := args) (first := s) (o := none) (s := s) (idx := []) h
  exact ⟨c, fun N z => ⟨(fun k h => by cases h), k, h2, comp, h3⟩, h1⟩
set_option maxHeartbeats 8000000 in
set_option maxRecDepth 100000 in
theorem whole_start_open {Inv : Sg → Prop} (hPA : PAll Inv) (hSt : Start Inv) {p : Program} {e : Env} {s : State} {m : MethodId} {below : List Frame} {meth : Method} {c : Code} (l : Launch) (hl : l.stackTraces = false) {b L : Nat} {xs : Nat → Int32} (hL : L ≤ 3586) (C0 : lw_At p s m meth c b L xs) : W p l e room_1 s m #[Value.ref b] below meth c s.heap [] 0 0 (lw_Z below #[Value.ref b] s) (entryFrame m ([Value.ref b] : List Value).toArray 7) := by
  obtain ⟨hx, hb, hr, hml, hown, hts, hX, hbl, hlocks, hgv⟩ := id C0
  obtain ⟨c0, iS0, hKn0⟩ := u_known (C := RX0) (T := TX0) (N := 10) (n := 10) hts (fun w hw => by have := List.all_eq_true.mp cl_X0 w hw; rw [Bool.and_eq_true, decide_eq_true_eq] at this; exact this.1) (hts (.instantiable RX0 10) (by decide +kernel))
  obtain ⟨c1, iS1, hKn1⟩ := u_known (C := RX1) (T := TX1) (N := 2) (n := 2) hts (fun w hw => by have := List.all_eq_true.mp cl_X1 w hw; rw [Bool.and_eq_true, decide_eq_true_eq] at this; exact this.1) (hts (.instantiable RX1 2) (by decide +kernel))
  obtain ⟨c2, iS2, hKn2⟩ := u_known (C := RX2) (T := TX2) (N := 3) (n := 3) hts (fun w hw => by have := List.all_eq_true.mp cl_X2 w hw; rw [Bool.and_eq_true, decide_eq_true_eq] at this; exact this.1) (hts (.instantiable RX2 3) (by decide +kernel))
  obtain ⟨c3, iS3, hKn3⟩ := u_known (C := RX3) (T := TX3) (N := 8) (n := 8) hts (fun w hw => by have := List.all_eq_true.mp cl_X3 w hw; rw [Bool.and_eq_true, decide_eq_true_eq] at this; exact this.1) (hts (.instantiable RX3 8) (by decide +kernel))
  obtain ⟨c4, iS4, hKn4⟩ := u_known (C := RX4) (T := TX4) (N := 4) (n := 4) hts (fun w hw => by have := List.all_eq_true.mp cl_X4 w hw; rw [Bool.and_eq_true, decide_eq_true_eq] at this; exact this.1) (hts (.instantiable RX4 4) (by decide +kernel))
  obtain ⟨c5, iS5, hKn5⟩ := u_known (C := RX5) (T := TX5) (N := 4) (n := 4) hts (fun w hw => by have := List.all_eq_true.mp cl_X5 w hw; rw [Bool.and_eq_true, decide_eq_true_eq] at this; exact this.1) (hts (.instantiable RX5 4) (by decide +kernel))
  obtain ⟨c6, iS6, hKn6⟩ := u_known (C := RX6) (T := TX6) (N := 24) (n := 24) hts (fun w hw => by have := List.all_eq_true.mp cl_X6 w hw; rw [Bool.and_eq_true, decide_eq_true_eq] at this; exact this.1) (hts (.instantiable RX6 24) (by decide +kernel))
  obtain ⟨cI, aI1, aI2⟩ := arrK (hts (.arrayClass .int) (by decide +kernel))
  obtain ⟨cJ, aJ1, aJ2⟩ := arrK (hts (.arrayClass .long) (by decide +kernel))
  obtain ⟨cZ, aZ1, aZ2⟩ := arrK (hts (.arrayClass .boolean) (by decide +kernel))
  obtain ⟨dC, dI, hKc⟩ : ∃ (dC : Nat → ClassId) (dI : Nat → Nat → Nat), ∀ (k : Nat) (q : vw_C), vwCl[k]? = some q → u_Kn s q.1 q.2.1 q.2.2 (dC k) (dI k) := by
    refine ⟨fun k => if k = 0 then c0 else if k = 1 then c1 else if k = 2 then c2 else if k = 3 then c3 else if k = 4 then c4 else if k = 5 then c5 else c6, fun k => if k = 0 then iS0 else if k = 1 then iS1 else if k = 2 then iS2 else if k = 3 then iS3 else if k = 4 then iS4 else if k = 5 then iS5 else iS6, ?_⟩
    intro k q hq
    match k, hq with
    | 0, hq => cases hq; exact hKn0
    | 1, hq => cases hq; exact hKn1
    | 2, hq => cases hq; exact hKn2
    | 3, hq => cases hq; exact hKn3
    | 4, hq => cases hq; exact hKn4
    | 5, hq => cases hq; exact hKn5
    | 6, hq => cases hq; exact hKn6
    | k + 7, hq => simp [vwCl] at hq
  let tc : Nat → ClassId := fun k => if k = 0 then cI else if k = 1 then cJ else cZ
  have hK : va_K (dC, dI) vwCl (tyl tc) s := by
    refine ⟨hKc, fun k q h => ?_⟩
    match k, h with
    | 0, h => cases h; exact ⟨aI1, aI2⟩
    | 1, h => cases h; exact ⟨aJ1, aJ2⟩
    | 2, h => cases h; exact ⟨aZ1, aZ2⟩
    | k + 3, h => simp [tyl] at h
  have hnA : ∀ a : Nat, a < s.heap.size → ¬ A00 s a := fun a h z => Nat.not_le.mpr h z
  have hfl := flat_of_before _ hgv
  have hU1 : vx_Zq Bundle.tN "UNASSIGNED_STACK" Bundle.steD (A00 s) s s.heap := vx_Zqof (hts (.laysStatic Bundle.tN "UNASSIGNED_STACK" Bundle.steD) (by decide +kernel)) (hts (.initialized Bundle.tN) (by decide +kernel)) (hfl (.isRef (.static Bundle.tN "UNASSIGNED_STACK" Bundle.steD)) (by decide +kernel)) hnA
  have hU2 : vx_Zq Bundle.tN "SUPPRESSED_SENTINEL" Bundle.listD (A00 s) s s.heap := vx_Zqof (hts (.laysStatic Bundle.tN "SUPPRESSED_SENTINEL" Bundle.listD) (by decide +kernel)) (hts (.initialized Bundle.tN) (by decide +kernel)) (hfl (.isRef (.static Bundle.tN "SUPPRESSED_SENTINEL" Bundle.listD)) (by decide +kernel)) hnA
  have hu : Un (l, s, b, L, xs, (dC, dI), tc) := ⟨hts, hK, hX, hbl, hl, hU1, hU2, hgv⟩
  let Γ : Cx := ((p, e, room_1, s, m, #[Value.ref b], below, meth, c, lw_Z below #[Value.ref b] s), (l, s, b, L, xs, (dC, dI), tc), fun q => s.heap.size ≤ q, fun _ => b, 0, 7)
  have C : Cok Γ cL_law RL (some .boolean) 10 1086 13806 := ⟨hx, hb, hml, hown, hr, hlocks, rfl, hu, State.WarmedH.refl s, ⟨Nat.le_refl _, fun _ _ => rfl⟩, fun _ h => h, fun _ h => h⟩
  have hend : ∀ (h : List va_E) (k n : Nat) (lv : List (Option Value)), k ≤ 1086 → n ≤ 13806 → AW Γ h k n lv [.int 1] 1067 := by
    intro h k n lv hk hn ad H locs ls g0 g1 g2 hP hD hS hl9
    refine va_forget (fun q hq => hS.2.2 q hq) ?_
    exact W.widen hk hn (lw_ret hx hb hr hlocks dL_law_1067)
  obtain ⟨f1, q1, q, h1, h2, h3, h4⟩ := hSt (cellv (l, s, b, L, xs, (dC, dI), tc) 0) (cellv (l, s, b, L, xs, (dC, dI), tc) 1)
  have hLs : L < 2 ^ 31 := by omega
  have hgo := law_start (Γ := Γ) hu rfl C hPA hL hend (fun {h} => H_cell hu hLs (i := 0) (by decide)) (fun {h} => H_cell hu hLs (i := 1) (by decide)) h1 h2 h3 h4
  rw [lg_entry_eq]
  exact hgo (fun _ => b) s.heap [] _ (Nat.le_refl _) (fun _ h => absurd h (Nat.not_lt_zero _)) rfl (fun k q h => by simp [cw] at h) ⟨fun i j p q h => by simp [cw] at h, fun k q h => by simp [cw] at h⟩ va_S.rf (lc_start (ad := fun _ => b) (av := [.ref SCR]) rfl (by decide) rfl)
