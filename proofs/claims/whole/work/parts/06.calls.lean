/-! ===== calls over contracts ===== -/
def wOk (x : Cond) : Bool := decide (x ∈ lw_tbl) && goodWord x
def mOk : Mi → Nat → Bool
  | (y, bytes, maxL, rt), np => wOk (.code y bytes maxL rt) && wOk (.initialized y.cls) && (decide (y.cls ≠ "java/lang/invoke/MethodHandle") && decide (y.cls ≠ "java/lang/invoke/VarHandle")) && decide ((parseMethodDescriptor y.desc).map (fun d => d.parameters.length) = some np) && maxL.ble 20
theorem mOk_use {l : Launch} {s0 : State} {b L : Nat} {xs : Nat → Int32} {D : va_G} {tc : Nat → ClassId} (hu : Un (l, s0, b, L, xs, D, tc)) {y : MethodName} {bytes : ByteArray} {maxL np : Nat} {rt : Option FieldType} (hm : mOk (y, bytes, maxL, rt) np = true) {s : State} (hW0 : s0.WarmedH s.vm) (args : Array Value) :
    (∀ w ∈ [Cond.code y bytes maxL rt], ∀ (a' : Array Value) (U : State), s.WarmedH U.vm → w.before a' U = true) ∧ (Cond.code y bytes maxL rt).before args s = true ∧ (Cond.initialized y.cls).before args s = true ∧ (y.cls ≠ "java/lang/invoke/MethodHandle" ∧ y.cls ≠ "java/lang/invoke/VarHandle") ∧ (∀ sig, parseMethodDescriptor y.desc = some sig → np = sig.parameters.length) ∧ maxL ≤ 20 := by
  simp only [mOk, Bool.and_eq_true, decide_eq_true_eq] at hm
  obtain ⟨⟨⟨⟨h1, h2⟩, h3⟩, h4⟩, h5⟩ := hm
  refine ⟨fun w hw a' U hU => ?_, un_word hu h1 hW0 args, un_word hu h2 hW0 args, h3, fun sig hs => ?_, Nat.le_of_ble_eq_true h5⟩
  · rw [List.mem_singleton] at hw
    subst hw
    exact un_word hu h1 (State.WarmedH.trans hW0 hU) a'
  · rw [hs] at h4
    exact (Option.some.inj h4).symm
theorem blindA {u : Uv} {ad : Nat → Nat} {sz : Nat} {av : List Value} {h : List va_E} : FrameBlind (PcA u ad sz av h) := by
  obtain ⟨l, s0, b, L, xs, D, tc⟩ := u
  exact fun a U g mk q => ⟨q.1, q.2.1, q.2.2.1, q.2.2.2.1, q.2.2.2.2.1, q.2.2.2.2.2⟩
theorem preA {l : Launch} {s0 : State} {b L : Nat} {xs : Nat → Int32} {D : va_G} {tc : Nat → ClassId} {s : State} {A : Nat → Prop} {ad : Nat → Nat} {h : List va_E} {H : Heap} {locs : List Loc} (hW0 : s0.WarmedH s.vm) (hold : Old s0 s.heap) (hA0 : ∀ q, A q → s0.heap.size ≤ q) (hP : va_P D vwCl (cw ad tc h) H) (hD : va_D A (cw ad tc h)) (hS : va_S A s.heap H locs) (av : List Value) :
    ∀ U : State, U.heap = H → s.WarmedH U.vm → PcA (l, s0, b, L, xs, D, tc) ad H.size av h (av.map (cv ad)).toArray U := by
  intro U hU hW
  refine ⟨rfl, by rw [hU], State.WarmedH.trans hW0 hW, ⟨by rw [hU]; exact Nat.le_trans hold.1 hS.1, fun q hq => ?_⟩, by rw [hU]; exact hP, hD.weaken fun _ q _ hq => hA0 _ hq⟩
  rw [hU, hS.2.1 q (Nat.lt_of_lt_of_le hq hold.1) (fun z => absurd (hA0 q z) (Nat.not_le.mpr hq))]
  exact hold.2 q hq
/-- behind a call: the callee's heap, the caller's frame -/
theorem A_cont {p : Program} {l : Launch} {e : Env} {R : Room} {s : State} {m : MethodId} {args : Array Value} {below : List Frame} {meth : Method} {c : Code} {Q : State → Prop} {s0 : State} {b L : Nat} {xs : Nat → Int32} {D : va_G} {tc : Nat → ClassId} {A : Nat → Prop} {ad0 : Nat → Nat} {n0 nL : Nat} {h h' : List va_E} {k n mc ms : Nat} {lv : List (Option Value)} {rest stc : List Value} {rv : Option Value} {pc : Nat} {ad : Nat → Nat} {H : Heap} {locs : List Loc} {ls : Array Slot} {aa : Array Value}
    (hr : va_Run p l e R s m args below meth c H locs k n mc ms (F0 m pc ls stc) (rest.map (cv ad)) (Qt (l, s0, b, L, xs, D, tc) (va_A (cw ad tc h) H.size) ad h.length rv h' aa) (va_A (cw ad tc h) H.size))
    (hA : ∀ q, s.heap.size ≤ q → A q) (g0 : n0 ≤ h.length) (g1 : ∀ j, j < n0 → ad j = ad0 j) (g2 : ad SCR = b) (hD : va_D A (cw ad tc h)) (hS : va_S A s.heap H locs) (hl : lv_has ls nL (lc ad lv)) (ho1 : lv.all (roO h.length) = true) (ho2 : rest.all (rok h.length) = true)
    (kk : AW ((p, e, R, s, m, args, below, meth, c, Q), (l, s0, b, L, xs, D, tc), A, ad0, n0, nL) h' (k + mc) (n + ms) lv (rv.toList ++ rest) (pc + 3)) : W p l e R s m args below meth c H locs k n Q (F0 m pc ls stc) := by
  intro T hT X
  obtain ⟨v, st0, t, T', L9, e0, X', hL, e1, e2, ⟨ad', a1, a2, a0, a3, a4, a5, hz, hk⟩, stp⟩ := hr T hT X
  have a3 : v = rv.map (cv ad') := Outcome.returned.inj a3
  subst a3
  have hAA : ∀ q, va_A (cw ad tc h) H.size q → A q := fun q hq => by
    rcases hq with ⟨i, e9, hi⟩ | hq
    · exact hD.2 i _ hi
    · exact hA q (Nat.le_trans hS.1 hq)
  rw [e0] at hz hk
  have hS' : va_S A s.heap T'.heap (locs ++ L9) := ⟨Nat.le_trans hS.1 (by rw [e1]; exact hz), fun q h1 h2 => by
      rw [e1, hk q (Nat.lt_of_lt_of_le h1 hS.1) (fun z => h2 (hAA q z))]; exact hS.2.1 q h1 h2, fun q hq => by
      rcases List.mem_append.mp hq with h1 | h1
      · exact hS.2.2 q h1
      · exact hAA _ (hL q h1)⟩
  obtain ⟨t2, b1, b2⟩ := kk ad' T'.heap (locs ++ L9) ls (Nat.le_trans g0 a0) (fun j hj => (a1 j (Nat.lt_of_lt_of_le hj g0)).trans (g1 j hj)) a2 (by rw [e1]; exact a4) (a5.weaken (fun _ q _ hq => hAA _ hq)) hS' (lc_same ho1 a1 (a2.trans g2.symm) hl) T' rfl X'
  have e9 : (rv.toList ++ rest).map (cv ad') = (rv.map (cv ad')).toList ++ rest.map (cv ad) := by
    rw [List.map_append, cvs_same ho2 a1 (a2.trans g2.symm)]
    cases rv <;> rfl
  rw [e9] at b1
  exact ⟨t2, stp t2 b1, b2⟩
theorem cats (ad : Nat → Nat) (st : List Value) : ((st.map (cv ad)).map fun v => v.category) = st.map fun v => v.category := by
  rw [List.map_map]; exact List.map_congr_left fun v _ => cv_cat ad v
section Calls9
variable {Γ : Cx} {cc : ByteArray} {own : String} {ret : Option FieldType} {d K N : Nat} {h : List va_E} {k n : Nat} {lv : List (Option Value)} {st : List Value} {pc pc' : Nat}
variable {y : MethodName} {bytes : ByteArray} {maxL : Nat} {rt : Option FieldType} {np d' mc ms idx id ci : Nat} {fs : List Value} {Cq : vw_C} {av rest : List Value} {rv : Option Value} {h' : List va_E} {k2 n2 : Nat} {st2 : List Value}
theorem A_callV (C : Cok Γ cc own ret d K N) (hM : AM Γ.2.1 (y, bytes, maxL, rt) d' mc ms (.ref id :: av) h rv h') (hm : mOk (y, bytes, maxL, rt) np = true) (hlk : wOk (.methodLink own idx y) = true) (hwi : wOk (.instanceMethod y) = true) (hws : wOk (.selects Cq.1 y y) = true) (he : h[id]? = some (.inr (ci, fs))) (hci : vwCl[ci]? = some Cq) (hst : st = av.reverse ++ .ref id :: rest) (hav : av.length = np) (hd : (d' + 1).ble d = true) (hcap : k + mc ≤ K ∧ n + ms ≤ N) (hsum : (rest.map fun v => v.category).sum ≤ 8) (ho1 : lv.all (roO h.length) = true) (ho2 : rest.all (rok h.length) = true) (dg : decode cc pc = .ok (.invokevirtual idx, 3)) (hk2 : k + mc = k2) (hn2 : n + ms = n2) (hs2 : rv.toList ++ rest = st2) (hp : pc + 3 = pc') (kk : AW Γ h' k2 n2 lv st2 pc') : AW Γ h k n lv st pc := by
  obtain ⟨⟨p, e, R, s, m, args, below, meth, c, Q⟩, ⟨l, s0, b, L, xs, D, tc⟩, A, ad0, n0, nL⟩ := Γ
  obtain ⟨hx, hb, hml, hown, hr, hlocks, hR, hu, hW0, hold, hA, hA0⟩ := C
  subst hp hst hR hk2 hn2 hs2
  intro ad H locs ls g0 g1 g2 hP hD hS hl
  have hM := hM ad H.size g2
  obtain ⟨m1, m2, m3, m4, m5, m6⟩ := mOk_use hu hm hW0 args
  have hd := Nat.le_of_ble_eq_true hd
  have hloc : 8 + (maxL + 11) + 39 * d' ≤ 39 * d := by omega
  exact A_cont (rest := rest) (va_runV (Ts := []) (As := av.map (cv ad)) (b := ad id) (rest := rest.map (cv ad)) ⟨hx, hb, hml, hown, fun _ z => absurd z List.not_mem_nil⟩ hM ⟨⟨rfl, rfl, hd, hloc, m1, List.mem_cons_self, m2, m3, m4, m5, (un_word hu hlk hW0 args)⟩, un_word hu hwi hW0 args, un_word hu hws hW0 args⟩ ⟨blindA, va_recv (va_K.moved hW0.alike hu.2.1) hP hci (cw_get he), preA hW0 hold hA0 hP hD hS (.ref id :: av)⟩ rfl (by rw [List.length_map]; exact hav) hl.1 (by simp [cv, List.map_append, List.map_reverse]) (lv_room (by rw [cats]; exact hsum)) dg hcap) hA g0 g1 g2 hD hS hl ho1 ho2 kk
theorem A_callVN (C : Cok Γ cc own ret d K N) (hM : AM Γ.2.1 (y, bytes, maxL, rt) d' mc ms (.ref id :: av) h rv h') (hm : mOk (y, bytes, maxL, rt) np = true) {host : String} (hlk : Cond.methodLinkNest own idx y host ∈ lw_tbl) (hwi : wOk (.instanceMethod y) = true) (hws : wOk (.selects Cq.1 y y) = true) (he : h[id]? = some (.inr (ci, fs))) (hci : vwCl[ci]? = some Cq) (hst : st = av.reverse ++ .ref id :: rest) (hav : av.length = np) (hd : (d' + 1).ble d = true) (hcap : k + mc ≤ K ∧ n + ms ≤ N) (hsum : (rest.map fun v => v.category).sum ≤ 8) (ho1 : lv.all (roO h.length) = true) (ho2 : rest.all (rok h.length) = true) (dg : decode cc pc = .ok (.invokevirtual idx, 3)) (hk2 : k + mc = k2) (hn2 : n + ms = n2) (hs2 : rv.toList ++ rest = st2) (hp : pc + 3 = pc') (kk : AW Γ h' k2 n2 lv st2 pc') : AW Γ h k n lv st pc := by
  obtain ⟨⟨p, e, R, s, m, args, below, meth, c, Q⟩, ⟨l, s0, b, L, xs, D, tc⟩, A, ad0, n0, nL⟩ := Γ
  obtain ⟨hx, hb, hml, hown, hr, hlocks, hR, hu, hW0, hold, hA, hA0⟩ := C
  subst hp hst hR hk2 hn2 hs2
  intro ad H locs ls g0 g1 g2 hP hD hS hl
  have hM := hM ad H.size g2
  obtain ⟨m1, m2, m3, m4, m5, m6⟩ := mOk_use hu hm hW0 args
  have hd := Nat.le_of_ble_eq_true hd
  have hloc : 8 + (maxL + 11) + 39 * d' ≤ 39 * d := by omega
  exact A_cont (rest := rest) (va_runVN (Ts := []) (As := av.map (cv ad)) (b := ad id) (rest := rest.map (cv ad)) ⟨hx, hb, hml, hown, fun _ z => absurd z List.not_mem_nil⟩ hM ⟨⟨⟨rfl, rfl, hd, hloc, m1, List.mem_cons_self⟩, m2, m3, m4, m5, (va_Nw.use rfl (un_nestM hu hlk hW0))⟩, un_word hu hwi hW0 args, un_word hu hws hW0 args⟩ ⟨blindA, va_recv (va_K.moved hW0.alike hu.2.1) hP hci (cw_get he), preA hW0 hold hA0 hP hD hS (.ref id :: av)⟩ rfl (by rw [List.length_map]; exact hav) hl.1 (by simp [cv, List.map_append, List.map_reverse]) (lv_room (by rw [cats]; exact hsum)) dg hcap) hA g0 g1 g2 hD hS hl ho1 ho2 kk
theorem A_callS (C : Cok Γ cc own ret d K N) (hM : AM Γ.2.1 (y, bytes, maxL, rt) d' mc ms av h rv h') (hm : mOk (y, bytes, maxL, rt) np = true) (hlk : wOk (.methodLink own idx y) = true) (hws : wOk (.static y) = true) (hst : st = av.reverse ++ rest) (hav : av.length = np) (hd : (d' + 1).ble d = true) (hcap : k + mc ≤ K ∧ n + ms ≤ N) (hsum : (rest.map fun v => v.category).sum ≤ 8) (ho1 : lv.all (roO h.length) = true) (ho2 : rest.all (rok h.length) = true) (dg : decode cc pc = .ok (.invokestatic idx, 3)) (hk2 : k + mc = k2) (hn2 : n + ms = n2) (hs2 : rv.toList ++ rest = st2) (hp : pc + 3 = pc') (kk : AW Γ h' k2 n2 lv st2 pc') : AW Γ h k n lv st pc := by
  obtain ⟨⟨p, e, R, s, m, args, below, meth, c, Q⟩, ⟨l, s0, b, L, xs, D, tc⟩, A, ad0, n0, nL⟩ := Γ
  obtain ⟨hx, hb, hml, hown, hr, hlocks, hR, hu, hW0, hold, hA, hA0⟩ := C
  subst hp hst hR hk2 hn2 hs2
  intro ad H locs ls g0 g1 g2 hP hD hS hl
  have hM := hM ad H.size g2
  obtain ⟨m1, m2, m3, m4, m5, m6⟩ := mOk_use hu hm hW0 args
  have hd := Nat.le_of_ble_eq_true hd
  have hloc : 8 + (maxL + 11) + 39 * d' ≤ 39 * d := by omega
  exact A_cont (rest := rest) (va_runS (Ts := []) (As := av.map (cv ad)) (rest := rest.map (cv ad)) ⟨hx, hb, hml, hown, fun _ z => absurd z List.not_mem_nil⟩ hM ⟨⟨rfl, rfl, hd, hloc, m1, List.mem_cons_self, m2, m3, m4, m5, (un_word hu hlk hW0 args)⟩, un_word hu hws hW0 args⟩ ⟨blindA, preA hW0 hold hA0 hP hD hS av⟩ rfl (by rw [List.length_map]; exact hav) hl.1 (by simp [cv, List.map_append, List.map_reverse]) (lv_room (by rw [cats]; exact hsum)) dg hcap) hA g0 g1 g2 hD hS hl ho1 ho2 kk
theorem A_callSN (C : Cok Γ cc own ret d K N) (hM : AM Γ.2.1 (y, bytes, maxL, rt) d' mc ms av h rv h') (hm : mOk (y, bytes, maxL, rt) np = true) {host : String} (hlk : Cond.methodLinkNest own idx y host ∈ lw_tbl) (hws : wOk (.static y) = true) (hst : st = av.reverse ++ rest) (hav : av.length = np) (hd : (d' + 1).ble d = true) (hcap : k + mc ≤ K ∧ n + ms ≤ N) (hsum : (rest.map fun v => v.category).sum ≤ 8) (ho1 : lv.all (roO h.length) = true) (ho2 : rest.all (rok h.length) = true) (dg : decode cc pc = .ok (.invokestatic idx, 3)) (hk2 : k + mc = k2) (hn2 : n + ms = n2) (hs2 : rv.toList ++ rest = st2) (hp : pc + 3 = pc') (kk : AW Γ h' k2 n2 lv st2 pc') : AW Γ h k n lv st pc := by
  obtain ⟨⟨p, e, R, s, m, args, below, meth, c, Q⟩, ⟨l, s0, b, L, xs, D, tc⟩, A, ad0, n0, nL⟩ := Γ
  obtain ⟨hx, hb, hml, hown, hr, hlocks, hR, hu, hW0, hold, hA, hA0⟩ := C
  subst hp hst hR hk2 hn2 hs2
  intro ad H locs ls g0 g1 g2 hP hD hS hl
  have hM := hM ad H.size g2
  obtain ⟨m1, m2, m3, m4, m5, m6⟩ := mOk_use hu hm hW0 args
  have hd := Nat.le_of_ble_eq_true hd
  have hloc : 8 + (maxL + 11) + 39 * d' ≤ 39 * d := by omega
  exact A_cont (rest := rest) (va_runSN (Ts := []) (As := av.map (cv ad)) (rest := rest.map (cv ad)) ⟨hx, hb, hml, hown, fun _ z => absurd z List.not_mem_nil⟩ hM ⟨⟨⟨rfl, rfl, hd, hloc, m1, List.mem_cons_self⟩, m2, m3, m4, m5, (va_Nw.use rfl (un_nestM hu hlk hW0))⟩, un_word hu hws hW0 args, trivial⟩ ⟨blindA, preA hW0 hold hA0 hP hD hS av⟩ rfl (by rw [List.length_map]; exact hav) hl.1 (by simp [cv, List.map_append, List.map_reverse]) (lv_room (by rw [cats]; exact hsum)) dg hcap) hA g0 g1 g2 hD hS hl ho1 ho2 kk
theorem A_callI (C : Cok Γ cc own ret d K N) (hM : AM Γ.2.1 (y, bytes, maxL, none) d' mc ms (.ref id :: av) h rv h') (hm : mOk (y, bytes, maxL, none) np = true) (hlk : wOk (.methodLink own idx y) = true) (hwi : wOk (.instanceMethod y) = true) (hyn : y.name = "<init>") (hst : st = av.reverse ++ .ref id :: rest) (hav : av.length = np) (hd : (d' + 1).ble d = true) (hcap : k + mc ≤ K ∧ n + ms ≤ N) (hsum : (rest.map fun v => v.category).sum ≤ 8) (ho1 : lv.all (roO h.length) = true) (ho2 : rest.all (rok h.length) = true) (dg : decode cc pc = .ok (.invokespecial idx, 3)) (hk2 : k + mc = k2) (hn2 : n + ms = n2) (hs2 : rv.toList ++ rest = st2) (hp : pc + 3 = pc') (kk : AW Γ h' k2 n2 lv st2 pc') : AW Γ h k n lv st pc := by
  obtain ⟨⟨p, e, R, s, m, args, below, meth, c, Q⟩, ⟨l, s0, b, L, xs, D, tc⟩, A, ad0, n0, nL⟩ := Γ
  obtain ⟨hx, hb, hml, hown, hr, hlocks, hR, hu, hW0, hold, hA, hA0⟩ := C
  subst hp hst hR hk2 hn2 hs2
  intro ad H locs ls g0 g1 g2 hP hD hS hl
  have hM := hM ad H.size g2
  obtain ⟨m1, m2, m3, m4, m5, m6⟩ := mOk_use hu hm hW0 args
  have hd := Nat.le_of_ble_eq_true hd
  have hloc : 8 + (maxL + 11) + 39 * d' ≤ 39 * d := by omega
  exact A_cont (rest := rest) (va_runI (Ts := []) (As := av.map (cv ad)) (b := ad id) (rest := rest.map (cv ad)) ⟨hx, hb, hml, hown, fun _ z => absurd z List.not_mem_nil⟩ hM ⟨⟨rfl, rfl, hd, hloc, m1, List.mem_cons_self, m2, m3, m4, m5, (un_word hu hlk hW0 args)⟩, hyn, un_word hu hwi hW0 args⟩ ⟨blindA, preA hW0 hold hA0 hP hD hS (.ref id :: av)⟩ rfl (by rw [List.length_map]; exact hav) hl.1 (by simp [cv, List.map_append, List.map_reverse]) (lv_room (by rw [cats]; exact hsum)) dg hcap) hA g0 g1 g2 hD hS hl ho1 ho2 kk
theorem A_callIN (C : Cok Γ cc own ret d K N) (hM : AM Γ.2.1 (y, bytes, maxL, none) d' mc ms (.ref id :: av) h rv h') (hm : mOk (y, bytes, maxL, none) np = true) {host : String} (hlk : Cond.methodLinkNest own idx y host ∈ lw_tbl) (hwi : wOk (.instanceMethod y) = true) (hyn : y.name = "<init>") (hst : st = av.reverse ++ .ref id :: rest) (hav : av.length = np) (hd : (d' + 1).ble d = true) (hcap : k + mc ≤ K ∧ n + ms ≤ N) (hsum : (rest.map fun v => v.category).sum ≤ 8) (ho1 : lv.all (roO h.length) = true) (ho2 : rest.all (rok h.length) = true) (dg : decode cc pc = .ok (.invokespecial idx, 3)) (hk2 : k + mc = k2) (hn2 : n + ms = n2) (hs2 : rv.toList ++ rest = st2) (hp : pc + 3 = pc') (kk : AW Γ h' k2 n2 lv st2 pc') : AW Γ h k n lv st pc := by
  obtain ⟨⟨p, e, R, s, m, args, below, meth, c, Q⟩, ⟨l, s0, b, L, xs, D, tc⟩, A, ad0, n0, nL⟩ := Γ
  obtain ⟨hx, hb, hml, hown, hr, hlocks, hR, hu, hW0, hold, hA, hA0⟩ := C
  subst hp hst hR hk2 hn2 hs2
  intro ad H locs ls g0 g1 g2 hP hD hS hl
  have hM := hM ad H.size g2
  obtain ⟨m1, m2, m3, m4, m5, m6⟩ := mOk_use hu hm hW0 args
  have hd := Nat.le_of_ble_eq_true hd
  have hloc : 8 + (maxL + 11) + 39 * d' ≤ 39 * d := by omega
  exact A_cont (rest := rest) (va_runIN (Ts := []) (As := av.map (cv ad)) (b := ad id) (rest := rest.map (cv ad)) ⟨hx, hb, hml, hown, fun _ z => absurd z List.not_mem_nil⟩ hM ⟨⟨⟨rfl, rfl, hd, hloc, m1, List.mem_cons_self⟩, m2, m3, m4, m5, (va_Nw.use rfl (un_nestM hu hlk hW0))⟩, hyn, un_word hu hwi hW0 args⟩ ⟨blindA, preA hW0 hold hA0 hP hD hS (.ref id :: av)⟩ rfl (by rw [List.length_map]; exact hav) hl.1 (by simp [cv, List.map_append, List.map_reverse]) (lv_room (by rw [cats]; exact hsum)) dg hcap) hA g0 g1 g2 hD hS hl ho1 ho2 kk
theorem A_obj (C : Cok Γ cc own ret d K N) (hw : wOk (.methodLink own idx objectInit) = true) (hw2 : wOk (.instanceMethod objectInit) = true) (hw3 : wOk (.code objectInit ⟨#[0xb1]⟩ 1 none) = true) (hd1 : (1).ble d = true) (hsum : (st.map fun v => v.category).sum ≤ 8) (dg : decode cc pc = .ok (.invokespecial idx, 3)) (hp : pc + 3 = pc') (kk : AW Γ h k n lv st pc') : AW Γ h k n lv (.ref id :: st) pc := by
  obtain ⟨⟨p, e, R, s, m, args, below, meth, c, Q⟩, ⟨l, s0, b, L, xs, D, tc⟩, A, ad0, n0, nL⟩ := Γ
  obtain ⟨hx, hb, hml, hown, hr, hlocks, hR, hu, hW0, hold, hA, hA0⟩ := C
  subst hp hR
  intro ad H locs ls g0 g1 g2 hP hD hS hl
  have hd1 := Nat.le_of_ble_eq_true hd1
  refine W.objInit hx hb hown (un_word hu hw hW0 args) (un_word hu hw2 hW0 args) (un_word hu hw3 hW0 args) rfl (hl.1.trans hml.symm) (rest := st.map (cv ad)) rfl dg hd1 ?_ (kk ad H locs ls g0 g1 g2 hP hD hS hl)
  show 2 * 0 + _ + 12 ≤ 39 * d
  rw [cats]
  omega
theorem A_new (C : Cok Γ cc own ret d K N) {Cn : String} {T : u_T} {M : Nat} {fs0 : List Value} {h1 : List va_E} (ty : Nat → FieldType) (hty : ∀ q, q < M → parseFieldDescriptor (T q).2.2.1 = some (ty q)) (hcl : clOk Cn T M = true) (hci : vwCl[ci]? = some (Cn, T, M)) (hw : wOk (.classLink own idx Cn) = true) (hw2 : wOk (.instantiable Cn M) = true) (hw3 : wOk (.initialized Cn) = true) (hfs : ∀ j, j < M → defaultValue (ty j) = vp_V fs0 j) (hf0 : ∀ ad, fs0.map (cv ad) = fs0) (hrok : fs0.all (rok h.length) = true)
    (hh : h.all (roE h.length) = true) (hlt : h.length.blt SCR = true) (ho1 : lv.all (roO h.length) = true) (ho2 : st.all (rok h.length) = true) (hcap : k + 1 ≤ K ∧ n + M ≤ N) (dg : decode cc pc = .ok (.new idx, 3)) (hid : h.length = id) (hh1 : h ++ [.inr (ci, fs0)] = h1) (hp : pc + 3 = pc') (kk : AW Γ h1 (k + 1) (n + M) lv (.ref id :: st) pc') : AW Γ h k n lv st pc := by
  obtain ⟨⟨p, e, R, s, m, args, below, meth, c, Q⟩, ⟨l, s0, b, L, xs, D, tc⟩, A, ad0, n0, nL⟩ := Γ
  obtain ⟨hx, hb, hml, hown, hr, hlocks, hR, hu, hW0, hold, hA, hA0⟩ := C
  subst hp hR hh1 hid
  intro ad H locs ls g0 g1 g2 hP hD hS hl
  have hlt : h.length < SCR := by rw [Nat.blt_eq] at hlt; exact hlt
  refine va_new (D := D) hx hb (un_cl hu hcl hW0 args) (fun _ z => z) ty hty hown (un_word hu hw hW0 args) (un_word hu hw2 hW0 args) (un_word hu hw3 hW0 args) (va_K.moved hW0.alike hu.2.1) hP hD hS hA hci hfs hcap.1 hcap.2 dg ?_
  intro q H1 hP1 hD1 hS1
  have e1 : cw ad tc h ++ [(q, (Sum.inr (ci, fs0) : va_E))] = cw (va_up ad h.length q) tc (h ++ [.inr (ci, fs0)]) := by
    rw [cw_push hh (show roE h.length (.inr (ci, fs0)) = true from hrok) hlt]
    show _ = _ ++ [(q, (Sum.inr (ci, fs0.map (cv ad)) : va_E))]
    rw [hf0]
  rw [e1] at hP1 hD1
  have ha : ∀ j, j < h.length → va_up ad h.length q j = ad j := fun j hj => by simp [va_up, Nat.ne_of_lt hj]
  have hs : va_up ad h.length q SCR = ad SCR := by
    have : SCR ≠ h.length := fun e => by rw [← e] at hlt; exact Nat.lt_irrefl _ hlt
    simp [va_up, this]
  have := kk (va_up ad h.length q) H1 locs ls (by rw [List.length_append]; exact Nat.le_trans g0 (Nat.le_add_right _ _)) (fun j hj => (ha j (Nat.lt_of_lt_of_le hj g0)).trans (g1 j hj)) (hs.trans g2) hP1 hD1 hS1 (lc_same ho1 ha hs hl)
  rw [List.map_cons, cvs_same ho2 ha hs, show cv (va_up ad h.length q) (.ref h.length) = .ref q from by simp [cv, va_up]] at this
  exact this
theorem A_newa (C : Cok Γ cc own ret d K N) {at9 : ArrayType} {ty : FieldType} {tix : Nat} {z : Int32} {M : Nat} {a0 : vp_A} {h1 : List va_E} (hty : newarray.typeOf at9 = ty) (hwa : wOk (.arrayClass (newarray.typeOf at9)) = true) (ht : ∀ tc : Nat → ClassId, (tyl tc)[tix]? = some (tc tix, ty)) (hra : ∀ (U : State) (cA : ClassId), va_RA U cA ty → U.vm.findClass ("[" ++ ty.toString) = some cA) (ha0 : ∀ cA : ClassId, vp_cell cA a0 = arrV cA M (fun _ => defaultValue ty)) (hz : ¬ z < 0) (hM : z.toNatClampNeg = M) (hbytes : M * componentBytes ty ≤ 536870912)
    (hh : h.all (roE h.length) = true) (hlt : h.length.blt SCR = true) (ho1 : lv.all (roO h.length) = true) (ho2 : st.all (rok h.length) = true) (hcap : k + 1 ≤ K ∧ n + M ≤ N) (dg : decode cc pc = .ok (.newarray at9, 2)) (hid : h.length = id) (hh1 : h ++ [.inl (tix, a0)] = h1) (hp : pc + 2 = pc') (kk : AW Γ h1 (k + 1) (n + M) lv (.ref id :: st) pc') : AW Γ h k n lv (.int z :: st) pc := by
  obtain ⟨⟨p, e, R, s, m, args, below, meth, c, Q⟩, ⟨l, s0, b, L, xs, D, tc⟩, A, ad0, n0, nL⟩ := Γ
  obtain ⟨hx, hb, hml, hown, hr, hlocks, hR, hu, hW0, hold, hA, hA0⟩ := C
  subst hp hR hh1 hid
  intro ad H locs ls g0 g1 g2 hP hD hS hl
  have hlt : h.length < SCR := by rw [Nat.blt_eq] at hlt; exact hlt
  have hK := va_K.moved hW0.alike hu.2.1
  refine va_newa (D := D) hx hb (un_word hu hwa hW0 args) hty hK hP hD hS hA ha0 hz hM hbytes hcap.1 hcap.2 dg ?_
  intro q cA H1 hK1 hP1 hD1 hS1
  have hc : cA = tc tix := by
    have h1 := hra _ _ (hK1.2 3 (cA, ty) rfl).2
    have h2 := hra _ _ (hK.2 tix (tc tix, ty) (ht tc)).2
    exact Option.some.inj (h1.symm.trans h2)
  subst hc
  have e1 : cw ad tc h ++ [(q, (Sum.inl (tc tix, a0) : va_E))] = cw (va_up ad h.length q) tc (h ++ [.inl (tix, a0)]) := by
    rw [cw_push hh rfl hlt]
    rfl
  rw [e1] at hP1 hD1
  have ha : ∀ j, j < h.length → va_up ad h.length q j = ad j := fun j hj => by simp [va_up, Nat.ne_of_lt hj]
  have hs : va_up ad h.length q SCR = ad SCR := by
    have : SCR ≠ h.length := fun e => by rw [← e] at hlt; exact Nat.lt_irrefl _ hlt
    simp [va_up, this]
  have := kk (va_up ad h.length q) H1 locs ls (by rw [List.length_append]; exact Nat.le_trans g0 (Nat.le_add_right _ _)) (fun j hj => (ha j (Nat.lt_of_lt_of_le hj g0)).trans (g1 j hj)) (hs.trans g2) hP1 hD1 hS1 (lc_same ho1 ha hs hl)
  rw [List.map_cons, cvs_same ho2 ha hs, show cv (va_up ad h.length q) (.ref h.length) = .ref q from by simp [cv, va_up]] at this
  exact this
end Calls9
