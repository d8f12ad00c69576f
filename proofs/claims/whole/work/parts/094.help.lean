/-! ===== calls of methods that may throw, their catching; methods with a table ===== -/
def EXI : Nat := 2000000
def tabT : Cx → List ExceptionTableEntry → Prop
  | ((p, e, R, s, m, args, below, meth, c, Q), u, A, ad0, n0, nL), tb => c.exceptionTable.toList = tb
/-- an object of class E is thrown over the frame -/
def AE9 : Cx → List va_E → Nat → Nat → List (Option Value) → Nat → String → Prop
  | ((p, e, R, s, m, args, below, meth, c, Q), (l, s0, b, L, xs, D, tc), A, ad0, n0, nL), h, k, n, lv, pc, E =>
    ∀ (ad : Nat → Nat) (H : Heap) (locs : List Loc) (ls : Array Slot) (q : Addr) (ce9 : Cell) (rest : List Value), n0 ≤ h.length → (∀ j, j < n0 → ad j = ad0 j) → ad SCR = b → va_P D vwCl (cw ad tc h) H → va_D A (cw ad tc h) → va_S A s.heap H locs → lv_has ls nL (lc ad lv) → H[q]? = some ce9 → ce9.vm = .none → s.vm.findClass E = some ce9.cls →
      vx_W p l e R s m args below meth c H locs k n Q (F0 m pc ls rest) q
abbrev Hh : Type := List (Nat × Nat × Nat × Nat)
def AMW : Uv → Mi → Hh → Nat → List Value → List va_E → Option Value → List va_E → Prop
  | (l, s0, b, L, xs, D, tc), (y, bytes, maxL, ret), hh, d, av, h, rv, h' =>
    ∀ (ad : Nat → Nat) (sz : Nat), ad SCR = b → Met l y [.codeWith y bytes maxL ret hh] (rm d 1 6) (PcA (l, s0, b, L, xs, D, tc) ad sz av h) (Qt (l, s0, b, L, xs, D, tc) (va_A (cw ad tc h) sz) ad h.length rv h') 1 6 (va_A (cw ad tc h) sz)
theorem AMW.of {u : Uv} (hu : Un u) {y : MethodName} {cc : ByteArray} {maxL : Nat} {ret : Option FieldType} {hh : Hh} {d : Nat} {av : List Value} {h : List va_E} {rv : Option Value} {h' : List va_E} {lv : List (Option Value)}
    (hy : plainName y.cls = true) (hcat : av.all (fun v => v.category == 1) = true) (hmax : av.length ≤ maxL) (hlv : lv = av.map some ++ List.replicate (maxL - av.length) none)
    (body : ∀ Γ : Cx, Γ.2.1 = u → maxL = Γ.2.2.2.2.2 → Cok Γ cc y.cls ret d 1 6 → tabT Γ (tableOf hh) → Tgt Γ 1 6 rv h' → AW Γ h 0 0 lv [] 0) : AMW u (y, cc, maxL, ret) hh d av h rv h' := by
  obtain ⟨l, s0, b, L, xs, D, tc⟩ := u
  intro ad sz hsc
  refine va_MetW (cc := cc) (maxL := maxL) (ret := ret) (hh := hh) hy rfl ?_
  intro p e s m args below meth c s₁ B hml hv
  obtain ⟨hargs, hsz, hW0, hold, hP, hD⟩ := hv
  subst hsz
  have hD1 : va_D (va_A (cw ad tc h) s.heap.size) (cw ad tc h) := hD.self
  have hown : s.vm.findClass y.cls = some m.cls := findClass_of_methodNamed B.named
  have htab : c.exceptionTable.toList = tableOf hh := vx_table (x := y) B (atoms_spec (ws := [Cond.codeWith y cc maxL ret hh]) B.pre _ List.mem_cons_self)
  have h1 := body ((p, e, rm d 1 6, s, m, args, below, meth, c, MQ below (Qt (l, s0, b, L, xs, D, tc) (va_A (cw ad tc h) s.heap.size) ad h.length rv h') args s 1 6 (va_A (cw ad tc h) s.heap.size)), (l, s0, b, L, xs, D, tc), va_A (cw ad tc h) s.heap.size, ad, h.length, maxL) rfl rfl
    ⟨B.exec, B.bytes, hml, hown, B.returns, B.notSynchronized, rfl, hu, hW0, hold, fun q hq => Or.inr hq, fun q hq => by
      rcases hq with ⟨k, e9, hk⟩ | hq
      · exact hD.2 k _ hk
      · exact Nat.le_trans hold.1 hq⟩ htab rfl
  subst hargs
  rw [lg_entry_eq]
  exact h1 ad s.heap [] _ (Nat.le_refl _) (fun _ _ => rfl) hsc hP hD1 va_S.rf (lc_start hcat hmax hlv)
def mwOk : Mi → Hh → Nat → Bool
  | (y, bytes, maxL, rt), hh, np => wOk (.codeWith y bytes maxL rt hh) && wOk (.initialized y.cls) && (decide (y.cls ≠ "java/lang/invoke/MethodHandle") && decide (y.cls ≠ "java/lang/invoke/VarHandle")) && decide ((parseMethodDescriptor y.desc).map (fun d => d.parameters.length) = some np) && maxL.ble 20
section Help9
variable {Γ : Cx} {cc : ByteArray} {own : String} {ret : Option FieldType} {d K N : Nat} {h : List va_E} {k n : Nat} {lv : List (Option Value)} {st : List Value} {pc pc' : Nat}
variable {y : MethodName} {bytes : ByteArray} {maxL : Nat} {rt : Option FieldType} {np d' idx id ci : Nat} {fs : List Value} {Cq : vw_C} {av rest : List Value} {rv : Option Value} {h' : List va_E} {k2 n2 : Nat} {st2 : List Value}
theorem A_callSW {hh : Hh} (C : Cok Γ cc own ret d K N) (hM : AMW Γ.2.1 (y, bytes, maxL, rt) hh d' av h rv h') (hm : mwOk (y, bytes, maxL, rt) hh np = true) (hlk : wOk (.methodLink own idx y) = true) (hws : wOk (.static y) = true) (hst : st = av.reverse ++ rest) (hav : av.length = np) (hd : (d' + 1).ble d = true) (hcap : k + 1 ≤ K ∧ n + 6 ≤ N) (hsum : (rest.map fun v => v.category).sum ≤ 8) (ho1 : lv.all (roO h.length) = true) (ho2 : rest.all (rok h.length) = true) (dg : decode cc pc = .ok (.invokestatic idx, 3)) (hk2 : k + 1 = k2) (hn2 : n + 6 = n2) (hs2 : rv.toList ++ rest = st2) (hp : pc + 3 = pc') (kk : AW Γ h' k2 n2 lv st2 pc') : AW Γ h k n lv st pc := by
  obtain ⟨⟨p, e, R, s, m, args, below, meth, c, Q⟩, ⟨l, s0, b, L, xs, D, tc⟩, A, ad0, n0, nL⟩ := Γ
  obtain ⟨hx, hb, hml, hown, hr, hlocks, hR, hu, hW0, hold, hA, hA0⟩ := C
  subst hp hst hR hk2 hn2 hs2
  intro ad H locs ls g0 g1 g2 hP hD hS hl
  have hM := hM ad H.size g2
  simp only [mwOk, Bool.and_eq_true, decide_eq_true_eq] at hm
  obtain ⟨⟨⟨⟨m1, m2⟩, m3⟩, m4⟩, m5⟩ := hm
  have m5 := Nat.le_of_ble_eq_true m5
  have hd := Nat.le_of_ble_eq_true hd
  have hloc : 8 + (maxL + 11) + 39 * d' ≤ 39 * d := by omega
  exact A_cont (rest := rest) (vx_runSW (Ts := []) (As := av.map (cv ad)) (rest := rest.map (cv ad)) (hh := hh) ⟨hx, hb, hml, hown, fun _ z => absurd z List.not_mem_nil⟩ hM ⟨⟨rfl, rfl, hd, hloc, fun w hw a' U hU => (by rw [List.mem_singleton] at hw; subst hw; exact un_word hu m1 (State.WarmedH.trans hW0 hU) a'), List.mem_cons_self⟩, un_word hu m1 hW0 args, un_word hu m2 hW0 args, m3, fun sig hs => (by rw [hs] at m4; exact (Option.some.inj m4).symm), un_word hu hlk hW0 args, un_word hu hws hW0 args⟩ ⟨blindA, preA hW0 hold hA0 hP hD hS av⟩ rfl (by rw [List.length_map]; exact hav) hl.1 (by simp [cv, List.map_append, List.map_reverse]) (lv_room (by rw [cats]; exact hsum)) dg hcap) hA g0 g1 g2 hD hS hl ho1 ho2 kk
theorem A_callVXr (C : Cok Γ cc own ret d K N) (hM : AX Γ.2.1 (y, bytes, maxL, rt) d' (.ref id :: av) h (.inl (rv, h'))) (hm : mOk (y, bytes, maxL, rt) np = true) (hlk : wOk (.methodLink own idx y) = true) (hwi : wOk (.instanceMethod y) = true) (hws : wOk (.selects Cq.1 y y) = true) (he : h[id]? = some (.inr (ci, fs))) (hci : vwCl[ci]? = some Cq) (hst : st = av.reverse ++ .ref id :: rest) (hav : av.length = np) (hd : (d' + 1).ble d = true) (hcap : k + 1 ≤ K ∧ n + 6 ≤ N) (hsum : (rest.map fun v => v.category).sum ≤ 8) (ho1 : lv.all (roO h.length) = true) (ho2 : rest.all (rok h.length) = true) (dg : decode cc pc = .ok (.invokevirtual idx, 3)) (hk2 : k + 1 = k2) (hn2 : n + 6 = n2) (hs2 : rv.toList ++ rest = st2) (hp : pc + 3 = pc') (kk : AW Γ h' k2 n2 lv st2 pc') : AW Γ h k n lv st pc := by
  obtain ⟨⟨p, e, R, s, m, args, below, meth, c, Q⟩, ⟨l, s0, b, L, xs, D, tc⟩, A, ad0, n0, nL⟩ := Γ
  obtain ⟨hx, hb, hml, hown, hr, hlocks, hR, hu, hW0, hold, hA, hA0⟩ := C
  subst hp hst hR hk2 hn2 hs2
  intro ad H locs ls g0 g1 g2 hP hD hS hl
  have hM := hM ad H.size g2
  obtain ⟨m1, m2, m3, m4, m5, m6⟩ := mOk_use hu hm hW0 args
  have hd := Nat.le_of_ble_eq_true hd
  have hloc : 8 + (maxL + 11) + 39 * d' ≤ 39 * d := by omega
  have hr9 := vx_runV (R := rm d K N) (l := l) (below := below) (meth := meth) (e := e) (locs := locs) (cells := k) (slots := n) (Ts := []) (As := av.map (cv ad)) (b := ad id) (rest := rest.map (cv ad)) (g := F0 m pc ls (List.map (cv ad) (av.reverse ++ .ref id :: rest))) ⟨hx, hb, hml, hown, fun _ z => absurd z List.not_mem_nil⟩ hM ⟨⟨rfl, rfl, hd, hloc, m1, List.mem_cons_self, m2, m3, m4, m5, (un_word hu hlk hW0 args)⟩, un_word hu hwi hW0 args, un_word hu hws hW0 args⟩ ⟨blindA, va_recv (va_K.moved hW0.alike hu.2.1) hP hci (cw_get he), preA hW0 hold hA0 hP hD hS (.ref id :: av)⟩ rfl (by rw [List.length_map]; exact hav) hl.1 (by simp [cv, List.map_append, List.map_reverse]) (lv_room (by rw [cats]; exact hsum)) dg hcap
  refine A_cont (rest := rest) (aa := #[]) (mc := 1) (ms := 6) (h := h) (h' := h') (rv := rv) ?_ hA g0 g1 g2 hD hS hl ho1 ho2 kk
  intro T hT X
  rcases hr9 T hT X with ⟨v, st0, t, T', L9, e0, X', hL, e1, e2, hq, stp⟩ | ⟨q, st0, t, T', L9, E, ce9, e0, X', hL, e1, e2, hxc, hce, hcv, hcl, stp⟩
  · exact ⟨v, st0, t, T', L9, e0, X', hL, e1, e2, hq, stp⟩
  · exact hxc.elim
theorem A_callVXt {code : Nat} (C : Cok Γ cc own ret d K N) (hM : AX Γ.2.1 (y, bytes, maxL, rt) d' (.ref id :: av) h (.inr code)) (hm : mOk (y, bytes, maxL, rt) np = true) (hlk : wOk (.methodLink own idx y) = true) (hwi : wOk (.instanceMethod y) = true) (hws : wOk (.selects Cq.1 y y) = true) (he : h[id]? = some (.inr (ci, fs))) (hci : vwCl[ci]? = some Cq) (hst : st = av.reverse ++ .ref id :: rest) (hav : av.length = np) (hd : (d' + 1).ble d = true) (hcap : k + 1 ≤ K ∧ n + 6 ≤ N) (hsum : (rest.map fun v => v.category).sum ≤ 8) (dg : decode cc pc = .ok (.invokevirtual idx, 3)) (hk2 : k + 1 = k2) (hn2 : n + 6 = n2) (kx : AE9 Γ h k2 n2 lv pc (exn code)) : AW Γ h k n lv st pc := by
  obtain ⟨⟨p, e, R, s, m, args, below, meth, c, Q⟩, ⟨l, s0, b, L, xs, D, tc⟩, A, ad0, n0, nL⟩ := Γ
  obtain ⟨hx, hb, hml, hown, hr, hlocks, hR, hu, hW0, hold, hA, hA0⟩ := C
  subst hst hR hk2 hn2
  intro ad H locs ls g0 g1 g2 hP hD hS hl
  have hM := hM ad H.size g2
  obtain ⟨m1, m2, m3, m4, m5, m6⟩ := mOk_use hu hm hW0 args
  have hd := Nat.le_of_ble_eq_true hd
  have hloc : 8 + (maxL + 11) + 39 * d' ≤ 39 * d := by omega
  have hr9 := vx_runV (R := rm d K N) (l := l) (below := below) (meth := meth) (e := e) (locs := locs) (cells := k) (slots := n) (Ts := []) (As := av.map (cv ad)) (b := ad id) (rest := rest.map (cv ad)) (g := F0 m pc ls (List.map (cv ad) (av.reverse ++ .ref id :: rest))) ⟨hx, hb, hml, hown, fun _ z => absurd z List.not_mem_nil⟩ hM ⟨⟨rfl, rfl, hd, hloc, m1, List.mem_cons_self, m2, m3, m4, m5, (un_word hu hlk hW0 args)⟩, un_word hu hwi hW0 args, un_word hu hws hW0 args⟩ ⟨blindA, va_recv (va_K.moved hW0.alike hu.2.1) hP hci (cw_get he), preA hW0 hold hA0 hP hD hS (.ref id :: av)⟩ rfl (by rw [List.length_map]; exact hav) hl.1 (by simp [cv, List.map_append, List.map_reverse]) (lv_room (by rw [cats]; exact hsum)) dg hcap
  intro T hT X
  rcases hr9 T hT X with ⟨v, st0, t, T', L9, e0, X', hL, e1, e2, hq, stp⟩ | ⟨q, st0, t, T', L9, E, ce9, e0, X', hL, e1, e2, hxc, hce, hcv, hcl, stp⟩
  · exact hq.elim
  · obtain ⟨hE, hP', hD', hz, hk⟩ := hxc
    subst hE
    have hAA : ∀ q, va_A (cw ad tc h) H.size q → A q := fun q hq => by
      rcases hq with ⟨i, e9, hi⟩ | hq
      · exact hD.2 i _ hi
      · exact hA q (Nat.le_trans hS.1 hq)
    rw [e0] at hz hk
    have hS' : va_S A s.heap T'.heap (locs ++ L9) := ⟨Nat.le_trans hS.1 (by rw [e1]; exact hz), fun q h1 h2 => by
        rw [e1, hk q (Nat.lt_of_lt_of_le h1 hS.1) (fun z => h2 (hAA q z))]; exact hS.2.1 q h1 h2, fun q hq => by
        rcases List.mem_append.mp hq with h1 | h1
        · exact hS.2.2 q h1
        · exact hAA _ (hL q h1)⟩
    obtain ⟨t2, b1, b2⟩ := kx ad T'.heap (locs ++ L9) ls q ce9 (rest.map (cv ad)) g0 g1 g2 (by rw [e1]; exact hP') (hD'.weaken (fun _ q _ hq => hAA _ hq)) hS' hl (by rw [e1]; exact hce) hcv hcl T' rfl X'
    exact ⟨t2, stp.trans b1, b2⟩
def ncOk (E nm : String) : Prop := Cond.not (.castable E nm) ∈ flatC (Jvm.Cond.and given_1 narrow_1)
theorem A_catch (C : Cok Γ cc own ret d K N) {tb : List ExceptionTableEntry} {E name : String} (tbh : tabT Γ tb) (pre : List ExceptionTableEntry) (x : ExceptionTableEntry) (suf : List ExceptionTableEntry) (hsplit : tb = pre ++ x :: suf)
    (hpass : ∀ z ∈ pre, z.catchType ≠ 0 ∧ ∃ nm : String, wOk (.classLink own z.catchType nm) = true ∧ ncOk E nm) (hx9 : covers x pc = true) (h09 : x.catchType ≠ 0) (hlink : wOk (.classLink own x.catchType name) = true) (hcast : wAny (.castable E name) = true)
    (hh : h.all (roI h.length) = true) (hlt : h.length.blt SCR = true) (ho1 : lv.all (roO h.length) = true) (kk : AW Γ h k n lv [.ref EXI] x.handlerPc) : AE9 Γ h k n lv pc E := by
  obtain ⟨⟨p, e, R, s, m, args, below, meth, c, Q⟩, ⟨l, s0, b, L, xs, D, tc⟩, A, ad0, n0, nL⟩ := Γ
  obtain ⟨hx, hb, hml, hown, hr, hlocks, hR, hu, hW0, hold, hA, hA0⟩ := C
  intro ad H locs ls q ce9 rest g0 g1 g2 hP hD hS hl hce hcv hcl
  have hlt : h.length < SCR := by rw [Nat.blt_eq] at hlt; exact hlt
  have hne : h.length < EXI := Nat.lt_trans hlt (by decide)
  have ha : ∀ j, j < h.length → va_up ad EXI q j = ad j := fun j hj => by
    have : j ≠ EXI := fun e => by rw [e] at hj; exact Nat.lt_irrefl _ (Nat.lt_trans hj hne)
    simp [va_up, this]
  have hs : va_up ad EXI q SCR = ad SCR := by simp [va_up, show SCR ≠ EXI by decide]
  have e1 : cw (va_up ad EXI q) tc h = cw ad tc h := cw_sameI hh ha
  refine vx_catch hown pre x suf ((show c.exceptionTable.toList = tb from tbh).trans hsplit) (fun z hz => ?_) hx9 h09 (un_word hu hlink hW0 args) (un_any hu hcast hW0 args) hce hcv hcl ?_
  · obtain ⟨h1, nm, h2, h3⟩ := hpass z hz
    exact Or.inr ⟨h1, nm, un_word hu h2 hW0 args, va_Nc.moved hW0.alike (va_Nc.of (flat_of_before _ hu.2.2.2.2.2.2.2 _ h3))⟩
  · have := kk (va_up ad EXI q) H locs ls g0 (fun j hj => (ha j (Nat.lt_of_lt_of_le hj g0)).trans (g1 j hj)) (hs.trans g2) (by rw [e1]; exact hP) (by rw [e1]; exact hD) hS (lc_same ho1 ha hs hl)
    simpa [cv, va_up] using this
end Help9
