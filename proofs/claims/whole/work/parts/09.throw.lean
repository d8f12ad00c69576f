/-! ===== methods that return or throw ===== -/
def exn : Nat → String
  | 1 => "java/lang/IllegalArgumentException"
  | 2 => "java/lang/IllegalStateException"
  | _ => "java/lang/IndexOutOfBoundsException"
abbrev Rs : Type := (Option Value × List va_E) ⊕ Nat
def xr {α : Type} (f : α → Option Value × List va_E) : α ⊕ Nat → Rs
  | .inl q => .inl (f q)
  | .inr e => .inr e
def QX (u : Uv) (A : Nat → Prop) (ad0 : Nat → Nat) (n0 : Nat) : Rs → Array Value → State → Outcome → State → Prop
  | .inl (rv, h') => Qt u A ad0 n0 rv h'
  | .inr _ => fun _ _ _ _ => False
def XP (u : Uv) (A : Nat → Prop) (ad0 : Nat → Nat) (h : List va_E) (st t : State) : Prop := match u with
  | (_, _, _, _, _, D, tc) => va_P D vwCl (cw ad0 tc h) t.heap ∧ va_D A (cw ad0 tc h) ∧ va_F A st t
def XX (u : Uv) (A : Nat → Prop) (ad0 : Nat → Nat) (h : List va_E) : Rs → String → State → State → Prop
  | .inl _ => fun _ _ _ => False
  | .inr c => fun E st t => E = exn c ∧ XP u A ad0 h st t
def TgX : Cx → Rs → List va_E → Prop
  | ((p, e, R, s, m, args, below, meth, c, Q), u, A, ad0, n0, nL), res, h => Q = vx_MQ below (QX u A ad0 n0 res) (XX u A ad0 h res) args s 1 6 A ∧ n0 = h.length
def noT : Cx → Prop
  | ((p, e, R, s, m, args, below, meth, c, Q), u, A, ad0, n0, nL) => ∀ x ∈ c.exceptionTable.toList, False
def AX : Uv → Mi → Nat → List Value → List va_E → Rs → Prop
  | (l, s0, b, L, xs, D, tc), (y, bytes, maxL, ret), d, av, h, res =>
    ∀ (ad : Nat → Nat) (sz : Nat), ad SCR = b → vx_Met l y [.code y bytes maxL ret] (rm d 1 6) (PcA (l, s0, b, L, xs, D, tc) ad sz av h) (QX (l, s0, b, L, xs, D, tc) (va_A (cw ad tc h) sz) ad h.length res) (XX (l, s0, b, L, xs, D, tc) (va_A (cw ad tc h) sz) ad h res) 1 6 (va_A (cw ad tc h) sz)
theorem cw_same {ad ad' : Nat → Nat} {tc : Nat → ClassId} {h : List va_E} (hh : h.all (roE h.length) = true) (ha : ∀ j, j < h.length → ad' j = ad j) (hs : ad' SCR = ad SCR) : cw ad' tc h = cw ad tc h := by
  apply List.ext_getElem?
  intro i
  simp only [cw, List.getElem?_mapIdx]
  cases hx : h[i]? with
  | none => rfl
  | some x =>
    have h1 : i < h.length := (List.getElem?_eq_some_iff.mp hx).1
    simp [ha i h1, ce_same (List.all_eq_true.mp hh x (List.mem_of_getElem? hx)) ha hs]
/-- the locals at a method's entry -/
theorem lc_start {ad : Nat → Nat} {maxL : Nat} {av : List Value} {lv : List (Option Value)} (hcat : av.all (fun v => v.category == 1) = true) (hmax : av.length ≤ maxL) (hlv : lv = av.map some ++ List.replicate (maxL - av.length) none) :
    lv_has ((lg_sl (av.map (cv ad)) ++ List.replicate (maxL - (lg_sl (av.map (cv ad))).length) Slot.unset).toArray) maxL (lc ad lv) := by
  have hlen : (lg_sl (av.map (cv ad))).length = av.length := by
    clear hlv hmax
    induction av with
    | nil => rfl
    | cons v r ih =>
      rw [List.all_cons, Bool.and_eq_true] at hcat
      have hc : (cv ad v).category = 1 := by rw [cv_cat]; simpa using hcat.1
      have := ih hcat.2
      cases hv : cv ad v <;> simp_all [lg_sl, Value.category]
  have hl := lv_entry (av.map (cv ad)) (n := maxL) (by rw [hlen]; exact hmax)
  refine ⟨hl.1, hl.2.1, fun q hq => ?_⟩
  obtain ⟨v, h2, h3⟩ := lc_of hq
  refine hl.2.2 q ?_
  have h4 : av[q.1]? = some v := by
    rw [hlv, List.getElem?_append] at h2
    by_cases hlt : q.1 < (av.map some).length
    · rw [if_pos hlt, List.getElem?_map] at h2
      cases hx : av[q.1]? with
      | none => rw [hx] at h2; cases h2
      | some z => rw [hx] at h2; simp at h2; rw [h2]
    · rw [if_neg hlt, List.getElem?_replicate] at h2
      split at h2 <;> simp at h2
  have key : ∀ (vs : List Value) (n i : Nat) (w : Value), vs.all (fun v => v.category == 1) = true → vs[i]? = some w → (n + i, w) ∈ lv_args n vs := by
    intro vs
    induction vs with
    | nil => intro n i w _ hw; simp at hw
    | cons x r ih =>
      intro n i w hc hw
      rw [List.all_cons, Bool.and_eq_true] at hc
      have hx1 : x.category = 1 := by simpa using hc.1
      cases i with
      | zero => simp at hw; subst hw; simp [lv_args]
      | succ i =>
        have := ih (n + 1) i w hc.2 (by simpa using hw)
        rw [show n + (i + 1) = n + 1 + i by omega]
        simp only [lv_args, hx1]
        exact List.mem_cons_of_mem _ this
  have hcat2 : (av.map (cv ad)).all (fun v => v.category == 1) = true := by
    rw [List.all_map]
    refine List.all_eq_true.mpr fun v hv => ?_
    have := List.all_eq_true.mp hcat v hv
    simpa [cv_cat] using this
  have := key (av.map (cv ad)) 0 q.1 (cv ad v) hcat2 (by rw [List.getElem?_map, h4]; rfl)
  rw [Nat.zero_add] at this
  rw [show q = (q.1, cv ad v) from by rw [← h3]]
  exact this
theorem AX.of {u : Uv} (hu : Un u) {y : MethodName} {cc : ByteArray} {maxL : Nat} {ret : Option FieldType} {d : Nat} {av : List Value} {h : List va_E} {res : Rs} {lv : List (Option Value)}
    (hy : plainName y.cls = true) (hcat : av.all (fun v => v.category == 1) = true) (hmax : av.length ≤ maxL) (hlv : lv = av.map some ++ List.replicate (maxL - av.length) none)
    (body : ∀ Γ : Cx, Γ.2.1 = u → maxL = Γ.2.2.2.2.2 → Cok Γ cc y.cls ret d 1 6 → noT Γ → TgX Γ res h → AW Γ h 0 0 lv [] 0) : AX u (y, cc, maxL, ret) d av h res := by
  obtain ⟨l, s0, b, L, xs, D, tc⟩ := u
  intro ad sz hsc
  refine vx_ofW (cc := cc) (maxL := maxL) (ret := ret) hy rfl ?_
  intro p e s m args below meth c s₁ B hml hnt hv
  obtain ⟨hargs, hsz, hW0, hold, hP, hD⟩ := hv
  subst hsz
  have hD1 : va_D (va_A (cw ad tc h) s.heap.size) (cw ad tc h) := hD.self
  have hown : s.vm.findClass y.cls = some m.cls := findClass_of_methodNamed B.named
  have h1 := body ((p, e, rm d 1 6, s, m, args, below, meth, c, vx_MQ below (QX (l, s0, b, L, xs, D, tc) (va_A (cw ad tc h) s.heap.size) ad h.length res) (XX (l, s0, b, L, xs, D, tc) (va_A (cw ad tc h) s.heap.size) ad h res) args s 1 6 (va_A (cw ad tc h) s.heap.size)), (l, s0, b, L, xs, D, tc), va_A (cw ad tc h) s.heap.size, ad, h.length, maxL) rfl rfl
    ⟨B.exec, B.bytes, hml, hown, B.returns, B.notSynchronized, rfl, hu, hW0, hold, fun q hq => Or.inr hq, fun q hq => by
      rcases hq with ⟨k, e9, hk⟩ | hq
      · exact hD.2 k _ hk
      · exact Nat.le_trans hold.1 hq⟩ hnt ⟨rfl, rfl⟩
  subst hargs
  rw [lg_entry_eq]
  exact h1 ad s.heap [] _ (Nat.le_refl _) (fun _ _ => rfl) hsc hP hD1 va_S.rf (lc_start hcat hmax hlv)
/-- words that go with every later state: the good ones, and two kinds more -/
def wAny (x : Cond) : Bool := decide (x ∈ lw_tbl) && (goodWord x || match x with
  | .castable _ _ => true
  | .declares _ => true
  | _ => false)
theorem un_any {l : Launch} {s0 : State} {b L : Nat} {xs : Nat → Int32} {D : va_G} {tc : Nat → ClassId} (hu : Un (l, s0, b, L, xs, D, tc)) {w : Cond} (hw : wAny w = true) {U : State} (hU : s0.WarmedH U.vm) (a' : Array Value) : w.before a' U = true := by
  simp only [wAny, Bool.and_eq_true, Bool.or_eq_true, decide_eq_true_eq] at hw
  obtain ⟨h1, h2⟩ := hw
  have h0 := hu.1 w h1
  have tr : ∀ {c : Cond}, c.onTables = true → c.before #[Value.ref b] (s0.setVm U.vm) = true → c.before a' U = true := by
    intro c hc h
    have e := Cond.onTables_vm (A := #[Value.ref b]) (A' := a') (U := s0) (U' := U) U.vm c hc
    have hU : U.setVm U.vm = U := rfl
    rw [hU] at e
    rw [← e]
    exact h
  rcases h2 with h2 | h2
  · exact word_at hU (good_of_word h2) h0
  · cases w <;> first | (cases h2; done) | skip
    all_goals first
      | exact tr rfl (by rw [Cond.castable_setVm hU.alike]; exact h0)
      | exact tr rfl (by rw [Cond.declares_setVm hU.alike]; exact h0)
def rtE : List String := ["java/lang/RuntimeException", "java/lang/Exception"]
def twOk (own : String) (ik ic : Nat) (E : String) : Bool := wOk (.classLink own ik E) && wOk (.initialized E) && (vx_atS own ic E rtE).all wAny && (Cond.classLink own ik E :: Cond.initialized E :: vx_atS own ic E rtE).all vx_ot && Bundle.fit E && rtE.all Bundle.fit
def swOk (own : String) (k : Nat) (tx : String) : Prop := Cond.stringRef own k tx ∈ lw_tbl ∧ Cond.exactly (.string own k) "java/lang/String" ∈ flatC (Jvm.Cond.and given_1 narrow_1)
theorem un_str {l : Launch} {s0 : State} {b L : Nat} {xs : Nat → Int32} {D : va_G} {tc : Nat → ClassId} (hu : Un (l, s0, b, L, xs, D, tc)) {own tx : String} {k : Nat} (hw : swOk own k tx) {U : State} (hU : s0.WarmedH U.vm) : ∃ sa, vk_R own k tx sa U := by
  have h1 := hu.1 _ hw.1
  have h2 := flat_of_before _ hu.2.2.2.2.2.2.2 _ hw.2
  obtain ⟨a2, c, cA, kA, q1, -⟩ := Cond.exactly_spec (args := #[Value.ref b]) (first := s0) (o := none) (s := s0) (idx := []) (t := .string own k) (cls := "java/lang/String") h2
  exact ⟨a2, vk_R.warm hU (vk_R.of h1 q1)⟩
def rokI (N : Nat) : Value → Bool
  | .ref k => k.blt N
  | _ => true
def roI (N : Nat) : va_E → Bool
  | .inl _ => true
  | .inr (_, fs) => fs.all (rokI N)
theorem cw_sameI {ad ad' : Nat → Nat} {tc : Nat → ClassId} {h : List va_E} (hh : h.all (roI h.length) = true) (ha : ∀ j, j < h.length → ad' j = ad j) : cw ad' tc h = cw ad tc h := by
  apply List.ext_getElem?
  intro i
  simp only [cw, List.getElem?_mapIdx]
  cases hx : h[i]? with
  | none => rfl
  | some x =>
    have h1 : i < h.length := (List.getElem?_eq_some_iff.mp hx).1
    have h2 := List.all_eq_true.mp hh x (List.mem_of_getElem? hx)
    have h3 : ce ad' tc x = ce ad tc x := by
      rcases x with ⟨k, a⟩ | ⟨ci, fs⟩
      · rfl
      · show Sum.inr (ci, fs.map (cv ad')) = Sum.inr (ci, fs.map (cv ad))
        congr 2
        apply List.map_congr_left
        intro v hv
        have h4 := List.all_eq_true.mp h2 v hv
        cases v with
        | ref k => simp only [rokI, Nat.blt_eq] at h4; simp [cv, ha k h4]
        | _ => rfl
    simp [ha i h1, h3]
section Throws9
variable {Γ : Cx} {cc : ByteArray} {own : String} {ret : Option FieldType} {d K N : Nat} {h : List va_E} {k n : Nat} {lv : List (Option Value)} {st : List Value} {pc pc' : Nat}
theorem A_iretX (C : Cok Γ cc own (some .int) d K N) {v : Int32} {h0 : List va_E} (T : TgX Γ (.inl (some (.int v), h)) h0) (hk : k ≤ 1) (hn : n ≤ 6) (dg : decode cc pc = .ok (.ireturn, 1)) : AW Γ h k n lv [.int v] pc := by
  obtain ⟨⟨p, e, R, s, m, args, below, meth, c, Q⟩, ⟨l, s0, b, L, xs, D, tc⟩, A, ad0, n0, nL⟩ := Γ
  obtain ⟨hx, hb, hml, hown, hr, hlocks, hR, hu, hW0, hold, hA, hA0⟩ := C
  intro ad H locs ls g0 g1 g2 hP hD hS hl
  obtain ⟨T, -⟩ := T
  rw [T]
  refine W.widen hk hn (vx_ret ?_)
  exact W.iret hx hb hr (fun t ht hW => ⟨ad, g1, g2, g0, rfl, by rw [ht]; exact hP, hD, hS.F ht⟩) hS.2.2 dg
theorem A_vretX (C : Cok Γ cc own none d K N) {h0 : List va_E} (T : TgX Γ (.inl (none, h)) h0) (hk : k ≤ 1) (hn : n ≤ 6) (dg : decode cc pc = .ok (.return_, 1)) : AW Γ h k n lv [] pc := by
  obtain ⟨⟨p, e, R, s, m, args, below, meth, c, Q⟩, ⟨l, s0, b, L, xs, D, tc⟩, A, ad0, n0, nL⟩ := Γ
  obtain ⟨hx, hb, hml, hown, hr, hlocks, hR, hu, hW0, hold, hA, hA0⟩ := C
  intro ad H locs ls g0 g1 g2 hP hD hS hl
  obtain ⟨T, -⟩ := T
  rw [T]
  refine W.widen hk hn (vx_ret ?_)
  exact W.vret hx hb hr (fun t ht hW => ⟨ad, g1, g2, g0, rfl, by rw [ht]; exact hP, hD, hS.F ht⟩) hS.2.2 dg
theorem A_throwS (C : Cok Γ cc own ret d 1 6) (X : noT Γ) {code ik is ic : Nat} {text : String} (T : TgX Γ (.inr code) h) (tw : twOk own ik ic (exn code) = true) (sw : swOk own is text) (hd : (6).ble d = true) (hh : h.all (roI h.length) = true)
    (d0 : decode cc pc = .ok (.new ik, 3)) (d3 : decode cc (pc + 3) = .ok (.dup, 1)) (d4 : decode cc (pc + 4) = .ok (.ldc is, 2)) (d6 : decode cc (pc + 6) = .ok (.invokespecial ic, 3)) (d9 : decode cc (pc + 9) = .ok (.athrow, 1)) : AW Γ h 0 0 lv [] pc := by
  obtain ⟨⟨p, e, R, s, m, args, below, meth, c, Q⟩, ⟨l, s0, b, L, xs, D, tc⟩, A, ad0, n0, nL⟩ := Γ
  obtain ⟨hx, hb, hml, hown, hr, hlocks, hR, hu, hW0, hold, hA, hA0⟩ := C
  subst hR
  intro ad H locs ls g0 g1 g2 hP hD hS hl
  obtain ⟨T, hn0⟩ := T
  have hd := Nat.le_of_ble_eq_true hd
  simp only [twOk, Bool.and_eq_true] at tw
  obtain ⟨⟨⟨⟨⟨t1, t2⟩, t3⟩, t4⟩, t5⟩, t6⟩ := tw
  obtain ⟨sa, hstr⟩ := un_str hu sw hW0
  have hZ : ∀ {C n d : String}, vx_Zq C n d (A00 s0) s0 s0.heap → vx_Zq C n d A s s.heap := fun z => (vx_Zq.moved hW0.alike (z.kept (fun a ha _ => hold.2 a ha))).narrow hA0
  rw [T]
  have ecw : cw ad0 tc h = cw ad tc h := cw_sameI hh (fun j hj => (g1 j (by rw [hn0]; exact hj)).symm)
  have hfr : (rtE.length + 3) < d := by show 5 < d; omega
  refine vx_throwS (A := A) hx hb hu.2.2.2.2.1 (names := rtE) (sa := sa) (text := text) hown t5 (List.all_eq_true.mp t6) (un_word hu t1 hW0 args) (un_word hu t2 hW0 args) hstr (fun w hw => un_any hu (List.all_eq_true.mp t3 w hw) hW0 args) (List.all_eq_true.mp t4) (hZ hu.2.2.2.2.2.1) (hZ hu.2.2.2.2.2.2.1) hS (hl.1.trans hml.symm) d0 d3 d4 d6 d9 (fun x hx => (X x hx).elim) hfr (by show 0 + (13 * 3 + 43) ≤ 39 * d; omega) (Nat.le_refl _) (Nat.le_refl _) hlocks ?_ hS.2.2 (Nat.le_refl _) (Nat.le_refl _)
  intro t hal hsz hk
  refine ⟨rfl, ?_, by rw [ecw]; exact hD, Nat.le_trans hS.1 hsz, fun q h1 h2 => ?_⟩
  · rw [ecw]
    exact hP.kept fun j q hq => hk q.1 (hP j q hq).lt
  · rw [hk q (Nat.lt_of_lt_of_le h1 hS.1)]
    exact hS.2.1 q h1 h2
theorem A_throwSW (C : Cok Γ cc own ret d 1 6) (X : noT Γ) {code ik is ic : Nat} {text : String} (T : TgX Γ (.inr code) h) (tw : twOk own ik ic (exn code) = true) (sw : swOk own is text) (hd : (6).ble d = true) (hh : h.all (roI h.length) = true)
    (d0 : decode cc pc = .ok (.new ik, 3)) (d3 : decode cc (pc + 3) = .ok (.dup, 1)) (d4 : decode cc (pc + 4) = .ok (.ldc_w is, 3)) (d6 : decode cc (pc + 7) = .ok (.invokespecial ic, 3)) (d9 : decode cc (pc + 10) = .ok (.athrow, 1)) : AW Γ h 0 0 lv [] pc := by
  obtain ⟨⟨p, e, R, s, m, args, below, meth, c, Q⟩, ⟨l, s0, b, L, xs, D, tc⟩, A, ad0, n0, nL⟩ := Γ
  obtain ⟨hx, hb, hml, hown, hr, hlocks, hR, hu, hW0, hold, hA, hA0⟩ := C
  subst hR
  intro ad H locs ls g0 g1 g2 hP hD hS hl
  obtain ⟨T, hn0⟩ := T
  have hd := Nat.le_of_ble_eq_true hd
  simp only [twOk, Bool.and_eq_true] at tw
  obtain ⟨⟨⟨⟨⟨t1, t2⟩, t3⟩, t4⟩, t5⟩, t6⟩ := tw
  obtain ⟨sa, hstr⟩ := un_str hu sw hW0
  have hZ : ∀ {C n d : String}, vx_Zq C n d (A00 s0) s0 s0.heap → vx_Zq C n d A s s.heap := fun z => (vx_Zq.moved hW0.alike (z.kept (fun a ha _ => hold.2 a ha))).narrow hA0
  rw [T]
  have ecw : cw ad0 tc h = cw ad tc h := cw_sameI hh (fun j hj => (g1 j (by rw [hn0]; exact hj)).symm)
  have hfr : (rtE.length + 3) < d := by show 5 < d; omega
  refine vx_throwSW (A := A) hx hb hu.2.2.2.2.1 (names := rtE) (sa := sa) (text := text) hown t5 (List.all_eq_true.mp t6) (un_word hu t1 hW0 args) (un_word hu t2 hW0 args) hstr (fun w hw => un_any hu (List.all_eq_true.mp t3 w hw) hW0 args) (List.all_eq_true.mp t4) (hZ hu.2.2.2.2.2.1) (hZ hu.2.2.2.2.2.2.1) hS (hl.1.trans hml.symm) d0 d3 d4 d6 d9 (fun x hx => (X x hx).elim) hfr (by show 0 + (13 * 3 + 43) ≤ 39 * d; omega) (Nat.le_refl _) (Nat.le_refl _) hlocks ?_ hS.2.2 (Nat.le_refl _) (Nat.le_refl _)
  intro t hal hsz hk
  refine ⟨rfl, ?_, by rw [ecw]; exact hD, Nat.le_trans hS.1 hsz, fun q h1 h2 => ?_⟩
  · rw [ecw]
    exact hP.kept fun j q hq => hk q.1 (hP j q hq).lt
  · rw [hk q (Nat.lt_of_lt_of_le h1 hS.1)]
    exact hS.2.1 q h1 h2
end Throws9
