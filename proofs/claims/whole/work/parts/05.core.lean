/-! ===== an abstract heap: a list of things, a reference is a thing's place in it; 'ad' says where each lies ===== -/
def SCR : Nat := 1000000
def cv (ad : Nat → Nat) : Value → Value
  | .ref k => .ref (ad k)
  | v => v
def ce (ad : Nat → Nat) (tc : Nat → ClassId) : va_E → va_E
  | .inl (k, a) => .inl (tc k, a)
  | .inr (ci, fs) => .inr (ci, fs.map (cv ad))
def cw (ad : Nat → Nat) (tc : Nat → ClassId) (h : List va_E) : va_W := h.mapIdx (fun k e => (ad k, ce ad tc e))
theorem cw_get {ad : Nat → Nat} {tc : Nat → ClassId} {h : List va_E} {k : Nat} {e : va_E} (he : h[k]? = some e) : (cw ad tc h)[k]? = some (ad k, ce ad tc e) := by
  simp [cw, List.getElem?_mapIdx, he]
theorem cw_get' {ad : Nat → Nat} {tc : Nat → ClassId} {h : List va_E} {k : Nat} {q : Nat × va_E} (he : (cw ad tc h)[k]? = some q) : ∃ e, h[k]? = some e ∧ q = (ad k, ce ad tc e) := by
  simp only [cw, List.getElem?_mapIdx, Option.map_eq_some_iff] at he
  obtain ⟨e, h1, h2⟩ := he
  exact ⟨e, h1, h2.symm⟩
theorem cw_set {ad : Nat → Nat} {tc : Nat → ClassId} {h : List va_E} {k : Nat} {e : va_E} : (cw ad tc h).set k (ad k, ce ad tc e) = cw ad tc (h.set k e) := by
  apply List.ext_getElem?
  intro i
  simp only [cw, List.getElem?_set, List.getElem?_mapIdx, List.length_mapIdx]
  by_cases hi : k = i
  · subst hi
    by_cases hl : k < h.length <;> simp [hl]
  · simp [hi]
theorem cw_len {ad : Nat → Nat} {tc : Nat → ClassId} {h : List va_E} : (cw ad tc h).length = h.length := by simp [cw]
def rok (N : Nat) : Value → Bool
  | .ref k => k.blt N || k == SCR
  | _ => true
def roO (N : Nat) : Option Value → Bool
  | none => true
  | some v => rok N v
def roE (N : Nat) : va_E → Bool
  | .inl _ => true
  | .inr (_, fs) => fs.all (rok N)
theorem cv_same {N : Nat} {ad ad' : Nat → Nat} {v : Value} (h : rok N v = true) (ha : ∀ j, j < N → ad' j = ad j) (hs : ad' SCR = ad SCR) : cv ad' v = cv ad v := by
  cases v with
  | ref k =>
    simp only [rok, Bool.or_eq_true, Nat.blt_eq, beq_iff_eq] at h
    rcases h with h | h
    · simp [cv, ha k h]
    · subst h; simp [cv, hs]
  | _ => rfl
theorem cvs_same {N : Nat} {ad ad' : Nat → Nat} {l : List Value} (h : l.all (rok N) = true) (ha : ∀ j, j < N → ad' j = ad j) (hs : ad' SCR = ad SCR) : l.map (cv ad') = l.map (cv ad) := by
  apply List.map_congr_left
  intro v hv
  exact cv_same (List.all_eq_true.mp h v hv) ha hs
theorem ce_same {N : Nat} {ad ad' : Nat → Nat} {tc : Nat → ClassId} {e : va_E} (h : roE N e = true) (ha : ∀ j, j < N → ad' j = ad j) (hs : ad' SCR = ad SCR) : ce ad' tc e = ce ad tc e := by
  rcases e with ⟨k, a⟩ | ⟨ci, fs⟩
  · rfl
  · show Sum.inr (ci, fs.map (cv ad')) = Sum.inr (ci, fs.map (cv ad))
    rw [cvs_same h ha hs]
/-- one thing more, at a new place -/
theorem cw_push {ad : Nat → Nat} {tc : Nat → ClassId} {h : List va_E} {e : va_E} {q : Nat} (hh : h.all (roE h.length) = true) (he : roE h.length e = true) (hn : h.length < SCR) : cw (va_up ad h.length q) tc (h ++ [e]) = cw ad tc h ++ [(q, ce ad tc e)] := by
  have ha : ∀ j, j < h.length → va_up ad h.length q j = ad j := fun j hj => by simp [va_up, Nat.ne_of_lt hj]
  have hs : va_up ad h.length q SCR = ad SCR := by
    have : SCR ≠ h.length := fun e => by rw [← e] at hn; exact Nat.lt_irrefl _ hn
    simp [va_up, this]
  apply List.ext_getElem?
  intro i
  rw [List.getElem?_append, cw_len]
  simp only [cw, List.getElem?_mapIdx]
  by_cases hi : i < h.length
  · rw [if_pos hi, List.getElem?_append_left hi]
    cases hx : h[i]? with
    | none => rfl
    | some x =>
      have hx2 : x ∈ h := List.mem_of_getElem? hx
      simp [ha i hi, ce_same (List.all_eq_true.mp hh x hx2) ha hs]
  · rw [if_neg hi, List.getElem?_append_right (Nat.le_of_not_lt hi)]
    by_cases h2 : i = h.length
    · subst h2
      simp [va_up, ce_same he ha hs]
    · have h3 : 1 ≤ i - h.length := by omega
      rw [List.getElem?_eq_none (by simpa using h3), List.getElem?_eq_none (by simpa using h3)]
      rfl
/-! locals -/
def lc (ad : Nat → Nat) (lv : List (Option Value)) : List (Nat × Value) := (lv.mapIdx (fun i o => o.map (fun v => (i, cv ad v)))).filterMap id
def lvOk (lv : List (Option Value)) : Bool := lv.all fun o => match o with
  | none => true
  | some v => v.category == 1
theorem lc_mem {ad : Nat → Nat} {lv : List (Option Value)} {i : Nat} {v : Value} (h : lv[i]? = some (some v)) : (i, cv ad v) ∈ lc ad lv := by
  refine List.mem_filterMap.mpr ⟨some (i, cv ad v), ?_, rfl⟩
  refine List.mem_of_getElem? (i := i) ?_
  rw [List.getElem?_mapIdx, h]
  rfl
theorem lc_of {ad : Nat → Nat} {lv : List (Option Value)} {q : Nat × Value} (h : q ∈ lc ad lv) : ∃ v, lv[q.1]? = some (some v) ∧ q.2 = cv ad v := by
  obtain ⟨o, ho, hq⟩ := List.mem_filterMap.mp h
  obtain ⟨i, hi⟩ := List.getElem?_of_mem ho
  rw [List.getElem?_mapIdx] at hi
  cases hx : lv[i]? with
  | none => rw [hx] at hi; cases hi
  | some x =>
    rw [hx] at hi
    cases x with
    | none => simp at hi; subst hi; cases hq
    | some v => simp at hi; subst hi; simp at hq; subst hq; exact ⟨v, hx, rfl⟩
theorem cv_cat (ad : Nat → Nat) (v : Value) : (cv ad v).category = v.category := by cases v <;> rfl
theorem lc_get {ad : Nat → Nat} {lv : List (Option Value)} {ls : Array Slot} {nL i : Nat} {v : Value} (h : lv_has ls nL (lc ad lv)) (hl : lv[i]? = some (some v)) : ls[i]? = some (.val (cv ad v)) := h.2.2 _ (lc_mem hl)
theorem lc_same {N : Nat} {ad ad' : Nat → Nat} {lv : List (Option Value)} (h : lv.all (roO N) = true) (ha : ∀ j, j < N → ad' j = ad j) (hs : ad' SCR = ad SCR) {ls : Array Slot} {nL : Nat} (hl : lv_has ls nL (lc ad lv)) : lv_has ls nL (lc ad' lv) := by
  refine ⟨hl.1, hl.2.1, fun q hq => ?_⟩
  obtain ⟨v, h1, h2⟩ := lc_of hq
  have h3 := lc_get hl h1
  rw [h2, cv_same (List.all_eq_true.mp h _ (List.mem_of_getElem? h1)) ha hs]
  exact h3
theorem lc_store {ad : Nat → Nat} {lv : List (Option Value)} {ls : Array Slot} {nL i : Nat} {v : Value} (ho : lvOk lv = true) (h : lv_has ls nL ((i, cv ad v) :: (lc ad lv).filter (fun q => !(q.1 == i) && !(q.1 + 1 == i && q.2.category == 2)))) : lv_has ls nL (lc ad (lv.set i (some v))) := by
  refine ⟨h.1, h.2.1, fun q hq => ?_⟩
  obtain ⟨w, h1, h2⟩ := lc_of hq
  obtain ⟨j, x⟩ := q
  dsimp only at h1 h2 ⊢
  by_cases hj : j = i
  · subst hj
    rw [List.getElem?_set_self'] at h1
    have hw : w = v := by
      cases hx : lv[j]? with
      | none => rw [hx] at h1; simp at h1
      | some _ => rw [hx] at h1; simp at h1; exact h1.symm
    subst hw
    rw [h2]
    exact h.2.2 _ List.mem_cons_self
  · rw [List.getElem?_set_ne (Ne.symm hj)] at h1
    have hc : w.category = 1 := by
      have := List.all_eq_true.mp ho _ (List.mem_of_getElem? h1)
      simpa using this
    have hm : (j, cv ad w) ∈ lc ad lv := lc_mem h1
    have h3 := h.2.2 (j, cv ad w) (List.mem_cons_of_mem _ (List.mem_filter.mpr ⟨hm, by simp [hj, cv_cat, hc]⟩))
    rw [h2]
    exact h3
/-! the start, seen from every method -/
abbrev Uv : Type := Launch × State × Nat × Nat × (Nat → Int32) × va_G × (Nat → ClassId)
def tyl (tc : Nat → ClassId) : List (ClassId × FieldType) := [(tc 0, .int), (tc 1, .long), (tc 2, .boolean)]
def A00 (s0 : State) : Nat → Prop := fun q => s0.heap.size ≤ q
def Un : Uv → Prop
  | (l, s0, b, L, xs, D, tc) => (∀ w ∈ lw_tbl, w.before #[Value.ref b] s0 = true) ∧ va_K D vwCl (tyl tc) s0 ∧ va_X b L xs s0 s0.heap ∧ b < s0.heap.size ∧ l.stackTraces = false ∧ vx_Zq Bundle.tN "UNASSIGNED_STACK" Bundle.steD (A00 s0) s0 s0.heap ∧ vx_Zq Bundle.tN "SUPPRESSED_SENTINEL" Bundle.listD (A00 s0) s0 s0.heap ∧ (Jvm.Cond.and given_1 narrow_1).before #[Value.ref b] s0 = true
def Old (s0 : State) (H : Heap) : Prop := s0.heap.size ≤ H.size ∧ ∀ q, q < s0.heap.size → H[q]? = s0.heap[q]?
def rm (d K N : Nat) : Room := { frames := d, cells := K, slots := N, locals := 39 * d }
abbrev Mac : Type := Program × Env × Room × State × MethodId × Array Value × List Frame × Method × Code × (State → Prop)
abbrev Cx : Type := Mac × Uv × (Nat → Prop) × (Nat → Nat) × Nat × Nat
def AW : Cx → List va_E → Nat → Nat → List (Option Value) → List Value → Nat → Prop
  | ((p, e, R, s, m, args, below, meth, c, Q), (l, s0, b, L, xs, D, tc), A, ad0, n0, nL), h, k, n, lv, st, pc =>
    ∀ (ad : Nat → Nat) (H : Heap) (locs : List Loc) (ls : Array Slot), n0 ≤ h.length → (∀ j, j < n0 → ad j = ad0 j) → ad SCR = b → va_P D vwCl (cw ad tc h) H → va_D A (cw ad tc h) → va_S A s.heap H locs → lv_has ls nL (lc ad lv) →
      W p l e R s m args below meth c H locs k n Q (F0 m pc ls (st.map (cv ad)))
def Cok : Cx → ByteArray → String → Option FieldType → Nat → Nat → Nat → Prop
  | ((p, e, R, s, m, args, below, meth, c, Q), (l, s0, b, L, xs, D, tc), A, ad0, n0, nL), cc, own, ret, d, K, N =>
    p.tables.exec = Jvm.exec ∧ c.code = cc ∧ c.maxLocals = nL ∧ s.vm.findClass own = some m.cls ∧ meth.sig.returnType = ret ∧ meth.locks = false ∧ R = rm d K N ∧ Un (l, s0, b, L, xs, D, tc) ∧ s0.WarmedH s.vm ∧ Old s0 s.heap ∧ (∀ q, s.heap.size ≤ q → A q) ∧ (∀ q, A q → s0.heap.size ≤ q)
/-- what a method's end must be: the value rv, the heap h' -/
def Qt (u : Uv) (A : Nat → Prop) (ad0 : Nat → Nat) (n0 : Nat) (rv : Option Value) (h' : List va_E) : Array Value → State → Outcome → State → Prop := match u with
  | (_, _, b, _, _, D, tc) => fun _ st o t => ∃ ad' : Nat → Nat, (∀ j, j < n0 → ad' j = ad0 j) ∧ ad' SCR = b ∧ n0 ≤ h'.length ∧ o = .returned (rv.map (cv ad')) ∧ va_P D vwCl (cw ad' tc h') t.heap ∧ va_D A (cw ad' tc h') ∧ va_F A st t
def Tgt : Cx → Nat → Nat → Option Value → List va_E → Prop
  | ((p, e, R, s, m, args, below, meth, c, Q), u, A, ad0, n0, nL), mc, ms, rv, h' => Q = MQ below (Qt u A ad0 n0 rv h') args s mc ms A
def PcA (u : Uv) (ad : Nat → Nat) (sz : Nat) (av : List Value) (h : List va_E) : Array Value → State → Prop := match u with
  | (_, s0, _, _, _, D, tc) => fun v U => v = (av.map (cv ad)).toArray ∧ U.heap.size = sz ∧ s0.WarmedH U.vm ∧ Old s0 U.heap ∧ va_P D vwCl (cw ad tc h) U.heap ∧ va_D (A00 s0) (cw ad tc h)
abbrev Mi : Type := MethodName × ByteArray × Nat × Option FieldType
/-- a method's CONTRACT: called with av over the heap h it returns rv over the heap h' -/
def AM : Uv → Mi → Nat → Nat → Nat → List Value → List va_E → Option Value → List va_E → Prop
  | (l, s0, b, L, xs, D, tc), (y, bytes, maxL, ret), d, mc, ms, av, h, rv, h' =>
    ∀ (ad : Nat → Nat) (sz : Nat), ad SCR = b → Met l y [.code y bytes maxL ret] (rm d mc ms) (PcA (l, s0, b, L, xs, D, tc) ad sz av h) (Qt (l, s0, b, L, xs, D, tc) (va_A (cw ad tc h) sz) ad h.length rv h') mc ms (va_A (cw ad tc h) sz)
/-- a word of the tables holds in every later state -/
theorem un_word {l : Launch} {s0 : State} {b L : Nat} {xs : Nat → Int32} {D : va_G} {tc : Nat → ClassId} (hu : Un (l, s0, b, L, xs, D, tc)) {w : Cond} (hw : (decide (w ∈ lw_tbl) && goodWord w) = true) {U : State} (hU : s0.WarmedH U.vm) (a' : Array Value) : w.before a' U = true := by
  rw [Bool.and_eq_true, decide_eq_true_eq] at hw
  exact word_at hU (good_of_word hw.2) (hu.1 w hw.1)
theorem un_nestF {l : Launch} {s0 : State} {b L : Nat} {xs : Nat → Int32} {D : va_G} {tc : Nat → ClassId} (hu : Un (l, s0, b, L, xs, D, tc)) {a : String} {i : Nat} {x n t h : String} (hw : Cond.fieldLinkNest a i x n t h ∈ lw_tbl) {U : State} (hU : s0.WarmedH U.vm) : va_Nw (.fieldLinkNest a i x n t h) U :=
  va_Nw.warmF hU (va_Nw.of rfl (hu.1 _ hw))
theorem un_nestM {l : Launch} {s0 : State} {b L : Nat} {xs : Nat → Int32} {D : va_G} {tc : Nat → ClassId} (hu : Un (l, s0, b, L, xs, D, tc)) {a : String} {i : Nat} {x : MethodName} {h : String} (hw : Cond.methodLinkNest a i x h ∈ lw_tbl) {U : State} (hU : s0.WarmedH U.vm) : va_Nw (.methodLinkNest a i x h) U :=
  va_Nw.warmM hU (va_Nw.of rfl (hu.1 _ hw))
/-- the body of a contract -/
theorem AM.of {u : Uv} (hu : Un u) {y : MethodName} {cc : ByteArray} {maxL : Nat} {ret : Option FieldType} {d mc ms : Nat} {av : List Value} {h : List va_E} {rv : Option Value} {h' : List va_E} {lv : List (Option Value)}
    (hy : plainName y.cls = true) (hcat : av.all (fun v => v.category == 1) = true) (hmax : av.length ≤ maxL) (hlv : lv = av.map some ++ List.replicate (maxL - av.length) none)
    (body : ∀ Γ : Cx, Γ.2.1 = u → maxL = Γ.2.2.2.2.2 → Cok Γ cc y.cls ret d mc ms → Tgt Γ mc ms rv h' → AW Γ h 0 0 lv [] 0) : AM u (y, cc, maxL, ret) d mc ms av h rv h' := by
  obtain ⟨l, s0, b, L, xs, D, tc⟩ := u
  intro ad sz hsc
  refine Met.ofW (cc := cc) (maxL := maxL) (ret := ret) hy rfl ?_
  intro p e s m args below meth c s₁ B hml hv
  obtain ⟨hargs, hsz, hW0, hold, hP, hD⟩ := hv
  subst hsz
  have hD1 : va_D (va_A (cw ad tc h) s.heap.size) (cw ad tc h) := hD.self
  have hown : s.vm.findClass y.cls = some m.cls := findClass_of_methodNamed B.named
  have h1 := body ((p, e, rm d mc ms, s, m, args, below, meth, c, MQ below (Qt (l, s0, b, L, xs, D, tc) (va_A (cw ad tc h) s.heap.size) ad h.length rv h') args s mc ms (va_A (cw ad tc h) s.heap.size)), (l, s0, b, L, xs, D, tc), va_A (cw ad tc h) s.heap.size, ad, h.length, maxL) rfl rfl
    ⟨B.exec, B.bytes, hml, hown, B.returns, B.notSynchronized, rfl, hu, hW0, hold, fun q hq => Or.inr hq, fun q hq => by
      rcases hq with ⟨k, e9, hk⟩ | hq
      · exact hD.2 k _ hk
      · exact Nat.le_trans hold.1 hq⟩ rfl
  have hl := lv_entry (av.map (cv ad)) (n := maxL) (by
    rw [show (lg_sl (av.map (cv ad))).length = av.length from ?_]; exact hmax
    clear hargs hlv hmax hP hD hD1 h1
    induction av with
    | nil => rfl
    | cons v r ih =>
      rw [List.all_cons, Bool.and_eq_true] at hcat
      have hc : (cv ad v).category = 1 := by rw [cv_cat]; simpa using hcat.1
      have := ih hcat.2
      cases hv : cv ad v <;> simp_all [lg_sl, Value.category])
  subst hargs
  rw [lg_entry_eq]
  refine h1 ad s.heap [] _ (Nat.le_refl _) (fun _ _ => rfl) hsc hP hD1 va_S.rf ⟨hl.1, hl.2.1, fun q hq => ?_⟩
  obtain ⟨v, h2, h3⟩ := lc_of hq
  refine hl.2.2 q ?_
  have h4 : av[q.1]? = some v := by
    rw [hlv, List.getElem?_append] at h2
    by_cases hlt : q.1 < (av.map some).length
    · rw [if_pos hlt, List.getElem?_map] at h2
      cases hx : av[q.1]? with
      | none => rw [hx] at h2; cases h2
      | some z => rw [hx] at h2; simp at h2; rw [h2]
    · rw [if_neg hlt, List.getElem?_replicate] at h2
      split at h2 <;> simp at h2
  have key : ∀ (vs : List Value) (n i : Nat) (w : Value), vs.all (fun v => v.category == 1) = true → vs[i]? = some w → (n + i, w) ∈ lv_args n vs := by
    intro vs
    induction vs with
    | nil => intro n i w _ hw; simp at hw
    | cons x r ih =>
      intro n i w hc hw
      rw [List.all_cons, Bool.and_eq_true] at hc
      have hx1 : x.category = 1 := by simpa using hc.1
      cases i with
      | zero => simp at hw; subst hw; simp [lv_args]
      | succ i =>
        have := ih (n + 1) i w hc.2 (by simpa using hw)
        rw [show n + (i + 1) = n + 1 + i by omega]
        simp only [lv_args, hx1]
        exact List.mem_cons_of_mem _ this
  have hcat2 : (av.map (cv ad)).all (fun v => v.category == 1) = true := by
    rw [List.all_map]
    refine List.all_eq_true.mpr fun v hv => ?_
    have := List.all_eq_true.mp hcat v hv
    simpa [cv_cat] using this
  have := key (av.map (cv ad)) 0 q.1 (cv ad v) hcat2 (by rw [List.getElem?_map, h4]; rfl)
  rw [Nat.zero_add] at this
  rw [show q = (q.1, cv ad v) from by rw [← h3]]
  exact this
section Rules
variable {Γ : Cx} {cc : ByteArray} {own : String} {ret : Option FieldType} {d K N : Nat} {h : List va_E} {k n : Nat} {lv : List (Option Value)} {st : List Value} {pc pc' : Nat}

theorem A_iconst (C : Cok Γ cc own ret d K N) {z : Int} {x : Int32} (dg : decode cc pc = .ok (.iconst z, 1)) (hv : Int32.ofInt z = x) (hp : pc + 1 = pc') (kk : AW Γ h k n lv (.int x :: st) pc') : AW Γ h k n lv (st) pc := by
  obtain ⟨⟨p, e, R, s, m, args, below, meth, c, Q⟩, ⟨l, s0, b, L, xs, D, tc⟩, A, ad0, n0, nL⟩ := Γ
  obtain ⟨hx, hb, hml, hown, hr, hlocks, hR, hu, hW0, hold, hA, hA0⟩ := C
  subst hp
  intro ad H locs ls g0 g1 g2 hP hD hS hl
  exact lv_iconst hx hb dg hv (kk ad H locs ls g0 g1 g2 hP hD hS hl)
theorem A_bipush (C : Cok Γ cc own ret d K N) {z : Int} {x : Int32} (dg : decode cc pc = .ok (.bipush z, 2)) (hv : (Int8.ofInt z).toInt32 = x) (hp : pc + 2 = pc') (kk : AW Γ h k n lv (.int x :: st) pc') : AW Γ h k n lv (st) pc := by
  obtain ⟨⟨p, e, R, s, m, args, below, meth, c, Q⟩, ⟨l, s0, b, L, xs, D, tc⟩, A, ad0, n0, nL⟩ := Γ
  obtain ⟨hx, hb, hml, hown, hr, hlocks, hR, hu, hW0, hold, hA, hA0⟩ := C
  subst hp
  intro ad H locs ls g0 g1 g2 hP hD hS hl
  exact lv_bipush hx hb dg hv (kk ad H locs ls g0 g1 g2 hP hD hS hl)
theorem A_sipush (C : Cok Γ cc own ret d K N) {z : Int} {x : Int32} (dg : decode cc pc = .ok (.sipush z, 3)) (hv : (Int16.ofInt z).toInt32 = x) (hp : pc + 3 = pc') (kk : AW Γ h k n lv (.int x :: st) pc') : AW Γ h k n lv (st) pc := by
  obtain ⟨⟨p, e, R, s, m, args, below, meth, c, Q⟩, ⟨l, s0, b, L, xs, D, tc⟩, A, ad0, n0, nL⟩ := Γ
  obtain ⟨hx, hb, hml, hown, hr, hlocks, hR, hu, hW0, hold, hA, hA0⟩ := C
  subst hp
  intro ad H locs ls g0 g1 g2 hP hD hS hl
  exact lv_sipush hx hb dg hv (kk ad H locs ls g0 g1 g2 hP hD hS hl)
theorem A_ldc (C : Cok Γ cc own ret d K N) {i : Nat} {x : Int32} (dg : decode cc pc = .ok (.ldc i, 2)) (hw : (decide (Cond.constant own i x ∈ lw_tbl) && goodWord (Cond.constant own i x)) = true) (hp : pc + 2 = pc') (kk : AW Γ h k n lv (.int x :: st) pc') : AW Γ h k n lv (st) pc := by
  obtain ⟨⟨p, e, R, s, m, args, below, meth, c, Q⟩, ⟨l, s0, b, L, xs, D, tc⟩, A, ad0, n0, nL⟩ := Γ
  obtain ⟨hx, hb, hml, hown, hr, hlocks, hR, hu, hW0, hold, hA, hA0⟩ := C
  subst hp
  intro ad H locs ls g0 g1 g2 hP hD hS hl
  exact lv_ldc hx hb hown (un_word hu hw hW0 args) dg (kk ad H locs ls g0 g1 g2 hP hD hS hl)
theorem A_ldcw (C : Cok Γ cc own ret d K N) {i : Nat} {x : Int32} (dg : decode cc pc = .ok (.ldc_w i, 3)) (hw : (decide (Cond.constant own i x ∈ lw_tbl) && goodWord (Cond.constant own i x)) = true) (hp : pc + 3 = pc') (kk : AW Γ h k n lv (.int x :: st) pc') : AW Γ h k n lv (st) pc := by
  obtain ⟨⟨p, e, R, s, m, args, below, meth, c, Q⟩, ⟨l, s0, b, L, xs, D, tc⟩, A, ad0, n0, nL⟩ := Γ
  obtain ⟨hx, hb, hml, hown, hr, hlocks, hR, hu, hW0, hold, hA, hA0⟩ := C
  subst hp
  intro ad H locs ls g0 g1 g2 hP hD hS hl
  exact lv_ldcw hx hb hown (un_word hu hw hW0 args) dg (kk ad H locs ls g0 g1 g2 hP hD hS hl)
theorem A_iload_n (C : Cok Γ cc own ret d K N) {i : Fin 4} {x : Int32} (dg : decode cc pc = .ok (.iload_n i, 1)) (hlv : lv[(i : Nat)]? = some (some (.int x))) (hp : pc + 1 = pc') (kk : AW Γ h k n lv (.int x :: st) pc') : AW Γ h k n lv (st) pc := by
  obtain ⟨⟨p, e, R, s, m, args, below, meth, c, Q⟩, ⟨l, s0, b, L, xs, D, tc⟩, A, ad0, n0, nL⟩ := Γ
  obtain ⟨hx, hb, hml, hown, hr, hlocks, hR, hu, hW0, hold, hA, hA0⟩ := C
  subst hp
  intro ad H locs ls g0 g1 g2 hP hD hS hl
  exact lv_iload_n hx hb dg rfl (lc_get hl hlv) (kk ad H locs ls g0 g1 g2 hP hD hS hl)
theorem A_iload (C : Cok Γ cc own ret d K N) {i : Nat} {x : Int32} (dg : decode cc pc = .ok (.iload i, 2)) (hlv : lv[i]? = some (some (.int x))) (hp : pc + 2 = pc') (kk : AW Γ h k n lv (.int x :: st) pc') : AW Γ h k n lv (st) pc := by
  obtain ⟨⟨p, e, R, s, m, args, below, meth, c, Q⟩, ⟨l, s0, b, L, xs, D, tc⟩, A, ad0, n0, nL⟩ := Γ
  obtain ⟨hx, hb, hml, hown, hr, hlocks, hR, hu, hW0, hold, hA, hA0⟩ := C
  subst hp
  intro ad H locs ls g0 g1 g2 hP hD hS hl
  exact lv_iload hx hb dg (lc_get hl hlv) (kk ad H locs ls g0 g1 g2 hP hD hS hl)
theorem A_aload_n (C : Cok Γ cc own ret d K N) {i : Fin 4} {x : Nat} (dg : decode cc pc = .ok (.aload_n i, 1)) (hlv : lv[(i : Nat)]? = some (some (.ref x))) (hp : pc + 1 = pc') (kk : AW Γ h k n lv (.ref x :: st) pc') : AW Γ h k n lv (st) pc := by
  obtain ⟨⟨p, e, R, s, m, args, below, meth, c, Q⟩, ⟨l, s0, b, L, xs, D, tc⟩, A, ad0, n0, nL⟩ := Γ
  obtain ⟨hx, hb, hml, hown, hr, hlocks, hR, hu, hW0, hold, hA, hA0⟩ := C
  subst hp
  intro ad H locs ls g0 g1 g2 hP hD hS hl
  exact lv_aload_n hx hb dg rfl (lc_get hl hlv) (kk ad H locs ls g0 g1 g2 hP hD hS hl)
theorem A_aload (C : Cok Γ cc own ret d K N) {i : Nat} {x : Nat} (dg : decode cc pc = .ok (.aload i, 2)) (hlv : lv[i]? = some (some (.ref x))) (hp : pc + 2 = pc') (kk : AW Γ h k n lv (.ref x :: st) pc') : AW Γ h k n lv (st) pc := by
  obtain ⟨⟨p, e, R, s, m, args, below, meth, c, Q⟩, ⟨l, s0, b, L, xs, D, tc⟩, A, ad0, n0, nL⟩ := Γ
  obtain ⟨hx, hb, hml, hown, hr, hlocks, hR, hu, hW0, hold, hA, hA0⟩ := C
  subst hp
  intro ad H locs ls g0 g1 g2 hP hD hS hl
  exact lv_aload hx hb dg (lc_get hl hlv) (kk ad H locs ls g0 g1 g2 hP hD hS hl)
theorem A_istore_n (C : Cok Γ cc own ret d K N) {i : Fin 4} {x : Int32} {lv' : List (Option Value)} (dg : decode cc pc = .ok (.istore_n i, 1)) (hn : ((i : Nat)).blt lv.length = true) (hnL : lv.length = Γ.2.2.2.2.2) (ho : lvOk lv = true) (hlv : lv.set (i : Nat) (some (.int x)) = lv') (hp : pc + 1 = pc') (kk : AW Γ h k n lv' st pc') : AW Γ h k n lv (.int x :: st) pc := by
  obtain ⟨⟨p, e, R, s, m, args, below, meth, c, Q⟩, ⟨l, s0, b, L, xs, D, tc⟩, A, ad0, n0, nL⟩ := Γ
  obtain ⟨hx, hb, hml, hown, hr, hlocks, hR, hu, hW0, hold, hA, hA0⟩ := C
  subst hp hlv
  intro ad H locs ls g0 g1 g2 hP hD hS hl
  have hn2 : (i : Nat) < nL := by rw [Nat.blt_eq] at hn; rw [show nL = lv.length from hnL.symm]; exact hn
  exact lv_istore_n hx hb dg rfl hl hn2 rfl (fun ls' hl' => kk ad H locs ls' g0 g1 g2 hP hD hS (lc_store ho hl'))
theorem A_istore (C : Cok Γ cc own ret d K N) {i : Nat} {x : Int32} {lv' : List (Option Value)} (dg : decode cc pc = .ok (.istore i, 2)) (hn : (i).blt lv.length = true) (hnL : lv.length = Γ.2.2.2.2.2) (ho : lvOk lv = true) (hlv : lv.set i (some (.int x)) = lv') (hp : pc + 2 = pc') (kk : AW Γ h k n lv' st pc') : AW Γ h k n lv (.int x :: st) pc := by
  obtain ⟨⟨p, e, R, s, m, args, below, meth, c, Q⟩, ⟨l, s0, b, L, xs, D, tc⟩, A, ad0, n0, nL⟩ := Γ
  obtain ⟨hx, hb, hml, hown, hr, hlocks, hR, hu, hW0, hold, hA, hA0⟩ := C
  subst hp hlv
  intro ad H locs ls g0 g1 g2 hP hD hS hl
  have hn2 : i < nL := by rw [Nat.blt_eq] at hn; rw [show nL = lv.length from hnL.symm]; exact hn
  exact lv_istore hx hb dg hl hn2 rfl (fun ls' hl' => kk ad H locs ls' g0 g1 g2 hP hD hS (lc_store ho hl'))
theorem A_astore_n (C : Cok Γ cc own ret d K N) {i : Fin 4} {x : Nat} {lv' : List (Option Value)} (dg : decode cc pc = .ok (.astore_n i, 1)) (hn : ((i : Nat)).blt lv.length = true) (hnL : lv.length = Γ.2.2.2.2.2) (ho : lvOk lv = true) (hlv : lv.set (i : Nat) (some (.ref x)) = lv') (hp : pc + 1 = pc') (kk : AW Γ h k n lv' st pc') : AW Γ h k n lv (.ref x :: st) pc := by
  obtain ⟨⟨p, e, R, s, m, args, below, meth, c, Q⟩, ⟨l, s0, b, L, xs, D, tc⟩, A, ad0, n0, nL⟩ := Γ
  obtain ⟨hx, hb, hml, hown, hr, hlocks, hR, hu, hW0, hold, hA, hA0⟩ := C
  subst hp hlv
  intro ad H locs ls g0 g1 g2 hP hD hS hl
  have hn2 : (i : Nat) < nL := by rw [Nat.blt_eq] at hn; rw [show nL = lv.length from hnL.symm]; exact hn
  exact lv_astore_n hx hb dg rfl hl hn2 rfl (fun ls' hl' => kk ad H locs ls' g0 g1 g2 hP hD hS (lc_store ho hl'))
theorem A_astore (C : Cok Γ cc own ret d K N) {i : Nat} {x : Nat} {lv' : List (Option Value)} (dg : decode cc pc = .ok (.astore i, 2)) (hn : (i).blt lv.length = true) (hnL : lv.length = Γ.2.2.2.2.2) (ho : lvOk lv = true) (hlv : lv.set i (some (.ref x)) = lv') (hp : pc + 2 = pc') (kk : AW Γ h k n lv' st pc') : AW Γ h k n lv (.ref x :: st) pc := by
  obtain ⟨⟨p, e, R, s, m, args, below, meth, c, Q⟩, ⟨l, s0, b, L, xs, D, tc⟩, A, ad0, n0, nL⟩ := Γ
  obtain ⟨hx, hb, hml, hown, hr, hlocks, hR, hu, hW0, hold, hA, hA0⟩ := C
  subst hp hlv
  intro ad H locs ls g0 g1 g2 hP hD hS hl
  have hn2 : i < nL := by rw [Nat.blt_eq] at hn; rw [show nL = lv.length from hnL.symm]; exact hn
  exact lv_astore hx hb dg hl hn2 rfl (fun ls' hl' => kk ad H locs ls' g0 g1 g2 hP hD hS (lc_store ho hl'))
theorem A_iinc (C : Cok Γ cc own ret d K N) {i : Nat} {z : Int} {x v : Int32} {lv' : List (Option Value)} (dg : decode cc pc = .ok (.iinc i z, 3)) (hx0 : lv[i]? = some (some (.int x))) (hv : x + Int32.ofInt z = v) (hn : i.blt lv.length = true) (hnL : lv.length = Γ.2.2.2.2.2) (ho : lvOk lv = true) (hlv : lv.set i (some (.int v)) = lv') (hp : pc + 3 = pc') (kk : AW Γ h k n lv' st pc') : AW Γ h k n lv st pc := by
  obtain ⟨⟨p, e, R, s, m, args, below, meth, c, Q⟩, ⟨l, s0, b, L, xs, D, tc⟩, A, ad0, n0, nL⟩ := Γ
  obtain ⟨hx, hb, hml, hown, hr, hlocks, hR, hu, hW0, hold, hA, hA0⟩ := C
  subst hp hlv
  intro ad H locs ls g0 g1 g2 hP hD hS hl
  have hn2 : i < nL := by rw [Nat.blt_eq] at hn; rw [show nL = lv.length from hnL.symm]; exact hn
  obtain ⟨j, hj⟩ := List.getElem?_of_mem (lc_mem (ad := ad) hx0)
  exact lv_iinc hx hb dg hl hj hv hn2 rfl (fun ls' hl' => kk ad H locs ls' g0 g1 g2 hP hD hS (lc_store ho hl'))
theorem A_iadd (C : Cok Γ cc own ret d K N) {x y : Int32} (dg : decode cc pc = .ok (.iadd, 1)) (hp : pc + 1 = pc') (kk : AW Γ h k n lv (.int (x + y) :: st) pc') : AW Γ h k n lv (.int y :: .int x :: st) pc := by
  obtain ⟨⟨p, e, R, s, m, args, below, meth, c, Q⟩, ⟨l, s0, b, L, xs, D, tc⟩, A, ad0, n0, nL⟩ := Γ
  obtain ⟨hx, hb, hml, hown, hr, hlocks, hR, hu, hW0, hold, hA, hA0⟩ := C
  subst hp
  intro ad H locs ls g0 g1 g2 hP hD hS hl
  exact lv_iadd hx hb dg (kk ad H locs ls g0 g1 g2 hP hD hS hl)
theorem A_isub (C : Cok Γ cc own ret d K N) {x y : Int32} (dg : decode cc pc = .ok (.isub, 1)) (hp : pc + 1 = pc') (kk : AW Γ h k n lv (.int (x - y) :: st) pc') : AW Γ h k n lv (.int y :: .int x :: st) pc := by
  obtain ⟨⟨p, e, R, s, m, args, below, meth, c, Q⟩, ⟨l, s0, b, L, xs, D, tc⟩, A, ad0, n0, nL⟩ := Γ
  obtain ⟨hx, hb, hml, hown, hr, hlocks, hR, hu, hW0, hold, hA, hA0⟩ := C
  subst hp
  intro ad H locs ls g0 g1 g2 hP hD hS hl
  exact lv_isub hx hb dg (kk ad H locs ls g0 g1 g2 hP hD hS hl)
theorem A_imul (C : Cok Γ cc own ret d K N) {x y : Int32} (dg : decode cc pc = .ok (.imul, 1)) (hp : pc + 1 = pc') (kk : AW Γ h k n lv (.int (x * y) :: st) pc') : AW Γ h k n lv (.int y :: .int x :: st) pc := by
  obtain ⟨⟨p, e, R, s, m, args, below, meth, c, Q⟩, ⟨l, s0, b, L, xs, D, tc⟩, A, ad0, n0, nL⟩ := Γ
  obtain ⟨hx, hb, hml, hown, hr, hlocks, hR, hu, hW0, hold, hA, hA0⟩ := C
  subst hp
  intro ad H locs ls g0 g1 g2 hP hD hS hl
  exact lv_imul hx hb dg (kk ad H locs ls g0 g1 g2 hP hD hS hl)
theorem A_iand (C : Cok Γ cc own ret d K N) {x y : Int32} (dg : decode cc pc = .ok (.iand, 1)) (hp : pc + 1 = pc') (kk : AW Γ h k n lv (.int (x &&& y) :: st) pc') : AW Γ h k n lv (.int y :: .int x :: st) pc := by
  obtain ⟨⟨p, e, R, s, m, args, below, meth, c, Q⟩, ⟨l, s0, b, L, xs, D, tc⟩, A, ad0, n0, nL⟩ := Γ
  obtain ⟨hx, hb, hml, hown, hr, hlocks, hR, hu, hW0, hold, hA, hA0⟩ := C
  subst hp
  intro ad H locs ls g0 g1 g2 hP hD hS hl
  exact lv_iand hx hb dg (kk ad H locs ls g0 g1 g2 hP hD hS hl)
theorem A_ior (C : Cok Γ cc own ret d K N) {x y : Int32} (dg : decode cc pc = .ok (.ior, 1)) (hp : pc + 1 = pc') (kk : AW Γ h k n lv (.int (x ||| y) :: st) pc') : AW Γ h k n lv (.int y :: .int x :: st) pc := by
  obtain ⟨⟨p, e, R, s, m, args, below, meth, c, Q⟩, ⟨l, s0, b, L, xs, D, tc⟩, A, ad0, n0, nL⟩ := Γ
  obtain ⟨hx, hb, hml, hown, hr, hlocks, hR, hu, hW0, hold, hA, hA0⟩ := C
  subst hp
  intro ad H locs ls g0 g1 g2 hP hD hS hl
  exact lv_ior hx hb dg (kk ad H locs ls g0 g1 g2 hP hD hS hl)
theorem A_ixor (C : Cok Γ cc own ret d K N) {x y : Int32} (dg : decode cc pc = .ok (.ixor, 1)) (hp : pc + 1 = pc') (kk : AW Γ h k n lv (.int (x ^^^ y) :: st) pc') : AW Γ h k n lv (.int y :: .int x :: st) pc := by
  obtain ⟨⟨p, e, R, s, m, args, below, meth, c, Q⟩, ⟨l, s0, b, L, xs, D, tc⟩, A, ad0, n0, nL⟩ := Γ
  obtain ⟨hx, hb, hml, hown, hr, hlocks, hR, hu, hW0, hold, hA, hA0⟩ := C
  subst hp
  intro ad H locs ls g0 g1 g2 hP hD hS hl
  exact lv_ixor hx hb dg (kk ad H locs ls g0 g1 g2 hP hD hS hl)
theorem A_idiv (C : Cok Γ cc own ret d K N) {x y : Int32} (dg : decode cc pc = .ok (.idiv, 1)) (hne : ¬ y = 0) (hp : pc + 1 = pc') (kk : AW Γ h k n lv (.int (x / y) :: st) pc') : AW Γ h k n lv (.int y :: .int x :: st) pc := by
  obtain ⟨⟨p, e, R, s, m, args, below, meth, c, Q⟩, ⟨l, s0, b, L, xs, D, tc⟩, A, ad0, n0, nL⟩ := Γ
  obtain ⟨hx, hb, hml, hown, hr, hlocks, hR, hu, hW0, hold, hA, hA0⟩ := C
  subst hp
  intro ad H locs ls g0 g1 g2 hP hD hS hl
  exact lv_idiv hx hb dg hne (kk ad H locs ls g0 g1 g2 hP hD hS hl)
theorem A_irem (C : Cok Γ cc own ret d K N) {x y : Int32} (dg : decode cc pc = .ok (.irem, 1)) (hne : ¬ y = 0) (hp : pc + 1 = pc') (kk : AW Γ h k n lv (.int (x - x / y * y) :: st) pc') : AW Γ h k n lv (.int y :: .int x :: st) pc := by
  obtain ⟨⟨p, e, R, s, m, args, below, meth, c, Q⟩, ⟨l, s0, b, L, xs, D, tc⟩, A, ad0, n0, nL⟩ := Γ
  obtain ⟨hx, hb, hml, hown, hr, hlocks, hR, hu, hW0, hold, hA, hA0⟩ := C
  subst hp
  intro ad H locs ls g0 g1 g2 hP hD hS hl
  exact lv_irem hx hb dg hne (kk ad H locs ls g0 g1 g2 hP hD hS hl)
theorem A_ishl (C : Cok Γ cc own ret d K N) {x y : Int32} (dg : decode cc pc = .ok (.ishl, 1)) (hp : pc + 1 = pc') (kk : AW Γ h k n lv (.int (x <<< (y &&& 31)) :: st) pc') : AW Γ h k n lv (.int y :: .int x :: st) pc := by
  obtain ⟨⟨p, e, R, s, m, args, below, meth, c, Q⟩, ⟨l, s0, b, L, xs, D, tc⟩, A, ad0, n0, nL⟩ := Γ
  obtain ⟨hx, hb, hml, hown, hr, hlocks, hR, hu, hW0, hold, hA, hA0⟩ := C
  subst hp
  intro ad H locs ls g0 g1 g2 hP hD hS hl
  exact lv_ishl hx hb dg (kk ad H locs ls g0 g1 g2 hP hD hS hl)
theorem A_ishr (C : Cok Γ cc own ret d K N) {x y : Int32} (dg : decode cc pc = .ok (.ishr, 1)) (hp : pc + 1 = pc') (kk : AW Γ h k n lv (.int (x >>> (y &&& 31)) :: st) pc') : AW Γ h k n lv (.int y :: .int x :: st) pc := by
  obtain ⟨⟨p, e, R, s, m, args, below, meth, c, Q⟩, ⟨l, s0, b, L, xs, D, tc⟩, A, ad0, n0, nL⟩ := Γ
  obtain ⟨hx, hb, hml, hown, hr, hlocks, hR, hu, hW0, hold, hA, hA0⟩ := C
  subst hp
  intro ad H locs ls g0 g1 g2 hP hD hS hl
  exact lv_ishr hx hb dg (kk ad H locs ls g0 g1 g2 hP hD hS hl)
theorem A_iushr (C : Cok Γ cc own ret d K N) {x y : Int32} (dg : decode cc pc = .ok (.iushr, 1)) (hp : pc + 1 = pc') (kk : AW Γ h k n lv (.int ((x.toUInt32 >>> (y.toUInt32 &&& Int32.toUInt32 31)).toInt32) :: st) pc') : AW Γ h k n lv (.int y :: .int x :: st) pc := by
  obtain ⟨⟨p, e, R, s, m, args, below, meth, c, Q⟩, ⟨l, s0, b, L, xs, D, tc⟩, A, ad0, n0, nL⟩ := Γ
  obtain ⟨hx, hb, hml, hown, hr, hlocks, hR, hu, hW0, hold, hA, hA0⟩ := C
  subst hp
  intro ad H locs ls g0 g1 g2 hP hD hS hl
  exact lv_iushr hx hb dg rfl (kk ad H locs ls g0 g1 g2 hP hD hS hl)
theorem A_i2l (C : Cok Γ cc own ret d K N) {x : Int32} (dg : decode cc pc = .ok (.i2l, 1)) (hp : pc + 1 = pc') (kk : AW Γ h k n lv (.long x.toInt64 :: st) pc') : AW Γ h k n lv (.int x :: st) pc := by
  obtain ⟨⟨p, e, R, s, m, args, below, meth, c, Q⟩, ⟨l, s0, b, L, xs, D, tc⟩, A, ad0, n0, nL⟩ := Γ
  obtain ⟨hx, hb, hml, hown, hr, hlocks, hR, hu, hW0, hold, hA, hA0⟩ := C
  subst hp
  intro ad H locs ls g0 g1 g2 hP hD hS hl
  exact lv_i2l hx hb dg rfl (kk ad H locs ls g0 g1 g2 hP hD hS hl)
theorem A_lcmp (C : Cok Γ cc own ret d K N) {x y : Int64} (dg : decode cc pc = .ok (.lcmp, 1)) (hp : pc + 1 = pc') (kk : AW Γ h k n lv (.int (lg_cmp x y) :: st) pc') : AW Γ h k n lv (.long y :: .long x :: st) pc := by
  obtain ⟨⟨p, e, R, s, m, args, below, meth, c, Q⟩, ⟨l, s0, b, L, xs, D, tc⟩, A, ad0, n0, nL⟩ := Γ
  obtain ⟨hx, hb, hml, hown, hr, hlocks, hR, hu, hW0, hold, hA, hA0⟩ := C
  subst hp
  intro ad H locs ls g0 g1 g2 hP hD hS hl
  exact W.lcmp hx hb dg (kk ad H locs ls g0 g1 g2 hP hD hS hl)
theorem A_dup (C : Cok Γ cc own ret d K N) {v : Value} (dg : decode cc pc = .ok (.dup, 1)) (hc : v.category = 1) (hp : pc + 1 = pc') (kk : AW Γ h k n lv (v :: v :: st) pc') : AW Γ h k n lv (v :: st) pc := by
  obtain ⟨⟨p, e, R, s, m, args, below, meth, c, Q⟩, ⟨l, s0, b, L, xs, D, tc⟩, A, ad0, n0, nL⟩ := Γ
  obtain ⟨hx, hb, hml, hown, hr, hlocks, hR, hu, hW0, hold, hA, hA0⟩ := C
  subst hp
  intro ad H locs ls g0 g1 g2 hP hD hS hl
  exact lv_dup hx hb dg (by rw [cv_cat]; exact hc) (kk ad H locs ls g0 g1 g2 hP hD hS hl)
theorem A_pop (C : Cok Γ cc own ret d K N) {v : Value} (dg : decode cc pc = .ok (.pop, 1)) (hc : v.category = 1) (hp : pc + 1 = pc') (kk : AW Γ h k n lv (st) pc') : AW Γ h k n lv (v :: st) pc := by
  obtain ⟨⟨p, e, R, s, m, args, below, meth, c, Q⟩, ⟨l, s0, b, L, xs, D, tc⟩, A, ad0, n0, nL⟩ := Γ
  obtain ⟨hx, hb, hml, hown, hr, hlocks, hR, hu, hW0, hold, hA, hA0⟩ := C
  subst hp
  intro ad H locs ls g0 g1 g2 hP hD hS hl
  exact lv_pop hx hb dg (by rw [cv_cat]; exact hc) (kk ad H locs ls g0 g1 g2 hP hD hS hl)
theorem A_dup2 (C : Cok Γ cc own ret d K N) {v u : Value} (dg : decode cc pc = .ok (.dup2, 1)) (hc : v.category = 1) (hc2 : u.category = 1) (hp : pc + 1 = pc') (kk : AW Γ h k n lv (v :: u :: v :: u :: st) pc') : AW Γ h k n lv (v :: u :: st) pc := by
  obtain ⟨⟨p, e, R, s, m, args, below, meth, c, Q⟩, ⟨l, s0, b, L, xs, D, tc⟩, A, ad0, n0, nL⟩ := Γ
  obtain ⟨hx, hb, hml, hown, hr, hlocks, hR, hu, hW0, hold, hA, hA0⟩ := C
  subst hp
  intro ad H locs ls g0 g1 g2 hP hD hS hl
  exact lv_dup2_11 hx hb dg (by rw [cv_cat]; exact hc) (by rw [cv_cat]; exact hc2) (kk ad H locs ls g0 g1 g2 hP hD hS hl)
theorem A_if_eq (C : Cok Γ cc own ret d K N) {x : Int32} {off : Int} {tgt : Nat} (dg : decode cc pc = .ok (.ifCond .eq off, 3)) (ht : (pc : Int) + off = (tgt : Int)) (hp : pc + 3 = pc') (kt : x = 0 → AW Γ h k n lv st tgt) (kf : ¬ x = 0 → AW Γ h k n lv st pc') : AW Γ h k n lv (.int x :: st) pc := by
  obtain ⟨⟨p, e, R, s, m, args, below, meth, c, Q⟩, ⟨l, s0, b, L, xs, D, tc⟩, A, ad0, n0, nL⟩ := Γ
  obtain ⟨hx, hb, hml, hown, hr, hlocks, hR, hu, hW0, hold, hA, hA0⟩ := C
  subst hp
  intro ad H locs ls g0 g1 g2 hP hD hS hl
  exact lv_if_eq hx hb dg ht (fun z => kt z ad H locs ls g0 g1 g2 hP hD hS hl) (fun z => kf z ad H locs ls g0 g1 g2 hP hD hS hl)
theorem A_icmp_eq (C : Cok Γ cc own ret d K N) {x y : Int32} {off : Int} {tgt : Nat} (dg : decode cc pc = .ok (.if_icmp .eq off, 3)) (ht : (pc : Int) + off = (tgt : Int)) (hp : pc + 3 = pc') (kt : x = y → AW Γ h k n lv st tgt) (kf : ¬ x = y → AW Γ h k n lv st pc') : AW Γ h k n lv (.int y :: .int x :: st) pc := by
  obtain ⟨⟨p, e, R, s, m, args, below, meth, c, Q⟩, ⟨l, s0, b, L, xs, D, tc⟩, A, ad0, n0, nL⟩ := Γ
  obtain ⟨hx, hb, hml, hown, hr, hlocks, hR, hu, hW0, hold, hA, hA0⟩ := C
  subst hp
  intro ad H locs ls g0 g1 g2 hP hD hS hl
  exact lv_icmp_eq hx hb dg ht (fun z => kt z ad H locs ls g0 g1 g2 hP hD hS hl) (fun z => kf z ad H locs ls g0 g1 g2 hP hD hS hl)
theorem A_if_ne (C : Cok Γ cc own ret d K N) {x : Int32} {off : Int} {tgt : Nat} (dg : decode cc pc = .ok (.ifCond .ne off, 3)) (ht : (pc : Int) + off = (tgt : Int)) (hp : pc + 3 = pc') (kt : ¬ x = 0 → AW Γ h k n lv st tgt) (kf : x = 0 → AW Γ h k n lv st pc') : AW Γ h k n lv (.int x :: st) pc := by
  obtain ⟨⟨p, e, R, s, m, args, below, meth, c, Q⟩, ⟨l, s0, b, L, xs, D, tc⟩, A, ad0, n0, nL⟩ := Γ
  obtain ⟨hx, hb, hml, hown, hr, hlocks, hR, hu, hW0, hold, hA, hA0⟩ := C
  subst hp
  intro ad H locs ls g0 g1 g2 hP hD hS hl
  exact lv_if_ne hx hb dg ht (fun z => kt z ad H locs ls g0 g1 g2 hP hD hS hl) (fun z => kf z ad H locs ls g0 g1 g2 hP hD hS hl)
theorem A_icmp_ne (C : Cok Γ cc own ret d K N) {x y : Int32} {off : Int} {tgt : Nat} (dg : decode cc pc = .ok (.if_icmp .ne off, 3)) (ht : (pc : Int) + off = (tgt : Int)) (hp : pc + 3 = pc') (kt : ¬ x = y → AW Γ h k n lv st tgt) (kf : x = y → AW Γ h k n lv st pc') : AW Γ h k n lv (.int y :: .int x :: st) pc := by
  obtain ⟨⟨p, e, R, s, m, args, below, meth, c, Q⟩, ⟨l, s0, b, L, xs, D, tc⟩, A, ad0, n0, nL⟩ := Γ
  obtain ⟨hx, hb, hml, hown, hr, hlocks, hR, hu, hW0, hold, hA, hA0⟩ := C
  subst hp
  intro ad H locs ls g0 g1 g2 hP hD hS hl
  exact lv_icmp_ne hx hb dg ht (fun z => kt z ad H locs ls g0 g1 g2 hP hD hS hl) (fun z => kf z ad H locs ls g0 g1 g2 hP hD hS hl)
theorem A_if_lt (C : Cok Γ cc own ret d K N) {x : Int32} {off : Int} {tgt : Nat} (dg : decode cc pc = .ok (.ifCond .lt off, 3)) (ht : (pc : Int) + off = (tgt : Int)) (hp : pc + 3 = pc') (kt : x < 0 → AW Γ h k n lv st tgt) (kf : ¬ x < 0 → AW Γ h k n lv st pc') : AW Γ h k n lv (.int x :: st) pc := by
  obtain ⟨⟨p, e, R, s, m, args, below, meth, c, Q⟩, ⟨l, s0, b, L, xs, D, tc⟩, A, ad0, n0, nL⟩ := Γ
  obtain ⟨hx, hb, hml, hown, hr, hlocks, hR, hu, hW0, hold, hA, hA0⟩ := C
  subst hp
  intro ad H locs ls g0 g1 g2 hP hD hS hl
  exact lv_if_lt hx hb dg ht (fun z => kt z ad H locs ls g0 g1 g2 hP hD hS hl) (fun z => kf z ad H locs ls g0 g1 g2 hP hD hS hl)
theorem A_icmp_lt (C : Cok Γ cc own ret d K N) {x y : Int32} {off : Int} {tgt : Nat} (dg : decode cc pc = .ok (.if_icmp .lt off, 3)) (ht : (pc : Int) + off = (tgt : Int)) (hp : pc + 3 = pc') (kt : x < y → AW Γ h k n lv st tgt) (kf : ¬ x < y → AW Γ h k n lv st pc') : AW Γ h k n lv (.int y :: .int x :: st) pc := by
  obtain ⟨⟨p, e, R, s, m, args, below, meth, c, Q⟩, ⟨l, s0, b, L, xs, D, tc⟩, A, ad0, n0, nL⟩ := Γ
  obtain ⟨hx, hb, hml, hown, hr, hlocks, hR, hu, hW0, hold, hA, hA0⟩ := C
  subst hp
  intro ad H locs ls g0 g1 g2 hP hD hS hl
  exact lv_icmp_lt hx hb dg ht (fun z => kt z ad H locs ls g0 g1 g2 hP hD hS hl) (fun z => kf z ad H locs ls g0 g1 g2 hP hD hS hl)
theorem A_if_ge (C : Cok Γ cc own ret d K N) {x : Int32} {off : Int} {tgt : Nat} (dg : decode cc pc = .ok (.ifCond .ge off, 3)) (ht : (pc : Int) + off = (tgt : Int)) (hp : pc + 3 = pc') (kt : 0 ≤ x → AW Γ h k n lv st tgt) (kf : ¬ 0 ≤ x → AW Γ h k n lv st pc') : AW Γ h k n lv (.int x :: st) pc := by
  obtain ⟨⟨p, e, R, s, m, args, below, meth, c, Q⟩, ⟨l, s0, b, L, xs, D, tc⟩, A, ad0, n0, nL⟩ := Γ
  obtain ⟨hx, hb, hml, hown, hr, hlocks, hR, hu, hW0, hold, hA, hA0⟩ := C
  subst hp
  intro ad H locs ls g0 g1 g2 hP hD hS hl
  exact lv_if_ge hx hb dg ht (fun z => kt z ad H locs ls g0 g1 g2 hP hD hS hl) (fun z => kf z ad H locs ls g0 g1 g2 hP hD hS hl)
theorem A_icmp_ge (C : Cok Γ cc own ret d K N) {x y : Int32} {off : Int} {tgt : Nat} (dg : decode cc pc = .ok (.if_icmp .ge off, 3)) (ht : (pc : Int) + off = (tgt : Int)) (hp : pc + 3 = pc') (kt : y ≤ x → AW Γ h k n lv st tgt) (kf : ¬ y ≤ x → AW Γ h k n lv st pc') : AW Γ h k n lv (.int y :: .int x :: st) pc := by
  obtain ⟨⟨p, e, R, s, m, args, below, meth, c, Q⟩, ⟨l, s0, b, L, xs, D, tc⟩, A, ad0, n0, nL⟩ := Γ
  obtain ⟨hx, hb, hml, hown, hr, hlocks, hR, hu, hW0, hold, hA, hA0⟩ := C
  subst hp
  intro ad H locs ls g0 g1 g2 hP hD hS hl
  exact lv_icmp_ge hx hb dg ht (fun z => kt z ad H locs ls g0 g1 g2 hP hD hS hl) (fun z => kf z ad H locs ls g0 g1 g2 hP hD hS hl)
theorem A_if_gt (C : Cok Γ cc own ret d K N) {x : Int32} {off : Int} {tgt : Nat} (dg : decode cc pc = .ok (.ifCond .gt off, 3)) (ht : (pc : Int) + off = (tgt : Int)) (hp : pc + 3 = pc') (kt : 0 < x → AW Γ h k n lv st tgt) (kf : ¬ 0 < x → AW Γ h k n lv st pc') : AW Γ h k n lv (.int x :: st) pc := by
  obtain ⟨⟨p, e, R, s, m, args, below, meth, c, Q⟩, ⟨l, s0, b, L, xs, D, tc⟩, A, ad0, n0, nL⟩ := Γ
  obtain ⟨hx, hb, hml, hown, hr, hlocks, hR, hu, hW0, hold, hA, hA0⟩ := C
  subst hp
  intro ad H locs ls g0 g1 g2 hP hD hS hl
  exact lv_if_gt hx hb dg ht (fun z => kt z ad H locs ls g0 g1 g2 hP hD hS hl) (fun z => kf z ad H locs ls g0 g1 g2 hP hD hS hl)
theorem A_icmp_gt (C : Cok Γ cc own ret d K N) {x y : Int32} {off : Int} {tgt : Nat} (dg : decode cc pc = .ok (.if_icmp .gt off, 3)) (ht : (pc : Int) + off = (tgt : Int)) (hp : pc + 3 = pc') (kt : y < x → AW Γ h k n lv st tgt) (kf : ¬ y < x → AW Γ h k n lv st pc') : AW Γ h k n lv (.int y :: .int x :: st) pc := by
  obtain ⟨⟨p, e, R, s, m, args, below, meth, c, Q⟩, ⟨l, s0, b, L, xs, D, tc⟩, A, ad0, n0, nL⟩ := Γ
  obtain ⟨hx, hb, hml, hown, hr, hlocks, hR, hu, hW0, hold, hA, hA0⟩ := C
  subst hp
  intro ad H locs ls g0 g1 g2 hP hD hS hl
  exact lv_icmp_gt hx hb dg ht (fun z => kt z ad H locs ls g0 g1 g2 hP hD hS hl) (fun z => kf z ad H locs ls g0 g1 g2 hP hD hS hl)
theorem A_if_le (C : Cok Γ cc own ret d K N) {x : Int32} {off : Int} {tgt : Nat} (dg : decode cc pc = .ok (.ifCond .le off, 3)) (ht : (pc : Int) + off = (tgt : Int)) (hp : pc + 3 = pc') (kt : x ≤ 0 → AW Γ h k n lv st tgt) (kf : ¬ x ≤ 0 → AW Γ h k n lv st pc') : AW Γ h k n lv (.int x :: st) pc := by
  obtain ⟨⟨p, e, R, s, m, args, below, meth, c, Q⟩, ⟨l, s0, b, L, xs, D, tc⟩, A, ad0, n0, nL⟩ := Γ
  obtain ⟨hx, hb, hml, hown, hr, hlocks, hR, hu, hW0, hold, hA, hA0⟩ := C
  subst hp
  intro ad H locs ls g0 g1 g2 hP hD hS hl
  exact lv_if_le hx hb dg ht (fun z => kt z ad H locs ls g0 g1 g2 hP hD hS hl) (fun z => kf z ad H locs ls g0 g1 g2 hP hD hS hl)
theorem A_icmp_le (C : Cok Γ cc own ret d K N) {x y : Int32} {off : Int} {tgt : Nat} (dg : decode cc pc = .ok (.if_icmp .le off, 3)) (ht : (pc : Int) + off = (tgt : Int)) (hp : pc + 3 = pc') (kt : x ≤ y → AW Γ h k n lv st tgt) (kf : ¬ x ≤ y → AW Γ h k n lv st pc') : AW Γ h k n lv (.int y :: .int x :: st) pc := by
  obtain ⟨⟨p, e, R, s, m, args, below, meth, c, Q⟩, ⟨l, s0, b, L, xs, D, tc⟩, A, ad0, n0, nL⟩ := Γ
  obtain ⟨hx, hb, hml, hown, hr, hlocks, hR, hu, hW0, hold, hA, hA0⟩ := C
  subst hp
  intro ad H locs ls g0 g1 g2 hP hD hS hl
  exact lv_icmp_le hx hb dg ht (fun z => kt z ad H locs ls g0 g1 g2 hP hD hS hl) (fun z => kf z ad H locs ls g0 g1 g2 hP hD hS hl)
theorem A_goto (C : Cok Γ cc own ret d K N) {off : Int} {tgt : Nat} (dg : decode cc pc = .ok (.goto off, 3)) (ht : (pc : Int) + off = (tgt : Int)) (kk : AW Γ h k n lv st tgt) : AW Γ h k n lv st pc := by
  obtain ⟨⟨p, e, R, s, m, args, below, meth, c, Q⟩, ⟨l, s0, b, L, xs, D, tc⟩, A, ad0, n0, nL⟩ := Γ
  obtain ⟨hx, hb, hml, hown, hr, hlocks, hR, hu, hW0, hold, hA, hA0⟩ := C
  intro ad H locs ls g0 g1 g2 hP hD hS hl
  exact lv_goto hx hb dg ht (kk ad H locs ls g0 g1 g2 hP hD hS hl)
theorem A_tableOut (C : Cok Γ cc own ret d K N) {dflt lo hi : Int} {offs : Array Int} {len tgt : Nat} {x : Int32} (dg : decode cc pc = .ok (.tableswitch dflt lo hi offs, len)) (hc : x.toInt < lo ∨ hi < x.toInt) (ht : (pc : Int) + dflt = (tgt : Int)) (kk : AW Γ h k n lv st tgt) : AW Γ h k n lv (.int x :: st) pc := by
  obtain ⟨⟨p, e, R, s, m, args, below, meth, c, Q⟩, ⟨l, s0, b, L, xs, D, tc⟩, A, ad0, n0, nL⟩ := Γ
  obtain ⟨hx, hb, hml, hown, hr, hlocks, hR, hu, hW0, hold, hA, hA0⟩ := C
  intro ad H locs ls g0 g1 g2 hP hD hS hl
  exact lv_tableOut hx hb dg hc ht (kk ad H locs ls g0 g1 g2 hP hD hS hl)
theorem A_tableIn (C : Cok Γ cc own ret d K N) {dflt lo hi : Int} {offs : Array Int} {len tgt : Nat} {x : Int32} {off : Int} (dg : decode cc pc = .ok (.tableswitch dflt lo hi offs, len)) (h1 : ¬ x.toInt < lo) (h2 : ¬ hi < x.toInt) (ho : offs[(x.toInt - lo).toNat]? = some off) (ht : (pc : Int) + off = (tgt : Int)) (kk : AW Γ h k n lv st tgt) : AW Γ h k n lv (.int x :: st) pc := by
  obtain ⟨⟨p, e, R, s, m, args, below, meth, c, Q⟩, ⟨l, s0, b, L, xs, D, tc⟩, A, ad0, n0, nL⟩ := Γ
  obtain ⟨hx, hb, hml, hown, hr, hlocks, hR, hu, hW0, hold, hA, hA0⟩ := C
  intro ad H locs ls g0 g1 g2 hP hD hS hl
  exact lv_tableIn hx hb dg h1 h2 ho ht (kk ad H locs ls g0 g1 g2 hP hD hS hl)
/-- a class's words are among the tables' -/
def clOk (C : String) (T : u_T) (M : Nat) : Bool := (u_ws C T M).all (fun w => decide (w ∈ lw_tbl) && goodWord w)
theorem un_cl {l : Launch} {s0 : State} {b L : Nat} {xs : Nat → Int32} {D : va_G} {tc : Nat → ClassId} (hu : Un (l, s0, b, L, xs, D, tc)) {C : String} {T : u_T} {M : Nat} (hc : clOk C T M = true) {U : State} (hU : s0.WarmedH U.vm) (a' : Array Value) : ∀ w ∈ u_ws C T M, w.before a' U = true := fun w hw => un_word hu (List.all_eq_true.mp hc w hw) hU a'
theorem A_get (C : Cok Γ cc own ret d K N) {i : Nat} {Cn : String} {T : u_T} {M ci j id : Nat} {fs : List Value} {v : Value} (hcl : clOk Cn T M = true) (hci : vwCl[ci]? = some (Cn, T, M)) (hj : j.blt M = true) (hw : (decide (Cond.fieldLink own i (T j).1 (T j).2.1 (T j).2.2.1 ∈ lw_tbl) && goodWord (Cond.fieldLink own i (T j).1 (T j).2.1 (T j).2.2.1)) = true) (dg : decode cc pc = .ok (.getfield i, 3)) (he : h[id]? = some (.inr (ci, fs))) (hv : fs[j]? = some v) (hp : pc + 3 = pc') (kk : AW Γ h k n lv (v :: st) pc') : AW Γ h k n lv (.ref id :: st) pc := by
  obtain ⟨⟨p, e, R, s, m, args, below, meth, c, Q⟩, ⟨l, s0, b, L, xs, D, tc⟩, A, ad0, n0, nL⟩ := Γ
  obtain ⟨hx, hb, hml, hown, hr, hlocks, hR, hu, hW0, hold, hA, hA0⟩ := C
  subst hp
  intro ad H locs ls g0 g1 g2 hP hD hS hl
  exact va_get (D := D) hx hb (un_cl hu hcl hW0 args) (fun _ z => z) hown (va_K.moved hW0.alike hu.2.1) hP id (cw_get he) hci j (by rw [Nat.blt_eq] at hj; exact hj) (un_word hu hw hW0 args) (fun _ z => z) (by rw [List.getElem?_map, hv]; rfl) dg (kk ad H locs ls g0 g1 g2 hP hD hS hl)
theorem A_getN (C : Cok Γ cc own ret d K N) {i : Nat} {Cn host : String} {T : u_T} {M ci j id : Nat} {fs : List Value} {v : Value} (hcl : clOk Cn T M = true) (hci : vwCl[ci]? = some (Cn, T, M)) (hj : j.blt M = true) (hw : Cond.fieldLinkNest own i (T j).1 (T j).2.1 (T j).2.2.1 host ∈ lw_tbl) (dg : decode cc pc = .ok (.getfield i, 3)) (he : h[id]? = some (.inr (ci, fs))) (hv : fs[j]? = some v) (hp : pc + 3 = pc') (kk : AW Γ h k n lv (v :: st) pc') : AW Γ h k n lv (.ref id :: st) pc := by
  obtain ⟨⟨p, e, R, s, m, args, below, meth, c, Q⟩, ⟨l, s0, b, L, xs, D, tc⟩, A, ad0, n0, nL⟩ := Γ
  obtain ⟨hx, hb, hml, hown, hr, hlocks, hR, hu, hW0, hold, hA, hA0⟩ := C
  subst hp
  intro ad H locs ls g0 g1 g2 hP hD hS hl
  exact va_getN (D := D) hx hb (un_cl hu hcl hW0 args) (fun _ z => z) hown (va_K.moved hW0.alike hu.2.1) hP id (cw_get he) hci j (by rw [Nat.blt_eq] at hj; exact hj) (va_Nw.use rfl (un_nestF hu hw hW0)) (fun _ z => z) (by rw [List.getElem?_map, hv]; rfl) dg (kk ad H locs ls g0 g1 g2 hP hD hS hl)
theorem A_put (C : Cok Γ cc own ret d K N) {i : Nat} {Cn : String} {T : u_T} {M ci j id : Nat} {fs : List Value} {v : Value} {ty : FieldType} {h1 : List va_E} (ty0 : Nat → FieldType) (hty : ∀ q, q < M → parseFieldDescriptor (T q).2.2.1 = some (ty0 q)) (hnm : ∀ a, a < M → ∀ b, b < M → a ≠ b → (T a).2.1 ≠ (T b).2.1) (hcl : clOk Cn T M = true) (hci : vwCl[ci]? = some (Cn, T, M)) (hj : j.blt M = true) (hw : (decide (Cond.fieldLink own i (T j).1 (T j).2.1 (T j).2.2.1 ∈ lw_tbl) && goodWord (Cond.fieldLink own i (T j).1 (T j).2.1 (T j).2.2.1)) = true) (hfin : (T j).2.2.2 = false) (hd : parseFieldDescriptor (T j).2.2.1 = some ty) (hna : ∀ ad, narrow ty (cv ad v) = cv ad v) (hfit : ∀ ad, fits ty (cv ad v) = true) (hlen : j.blt fs.length = true) (dg : decode cc pc = .ok (.putfield i, 3)) (he : h[id]? = some (.inr (ci, fs))) (hh : h.set id (.inr (ci, fs.set j v)) = h1) (hp : pc + 3 = pc') (kk : AW Γ h1 k n lv st pc') : AW Γ h k n lv (v :: .ref id :: st) pc := by
  obtain ⟨⟨p, e, R, s, m, args, below, meth, c, Q⟩, ⟨l, s0, b, L, xs, D, tc⟩, A, ad0, n0, nL⟩ := Γ
  obtain ⟨hx, hb, hml, hown, hr, hlocks, hR, hu, hW0, hold, hA, hA0⟩ := C
  subst hp hh
  intro ad H locs ls g0 g1 g2 hP hD hS hl
  refine va_put (D := D) hx hb (un_cl hu hcl hW0 args) (fun _ z => z) ty0 hty hnm hown (va_K.moved hW0.alike hu.2.1) hP hD hS id (cw_get he) hci j (by rw [Nat.blt_eq] at hj; exact hj) (un_word hu hw hW0 args) (fun _ z => z) hfin hd (hna ad) (hfit ad) (by rw [List.length_map]; rw [Nat.blt_eq] at hlen; exact hlen) dg ?_
  intro H1 locs1 hP1 hD1 hS1
  have e1 : (ad id, (Sum.inr (ci, (fs.map (cv ad)).set j (cv ad v)) : va_E)) = (ad id, ce ad tc (.inr (ci, fs.set j v))) := by
    show _ = (ad id, (Sum.inr (ci, (fs.set j v).map (cv ad)) : va_E))
    rw [List.map_set]
  rw [e1, cw_set] at hP1 hD1
  exact kk ad H1 locs1 ls (by rw [List.length_set]; exact g0) g1 g2 hP1 hD1 hS1 hl
theorem A_putN (C : Cok Γ cc own ret d K N) {i : Nat} {Cn : String} {T : u_T} {M ci j id : Nat} {fs : List Value} {v : Value} {ty : FieldType} {h1 : List va_E} (ty0 : Nat → FieldType) (hty : ∀ q, q < M → parseFieldDescriptor (T q).2.2.1 = some (ty0 q)) (hnm : ∀ a, a < M → ∀ b, b < M → a ≠ b → (T a).2.1 ≠ (T b).2.1) (hcl : clOk Cn T M = true) (hci : vwCl[ci]? = some (Cn, T, M)) (hj : j.blt M = true) {host : String} (hw : Cond.fieldLinkNest own i (T j).1 (T j).2.1 (T j).2.2.1 host ∈ lw_tbl) (hfin : (T j).2.2.2 = false) (hd : parseFieldDescriptor (T j).2.2.1 = some ty) (hna : ∀ ad, narrow ty (cv ad v) = cv ad v) (hfit : ∀ ad, fits ty (cv ad v) = true) (hlen : j.blt fs.length = true) (dg : decode cc pc = .ok (.putfield i, 3)) (he : h[id]? = some (.inr (ci, fs))) (hh : h.set id (.inr (ci, fs.set j v)) = h1) (hp : pc + 3 = pc') (kk : AW Γ h1 k n lv st pc') : AW Γ h k n lv (v :: .ref id :: st) pc := by
  obtain ⟨⟨p, e, R, s, m, args, below, meth, c, Q⟩, ⟨l, s0, b, L, xs, D, tc⟩, A, ad0, n0, nL⟩ := Γ
  obtain ⟨hx, hb, hml, hown, hr, hlocks, hR, hu, hW0, hold, hA, hA0⟩ := C
  subst hp hh
  intro ad H locs ls g0 g1 g2 hP hD hS hl
  refine va_putN (D := D) hx hb (un_cl hu hcl hW0 args) (fun _ z => z) ty0 hty hnm hown (va_K.moved hW0.alike hu.2.1) hP hD hS id (cw_get he) hci j (by rw [Nat.blt_eq] at hj; exact hj) (va_Nw.use rfl (un_nestF hu hw hW0)) (fun _ z => z) hfin hd (hna ad) (hfit ad) (by rw [List.length_map]; rw [Nat.blt_eq] at hlen; exact hlen) dg ?_
  intro H1 locs1 hP1 hD1 hS1
  have e1 : (ad id, (Sum.inr (ci, (fs.map (cv ad)).set j (cv ad v)) : va_E)) = (ad id, ce ad tc (.inr (ci, fs.set j v))) := by
    show _ = (ad id, (Sum.inr (ci, (fs.set j v).map (cv ad)) : va_E))
    rw [List.map_set]
  rw [e1, cw_set] at hP1 hD1
  exact kk ad H1 locs1 ls (by rw [List.length_set]; exact g0) g1 g2 hP1 hD1 hS1 hl
theorem A_putF (C : Cok Γ cc own ret d K N) {i : Nat} {Cn : String} {T : u_T} {M ci j id : Nat} {fs : List Value} {v : Value} {ty : FieldType} {h1 : List va_E} (ty0 : Nat → FieldType) (hty : ∀ q, q < M → parseFieldDescriptor (T q).2.2.1 = some (ty0 q)) (hnm : ∀ a, a < M → ∀ b, b < M → a ≠ b → (T a).2.1 ≠ (T b).2.1) (hcl : clOk Cn T M = true) (hci : vwCl[ci]? = some (Cn, T, M)) (hj : j.blt M = true) (hw : (decide (Cond.fieldLink own i (T j).1 (T j).2.1 (T j).2.2.1 ∈ lw_tbl) && goodWord (Cond.fieldLink own i (T j).1 (T j).2.1 (T j).2.2.1)) = true) (hfin : (T j).2.2.2 = true) (hin2 : Γ.1.2.2.2.2.2.2.2.1.name = "<init>") (hdecl : (T j).1 = own) (hd : parseFieldDescriptor (T j).2.2.1 = some ty) (hna : ∀ ad, narrow ty (cv ad v) = cv ad v) (hfit : ∀ ad, fits ty (cv ad v) = true) (hlen : j.blt fs.length = true) (dg : decode cc pc = .ok (.putfield i, 3)) (he : h[id]? = some (.inr (ci, fs))) (hh : h.set id (.inr (ci, fs.set j v)) = h1) (hp : pc + 3 = pc') (kk : AW Γ h1 k n lv st pc') : AW Γ h k n lv (v :: .ref id :: st) pc := by
  obtain ⟨⟨p, e, R, s, m, args, below, meth, c, Q⟩, ⟨l, s0, b, L, xs, D, tc⟩, A, ad0, n0, nL⟩ := Γ
  obtain ⟨hx, hb, hml, hown, hr, hlocks, hR, hu, hW0, hold, hA, hA0⟩ := C
  subst hp hh
  intro ad H locs ls g0 g1 g2 hP hD hS hl
  refine va_putF (D := D) hx hb (un_cl hu hcl hW0 args) (fun _ z => z) ty0 hty hnm hown (va_K.moved hW0.alike hu.2.1) hP hD hS id (cw_get he) hci j (by rw [Nat.blt_eq] at hj; exact hj) (un_word hu hw hW0 args) (fun _ z => z) hfin hin2 hdecl hd (hna ad) (hfit ad) (by rw [List.length_map]; rw [Nat.blt_eq] at hlen; exact hlen) dg ?_
  intro H1 locs1 hP1 hD1 hS1
  have e1 : (ad id, (Sum.inr (ci, (fs.map (cv ad)).set j (cv ad v)) : va_E)) = (ad id, ce ad tc (.inr (ci, fs.set j v))) := by
    show _ = (ad id, (Sum.inr (ci, (fs.set j v).map (cv ad)) : va_E))
    rw [List.map_set]
  rw [e1, cw_set] at hP1 hD1
  exact kk ad H1 locs1 ls (by rw [List.length_set]; exact g0) g1 g2 hP1 hD1 hS1 hl
theorem A_iald (C : Cok Γ cc own ret d K N) {id M : Nat} {f : Nat → Int32} {i : Int32} (he : h[id]? = some (.inl (0, M, .inl f))) (hin : vp_in i M) (dg : decode cc pc = .ok (.iaload, 1)) (hp : pc + 1 = pc') (kk : AW Γ h k n lv (.int (f i.toNatClampNeg) :: st) pc') : AW Γ h k n lv (.int i :: .ref id :: st) pc := by
  obtain ⟨⟨p, e, R, s, m, args, below, meth, c, Q⟩, ⟨l, s0, b, L, xs, D, tc⟩, A, ad0, n0, nL⟩ := Γ
  obtain ⟨hx, hb, hml, hown, hr, hlocks, hR, hu, hW0, hold, hA, hA0⟩ := C
  subst hp
  intro ad H locs ls g0 g1 g2 hP hD hS hl
  exact va_iald (D := D) hx hb (va_K.moved hW0.alike hu.2.1) hP id 0 (cw_get he) rfl hin dg (kk ad H locs ls g0 g1 g2 hP hD hS hl)
theorem A_zald (C : Cok Γ cc own ret d K N) {id M : Nat} {f : Nat → Int32} {i : Int32} (he : h[id]? = some (.inl (2, M, .inl f))) (hin : vp_in i M) (dg : decode cc pc = .ok (.baload, 1)) (hp : pc + 1 = pc') (kk : AW Γ h k n lv (.int (f i.toNatClampNeg) :: st) pc') : AW Γ h k n lv (.int i :: .ref id :: st) pc := by
  obtain ⟨⟨p, e, R, s, m, args, below, meth, c, Q⟩, ⟨l, s0, b, L, xs, D, tc⟩, A, ad0, n0, nL⟩ := Γ
  obtain ⟨hx, hb, hml, hown, hr, hlocks, hR, hu, hW0, hold, hA, hA0⟩ := C
  subst hp
  intro ad H locs ls g0 g1 g2 hP hD hS hl
  exact va_zald (D := D) hx hb (va_K.moved hW0.alike hu.2.1) hP id 2 (cw_get he) rfl hin dg (kk ad H locs ls g0 g1 g2 hP hD hS hl)
theorem A_lald (C : Cok Γ cc own ret d K N) {id M : Nat} {f : Nat → Int64} {i : Int32} (he : h[id]? = some (.inl (1, M, .inr (.inl f)))) (hin : vp_in i M) (dg : decode cc pc = .ok (.laload, 1)) (hp : pc + 1 = pc') (kk : AW Γ h k n lv (.long (f i.toNatClampNeg) :: st) pc') : AW Γ h k n lv (.int i :: .ref id :: st) pc := by
  obtain ⟨⟨p, e, R, s, m, args, below, meth, c, Q⟩, ⟨l, s0, b, L, xs, D, tc⟩, A, ad0, n0, nL⟩ := Γ
  obtain ⟨hx, hb, hml, hown, hr, hlocks, hR, hu, hW0, hold, hA, hA0⟩ := C
  subst hp
  intro ad H locs ls g0 g1 g2 hP hD hS hl
  exact va_lald (D := D) hx hb (va_K.moved hW0.alike hu.2.1) hP id 1 (cw_get he) rfl hin dg (kk ad H locs ls g0 g1 g2 hP hD hS hl)
theorem A_sald (C : Cok Γ cc own ret d K N) {i : Int32} (hin : vp_in i Γ.2.1.2.2.2.1) (dg : decode cc pc = .ok (.iaload, 1)) (hp : pc + 1 = pc') (kk : AW Γ h k n lv (.int (Γ.2.1.2.2.2.2.1 i.toNatClampNeg) :: st) pc') : AW Γ h k n lv (.int i :: .ref SCR :: st) pc := by
  obtain ⟨⟨p, e, R, s, m, args, below, meth, c, Q⟩, ⟨l, s0, b, L, xs, D, tc⟩, A, ad0, n0, nL⟩ := Γ
  obtain ⟨hx, hb, hml, hown, hr, hlocks, hR, hu, hW0, hold, hA, hA0⟩ := C
  subst hp
  intro ad H locs ls g0 g1 g2 hP hD hS hl
  have hX : va_X b L xs s s.heap := (hu.2.2.1.kept (hold.2 b hu.2.2.2.1)).moved hW0.alike
  have e1 : List.map (cv ad) (.int i :: .ref SCR :: st) = .int i :: .ref b :: st.map (cv ad) := by simp [cv, g2]
  rw [e1]
  exact va_sld hx hb hX (Nat.lt_of_lt_of_le hu.2.2.2.1 hold.1) (fun z => absurd (hA0 b z) (Nat.not_le.mpr hu.2.2.2.1)) hS hin dg (kk ad H locs ls g0 g1 g2 hP hD hS hl)
theorem A_slen (C : Cok Γ cc own ret d K N) (dg : decode cc pc = .ok (.arraylength, 1)) (hp : pc + 1 = pc') (kk : AW Γ h k n lv (.int (Int32.ofNat Γ.2.1.2.2.2.1) :: st) pc') : AW Γ h k n lv (.ref SCR :: st) pc := by
  obtain ⟨⟨p, e, R, s, m, args, below, meth, c, Q⟩, ⟨l, s0, b, L, xs, D, tc⟩, A, ad0, n0, nL⟩ := Γ
  obtain ⟨hx, hb, hml, hown, hr, hlocks, hR, hu, hW0, hold, hA, hA0⟩ := C
  subst hp
  intro ad H locs ls g0 g1 g2 hP hD hS hl
  have hX : va_X b L xs s s.heap := (hu.2.2.1.kept (hold.2 b hu.2.2.2.1)).moved hW0.alike
  have e1 : List.map (cv ad) (.ref SCR :: st) = .ref b :: st.map (cv ad) := by simp [cv, g2]
  rw [e1]
  exact va_slen hx hb hX (Nat.lt_of_lt_of_le hu.2.2.2.1 hold.1) (fun z => absurd (hA0 b z) (Nat.not_le.mpr hu.2.2.2.1)) hS dg (kk ad H locs ls g0 g1 g2 hP hD hS hl)
theorem A_alen (C : Cok Γ cc own ret d K N) {id M tix : Nat} {x : vp_A} {ty : FieldType} {v : Int32} (he : h[id]? = some (.inl (tix, x))) (ht : ∀ tc : Nat → ClassId, (tyl tc)[tix]? = some (tc tix, ty)) (hv : Int32.ofNat x.1 = v) (dg : decode cc pc = .ok (.arraylength, 1)) (hp : pc + 1 = pc') (kk : AW Γ h k n lv (.int v :: st) pc') : AW Γ h k n lv (.ref id :: st) pc := by
  obtain ⟨⟨p, e, R, s, m, args, below, meth, c, Q⟩, ⟨l, s0, b, L, xs, D, tc⟩, A, ad0, n0, nL⟩ := Γ
  obtain ⟨hx, hb, hml, hown, hr, hlocks, hR, hu, hW0, hold, hA, hA0⟩ := C
  subst hp
  intro ad H locs ls g0 g1 g2 hP hD hS hl
  exact va_alen (D := D) hx hb (va_K.moved hW0.alike hu.2.1) hP id tix (cw_get he) (ht tc) hv dg (kk ad H locs ls g0 g1 g2 hP hD hS hl)
theorem A_iast (C : Cok Γ cc own ret d K N) {id M : Nat} {f : Nat → Int32} {i : Int32} {x : Int32} {h1 : List va_E} (he : h[id]? = some (.inl (0, M, .inl f))) (hin : vp_in i M) (hh : h.set id (.inl (0, M, .inl (upd f i.toNatClampNeg x))) = h1) (dg : decode cc pc = .ok (.iastore, 1)) (hp : pc + 1 = pc') (kk : AW Γ h1 k n lv st pc') : AW Γ h k n lv (.int x :: .int i :: .ref id :: st) pc := by
  obtain ⟨⟨p, e, R, s, m, args, below, meth, c, Q⟩, ⟨l, s0, b, L, xs, D, tc⟩, A, ad0, n0, nL⟩ := Γ
  obtain ⟨hx, hb, hml, hown, hr, hlocks, hR, hu, hW0, hold, hA, hA0⟩ := C
  subst hp hh
  intro ad H locs ls g0 g1 g2 hP hD hS hl
  refine va_iast (D := D) hx hb (va_K.moved hW0.alike hu.2.1) hP hD hS id 0 (cw_get he) rfl hin dg ?_
  intro H1 locs1 hP1 hD1 hS1
  rw [show (ad id, (Sum.inl (tc 0, M, .inl (upd f i.toNatClampNeg x)) : va_E)) = (ad id, ce ad tc (.inl (0, M, .inl (upd f i.toNatClampNeg x)))) from rfl, cw_set] at hP1 hD1
  exact kk ad H1 locs1 ls (by rw [List.length_set]; exact g0) g1 g2 hP1 hD1 hS1 hl
theorem A_zast (C : Cok Γ cc own ret d K N) {id M : Nat} {f : Nat → Int32} {i : Int32} {x : Int32} {h1 : List va_E} (he : h[id]? = some (.inl (2, M, .inl f))) (hin : vp_in i M) (hh : h.set id (.inl (2, M, .inl (upd f i.toNatClampNeg (vp_nar .boolean x)))) = h1) (dg : decode cc pc = .ok (.bastore, 1)) (hp : pc + 1 = pc') (kk : AW Γ h1 k n lv st pc') : AW Γ h k n lv (.int x :: .int i :: .ref id :: st) pc := by
  obtain ⟨⟨p, e, R, s, m, args, below, meth, c, Q⟩, ⟨l, s0, b, L, xs, D, tc⟩, A, ad0, n0, nL⟩ := Γ
  obtain ⟨hx, hb, hml, hown, hr, hlocks, hR, hu, hW0, hold, hA, hA0⟩ := C
  subst hp hh
  intro ad H locs ls g0 g1 g2 hP hD hS hl
  refine va_zast (D := D) hx hb (va_K.moved hW0.alike hu.2.1) hP hD hS id 2 (cw_get he) rfl hin dg ?_
  intro H1 locs1 hP1 hD1 hS1
  rw [show (ad id, (Sum.inl (tc 2, M, .inl (upd f i.toNatClampNeg (vp_nar .boolean x))) : va_E)) = (ad id, ce ad tc (.inl (2, M, .inl (upd f i.toNatClampNeg (vp_nar .boolean x))))) from rfl, cw_set] at hP1 hD1
  exact kk ad H1 locs1 ls (by rw [List.length_set]; exact g0) g1 g2 hP1 hD1 hS1 hl
theorem A_last (C : Cok Γ cc own ret d K N) {id M : Nat} {f : Nat → Int64} {i : Int32} {x : Int64} {h1 : List va_E} (he : h[id]? = some (.inl (1, M, .inr (.inl f)))) (hin : vp_in i M) (hh : h.set id (.inl (1, M, .inr (.inl (vp_updL f i.toNatClampNeg x)))) = h1) (dg : decode cc pc = .ok (.lastore, 1)) (hp : pc + 1 = pc') (kk : AW Γ h1 k n lv st pc') : AW Γ h k n lv (.long x :: .int i :: .ref id :: st) pc := by
  obtain ⟨⟨p, e, R, s, m, args, below, meth, c, Q⟩, ⟨l, s0, b, L, xs, D, tc⟩, A, ad0, n0, nL⟩ := Γ
  obtain ⟨hx, hb, hml, hown, hr, hlocks, hR, hu, hW0, hold, hA, hA0⟩ := C
  subst hp hh
  intro ad H locs ls g0 g1 g2 hP hD hS hl
  refine va_last (D := D) hx hb (va_K.moved hW0.alike hu.2.1) hP hD hS id 1 (cw_get he) rfl hin dg ?_
  intro H1 locs1 hP1 hD1 hS1
  rw [show (ad id, (Sum.inl (tc 1, M, .inr (.inl (vp_updL f i.toNatClampNeg x))) : va_E)) = (ad id, ce ad tc (.inl (1, M, .inr (.inl (vp_updL f i.toNatClampNeg x))))) from rfl, cw_set] at hP1 hD1
  exact kk ad H1 locs1 ls (by rw [List.length_set]; exact g0) g1 g2 hP1 hD1 hS1 hl
theorem A_copyi (C : Cok Γ cc own ret d K N) {i ia ib Ma Mb : Nat} {f g : Nat → Int32} {sp dp z : Int32} {h1 : List va_E} (hw : (decide (Cond.methodLink own i arraycopyName ∈ lw_tbl) && goodWord (Cond.methodLink own i arraycopyName)) = true) (hw2 : (decide (Cond.native arraycopyName ∈ lw_tbl) && goodWord (Cond.native arraycopyName)) = true) (hw3 : (decide (Cond.static arraycopyName ∈ lw_tbl) && goodWord (Cond.static arraycopyName)) = true) (hw4 : (decide (Cond.initialized "java/lang/System" ∈ lw_tbl) && goodWord (Cond.initialized "java/lang/System")) = true)
    (hea : h[ia]? = some (.inl (0, Ma, .inl f))) (heb : h[ib]? = some (.inl (0, Mb, .inl g))) (q1 : ¬ sp < 0) (q2 : ¬ dp < 0) (q3 : ¬ z < 0) (q4 : sp.toNatClampNeg + z.toNatClampNeg ≤ Ma) (q5 : dp.toNatClampNeg + z.toNatClampNeg ≤ Mb) (hd1 : 1 ≤ d) (hroom : (st.map fun v => v.category).sum + (nativeFrameWords "java/lang/System" "arraycopy" 5 + 11) ≤ 39 * d)
    (hh : h.set ib (.inl (0, Mb, .inl (va_cpy f g sp.toNatClampNeg dp.toNatClampNeg z.toNatClampNeg))) = h1) (dg : decode cc pc = .ok (.invokestatic i, 3)) (hp : pc + 3 = pc') (kk : AW Γ h1 k n lv st pc') : AW Γ h k n lv (.int z :: .int dp :: .ref ib :: .int sp :: .ref ia :: st) pc := by
  obtain ⟨⟨p, e, R, s, m, args, below, meth, c, Q⟩, ⟨l, s0, b, L, xs, D, tc⟩, A, ad0, n0, nL⟩ := Γ
  obtain ⟨hx, hb, hml, hown, hr, hlocks, hR, hu, hW0, hold, hA, hA0⟩ := C
  subst hp hh hR
  intro ad H locs ls g0 g1 g2 hP hD hS hl
  have hcat : ((st.map (cv ad)).map fun v => v.category) = st.map fun v => v.category := by rw [List.map_map]; exact List.map_congr_left fun v _ => cv_cat ad v
  refine va_copyi (D := D) hx hb (hml.trans hl.1.symm) hown (un_word hu hw hW0 args) (un_word hu hw2 hW0 args) (un_word hu hw3 hW0 args) (un_word hu hw4 hW0 args) (va_K.moved hW0.alike hu.2.1) hP hD hS ia ib 0 0 (cw_get hea) (cw_get heb) rfl rfl rfl q1 q2 q3 q4 q5 (fun _ _ => rfl) hd1 (by rw [hcat]; exact hroom) dg ?_
  intro H1 locs1 hP1 hD1 hS1
  rw [show (ad ib, (Sum.inl (tc 0, Mb, .inl (va_cpy f g sp.toNatClampNeg dp.toNatClampNeg z.toNatClampNeg)) : va_E)) = (ad ib, ce ad tc (.inl (0, Mb, .inl (va_cpy f g sp.toNatClampNeg dp.toNatClampNeg z.toNatClampNeg)))) from rfl, cw_set] at hP1 hD1
  exact kk ad H1 locs1 ls (by rw [List.length_set]; exact g0) g1 g2 hP1 hD1 hS1 hl
theorem A_iret (C : Cok Γ cc own (some .int) d K N) {v : Int32} {mc ms : Nat} (T : Tgt Γ mc ms (some (.int v)) h) (hk : k ≤ mc) (hn : n ≤ ms) (dg : decode cc pc = .ok (.ireturn, 1)) : AW Γ h k n lv [.int v] pc := by
  obtain ⟨⟨p, e, R, s, m, args, below, meth, c, Q⟩, ⟨l, s0, b, L, xs, D, tc⟩, A, ad0, n0, nL⟩ := Γ
  obtain ⟨hx, hb, hml, hown, hr, hlocks, hR, hu, hW0, hold, hA, hA0⟩ := C
  intro ad H locs ls g0 g1 g2 hP hD hS hl
  have T : Q = _ := T
  rw [T]
  refine W.widen hk hn ?_
  exact W.iret hx hb hr (fun t ht hW => ⟨ad, g1, g2, g0, rfl, by rw [ht]; exact hP, hD, hS.F ht⟩) hS.2.2 dg
theorem A_zret (C : Cok Γ cc own (some .boolean) d K N) {v : Int32} {mc ms : Nat} (T : Tgt Γ mc ms (some (.int v)) h) (hv : v = 0 ∨ v = 1) (hk : k ≤ mc) (hn : n ≤ ms) (dg : decode cc pc = .ok (.ireturn, 1)) : AW Γ h k n lv [.int v] pc := by
  obtain ⟨⟨p, e, R, s, m, args, below, meth, c, Q⟩, ⟨l, s0, b, L, xs, D, tc⟩, A, ad0, n0, nL⟩ := Γ
  obtain ⟨hx, hb, hml, hown, hr, hlocks, hR, hu, hW0, hold, hA, hA0⟩ := C
  intro ad H locs ls g0 g1 g2 hP hD hS hl
  have T : Q = _ := T
  rw [T]
  refine W.widen hk hn ?_
  exact W.zret hx hb hr (by rcases hv with rfl | rfl <;> decide +kernel) (fun t ht hW => ⟨ad, g1, g2, g0, rfl, by rw [ht]; exact hP, hD, hS.F ht⟩) hS.2.2 dg
theorem A_vret (C : Cok Γ cc own none d K N) {mc ms : Nat} (T : Tgt Γ mc ms none h) (hk : k ≤ mc) (hn : n ≤ ms) (dg : decode cc pc = .ok (.return_, 1)) : AW Γ h k n lv [] pc := by
  obtain ⟨⟨p, e, R, s, m, args, below, meth, c, Q⟩, ⟨l, s0, b, L, xs, D, tc⟩, A, ad0, n0, nL⟩ := Γ
  obtain ⟨hx, hb, hml, hown, hr, hlocks, hR, hu, hW0, hold, hA, hA0⟩ := C
  intro ad H locs ls g0 g1 g2 hP hD hS hl
  have T : Q = _ := T
  rw [T]
  refine W.widen hk hn ?_
  exact W.vret hx hb hr (fun t ht hW => ⟨ad, g1, g2, g0, rfl, by rw [ht]; exact hP, hD, hS.F ht⟩) hS.2.2 dg
theorem A_topi {x y : Int32} (e : y = x) (kk : AW Γ h k n lv (.int y :: st) pc) : AW Γ h k n lv (.int x :: st) pc := e ▸ kk
def lmask : List Bool → List (Option Value) → List (Option Value)
  | true :: r, x :: l => x :: lmask r l
  | false :: r, _ :: l => none :: lmask r l
  | _, _ => []
theorem lmask_get : ∀ (ms : List Bool) (lv : List (Option Value)) (i : Nat) (v : Value), (lmask ms lv)[i]? = some (some v) → lv[i]? = some (some v)
  | true :: r, x :: l, 0, v, hh => by simpa [lmask] using hh
  | true :: r, x :: l, i + 1, v, hh => by simpa [lmask] using lmask_get r l i v (by simpa [lmask] using hh)
  | false :: r, x :: l, 0, v, hh => by simp [lmask] at hh
  | false :: r, x :: l, i + 1, v, hh => by simpa [lmask] using lmask_get r l i v (by simpa [lmask] using hh)
  | [], l, i, v, hh => by simp [lmask] at hh
  | true :: r, [], i, v, hh => by simp [lmask] at hh
  | false :: r, [], i, v, hh => by simp [lmask] at hh
theorem A_mask (ms : List Bool) {lv' : List (Option Value)} (e : lmask ms lv = lv') (kk : AW Γ h k n lv' st pc) : AW Γ h k n lv st pc := by
  obtain ⟨⟨p, e9, R, s, m, args, below, meth, c, Q⟩, ⟨l, s0, b, L, xs, D, tc⟩, A, ad0, n0, nL⟩ := Γ
  subst e
  intro ad H locs ls g0 g1 g2 hP hD hS hl
  exact kk ad H locs ls g0 g1 g2 hP hD hS ⟨hl.1, hl.2.1, fun q hq => by
    obtain ⟨v, h1, h2⟩ := lc_of hq
    rw [h2]
    exact lc_get hl (lmask_get ms lv q.1 v h1)⟩
theorem A_eq {h1 : List va_E} (e : h = h1) (kk : AW Γ h1 k n lv st pc) : AW Γ h k n lv st pc := e ▸ kk
theorem A_widen {k1 n1 : Nat} (hk : k ≤ k1) (hn : n ≤ n1) (kk : AW Γ h k1 n1 lv st pc) : AW Γ h k n lv st pc := by
  obtain ⟨⟨p, e, R, s, m, args, below, meth, c, Q⟩, ⟨l, s0, b, L, xs, D, tc⟩, A, ad0, n0, nL⟩ := Γ
  intro ad H locs ls g0 g1 g2 hP hD hS hl
  exact W.widen hk hn (kk ad H locs ls g0 g1 g2 hP hD hS hl)
end Rules
