/-! ===== the law: its steps, its loop ===== -/
def P_room (Inv : Sg → Prop) : Prop := ∀ s, Inv s → ∀ (x1 x2 : Int32), (∃ (q : Sg) (q2 : Sg), F_X5_room x1 x2 s = some (.inl q) ∧ F_X6_room x1 x2 q = some q2 ∧ q2 2200 0 = 0 ∧ Inv q2) ∨ (∃ q2 : Sg, F_X5_room x1 x2 s = some (.inr 1) ∧ F_X6_room x1 x2 s = some q2 ∧ q2 2200 0 = 1 ∧ Inv q2) ∨ (∃ q2 : Sg, F_X5_room x1 x2 s = some (.inr 2) ∧ F_X6_room x1 x2 s = some q2 ∧ q2 2200 0 = 2 ∧ Inv q2)
def P_lesson (Inv : Sg → Prop) : Prop := ∀ s, Inv s → ∀ (x1 x2 x3 x4 x5 x6 : Int32), (∃ (q : Int32 × Sg) (q2 : Int32 × Sg), F_X5_lesson x1 x2 x3 x4 x5 x6 s = some (.inl q) ∧ F_X6_lesson x1 x2 x3 x4 x5 x6 q.2 = some q2 ∧ q2.2 2200 0 = 0 ∧ q.1 = q2.1 ∧ Inv q2.2) ∨ (∃ q2 : Int32 × Sg, F_X5_lesson x1 x2 x3 x4 x5 x6 s = some (.inr 1) ∧ F_X6_lesson x1 x2 x3 x4 x5 x6 s = some q2 ∧ q2.2 2200 0 = 1 ∧ Inv q2.2) ∨ (∃ q2 : Int32 × Sg, F_X5_lesson x1 x2 x3 x4 x5 x6 s = some (.inr 2) ∧ F_X6_lesson x1 x2 x3 x4 x5 x6 s = some q2 ∧ q2.2 2200 0 = 2 ∧ Inv q2.2)
def P_block (Inv : Sg → Prop) : Prop := ∀ s, Inv s → ∀ (x1 x2 x3 x4 : Int32), (x4 = 0 ∨ x4 = 1) → (∃ (q : Sg) (q2 : Sg), F_X5_block x1 x2 x3 x4 s = some (.inl q) ∧ F_X6_block x1 x2 x3 x4 q = some q2 ∧ q2 2200 0 = 0 ∧ Inv q2) ∨ (∃ q2 : Sg, F_X5_block x1 x2 x3 x4 s = some (.inr 1) ∧ F_X6_block x1 x2 x3 x4 s = some q2 ∧ q2 2200 0 = 1 ∧ Inv q2) ∨ (∃ q2 : Sg, F_X5_block x1 x2 x3 x4 s = some (.inr 2) ∧ F_X6_block x1 x2 x3 x4 s = some q2 ∧ q2 2200 0 = 2 ∧ Inv q2)
def P_place (Inv : Sg → Prop) : Prop := ∀ s, Inv s → ∀ (x1 x2 x3 : Int32), (∃ (q : Int32 × Sg) (q2 : Int32 × Sg), F_X5_place x1 x2 x3 s = some (.inl q) ∧ F_X6_place x1 x2 x3 q.2 = some q2 ∧ q2.2 2200 0 = 0 ∧ q.1 = q2.1 ∧ Inv q2.2) ∨ (∃ q2 : Int32 × Sg, F_X5_place x1 x2 x3 s = some (.inr 1) ∧ F_X6_place x1 x2 x3 s = some q2 ∧ q2.2 2200 0 = 1 ∧ Inv q2.2) ∨ (∃ q2 : Int32 × Sg, F_X5_place x1 x2 x3 s = some (.inr 2) ∧ F_X6_place x1 x2 x3 s = some q2 ∧ q2.2 2200 0 = 2 ∧ Inv q2.2)
def P_drop (Inv : Sg → Prop) : Prop := ∀ s, Inv s → ∀ (x1 x2 : Int32), (∃ (q : Int32 × Sg) (q2 : Int32 × Sg), F_X5_drop x1 x2 s = some (.inl q) ∧ F_X6_drop x1 x2 q.2 = some q2 ∧ q2.2 2200 0 = 0 ∧ q.1 = q2.1 ∧ Inv q2.2) ∨ (∃ q2 : Int32 × Sg, F_X5_drop x1 x2 s = some (.inr 1) ∧ F_X6_drop x1 x2 s = some q2 ∧ q2.2 2200 0 = 1 ∧ Inv q2.2) ∨ (∃ q2 : Int32 × Sg, F_X5_drop x1 x2 s = some (.inr 2) ∧ F_X6_drop x1 x2 s = some q2 ∧ q2.2 2200 0 = 2 ∧ Inv q2.2)
def P_fill (Inv : Sg → Prop) : Prop := ∀ s, Inv s → ∀ (x1 : Int32), (∃ (q : Int32 × Sg) (q2 : Int32 × Sg), F_X5_fill x1 s = some (.inl q) ∧ F_X6_fill x1 q.2 = some q2 ∧ q2.2 2200 0 = 0 ∧ q.1 = q2.1 ∧ Inv q2.2) ∨ (∃ q2 : Int32 × Sg, F_X5_fill x1 s = some (.inr 1) ∧ F_X6_fill x1 s = some q2 ∧ q2.2 2200 0 = 1 ∧ Inv q2.2)
def P_tries (Inv : Sg → Prop) : Prop := ∀ s, Inv s → ∃ (r : Int32) (q : Int32 × Sg), F_X5_tries s = some r ∧ F_X6_tries s = some q ∧ r = q.1 ∧ Inv q.2
def P_period (Inv : Sg → Prop) : Prop := ∀ s, Inv s → ∀ (x1 x2 : Int32), (∃ (q : Int32) (q2 : Int32 × Sg), F_X5_period x1 x2 s = some (.inl q) ∧ F_X6_period x1 x2 s = some q2 ∧ q2.2 2200 0 = 0 ∧ q = q2.1 ∧ Inv q2.2) ∨ (∃ q2 : Int32 × Sg, F_X5_period x1 x2 s = some (.inr 1) ∧ F_X6_period x1 x2 s = some q2 ∧ q2.2 2200 0 = 1 ∧ Inv q2.2)
def P_roomOf (Inv : Sg → Prop) : Prop := ∀ s, Inv s → ∀ (x1 x2 : Int32), (∃ (q : Int32) (q2 : Int32 × Sg), F_X5_roomOf x1 x2 s = some (.inl q) ∧ F_X6_roomOf x1 x2 s = some q2 ∧ q2.2 2200 0 = 0 ∧ q = q2.1 ∧ Inv q2.2) ∨ (∃ q2 : Int32 × Sg, F_X5_roomOf x1 x2 s = some (.inr 1) ∧ F_X6_roomOf x1 x2 s = some q2 ∧ q2.2 2200 0 = 1 ∧ Inv q2.2)
def P_penalty (Inv : Sg → Prop) : Prop := ∀ s, Inv s → ∃ (r : Int32) (q : Int32 × Sg), F_X5_penalty s = some r ∧ F_X6_penalty s = some q ∧ r = q.1 ∧ Inv q.2
def P_improve (Inv : Sg → Prop) : Prop := ∀ s, Inv s → ∀ (x1 : Int32), (∃ (q : Int32 × Sg) (q2 : Int32 × Sg), F_X5_improve x1 s = some (.inl q) ∧ F_X6_improve x1 q.2 = some q2 ∧ q2.2 2200 0 = 0 ∧ q.1 = q2.1 ∧ Inv q2.2) ∨ (∃ q2 : Int32 × Sg, F_X5_improve x1 s = some (.inr 1) ∧ F_X6_improve x1 s = some q2 ∧ q2.2 2200 0 = 1 ∧ Inv q2.2)
def P_absent (Inv : Sg → Prop) : Prop := ∀ s, Inv s → ∀ (x1 x2 : Int32), (∃ (q : Int32 × Sg) (q2 : Int32 × Sg), F_X5_absent x1 x2 s = some (.inl q) ∧ F_X6_absent x1 x2 q.2 = some q2 ∧ q2.2 2200 0 = 0 ∧ q.1 = q2.1 ∧ Inv q2.2) ∨ (∃ q2 : Int32 × Sg, F_X5_absent x1 x2 s = some (.inr 1) ∧ F_X6_absent x1 x2 s = some q2 ∧ q2.2 2200 0 = 1 ∧ Inv q2.2)
def P_substitute (Inv : Sg → Prop) : Prop := ∀ s, Inv s → ∀ (x1 : Int32), (∃ (q : Int32) (q2 : Int32 × Sg), F_X5_substitute x1 s = some (.inl q) ∧ F_X6_substitute x1 s = some q2 ∧ q2.2 2200 0 = 0 ∧ q = q2.1 ∧ Inv q2.2) ∨ (∃ q2 : Int32 × Sg, F_X5_substitute x1 s = some (.inr 3) ∧ F_X6_substitute x1 s = some q2 ∧ q2.2 2200 0 = 1 ∧ Inv q2.2)
def P_undo (Inv : Sg → Prop) : Prop := ∀ s, Inv s → (∃ (q : Int32 × Sg) (q2 : Int32 × Sg), F_X5_undo  s = some (.inl q) ∧ F_X6_undo  q.2 = some q2 ∧ q2.2 2200 0 = 0 ∧ q.1 = q2.1 ∧ Inv q2.2) ∨ (∃ q2 : Int32 × Sg, F_X5_undo  s = some (.inr 2) ∧ F_X6_undo  s = some q2 ∧ q2.2 2200 0 = 1 ∧ Inv q2.2)
def P_page (Inv : Sg → Prop) : Prop := ∀ s, Inv s → ∀ (x1 x2 x3 : Int32), (∃ (q : Int32) (q2 : Int32 × Sg), F_X5_page x1 x2 x3 s = some (.inl q) ∧ F_X6_page x1 x2 x3 s = some q2 ∧ q2.2 2200 0 = 0 ∧ q = q2.1 ∧ Inv q2.2) ∨ (∃ q2 : Int32 × Sg, F_X5_page x1 x2 x3 s = some (.inr 1) ∧ F_X6_page x1 x2 x3 s = some q2 ∧ q2.2 2200 0 = 1 ∧ Inv q2.2) ∨ (∃ q2 : Int32 × Sg, F_X5_page x1 x2 x3 s = some (.inr 3) ∧ F_X6_page x1 x2 x3 s = some q2 ∧ q2.2 2200 0 = 2 ∧ Inv q2.2)
def PAll (Inv : Sg → Prop) : Prop := P_room Inv ∧ P_lesson Inv ∧ P_block Inv ∧ P_place Inv ∧ P_drop Inv ∧ P_fill Inv ∧ P_tries Inv ∧ P_period Inv ∧ P_roomOf Inv ∧ P_penalty Inv ∧ P_improve Inv ∧ P_absent Inv ∧ P_substitute Inv ∧ P_undo Inv ∧ P_page Inv
set_option maxHeartbeats 4000000 in
theorem LS_room {Γ : Cx} (hu : Un Γ.2.1) (eN : 7 = Γ.2.2.2.2.2) (C : Cok Γ cL_law RL (some .boolean) 10 1086 13806) {Inv : Sg → Prop} (hP : P_room Inv) {i : Int32} (v1 : vp_in (i + (1 : Int32)) Γ.2.1.2.2.2.1) (v2 : vp_in (i + (2 : Int32)) Γ.2.1.2.2.2.1) {s : Sg} (hI : Inv s) {o : Nat → Int64} {k n : Nat} (hk : k + 1 ≤ 1086) (hn : n + 6 ≤ 13806) (kk : ∀ (s' : Sg) (o' : Nat → Int64) (k' n' : Nat), Inv s' → k' ≤ k + 1 → n' ≤ n + 6 → AW Γ (HP s' o') k' n' [some (.ref SCR), some (.ref 0), some (.ref 21), some (.ref 39), some (.int i), none, none] [] 1060) : AW Γ (HP s o) k n [some (.ref SCR), some (.ref 0), some (.ref 21), some (.ref 39), some (.int i), none, none] [] 136 := by
  rcases hP s hI (Γ.2.1.2.2.2.2.1 (i + (1 : Int32)).toNatClampNeg) (Γ.2.1.2.2.2.2.1 (i + (2 : Int32)).toNatClampNeg) with ⟨q, q2, h1, h2, h3, h4⟩ | ⟨q2, h1, h2, h3, h4⟩ | ⟨q2, h1, h2, h3, h4⟩
  · exact LC_room hu eN C v1 rfl v2 rfl (H_room_r hu h1) ⟨hk, hn⟩ ⟨by omega, by omega⟩ h2 h3 (kk q2 o (k + 1) (n + 6) h4 (Nat.le_refl _) (Nat.le_refl _))
  · exact LC_room hu eN C v1 rfl v2 rfl (H_room_t1 hu h1) ⟨hk, hn⟩ ⟨by omega, by omega⟩ h2 h3 (kk q2 o (k + 1) (n + 6) h4 (Nat.le_refl _) (Nat.le_refl _))
  · exact LC_room hu eN C v1 rfl v2 rfl (H_room_t2 hu h1) ⟨hk, hn⟩ ⟨by omega, by omega⟩ h2 h3 (kk q2 o (k + 1) (n + 6) h4 (Nat.le_refl _) (Nat.le_refl _))
set_option maxHeartbeats 4000000 in
theorem LS_lesson {Γ : Cx} (hu : Un Γ.2.1) (eN : 7 = Γ.2.2.2.2.2) (C : Cok Γ cL_law RL (some .boolean) 10 1086 13806) {Inv : Sg → Prop} (hP : P_lesson Inv) {i : Int32} (v1 : vp_in (i + (1 : Int32)) Γ.2.1.2.2.2.1) (v2 : vp_in (i + (2 : Int32)) Γ.2.1.2.2.2.1) (v3 : vp_in (i + (3 : Int32)) Γ.2.1.2.2.2.1) (v4 : vp_in (i + (4 : Int32)) Γ.2.1.2.2.2.1) (v5 : vp_in (i + (5 : Int32)) Γ.2.1.2.2.2.1) (v6 : vp_in (i + (6 : Int32)) Γ.2.1.2.2.2.1) {s : Sg} (hI : Inv s) {o : Nat → Int64} {k n : Nat} (hk : k + 1 ≤ 1086) (hn : n + 6 ≤ 13806) (kk : ∀ (s' : Sg) (o' : Nat → Int64) (k' n' : Nat), Inv s' → k' ≤ k + 1 → n' ≤ n + 6 → AW Γ (HP s' o') k' n' [some (.ref SCR), some (.ref 0), some (.ref 21), some (.ref 39), some (.int i), none, none] [] 1060) : AW Γ (HP s o) k n [some (.ref SCR), some (.ref 0), some (.ref 21), some (.ref 39), some (.int i), none, none] [] 184 := by
  rcases hP s hI (Γ.2.1.2.2.2.2.1 (i + (1 : Int32)).toNatClampNeg) (Γ.2.1.2.2.2.2.1 (i + (2 : Int32)).toNatClampNeg) (Γ.2.1.2.2.2.2.1 (i + (3 : Int32)).toNatClampNeg) (Γ.2.1.2.2.2.2.1 (i + (4 : Int32)).toNatClampNeg) (Γ.2.1.2.2.2.2.1 (i + (5 : Int32)).toNatClampNeg) (Γ.2.1.2.2.2.2.1 (i + (6 : Int32)).toNatClampNeg) with ⟨q, q2, h1, h2, h3, h5, h4⟩ | ⟨q2, h1, h2, h3, h4⟩ | ⟨q2, h1, h2, h3, h4⟩
  · exact LC_lesson hu eN C v1 rfl v2 rfl v3 rfl v4 rfl v5 rfl v6 rfl (H_lesson_r hu h1) ⟨hk, hn⟩ ⟨by omega, by omega⟩ h2 h3 (fun _ => by rw [← h5]; simp [vp_updL]) (kk q2.2 (vp_updL o 0 q.1.toInt64) (k + 1) (n + 6) h4 (Nat.le_refl _) (Nat.le_refl _))
  · exact LC_lesson hu eN C v1 rfl v2 rfl v3 rfl v4 rfl v5 rfl v6 rfl (H_lesson_t1 hu h1) ⟨hk, hn⟩ ⟨by omega, by omega⟩ h2 h3 (fun z9 => absurd z9 (by decide)) (kk q2.2 o (k + 1) (n + 6) h4 (Nat.le_refl _) (Nat.le_refl _))
  · exact LC_lesson hu eN C v1 rfl v2 rfl v3 rfl v4 rfl v5 rfl v6 rfl (H_lesson_t2 hu h1) ⟨hk, hn⟩ ⟨by omega, by omega⟩ h2 h3 (fun z9 => absurd z9 (by decide)) (kk q2.2 o (k + 1) (n + 6) h4 (Nat.le_refl _) (Nat.le_refl _))
set_option maxHeartbeats 4000000 in
theorem LS_block {Γ : Cx} (hu : Un Γ.2.1) (eN : 7 = Γ.2.2.2.2.2) (C : Cok Γ cL_law RL (some .boolean) 10 1086 13806) {Inv : Sg → Prop} (hP : P_block Inv) {i : Int32} (v1 : vp_in (i + (1 : Int32)) Γ.2.1.2.2.2.1) (v2 : vp_in (i + (2 : Int32)) Γ.2.1.2.2.2.1) (v3 : vp_in (i + (3 : Int32)) Γ.2.1.2.2.2.1) (v4 : vp_in (i + (4 : Int32)) Γ.2.1.2.2.2.1) {s : Sg} (hI : Inv s) {o : Nat → Int64} {k n : Nat} (hk : k + 1 ≤ 1086) (hn : n + 6 ≤ 13806) (kk : ∀ (s' : Sg) (o' : Nat → Int64) (k' n' : Nat), Inv s' → k' ≤ k + 1 → n' ≤ n + 6 → AW Γ (HP s' o') k' n' [some (.ref SCR), some (.ref 0), some (.ref 21), some (.ref 39), some (.int i), none, none] [] 1060) : AW Γ (HP s o) k n [some (.ref SCR), some (.ref 0), some (.ref 21), some (.ref 39), some (.int i), none, none] [] 302 := by
  by_cases h9 : (Γ.2.1.2.2.2.2.1 (i + (4 : Int32)).toNatClampNeg) = 0
  · rcases hP s hI (Γ.2.1.2.2.2.2.1 (i + (1 : Int32)).toNatClampNeg) (Γ.2.1.2.2.2.2.1 (i + (2 : Int32)).toNatClampNeg) (Γ.2.1.2.2.2.2.1 (i + (3 : Int32)).toNatClampNeg) 0 (Or.inl rfl) with ⟨q, q2, h1, h2, h3, h4⟩ | ⟨q2, h1, h2, h3, h4⟩ | ⟨q2, h1, h2, h3, h4⟩
    · exact LC_block0 hu eN C v1 rfl v2 rfl v3 rfl v4 rfl h9 (H_block_r hu h1) ⟨hk, hn⟩ ⟨by omega, by omega⟩ h2 h3 (kk q2 o (k + 1) (n + 6) h4 (Nat.le_refl _) (Nat.le_refl _))
    · exact LC_block0 hu eN C v1 rfl v2 rfl v3 rfl v4 rfl h9 (H_block_t1 hu h1) ⟨hk, hn⟩ ⟨by omega, by omega⟩ h2 h3 (kk q2 o (k + 1) (n + 6) h4 (Nat.le_refl _) (Nat.le_refl _))
    · exact LC_block0 hu eN C v1 rfl v2 rfl v3 rfl v4 rfl h9 (H_block_t2 hu h1) ⟨hk, hn⟩ ⟨by omega, by omega⟩ h2 h3 (kk q2 o (k + 1) (n + 6) h4 (Nat.le_refl _) (Nat.le_refl _))
  · rcases hP s hI (Γ.2.1.2.2.2.2.1 (i + (1 : Int32)).toNatClampNeg) (Γ.2.1.2.2.2.2.1 (i + (2 : Int32)).toNatClampNeg) (Γ.2.1.2.2.2.2.1 (i + (3 : Int32)).toNatClampNeg) 1 (Or.inr rfl) with ⟨q, q2, h1, h2, h3, h4⟩ | ⟨q2, h1, h2, h3, h4⟩ | ⟨q2, h1, h2, h3, h4⟩
    · exact LC_block1 hu eN C v1 rfl v2 rfl v3 rfl v4 rfl h9 (H_block_r hu h1) ⟨hk, hn⟩ ⟨by omega, by omega⟩ h2 h3 (kk q2 o (k + 1) (n + 6) h4 (Nat.le_refl _) (Nat.le_refl _))
    · exact LC_block1 hu eN C v1 rfl v2 rfl v3 rfl v4 rfl h9 (H_block_t1 hu h1) ⟨hk, hn⟩ ⟨by omega, by omega⟩ h2 h3 (kk q2 o (k + 1) (n + 6) h4 (Nat.le_refl _) (Nat.le_refl _))
    · exact LC_block1 hu eN C v1 rfl v2 rfl v3 rfl v4 rfl h9 (H_block_t2 hu h1) ⟨hk, hn⟩ ⟨by omega, by omega⟩ h2 h3 (kk q2 o (k + 1) (n + 6) h4 (Nat.le_refl _) (Nat.le_refl _))
set_option maxHeartbeats 4000000 in
theorem LS_place {Γ : Cx} (hu : Un Γ.2.1) (eN : 7 = Γ.2.2.2.2.2) (C : Cok Γ cL_law RL (some .boolean) 10 1086 13806) {Inv : Sg → Prop} (hP : P_place Inv) {i : Int32} (v1 : vp_in (i + (1 : Int32)) Γ.2.1.2.2.2.1) (v2 : vp_in (i + (2 : Int32)) Γ.2.1.2.2.2.1) (v3 : vp_in (i + (3 : Int32)) Γ.2.1.2.2.2.1) {s : Sg} (hI : Inv s) {o : Nat → Int64} {k n : Nat} (hk : k + 1 ≤ 1086) (hn : n + 6 ≤ 13806) (kk : ∀ (s' : Sg) (o' : Nat → Int64) (k' n' : Nat), Inv s' → k' ≤ k + 1 → n' ≤ n + 6 → AW Γ (HP s' o') k' n' [some (.ref SCR), some (.ref 0), some (.ref 21), some (.ref 39), some (.int i), none, none] [] 1060) : AW Γ (HP s o) k n [some (.ref SCR), some (.ref 0), some (.ref 21), some (.ref 39), some (.int i), none, none] [] 390 := by
  rcases hP s hI (Γ.2.1.2.2.2.2.1 (i + (1 : Int32)).toNatClampNeg) (Γ.2.1.2.2.2.2.1 (i + (2 : Int32)).toNatClampNeg) (Γ.2.1.2.2.2.2.1 (i + (3 : Int32)).toNatClampNeg) with ⟨q, q2, h1, h2, h3, h5, h4⟩ | ⟨q2, h1, h2, h3, h4⟩ | ⟨q2, h1, h2, h3, h4⟩
  · exact LC_place hu eN C v1 rfl v2 rfl v3 rfl (H_place_r hu h1) ⟨hk, hn⟩ ⟨by omega, by omega⟩ h2 h3 (fun _ => by rw [← h5]; simp [vp_updL]) (kk q2.2 (vp_updL o 0 q.1.toInt64) (k + 1) (n + 6) h4 (Nat.le_refl _) (Nat.le_refl _))
  · exact LC_place hu eN C v1 rfl v2 rfl v3 rfl (H_place_t1 hu h1) ⟨hk, hn⟩ ⟨by omega, by omega⟩ h2 h3 (fun z9 => absurd z9 (by decide)) (kk q2.2 o (k + 1) (n + 6) h4 (Nat.le_refl _) (Nat.le_refl _))
  · exact LC_place hu eN C v1 rfl v2 rfl v3 rfl (H_place_t2 hu h1) ⟨hk, hn⟩ ⟨by omega, by omega⟩ h2 h3 (fun z9 => absurd z9 (by decide)) (kk q2.2 o (k + 1) (n + 6) h4 (Nat.le_refl _) (Nat.le_refl _))
set_option maxHeartbeats 4000000 in
theorem LS_drop {Γ : Cx} (hu : Un Γ.2.1) (eN : 7 = Γ.2.2.2.2.2) (C : Cok Γ cL_law RL (some .boolean) 10 1086 13806) {Inv : Sg → Prop} (hP : P_drop Inv) {i : Int32} (v1 : vp_in (i + (1 : Int32)) Γ.2.1.2.2.2.1) (v2 : vp_in (i + (2 : Int32)) Γ.2.1.2.2.2.1) {s : Sg} (hI : Inv s) {o : Nat → Int64} {k n : Nat} (hk : k + 1 ≤ 1086) (hn : n + 6 ≤ 13806) (kk : ∀ (s' : Sg) (o' : Nat → Int64) (k' n' : Nat), Inv s' → k' ≤ k + 1 → n' ≤ n + 6 → AW Γ (HP s' o') k' n' [some (.ref SCR), some (.ref 0), some (.ref 21), some (.ref 39), some (.int i), none, none] [] 1060) : AW Γ (HP s o) k n [some (.ref SCR), some (.ref 0), some (.ref 21), some (.ref 39), some (.int i), none, none] [] 470 := by
  rcases hP s hI (Γ.2.1.2.2.2.2.1 (i + (1 : Int32)).toNatClampNeg) (Γ.2.1.2.2.2.2.1 (i + (2 : Int32)).toNatClampNeg) with ⟨q, q2, h1, h2, h3, h5, h4⟩ | ⟨q2, h1, h2, h3, h4⟩ | ⟨q2, h1, h2, h3, h4⟩
  · exact LC_drop hu eN C v1 rfl v2 rfl (H_drop_r hu h1) ⟨hk, hn⟩ ⟨by omega, by omega⟩ h2 h3 (fun _ => by rw [← h5]; simp [vp_updL]) (kk q2.2 (vp_updL o 0 q.1.toInt64) (k + 1) (n + 6) h4 (Nat.le_refl _) (Nat.le_refl _))
  · exact LC_drop hu eN C v1 rfl v2 rfl (H_drop_t1 hu h1) ⟨hk, hn⟩ ⟨by omega, by omega⟩ h2 h3 (fun z9 => absurd z9 (by decide)) (kk q2.2 o (k + 1) (n + 6) h4 (Nat.le_refl _) (Nat.le_refl _))
  · exact LC_drop hu eN C v1 rfl v2 rfl (H_drop_t2 hu h1) ⟨hk, hn⟩ ⟨by omega, by omega⟩ h2 h3 (fun z9 => absurd z9 (by decide)) (kk q2.2 o (k + 1) (n + 6) h4 (Nat.le_refl _) (Nat.le_refl _))
set_option maxHeartbeats 4000000 in
theorem LS_fill {Γ : Cx} (hu : Un Γ.2.1) (eN : 7 = Γ.2.2.2.2.2) (C : Cok Γ cL_law RL (some .boolean) 10 1086 13806) {Inv : Sg → Prop} (hP : P_fill Inv) {i : Int32} (v1 : vp_in (i + (1 : Int32)) Γ.2.1.2.2.2.1) {s : Sg} (hI : Inv s) {o : Nat → Int64} {k n : Nat} (hk : k + 1 ≤ 1086) (hn : n + 6 ≤ 13806) (kk : ∀ (s' : Sg) (o' : Nat → Int64) (k' n' : Nat), Inv s' → k' ≤ k + 1 → n' ≤ n + 6 → AW Γ (HP s' o') k' n' [some (.ref SCR), some (.ref 0), some (.ref 21), some (.ref 39), some (.int i), none, none] [] 1060) : AW Γ (HP s o) k n [some (.ref SCR), some (.ref 0), some (.ref 21), some (.ref 39), some (.int i), none, none] [] 538 := by
  rcases hP s hI (Γ.2.1.2.2.2.2.1 (i + (1 : Int32)).toNatClampNeg) with ⟨q, q2, h1, h2, h3, h5, h4⟩ | ⟨q2, h1, h2, h3, h4⟩
  · exact LC_fill hu eN C v1 rfl (H_fill_r hu h1) ⟨hk, hn⟩ ⟨by omega, by omega⟩ h2 h3 (fun _ => by rw [← h5]; simp [vp_updL]) (kk q2.2 (vp_updL o 0 q.1.toInt64) (k + 1) (n + 6) h4 (Nat.le_refl _) (Nat.le_refl _))
  · exact LC_fill hu eN C v1 rfl (H_fill_t1 hu h1) ⟨hk, hn⟩ ⟨by omega, by omega⟩ h2 h3 (fun z9 => absurd z9 (by decide)) (kk q2.2 o (k + 1) (n + 6) h4 (Nat.le_refl _) (Nat.le_refl _))
theorem LS_tries {Γ : Cx} (hu : Un Γ.2.1) (eN : 7 = Γ.2.2.2.2.2) (C : Cok Γ cL_law RL (some .boolean) 10 1086 13806) {Inv : Sg → Prop} (hP : P_tries Inv) {i : Int32}  {s : Sg} (hI : Inv s) {o : Nat → Int64} {k n : Nat} (hk : k + 1 ≤ 1086) (hn : n + 6 ≤ 13806) (kk : ∀ (s' : Sg) (o' : Nat → Int64) (k' n' : Nat), Inv s' → k' ≤ k + 1 → n' ≤ n + 6 → AW Γ (HP s' o') k' n' [some (.ref SCR), some (.ref 0), some (.ref 21), some (.ref 39), some (.int i), none, none] [] 1060) : AW Γ (HP s o) k n [some (.ref SCR), some (.ref 0), some (.ref 21), some (.ref 39), some (.int i), none, none] [] 594 := by
  obtain ⟨r, q, h1, h2, h3, h4⟩ := hP s hI
  exact LC_tries hu eN C ⟨by omega, by omega⟩ h1 h2 h3 (kk q.2 o k n h4 (by omega) (by omega))
set_option maxHeartbeats 4000000 in
theorem LS_period {Γ : Cx} (hu : Un Γ.2.1) (eN : 7 = Γ.2.2.2.2.2) (C : Cok Γ cL_law RL (some .boolean) 10 1086 13806) {Inv : Sg → Prop} (hP : P_period Inv) {i : Int32} (v1 : vp_in (i + (1 : Int32)) Γ.2.1.2.2.2.1) (v2 : vp_in (i + (2 : Int32)) Γ.2.1.2.2.2.1) {s : Sg} (hI : Inv s) {o : Nat → Int64} {k n : Nat} (hk : k + 1 ≤ 1086) (hn : n + 6 ≤ 13806) (kk : ∀ (s' : Sg) (o' : Nat → Int64) (k' n' : Nat), Inv s' → k' ≤ k + 1 → n' ≤ n + 6 → AW Γ (HP s' o') k' n' [some (.ref SCR), some (.ref 0), some (.ref 21), some (.ref 39), some (.int i), none, none] [] 1060) : AW Γ (HP s o) k n [some (.ref SCR), some (.ref 0), some (.ref 21), some (.ref 39), some (.int i), none, none] [] 607 := by
  rcases hP s hI (Γ.2.1.2.2.2.2.1 (i + (1 : Int32)).toNatClampNeg) (Γ.2.1.2.2.2.2.1 (i + (2 : Int32)).toNatClampNeg) with ⟨q, q2, h1, h2, h3, h5, h4⟩ | ⟨q2, h1, h2, h3, h4⟩
  · exact LC_period hu eN C v1 rfl v2 rfl (H_period_r hu h1) ⟨hk, hn⟩ ⟨by omega, by omega⟩ h2 h3 (fun _ => by rw [← h5]; simp [vp_updL]) (kk q2.2 (vp_updL o 0 q.toInt64) (k + 1) (n + 6) h4 (Nat.le_refl _) (Nat.le_refl _))
  · exact LC_period hu eN C v1 rfl v2 rfl (H_period_t1 hu h1) ⟨hk, hn⟩ ⟨by omega, by omega⟩ h2 h3 (fun z9 => absurd z9 (by decide)) (kk q2.2 o (k + 1) (n + 6) h4 (Nat.le_refl _) (Nat.le_refl _))
set_option maxHeartbeats 4000000 in
theorem LS_roomOf {Γ : Cx} (hu : Un Γ.2.1) (eN : 7 = Γ.2.2.2.2.2) (C : Cok Γ cL_law RL (some .boolean) 10 1086 13806) {Inv : Sg → Prop} (hP : P_roomOf Inv) {i : Int32} (v1 : vp_in (i + (1 : Int32)) Γ.2.1.2.2.2.1) (v2 : vp_in (i + (2 : Int32)) Γ.2.1.2.2.2.1) {s : Sg} (hI : Inv s) {o : Nat → Int64} {k n : Nat} (hk : k + 1 ≤ 1086) (hn : n + 6 ≤ 13806) (kk : ∀ (s' : Sg) (o' : Nat → Int64) (k' n' : Nat), Inv s' → k' ≤ k + 1 → n' ≤ n + 6 → AW Γ (HP s' o') k' n' [some (.ref SCR), some (.ref 0), some (.ref 21), some (.ref 39), some (.int i), none, none] [] 1060) : AW Γ (HP s o) k n [some (.ref SCR), some (.ref 0), some (.ref 21), some (.ref 39), some (.int i), none, none] [] 675 := by
  rcases hP s hI (Γ.2.1.2.2.2.2.1 (i + (1 : Int32)).toNatClampNeg) (Γ.2.1.2.2.2.2.1 (i + (2 : Int32)).toNatClampNeg) with ⟨q, q2, h1, h2, h3, h5, h4⟩ | ⟨q2, h1, h2, h3, h4⟩
  · exact LC_roomOf hu eN C v1 rfl v2 rfl (H_roomOf_r hu h1) ⟨hk, hn⟩ ⟨by omega, by omega⟩ h2 h3 (fun _ => by rw [← h5]; simp [vp_updL]) (kk q2.2 (vp_updL o 0 q.toInt64) (k + 1) (n + 6) h4 (Nat.le_refl _) (Nat.le_refl _))
  · exact LC_roomOf hu eN C v1 rfl v2 rfl (H_roomOf_t1 hu h1) ⟨hk, hn⟩ ⟨by omega, by omega⟩ h2 h3 (fun z9 => absurd z9 (by decide)) (kk q2.2 o (k + 1) (n + 6) h4 (Nat.le_refl _) (Nat.le_refl _))
theorem LS_penalty {Γ : Cx} (hu : Un Γ.2.1) (eN : 7 = Γ.2.2.2.2.2) (C : Cok Γ cL_law RL (some .boolean) 10 1086 13806) {Inv : Sg → Prop} (hP : P_penalty Inv) {i : Int32}  {s : Sg} (hI : Inv s) {o : Nat → Int64} {k n : Nat} (hk : k + 1 ≤ 1086) (hn : n + 6 ≤ 13806) (kk : ∀ (s' : Sg) (o' : Nat → Int64) (k' n' : Nat), Inv s' → k' ≤ k + 1 → n' ≤ n + 6 → AW Γ (HP s' o') k' n' [some (.ref SCR), some (.ref 0), some (.ref 21), some (.ref 39), some (.int i), none, none] [] 1060) : AW Γ (HP s o) k n [some (.ref SCR), some (.ref 0), some (.ref 21), some (.ref 39), some (.int i), none, none] [] 743 := by
  obtain ⟨r, q, h1, h2, h3, h4⟩ := hP s hI
  exact LC_penalty hu eN C ⟨by omega, by omega⟩ h1 h2 h3 (kk q.2 o k n h4 (by omega) (by omega))
set_option maxHeartbeats 4000000 in
theorem LS_improve {Γ : Cx} (hu : Un Γ.2.1) (eN : 7 = Γ.2.2.2.2.2) (C : Cok Γ cL_law RL (some .boolean) 10 1086 13806) {Inv : Sg → Prop} (hP : P_improve Inv) {i : Int32} (v1 : vp_in (i + (1 : Int32)) Γ.2.1.2.2.2.1) {s : Sg} (hI : Inv s) {o : Nat → Int64} {k n : Nat} (hk : k + 1 ≤ 1086) (hn : n + 6 ≤ 13806) (kk : ∀ (s' : Sg) (o' : Nat → Int64) (k' n' : Nat), Inv s' → k' ≤ k + 1 → n' ≤ n + 6 → AW Γ (HP s' o') k' n' [some (.ref SCR), some (.ref 0), some (.ref 21), some (.ref 39), some (.int i), none, none] [] 1060) : AW Γ (HP s o) k n [some (.ref SCR), some (.ref 0), some (.ref 21), some (.ref 39), some (.int i), none, none] [] 756 := by
  rcases hP s hI (Γ.2.1.2.2.2.2.1 (i + (1 : Int32)).toNatClampNeg) with ⟨q, q2, h1, h2, h3, h5, h4⟩ | ⟨q2, h1, h2, h3, h4⟩
  · exact LC_improve hu eN C v1 rfl (H_improve_r hu h1) ⟨hk, hn⟩ ⟨by omega, by omega⟩ h2 h3 (fun _ => by rw [← h5]; simp [vp_updL]) (kk q2.2 (vp_updL o 0 q.1.toInt64) (k + 1) (n + 6) h4 (Nat.le_refl _) (Nat.le_refl _))
  · exact LC_improve hu eN C v1 rfl (H_improve_t1 hu h1) ⟨hk, hn⟩ ⟨by omega, by omega⟩ h2 h3 (fun z9 => absurd z9 (by decide)) (kk q2.2 o (k + 1) (n + 6) h4 (Nat.le_refl _) (Nat.le_refl _))
set_option maxHeartbeats 4000000 in
theorem LS_absent {Γ : Cx} (hu : Un Γ.2.1) (eN : 7 = Γ.2.2.2.2.2) (C : Cok Γ cL_law RL (some .boolean) 10 1086 13806) {Inv : Sg → Prop} (hP : P_absent Inv) {i : Int32} (v1 : vp_in (i + (1 : Int32)) Γ.2.1.2.2.2.1) (v2 : vp_in (i + (2 : Int32)) Γ.2.1.2.2.2.1) {s : Sg} (hI : Inv s) {o : Nat → Int64} {k n : Nat} (hk : k + 1 ≤ 1086) (hn : n + 6 ≤ 13806) (kk : ∀ (s' : Sg) (o' : Nat → Int64) (k' n' : Nat), Inv s' → k' ≤ k + 1 → n' ≤ n + 6 → AW Γ (HP s' o') k' n' [some (.ref SCR), some (.ref 0), some (.ref 21), some (.ref 39), some (.int i), none, none] [] 1060) : AW Γ (HP s o) k n [some (.ref SCR), some (.ref 0), some (.ref 21), some (.ref 39), some (.int i), none, none] [] 812 := by
  rcases hP s hI (Γ.2.1.2.2.2.2.1 (i + (1 : Int32)).toNatClampNeg) (Γ.2.1.2.2.2.2.1 (i + (2 : Int32)).toNatClampNeg) with ⟨q, q2, h1, h2, h3, h5, h4⟩ | ⟨q2, h1, h2, h3, h4⟩
  · exact LC_absent hu eN C v1 rfl v2 rfl (H_absent_r hu h1) ⟨hk, hn⟩ ⟨by omega, by omega⟩ h2 h3 (fun _ => by rw [← h5]; simp [vp_updL]) (kk q2.2 (vp_updL o 0 q.1.toInt64) (k + 1) (n + 6) h4 (Nat.le_refl _) (Nat.le_refl _))
  · exact LC_absent hu eN C v1 rfl v2 rfl (H_absent_t1 hu h1) ⟨hk, hn⟩ ⟨by omega, by omega⟩ h2 h3 (fun z9 => absurd z9 (by decide)) (kk q2.2 o (k + 1) (n + 6) h4 (Nat.le_refl _) (Nat.le_refl _))
set_option maxHeartbeats 4000000 in
theorem LS_substitute {Γ : Cx} (hu : Un Γ.2.1) (eN : 7 = Γ.2.2.2.2.2) (C : Cok Γ cL_law RL (some .boolean) 10 1086 13806) {Inv : Sg → Prop} (hP : P_substitute Inv) {i : Int32} (v1 : vp_in (i + (1 : Int32)) Γ.2.1.2.2.2.1) {s : Sg} (hI : Inv s) {o : Nat → Int64} {k n : Nat} (hk : k + 1 ≤ 1086) (hn : n + 6 ≤ 13806) (kk : ∀ (s' : Sg) (o' : Nat → Int64) (k' n' : Nat), Inv s' → k' ≤ k + 1 → n' ≤ n + 6 → AW Γ (HP s' o') k' n' [some (.ref SCR), some (.ref 0), some (.ref 21), some (.ref 39), some (.int i), none, none] [] 1060) : AW Γ (HP s o) k n [some (.ref SCR), some (.ref 0), some (.ref 21), some (.ref 39), some (.int i), none, none] [] 880 := by
  rcases hP s hI (Γ.2.1.2.2.2.2.1 (i + (1 : Int32)).toNatClampNeg) with ⟨q, q2, h1, h2, h3, h5, h4⟩ | ⟨q2, h1, h2, h3, h4⟩
  · exact LC_substitute hu eN C v1 rfl (H_substitute_r hu h1) ⟨hk, hn⟩ ⟨by omega, by omega⟩ h2 h3 (fun _ => by rw [← h5]; simp [vp_updL]) (kk q2.2 (vp_updL o 0 q.toInt64) (k + 1) (n + 6) h4 (Nat.le_refl _) (Nat.le_refl _))
  · exact LC_substitute hu eN C v1 rfl (H_substitute_t3 hu h1) ⟨hk, hn⟩ ⟨by omega, by omega⟩ h2 h3 (fun z9 => absurd z9 (by decide)) (kk q2.2 o (k + 1) (n + 6) h4 (Nat.le_refl _) (Nat.le_refl _))
set_option maxHeartbeats 4000000 in
theorem LS_undo {Γ : Cx} (hu : Un Γ.2.1) (eN : 7 = Γ.2.2.2.2.2) (C : Cok Γ cL_law RL (some .boolean) 10 1086 13806) {Inv : Sg → Prop} (hP : P_undo Inv) {i : Int32}  {s : Sg} (hI : Inv s) {o : Nat → Int64} {k n : Nat} (hk : k + 1 ≤ 1086) (hn : n + 6 ≤ 13806) (kk : ∀ (s' : Sg) (o' : Nat → Int64) (k' n' : Nat), Inv s' → k' ≤ k + 1 → n' ≤ n + 6 → AW Γ (HP s' o') k' n' [some (.ref SCR), some (.ref 0), some (.ref 21), some (.ref 39), some (.int i), none, none] [] 1060) : AW Γ (HP s o) k n [some (.ref SCR), some (.ref 0), some (.ref 21), some (.ref 39), some (.int i), none, none] [] 936 := by
  rcases hP s hI  with ⟨q, q2, h1, h2, h3, h5, h4⟩ | ⟨q2, h1, h2, h3, h4⟩
  · exact LC_undo hu eN C  (H_undo_r hu h1) ⟨hk, hn⟩ ⟨by omega, by omega⟩ h2 h3 (fun _ => by rw [← h5]; simp [vp_updL]) (kk q2.2 (vp_updL o 0 q.1.toInt64) (k + 1) (n + 6) h4 (Nat.le_refl _) (Nat.le_refl _))
  · exact LC_undo hu eN C  (H_undo_t2 hu h1) ⟨hk, hn⟩ ⟨by omega, by omega⟩ h2 h3 (fun z9 => absurd z9 (by decide)) (kk q2.2 o (k + 1) (n + 6) h4 (Nat.le_refl _) (Nat.le_refl _))
set_option maxHeartbeats 4000000 in
theorem LS_page {Γ : Cx} (hu : Un Γ.2.1) (eN : 7 = Γ.2.2.2.2.2) (C : Cok Γ cL_law RL (some .boolean) 10 1086 13806) {Inv : Sg → Prop} (hP : P_page Inv) {i : Int32} (v1 : vp_in (i + (1 : Int32)) Γ.2.1.2.2.2.1) (v2 : vp_in (i + (2 : Int32)) Γ.2.1.2.2.2.1) (v3 : vp_in (i + (3 : Int32)) Γ.2.1.2.2.2.1) {s : Sg} (hI : Inv s) {o : Nat → Int64} {k n : Nat} (hk : k + 1 ≤ 1086) (hn : n + 6 ≤ 13806) (kk : ∀ (s' : Sg) (o' : Nat → Int64) (k' n' : Nat), Inv s' → k' ≤ k + 1 → n' ≤ n + 6 → AW Γ (HP s' o') k' n' [some (.ref SCR), some (.ref 0), some (.ref 21), some (.ref 39), some (.int i), none, none] [] 1060) : AW Γ (HP s o) k n [some (.ref SCR), some (.ref 0), some (.ref 21), some (.ref 39), some (.int i), none, none] [] 980 := by
  rcases hP s hI (Γ.2.1.2.2.2.2.1 (i + (1 : Int32)).toNatClampNeg) (Γ.2.1.2.2.2.2.1 (i + (2 : Int32)).toNatClampNeg) (Γ.2.1.2.2.2.2.1 (i + (3 : Int32)).toNatClampNeg) with ⟨q, q2, h1, h2, h3, h5, h4⟩ | ⟨q2, h1, h2, h3, h4⟩ | ⟨q2, h1, h2, h3, h4⟩
  · exact LC_page hu eN C v1 rfl v2 rfl v3 rfl (H_page_r hu h1) ⟨hk, hn⟩ ⟨by omega, by omega⟩ h2 h3 (fun _ => by rw [← h5]; simp [vp_updL]) (kk q2.2 (vp_updL o 0 q.toInt64) (k + 1) (n + 6) h4 (Nat.le_refl _) (Nat.le_refl _))
  · exact LC_page hu eN C v1 rfl v2 rfl v3 rfl (H_page_t1 hu h1) ⟨hk, hn⟩ ⟨by omega, by omega⟩ h2 h3 (fun z9 => absurd z9 (by decide)) (kk q2.2 o (k + 1) (n + 6) h4 (Nat.le_refl _) (Nat.le_refl _))
  · exact LC_page hu eN C v1 rfl v2 rfl v3 rfl (H_page_t3 hu h1) ⟨hk, hn⟩ ⟨by omega, by omega⟩ h2 h3 (fun z9 => absurd z9 (by decide)) (kk q2.2 o (k + 1) (n + 6) h4 (Nat.le_refl _) (Nat.le_refl _))
theorem nI_tab : ∀ t, t < 16 → (nI t).toInt = (t : Int) := by decide +kernel
set_option maxHeartbeats 8000000 in
set_option maxRecDepth 100000 in
theorem law_loop {Γ : Cx} (hu : Un Γ.2.1) (eN : 7 = Γ.2.2.2.2.2) (C : Cok Γ cL_law RL (some .boolean) 10 1086 13806) {Inv : Sg → Prop} (hPA : PAll Inv) (hL : Γ.2.1.2.2.2.1 ≤ 3586)
    (hend : ∀ (h : List va_E) (k n : Nat) (lv : List (Option Value)), k ≤ 1086 → n ≤ 13806 → AW Γ h k n lv [.int 1] 1067) :
    ∀ (m jn : Nat), jn + m = 513 → ∀ (s : Sg) (o : Nat → Int64) (k n : Nat), Inv s → k ≤ 40 + jn → n ≤ 5482 + 6 * jn → AW Γ (HP s o) k n [some (.ref SCR), some (.ref 0), some (.ref 21), some (.ref 39), some (.int (nI (2 + 7 * jn))), none, none] [] 43 := by
  obtain ⟨p_room, p_lesson, p_block, p_place, p_drop, p_fill, p_tries, p_period, p_roomOf, p_penalty, p_improve, p_absent, p_substitute, p_undo, p_page⟩ := hPA
  have hLi : (nI Γ.2.1.2.2.2.1 - (7 : Int32)).toInt = (Γ.2.1.2.2.2.1 : Int) - 7 := pk_sub_toInt (b := 7) (by omega) (by decide)
  intro m
  induction m with
  | zero =>
    intro jn hj s o k n hI hk hn
    refine A_iload C dL_law_43 rfl (pc' := 45) rfl ?_
    refine A_aload_n C dL_law_45 rfl (pc' := 46) rfl ?_
    refine A_slen C dL_law_46 (pc' := 47) rfl ?_
    refine A_bipush C (x := 7) dL_law_47 (by decide) (pc' := 49) rfl ?_
    refine A_isub C dL_law_49 (pc' := 50) rfl ?_
    refine A_icmp_gt C dL_law_50 (tgt := 1066) (by decide) (pc' := 53) rfl (fun c1 => ?_) (fun c1 => ?_)
    · refine A_iconst C (x := 1) dL_law_1066 (by decide) (pc' := 1067) rfl ?_
      exact hend _ k n _ (by omega) (by omega)
    · exfalso
      refine c1 (Int32.lt_iff_toInt_lt.mpr ?_)
      show (nI Γ.2.1.2.2.2.1 - 7).toInt < _
      rw [hLi, nI_toInt (by omega)]
      omega
  | succ m ih =>
    intro jn hj s o k n hI hk hn
    refine A_iload C dL_law_43 rfl (pc' := 45) rfl ?_
    refine A_aload_n C dL_law_45 rfl (pc' := 46) rfl ?_
    refine A_slen C dL_law_46 (pc' := 47) rfl ?_
    refine A_bipush C (x := 7) dL_law_47 (by decide) (pc' := 49) rfl ?_
    refine A_isub C dL_law_49 (pc' := 50) rfl ?_
    refine A_icmp_gt C dL_law_50 (tgt := 1066) (by decide) (pc' := 53) rfl (fun c1 => ?_) (fun c1 => ?_)
    · refine A_iconst C (x := 1) dL_law_1066 (by decide) (pc' := 1067) rfl ?_
      exact hend _ k n _ (by omega) (by omega)
    have hin : 2 + 7 * jn + 7 ≤ Γ.2.1.2.2.2.1 := by
      have h1 : ¬ (nI Γ.2.1.2.2.2.1 - (7 : Int32)).toInt < (nI (2 + 7 * jn)).toInt := fun z => c1 (Int32.lt_iff_toInt_lt.mpr z)
      rw [hLi, nI_toInt (by omega)] at h1
      omega
    have hv : ∀ j : Nat, j < 7 → vp_in (nI (2 + 7 * jn) + nI j) Γ.2.1.2.2.2.1 := fun j hj => by
      rw [nI_add]
      exact vp_in_nI (by omega) (by omega)
    have hnext : ∀ (s' : Sg) (o' : Nat → Int64) (k' n' : Nat), Inv s' → k' ≤ k + 1 → n' ≤ n + 6 → AW Γ (HP s' o') k' n' [some (.ref SCR), some (.ref 0), some (.ref 21), some (.ref 39), some (.int (nI (2 + 7 * jn))), none, none] [] 1060 := by
      intro s' o' k' n' hI' hk' hn'
      refine A_iinc C (v := nI (2 + 7 * (jn + 1))) (lv' := [some (.ref SCR), some (.ref 0), some (.ref 21), some (.ref 39), some (.int (nI (2 + 7 * (jn + 1)))), none, none]) dL_law_1060 rfl (by show nI (2 + 7 * jn) + nI 7 = _; rw [nI_add]; exact congrArg nI (by omega)) rfl eN rfl rfl (pc' := 1063) rfl ?_
      refine A_goto C dL_law_1063 (tgt := 43) (by decide) ?_
      exact ih (jn + 1) (by omega) s' o' k' n' hI' (by omega) (by omega)
    refine A_aload_n C dL_law_53 rfl (pc' := 54) rfl ?_
    refine A_iload C dL_law_54 rfl (pc' := 56) rfl ?_
    refine A_sald C (vp_in_nI (by omega) (by omega)) dL_law_56 (pc' := 57) rfl ?_
    refine A_bipush C (x := 15) dL_law_57 (by decide) (pc' := 59) rfl ?_
    refine A_iand C dL_law_59 (pc' := 60) rfl ?_
    obtain ⟨t, ht, et⟩ := pk_andE (Γ.2.1.2.2.2.2.1 (nI (2 + 7 * jn)).toNatClampNeg) (m := 15) 4 (by decide)
    refine A_topi et.symm ?_
    have ht : t < 16 := ht
    have hk1 : k + 1 ≤ 1086 := by omega
    have hn1 : n + 6 ≤ 13806 := by omega
    match t, ht with
    | 0, _ =>
      refine A_tableIn C (tgt := 136) (off := 76) dL_law_60 (by decide) (by decide) (by decide) (by decide) ?_
      exact LS_room hu eN C p_room (hv 1 (by decide)) (hv 2 (by decide)) hI hk1 hn1 hnext
    | 1, _ =>
      refine A_tableIn C (tgt := 184) (off := 124) dL_law_60 (by decide) (by decide) (by decide) (by decide) ?_
      exact LS_lesson hu eN C p_lesson (hv 1 (by decide)) (hv 2 (by decide)) (hv 3 (by decide)) (hv 4 (by decide)) (hv 5 (by decide)) (hv 6 (by decide)) hI hk1 hn1 hnext
    | 2, _ =>
      refine A_tableIn C (tgt := 302) (off := 242) dL_law_60 (by decide) (by decide) (by decide) (by decide) ?_
      exact LS_block hu eN C p_block (hv 1 (by decide)) (hv 2 (by decide)) (hv 3 (by decide)) (hv 4 (by decide)) hI hk1 hn1 hnext
    | 3, _ =>
      refine A_tableIn C (tgt := 390) (off := 330) dL_law_60 (by decide) (by decide) (by decide) (by decide) ?_
      exact LS_place hu eN C p_place (hv 1 (by decide)) (hv 2 (by decide)) (hv 3 (by decide)) hI hk1 hn1 hnext
    | 4, _ =>
      refine A_tableIn C (tgt := 470) (off := 410) dL_law_60 (by decide) (by decide) (by decide) (by decide) ?_
      exact LS_drop hu eN C p_drop (hv 1 (by decide)) (hv 2 (by decide)) hI hk1 hn1 hnext
    | 5, _ =>
      refine A_tableIn C (tgt := 538) (off := 478) dL_law_60 (by decide) (by decide) (by decide) (by decide) ?_
      exact LS_fill hu eN C p_fill (hv 1 (by decide)) hI hk1 hn1 hnext
    | 6, _ =>
      refine A_tableIn C (tgt := 594) (off := 534) dL_law_60 (by decide) (by decide) (by decide) (by decide) ?_
      exact LS_tries hu eN C p_tries  hI hk1 hn1 hnext
    | 7, _ =>
      refine A_tableIn C (tgt := 607) (off := 547) dL_law_60 (by decide) (by decide) (by decide) (by decide) ?_
      exact LS_period hu eN C p_period (hv 1 (by decide)) (hv 2 (by decide)) hI hk1 hn1 hnext
    | 8, _ =>
      refine A_tableIn C (tgt := 675) (off := 615) dL_law_60 (by decide) (by decide) (by decide) (by decide) ?_
      exact LS_roomOf hu eN C p_roomOf (hv 1 (by decide)) (hv 2 (by decide)) hI hk1 hn1 hnext
    | 9, _ =>
      refine A_tableIn C (tgt := 743) (off := 683) dL_law_60 (by decide) (by decide) (by decide) (by decide) ?_
      exact LS_penalty hu eN C p_penalty  hI hk1 hn1 hnext
    | 10, _ =>
      refine A_tableIn C (tgt := 756) (off := 696) dL_law_60 (by decide) (by decide) (by decide) (by decide) ?_
      exact LS_improve hu eN C p_improve (hv 1 (by decide)) hI hk1 hn1 hnext
    | 11, _ =>
      refine A_tableIn C (tgt := 812) (off := 752) dL_law_60 (by decide) (by decide) (by decide) (by decide) ?_
      exact LS_absent hu eN C p_absent (hv 1 (by decide)) (hv 2 (by decide)) hI hk1 hn1 hnext
    | 12, _ =>
      refine A_tableIn C (tgt := 880) (off := 820) dL_law_60 (by decide) (by decide) (by decide) (by decide) ?_
      exact LS_substitute hu eN C p_substitute (hv 1 (by decide)) hI hk1 hn1 hnext
    | 13, _ =>
      refine A_tableIn C (tgt := 936) (off := 876) dL_law_60 (by decide) (by decide) (by decide) (by decide) ?_
      exact LS_undo hu eN C p_undo  hI hk1 hn1 hnext
    | 14, _ =>
      refine A_tableIn C (tgt := 980) (off := 920) dL_law_60 (by decide) (by decide) (by decide) (by decide) ?_
      exact LS_page hu eN C p_page (hv 1 (by decide)) (hv 2 (by decide)) (hv 3 (by decide)) hI hk1 hn1 hnext
    | 15, _ =>
      refine A_tableOut C (tgt := 1060) dL_law_60 (Or.inr (by decide)) (by decide) ?_
      exact hnext s o k n hI (by omega) (by omega)
    | (t + 16), h => exact absurd h (by omega)
