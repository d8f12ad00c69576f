/-! ===== sums, counts of bits ===== -/
def sumN (f : Nat → Nat) : Nat → Nat
  | 0 => 0
  | n + 1 => sumN f n + f n
def cnt (f : Nat → Bool) (n : Nat) : Nat := sumN (fun i => (f i).toNat) n
theorem sumN_congr {f g : Nat → Nat} : ∀ {n : Nat}, (∀ i, i < n → f i = g i) → sumN f n = sumN g n
  | 0, _ => rfl
  | n + 1, h => by rw [sumN, sumN, sumN_congr (fun i hi => h i (by omega)), h n (by omega)]
theorem sumN_add (f g : Nat → Nat) : ∀ n : Nat, sumN (fun i => f i + g i) n = sumN f n + sumN g n
  | 0 => rfl
  | n + 1 => by rw [sumN, sumN, sumN, sumN_add f g n]; omega
theorem sumN_mul (c : Nat) (f : Nat → Nat) : ∀ n : Nat, sumN (fun i => c * f i) n = c * sumN f n
  | 0 => rfl
  | n + 1 => by rw [sumN, sumN, sumN_mul c f n, Nat.mul_add]
theorem sumN_zero {f : Nat → Nat} : ∀ {n : Nat}, (∀ i, i < n → f i = 0) → sumN f n = 0
  | 0, _ => rfl
  | n + 1, h => by rw [sumN, sumN_zero (fun i hi => h i (by omega)), h n (by omega)]
theorem sumN_split (f : Nat → Nat) (a : Nat) : ∀ b : Nat, sumN f (a + b) = sumN f a + sumN (fun i => f (a + i)) b
  | 0 => rfl
  | b + 1 => by rw [show a + (b + 1) = (a + b) + 1 by omega, sumN, sumN, sumN_split f a b]; omega
theorem sumN_swap (f : Nat → Nat → Nat) (m : Nat) : ∀ n : Nat, sumN (fun i => sumN (fun j => f i j) m) n = sumN (fun j => sumN (fun i => f i j) n) m
  | 0 => by simp only [sumN]; rw [sumN_zero (fun _ _ => rfl)]
  | n + 1 => by
    rw [sumN, sumN_swap f m n, ← sumN_add]
    rfl
theorem sumN_one {h : Nat → Nat} {a : Nat} : ∀ {n : Nat}, a < n → sumN (fun i => if i = a then h i else 0) n = h a
  | n + 1, hn => by
    rw [sumN]
    by_cases e : n = a
    · subst e
      rw [if_pos rfl, sumN_zero (fun i hi => if_neg (by omega))]; omega
    · rw [if_neg e, sumN_one (by omega)]; rfl
theorem sumN_le {f : Nat → Nat} {c : Nat} : ∀ {n : Nat}, (∀ i, i < n → f i ≤ c) → sumN f n ≤ n * c
  | 0, _ => by simp [sumN]
  | n + 1, h => by
    rw [sumN, Nat.add_mul]
    have := sumN_le (n := n) (fun i hi => h i (by omega))
    have := h n (by omega)
    omega
theorem cnt_le (f : Nat → Bool) (n : Nat) : cnt f n ≤ n := by
  have := sumN_le (f := fun i => (f i).toNat) (c := 1) (n := n) (fun i _ => Bool.toNat_le _)
  unfold cnt; omega
theorem anyb_sum {g : Nat → Bool} : ∀ {n : Nat}, (∀ i j, i < n → j < n → g i = true → g j = true → i = j) → (anyb g n).toNat = sumN (fun i => (g i).toNat) n
  | 0, _ => rfl
  | n + 1, h => by
    rw [anyb, sumN, ← anyb_sum (fun i j hi hj => h i j (by omega) (by omega))]
    cases h1 : anyb g n with
    | false => cases g n <;> rfl
    | true =>
      cases h2 : g n with
      | false => rfl
      | true =>
        obtain ⟨i, hi, h3⟩ := anyb_iff.mp h1
        have := h i n (by omega) (by omega) h3 h2
        omega
theorem land_b (a b : Nat) : a &&& b = (a % 256 &&& b % 256) + 256 * (a / 256 &&& b / 256) := by
  have h1 : (a &&& b) % 2 ^ 8 = (a % 2 ^ 8) &&& (b % 2 ^ 8) := Nat.and_mod_two_pow ..
  have h2 : (a &&& b) / 2 ^ 8 = (a / 2 ^ 8) &&& (b / 2 ^ 8) := Nat.and_div_two_pow ..
  have h3 := Nat.mod_add_div (a &&& b) (2 ^ 8)
  rw [h1, h2] at h3
  exact h3.symm
theorem nI_and (a b : Nat) : nI a &&& nI b = nI (a &&& b) := by
  apply Int32.toBitVec_inj.mp
  rw [Int32.toBitVec_and]
  apply BitVec.eq_of_toNat_eq
  show (Int32.ofNat a).toBitVec.toNat &&& (Int32.ofNat b).toBitVec.toNat = (Int32.ofNat (a &&& b)).toBitVec.toNat
  show a % 2 ^ 32 &&& b % 2 ^ 32 = (a &&& b) % 2 ^ 32
  rw [Nat.and_mod_two_pow]
theorem land4 {a b0 b1 b2 b3 m : Nat} (h0 : b0 < 256) (h1 : b1 < 256) (h2 : b2 < 256) (h3 : b3 < 256) (hm : m < 256) (ha : a = b0 + 256 * b1 + 65536 * b2 + 16777216 * b3) : a &&& (m + 256 * m + 65536 * m + 16777216 * m) = (b0 &&& m) + 256 * (b1 &&& m) + 65536 * (b2 &&& m) + 16777216 * (b3 &&& m) := by
  rw [land_b a, land_b (a / 256), land_b (a / 256 / 256)]
  have e0 : a % 256 = b0 := by omega
  have e1 : a / 256 % 256 = b1 := by omega
  have e2 : a / 256 / 256 % 256 = b2 := by omega
  have e3 : a / 256 / 256 / 256 = b3 := by omega
  have f0 : (m + 256 * m + 65536 * m + 16777216 * m) % 256 = m := by omega
  have f1 : (m + 256 * m + 65536 * m + 16777216 * m) / 256 % 256 = m := by omega
  have f2 : (m + 256 * m + 65536 * m + 16777216 * m) / 256 / 256 % 256 = m := by omega
  have f3 : (m + 256 * m + 65536 * m + 16777216 * m) / 256 / 256 / 256 = m := by omega
  rw [e0, e1, e2, e3, f0, f1, f2, f3]
  omega
theorem t85 : ∀ b, b < 256 → ∀ c, c < 2 → ((b / 2 + 128 * c) &&& 85) = (b / 2 &&& 85) ∧ (b / 2 &&& 85) ≤ b ∧ (b - (b / 2 &&& 85)) < 256 := by decide +kernel
theorem t51 : ∀ b, b < 256 → ∀ c, c < 4 → ((b / 4 + 64 * c) &&& 51) = (b / 4 &&& 51) := by decide +kernel
def d2 (b : Nat) : Nat := ((b - (b / 2 &&& 85)) &&& 51) + ((b - (b / 2 &&& 85)) / 4 &&& 51)
theorem t2 : ∀ b, b < 256 → d2 b % 16 ≤ 4 ∧ d2 b / 16 ≤ 4 ∧ d2 b % 16 + d2 b / 16 = cnt (fun i => b.testBit i) 8 := by decide +kernel
theorem t15 : ∀ b, b < 256 → (b &&& 15) = b % 16 := by decide +kernel
theorem bc_end {p0 p1 p2 p3 a3 a4 a5 : Nat} (h0 : p0 ≤ 8) (h1 : p1 ≤ 8) (h2 : p2 ≤ 8) (h3 : p3 ≤ 8) (e3 : a3 = p0 + 256 * p1 + 65536 * p2 + 16777216 * p3) (h4 : a4 = a3 + a3 / 256) (h5 : a5 = a4 + a4 / 65536) : a4 < 2 ^ 32 ∧ a5 < 2 ^ 32 ∧ a5 % 64 = p0 + p1 + p2 + p3 := by
  have e : a3 / 256 = p1 + 256 * p2 + 65536 * p3 := by omega
  rw [e, e3] at h4
  have e4 : a4 / 65536 = (p2 + p3) + 256 * p3 := by
    clear h5 e e3
    omega
  rw [e4] at h5
  have e5 : a5 = 64 * (4 * (p1 + p2) + 1024 * (p2 + p3) + 262144 * p3 + 4 * p3) + (p0 + p1 + p2 + p3) := by
    clear e e3 e4
    omega
  clear e e3 e4
  refine ⟨by omega, by omega, ?_⟩
  rw [e5, Nat.mul_add_mod, Nat.mod_eq_of_lt (by omega)]
theorem mid16 {x y z : Nat} (hx : x ≤ 4) (hy : y ≤ 4) : (x + y + 16 * z) % 16 = x + y := by omega
theorem bc_nat (N : Nat) (hN : N < 2 ^ 32) : ∀ a1 a2 a3 a4 a5 : Nat, a1 = N - (N / 2 &&& 1431655765) → a2 = (a1 &&& 858993459) + (a1 / 4 &&& 858993459) → a3 = (a2 + a2 / 16 &&& 252645135) → a4 = a3 + a3 / 256 → a5 = a4 + a4 / 65536 → (N / 2 &&& 1431655765) ≤ N ∧ a1 < 2 ^ 32 ∧ a2 < 2 ^ 31 ∧ a2 + a2 / 16 < 2 ^ 32 ∧ a4 < 2 ^ 32 ∧ a5 < 2 ^ 32 ∧ a5 % 64 = cnt (fun i => (N % 256).testBit i) 8 + cnt (fun i => (N / 256 % 256).testBit i) 8 + cnt (fun i => (N / 65536 % 256).testBit i) 8 + cnt (fun i => (N / 16777216).testBit i) 8 := by
  intro a1 a2 a3 a4 a5 h1 h2 h3 h4 h5
  obtain ⟨b0, hb0⟩ : ∃ b, b = N % 256 := ⟨_, rfl⟩
  obtain ⟨b1, hb1⟩ : ∃ b, b = N / 256 % 256 := ⟨_, rfl⟩
  obtain ⟨b2, hb2⟩ : ∃ b, b = N / 65536 % 256 := ⟨_, rfl⟩
  obtain ⟨b3, hb3⟩ : ∃ b, b = N / 16777216 := ⟨_, rfl⟩
  rw [← hb0, ← hb1, ← hb2, ← hb3]
  have eN : N = b0 + 256 * b1 + 65536 * b2 + 16777216 * b3 := by omega
  have g0 : b0 < 256 := by omega
  have g1 : b1 < 256 := by omega
  have g2 : b2 < 256 := by omega
  have g3 : b3 < 256 := by omega
  clear hb0 hb1 hb2 hb3
  have q1 := land4 (a := N / 2) (m := 85) (b0 := b0 / 2 + 128 * (b1 % 2)) (b1 := b1 / 2 + 128 * (b2 % 2)) (b2 := b2 / 2 + 128 * (b3 % 2)) (b3 := b3 / 2 + 128 * 0) (by omega) (by omega) (by omega) (by omega) (by omega) (by omega)
  rw [(t85 b0 g0 (b1 % 2) (by omega)).1, (t85 b1 g1 (b2 % 2) (by omega)).1, (t85 b2 g2 (b3 % 2) (by omega)).1, (t85 b3 g3 0 (by omega)).1] at q1
  have l0 := (t85 b0 g0 0 (by omega)).2
  have l1 := (t85 b1 g1 0 (by omega)).2
  have l2 := (t85 b2 g2 0 (by omega)).2
  have l3 := (t85 b3 g3 0 (by omega)).2
  have m0 := t2 b0 g0
  have m1 := t2 b1 g1
  have m2 := t2 b2 g2
  have m3 := t2 b3 g3
  unfold d2 at m0 m1 m2 m3
  rw [← m0.2.2, ← m1.2.2, ← m2.2.2, ← m3.2.2]
  generalize (b0 / 2 &&& 85) = u0 at *
  generalize (b1 / 2 &&& 85) = u1 at *
  generalize (b2 / 2 &&& 85) = u2 at *
  generalize (b3 / 2 &&& 85) = u3 at *
  rw [show (85 + 256 * 85 + 65536 * 85 + 16777216 * 85 : Nat) = 1431655765 from rfl] at q1
  rw [q1] at h1 ⊢
  obtain ⟨c0, hc0⟩ : ∃ c, c = b0 - u0 := ⟨_, rfl⟩
  obtain ⟨c1, hc1⟩ : ∃ c, c = b1 - u1 := ⟨_, rfl⟩
  obtain ⟨c2, hc2⟩ : ∃ c, c = b2 - u2 := ⟨_, rfl⟩
  obtain ⟨c3, hc3⟩ : ∃ c, c = b3 - u3 := ⟨_, rfl⟩
  rw [← hc0] at m0 l0 ⊢
  rw [← hc1] at m1 l1 ⊢
  rw [← hc2] at m2 l2 ⊢
  rw [← hc3] at m3 l3 ⊢
  have e1 : a1 = c0 + 256 * c1 + 65536 * c2 + 16777216 * c3 := by omega
  have k1 : u0 + 256 * u1 + 65536 * u2 + 16777216 * u3 ≤ N := by omega
  have q2 := land4 (m := 51) l0.2 l1.2 l2.2 l3.2 (by omega) e1
  have q3 := land4 (a := a1 / 4) (m := 51) (b0 := c0 / 4 + 64 * (c1 % 4)) (b1 := c1 / 4 + 64 * (c2 % 4)) (b2 := c2 / 4 + 64 * (c3 % 4)) (b3 := c3 / 4 + 64 * 0) (by omega) (by omega) (by omega) (by omega) (by omega) (by omega)
  rw [t51 c0 l0.2 (c1 % 4) (by omega), t51 c1 l1.2 (c2 % 4) (by omega), t51 c2 l2.2 (c3 % 4) (by omega), t51 c3 l3.2 0 (by omega)] at q3
  rw [show (51 + 256 * 51 + 65536 * 51 + 16777216 * 51 : Nat) = 858993459 from rfl] at q2 q3
  rw [q2, q3] at h2
  clear q1 q2 q3 hc0 hc1 hc2 hc3 h1
  have a1l : a1 < 2 ^ 32 := by omega
  clear l0 l1 l2 l3 e1
  generalize hd0 : (c0 &&& 51) + (c0 / 4 &&& 51) = d0 at *
  generalize hd1 : (c1 &&& 51) + (c1 / 4 &&& 51) = d1 at *
  generalize hd2 : (c2 &&& 51) + (c2 / 4 &&& 51) = d2' at *
  generalize hd3 : (c3 &&& 51) + (c3 / 4 &&& 51) = d3 at *
  have e2 : a2 = d0 + 256 * d1 + 65536 * d2' + 16777216 * d3 := by omega
  clear h2 hd0 hd1 hd2 hd3
  obtain ⟨y0, hy0⟩ : ∃ y, y = d0 / 16 := ⟨_, rfl⟩
  obtain ⟨x0, hx0⟩ : ∃ x, x = d0 % 16 := ⟨_, rfl⟩
  obtain ⟨y1, hy1⟩ : ∃ y, y = d1 / 16 := ⟨_, rfl⟩
  obtain ⟨x1, hx1⟩ : ∃ x, x = d1 % 16 := ⟨_, rfl⟩
  obtain ⟨y2, hy2⟩ : ∃ y, y = d2' / 16 := ⟨_, rfl⟩
  obtain ⟨x2, hx2⟩ : ∃ x, x = d2' % 16 := ⟨_, rfl⟩
  obtain ⟨y3, hy3⟩ : ∃ y, y = d3 / 16 := ⟨_, rfl⟩
  obtain ⟨x3, hx3⟩ : ∃ x, x = d3 % 16 := ⟨_, rfl⟩
  rw [← hy0, ← hx0] at m0
  rw [← hy1, ← hx1] at m1
  rw [← hy2, ← hx2] at m2
  rw [← hy3, ← hx3] at m3
  rw [← hy0, ← hx0, ← hy1, ← hx1, ← hy2, ← hx2, ← hy3, ← hx3]
  have f0 : d0 = x0 + 16 * y0 := by omega
  have f1 : d1 = x1 + 16 * y1 := by omega
  have f2 : d2' = x2 + 16 * y2 := by omega
  have f3 : d3 = x3 + 16 * y3 := by omega
  clear hy0 hx0 hy1 hx1 hy2 hx2 hy3 hx3
  have b16 : a2 / 16 = y0 + 16 * x1 + 256 * (y1 + 16 * x2) + 65536 * (y2 + 16 * x3) + 16777216 * y3 := by omega
  have q4 := land4 (a := a2 + a2 / 16) (m := 15) (b0 := x0 + y0 + 16 * (y0 + x1)) (b1 := x1 + y1 + 16 * (y1 + x2)) (b2 := x2 + y2 + 16 * (y2 + x3)) (b3 := x3 + y3 + 16 * y3) (by omega) (by omega) (by omega) (by omega) (by omega) (by omega)
  rw [t15 (x0 + y0 + 16 * (y0 + x1)) (by omega), t15 (x1 + y1 + 16 * (y1 + x2)) (by omega), t15 (x2 + y2 + 16 * (y2 + x3)) (by omega), t15 (x3 + y3 + 16 * y3) (by omega)] at q4
  rw [show (15 + 256 * 15 + 65536 * 15 + 16777216 * 15 : Nat) = 252645135 from rfl] at q4
  rw [mid16 m0.1 m0.2.1, mid16 m1.1 m1.2.1, mid16 m2.1 m2.2.1, mid16 m3.1 m3.2.1] at q4
  rw [q4] at h3
  obtain ⟨z1, z2, z3⟩ := bc_end (p0 := x0 + y0) (p1 := x1 + y1) (p2 := x2 + y2) (p3 := x3 + y3) (by omega) (by omega) (by omega) (by omega) h3 h4 h5
  have a2l : a2 < 2 ^ 31 := by
    clear q4 h3 h4 h5 b16 z1 z2 z3
    omega
  refine ⟨k1, a1l, a2l, ?_, z1, z2, z3⟩
  clear q4 h3 h4 h5 b16 z1 z2 z3
  omega
theorem tb_b (N k : Nat) {i : Nat} (hi : i < 8) : (N / 2 ^ k % 256).testBit i = N.testBit (k + i) := by
  rw [show (256 : Nat) = 2 ^ 8 from rfl, Nat.testBit_mod_two_pow, Nat.testBit_div_two_pow]
  simp [hi, Nat.add_comm]
theorem cnt_bytes (f : Nat → Bool) : cnt f 32 = cnt f 8 + cnt (fun i => f (8 + i)) 8 + cnt (fun i => f (16 + i)) 8 + cnt (fun i => f (24 + i)) 8 := by
  unfold cnt
  rw [show (32 : Nat) = 24 + 8 from rfl, sumN_split, show (24 : Nat) = 16 + 8 from rfl, sumN_split _ 16 8, show (16 : Nat) = 8 + 8 from rfl, sumN_split _ 8 8]
theorem cnt_congr {f g : Nat → Bool} {n : Nat} (h : ∀ i, i < n → f i = g i) : cnt f n = cnt g n := sumN_congr fun i hi => by rw [h i hi]
theorem bitCount_ok (x : Int32) (s : Sg) : F_J6_bitCount_0f7a4 x s = some (nI (cnt (bt x) 32)) := by
  obtain ⟨N, hN, rfl⟩ : ∃ N, N < 2 ^ 32 ∧ x = nI N := ⟨x.toBitVec.toNat, x.toBitVec.isLt, by
    apply Int32.toBitVec_inj.mp
    apply BitVec.eq_of_toNat_eq
    rw [pk_tn x.toBitVec.isLt]⟩
  obtain ⟨k1, k2, k3, k4, k5, k6, k7⟩ := bc_nat N hN _ _ _ _ _ rfl rfl rfl rfl rfl
  have s1 : (((1 : Int32).toUInt32 &&& Int32.toUInt32 31).toBitVec % 32).toNat = 1 := by decide
  have s2 : (((2 : Int32).toUInt32 &&& Int32.toUInt32 31).toBitVec % 32).toNat = 2 := by decide
  have s4 : (((4 : Int32).toUInt32 &&& Int32.toUInt32 31).toBitVec % 32).toNat = 4 := by decide
  have s8 : (((8 : Int32).toUInt32 &&& Int32.toUInt32 31).toBitVec % 32).toNat = 8 := by decide
  have s16 : (((16 : Int32).toUInt32 &&& Int32.toUInt32 31).toBitVec % 32).toNat = 16 := by decide
  unfold F_J6_bitCount_0f7a4
  simp only [bnd]
  rw [pk_ushrN hN 1 1 s1, show (1431655765 : Int32) = nI 1431655765 from rfl, nI_and, show 2 ^ 1 = 2 from rfl, pk_sub k1]
  rw [pk_ushrN k2 2 2 s2, show (858993459 : Int32) = nI 858993459 from rfl, nI_and, nI_and, nI_add, show 2 ^ 2 = 4 from rfl]
  rw [pk_ushrN (by omega) 4 4 s4, nI_add, show (252645135 : Int32) = nI 252645135 from rfl, nI_and, show 2 ^ 4 = 16 from rfl]
  rw [pk_ushrN (by omega) 8 8 s8, nI_add, show 2 ^ 8 = 256 from rfl]
  rw [pk_ushrN k5 16 16 s16, nI_add, show 2 ^ 16 = 65536 from rfl]
  rw [pk_andN k6 6 (by decide), show 2 ^ 6 = 64 from rfl, k7]
  have hbt : ∀ i, bt (nI N) i = N.testBit i := fun i => by
    unfold bt
    show (nI N).toBitVec.toNat.testBit i = _
    rw [pk_tn hN]
  rw [cnt_bytes]
  rw [cnt_congr (f := fun i => (N % 256).testBit i) (g := bt (nI N)) (n := 8) (fun i hi => by rw [hbt]; have := tb_b N 0 hi; simpa using this),
    cnt_congr (f := fun i => (N / 256 % 256).testBit i) (g := fun i => bt (nI N) (8 + i)) (n := 8) (fun i hi => by rw [hbt]; exact tb_b N 8 hi),
    cnt_congr (f := fun i => (N / 65536 % 256).testBit i) (g := fun i => bt (nI N) (16 + i)) (n := 8) (fun i hi => by rw [hbt]; exact tb_b N 16 hi),
    cnt_congr (f := fun i => (N / 16777216).testBit i) (g := fun i => bt (nI N) (24 + i)) (n := 8) (fun i hi => by
      rw [hbt, ← tb_b N 24 hi, show N / 2 ^ 24 % 256 = N / 16777216 by omega])]
