/-! part 59: bits, counted -/
def pcn (b : Nat) : Nat → Nat
  | 0 => 0
  | n + 1 => pcn b n + (b.testBit n).toNat
theorem pcn_succ (b n : Nat) : pcn b (n + 1) = pcn b n + (b.testBit n).toNat := rfl
theorem and_split {B t x p y q : Nat} (hB : B = 2 ^ t) (hx : x < B) (hp : p < B) : (x + B * y) &&& (p + B * q) = (x &&& p) + B * (y &&& q) := by
  subst hB
  have hxp : x &&& p < 2 ^ t := Nat.and_lt_two_pow x hp
  rw [Nat.add_comm x, Nat.add_comm p, Nat.add_comm (x &&& p)]
  apply Nat.eq_of_testBit_eq
  intro i
  rw [Nat.testBit_and, Nat.testBit_two_pow_mul_add _ hx, Nat.testBit_two_pow_mul_add _ hp, Nat.testBit_two_pow_mul_add _ hxp]
  by_cases h : i < t
  · rw [if_pos h, if_pos h, if_pos h, Nat.testBit_and]
  · rw [if_neg h, if_neg h, if_neg h, Nat.testBit_and]
def h1 (x : Nat) : Nat := x - (x / 2 &&& 21845)
def h2 (u : Nat) : Nat := (u &&& 13107) + (u / 4 &&& 13107)
def h3 (p : Nat) : Nat := (p + p / 16) &&& 3855
def f1 (x : Nat) : Nat := x - (x / 2 &&& 1431655765)
def f2 (u : Nat) : Nat := (u &&& 858993459) + (u / 4 &&& 858993459)
def f3 (p : Nat) : Nat := (p + p / 16) &&& 252645135
def f4 (p : Nat) : Nat := p + p / 256
def f5 (p : Nat) : Nat := p + p / 65536
theorem f1_s {x y : Nat} (hx : x < 65536) : f1 (x + 65536 * y) = h1 x + 65536 * h1 y := by
  unfold f1 h1
  have e : (x + 65536 * y) / 2 = (x / 2 + 32768 * (y % 2)) + 65536 * (y / 2) := by omega
  have e1 := and_split (B := 65536) (t := 16) (x := x / 2 + 32768 * (y % 2)) (p := 21845) (y := y / 2) (q := 21845) (by decide) (by omega) (by omega)
  have e2 := and_split (B := 32768) (t := 15) (x := x / 2) (p := 21845) (y := y % 2) (q := 0) (by decide) (by omega) (by omega)
  have l1 : x / 2 &&& 21845 ≤ x / 2 := Nat.and_le_left
  have l2 : y / 2 &&& 21845 ≤ y / 2 := Nat.and_le_left
  rw [Nat.and_zero, Nat.mul_zero, Nat.add_zero, Nat.add_zero] at e2
  rw [e2] at e1
  rw [e, show (1431655765 : Nat) = 21845 + 65536 * 21845 from rfl, e1]
  omega
theorem f2_s {x y : Nat} (hx : x < 65536) : f2 (x + 65536 * y) = h2 x + 65536 * h2 y := by
  unfold f2 h2
  have e : (x + 65536 * y) / 4 = (x / 4 + 16384 * (y % 4)) + 65536 * (y / 4) := by omega
  have e1 := and_split (B := 65536) (t := 16) (x := x / 4 + 16384 * (y % 4)) (p := 13107) (y := y / 4) (q := 13107) (by decide) (by omega) (by omega)
  have e2 := and_split (B := 16384) (t := 14) (x := x / 4) (p := 13107) (y := y % 4) (q := 0) (by decide) (by omega) (by omega)
  have e3 := and_split (B := 65536) (t := 16) (x := x) (p := 13107) (y := y) (q := 13107) (by decide) hx (by omega)
  rw [Nat.and_zero, Nat.mul_zero, Nat.add_zero, Nat.add_zero] at e2
  rw [e2] at e1
  rw [e, show (858993459 : Nat) = 13107 + 65536 * 13107 from rfl, e1, e3]
  omega
theorem f3_s {x y : Nat} (hx : x ≤ 17476) (hy : y % 16 ≤ 4) : f3 (x + 65536 * y) = h3 x + 65536 * h3 y := by
  unfold f3 h3
  have e : x + 65536 * y + (x + 65536 * y) / 16 = (x + x / 16 + 4096 * (y % 16)) + 65536 * (y + y / 16) := by omega
  have e1 := and_split (B := 65536) (t := 16) (x := x + x / 16 + 4096 * (y % 16)) (p := 3855) (y := y + y / 16) (q := 3855) (by decide) (by omega) (by omega)
  have e2 := and_split (B := 4096) (t := 12) (x := (x + x / 16) % 4096) (p := 3855) (y := (x + x / 16) / 4096 + y % 16) (q := 0) (by decide) (by omega) (by omega)
  have e3 := and_split (B := 4096) (t := 12) (x := (x + x / 16) % 4096) (p := 3855) (y := (x + x / 16) / 4096) (q := 0) (by decide) (by omega) (by omega)
  rw [Nat.and_zero, Nat.mul_zero, Nat.add_zero, Nat.add_zero, show (x + x / 16) % 4096 + 4096 * ((x + x / 16) / 4096 + y % 16) = x + x / 16 + 4096 * (y % 16) by omega] at e2
  rw [Nat.and_zero, Nat.mul_zero, Nat.add_zero, Nat.add_zero, show (x + x / 16) % 4096 + 4096 * ((x + x / 16) / 4096) = x + x / 16 by omega] at e3
  rw [e2, ← e3] at e1
  rw [e, show (252645135 : Nat) = 3855 + 65536 * 3855 from rfl, e1]
/-! a half's bits, by bytes -/
def g1b (x : Nat) : Nat := x - (x / 2 &&& 85)
def g2b (u : Nat) : Nat := (u &&& 51) + (u / 4 &&& 51)
def g3b (p : Nat) : Nat := (p + p / 16) &&& 15
theorem h1_s {x y : Nat} (hx : x < 256) : h1 (x + 256 * y) = g1b x + 256 * g1b y := by
  unfold h1 g1b
  have e : (x + 256 * y) / 2 = (x / 2 + 128 * (y % 2)) + 256 * (y / 2) := by omega
  have e1 := and_split (B := 256) (t := 8) (x := x / 2 + 128 * (y % 2)) (p := 85) (y := y / 2) (q := 85) (by decide) (by omega) (by omega)
  have e2 := and_split (B := 128) (t := 7) (x := x / 2) (p := 85) (y := y % 2) (q := 0) (by decide) (by omega) (by omega)
  have l1 : x / 2 &&& 85 ≤ x / 2 := Nat.and_le_left
  have l2 : y / 2 &&& 85 ≤ y / 2 := Nat.and_le_left
  rw [Nat.and_zero, Nat.mul_zero, Nat.add_zero, Nat.add_zero] at e2
  rw [e2] at e1
  rw [e, show (21845 : Nat) = 85 + 256 * 85 from rfl, e1]
  omega
theorem h2_s {x y : Nat} (hx : x < 256) : h2 (x + 256 * y) = g2b x + 256 * g2b y := by
  unfold h2 g2b
  have e : (x + 256 * y) / 4 = (x / 4 + 64 * (y % 4)) + 256 * (y / 4) := by omega
  have e1 := and_split (B := 256) (t := 8) (x := x / 4 + 64 * (y % 4)) (p := 51) (y := y / 4) (q := 51) (by decide) (by omega) (by omega)
  have e2 := and_split (B := 64) (t := 6) (x := x / 4) (p := 51) (y := y % 4) (q := 0) (by decide) (by omega) (by omega)
  have e3 := and_split (B := 256) (t := 8) (x := x) (p := 51) (y := y) (q := 51) (by decide) hx (by omega)
  rw [Nat.and_zero, Nat.mul_zero, Nat.add_zero, Nat.add_zero] at e2
  rw [e2] at e1
  rw [e, show (13107 : Nat) = 51 + 256 * 51 from rfl, e1, e3]
  omega
theorem h3_s {x y : Nat} (hx : x ≤ 68) (hy : y % 16 ≤ 4) : h3 (x + 256 * y) = g3b x + 256 * g3b y := by
  unfold h3 g3b
  have e : x + 256 * y + (x + 256 * y) / 16 = (x + x / 16 + 16 * (y % 16)) + 256 * (y + y / 16) := by omega
  have e1 := and_split (B := 256) (t := 8) (x := x + x / 16 + 16 * (y % 16)) (p := 15) (y := y + y / 16) (q := 15) (by decide) (by omega) (by omega)
  have e2 := and_split (B := 16) (t := 4) (x := (x + x / 16) % 16) (p := 15) (y := (x + x / 16) / 16 + y % 16) (q := 0) (by decide) (by omega) (by omega)
  have e3 := and_split (B := 16) (t := 4) (x := (x + x / 16) % 16) (p := 15) (y := (x + x / 16) / 16) (q := 0) (by decide) (by omega) (by omega)
  rw [Nat.and_zero, Nat.mul_zero, Nat.add_zero, Nat.add_zero, show (x + x / 16) % 16 + 16 * ((x + x / 16) / 16 + y % 16) = x + x / 16 + 16 * (y % 16) by omega] at e2
  rw [Nat.and_zero, Nat.mul_zero, Nat.add_zero, Nat.add_zero, show (x + x / 16) % 16 + 16 * ((x + x / 16) / 16) = x + x / 16 by omega] at e3
  rw [e2, ← e3] at e1
  rw [e, show (3855 : Nat) = 15 + 256 * 15 from rfl, e1]
theorem gok : ∀ x, x < 256 → g1b x < 256 ∧ g2b (g1b x) ≤ 68 ∧ g2b (g1b x) % 16 ≤ 4 ∧ g3b (g2b (g1b x)) ≤ 8 ∧ g3b (g2b (g1b x)) = pcn x 8 := by decide +kernel
theorem pcn_s8 {x y : Nat} (hx : x < 256) : ∀ k, pcn (x + 256 * y) (8 + k) = pcn x 8 + pcn y k := by
  have tb : ∀ j, (x + 256 * y).testBit j = if j < 8 then x.testBit j else y.testBit (j - 8) := fun j => by
    rw [Nat.add_comm]
    exact Nat.testBit_two_pow_mul_add (i := 8) y hx j
  have lo : ∀ j, j ≤ 8 → pcn (x + 256 * y) j = pcn x j := by
    intro j
    induction j with
    | zero => intro _; rfl
    | succ j ih => intro h; rw [pcn_succ, pcn_succ, ih (by omega), tb, if_pos (by omega)]
  intro k
  induction k with
  | zero => rw [Nat.add_zero, lo 8 (Nat.le_refl _)]; rfl
  | succ k ih =>
    rw [show 8 + (k + 1) = 8 + k + 1 by omega, pcn_succ _ (8 + k), ih, tb, if_neg (by omega), Nat.add_sub_cancel_left, pcn_succ y k, Nat.add_assoc]
theorem hok_at {x : Nat} (h : x < 65536) : h1 x < 65536 ∧ h2 (h1 x) ≤ 17476 ∧ h2 (h1 x) % 16 ≤ 4 ∧ h3 (h2 (h1 x)) % 256 ≤ 8 ∧ h3 (h2 (h1 x)) / 256 ≤ 8 ∧ h3 (h2 (h1 x)) % 256 + h3 (h2 (h1 x)) / 256 = pcn x 16 := by
  obtain ⟨a1, a2, a3, a4, a5⟩ := gok (x % 256) (by omega)
  obtain ⟨c1, c2, c3, c4, c5⟩ := gok (x / 256) (by omega)
  have e0 : x = x % 256 + 256 * (x / 256) := by omega
  have e1 : h1 x = g1b (x % 256) + 256 * g1b (x / 256) := by
    have := h1_s (x := x % 256) (y := x / 256) (by omega)
    rw [← e0] at this
    exact this
  have e2 : h2 (h1 x) = g2b (g1b (x % 256)) + 256 * g2b (g1b (x / 256)) := by rw [e1, h2_s a1]
  have e3 : h3 (h2 (h1 x)) = g3b (g2b (g1b (x % 256))) + 256 * g3b (g2b (g1b (x / 256))) := by rw [e2, h3_s a2 c3]
  have ep : pcn x 16 = pcn (x % 256) 8 + pcn (x / 256) 8 := by
    have := pcn_s8 (x := x % 256) (y := x / 256) (by omega) 8
    rw [← e0] at this
    exact this
  rw [ep, ← a5, ← c5, e3, e2, e1]
  omega
theorem pcn_z {b : Nat} : ∀ n m, b < 2 ^ m → m ≤ n → pcn b n = pcn b m := by
  intro n
  induction n with
  | zero => intro m _ h; rw [show m = 0 by omega]
  | succ n ih =>
    intro m hb h
    by_cases e : m = n + 1
    · rw [e]
    · rw [pcn_succ b n, ih m hb (by omega), Nat.testBit_lt_two_pow (Nat.lt_of_lt_of_le hb (Nat.pow_le_pow_right (by decide) (by omega)))]
      rfl
theorem pcn_s {x y : Nat} (hx : x < 65536) : ∀ k, pcn (x + 65536 * y) (16 + k) = pcn x 16 + pcn y k := by
  have tb : ∀ j, (x + 65536 * y).testBit j = if j < 16 then x.testBit j else y.testBit (j - 16) := fun j => by
    rw [Nat.add_comm]
    exact Nat.testBit_two_pow_mul_add (i := 16) y hx j
  have lo : ∀ j, j ≤ 16 → pcn (x + 65536 * y) j = pcn x j := by
    intro j
    induction j with
    | zero => intro _; rfl
    | succ j ih => intro h; rw [pcn_succ, pcn_succ, ih (by omega), tb, if_pos (by omega)]
  intro k
  induction k with
  | zero => rw [Nat.add_zero, lo 16 (Nat.le_refl _)]; rfl
  | succ k ih =>
    rw [show 16 + (k + 1) = 16 + k + 1 by omega, pcn_succ _ (16 + k), ih, tb, if_neg (by omega), Nat.add_sub_cancel_left, pcn_succ y k, Nat.add_assoc]
theorem bc_all {b : Nat} (hb : b < 2 ^ 25) : f5 (f4 (f3 (f2 (f1 b)))) &&& 63 = pcn b 25 := by
  have e0 : b = b % 65536 + 65536 * (b / 65536) := by omega
  have hy : b / 65536 < 512 := by omega
  obtain ⟨a1, a2, a3, a4, a5, a6⟩ := hok_at (x := b % 65536) (by omega)
  obtain ⟨c1, c2, c3, c4, c5, c6⟩ := hok_at (x := b / 65536) (by omega)
  have e : f3 (f2 (f1 b)) = h3 (h2 (h1 (b % 65536))) + 65536 * h3 (h2 (h1 (b / 65536))) := by
    rw [e0, f1_s (by omega), f2_s a1, f3_s a2 c3]
    simp only [show (b % 65536 + 65536 * (b / 65536)) % 65536 = b % 65536 by omega, show (b % 65536 + 65536 * (b / 65536)) / 65536 = b / 65536 by omega]
  have ep : pcn b 25 = pcn (b % 65536) 16 + pcn (b / 65536) 16 := by
    have := pcn_s (x := b % 65536) (y := b / 65536) (by omega) 9
    rw [← e0] at this
    rw [this, pcn_z (b := b / 65536) 16 9 (by omega) (by decide)]
  rw [e, ep, ← a6, ← c6, show (63 : Nat) = 2 ^ 6 - 1 from rfl, Nat.and_two_pow_sub_one_eq_mod]
  unfold f5 f4
  have eh : h3 (h2 (h1 (b % 65536))) = h3 (h2 (h1 (b % 65536))) % 256 + 256 * (h3 (h2 (h1 (b % 65536))) / 256) := by omega
  have eg : h3 (h2 (h1 (b / 65536))) = h3 (h2 (h1 (b / 65536))) % 256 + 256 * (h3 (h2 (h1 (b / 65536))) / 256) := by omega
  generalize h3 (h2 (h1 (b % 65536))) % 256 = u0 at *
  generalize h3 (h2 (h1 (b % 65536))) / 256 = u1 at *
  generalize h3 (h2 (h1 (b / 65536))) % 256 = v0 at *
  generalize h3 (h2 (h1 (b / 65536))) / 256 = v1 at *
  rw [eh, eg]
  have x1 : (u0 + 256 * u1 + 65536 * (v0 + 256 * v1)) / 256 = u1 + 256 * v0 + 65536 * v1 := by omega
  rw [x1]
  have x2 : (u0 + 256 * u1 + 65536 * (v0 + 256 * v1) + (u1 + 256 * v0 + 65536 * v1)) / 65536 = v0 + v1 + 256 * v1 := by omega
  rw [x2]
  omega
def us (v : Int32) (k : Nat) : Int32 := (v.toUInt32 >>> ((nI k).toUInt32 &&& Int32.toUInt32 31)).toInt32
theorem us_n {n k : Nat} (hn : n < 2 ^ 32) (hk : k < 32) : us (nI n) k = nI (n / 2 ^ k) := by
  have h : ∀ k, k < 32 → (((nI k).toUInt32 &&& Int32.toUInt32 31).toBitVec % 32).toNat = k := by decide +kernel
  exact pk_ushrN hn (nI k) k (h k hk)
def bcI (v : Int32) : Int32 :=
  let a1 := v - (us v 1 &&& nI 1431655765)
  let a2 := (a1 &&& nI 858993459) + (us a1 2 &&& nI 858993459)
  let a3 := (a2 + us a2 4) &&& nI 252645135
  let a4 := a3 + us a3 8
  let a5 := a4 + us a4 16
  a5 &&& nI 63
theorem bcI_n {b : Nat} (hb : b < 2 ^ 25) : bcI (nI b) = nI (pcn b 25) := by
  rw [← bc_all hb]
  have l1 : b / 2 &&& 1431655765 ≤ b / 2 := Nat.and_le_left
  have e1 : nI b - (us (nI b) 1 &&& nI 1431655765) = nI (f1 b) := by
    rw [us_n (by omega) (by decide), n_and, show 2 ^ 1 = 2 from rfl, pk_sub (by omega)]
    rfl
  have b1 : f1 b ≤ b := Nat.sub_le _ _
  have e2 : (nI (f1 b) &&& nI 858993459) + (us (nI (f1 b)) 2 &&& nI 858993459) = nI (f2 (f1 b)) := by
    rw [us_n (by omega) (by decide), n_and, n_and, nI_add]
    rfl
  have b2 : f2 (f1 b) ≤ 858993459 + 858993459 := Nat.add_le_add Nat.and_le_right Nat.and_le_right
  have e3 : (nI (f2 (f1 b)) + us (nI (f2 (f1 b))) 4) &&& nI 252645135 = nI (f3 (f2 (f1 b))) := by
    rw [us_n (by omega) (by decide), nI_add, n_and]
    rfl
  have b3 : f3 (f2 (f1 b)) ≤ 252645135 := Nat.and_le_right
  have e4 : nI (f3 (f2 (f1 b))) + us (nI (f3 (f2 (f1 b)))) 8 = nI (f4 (f3 (f2 (f1 b)))) := by
    rw [us_n (by omega) (by decide), nI_add]
    rfl
  have b4 : f4 (f3 (f2 (f1 b))) ≤ 252645135 + 252645135 := by unfold f4; omega
  have e5 : nI (f4 (f3 (f2 (f1 b)))) + us (nI (f4 (f3 (f2 (f1 b))))) 16 = nI (f5 (f4 (f3 (f2 (f1 b))))) := by
    rw [us_n (by omega) (by decide), nI_add]
    rfl
  unfold bcI
  simp only [e1, e2, e3, e4, e5]
  exact n_and _ _
theorem m_bitCount {d : Nat} {G : tm_G} {M : tm_M} {b : Nat} (hb : b < 2 ^ 25) : tm_call d 256 [.int (nI b)] G M = some (some (.int (nI (pcn b 25))), G, M) := by
  rw [← bcI_n hb]
  have : ∀ v : Int32, tm_call d 256 [.int v] G M = some (some (.int (bcI v)), G, M) := by
    intro v
    simp only [n_J6_bitCount_0f7a4, e_il0, e_iconst, e_iushr, e_iand, e_isub, e_is0, e_iadd, e_iret, kn_1, kn_2, kn_4, kn_8, kn_16, kn_63, kn_1431655765, kn_858993459, kn_252645135]
    rfl
  exact this _
