/-! part 32: the texts' reading, purely; what holds between the calls -/
def px_byte (b : Nat → Int32) (z : Nat) (s : Nat × Bool) : Int32 := if s.2 = true ∨ z ≤ s.1 then -1 else b s.1
def px_dg (c : Int32) : Bool := decide (¬ c < nI 48 ∧ ¬ nI 57 < c)
def px_lv (c : Int32) : Nat := if c = nI 124 then 0 else if c = nI 38 then 1 else if c = nI 60 ∨ c = nI 61 ∨ c = nI 62 then 2 else if c = nI 43 ∨ c = nI 45 then 3 else if c = nI 42 ∨ c = nI 47 then 4 else 9
/-- digits: how many may come, the number so far -/
def px_num (b : Nat → Int32) (z : Nat) (bad : Bool) : Nat → Nat → Nat → Nat × Nat
  | 0, p, v => (v, p)
  | n + 1, p, v => if px_dg (px_byte b z (p, bad)) = true then px_num b z bad n (p + 1) (10 * v + ((b p).toNatClampNeg - 48)) else (v, p)
/-- levels 0 to 4: what they join; 5: a single one; 10 to 14: what goes on at a level -/
def px_P (b : Nat → Int32) (z : Nat) : Nat → Nat → Nat → Nat × Bool → List Int32 × Nat × Bool
  | 0, _, _, s => ([], s.1, true)
  | f + 1, k, op, s =>
    if k = 5 then
      (if px_dg (px_byte b z s) = true then
        ([nI (px_num b z s.2 4 s.1 0).1], (px_num b z s.2 4 s.1 0).2, s.2 || px_dg (px_byte b z ((px_num b z s.2 4 s.1 0).2, s.2)))
      else if ¬ px_byte b z s < nI 97 ∧ ¬ nI 102 < px_byte b z s then ([nI 96 - px_byte b z s], s.1 + 1, s.2)
      else if px_byte b z s = nI 33 ∧ op < 5 then
        ((px_P b z f 5 (op + 1) (s.1 + 1, s.2)).1 ++ [-33], (px_P b z f 5 (op + 1) (s.1 + 1, s.2)).2)
      else if px_byte b z s = nI 40 ∧ op < 5 then
        (if px_byte b z (px_P b z f 0 (op + 1) (s.1 + 1, s.2)).2 = nI 41 then
          ((px_P b z f 0 (op + 1) (s.1 + 1, s.2)).1, (px_P b z f 0 (op + 1) (s.1 + 1, s.2)).2.1 + 1, (px_P b z f 0 (op + 1) (s.1 + 1, s.2)).2.2)
        else ((px_P b z f 0 (op + 1) (s.1 + 1, s.2)).1, (px_P b z f 0 (op + 1) (s.1 + 1, s.2)).2.1, true))
      else ([nI 0], s.1, true))
    else if k < 5 then
      ((px_P b z f (k + 1) op s).1 ++ (px_P b z f (10 + k) op (px_P b z f (k + 1) op s).2).1, (px_P b z f (10 + k) op (px_P b z f (k + 1) op s).2).2)
    else if px_lv (px_byte b z s) = k - 10 then
      (if k = 12 then ((px_P b z f 3 op (s.1 + 1, s.2)).1 ++ [-(px_byte b z s)], (px_P b z f 3 op (s.1 + 1, s.2)).2)
      else ((px_P b z f (k - 10 + 1) op (s.1 + 1, s.2)).1 ++ [-(px_byte b z s)] ++ (px_P b z f k op (px_P b z f (k - 10 + 1) op (s.1 + 1, s.2)).2).1, (px_P b z f k op (px_P b z f (k - 10 + 1) op (s.1 + 1, s.2)).2).2))
    else ([], s)
def px_F : Nat := 2000
/-- the codes are those of the bytes -/
def px_TX (cd : Nat → Int32) (e : Nat) (b : Nat → Int32) (z : Nat) : Prop := ∃ code : List Int32, px_P b z px_F 0 0 (0, false) = (code, z, false) ∧ code.length = e ∧ ∀ i, i < e → cd i = code.getD i 0
/-! where a slot of the class lies in the reference's row -/
def tm_ph (c i : Nat) : Option Nat := match c with
  | 1 => if i = 5 then some 6 else if i = 8 then some 7 else if i = 9 then some 2 else if i = 10 then some 8 else none
  | 2 => if i = 0 then some 0 else if i = 1 then some 1 else if i = 3 then some 3 else none
  | 3 => if i < 24 then some (10 + i) else none
  | 4 => if i < 25 then some (59 + i) else none
  | 5 => if i < 12 then some (84 + 5 * i) else none
  | 6 => if i < 12 then some (85 + 5 * i) else none
  | 7 => if i < 12 then some (86 + 5 * i) else none
  | 8 => if i < 12 then some (87 + 5 * i) else none
  | 9 => if i < 12 then some (88 + 5 * i) else none
  | 12 => if i = 0 then some 4 else none
  | 13 => if i < 12 then some (144 + 2 * i) else none
  | 14 => if i < 12 then some (145 + 2 * i) else none
  | 15 => if i < 12 then some (680 + i) else none
  | 16 => if i < 96 then some (692 + 4 * i) else none
  | 17 => if i < 96 then some (693 + 4 * i) else none
  | 20 => if i = 0 then some 5 else none
  | 21 => if i < 40 then some (168 + 5 * i) else none
  | 22 => if i < 40 then some (169 + 5 * i) else none
  | 23 => if i < 40 then some (170 + 5 * i) else none
  | 24 => if i < 40 then some (171 + 5 * i) else none
  | 25 => if i < 40 then some (172 + 5 * i) else none
  | 34 => if i < 300 then some (368 + i) else none
  | _ => none
def tm_ps (q : Nat) : Nat × Nat :=
  if q = 0 then (2, 0) else if q = 1 then (2, 1) else if q = 2 then (1, 9) else if q = 3 then (2, 3) else if q = 4 then (12, 0) else if q = 5 then (20, 0) else if q = 6 then (1, 5) else if q = 7 then (1, 8) else if q = 8 then (1, 10)
  else if q < 34 then (3, q - 10) else if q < 59 then (0, 0) else if q < 84 then (4, q - 59) else if q < 144 then (5 + (q - 84) % 5, (q - 84) / 5) else if q < 168 then (13 + (q - 144) % 2, (q - 144) / 2) else if q < 368 then (21 + (q - 168) % 5, (q - 168) / 5) else if q < 668 then (34, q - 368) else if q < 680 then (0, 0) else if q < 692 then (15, q - 680) else (16 + (q - 692) % 4, (q - 692) / 4)
/-- the cells of a world -/
def tm_wc (c : Nat) : Bool := decide (1 ≤ c ∧ c ≤ 34 ∧ c ≠ 10 ∧ c ≠ 11 ∧ c ≠ 19 ∧ c ≠ 26 ∧ c ≠ 29 ∧ c ≠ 32)
def tm_wA (M : tm_M) (o : Nat) (D : Nat → Int32) : Prop := ∀ c i q, tm_ph c i = some q → M (c + o) i = D q
def tm_wB (M : tm_M) (o : Nat) (D : Nat → Int32) : Prop := ∃ b, M (2 + o) 2 = nI b ∧ b < 2 ^ 25 ∧ ∀ m, m < 25 → D (34 + m) = (if b.testBit m = true then nI 1 else nI 0)
def tm_wO (M : tm_M) (o : Nat) (D : Nat → Int32) : Prop := ∃ b, M (1 + o) 7 = nI b ∧ b < 2 ^ 12 ∧ ∀ s, s < 12 → D (668 + s) = (if b.testBit s = true then nI 1 else nI 0)
def tm_wH (M : tm_M) (o : Nat) (D : Nat → Int32) : Prop := ∀ i, i < 96 → ∃ h, M (18 + o) i = nI h ∧ h < 2500 ∧ D (694 + 4 * i) = nI (h / 100) ∧ D (695 + 4 * i) = nI (h % 100)
def tm_wE (M : tm_M) (o : Nat) (D : Nat → Int32) : Prop := ∀ i, i < 60 → ∃ v, v < 256 ∧ D (1198 + i) = nI v ∧ (M (33 + o) i).toInt8.toInt32 &&& nI 255 = nI v
def tm_wT (M : tm_M) (o : Nat) (D : Nat → Int32) (u : Nat) : Prop := ∃ z, z ≤ 60 ∧ D (1076 + u) = nI z ∧ (z = 0 → M (27 + 3 * u + o) 1 = nI 0) ∧ (z ≠ 0 → ∃ e, 0 < e ∧ e ≤ 60 ∧ M (27 + 3 * u + o) 1 = nI e ∧ px_TX (M (28 + 3 * u + o)) e (fun k => D (1078 + 60 * u + k)) z) ∧ ∀ k, k < 60 → ∃ v, v < 256 ∧ D (1078 + 60 * u + k) = nI v
/-- no mat lies behind the goal -/
def tm_wN (D : Nat → Int32) : Prop := ∃ n, D 0 = nI n ∧ n ≤ 24 ∧ ∀ m, n < m → m < 25 → D (34 + m) = nI 0
def tm_W (M : tm_M) (o : Nat) (D : Nat → Int32) : Prop := tm_wA M o D ∧ tm_wB M o D ∧ tm_wO M o D ∧ tm_wH M o D ∧ tm_wE M o D ∧ tm_wT M o D 0 ∧ tm_wT M o D 1 ∧ tm_wN D
/-! numbers of the row -/
def tm_kW (D : Nat → Int32) (n W : Nat) : Prop := ∀ w, w < W → ∃ a b t e : Nat, D (84 + 5 * w) = nI a ∧ D (85 + 5 * w) = nI b ∧ D (86 + 5 * w) = nI t ∧ D (88 + 5 * w) = nI e ∧ a < b ∧ b ≤ n ∧ 1 ≤ t ∧ t ≤ 300 ∧ e ≤ 99 ∧ (e ≠ 0 → ∃ f : Nat, f ≤ 999 ∧ D (87 + 5 * w) = nI f)
def tm_kR (D : Nat → Int32) (R : Nat) : Prop := ∀ r, r < R → ∃ b : Nat, b ≤ 99 ∧ D (145 + 2 * r) = nI b
def tm_kG1 (D : Nat → Int32) (n W R g : Nat) : Prop := ∃ kd r a t : Nat, D (168 + 5 * g) = nI kd ∧ kd ≤ 7 ∧ D (169 + 5 * g) = nI r ∧ r < R ∧ D (170 + 5 * g) = nI a ∧ a ≤ n ∧ D (171 + 5 * g) = nI t ∧ t < 100 ∧ (kd ≠ 5 → kd ≠ 7 → a < n) ∧ (kd = 1 ∨ kd = 2 ∨ kd = 6 → a < t ∧ t ≤ n) ∧ (kd ≠ 7 → ∃ v : Nat, D (172 + 5 * g) = nI v ∧ (kd = 0 → v ≤ 99) ∧ (kd = 1 ∨ kd = 2 → v ≤ 20) ∧ (kd = 3 ∨ kd = 4 → v < W ∧ D (84 + 5 * v) = nI a) ∧ (kd = 5 ∨ kd = 6 → v < R))
def tm_kG (D : Nat → Int32) (n W R G : Nat) : Prop := ∀ g, g < G → tm_kG1 D n W R g
def tm_kH (D : Nat → Int32) : Prop := ∀ i, i < 300 → D (368 + i) = -1 ∨ ∃ v : Nat, v ≤ 100000 ∧ D (368 + i) = nI v
def tm_kE (D : Nat → Int32) (R : Nat) : Prop := (∀ r, r < 12 → ∃ e : Nat, e ≤ 8 ∧ D (680 + r) = nI e ∧ (R ≤ r → e = 0)) ∧ ∀ i, i < 96 → ∃ t : Nat, t ≤ 30 ∧ D (693 + 4 * i) = nI t
/-- behind the runners and behind the goal nothing is heard, and nobody is off -/
def tm_kZ (D : Nat → Int32) (n R : Nat) : Prop := (∀ s m, s < 12 → m < 25 → (R ≤ s ∨ n < m) → D (368 + 25 * s + m) = -1) ∧ ∀ s, R ≤ s → s < 12 → D (668 + s) = nI 0
def tm_OKn (D : Nat → Int32) (n X W R G T L : Nat) : Prop := (D 0 = nI n ∧ 4 ≤ n ∧ n ≤ 24) ∧ (D 2 = nI X ∧ X < 65536) ∧ (D 3 = nI W ∧ W ≤ 12) ∧ (D 4 = nI R ∧ R ≤ 12) ∧ (D 5 = nI G ∧ G ≤ 40) ∧ (D 6 = nI T ∧ T ≤ 60) ∧ (D 8 = nI L ∧ 1 ≤ L ∧ L ≤ 30) ∧ tm_kW D n W ∧ tm_kR D R ∧ tm_kG D n W R G ∧ tm_kH D ∧ tm_kE D R ∧ tm_kZ D n R
def tm_OK (D : Nat → Int32) : Prop := ∃ n X W R G T L : Nat, tm_OKn D n X W R G T L
/-! what lies beside the worlds -/
def tm_rF (M : tm_M) : Prop := ∀ i, i < 6 → M 94 i = M 98 i
def tm_rV (M : tm_M) : Prop := (∃ t, t ≤ 40 ∧ M 79 1 = nI t ∧ M 95 23 = nI t) ∧ ∀ i, i < 40 → M 80 i = M 105 i
def tm_rS (M : tm_M) (s : Nat) : Prop := ∃ b, (b = 0 ∨ b = 8 ∨ b = 16 ∨ b = 32) ∧ M (82 + 3 * s) 0 = nI b ∧ M 106 s = nI b ∧ (b ≠ 0 → (∃ z, z ≤ 24 ∧ M (82 + 3 * s) 1 = nI z ∧ M 107 s = nI z) ∧ ∀ i, i < 24 → M (83 + 3 * s) i = M 108 (24 * s + i))
def tm_rK (k : Nat) (M : tm_M) : Prop := ∃ c, c ≤ k ∧ M 0 8 = nI c ∧ M 95 3 = nI c ∧ M 95 2 = (if c = 0 then nI 0 else nI 1) ∧ (c ≠ 0 → tm_W M 34 (M 97) ∧ tm_OK (M 97))
def tm_rL (M : tm_M) : Prop := ∀ i, i < 6 → M 100 i = nI (97 + i)
def tm_I (k : Nat) (M : tm_M) : Prop := tm_W M 0 (M 96) ∧ tm_OK (M 96) ∧ tm_rF M ∧ tm_rV M ∧ (tm_rS M 0 ∧ tm_rS M 1 ∧ tm_rS M 2 ∧ tm_rS M 3) ∧ tm_rK k M ∧ tm_rL M
theorem tm_I_up (k : Nat) (M : tm_M) (h : tm_I k M) : tm_I (k + 1) M := by
  obtain ⟨h1, h2, h3, h4, h5, ⟨c, hc, h6⟩, h7⟩ := h
  exact ⟨h1, h2, h3, h4, h5, ⟨c, by omega, h6⟩, h7⟩
theorem tm_psh {c i q : Nat} (h : tm_ph c i = some q) : tm_ps q = (c, i) := by
  unfold tm_ph at h
  split at h
  · split at h
    · rename_i e; cases h; subst e; rfl
    · split at h
      · rename_i e; cases h; subst e; rfl
      · split at h
        · rename_i e; cases h; subst e; rfl
        · split at h
          · rename_i e; cases h; subst e; rfl
          · cases h
  · split at h
    · rename_i e; cases h; subst e; rfl
    · split at h
      · rename_i e; cases h; subst e; rfl
      · split at h
        · rename_i e; cases h; subst e; rfl
        · cases h
  · split at h
    · cases h
      unfold tm_ps
      rw [if_neg (by omega), if_neg (by omega), if_neg (by omega), if_neg (by omega), if_neg (by omega), if_neg (by omega), if_neg (by omega), if_neg (by omega), if_neg (by omega), if_pos (by omega), Prod.mk.injEq]
      constructor <;> omega
    · cases h
  · split at h
    · cases h
      unfold tm_ps
      rw [if_neg (by omega), if_neg (by omega), if_neg (by omega), if_neg (by omega), if_neg (by omega), if_neg (by omega), if_neg (by omega), if_neg (by omega), if_neg (by omega), if_neg (by omega), if_neg (by omega), if_pos (by omega), Prod.mk.injEq]
      constructor <;> omega
    · cases h
  · split at h
    · cases h
      unfold tm_ps
      rw [if_neg (by omega), if_neg (by omega), if_neg (by omega), if_neg (by omega), if_neg (by omega), if_neg (by omega), if_neg (by omega), if_neg (by omega), if_neg (by omega), if_neg (by omega), if_neg (by omega), if_neg (by omega), if_pos (by omega), Prod.mk.injEq]
      constructor <;> omega
    · cases h
  · split at h
    · cases h
      unfold tm_ps
      rw [if_neg (by omega), if_neg (by omega), if_neg (by omega), if_neg (by omega), if_neg (by omega), if_neg (by omega), if_neg (by omega), if_neg (by omega), if_neg (by omega), if_neg (by omega), if_neg (by omega), if_neg (by omega), if_pos (by omega), Prod.mk.injEq]
      constructor <;> omega
    · cases h
  · split at h
    · cases h
      unfold tm_ps
      rw [if_neg (by omega), if_neg (by omega), if_neg (by omega), if_neg (by omega), if_neg (by omega), if_neg (by omega), if_neg (by omega), if_neg (by omega), if_neg (by omega), if_neg (by omega), if_neg (by omega), if_neg (by omega), if_pos (by omega), Prod.mk.injEq]
      constructor <;> omega
    · cases h
  · split at h
    · cases h
      unfold tm_ps
      rw [if_neg (by omega), if_neg (by omega), if_neg (by omega), if_neg (by omega), if_neg (by omega), if_neg (by omega), if_neg (by omega), if_neg (by omega), if_neg (by omega), if_neg (by omega), if_neg (by omega), if_neg (by omega), if_pos (by omega), Prod.mk.injEq]
      constructor <;> omega
    · cases h
  · split at h
    · cases h
      unfold tm_ps
      rw [if_neg (by omega), if_neg (by omega), if_neg (by omega), if_neg (by omega), if_neg (by omega), if_neg (by omega), if_neg (by omega), if_neg (by omega), if_neg (by omega), if_neg (by omega), if_neg (by omega), if_neg (by omega), if_pos (by omega), Prod.mk.injEq]
      constructor <;> omega
    · cases h
  · split at h
    · rename_i e; cases h; subst e; rfl
    · cases h
  · split at h
    · cases h
      unfold tm_ps
      rw [if_neg (by omega), if_neg (by omega), if_neg (by omega), if_neg (by omega), if_neg (by omega), if_neg (by omega), if_neg (by omega), if_neg (by omega), if_neg (by omega), if_neg (by omega), if_neg (by omega), if_neg (by omega), if_neg (by omega), if_pos (by omega), Prod.mk.injEq]
      constructor <;> omega
    · cases h
  · split at h
    · cases h
      unfold tm_ps
      rw [if_neg (by omega), if_neg (by omega), if_neg (by omega), if_neg (by omega), if_neg (by omega), if_neg (by omega), if_neg (by omega), if_neg (by omega), if_neg (by omega), if_neg (by omega), if_neg (by omega), if_neg (by omega), if_neg (by omega), if_pos (by omega), Prod.mk.injEq]
      constructor <;> omega
    · cases h
  · split at h
    · cases h
      unfold tm_ps
      rw [if_neg (by omega), if_neg (by omega), if_neg (by omega), if_neg (by omega), if_neg (by omega), if_neg (by omega), if_neg (by omega), if_neg (by omega), if_neg (by omega), if_neg (by omega), if_neg (by omega), if_neg (by omega), if_neg (by omega), if_neg (by omega), if_neg (by omega), if_neg (by omega), if_neg (by omega), if_pos (by omega), Prod.mk.injEq]
      constructor <;> omega
    · cases h
  · split at h
    · cases h
      unfold tm_ps
      rw [if_neg (by omega), if_neg (by omega), if_neg (by omega), if_neg (by omega), if_neg (by omega), if_neg (by omega), if_neg (by omega), if_neg (by omega), if_neg (by omega), if_neg (by omega), if_neg (by omega), if_neg (by omega), if_neg (by omega), if_neg (by omega), if_neg (by omega), if_neg (by omega), if_neg (by omega), if_neg (by omega), Prod.mk.injEq]
      constructor <;> omega
    · cases h
  · split at h
    · cases h
      unfold tm_ps
      rw [if_neg (by omega), if_neg (by omega), if_neg (by omega), if_neg (by omega), if_neg (by omega), if_neg (by omega), if_neg (by omega), if_neg (by omega), if_neg (by omega), if_neg (by omega), if_neg (by omega), if_neg (by omega), if_neg (by omega), if_neg (by omega), if_neg (by omega), if_neg (by omega), if_neg (by omega), if_neg (by omega), Prod.mk.injEq]
      constructor <;> omega
    · cases h
  · split at h
    · rename_i e; cases h; subst e; rfl
    · cases h
  · split at h
    · cases h
      unfold tm_ps
      rw [if_neg (by omega), if_neg (by omega), if_neg (by omega), if_neg (by omega), if_neg (by omega), if_neg (by omega), if_neg (by omega), if_neg (by omega), if_neg (by omega), if_neg (by omega), if_neg (by omega), if_neg (by omega), if_neg (by omega), if_neg (by omega), if_pos (by omega), Prod.mk.injEq]
      constructor <;> omega
    · cases h
  · split at h
    · cases h
      unfold tm_ps
      rw [if_neg (by omega), if_neg (by omega), if_neg (by omega), if_neg (by omega), if_neg (by omega), if_neg (by omega), if_neg (by omega), if_neg (by omega), if_neg (by omega), if_neg (by omega), if_neg (by omega), if_neg (by omega), if_neg (by omega), if_neg (by omega), if_pos (by omega), Prod.mk.injEq]
      constructor <;> omega
    · cases h
  · split at h
    · cases h
      unfold tm_ps
      rw [if_neg (by omega), if_neg (by omega), if_neg (by omega), if_neg (by omega), if_neg (by omega), if_neg (by omega), if_neg (by omega), if_neg (by omega), if_neg (by omega), if_neg (by omega), if_neg (by omega), if_neg (by omega), if_neg (by omega), if_neg (by omega), if_pos (by omega), Prod.mk.injEq]
      constructor <;> omega
    · cases h
  · split at h
    · cases h
      unfold tm_ps
      rw [if_neg (by omega), if_neg (by omega), if_neg (by omega), if_neg (by omega), if_neg (by omega), if_neg (by omega), if_neg (by omega), if_neg (by omega), if_neg (by omega), if_neg (by omega), if_neg (by omega), if_neg (by omega), if_neg (by omega), if_neg (by omega), if_pos (by omega), Prod.mk.injEq]
      constructor <;> omega
    · cases h
  · split at h
    · cases h
      unfold tm_ps
      rw [if_neg (by omega), if_neg (by omega), if_neg (by omega), if_neg (by omega), if_neg (by omega), if_neg (by omega), if_neg (by omega), if_neg (by omega), if_neg (by omega), if_neg (by omega), if_neg (by omega), if_neg (by omega), if_neg (by omega), if_neg (by omega), if_pos (by omega), Prod.mk.injEq]
      constructor <;> omega
    · cases h
  · split at h
    · cases h
      unfold tm_ps
      rw [if_neg (by omega), if_neg (by omega), if_neg (by omega), if_neg (by omega), if_neg (by omega), if_neg (by omega), if_neg (by omega), if_neg (by omega), if_neg (by omega), if_neg (by omega), if_neg (by omega), if_neg (by omega), if_neg (by omega), if_neg (by omega), if_neg (by omega), if_pos (by omega), Prod.mk.injEq]
      constructor <;> omega
    · cases h
  · cases h
theorem tm_phw {c i q : Nat} (h : tm_ph c i = some q) : tm_wc c = true := by
  unfold tm_ph at h
  split at h
  all_goals first
    | rfl
    | cases h
theorem tm_phq {c i q : Nat} (h : tm_ph c i = some q) : q < 1076 ∧ ¬ (34 ≤ q ∧ q < 59) ∧ ¬ (668 ≤ q ∧ q < 680) ∧ (692 ≤ q → q % 4 < 2) := by
  unfold tm_ph at h
  split at h
  · split at h
    · cases h; decide
    · split at h
      · cases h; decide
      · split at h
        · cases h; decide
        · split at h
          · cases h; decide
          · cases h
  · split at h
    · cases h; decide
    · split at h
      · cases h; decide
      · split at h
        · cases h; decide
        · cases h
  · split at h
    · cases h; omega
    · cases h
  · split at h
    · cases h; omega
    · cases h
  · split at h
    · cases h; omega
    · cases h
  · split at h
    · cases h; omega
    · cases h
  · split at h
    · cases h; omega
    · cases h
  · split at h
    · cases h; omega
    · cases h
  · split at h
    · cases h; omega
    · cases h
  · split at h
    · cases h; decide
    · cases h
  · split at h
    · cases h; omega
    · cases h
  · split at h
    · cases h; omega
    · cases h
  · split at h
    · cases h; omega
    · cases h
  · split at h
    · cases h; omega
    · cases h
  · split at h
    · cases h; omega
    · cases h
  · split at h
    · cases h; decide
    · cases h
  · split at h
    · cases h; omega
    · cases h
  · split at h
    · cases h; omega
    · cases h
  · split at h
    · cases h; omega
    · cases h
  · split at h
    · cases h; omega
    · cases h
  · split at h
    · cases h; omega
    · cases h
  · split at h
    · cases h; omega
    · cases h
  · cases h
