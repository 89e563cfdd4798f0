/-! part 94: the fewest mats -/
def wl (D : Nat → Int32) (p w : Nat) : Bool := decide (p ≤ wF D w ∧ wF D w + 2 ≤ wT D w)
def oel (D : Nat → Int32) (p : Nat) : Nat → Nat → Nat → Nat
  | 0, _, z => z
  | c + 1, w, z => oel D p c (w + 1) (if wl D p w = true ∧ wT D w < z then wT D w else z)
def oe (D : Nat → Int32) (W n p : Nat) : Nat := oel D p W 0 (n + 1)
theorem oel_spec (D : Nat → Int32) (p : Nat) : ∀ c w z, oel D p c w z ≤ z ∧ (∀ w', w ≤ w' → w' < w + c → wl D p w' = true → oel D p c w z ≤ wT D w') ∧ (oel D p c w z = z ∨ ∃ w', w ≤ w' ∧ w' < w + c ∧ wl D p w' = true ∧ oel D p c w z = wT D w') := by
  intro c
  induction c with
  | zero => intro w z; exact ⟨Nat.le_refl _, fun w' a b => by omega, Or.inl rfl⟩
  | succ c ih =>
    intro w z
    obtain ⟨i1, i2, i3⟩ := ih (w + 1) (if wl D p w = true ∧ wT D w < z then wT D w else z)
    rw [oel]
    by_cases q : wl D p w = true ∧ wT D w < z
    · rw [if_pos q] at i1 i2 i3 ⊢
      refine ⟨by omega, fun w' a b e => ?_, ?_⟩
      · by_cases z2 : w' = w
        · subst z2; exact i1
        · exact i2 w' (by omega) (by omega) e
      · rcases i3 with i3 | ⟨w', a, b, e, f⟩
        · exact Or.inr ⟨w, by omega, by omega, q.1, i3⟩
        · exact Or.inr ⟨w', by omega, by omega, e, f⟩
    · rw [if_neg q] at i1 i2 i3 ⊢
      refine ⟨i1, fun w' a b e => ?_, ?_⟩
      · by_cases z2 : w' = w
        · subst z2
          have : ¬ wT D w' < z := fun y => q ⟨e, y⟩
          omega
        · exact i2 w' (by omega) (by omega) e
      · rcases i3 with i3 | ⟨w', a, b, e, f⟩
        · exact Or.inl i3
        · exact Or.inr ⟨w', by omega, by omega, e, f⟩
def gr (D : Nat → Int32) (W n : Nat) : Nat → Nat → Nat
  | 0, _ => 0
  | c + 1, p => if oe D W n p ≤ n then 1 + gr D W n c (oe D W n p - 1) else 0
def gg (D : Nat → Int32) (W n p : Nat) : Nat := gr D W n 30 p
def fm (q : Nat → Bool) : Nat → Nat → Nat
  | 0, m => m
  | c + 1, m => if q m = true then m else fm q c (m + 1)
def nq (D : Nat → Int32) (W n p m : Nat) : Bool := decide (gg D W n m < gg D W n p)
def nx (D : Nat → Int32) (W n p : Nat) : Nat := fm (nq D W n p) (oe D W n p - 2 - p) (p + 1)
def bnl (h : Nat → Nat) : Nat → Nat → Nat → Nat
  | 0, _, be => be
  | c + 1, mr, be => bnl h c (mr + 1) (if h mr < h be then mr else be)
def mks (D : Nat → Int32) (W n : Nat) : Nat → Nat → Nat → Nat
  | 0, _, s => s
  | c + 1, p, s => mks D W n c (nx D W n p) (s ||| 2 ^ nx D W n p)
theorem fm_t {q : Nat → Bool} {c m : Nat} (h : q m = true) : fm q c m = m := by
  cases c with
  | zero => rfl
  | succ c => exact if_pos h
theorem fm_f {q : Nat → Bool} {c m : Nat} (h : ¬ q m = true) : fm q (c + 1) m = fm q c (m + 1) := if_neg h
theorem fm_spec (q : Nat → Bool) : ∀ c m, q (m + c) = true → m ≤ fm q c m ∧ fm q c m ≤ m + c ∧ q (fm q c m) = true := by
  intro c
  induction c with
  | zero => intro m h; exact ⟨Nat.le_refl _, Nat.le_refl _, h⟩
  | succ c ih =>
    intro m h
    by_cases z : q m = true
    · rw [fm_t z]; exact ⟨Nat.le_refl _, by omega, z⟩
    · rw [fm_f z]
      obtain ⟨a, b, e⟩ := ih (m + 1) (by rw [show m + 1 + c = m + (c + 1) by omega]; exact h)
      exact ⟨by omega, by omega, e⟩
section TGR
variable {D : Nat → Int32} {W n p q : Nat}
theorem oe_le : oe D W n p ≤ n + 1 := (oel_spec D p W 0 (n + 1)).1
theorem oe_w {w : Nat} (hw : w < W) (h : wl D p w = true) : oe D W n p ≤ wT D w := (oel_spec D p W 0 (n + 1)).2.1 w (Nat.zero_le _) (by omega) h
theorem oe_ex (h : oe D W n p ≤ n) : ∃ w, w < W ∧ wl D p w = true ∧ oe D W n p = wT D w := by
  rcases (oel_spec D p W 0 (n + 1)).2.2 with e | ⟨w, _, a, b, e⟩
  · unfold oe at h; omega
  · exact ⟨w, by omega, b, e⟩
theorem oe_lo (h : oe D W n p ≤ n) : p + 2 ≤ oe D W n p := by
  obtain ⟨w, _, a, b⟩ := oe_ex h
  have := of_decide_eq_true a
  omega
theorem oe_mono (h : p ≤ q) : oe D W n p ≤ oe D W n q := by
  by_cases z : oe D W n q ≤ n
  · obtain ⟨w, a, b, e⟩ := oe_ex z
    have := of_decide_eq_true b
    rw [e]
    exact oe_w a (decide_eq_true ⟨by omega, this.2⟩)
  · have := oe_le (D := D) (W := W) (n := n) (p := p)
    omega
theorem gr_s : ∀ c p, n < p + c → gr D W n (c + 1) p = gr D W n c p := by
  intro c
  induction c with
  | zero =>
    intro p h
    show (if oe D W n p ≤ n then 1 + gr D W n 0 (oe D W n p - 1) else 0) = 0
    rw [if_neg (fun z => by have := oe_lo z; omega)]
  | succ c ih =>
    intro p h
    show (if oe D W n p ≤ n then 1 + gr D W n (c + 1) (oe D W n p - 1) else 0) = if oe D W n p ≤ n then 1 + gr D W n c (oe D W n p - 1) else 0
    by_cases z : oe D W n p ≤ n
    · have := oe_lo z
      rw [if_pos z, if_pos z, ih _ (by omega)]
    · rw [if_neg z, if_neg z]
theorem gg_t (hn : n ≤ 24) (h : oe D W n p ≤ n) : gg D W n p = 1 + gg D W n (oe D W n p - 1) := by
  unfold gg
  have e : gr D W n 30 p = 1 + gr D W n 29 (oe D W n p - 1) := if_pos h
  rw [e, gr_s 29 _ (by omega)]
theorem gg_f (h : ¬ oe D W n p ≤ n) : gg D W n p = 0 := if_neg h
theorem gr_mono : ∀ c p q, p ≤ q → gr D W n c q ≤ gr D W n c p := by
  intro c
  induction c with
  | zero => intro p q _; exact Nat.le_refl _
  | succ c ih =>
    intro p q h
    have hm := oe_mono (D := D) (W := W) (n := n) h
    show (if oe D W n q ≤ n then 1 + gr D W n c (oe D W n q - 1) else 0) ≤ if oe D W n p ≤ n then 1 + gr D W n c (oe D W n p - 1) else 0
    by_cases z : oe D W n q ≤ n
    · rw [if_pos z, if_pos (by omega)]
      have := ih (oe D W n p - 1) (oe D W n q - 1) (by omega)
      omega
    · rw [if_neg z]; exact Nat.zero_le _
theorem gg_mono (h : p ≤ q) : gg D W n q ≤ gg D W n p := gr_mono 30 p q h
theorem gr_le : ∀ c p, gr D W n c p ≤ n - p := by
  intro c
  induction c with
  | zero => intro p; exact Nat.zero_le _
  | succ c ih =>
    intro p
    show (if oe D W n p ≤ n then 1 + gr D W n c (oe D W n p - 1) else 0) ≤ n - p
    by_cases z : oe D W n p ≤ n
    · have := oe_lo z
      have := ih (oe D W n p - 1)
      rw [if_pos z]; omega
    · rw [if_neg z]; exact Nat.zero_le _
theorem gg_le : gg D W n p ≤ n - p := gr_le 30 p
theorem nq_e (hn : n ≤ 24) (h : oe D W n p ≤ n) : nq D W n p (oe D W n p - 1) = true := by
  unfold nq
  rw [gg_t hn h]
  exact decide_eq_true (by omega)
theorem nx_spec (hn : n ≤ 24) (h : oe D W n p ≤ n) : p < nx D W n p ∧ nx D W n p < oe D W n p ∧ gg D W n p = 1 + gg D W n (nx D W n p) := by
  have hl := oe_lo h
  obtain ⟨a, b, e⟩ := fm_spec (nq D W n p) (oe D W n p - 2 - p) (p + 1) (by rw [show p + 1 + (oe D W n p - 2 - p) = oe D W n p - 1 by omega]; exact nq_e hn h)
  have e' := of_decide_eq_true e
  unfold nx
  generalize fm (nq D W n p) (oe D W n p - 2 - p) (p + 1) = y at *
  have := gg_mono (D := D) (W := W) (n := n) (show y ≤ oe D W n p - 1 by omega)
  have := gg_t hn h
  exact ⟨by omega, by omega, by omega⟩
theorem bnl_a (hn : n ≤ 24) (h : oe D W n p ≤ n) : ∀ c mr be, mr + c ≤ oe D W n p → gg D W n be < gg D W n p → bnl (gg D W n) c mr be = be := by
  intro c
  induction c with
  | zero => intro mr be _ _; rfl
  | succ c ih =>
    intro mr be h1 h2
    have e1 := gg_mono (D := D) (W := W) (n := n) (show mr ≤ oe D W n p - 1 by omega)
    have e2 := gg_t hn h
    rw [bnl, if_neg (by omega)]
    exact ih _ _ (by omega) h2
theorem bnl_b (hn : n ≤ 24) (h : oe D W n p ≤ n) : ∀ c mr be, mr + c + 1 = oe D W n p → p < be → ¬ gg D W n be < gg D W n p → bnl (gg D W n) (c + 1) mr be = fm (nq D W n p) c mr := by
  intro c
  induction c with
  | zero =>
    intro mr be h1 h2 h3
    have e1 : gg D W n mr < gg D W n p := by
      have := of_decide_eq_true (nq_e hn h)
      rwa [show oe D W n p - 1 = mr by omega] at this
    rw [bnl, if_pos (by omega)]
    rfl
  | succ c ih =>
    intro mr be h1 h2 h3
    have e0 := gg_mono (D := D) (W := W) (n := n) (show p ≤ be by omega)
    rw [bnl]
    by_cases z : gg D W n mr < gg D W n p
    · rw [if_pos (by omega), bnl_a hn h _ _ _ (by omega) z, fm_t (decide_eq_true z)]
    · rw [if_neg (by omega), fm_f (fun y => z (of_decide_eq_true y))]
      exact ih _ _ (by omega) h2 h3
theorem bnl_nx (hn : n ≤ 24) (h : oe D W n p ≤ n) : bnl (gg D W n) (oe D W n p - (p + 2)) (p + 2) (p + 1) = nx D W n p := by
  have hl := oe_lo h
  unfold nx
  by_cases z : gg D W n (p + 1) < gg D W n p
  · rw [bnl_a hn h _ _ _ (by omega) z, fm_t (decide_eq_true z)]
  · obtain ⟨c, hc⟩ : ∃ c, oe D W n p - (p + 2) = c + 1 := by
      refine ⟨oe D W n p - (p + 2) - 1, ?_⟩
      have e : ¬ oe D W n p - 1 = p + 1 := fun y => z (by have := of_decide_eq_true (nq_e hn h); rwa [y] at this)
      omega
    rw [hc, bnl_b hn h c (p + 2) (p + 1) (by omega) (by omega) z, show oe D W n p - 2 - p = c + 1 by omega, fm_f (fun y => z (of_decide_eq_true y))]
/-- ways that no mark hits -/
def unh (D : Nat → Int32) (S w : Nat) : Bool := decide (wF D w + 2 ≤ wT D w) && !exf (fun x => S.testBit x) (wT D w - (wF D w + 1)) (wF D w + 1)
def hS (D : Nat → Int32) (W S p : Nat) : Prop := ∀ w, w < W → unh D S w = wl D p w
theorem hS_0 : hS D W 0 0 := by
  intro w _
  unfold unh wl
  have e : exf (fun x => (0 : Nat).testBit x) (wT D w - (wF D w + 1)) (wF D w + 1) = false := by
    rw [Bool.eq_false_iff]
    intro z
    obtain ⟨k, _, _, h⟩ := (exf_iff _ _ _).mp z
    rw [Nat.zero_testBit] at h
    cases h
  rw [e]
  simp
theorem hS_s {S m : Nat} (h : hS D W S p) (h1 : p < m) (h2 : m < oe D W n p) : hS D W (S ||| 2 ^ m) m := by
  intro w hw
  have e := h w hw
  have hiff : (unh D (S ||| 2 ^ m) w = true) ↔ (wl D m w = true) := by
    unfold unh at e ⊢
    rw [Bool.and_eq_true, Bool.not_eq_true', Bool.eq_false_iff]
    unfold wl
    rw [decide_eq_true_iff, decide_eq_true_iff]
    constructor
    · rintro ⟨a, b⟩
      have nS : ¬ exf (fun x => S.testBit x) (wT D w - (wF D w + 1)) (wF D w + 1) = true := fun z => b (by
        obtain ⟨k, k1, k2, k3⟩ := (exf_iff _ _ _).mp z
        refine (exf_iff _ _ _).mpr ⟨k, k1, k2, ?_⟩
        simp only [Nat.testBit_or, k3, Bool.true_or])
      have u : wl D p w = true := by
        rw [← e, Bool.and_eq_true, Bool.not_eq_true', Bool.eq_false_iff]
        exact ⟨decide_eq_true a, nS⟩
      have hT := oe_w (n := n) hw u
      refine ⟨?_, a⟩
      rcases Nat.lt_or_ge (wF D w) m with y | y
      · exfalso
        refine b ((exf_iff _ _ _).mpr ⟨m, by omega, by omega, ?_⟩)
        simp only [Nat.testBit_or, Nat.testBit_two_pow_self, Bool.or_true]
      · exact y
    · rintro ⟨a, b⟩
      refine ⟨b, fun z => ?_⟩
      obtain ⟨k, k1, k2, k3⟩ := (exf_iff _ _ _).mp z
      simp only [Nat.testBit_or, Nat.testBit_two_pow] at k3
      have km : decide (m = k) = false := decide_eq_false (by omega)
      rw [km, Bool.or_false] at k3
      have u : wl D p w = true := decide_eq_true ⟨by omega, b⟩
      rw [← e, Bool.and_eq_true, Bool.not_eq_true', Bool.eq_false_iff] at u
      exact u.2 ((exf_iff _ _ _).mpr ⟨k, k1, k2, k3⟩)
  cases u : unh D (S ||| 2 ^ m) w with
  | true => exact (hiff.mp u).symm
  | false =>
    cases v : wl D m w with
    | true => rw [hiff.mpr v] at u; cases u
    | false => rfl
def enl (D : Nat → Int32) (S : Nat) : Nat → Nat → Nat → Nat
  | 0, _, z => z
  | c + 1, w, z => enl D S c (w + 1) (if unh D S w = true ∧ wT D w - 1 < z then wT D w - 1 else z)
theorem enl_oel {S : Nat} (hn : n ≤ 24) (h : hS D W S p) (hT : ∀ w, w < W → wT D w ≤ n) : ∀ c w z z', w + c = W → (z = n + 1 ∧ z' = 99 ∨ z ≤ n ∧ 1 ≤ z ∧ z' = z - 1) → (oel D p c w z = n + 1 ∧ enl D S c w z' = 99 ∨ oel D p c w z ≤ n ∧ 1 ≤ oel D p c w z ∧ enl D S c w z' = oel D p c w z - 1) := by
  intro c
  induction c with
  | zero => intro w z z' _ hz; exact hz
  | succ c ih =>
    intro w z z' hw hz
    rw [oel, enl, h w (by omega)]
    have hTw := hT w (by omega)
    refine ih _ _ _ (by omega) ?_
    by_cases u : wl D p w = true
    · have u2 := of_decide_eq_true u
      by_cases y : wT D w < z
      · rw [if_pos ⟨u, y⟩, if_pos ⟨u, by omega⟩]
        exact Or.inr ⟨hTw, by omega, rfl⟩
      · rw [if_neg (fun x => y x.2), if_neg (fun x => by have := x.2; omega)]
        exact hz
    · rw [if_neg (fun x => u x.1), if_neg (fun x => u x.1)]
      exact hz
theorem enl_t {S : Nat} (hn : n ≤ 24) (h : hS D W S p) (hT : ∀ w, w < W → wT D w ≤ n) (ho : oe D W n p ≤ n) : enl D S W 0 99 = oe D W n p - 1 := by
  rcases enl_oel hn h hT W 0 (n + 1) 99 (by omega) (Or.inl ⟨rfl, rfl⟩) with ⟨a, _⟩ | ⟨_, _, a⟩
  · unfold oe at ho; omega
  · exact a
theorem enl_f {S : Nat} (hn : n ≤ 24) (h : hS D W S p) (hT : ∀ w, w < W → wT D w ≤ n) (ho : ¬ oe D W n p ≤ n) : enl D S W 0 99 = 99 := by
  rcases enl_oel hn h hT W 0 (n + 1) 99 (by omega) (Or.inl ⟨rfl, rfl⟩) with ⟨_, a⟩ | ⟨a, _, _⟩
  · exact a
  · exact absurd a ho
theorem mks_lt (hn : n ≤ 24) : ∀ c p s, gg D W n p = c → s < 2 ^ 25 → mks D W n c p s < 2 ^ 25 := by
  intro c
  induction c with
  | zero => intro p s _ h; exact h
  | succ c ih =>
    intro p s hg h
    have ho : oe D W n p ≤ n := by
      rcases Nat.lt_or_ge n (oe D W n p) with z | z
      · rw [gg_f (by omega)] at hg; omega
      · exact z
    obtain ⟨a, b, e⟩ := nx_spec hn ho
    exact ih _ _ (by omega) (Nat.or_lt_two_pow h (Nat.pow_lt_pow_right (by decide) (by omega)))
theorem pcn_o {s m : Nat} (h : ∀ i, m ≤ i → s.testBit i = false) : ∀ k, pcn (s ||| 2 ^ m) k = pcn s k + (if m < k then 1 else 0) := by
  intro k
  induction k with
  | zero => rfl
  | succ k ih =>
    rw [pcn_succ, pcn_succ, ih, Nat.testBit_or, Nat.testBit_two_pow]
    by_cases z : m = k
    · subst z
      rw [h m (Nat.le_refl _), if_neg (Nat.lt_irrefl _), if_pos (Nat.lt_succ_self _)]
      simp
    · rw [decide_eq_false z, Bool.or_false]
      by_cases y : m < k
      · rw [if_pos y, if_pos (by omega)]; omega
      · rw [if_neg y, if_neg (by omega)]; omega
theorem mks_pc (hn : n ≤ 24) : ∀ c p s, gg D W n p = c → (∀ i, p < i → s.testBit i = false) → pcn (mks D W n c p s) 25 = pcn s 25 + c := by
  intro c
  induction c with
  | zero => intro p s _ _; rfl
  | succ c ih =>
    intro p s hg h
    have ho : oe D W n p ≤ n := by
      rcases Nat.lt_or_ge n (oe D W n p) with z | z
      · rw [gg_f (by omega)] at hg; omega
      · exact z
    obtain ⟨a, b, e⟩ := nx_spec hn ho
    rw [mks, ih _ _ (by omega) (fun i hi => by rw [Nat.testBit_or, Nat.testBit_two_pow, h i (by omega), decide_eq_false (by omega)]; rfl), pcn_o (fun i hi => h i (by omega)), if_pos (by omega)]
    omega
end TGR
