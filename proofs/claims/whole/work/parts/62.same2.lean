/-! part 62: pair of calls: same, gone on -/
def rvr (D : Nat → Int32) (r i : Nat) : Nat → Nat → Nat → Nat
  | 0, _, b => b
  | c + 1, j, b => rvr D r i c (j + 1) (if j ≠ i ∧ cl D (r * 8 + i) (r * 8 + j) = true then b ||| 2 ^ j else b)
theorem rvr_bit (D : Nat → Int32) (r i k : Nat) : ∀ c j b, (rvr D r i c j b).testBit k = (b.testBit k || (decide (j ≤ k ∧ k < j + c ∧ k ≠ i) && cl D (r * 8 + i) (r * 8 + k))) := by
  intro c
  induction c with
  | zero =>
    intro j b
    unfold rvr
    rw [decide_eq_false (by omega), Bool.false_and, Bool.or_false]
  | succ c ih =>
    intro j b
    unfold rvr
    rw [ih]
    by_cases q : j ≠ i ∧ cl D (r * 8 + i) (r * 8 + j) = true
    · rw [if_pos q, Nat.testBit_or, Nat.testBit_two_pow]
      by_cases e : j = k
      · subst e
        rw [decide_eq_true (rfl : j = j), q.2, decide_eq_false (by omega), decide_eq_true (by omega : j ≤ j ∧ j < j + (c + 1) ∧ j ≠ i)]
        simp
      · rw [decide_eq_false e, Bool.or_false]
        congr 2
        exact decide_eq_decide.mpr (by omega)
    · rw [if_neg q]
      by_cases e : j = k
      · subst e
        rw [decide_eq_false (by omega), Bool.false_and]
        by_cases e2 : j = i
        · rw [decide_eq_false (by omega), Bool.false_and]
        · have : cl D (r * 8 + i) (r * 8 + j) = false := eq_false_of_ne_true (fun z => q ⟨e2, z⟩)
          rw [this, Bool.and_false]
      · congr 2
        exact decide_eq_decide.mpr (by omega)
def rv (D : Nat → Int32) (r e i : Nat) : Nat := rvr D r i e 0 0
theorem rv_bit (D : Nat → Int32) (r e i k : Nat) : (rv D r e i).testBit k = (decide (k < e ∧ k ≠ i) && cl D (r * 8 + i) (r * 8 + k)) := by
  unfold rv
  rw [rvr_bit, Nat.zero_testBit, Bool.false_or]
  congr 1
  exact decide_eq_decide.mpr (by omega)
theorem rv_lt {D : Nat → Int32} {r e i : Nat} (he : e ≤ 8) : rv D r e i < 2 ^ 8 := by
  refine Nat.lt_pow_two_of_testBit _ (fun k hk => ?_)
  rw [rv_bit, decide_eq_false (by omega), Bool.false_and]
/-- two entries of a set clash -/
def pp (D : Nat → Int32) (r ch a b : Nat) : Nat × Nat := if (ch.testBit a && (ch.testBit b && cl D (r * 8 + a) (r * 8 + b))) = true then (1, 0) else (0, 0)
theorem pp_comm (D : Nat → Int32) (r ch a b : Nat) : pp D r ch a b = pp D r ch b a := by
  unfold pp
  rw [cl_comm D (r * 8 + a), ← Bool.and_assoc, ← Bool.and_assoc, Bool.and_comm (ch.testBit a)]
def bad (D : Nat → Int32) (r e ch : Nat) : Nat := (fo2 (fun a => fo2 (pp D r ch a) a 0) e 0).1
def sC (D : Nat → Int32) (r e : Nat) : Nat → Nat → Nat → Nat
  | 0, _, s => s
  | c + 1, i, s => sC D r e c (i + 1) (s + pcn (rv D r e i / 2 ^ i) 25)
theorem pcn_rv {D : Nat → Int32} {r e i : Nat} (he : e ≤ 8) (hi : i < e) : pcn (rv D r e i / 2 ^ i) 25 = (fo2 (pp D r (2 ^ e - 1) i) (e - (i + 1)) (i + 1)).1 := by
  have tb : ∀ k, (rv D r e i / 2 ^ i).testBit k = (decide (i + k < e ∧ k ≠ 0) && cl D (r * 8 + i) (r * 8 + (i + k))) := fun k => by
    rw [Nat.testBit_div_two_pow, Nat.add_comm k i, rv_bit]
    congr 1
    exact decide_eq_decide.mpr (by omega)
  have h1 : ∀ k, i + k < e → pcn (rv D r e i / 2 ^ i) (k + 1) = (fo2 (pp D r (2 ^ e - 1) i) k (i + 1)).1 := by
    intro k
    induction k with
    | zero =>
      intro _
      rw [pcn_succ, tb, decide_eq_false (by omega), Bool.false_and]
      rfl
    | succ k ih =>
      intro hk
      rw [pcn_succ _ (k + 1), ih (by omega), fo2_sn, tb, decide_eq_true (by omega : i + (k + 1) < e ∧ k + 1 ≠ 0), Bool.true_and, show i + 1 + k = i + (k + 1) by omega]
      unfold op2 pp
      rw [Nat.testBit_two_pow_sub_one, Nat.testBit_two_pow_sub_one, decide_eq_true (by omega : i < e), decide_eq_true (by omega : i + (k + 1) < e), Bool.true_and, Bool.true_and]
      cases cl D (r * 8 + i) (r * 8 + (i + (k + 1))) <;> rfl
  have h2 : ∀ k, e - i ≤ k → pcn (rv D r e i / 2 ^ i) k = pcn (rv D r e i / 2 ^ i) (e - i) := by
    intro k
    induction k with
    | zero => intro h; omega
    | succ k ih =>
      intro h
      by_cases q : e - i = k + 1
      · rw [q]
      · rw [pcn_succ _ k, ih (by omega), tb, decide_eq_false (by omega), Bool.false_and]
        rfl
  rw [h2 25 (by omega), show e - i = (e - (i + 1)) + 1 by omega]
  exact h1 (e - (i + 1)) (by omega)
theorem sC_bad {D : Nat → Int32} {r e : Nat} (he : e ≤ 8) : sC D r e e 0 0 = bad D r e (2 ^ e - 1) := by
  unfold bad
  rw [← fo2_swap (pp_comm D r (2 ^ e - 1))]
  have : ∀ c i s, i + c = e → sC D r e c i s = s + (fo2 (fun s => fo2 (pp D r (2 ^ e - 1) s) (e - (s + 1)) (s + 1)) c i).1 := by
    intro c
    induction c with
    | zero => intro i s _; rfl
    | succ c ih =>
      intro i s h
      unfold sC
      rw [ih (i + 1) _ (by omega), pcn_rv he (by omega), fo2_c]
      unfold op2
      omega
  rw [this e 0 0 (by omega), Nat.zero_add]
def fre (D : Nat → Int32) (r e ch : Nat) : Nat → Nat → Bool
  | 0, _ => true
  | c + 1, i => if ch.testBit i = true ∧ ¬ rv D r e i &&& ch = 0 then false else fre D r e ch c (i + 1)
theorem fre_iff (D : Nat → Int32) (r e ch : Nat) : ∀ c i, fre D r e ch c i = true ↔ ∀ k, i ≤ k → k < i + c → ¬ (ch.testBit k = true ∧ ¬ rv D r e k &&& ch = 0) := by
  intro c
  induction c with
  | zero => intro i; exact ⟨fun _ k a b => by omega, fun _ => rfl⟩
  | succ c ih =>
    intro i
    unfold fre
    by_cases q : ch.testBit i = true ∧ ¬ rv D r e i &&& ch = 0
    · rw [if_pos q]
      exact ⟨fun z => (by cases z), fun z => absurd q (z i (by omega) (by omega))⟩
    · rw [if_neg q, ih]
      refine ⟨fun z k a b => ?_, fun z k a b => z k (by omega) (by omega)⟩
      by_cases y : k = i
      · subst y; exact q
      · exact z k (by omega) (by omega)
theorem fo2_zero {p : Nat → Nat × Nat} : ∀ c i, (fo2 p c i).1 = 0 ↔ ∀ k, i ≤ k → k < i + c → (p k).1 = 0 := by
  intro c
  induction c with
  | zero => intro i; exact ⟨fun _ k a b => by omega, fun _ => rfl⟩
  | succ c ih =>
    intro i
    rw [fo2_c]
    show (p i).1 + (fo2 p c (i + 1)).1 = 0 ↔ _
    constructor
    · intro h k a b
      by_cases y : k = i
      · subst y; omega
      · exact (ih (i + 1)).mp (by omega) k (by omega) (by omega)
    · intro h
      rw [h i (by omega) (by omega), (ih (i + 1)).mpr (fun k a b => h k (by omega) (by omega))]
theorem fre_bad {D : Nat → Int32} {r e ch : Nat} (hch : ch < 2 ^ e) : fre D r e ch e 0 = true ↔ bad D r e ch = 0 := by
  rw [fre_iff]
  unfold bad
  rw [fo2_zero]
  have pz : ∀ a b, (pp D r ch a b).1 = 0 ↔ ¬ (ch.testBit a = true ∧ ch.testBit b = true ∧ cl D (r * 8 + a) (r * 8 + b) = true) := fun a b => by
    unfold pp
    by_cases q : (ch.testBit a && (ch.testBit b && cl D (r * 8 + a) (r * 8 + b))) = true
    · rw [if_pos q]
      rw [Bool.and_eq_true, Bool.and_eq_true] at q
      exact ⟨fun z => (by cases z), fun z => absurd q z⟩
    · rw [if_neg q]
      rw [Bool.and_eq_true, Bool.and_eq_true] at q
      exact ⟨fun _ => q, fun _ => rfl⟩
  constructor
  · intro h a _ ha
    rw [fo2_zero]
    intro b _ hb
    rw [pz]
    rintro ⟨q1, q2, q3⟩
    refine h a (by omega) ha ⟨q1, fun z => ?_⟩
    have : (rv D r e a &&& ch).testBit b = true := by
      rw [Nat.testBit_and, rv_bit, q2, q3, decide_eq_true (by omega : b < e ∧ b ≠ a)]
      rfl
    rw [z, Nat.zero_testBit] at this
    cases this
  · intro h i _ hi ⟨q1, q2⟩
    apply q2
    apply Nat.eq_of_testBit_eq
    intro j
    rw [Nat.testBit_and, rv_bit, Nat.zero_testBit]
    by_cases hj : j < e ∧ j ≠ i
    · rw [decide_eq_true hj, Bool.true_and]
      cases hc : ch.testBit j
      · rw [Bool.and_false]
      · cases hk : cl D (r * 8 + i) (r * 8 + j)
        · rfl
        · exfalso
          by_cases hij : j < i
          · exact (pz i j).mp ((fo2_zero _ _).mp (h i (by omega) (by omega)) j (by omega) (by omega)) ⟨q1, hc, hk⟩
          · exact (pz j i).mp ((fo2_zero _ _).mp (h j (by omega) (by omega)) i (by omega) (by omega)) ⟨hc, q1, by rw [cl_comm]; exact hk⟩
    · rw [decide_eq_false hj, Bool.false_and, Bool.false_and]
def mw (D : Nat → Int32) (r e : Nat) : Nat → Nat → Nat → Nat
  | 0, _, m => m
  | c + 1, ch, m => mw D r e c (ch + 1) (if bad D r e ch = 0 ∧ m < pcn ch e then pcn ch e else m)
theorem pcn_le (b : Nat) : ∀ n, pcn b n ≤ n := by
  intro n
  induction n with
  | zero => exact Nat.le_refl _
  | succ n ih => rw [pcn_succ]; have : (b.testBit n).toNat ≤ 1 := by cases b.testBit n <;> decide
                 omega
