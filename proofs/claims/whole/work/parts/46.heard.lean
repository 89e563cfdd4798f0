/-! part 46: pairs of calls: misses, company -/
def exf (p : Nat → Bool) : Nat → Nat → Bool
  | 0, _ => false
  | c + 1, i => p i || exf p c (i + 1)
theorem exf_iff (p : Nat → Bool) : ∀ c i, exf p c i = true ↔ ∃ k, i ≤ k ∧ k < i + c ∧ p k = true := by
  intro c
  induction c with
  | zero => intro i; constructor
            · intro h; cases h
            · rintro ⟨k, h1, h2, _⟩; omega
  | succ c ih =>
    intro i
    unfold exf
    rw [Bool.or_eq_true, ih]
    constructor
    · rintro (h | ⟨k, h1, h2, h3⟩)
      · exact ⟨i, by omega, by omega, h⟩
      · exact ⟨k, by omega, by omega, h3⟩
    · rintro ⟨k, h1, h2, h3⟩
      by_cases e : k = i
      · subst e; exact Or.inl h3
      · exact Or.inr ⟨k, by omega, by omega, h3⟩
/-- is it heard there -/
def hp (h : Nat → Int32) (m : Nat) : Bool := decide (nI 0 ≤ h m)
theorem hp_lt {h : Nat → Int32} {m : Nat} (q : hp h m = true) : (h m < nI 0) = False := eq_false (Int32.not_lt.mpr (of_decide_eq_true q))
theorem hp_le {h : Nat → Int32} {m : Nat} (q : hp h m = true) : (nI 0 ≤ h m) = True := eq_true (of_decide_eq_true q)
theorem hp_nlt {h : Nat → Int32} {m : Nat} (q : ¬ hp h m = true) : (h m < nI 0) = True := eq_true (Int32.not_le.mp (fun z => q (decide_eq_true z)))
theorem hp_nle {h : Nat → Int32} {m : Nat} (q : ¬ hp h m = true) : (nI 0 ≤ h m) = False := eq_false (fun z => q (decide_eq_true z))
/-- the first mark at which it is heard; 25: none -/
def nh (h : Nat → Int32) : Nat → Nat → Nat
  | 0, _ => 25
  | c + 1, m => if hp h m = true then m else nh h c (m + 1)
theorem nh_spec (h : Nat → Int32) : ∀ c m, m + c ≤ 25 → (nh h c m = 25 ∧ ∀ k, m ≤ k → k < m + c → ¬ hp h k = true) ∨ (m ≤ nh h c m ∧ nh h c m < m + c ∧ hp h (nh h c m) = true ∧ ∀ k, m ≤ k → k < nh h c m → ¬ hp h k = true) := by
  intro c
  induction c with
  | zero => intro m hm; exact Or.inl ⟨rfl, fun k a b => by omega⟩
  | succ c ih =>
    intro m hm
    unfold nh
    by_cases q : hp h m = true
    · rw [if_pos q]
      exact Or.inr ⟨by omega, by omega, q, fun k a b => by omega⟩
    · rw [if_neg q]
      rcases ih (m + 1) (by omega) with ⟨a, b⟩ | ⟨a, b, e, f⟩
      · refine Or.inl ⟨a, fun k k1 k2 => ?_⟩
        by_cases z : k = m
        · subst z; exact q
        · exact b k (by omega) (by omega)
      · refine Or.inr ⟨by omega, by omega, e, fun k k1 k2 => ?_⟩
        by_cases z : k = m
        · subst z; exact q
        · exact f k (by omega) k2
theorem nh_le (h : Nat → Int32) (c m : Nat) (q : m + c ≤ 25) : nh h c m ≤ 25 := by
  rcases nh_spec h c m q with ⟨a, _⟩ | ⟨_, a, _⟩ <;> omega
theorem nh_lt (h : Nat → Int32) {c m b e : Nat} (q : m + c ≤ 25) (hb : m ≤ b) (hb2 : b ≤ m + c) (he : e = b - m) : nh h c m < b ↔ exf (hp h) e m = true := by
  rw [exf_iff]
  rcases nh_spec h c m q with ⟨a, f⟩ | ⟨a1, a2, a3, a4⟩
  · constructor
    · intro z; omega
    · rintro ⟨k, k1, k2, k3⟩
      exact absurd k3 (f k k1 (by omega))
  · constructor
    · intro z
      exact ⟨nh h c m, a1, by omega, a3⟩
    · rintro ⟨k, k1, k2, k3⟩
      refine Classical.byContradiction fun z => a4 k k1 (by omega) k3
/-- two shoes: is one apart; how many marks -/
def tgn (f g : Nat → Int32) : Nat → Nat → Nat
  | 0, _ => 0
  | c + 1, m => (if hp f m = true ∧ hp g m = true then 1 else 0) + tgn f g c (m + 1)
def far (f g : Nat → Int32) (e : Int32) (m : Nat) : Bool := hp f m && hp g m && !(decide (f m - g m ≤ e ∧ nI 0 - (f m - g m) ≤ e))
section TMH
variable {d l : Nat} {x : Nat → Int32} {M : tm_M} {D : Nat → Int32} {n R s : Nat}
def tm_hH (M : tm_M) (D : Nat → Int32) : Prop := ∀ s m, s < 12 → m < 25 → M 34 (s * 25 + m) = D (368 + 25 * s + m)
def hs (D : Nat → Int32) (s : Nat) : Nat → Int32 := fun m => D (368 + 25 * s + m)
theorem tm_I_H {k : Nat} (hI : tm_I k M) : tm_hH M (M 96) := fun s m h1 h2 => by
  rw [show 368 + 25 * s + m = 368 + (s * 25 + m) by omega]
  exact wA hI (tm_ph_if (by omega))
theorem m_mA (hH : tm_hH M D) {j i : Nat} (hj : j < 12) (hi : i < 25) : tm_call d 90 [.ref 1, .int (nI j), .int (nI i)] (tm_GG l x) M = some (some (.int (hs D j i)), tm_GG l x, M) := by
  rw [m_minuteAt hj hi, hH j i hj hi]
  rfl
theorem q_hA (hM : M 96 = D) {j i : Nat} (hj : j < 12) (hi : i < 25) : tm_call d 164 [.ref 95, .int (nI j), .int (nI i)] (tm_GG l x) M = some (some (.int (hs D j i)), tm_GG l x, M) := by
  rw [q_heardAt hj hi, hM]
  rfl
theorem m_nH_loop (hH : tm_hH M D) (c0 : M 2 0 = nI n) (hn : n ≤ 24) (hs1 : s < 12) : ∀ (c m : Nat) (v : Int32), m ≤ n + 1 → m + c = n + 1 → tm_ev (d + 1) (tm_blk (Int.toNat 100002)) [.ref 75, .int (nI s), .int v, .int (nI m)] [] (tm_GG l x) M = some (some (.int (nI (nh (hs D s) c m))), tm_GG l x, M) := by
  intro c
  induction c with
  | zero =>
    intro m v h1 h
    rw [b_X2_nextHeard_2]
    simp (disch := first | exact tm_inb_i (by omega) (by omega) | exact tm_cc rfl | exact tm_cat rfl | omega | exact nI_ne0 (by omega) (by omega) | exact nI_ne (by omega) (by omega) (by omega) | assumption) only [e_il2, e_is3i, e_is3r, e_is3u, e_gotow, e_il3, e_al0, g_75_3, g_1_0, g_35_0, g_2_0, g_36_0, e_ic_gt, e_il1, r_X10_minuteAt, e_if_lt, e_iret, e_ii3i, e_ii3r, e_ii3u, e_goto, e_iconst, kn_1, kn_25, b_X2_nextHeard_30, b_X2_nextHeard_36, Option.bind_some, Option.toList_some, Option.toList_none, List.cons_append, List.nil_append, z_0, nI_add, pk_mul, pk_sub, pk_div, n_mod, nI_clamp, nI_leI, nI_ltI, nI_eq, le_T, le_F, lt_T, lt_F, eq_T, eq_F, n_i0, n_i1, eq_self, not_true_eq_false, not_false_eq_true, Bool.false_eq_true, ↓reduceIte, if_true, if_false, tm_up_n, tm_up_s, tm_up_i, ite_self, true_and, and_true, false_and, and_false, n_ofN, Nat.reduceAdd, Nat.reduceMul, Nat.reduceSub, Nat.zero_add, c0, nh]
  | succ c ih =>
    intro m v h1 h
    have hm : m < 25 := by omega
    rw [b_X2_nextHeard_2]
    unfold nh
    by_cases q : hp (hs D s) m = true
    · simp (disch := first | exact tm_inb_i (by omega) (by omega) | exact tm_cc rfl | exact tm_cat rfl | omega | exact nI_ne0 (by omega) (by omega) | exact nI_ne (by omega) (by omega) (by omega) | assumption) only [e_il2, e_is3i, e_is3r, e_is3u, e_gotow, e_il3, e_al0, g_75_3, g_1_0, g_35_0, g_2_0, g_36_0, e_ic_gt, e_il1, r_X10_minuteAt, e_if_lt, e_iret, e_ii3i, e_ii3r, e_ii3u, e_goto, e_iconst, kn_1, kn_25, b_X2_nextHeard_30, b_X2_nextHeard_36, Option.bind_some, Option.toList_some, Option.toList_none, List.cons_append, List.nil_append, z_0, nI_add, pk_mul, pk_sub, pk_div, n_mod, nI_clamp, nI_leI, nI_ltI, nI_eq, le_T, le_F, lt_T, lt_F, eq_T, eq_F, n_i0, n_i1, eq_self, not_true_eq_false, not_false_eq_true, Bool.false_eq_true, ↓reduceIte, if_true, if_false, tm_up_n, tm_up_s, tm_up_i, ite_self, true_and, and_true, false_and, and_false, n_ofN, Nat.reduceAdd, Nat.reduceMul, Nat.reduceSub, Nat.zero_add, c0, m_mA hH, hp_lt q, q]
    · simp (disch := first | exact tm_inb_i (by omega) (by omega) | exact tm_cc rfl | exact tm_cat rfl | omega | exact nI_ne0 (by omega) (by omega) | exact nI_ne (by omega) (by omega) (by omega) | assumption) only [e_il2, e_is3i, e_is3r, e_is3u, e_gotow, e_il3, e_al0, g_75_3, g_1_0, g_35_0, g_2_0, g_36_0, e_ic_gt, e_il1, r_X10_minuteAt, e_if_lt, e_iret, e_ii3i, e_ii3r, e_ii3u, e_goto, e_iconst, kn_1, kn_25, b_X2_nextHeard_30, b_X2_nextHeard_36, Option.bind_some, Option.toList_some, Option.toList_none, List.cons_append, List.nil_append, z_0, nI_add, pk_mul, pk_sub, pk_div, n_mod, nI_clamp, nI_leI, nI_ltI, nI_eq, le_T, le_F, lt_T, lt_F, eq_T, eq_F, n_i0, n_i1, eq_self, not_true_eq_false, not_false_eq_true, Bool.false_eq_true, ↓reduceIte, if_true, if_false, tm_up_n, tm_up_s, tm_up_i, ite_self, true_and, and_true, false_and, and_false, n_ofN, Nat.reduceAdd, Nat.reduceMul, Nat.reduceSub, Nat.zero_add, c0, m_mA hH, hp_nlt q, q, ih (m + 1) v (by omega) (by omega)]
theorem m_nextHeard (hH : tm_hH M D) (c0 : M 2 0 = nI n) (hn : n ≤ 24) (hs1 : s < 12) {m : Nat} (hm : m ≤ 26) : tm_call (d + 1) 10 [.ref 75, .int (nI s), .int (nI m)] (tm_GG l x) M = some (some (.int (nI (nh (hs D s) (n + 1 - m) m))), tm_GG l x, M) := by
  by_cases h : m ≤ n + 1
  · have := m_nH_loop (d := d) (l := l) (x := x) hH c0 hn hs1 (n + 1 - m) m (nI m) h (by omega)
    simp (disch := first | exact tm_inb_i (by omega) (by omega) | exact tm_cc rfl | exact tm_cat rfl | omega | exact nI_ne0 (by omega) (by omega) | exact nI_ne (by omega) (by omega) (by omega) | assumption) only [n_X2_nextHeard, e_il2, e_is3i, e_is3r, e_is3u, e_gotow, e_il3, e_al0, g_75_3, g_1_0, g_35_0, g_2_0, g_36_0, e_ic_gt, e_il1, r_X10_minuteAt, e_if_lt, e_iret, e_ii3i, e_ii3r, e_ii3u, e_goto, e_iconst, kn_1, kn_25, b_X2_nextHeard_30, b_X2_nextHeard_36, Option.bind_some, Option.toList_some, Option.toList_none, List.cons_append, List.nil_append, z_0, nI_add, pk_mul, pk_sub, pk_div, n_mod, nI_clamp, nI_leI, nI_ltI, nI_eq, le_T, le_F, lt_T, lt_F, eq_T, eq_F, n_i0, n_i1, eq_self, not_true_eq_false, not_false_eq_true, Bool.false_eq_true, ↓reduceIte, if_true, if_false, tm_up_n, tm_up_s, tm_up_i, ite_self, true_and, and_true, false_and, and_false, n_ofN, Nat.reduceAdd, Nat.reduceMul, Nat.reduceSub, Nat.zero_add, this]
  · rw [show n + 1 - m = 0 by omega]
    simp (disch := first | exact tm_inb_i (by omega) (by omega) | exact tm_cc rfl | exact tm_cat rfl | omega | exact nI_ne0 (by omega) (by omega) | exact nI_ne (by omega) (by omega) (by omega) | assumption) only [n_X2_nextHeard, e_il2, e_is3i, e_is3r, e_is3u, e_gotow, e_il3, e_al0, g_75_3, g_1_0, g_35_0, g_2_0, g_36_0, e_ic_gt, e_il1, r_X10_minuteAt, e_if_lt, e_iret, e_ii3i, e_ii3r, e_ii3u, e_goto, e_iconst, kn_1, kn_25, b_X2_nextHeard_2, b_X2_nextHeard_30, b_X2_nextHeard_36, Option.bind_some, Option.toList_some, Option.toList_none, List.cons_append, List.nil_append, z_0, nI_add, pk_mul, pk_sub, pk_div, n_mod, nI_clamp, nI_leI, nI_ltI, nI_eq, le_T, le_F, lt_T, lt_F, eq_T, eq_F, n_i0, n_i1, eq_self, not_true_eq_false, not_false_eq_true, Bool.false_eq_true, ↓reduceIte, if_true, if_false, tm_up_n, tm_up_s, tm_up_i, ite_self, true_and, and_true, false_and, and_false, n_ofN, Nat.reduceAdd, Nat.reduceMul, Nat.reduceSub, Nat.zero_add, c0, nh]
theorem m_passed (hH : tm_hH M D) (c0 : M 2 0 = nI n) (hn : n ≤ 24) (hs1 : s < 12) {m : Nat} (hm : m ≤ n) : tm_call (d + 2) 15 [.ref 75, .int (nI s), .int (nI m)] (tm_GG l x) M = some (some (.int (if exf (hp (hs D s)) m 0 = true ∧ exf (hp (hs D s)) (n - m) (m + 1) = true then nI 1 else nI 0)), tm_GG l x, M) := by
  have e1 := nh_lt (hs D s) (c := n + 1 - 0) (m := 0) (b := m) (e := m) (by omega) (by omega) (by omega) (by omega)
  have e2 := nh_lt (hs D s) (c := n + 1 - (m + 1)) (m := m + 1) (b := n + 1) (e := n - m) (by omega) (by omega) (by omega) (by omega)
  have l1 := nh_le (hs D s) (n + 1 - 0) 0 (by omega)
  have l2 := nh_le (hs D s) (n + 1 - (m + 1)) (m + 1) (by omega)
  have e3 : nh (hs D s) (n + 1 - (m + 1)) (m + 1) < 25 ↔ nh (hs D s) (n + 1 - (m + 1)) (m + 1) < n + 1 := by
    rcases nh_spec (hs D s) (n + 1 - (m + 1)) (m + 1) (by omega) with ⟨a, _⟩ | ⟨_, a, _⟩ <;> omega
  have nHH := fun (m : Nat) (hm : m ≤ 26) => m_nextHeard (d := d) (l := l) (x := x) hH c0 hn hs1 hm
  by_cases q1 : exf (hp (hs D s)) m 0 = true
  · have f1 := e1.mpr q1
    by_cases q2 : exf (hp (hs D s)) (n - m) (m + 1) = true
    · have f2 := e3.mpr (e2.mpr q2)
      simp (disch := first | exact tm_inb_i (by omega) (by omega) | exact tm_cc rfl | exact tm_cat rfl | omega | exact nI_ne0 (by omega) (by omega) | exact nI_ne (by omega) (by omega) (by omega) | assumption) only [n_X2_passed, e_al0, e_il1, e_iconst, r_X2_nextHeard, e_il2, e_ic_ge, e_iadd, e_goto, e_gotow, en_zret0, en_zret1, en_zretb, kn_0, kn_1, kn_25, b_X2_passed_27, b_X2_passed_28, Option.bind_some, Option.toList_some, Option.toList_none, List.cons_append, List.nil_append, z_0, nI_add, pk_mul, pk_sub, pk_div, n_mod, nI_clamp, nI_leI, nI_ltI, nI_eq, le_T, le_F, lt_T, lt_F, eq_T, eq_F, n_i0, n_i1, eq_self, not_true_eq_false, not_false_eq_true, Bool.false_eq_true, ↓reduceIte, if_true, if_false, tm_up_n, tm_up_s, tm_up_i, ite_self, true_and, and_true, false_and, and_false, n_ofN, Nat.reduceAdd, Nat.reduceMul, Nat.reduceSub, Nat.zero_add, nHH, q1, q2]
    · have f2 : ¬ nh (hs D s) (n + 1 - (m + 1)) (m + 1) < 25 := fun z => q2 (e2.mp (e3.mp z))
      simp (disch := first | exact tm_inb_i (by omega) (by omega) | exact tm_cc rfl | exact tm_cat rfl | omega | exact nI_ne0 (by omega) (by omega) | exact nI_ne (by omega) (by omega) (by omega) | assumption) only [n_X2_passed, e_al0, e_il1, e_iconst, r_X2_nextHeard, e_il2, e_ic_ge, e_iadd, e_goto, e_gotow, en_zret0, en_zret1, en_zretb, kn_0, kn_1, kn_25, b_X2_passed_27, b_X2_passed_28, Option.bind_some, Option.toList_some, Option.toList_none, List.cons_append, List.nil_append, z_0, nI_add, pk_mul, pk_sub, pk_div, n_mod, nI_clamp, nI_leI, nI_ltI, nI_eq, le_T, le_F, lt_T, lt_F, eq_T, eq_F, n_i0, n_i1, eq_self, not_true_eq_false, not_false_eq_true, Bool.false_eq_true, ↓reduceIte, if_true, if_false, tm_up_n, tm_up_s, tm_up_i, ite_self, true_and, and_true, false_and, and_false, n_ofN, Nat.reduceAdd, Nat.reduceMul, Nat.reduceSub, Nat.zero_add, nHH, q1, q2]
  · have f1 : ¬ nh (hs D s) (n + 1 - 0) 0 < m := fun z => q1 (e1.mp z)
    simp (disch := first | exact tm_inb_i (by omega) (by omega) | exact tm_cc rfl | exact tm_cat rfl | omega | exact nI_ne0 (by omega) (by omega) | exact nI_ne (by omega) (by omega) (by omega) | assumption) only [n_X2_passed, e_al0, e_il1, e_iconst, r_X2_nextHeard, e_il2, e_ic_ge, e_iadd, e_goto, e_gotow, en_zret0, en_zret1, en_zretb, kn_0, kn_1, kn_25, b_X2_passed_27, b_X2_passed_28, Option.bind_some, Option.toList_some, Option.toList_none, List.cons_append, List.nil_append, z_0, nI_add, pk_mul, pk_sub, pk_div, n_mod, nI_clamp, nI_leI, nI_ltI, nI_eq, le_T, le_F, lt_T, lt_F, eq_T, eq_F, n_i0, n_i1, eq_self, not_true_eq_false, not_false_eq_true, Bool.false_eq_true, ↓reduceIte, if_true, if_false, tm_up_n, tm_up_s, tm_up_i, ite_self, true_and, and_true, false_and, and_false, n_ofN, Nat.reduceAdd, Nat.reduceMul, Nat.reduceSub, Nat.zero_add, nHH, q1]
theorem q_hI_loop (hM : M 96 = D) (hs1 : s < 12) {a b : Nat} (hb : b < 25) : ∀ (c m : Nat) (is : Bool), m + c = b + 1 → tm_ev (d + 1) (tm_blk (Int.toNat 2180006)) [.ref 95, .int (nI s), .int (nI a), .int (nI b), .int (if is = true then nI 1 else nI 0), .int (nI m)] [] (tm_GG l x) M = some (some (.int (if (is || exf (hp (hs D s)) c m) = true then nI 1 else nI 0)), tm_GG l x, M) := by
  intro c
  induction c with
  | zero =>
    intro m is h
    rw [b_X12_isHeardIn_6]
    simp (disch := first | exact tm_inb_i (by omega) (by omega) | exact tm_cc rfl | exact tm_cat rfl | omega | exact nI_ne0 (by omega) (by omega) | exact nI_ne (by omega) (by omega) (by omega) | assumption) only [e_iconst, e_is4i, e_is4r, e_is4u, e_il2, e_is5i, e_is5r, e_is5u, e_gotow, e_il5, e_il3, e_ic_gt, e_il4, e_if_ne, e_al0, e_il1, r_X12_heardAt, e_if_lt, e_goto, e_ii5i, e_ii5r, e_ii5u, en_zret0, en_zret1, en_zretb, kn_0, kn_1, b_X12_isHeardIn_27, b_X12_isHeardIn_31, b_X12_isHeardIn_32, b_X12_isHeardIn_40, Option.bind_some, Option.toList_some, Option.toList_none, List.cons_append, List.nil_append, z_0, nI_add, pk_mul, pk_sub, pk_div, n_mod, nI_clamp, nI_leI, nI_ltI, nI_eq, le_T, le_F, lt_T, lt_F, eq_T, eq_F, n_i0, n_i1, eq_self, not_true_eq_false, not_false_eq_true, Bool.false_eq_true, ↓reduceIte, if_true, if_false, tm_up_n, tm_up_s, tm_up_i, ite_self, true_and, and_true, false_and, and_false, n_ofN, Nat.reduceAdd, Nat.reduceMul, Nat.reduceSub, Nat.zero_add, exf, Bool.or_false]
  | succ c ih =>
    intro m is h
    have hm : m < 25 := by omega
    rw [b_X12_isHeardIn_6]
    unfold exf
    cases is
    · by_cases q : hp (hs D s) m = true
      · have := ih (m + 1) true (by omega)
        simp only [if_true] at this
        simp (disch := first | exact tm_inb_i (by omega) (by omega) | exact tm_cc rfl | exact tm_cat rfl | omega | exact nI_ne0 (by omega) (by omega) | exact nI_ne (by omega) (by omega) (by omega) | assumption) only [e_iconst, e_is4i, e_is4r, e_is4u, e_il2, e_is5i, e_is5r, e_is5u, e_gotow, e_il5, e_il3, e_ic_gt, e_il4, e_if_ne, e_al0, e_il1, r_X12_heardAt, e_if_lt, e_goto, e_ii5i, e_ii5r, e_ii5u, en_zret0, en_zret1, en_zretb, kn_0, kn_1, b_X12_isHeardIn_27, b_X12_isHeardIn_31, b_X12_isHeardIn_32, b_X12_isHeardIn_40, Option.bind_some, Option.toList_some, Option.toList_none, List.cons_append, List.nil_append, z_0, nI_add, pk_mul, pk_sub, pk_div, n_mod, nI_clamp, nI_leI, nI_ltI, nI_eq, le_T, le_F, lt_T, lt_F, eq_T, eq_F, n_i0, n_i1, eq_self, not_true_eq_false, not_false_eq_true, Bool.false_eq_true, ↓reduceIte, if_true, if_false, tm_up_n, tm_up_s, tm_up_i, ite_self, true_and, and_true, false_and, and_false, n_ofN, Nat.reduceAdd, Nat.reduceMul, Nat.reduceSub, Nat.zero_add, q_hA hM, hp_lt q, hp_le q, q, this, Bool.false_or, Bool.true_or]
      · have := ih (m + 1) false (by omega)
        simp only [Bool.false_eq_true, if_false] at this
        simp (disch := first | exact tm_inb_i (by omega) (by omega) | exact tm_cc rfl | exact tm_cat rfl | omega | exact nI_ne0 (by omega) (by omega) | exact nI_ne (by omega) (by omega) (by omega) | assumption) only [e_iconst, e_is4i, e_is4r, e_is4u, e_il2, e_is5i, e_is5r, e_is5u, e_gotow, e_il5, e_il3, e_ic_gt, e_il4, e_if_ne, e_al0, e_il1, r_X12_heardAt, e_if_lt, e_goto, e_ii5i, e_ii5r, e_ii5u, en_zret0, en_zret1, en_zretb, kn_0, kn_1, b_X12_isHeardIn_27, b_X12_isHeardIn_31, b_X12_isHeardIn_32, b_X12_isHeardIn_40, Option.bind_some, Option.toList_some, Option.toList_none, List.cons_append, List.nil_append, z_0, nI_add, pk_mul, pk_sub, pk_div, n_mod, nI_clamp, nI_leI, nI_ltI, nI_eq, le_T, le_F, lt_T, lt_F, eq_T, eq_F, n_i0, n_i1, eq_self, not_true_eq_false, not_false_eq_true, Bool.false_eq_true, ↓reduceIte, if_true, if_false, tm_up_n, tm_up_s, tm_up_i, ite_self, true_and, and_true, false_and, and_false, n_ofN, Nat.reduceAdd, Nat.reduceMul, Nat.reduceSub, Nat.zero_add, q_hA hM, hp_nlt q, hp_nle q, q, this, Bool.false_or, eq_false_of_ne_true q]
    · have := ih (m + 1) true (by omega)
      simp only [if_true] at this
      simp (disch := first | exact tm_inb_i (by omega) (by omega) | exact tm_cc rfl | exact tm_cat rfl | omega | exact nI_ne0 (by omega) (by omega) | exact nI_ne (by omega) (by omega) (by omega) | assumption) only [e_iconst, e_is4i, e_is4r, e_is4u, e_il2, e_is5i, e_is5r, e_is5u, e_gotow, e_il5, e_il3, e_ic_gt, e_il4, e_if_ne, e_al0, e_il1, r_X12_heardAt, e_if_lt, e_goto, e_ii5i, e_ii5r, e_ii5u, en_zret0, en_zret1, en_zretb, kn_0, kn_1, b_X12_isHeardIn_27, b_X12_isHeardIn_31, b_X12_isHeardIn_32, b_X12_isHeardIn_40, Option.bind_some, Option.toList_some, Option.toList_none, List.cons_append, List.nil_append, z_0, nI_add, pk_mul, pk_sub, pk_div, n_mod, nI_clamp, nI_leI, nI_ltI, nI_eq, le_T, le_F, lt_T, lt_F, eq_T, eq_F, n_i0, n_i1, eq_self, not_true_eq_false, not_false_eq_true, Bool.false_eq_true, ↓reduceIte, if_true, if_false, tm_up_n, tm_up_s, tm_up_i, ite_self, true_and, and_true, false_and, and_false, n_ofN, Nat.reduceAdd, Nat.reduceMul, Nat.reduceSub, Nat.zero_add, this, Bool.true_or]
theorem q_isHeardIn (hM : M 96 = D) (hs1 : s < 12) {a b : Nat} (hab : a ≤ b + 1) (hb : b < 25) : tm_call (d + 1) 218 [.ref 95, .int (nI s), .int (nI a), .int (nI b)] (tm_GG l x) M = some (some (.int (if exf (hp (hs D s)) (b + 1 - a) a = true then nI 1 else nI 0)), tm_GG l x, M) := by
  have := q_hI_loop (d := d) (l := l) (x := x) (a := a) hM hs1 hb (b + 1 - a) a false (by omega)
  simp only [Bool.false_or, Bool.false_eq_true, if_false] at this
  simp (disch := first | exact tm_inb_i (by omega) (by omega) | exact tm_cc rfl | exact tm_cat rfl | omega | exact nI_ne0 (by omega) (by omega) | exact nI_ne (by omega) (by omega) (by omega) | assumption) only [n_X12_isHeardIn, e_iconst, e_is4i, e_is4r, e_is4u, e_il2, e_is5i, e_is5r, e_is5u, e_gotow, e_il5, e_il3, e_ic_gt, e_il4, e_if_ne, e_al0, e_il1, r_X12_heardAt, e_if_lt, e_goto, e_ii5i, e_ii5r, e_ii5u, en_zret0, en_zret1, en_zretb, kn_0, kn_1, b_X12_isHeardIn_27, b_X12_isHeardIn_31, b_X12_isHeardIn_32, b_X12_isHeardIn_40, Option.bind_some, Option.toList_some, Option.toList_none, List.cons_append, List.nil_append, z_0, nI_add, pk_mul, pk_sub, pk_div, n_mod, nI_clamp, nI_leI, nI_ltI, nI_eq, le_T, le_F, lt_T, lt_F, eq_T, eq_F, n_i0, n_i1, eq_self, not_true_eq_false, not_false_eq_true, Bool.false_eq_true, ↓reduceIte, if_true, if_false, tm_up_n, tm_up_s, tm_up_i, ite_self, true_and, and_true, false_and, and_false, n_ofN, Nat.reduceAdd, Nat.reduceMul, Nat.reduceSub, Nat.zero_add, this]
end TMH
