/-! part 69: the reference reads a text: levels -/
theorem p_eta {α β : Type} (p : α × β) : (p.1, p.2) = p := rfl
theorem xe_app (nm : Nat → Int32) : ∀ (as bs st : List Int32), xe nm (as ++ bs) st = xe nm bs (xe nm as st) := by
  intro as
  induction as with
  | nil => intro bs st; rfl
  | cons a as ih => intro bs st; exact ih bs _
theorem xe_one {nm : Nat → Int32} {c : Int32} {st : List Int32} : xe nm [c] st = xs nm c st := rfl
theorem i_divm1 (v : Int32) : v / (-1) = -v := by
  apply Int32.toInt_inj.mp
  rw [Int32.toInt_div, show (-1 : Int32).toInt = -1 by decide +kernel, Int.tdiv_neg, Int.tdiv_one, Int32.toInt_neg]
theorem xs_op {nm : Nat → Int32} {u : Nat} {v w : Int32} {st : List Int32} (hu : u = 38 ∨ u = 42 ∨ u = 43 ∨ u = 45 ∨ u = 47 ∨ u = 60 ∨ u = 61 ∨ u = 62 ∨ u = 124) : xs nm (-(nI u)) (w :: v :: st) = xj (nI u) v w :: st := by
  have h1 : (-(nI u)) < nI 0 ∧ (-(nI u)) < -6 ∧ ¬ (-(nI u)) = -33 := by
    rcases hu with rfl | rfl | rfl | rfl | rfl | rfl | rfl | rfl | rfl <;> decide +kernel
  unfold xs
  rw [if_neg (fun z => z h1.1), if_neg (fun z => z h1.2.1), if_neg (fun z => h1.2.2 z.1), Int32.neg_neg]
theorem xs_not {nm : Nat → Int32} {v : Int32} {st : List Int32} : xs nm (-33) (v :: st) = (if v = nI 0 then nI 1 else nI 0) :: st := by
  unfold xs
  rw [if_neg (by decide +kernel), if_neg (by decide +kernel), if_pos ⟨rfl, List.cons_ne_nil _ _⟩]
theorem xs_num {nm : Nat → Int32} {v : Nat} {st : List Int32} (h : v < 2 ^ 31) : xs nm (nI v) st = nI v :: st := by
  unfold xs
  rw [if_pos (by rw [nI_ltI h (by decide)]; omega)]
theorem px_lv_c {c : Int32} : (px_lv c = 0 ↔ c = nI 124) ∧ (px_lv c = 1 ↔ c = nI 38) ∧ (px_lv c = 2 ↔ (c = nI 60 ∨ c = nI 61 ∨ c = nI 62)) ∧ (px_lv c = 3 ↔ (c = nI 43 ∨ c = nI 45)) ∧ (px_lv c = 4 ↔ (c = nI 42 ∨ c = nI 47)) := by
  unfold px_lv
  by_cases h1 : c = nI 124
  · subst h1; decide +kernel
  by_cases h2 : c = nI 38
  · subst h2; decide +kernel
  by_cases h3 : c = nI 60 ∨ c = nI 61 ∨ c = nI 62
  · rcases h3 with rfl | rfl | rfl <;> decide +kernel
  by_cases h4 : c = nI 43 ∨ c = nI 45
  · rcases h4 with rfl | rfl <;> decide +kernel
  by_cases h5 : c = nI 42 ∨ c = nI 47
  · rcases h5 with rfl | rfl <;> decide +kernel
  rw [if_neg h1, if_neg h2, if_neg h3, if_neg h4, if_neg h5]
  exact ⟨⟨fun z => by omega, fun z => absurd z h1⟩, ⟨fun z => by omega, fun z => absurd z h2⟩, ⟨fun z => by omega, fun z => absurd z h3⟩, ⟨fun z => by omega, fun z => absurd z h4⟩, ⟨fun z => by omega, fun z => absurd z h5⟩⟩
section TLV
variable {l : Nat} {x : Nat → Int32} {M0 : tm_M} {b : Nat → Int32} {z fr : Nat}
/-- what a call of a level comes to -/
def pLv (l : Nat) (x : Nat → Int32) (M0 : tm_M) (b : Nat → Int32) (z f k : Nat) : Prop := ∀ d p o, p ≤ z → o ≤ 5 → 20 * (z + 1 - p) + 10 ≤ f + k → 7 * (5 - o) + (6 - k) + 3 ≤ d → ∃ v, tm_call d (168 + k) [.ref 95] (tm_GG l x) (pS M0 p o false) = some (some (.int v), tm_GG l x, pS M0 (px_P b z f k o (p, false)).2.1 o (px_P b z f k o (p, false)).2.2) ∧ (∀ st, xe (M0 99) (px_P b z f k o (p, false)).1 st = v :: st) ∧ p ≤ (px_P b z f k o (p, false)).2.1 ∧ (px_P b z f k o (p, false)).2.1 ≤ z
/-- what a loop behind a level's first part comes to -/
def pTa (l : Nat) (x : Nat → Int32) (M0 : tm_M) (b : Nat → Int32) (z f k K H : Nat) : Prop := ∀ d p o bd v v2, p ≤ z → o ≤ 5 → 20 * (z + 1 - p) + 1 ≤ f → 7 * (5 - o) + (6 - k) + 3 ≤ d → ∃ v', tm_ev d (tm_blk H) [.ref 95, .int v, v2] [] (tm_GG l x) (pS M0 p o bd) = some (some (.int v'), tm_GG l x, pS M0 (px_P b z f K o (p, bd)).2.1 o (px_P b z f K o (p, bd)).2.2) ∧ (∀ st, xe (M0 99) (px_P b z f K o (p, bd)).1 (v :: st) = v' :: st) ∧ p ≤ (px_P b z f K o (p, bd)).2.1 ∧ (px_P b z f K o (p, bd)).2.1 ≤ z
def pTb (l : Nat) (x : Nat → Int32) (M0 : tm_M) (b : Nat → Int32) (z f k K H : Nat) : Prop := ∀ d p o bd v v3, p ≤ z → o ≤ 5 → 20 * (z + 1 - p) + 1 ≤ f → 7 * (5 - o) + (6 - k) + 3 ≤ d → ∃ v', tm_ev d (tm_blk H) [.ref 95, .int v, .int (px_byte b z (p, bd)), v3] [] (tm_GG l x) (pS M0 p o bd) = some (some (.int v'), tm_GG l x, pS M0 (px_P b z f K o (p, bd)).2.1 o (px_P b z f K o (p, bd)).2.2) ∧ (∀ st, xe (M0 99) (px_P b z f K o (p, bd)).1 (v :: st) = v' :: st) ∧ p ≤ (px_P b z f K o (p, bd)).2.1 ∧ (px_P b z f K o (p, bd)).2.1 ≤ z
/-- a tail that sees no sign of its level -/
theorem pT_no {f k K o p : Nat} {bd : Bool} (hk : k < 5) (hK : K = 10 + k) (h : ¬ px_lv (px_byte b z (p, bd)) = k) : px_P b z (f + 1) K o (p, bd) = ([], (p, bd)) := by
  subst hK
  rw [px_P, if_neg (by omega), if_neg (by omega), if_neg (by rw [Nat.add_sub_cancel_left]; exact h)]
theorem pT_yes {f k k1 K o p : Nat} {bd : Bool} (hk : k < 5) (hk2 : k ≠ 2) (h1 : k1 = k + 1) (hK : K = 10 + k) (h : px_lv (px_byte b z (p, bd)) = k) : px_P b z (f + 1) K o (p, bd) = ((px_P b z f k1 o (p + 1, bd)).1 ++ [-(px_byte b z (p, bd))] ++ (px_P b z f K o (px_P b z f k1 o (p + 1, bd)).2).1, (px_P b z f K o (px_P b z f k1 o (p + 1, bd)).2).2) := by
  subst h1 hK
  rw [px_P, if_neg (by omega), if_neg (by omega), if_pos (by rw [Nat.add_sub_cancel_left]; exact h), if_neg (by omega), Nat.add_sub_cancel_left]
theorem pL_eq {f k k1 K o p : Nat} {bd : Bool} (hk : k < 5) (h1 : k1 = k + 1) (hK : K = 10 + k) : px_P b z (f + 1) k o (p, bd) = ((px_P b z f k1 o (p, bd)).1 ++ (px_P b z f K o (px_P b z f k1 o (p, bd)).2).1, (px_P b z f K o (px_P b z f k1 o (p, bd)).2).2) := by
  subst h1 hK
  rw [px_P, if_neg (by omega), if_pos hk]
theorem ta_0 (H : pH M0 b z fr) {f : Nat} (i1 : pLv l x M0 b z f 1) (i2 : pTa l x M0 b z f 0 10 (Int.toNat 1680005)) : pTa l x M0 b z (f + 1) 0 10 (Int.toNat 1680005) := by
  intro d p o bd v v2 hp ho hf hd
  obtain ⟨d, rfl⟩ : ∃ d', d = d' + 2 := ⟨d - 2, by omega⟩
  by_cases q : px_byte b z (p, bd) = nI 124
  · have hl := px_lv_c.1.mpr q
    obtain ⟨rfl, hpz, _⟩ := px_at (by decide) q
    rw [pT_yes (k := 0) (k1 := 1) (K := 10) (by decide) (by decide) rfl rfl hl, q]
    dsimp only
    obtain ⟨w, w1, w2, w3, w4⟩ := i1 (d + 1) (p + 1) o (by omega) ho (by omega) (by omega)
    obtain ⟨v', t1, t2, t3, t4⟩ := i2 (d + 2) (px_P b z f 1 o (p + 1, false)).2.1 o (px_P b z f 1 o (p + 1, false)).2.2 (if v = nI 0 ∧ w = nI 0 then nI 0 else nI 1) (.int w) w4 ho (by omega) hd
    simp only [p_eta] at t1 t2 t3 t4
    refine ⟨v', ?_, fun st => ?_, by omega, t4⟩
    · rw [b_X12_either_5]
      by_cases a : v = nI 0
      · by_cases c : w = nI 0
        · rw [if_pos ⟨a, c⟩] at t1
          subst c
          simp (disch := first | exact tm_inb_i (by omega) (by omega) | exact tm_cc rfl | exact tm_cat rfl | omega | exact nI_ne0 (by omega) (by omega) | exact nI_ne (by omega) (by omega) (by omega) | exact tm_cS (by omega) | assumption) only [e_al0, r_X12_both, e_is1i, e_is1r, e_is1u, e_gotow, e_iconst, r_X12_eats, e_if_eq, e_is2i, e_is2r, e_is2u, e_il1, e_if_ne, e_il2, e_goto, e_iret, kn_0, kn_1, kn_124, b_X12_either_27, b_X12_either_31, b_X12_either_32, b_X12_either_36, Option.bind_some, Option.toList_some, Option.toList_none, List.cons_append, List.nil_append, z_0, nI_add, pk_mul, pk_sub, pk_div, n_mod, nI_clamp, nI_leI, nI_ltI, nI_eq, le_T, le_F, lt_T, lt_F, eq_T, eq_F, n_i0, n_i1, eq_self, not_true_eq_false, not_false_eq_true, Bool.false_eq_true, ↓reduceIte, if_true, if_false, tm_up_n, tm_up_s, tm_up_i, ite_self, true_and, and_true, false_and, and_false, n_ofN, Nat.reduceAdd, Nat.reduceMul, Nat.reduceSub, Nat.zero_add, q_eats_t H hp q, w1, a, t1]
        · rw [if_neg (fun y => c y.2)] at t1
          simp (disch := first | exact tm_inb_i (by omega) (by omega) | exact tm_cc rfl | exact tm_cat rfl | omega | exact nI_ne0 (by omega) (by omega) | exact nI_ne (by omega) (by omega) (by omega) | exact tm_cS (by omega) | assumption) only [e_al0, r_X12_both, e_is1i, e_is1r, e_is1u, e_gotow, e_iconst, r_X12_eats, e_if_eq, e_is2i, e_is2r, e_is2u, e_il1, e_if_ne, e_il2, e_goto, e_iret, kn_0, kn_1, kn_124, b_X12_either_27, b_X12_either_31, b_X12_either_32, b_X12_either_36, Option.bind_some, Option.toList_some, Option.toList_none, List.cons_append, List.nil_append, z_0, nI_add, pk_mul, pk_sub, pk_div, n_mod, nI_clamp, nI_leI, nI_ltI, nI_eq, le_T, le_F, lt_T, lt_F, eq_T, eq_F, n_i0, n_i1, eq_self, not_true_eq_false, not_false_eq_true, Bool.false_eq_true, ↓reduceIte, if_true, if_false, tm_up_n, tm_up_s, tm_up_i, ite_self, true_and, and_true, false_and, and_false, n_ofN, Nat.reduceAdd, Nat.reduceMul, Nat.reduceSub, Nat.zero_add, q_eats_t H hp q, w1, a, c, t1]
      · rw [if_neg (fun y => a y.1)] at t1
        simp (disch := first | exact tm_inb_i (by omega) (by omega) | exact tm_cc rfl | exact tm_cat rfl | omega | exact nI_ne0 (by omega) (by omega) | exact nI_ne (by omega) (by omega) (by omega) | exact tm_cS (by omega) | assumption) only [e_al0, r_X12_both, e_is1i, e_is1r, e_is1u, e_gotow, e_iconst, r_X12_eats, e_if_eq, e_is2i, e_is2r, e_is2u, e_il1, e_if_ne, e_il2, e_goto, e_iret, kn_0, kn_1, kn_124, b_X12_either_27, b_X12_either_31, b_X12_either_32, b_X12_either_36, Option.bind_some, Option.toList_some, Option.toList_none, List.cons_append, List.nil_append, z_0, nI_add, pk_mul, pk_sub, pk_div, n_mod, nI_clamp, nI_leI, nI_ltI, nI_eq, le_T, le_F, lt_T, lt_F, eq_T, eq_F, n_i0, n_i1, eq_self, not_true_eq_false, not_false_eq_true, Bool.false_eq_true, ↓reduceIte, if_true, if_false, tm_up_n, tm_up_s, tm_up_i, ite_self, true_and, and_true, false_and, and_false, n_ofN, Nat.reduceAdd, Nat.reduceMul, Nat.reduceSub, Nat.zero_add, q_eats_t H hp q, w1, a, t1]
    · rw [xe_app, xe_app, w2, xe_one]
      rw [xs_op (by decide), show xj (nI 124) v w = if v = nI 0 ∧ w = nI 0 then nI 0 else nI 1 from rfl]
      exact t2 st
  · rw [pT_no (k := 0) (by decide) rfl (fun y => q (px_lv_c.1.mp y))]
    dsimp only
    refine ⟨v, ?_, fun st => rfl, Nat.le_refl _, hp⟩
    rw [b_X12_either_5]
    simp (disch := first | exact tm_inb_i (by omega) (by omega) | exact tm_cc rfl | exact tm_cat rfl | omega | exact nI_ne0 (by omega) (by omega) | exact nI_ne (by omega) (by omega) (by omega) | exact tm_cS (by omega) | assumption) only [e_al0, r_X12_both, e_is1i, e_is1r, e_is1u, e_gotow, e_iconst, r_X12_eats, e_if_eq, e_is2i, e_is2r, e_is2u, e_il1, e_if_ne, e_il2, e_goto, e_iret, kn_0, kn_1, kn_124, b_X12_either_27, b_X12_either_31, b_X12_either_32, b_X12_either_36, Option.bind_some, Option.toList_some, Option.toList_none, List.cons_append, List.nil_append, z_0, nI_add, pk_mul, pk_sub, pk_div, n_mod, nI_clamp, nI_leI, nI_ltI, nI_eq, le_T, le_F, lt_T, lt_F, eq_T, eq_F, n_i0, n_i1, eq_self, not_true_eq_false, not_false_eq_true, Bool.false_eq_true, ↓reduceIte, if_true, if_false, tm_up_n, tm_up_s, tm_up_i, ite_self, true_and, and_true, false_and, and_false, n_ofN, Nat.reduceAdd, Nat.reduceMul, Nat.reduceSub, Nat.zero_add, q_eats_f H hp q]
theorem lv_0 (H : pH M0 b z fr) {f : Nat} (i1 : pLv l x M0 b z f 1) (i2 : pTa l x M0 b z f 0 10 (Int.toNat 1680005)) : pLv l x M0 b z (f + 1) 0 := by
  intro d p o hp ho hf hd
  obtain ⟨d, rfl⟩ : ∃ d', d = d' + 1 := ⟨d - 1, by omega⟩
  obtain ⟨w, w1, w2, w3, w4⟩ := i1 d p o hp ho (by omega) (by omega)
  obtain ⟨v', t1, t2, t3, t4⟩ := i2 (d + 1) _ o (px_P b z f 1 o (p, false)).2.2 w tm_un w4 ho (by omega) hd
  simp only [p_eta] at t1 t2 t3 t4
  rw [pL_eq (k := 0) (k1 := 1) (K := 10) (by decide) rfl rfl]
  dsimp only
  refine ⟨v', ?_, fun st => by rw [xe_app, w2]; exact t2 st, by omega, t4⟩
  simp (disch := first | exact tm_inb_i (by omega) (by omega) | exact tm_cc rfl | exact tm_cat rfl | omega | exact nI_ne0 (by omega) (by omega) | exact nI_ne (by omega) (by omega) (by omega) | exact tm_cS (by omega) | assumption) only [n_X12_either, e_al0, r_X12_both, e_is1i, e_is1r, e_is1u, e_gotow, e_iconst, r_X12_eats, e_if_eq, e_is2i, e_is2r, e_is2u, e_il1, e_if_ne, e_il2, e_goto, e_iret, kn_0, kn_1, kn_124, b_X12_either_27, b_X12_either_31, b_X12_either_32, b_X12_either_36, Option.bind_some, Option.toList_some, Option.toList_none, List.cons_append, List.nil_append, z_0, nI_add, pk_mul, pk_sub, pk_div, n_mod, nI_clamp, nI_leI, nI_ltI, nI_eq, le_T, le_F, lt_T, lt_F, eq_T, eq_F, n_i0, n_i1, eq_self, not_true_eq_false, not_false_eq_true, Bool.false_eq_true, ↓reduceIte, if_true, if_false, tm_up_n, tm_up_s, tm_up_i, ite_self, true_and, and_true, false_and, and_false, n_ofN, Nat.reduceAdd, Nat.reduceMul, Nat.reduceSub, Nat.zero_add, w1, t1]
theorem ta_1 (H : pH M0 b z fr) {f : Nat} (i1 : pLv l x M0 b z f 2) (i2 : pTa l x M0 b z f 1 11 (Int.toNat 1690005)) : pTa l x M0 b z (f + 1) 1 11 (Int.toNat 1690005) := by
  intro d p o bd v v2 hp ho hf hd
  obtain ⟨d, rfl⟩ : ∃ d', d = d' + 2 := ⟨d - 2, by omega⟩
  by_cases q : px_byte b z (p, bd) = nI 38
  · have hl := px_lv_c.2.1.mpr q
    obtain ⟨rfl, hpz, _⟩ := px_at (by decide) q
    rw [pT_yes (k := 1) (k1 := 2) (K := 11) (by decide) (by decide) rfl rfl hl, q]
    dsimp only
    obtain ⟨w, w1, w2, w3, w4⟩ := i1 (d + 1) (p + 1) o (by omega) ho (by omega) (by omega)
    obtain ⟨v', t1, t2, t3, t4⟩ := i2 (d + 2) (px_P b z f 2 o (p + 1, false)).2.1 o (px_P b z f 2 o (p + 1, false)).2.2 (if ¬ v = nI 0 ∧ ¬ w = nI 0 then nI 1 else nI 0) (.int w) w4 ho (by omega) hd
    simp only [p_eta] at t1 t2 t3 t4
    refine ⟨v', ?_, fun st => ?_, by omega, t4⟩
    · rw [b_X12_both_5]
      by_cases a : v = nI 0
      · rw [if_neg (fun y => y.1 a)] at t1
        simp (disch := first | exact tm_inb_i (by omega) (by omega) | exact tm_cc rfl | exact tm_cat rfl | omega | exact nI_ne0 (by omega) (by omega) | exact nI_ne (by omega) (by omega) (by omega) | exact tm_cS (by omega) | assumption) only [e_al0, r_X12_relation, e_is1i, e_is1r, e_is1u, e_gotow, e_iconst, r_X12_eats, e_if_eq, e_is2i, e_is2r, e_is2u, e_il1, e_il2, e_goto, e_iret, kn_0, kn_1, kn_38, b_X12_both_31, b_X12_both_32, b_X12_both_36, Option.bind_some, Option.toList_some, Option.toList_none, List.cons_append, List.nil_append, z_0, nI_add, pk_mul, pk_sub, pk_div, n_mod, nI_clamp, nI_leI, nI_ltI, nI_eq, le_T, le_F, lt_T, lt_F, eq_T, eq_F, n_i0, n_i1, eq_self, not_true_eq_false, not_false_eq_true, Bool.false_eq_true, ↓reduceIte, if_true, if_false, tm_up_n, tm_up_s, tm_up_i, ite_self, true_and, and_true, false_and, and_false, n_ofN, Nat.reduceAdd, Nat.reduceMul, Nat.reduceSub, Nat.zero_add, q_eats_t H hp q, w1, a, t1]
      · by_cases c : w = nI 0
        · rw [if_neg (fun y => y.2 c)] at t1
          subst c
          simp (disch := first | exact tm_inb_i (by omega) (by omega) | exact tm_cc rfl | exact tm_cat rfl | omega | exact nI_ne0 (by omega) (by omega) | exact nI_ne (by omega) (by omega) (by omega) | exact tm_cS (by omega) | assumption) only [e_al0, r_X12_relation, e_is1i, e_is1r, e_is1u, e_gotow, e_iconst, r_X12_eats, e_if_eq, e_is2i, e_is2r, e_is2u, e_il1, e_il2, e_goto, e_iret, kn_0, kn_1, kn_38, b_X12_both_31, b_X12_both_32, b_X12_both_36, Option.bind_some, Option.toList_some, Option.toList_none, List.cons_append, List.nil_append, z_0, nI_add, pk_mul, pk_sub, pk_div, n_mod, nI_clamp, nI_leI, nI_ltI, nI_eq, le_T, le_F, lt_T, lt_F, eq_T, eq_F, n_i0, n_i1, eq_self, not_true_eq_false, not_false_eq_true, Bool.false_eq_true, ↓reduceIte, if_true, if_false, tm_up_n, tm_up_s, tm_up_i, ite_self, true_and, and_true, false_and, and_false, n_ofN, Nat.reduceAdd, Nat.reduceMul, Nat.reduceSub, Nat.zero_add, q_eats_t H hp q, w1, a, t1]
        · rw [if_pos ⟨a, c⟩] at t1
          simp (disch := first | exact tm_inb_i (by omega) (by omega) | exact tm_cc rfl | exact tm_cat rfl | omega | exact nI_ne0 (by omega) (by omega) | exact nI_ne (by omega) (by omega) (by omega) | exact tm_cS (by omega) | assumption) only [e_al0, r_X12_relation, e_is1i, e_is1r, e_is1u, e_gotow, e_iconst, r_X12_eats, e_if_eq, e_is2i, e_is2r, e_is2u, e_il1, e_il2, e_goto, e_iret, kn_0, kn_1, kn_38, b_X12_both_31, b_X12_both_32, b_X12_both_36, Option.bind_some, Option.toList_some, Option.toList_none, List.cons_append, List.nil_append, z_0, nI_add, pk_mul, pk_sub, pk_div, n_mod, nI_clamp, nI_leI, nI_ltI, nI_eq, le_T, le_F, lt_T, lt_F, eq_T, eq_F, n_i0, n_i1, eq_self, not_true_eq_false, not_false_eq_true, Bool.false_eq_true, ↓reduceIte, if_true, if_false, tm_up_n, tm_up_s, tm_up_i, ite_self, true_and, and_true, false_and, and_false, n_ofN, Nat.reduceAdd, Nat.reduceMul, Nat.reduceSub, Nat.zero_add, q_eats_t H hp q, w1, a, c, t1]
    · rw [xe_app, xe_app, w2, xe_one]
      rw [xs_op (by decide), show xj (nI 38) v w = if ¬ v = nI 0 ∧ ¬ w = nI 0 then nI 1 else nI 0 from if_pos rfl]
      exact t2 st
  · rw [pT_no (k := 1) (by decide) rfl (fun y => q (px_lv_c.2.1.mp y))]
    dsimp only
    refine ⟨v, ?_, fun st => rfl, Nat.le_refl _, hp⟩
    rw [b_X12_both_5]
    simp (disch := first | exact tm_inb_i (by omega) (by omega) | exact tm_cc rfl | exact tm_cat rfl | omega | exact nI_ne0 (by omega) (by omega) | exact nI_ne (by omega) (by omega) (by omega) | exact tm_cS (by omega) | assumption) only [e_al0, r_X12_relation, e_is1i, e_is1r, e_is1u, e_gotow, e_iconst, r_X12_eats, e_if_eq, e_is2i, e_is2r, e_is2u, e_il1, e_il2, e_goto, e_iret, kn_0, kn_1, kn_38, b_X12_both_31, b_X12_both_32, b_X12_both_36, Option.bind_some, Option.toList_some, Option.toList_none, List.cons_append, List.nil_append, z_0, nI_add, pk_mul, pk_sub, pk_div, n_mod, nI_clamp, nI_leI, nI_ltI, nI_eq, le_T, le_F, lt_T, lt_F, eq_T, eq_F, n_i0, n_i1, eq_self, not_true_eq_false, not_false_eq_true, Bool.false_eq_true, ↓reduceIte, if_true, if_false, tm_up_n, tm_up_s, tm_up_i, ite_self, true_and, and_true, false_and, and_false, n_ofN, Nat.reduceAdd, Nat.reduceMul, Nat.reduceSub, Nat.zero_add, q_eats_f H hp q]
theorem lv_1 (H : pH M0 b z fr) {f : Nat} (i1 : pLv l x M0 b z f 2) (i2 : pTa l x M0 b z f 1 11 (Int.toNat 1690005)) : pLv l x M0 b z (f + 1) 1 := by
  intro d p o hp ho hf hd
  obtain ⟨d, rfl⟩ : ∃ d', d = d' + 1 := ⟨d - 1, by omega⟩
  obtain ⟨w, w1, w2, w3, w4⟩ := i1 d p o hp ho (by omega) (by omega)
  obtain ⟨v', t1, t2, t3, t4⟩ := i2 (d + 1) _ o (px_P b z f 2 o (p, false)).2.2 w tm_un w4 ho (by omega) hd
  simp only [p_eta] at t1 t2 t3 t4
  rw [pL_eq (k := 1) (k1 := 2) (K := 11) (by decide) rfl rfl]
  dsimp only
  refine ⟨v', ?_, fun st => by rw [xe_app, w2]; exact t2 st, by omega, t4⟩
  simp (disch := first | exact tm_inb_i (by omega) (by omega) | exact tm_cc rfl | exact tm_cat rfl | omega | exact nI_ne0 (by omega) (by omega) | exact nI_ne (by omega) (by omega) (by omega) | exact tm_cS (by omega) | assumption) only [n_X12_both, e_al0, r_X12_relation, e_is1i, e_is1r, e_is1u, e_gotow, e_iconst, r_X12_eats, e_if_eq, e_is2i, e_is2r, e_is2u, e_il1, e_il2, e_goto, e_iret, kn_0, kn_1, kn_38, b_X12_both_31, b_X12_both_32, b_X12_both_36, Option.bind_some, Option.toList_some, Option.toList_none, List.cons_append, List.nil_append, z_0, nI_add, pk_mul, pk_sub, pk_div, n_mod, nI_clamp, nI_leI, nI_ltI, nI_eq, le_T, le_F, lt_T, lt_F, eq_T, eq_F, n_i0, n_i1, eq_self, not_true_eq_false, not_false_eq_true, Bool.false_eq_true, ↓reduceIte, if_true, if_false, tm_up_n, tm_up_s, tm_up_i, ite_self, true_and, and_true, false_and, and_false, n_ofN, Nat.reduceAdd, Nat.reduceMul, Nat.reduceSub, Nat.zero_add, w1, t1]
theorem ta_3 (H : pH M0 b z fr) {f : Nat} (i1 : pLv l x M0 b z f 4) (i2 : pTb l x M0 b z f 3 13 (Int.toNat 1710010)) : pTb l x M0 b z (f + 1) 3 13 (Int.toNat 1710010) := by
  intro d p o bd v v3 hp ho hf hd
  obtain ⟨d, rfl⟩ : ∃ d', d = d' + 2 := ⟨d - 2, by omega⟩
  by_cases q : px_byte b z (p, bd) = nI 43 ∨ px_byte b z (p, bd) = nI 45
  · have hl := px_lv_c.2.2.2.1.mpr q
    have hat : bd = false ∧ p < z := by
      rcases q with q | q
      · exact ⟨(px_at (by decide) q).1, (px_at (by decide) q).2.1⟩
      · exact ⟨(px_at (by decide) q).1, (px_at (by decide) q).2.1⟩
    obtain ⟨rfl, hpz⟩ := hat
    rw [pT_yes (k := 3) (k1 := 4) (K := 13) (by decide) (by decide) rfl rfl hl]
    dsimp only
    obtain ⟨w, w1, w2, w3, w4⟩ := i1 (d + 1) (p + 1) o (by omega) ho (by omega) (by omega)
    have bA := q_byteAt (d := d + 1) (l := l) (x := x) (o := o) (bd := (px_P b z f 4 o (p + 1, false)).2.2) H w4
    rcases q with q | q
    · obtain ⟨v', t1, t2, t3, t4⟩ := i2 (d + 2) (px_P b z f 4 o (p + 1, false)).2.1 o (px_P b z f 4 o (p + 1, false)).2.2 (v + w) (.int w) w4 ho (by omega) hd
      simp only [p_eta] at t1 t2 t3 t4
      refine ⟨v', ?_, fun st => ?_, by omega, t4⟩
      · rw [b_X12_added_10]
        simp (disch := first | exact tm_inb_i (by omega) (by omega) | exact tm_cc rfl | exact tm_cat rfl | omega | exact nI_ne0 (by omega) (by omega) | exact nI_ne (by omega) (by omega) (by omega) | exact tm_cS (by omega) | assumption) only [e_al0, r_X12_term, e_is1i, e_is1r, e_is1u, r_X12_byteAt, e_is2i, e_is2r, e_is2u, e_gotow, e_il2, e_iconst, e_ic_eq, e_ic_ne, e_dupi, e_dupr, g_95_7, e_iadd, p_95_7, e_is3i, e_is3r, e_is3u, e_il1, e_il3, e_goto, e_isub, e_iret, kn_1, kn_43, kn_45, b_X12_added_22, b_X12_added_49, b_X12_added_52, b_X12_added_61, Option.bind_some, Option.toList_some, Option.toList_none, List.cons_append, List.nil_append, z_0, nI_add, pk_mul, pk_sub, pk_div, n_mod, nI_clamp, nI_leI, nI_ltI, nI_eq, le_T, le_F, lt_T, lt_F, eq_T, eq_F, n_i0, n_i1, eq_self, not_true_eq_false, not_false_eq_true, Bool.false_eq_true, ↓reduceIte, if_true, if_false, tm_up_n, tm_up_s, tm_up_i, ite_self, true_and, and_true, false_and, and_false, n_ofN, Nat.reduceAdd, Nat.reduceMul, Nat.reduceSub, Nat.zero_add, q, pS_7, up7, w1, bA, t1]
      · rw [q, xe_app, xe_app, w2, xe_one]
        rw [xs_op (by decide), show xj (nI 43) v w = v + w from rfl]
        exact t2 st
    · obtain ⟨v', t1, t2, t3, t4⟩ := i2 (d + 2) (px_P b z f 4 o (p + 1, false)).2.1 o (px_P b z f 4 o (p + 1, false)).2.2 (v - w) (.int w) w4 ho (by omega) hd
      simp only [p_eta] at t1 t2 t3 t4
      refine ⟨v', ?_, fun st => ?_, by omega, t4⟩
      · rw [b_X12_added_10]
        simp (disch := first | exact tm_inb_i (by omega) (by omega) | exact tm_cc rfl | exact tm_cat rfl | omega | exact nI_ne0 (by omega) (by omega) | exact nI_ne (by omega) (by omega) (by omega) | exact tm_cS (by omega) | assumption) only [e_al0, r_X12_term, e_is1i, e_is1r, e_is1u, r_X12_byteAt, e_is2i, e_is2r, e_is2u, e_gotow, e_il2, e_iconst, e_ic_eq, e_ic_ne, e_dupi, e_dupr, g_95_7, e_iadd, p_95_7, e_is3i, e_is3r, e_is3u, e_il1, e_il3, e_goto, e_isub, e_iret, kn_1, kn_43, kn_45, b_X12_added_22, b_X12_added_49, b_X12_added_52, b_X12_added_61, Option.bind_some, Option.toList_some, Option.toList_none, List.cons_append, List.nil_append, z_0, nI_add, pk_mul, pk_sub, pk_div, n_mod, nI_clamp, nI_leI, nI_ltI, nI_eq, le_T, le_F, lt_T, lt_F, eq_T, eq_F, n_i0, n_i1, eq_self, not_true_eq_false, not_false_eq_true, Bool.false_eq_true, ↓reduceIte, if_true, if_false, tm_up_n, tm_up_s, tm_up_i, ite_self, true_and, and_true, false_and, and_false, n_ofN, Nat.reduceAdd, Nat.reduceMul, Nat.reduceSub, Nat.zero_add, q, pS_7, up7, w1, bA, t1]
      · rw [q, xe_app, xe_app, w2, xe_one]
        rw [xs_op (by decide), show xj (nI 45) v w = v - w from rfl]
        exact t2 st
  · rw [pT_no (k := 3) (by decide) rfl (fun y => q (px_lv_c.2.2.2.1.mp y))]
    dsimp only
    refine ⟨v, ?_, fun st => rfl, Nat.le_refl _, hp⟩
    have n1 : ¬ px_byte b z (p, bd) = nI 43 := fun y => q (Or.inl y)
    have n2 : ¬ px_byte b z (p, bd) = nI 45 := fun y => q (Or.inr y)
    rw [b_X12_added_10]
    simp (disch := first | exact tm_inb_i (by omega) (by omega) | exact tm_cc rfl | exact tm_cat rfl | omega | exact nI_ne0 (by omega) (by omega) | exact nI_ne (by omega) (by omega) (by omega) | exact tm_cS (by omega) | assumption) only [e_al0, r_X12_term, e_is1i, e_is1r, e_is1u, r_X12_byteAt, e_is2i, e_is2r, e_is2u, e_gotow, e_il2, e_iconst, e_ic_eq, e_ic_ne, e_dupi, e_dupr, g_95_7, e_iadd, p_95_7, e_is3i, e_is3r, e_is3u, e_il1, e_il3, e_goto, e_isub, e_iret, kn_1, kn_43, kn_45, b_X12_added_22, b_X12_added_49, b_X12_added_52, b_X12_added_61, Option.bind_some, Option.toList_some, Option.toList_none, List.cons_append, List.nil_append, z_0, nI_add, pk_mul, pk_sub, pk_div, n_mod, nI_clamp, nI_leI, nI_ltI, nI_eq, le_T, le_F, lt_T, lt_F, eq_T, eq_F, n_i0, n_i1, eq_self, not_true_eq_false, not_false_eq_true, Bool.false_eq_true, ↓reduceIte, if_true, if_false, tm_up_n, tm_up_s, tm_up_i, ite_self, true_and, and_true, false_and, and_false, n_ofN, Nat.reduceAdd, Nat.reduceMul, Nat.reduceSub, Nat.zero_add, n1, n2]
theorem lv_3 (H : pH M0 b z fr) {f : Nat} (i1 : pLv l x M0 b z f 4) (i2 : pTb l x M0 b z f 3 13 (Int.toNat 1710010)) : pLv l x M0 b z (f + 1) 3 := by
  intro d p o hp ho hf hd
  obtain ⟨d, rfl⟩ : ∃ d', d = d' + 1 := ⟨d - 1, by omega⟩
  obtain ⟨w, w1, w2, w3, w4⟩ := i1 d p o hp ho (by omega) (by omega)
  obtain ⟨v', t1, t2, t3, t4⟩ := i2 (d + 1) _ o (px_P b z f 4 o (p, false)).2.2 w tm_un w4 ho (by omega) hd
  simp only [p_eta] at t1 t2 t3 t4
  have bA := q_byteAt (d := d) (l := l) (x := x) (o := o) (bd := (px_P b z f 4 o (p, false)).2.2) H w4
  rw [pL_eq (k := 3) (k1 := 4) (K := 13) (by decide) rfl rfl]
  dsimp only
  refine ⟨v', ?_, fun st => by rw [xe_app, w2]; exact t2 st, by omega, t4⟩
  simp (disch := first | exact tm_inb_i (by omega) (by omega) | exact tm_cc rfl | exact tm_cat rfl | omega | exact nI_ne0 (by omega) (by omega) | exact nI_ne (by omega) (by omega) (by omega) | exact tm_cS (by omega) | assumption) only [n_X12_added, e_al0, r_X12_term, e_is1i, e_is1r, e_is1u, r_X12_byteAt, e_is2i, e_is2r, e_is2u, e_gotow, e_il2, e_iconst, e_ic_eq, e_ic_ne, e_dupi, e_dupr, g_95_7, e_iadd, p_95_7, e_is3i, e_is3r, e_is3u, e_il1, e_il3, e_goto, e_isub, e_iret, kn_1, kn_43, kn_45, b_X12_added_22, b_X12_added_49, b_X12_added_52, b_X12_added_61, Option.bind_some, Option.toList_some, Option.toList_none, List.cons_append, List.nil_append, z_0, nI_add, pk_mul, pk_sub, pk_div, n_mod, nI_clamp, nI_leI, nI_ltI, nI_eq, le_T, le_F, lt_T, lt_F, eq_T, eq_F, n_i0, n_i1, eq_self, not_true_eq_false, not_false_eq_true, Bool.false_eq_true, ↓reduceIte, if_true, if_false, tm_up_n, tm_up_s, tm_up_i, ite_self, true_and, and_true, false_and, and_false, n_ofN, Nat.reduceAdd, Nat.reduceMul, Nat.reduceSub, Nat.zero_add, w1, bA, t1]
theorem ta_4 (H : pH M0 b z fr) {f : Nat} (i1 : pLv l x M0 b z f 5) (i2 : pTb l x M0 b z f 4 14 (Int.toNat 1720010)) : pTb l x M0 b z (f + 1) 4 14 (Int.toNat 1720010) := by
  intro d p o bd v v3 hp ho hf hd
  obtain ⟨d, rfl⟩ : ∃ d', d = d' + 2 := ⟨d - 2, by omega⟩
  by_cases q : px_byte b z (p, bd) = nI 42 ∨ px_byte b z (p, bd) = nI 47
  · have hl := px_lv_c.2.2.2.2.mpr q
    have hat : bd = false ∧ p < z := by
      rcases q with q | q
      · exact ⟨(px_at (by decide) q).1, (px_at (by decide) q).2.1⟩
      · exact ⟨(px_at (by decide) q).1, (px_at (by decide) q).2.1⟩
    obtain ⟨rfl, hpz⟩ := hat
    rw [pT_yes (k := 4) (k1 := 5) (K := 14) (by decide) (by decide) rfl rfl hl]
    dsimp only
    obtain ⟨w, w1, w2, w3, w4⟩ := i1 (d + 1) (p + 1) o (by omega) ho (by omega) (by omega)
    have bA := q_byteAt (d := d + 1) (l := l) (x := x) (o := o) (bd := (px_P b z f 5 o (p + 1, false)).2.2) H w4
    rcases q with q | q
    · obtain ⟨v', t1, t2, t3, t4⟩ := i2 (d + 2) (px_P b z f 5 o (p + 1, false)).2.1 o (px_P b z f 5 o (p + 1, false)).2.2 (v * w) (.int w) w4 ho (by omega) hd
      simp only [p_eta] at t1 t2 t3 t4
      refine ⟨v', ?_, fun st => ?_, by omega, t4⟩
      · rw [b_X12_term_10]
        simp (disch := first | exact tm_inb_i (by omega) (by omega) | exact tm_cc rfl | exact tm_cat rfl | omega | exact nI_ne0 (by omega) (by omega) | exact nI_ne (by omega) (by omega) (by omega) | exact tm_cS (by omega) | assumption) only [e_al0, r_X12_single, e_is1i, e_is1r, e_is1u, r_X12_byteAt, e_is2i, e_is2r, e_is2u, e_gotow, e_il2, e_iconst, e_ic_eq, e_ic_ne, e_dupi, e_dupr, g_95_7, e_iadd, p_95_7, e_is3i, e_is3r, e_is3u, e_il1, e_il3, e_imul, e_goto, e_if_ne, e_ineg, e_idiv, e_iret, k_m1, kn_0, kn_1, kn_42, kn_47, b_X12_term_22, b_X12_term_49, b_X12_term_57, b_X12_term_67, b_X12_term_70, b_X12_term_79, Option.bind_some, Option.toList_some, Option.toList_none, List.cons_append, List.nil_append, z_0, nI_add, pk_mul, pk_sub, pk_div, n_mod, nI_clamp, nI_leI, nI_ltI, nI_eq, le_T, le_F, lt_T, lt_F, eq_T, eq_F, n_i0, n_i1, eq_self, not_true_eq_false, not_false_eq_true, Bool.false_eq_true, ↓reduceIte, if_true, if_false, tm_up_n, tm_up_s, tm_up_i, ite_self, true_and, and_true, false_and, and_false, n_ofN, Nat.reduceAdd, Nat.reduceMul, Nat.reduceSub, Nat.zero_add, q, pS_7, up7, w1, bA, t1]
      · rw [q, xe_app, xe_app, w2, xe_one]
        rw [xs_op (by decide), show xj (nI 42) v w = v * w from rfl]
        exact t2 st
    · obtain ⟨v', t1, t2, t3, t4⟩ := i2 (d + 2) (px_P b z f 5 o (p + 1, false)).2.1 o (px_P b z f 5 o (p + 1, false)).2.2 (if w = nI 0 then nI 0 else v / w) (.int w) w4 ho (by omega) hd
      simp only [p_eta] at t1 t2 t3 t4
      refine ⟨v', ?_, fun st => ?_, by omega, t4⟩
      · rw [b_X12_term_10]
        by_cases a : w = nI 0
        · rw [if_pos a] at t1
          subst a
          simp (disch := first | exact tm_inb_i (by omega) (by omega) | exact tm_cc rfl | exact tm_cat rfl | omega | exact nI_ne0 (by omega) (by omega) | exact nI_ne (by omega) (by omega) (by omega) | exact tm_cS (by omega) | assumption) only [e_al0, r_X12_single, e_is1i, e_is1r, e_is1u, r_X12_byteAt, e_is2i, e_is2r, e_is2u, e_gotow, e_il2, e_iconst, e_ic_eq, e_ic_ne, e_dupi, e_dupr, g_95_7, e_iadd, p_95_7, e_is3i, e_is3r, e_is3u, e_il1, e_il3, e_imul, e_goto, e_if_ne, e_ineg, e_idiv, e_iret, k_m1, kn_0, kn_1, kn_42, kn_47, b_X12_term_22, b_X12_term_49, b_X12_term_57, b_X12_term_67, b_X12_term_70, b_X12_term_79, Option.bind_some, Option.toList_some, Option.toList_none, List.cons_append, List.nil_append, z_0, nI_add, pk_mul, pk_sub, pk_div, n_mod, nI_clamp, nI_leI, nI_ltI, nI_eq, le_T, le_F, lt_T, lt_F, eq_T, eq_F, n_i0, n_i1, eq_self, not_true_eq_false, not_false_eq_true, Bool.false_eq_true, ↓reduceIte, if_true, if_false, tm_up_n, tm_up_s, tm_up_i, ite_self, true_and, and_true, false_and, and_false, n_ofN, Nat.reduceAdd, Nat.reduceMul, Nat.reduceSub, Nat.zero_add, q, pS_7, up7, w1, bA, t1]
        · have a' : ¬ w = 0 := by rw [← nI_0]; exact a
          rw [if_neg a] at t1
          by_cases c : w = -1
          · subst c
            rw [i_divm1] at t1
            simp (disch := first | exact tm_inb_i (by omega) (by omega) | exact tm_cc rfl | exact tm_cat rfl | omega | exact nI_ne0 (by omega) (by omega) | exact nI_ne (by omega) (by omega) (by omega) | exact tm_cS (by omega) | assumption) only [e_al0, r_X12_single, e_is1i, e_is1r, e_is1u, r_X12_byteAt, e_is2i, e_is2r, e_is2u, e_gotow, e_il2, e_iconst, e_ic_eq, e_ic_ne, e_dupi, e_dupr, g_95_7, e_iadd, p_95_7, e_is3i, e_is3r, e_is3u, e_il1, e_il3, e_imul, e_goto, e_if_ne, e_ineg, e_idiv, e_iret, k_m1, kn_0, kn_1, kn_42, kn_47, b_X12_term_22, b_X12_term_49, b_X12_term_57, b_X12_term_67, b_X12_term_70, b_X12_term_79, Option.bind_some, Option.toList_some, Option.toList_none, List.cons_append, List.nil_append, z_0, nI_add, pk_mul, pk_sub, pk_div, n_mod, nI_clamp, nI_leI, nI_ltI, nI_eq, le_T, le_F, lt_T, lt_F, eq_T, eq_F, n_i0, n_i1, eq_self, not_true_eq_false, not_false_eq_true, Bool.false_eq_true, ↓reduceIte, if_true, if_false, tm_up_n, tm_up_s, tm_up_i, ite_self, true_and, and_true, false_and, and_false, n_ofN, Nat.reduceAdd, Nat.reduceMul, Nat.reduceSub, Nat.zero_add, q, pS_7, up7, w1, a, bA, t1]
          · simp (disch := first | exact tm_inb_i (by omega) (by omega) | exact tm_cc rfl | exact tm_cat rfl | omega | exact nI_ne0 (by omega) (by omega) | exact nI_ne (by omega) (by omega) (by omega) | exact tm_cS (by omega) | assumption) only [e_al0, r_X12_single, e_is1i, e_is1r, e_is1u, r_X12_byteAt, e_is2i, e_is2r, e_is2u, e_gotow, e_il2, e_iconst, e_ic_eq, e_ic_ne, e_dupi, e_dupr, g_95_7, e_iadd, p_95_7, e_is3i, e_is3r, e_is3u, e_il1, e_il3, e_imul, e_goto, e_if_ne, e_ineg, e_idiv, e_iret, k_m1, kn_0, kn_1, kn_42, kn_47, b_X12_term_22, b_X12_term_49, b_X12_term_57, b_X12_term_67, b_X12_term_70, b_X12_term_79, Option.bind_some, Option.toList_some, Option.toList_none, List.cons_append, List.nil_append, z_0, nI_add, pk_mul, pk_sub, pk_div, n_mod, nI_clamp, nI_leI, nI_ltI, nI_eq, le_T, le_F, lt_T, lt_F, eq_T, eq_F, n_i0, n_i1, eq_self, not_true_eq_false, not_false_eq_true, Bool.false_eq_true, ↓reduceIte, if_true, if_false, tm_up_n, tm_up_s, tm_up_i, ite_self, true_and, and_true, false_and, and_false, n_ofN, Nat.reduceAdd, Nat.reduceMul, Nat.reduceSub, Nat.zero_add, q, pS_7, up7, w1, a, c, bA, t1]
      · rw [q, xe_app, xe_app, w2, xe_one]
        rw [xs_op (by decide), show xj (nI 47) v w = if w = nI 0 then nI 0 else v / w from rfl]
        exact t2 st
  · rw [pT_no (k := 4) (by decide) rfl (fun y => q (px_lv_c.2.2.2.2.mp y))]
    dsimp only
    refine ⟨v, ?_, fun st => rfl, Nat.le_refl _, hp⟩
    have n1 : ¬ px_byte b z (p, bd) = nI 42 := fun y => q (Or.inl y)
    have n2 : ¬ px_byte b z (p, bd) = nI 47 := fun y => q (Or.inr y)
    rw [b_X12_term_10]
    simp (disch := first | exact tm_inb_i (by omega) (by omega) | exact tm_cc rfl | exact tm_cat rfl | omega | exact nI_ne0 (by omega) (by omega) | exact nI_ne (by omega) (by omega) (by omega) | exact tm_cS (by omega) | assumption) only [e_al0, r_X12_single, e_is1i, e_is1r, e_is1u, r_X12_byteAt, e_is2i, e_is2r, e_is2u, e_gotow, e_il2, e_iconst, e_ic_eq, e_ic_ne, e_dupi, e_dupr, g_95_7, e_iadd, p_95_7, e_is3i, e_is3r, e_is3u, e_il1, e_il3, e_imul, e_goto, e_if_ne, e_ineg, e_idiv, e_iret, k_m1, kn_0, kn_1, kn_42, kn_47, b_X12_term_22, b_X12_term_49, b_X12_term_57, b_X12_term_67, b_X12_term_70, b_X12_term_79, Option.bind_some, Option.toList_some, Option.toList_none, List.cons_append, List.nil_append, z_0, nI_add, pk_mul, pk_sub, pk_div, n_mod, nI_clamp, nI_leI, nI_ltI, nI_eq, le_T, le_F, lt_T, lt_F, eq_T, eq_F, n_i0, n_i1, eq_self, not_true_eq_false, not_false_eq_true, Bool.false_eq_true, ↓reduceIte, if_true, if_false, tm_up_n, tm_up_s, tm_up_i, ite_self, true_and, and_true, false_and, and_false, n_ofN, Nat.reduceAdd, Nat.reduceMul, Nat.reduceSub, Nat.zero_add, n1, n2]
theorem lv_4 (H : pH M0 b z fr) {f : Nat} (i1 : pLv l x M0 b z f 5) (i2 : pTb l x M0 b z f 4 14 (Int.toNat 1720010)) : pLv l x M0 b z (f + 1) 4 := by
  intro d p o hp ho hf hd
  obtain ⟨d, rfl⟩ : ∃ d', d = d' + 1 := ⟨d - 1, by omega⟩
  obtain ⟨w, w1, w2, w3, w4⟩ := i1 d p o hp ho (by omega) (by omega)
  obtain ⟨v', t1, t2, t3, t4⟩ := i2 (d + 1) _ o (px_P b z f 5 o (p, false)).2.2 w tm_un w4 ho (by omega) hd
  simp only [p_eta] at t1 t2 t3 t4
  have bA := q_byteAt (d := d) (l := l) (x := x) (o := o) (bd := (px_P b z f 5 o (p, false)).2.2) H w4
  rw [pL_eq (k := 4) (k1 := 5) (K := 14) (by decide) rfl rfl]
  dsimp only
  refine ⟨v', ?_, fun st => by rw [xe_app, w2]; exact t2 st, by omega, t4⟩
  simp (disch := first | exact tm_inb_i (by omega) (by omega) | exact tm_cc rfl | exact tm_cat rfl | omega | exact nI_ne0 (by omega) (by omega) | exact nI_ne (by omega) (by omega) (by omega) | exact tm_cS (by omega) | assumption) only [n_X12_term, e_al0, r_X12_single, e_is1i, e_is1r, e_is1u, r_X12_byteAt, e_is2i, e_is2r, e_is2u, e_gotow, e_il2, e_iconst, e_ic_eq, e_ic_ne, e_dupi, e_dupr, g_95_7, e_iadd, p_95_7, e_is3i, e_is3r, e_is3u, e_il1, e_il3, e_imul, e_goto, e_if_ne, e_ineg, e_idiv, e_iret, k_m1, kn_0, kn_1, kn_42, kn_47, b_X12_term_22, b_X12_term_49, b_X12_term_57, b_X12_term_67, b_X12_term_70, b_X12_term_79, Option.bind_some, Option.toList_some, Option.toList_none, List.cons_append, List.nil_append, z_0, nI_add, pk_mul, pk_sub, pk_div, n_mod, nI_clamp, nI_leI, nI_ltI, nI_eq, le_T, le_F, lt_T, lt_F, eq_T, eq_F, n_i0, n_i1, eq_self, not_true_eq_false, not_false_eq_true, Bool.false_eq_true, ↓reduceIte, if_true, if_false, tm_up_n, tm_up_s, tm_up_i, ite_self, true_and, and_true, false_and, and_false, n_ofN, Nat.reduceAdd, Nat.reduceMul, Nat.reduceSub, Nat.zero_add, w1, bA, t1]
end TLV
