/-! part 72: the pure reader: its places, its fuel; the reference's reads -/
section TPU
variable {l : Nat} {x : Nat → Int32} {M0 : tm_M} {b : Nat → Int32} {z fr : Nat}
theorem px_lv_at {p k : Nat} {bd : Bool} (hk : k < 5) (h : px_lv (px_byte b z (p, bd)) = k) : bd = false ∧ p < z := by
  by_cases q : bd = true ∨ z ≤ p
  · rw [px_b1 q, show px_lv (-1) = 9 by decide +kernel] at h
    omega
  · exact ⟨eq_false_of_ne_true (fun e => q (Or.inl e)), by omega⟩
theorem px_lt_at {p : Nat} {bd : Bool} (g : ¬ px_byte b z (p, bd) < nI 97 ∧ ¬ nI 102 < px_byte b z (p, bd)) : bd = false ∧ p < z := by
  rcases rng (px_byte b z (p, bd)) 97 102 (by decide) (by decide) with y | ⟨j, ja, jb, je⟩
  · exact absurd g y
  · exact ⟨(px_at (by omega) je).1, (px_at (by omega) je).2.1⟩
/-- the places stay within the text -/
theorem px_b : ∀ f k o p bd, k < 15 → p ≤ z → p ≤ (px_P b z f k o (p, bd)).2.1 ∧ (px_P b z f k o (p, bd)).2.1 ≤ z := by
  intro f
  induction f with
  | zero => intro k o p bd hk h; exact ⟨Nat.le_refl _, h⟩
  | succ f ih =>
    intro k o p bd hk h
    rw [px_P]
    dsimp only
    by_cases h5 : k = 5
    · rw [if_pos h5]
      by_cases q : px_dg (px_byte b z (p, bd)) = true
      · rw [if_pos q]
        have hb := (px_num_b (b := b) (z := z) (bd := bd) 4 p 0).2
        exact ⟨hb.1, hb.2 h⟩
      rw [if_neg q]
      by_cases g : ¬ px_byte b z (p, bd) < nI 97 ∧ ¬ nI 102 < px_byte b z (p, bd)
      · rw [if_pos g]
        exact ⟨Nat.le_succ _, (px_lt_at g).2⟩
      rw [if_neg g]
      by_cases c3 : px_byte b z (p, bd) = nI 33 ∧ o < 5
      · rw [if_pos c3]
        have := ih 5 (o + 1) (p + 1) bd (by decide) (px_at (by decide) c3.1).2.1
        exact ⟨by simp only; omega, this.2⟩
      rw [if_neg c3]
      by_cases c4 : px_byte b z (p, bd) = nI 40 ∧ o < 5
      · rw [if_pos c4]
        have e := ih 0 (o + 1) (p + 1) bd (by decide) (px_at (by decide) c4.1).2.1
        by_cases a : px_byte b z (px_P b z f 0 (o + 1) (p + 1, bd)).2 = nI 41
        · rw [if_pos a]
          exact ⟨by simp only; omega, (px_at (by decide) a).2.1⟩
        · rw [if_neg a]
          exact ⟨by simp only; omega, e.2⟩
      rw [if_neg c4]
      exact ⟨Nat.le_refl _, h⟩
    rw [if_neg h5]
    by_cases h4 : k < 5
    · rw [if_pos h4]
      have e1 := ih (k + 1) o p bd (by omega) h
      have e2 := ih (10 + k) o (px_P b z f (k + 1) o (p, bd)).2.1 (px_P b z f (k + 1) o (p, bd)).2.2 (by omega) e1.2
      simp only [p_eta] at e2
      exact ⟨by simp only; omega, e2.2⟩
    rw [if_neg h4]
    by_cases hl : px_lv (px_byte b z (p, bd)) = k - 10
    · rw [if_pos hl]
      have hp := (px_lv_at (by omega) hl).2
      by_cases h2 : k = 12
      · rw [if_pos h2]
        have e1 := ih 3 o (p + 1) bd (by decide) hp
        exact ⟨by simp only; omega, e1.2⟩
      · rw [if_neg h2]
        have e1 := ih (k - 10 + 1) o (p + 1) bd (by omega) hp
        have e2 := ih k o (px_P b z f (k - 10 + 1) o (p + 1, bd)).2.1 (px_P b z f (k - 10 + 1) o (p + 1, bd)).2.2 hk e1.2
        simp only [p_eta] at e2
        exact ⟨by simp only; omega, e2.2⟩
    · rw [if_neg hl]
      exact ⟨Nat.le_refl _, h⟩
/-- what is bad stays so, there -/
theorem px_bad : ∀ f k o p, k < 15 → (px_P b z f k o (p, true)).2 = (p, true) := by
  intro f
  induction f with
  | zero => intro k o p hk; rfl
  | succ f ih =>
    intro k o p hk
    have e1 : px_byte b z (p, true) = -1 := px_b1 (Or.inl rfl)
    rw [px_P]
    dsimp only
    rw [e1]
    by_cases h5 : k = 5
    · rw [if_pos h5, if_neg (by decide +kernel), if_neg (by decide +kernel), if_neg (fun y => absurd y.1 (by decide +kernel)), if_neg (fun y => absurd y.1 (by decide +kernel))]
    rw [if_neg h5]
    by_cases h4 : k < 5
    · rw [if_pos h4]
      dsimp only
      rw [ih (k + 1) o p (by omega), ih (10 + k) o p (by omega)]
    · rw [if_neg h4, show px_lv (-1) = 9 by decide +kernel, if_neg (by omega)]
/-- fuel enough is fuel enough -/
theorem px_fuel : ∀ f k o p bd, p ≤ z → (k ≤ 5 ∧ 20 * (z + 1 - p) + 10 ≤ f + k ∨ 10 ≤ k ∧ k < 15 ∧ 20 * (z + 1 - p) + 1 ≤ f) → px_P b z (f + 1) k o (p, bd) = px_P b z f k o (p, bd) := by
  intro f
  induction f with
  | zero => intro k o p bd hs h; omega
  | succ f ih =>
    intro k o p bd hs h
    conv => lhs; rw [px_P]
    conv => rhs; rw [px_P]
    dsimp only
    by_cases h5 : k = 5
    · rw [if_pos h5, if_pos h5]
      by_cases q : px_dg (px_byte b z (p, bd)) = true
      · rw [if_pos q, if_pos q]
      rw [if_neg q, if_neg q]
      by_cases g : ¬ px_byte b z (p, bd) < nI 97 ∧ ¬ nI 102 < px_byte b z (p, bd)
      · rw [if_pos g, if_pos g]
      rw [if_neg g, if_neg g]
      by_cases c3 : px_byte b z (p, bd) = nI 33 ∧ o < 5
      · have hp := (px_at (by decide) c3.1).2.1
        rw [if_pos c3, if_pos c3, ih 5 (o + 1) (p + 1) bd hp (by omega)]
      rw [if_neg c3, if_neg c3]
      by_cases c4 : px_byte b z (p, bd) = nI 40 ∧ o < 5
      · have hp := (px_at (by decide) c4.1).2.1
        rw [if_pos c4, if_pos c4, ih 0 (o + 1) (p + 1) bd hp (by omega)]
      rw [if_neg c4, if_neg c4]
    rw [if_neg h5, if_neg h5]
    by_cases h4 : k < 5
    · have e1 := px_b (b := b) f (k + 1) o p bd (by omega) hs
      have e2 := ih (10 + k) o (px_P b z f (k + 1) o (p, bd)).2.1 (px_P b z f (k + 1) o (p, bd)).2.2 e1.2 (by omega)
      simp only [p_eta] at e2
      rw [if_pos h4, if_pos h4, ih (k + 1) o p bd hs (by omega), e2]
    rw [if_neg h4, if_neg h4]
    by_cases hl : px_lv (px_byte b z (p, bd)) = k - 10
    · have hp := (px_lv_at (by omega) hl).2
      rw [if_pos hl, if_pos hl]
      by_cases h2 : k = 12
      · rw [if_pos h2, if_pos h2, ih 3 o (p + 1) bd hp (by omega)]
      · have e1 := px_b (b := b) f (k - 10 + 1) o (p + 1) bd (by omega) hp
        have e2 := ih k o (px_P b z f (k - 10 + 1) o (p + 1, bd)).2.1 (px_P b z f (k - 10 + 1) o (p + 1, bd)).2.2 e1.2 (by omega)
        simp only [p_eta] at e2
        rw [if_neg h2, if_neg h2, ih (k - 10 + 1) o (p + 1) bd hp (by omega), e2]
    · rw [if_neg hl, if_neg hl]
theorem pS_begin {M : tm_M} {b9 : Bool} {p o : Nat} : tm_up (tm_up (tm_up M 95 7 (nI p)) 95 8 (nI o)) 95 9 (bI b9) = pS M p o b9 := by
  rw [tm_up_uc, tm_up_uc, tm_up_uc, tm_uc_uc, tm_uc_uc, tm_uc_at, tm_uc_at]
  unfold pS
  congr 1
  funext j
  by_cases e : j = 9
  · subst e; rw [upd_s]; rfl
  rw [upd_n e]
  by_cases e8 : j = 8
  · subst e8; rw [upd_s]; rfl
  rw [upd_n e8]
  by_cases e7 : j = 7
  · subst e7; rw [upd_s]; rfl
  rw [upd_n e7, if_neg e7, if_neg e8, if_neg e]
theorem pS_begin0 {M : tm_M} {p o : Nat} : tm_up (tm_up (tm_up M 95 7 (nI p)) 95 8 (nI o)) 95 9 (nI 0) = pS M p o false := pS_begin (b9 := false)
theorem pz0c {d : Nat} {is : List Instr} {L st : List Value} {M : tm_M} : tm_ev d (.putfield 1209 :: is) L (.int (nI 0) :: .ref 95 :: st) (tm_GG l x) M = tm_ev d is L st (tm_GG l x) (tm_up M 95 9 (nI 0)) := p_95_9 (Or.inl nI_0)
theorem up90 {p o : Nat} {bd : Bool} : tm_up (pS M0 p o bd) 95 9 (nI 0) = pS M0 p o false := up9 (b := false)
/-- the reference reads z bytes from fr on -/
theorem q_reads {M : tm_M} (H : pH (tm_up (tm_up M 95 5 (nI fr)) 95 6 (nI z)) b z fr) {d : Nat} (hd : 45 ≤ d) : ∃ v, tm_call d 174 [.ref 95, .int (nI fr), .int (nI z)] (tm_GG l x) M = some (some (.int v), tm_GG l x, pS (tm_up (tm_up M 95 5 (nI fr)) 95 6 (nI z)) (px_P b z px_F 0 0 (0, false)).2.1 0 (decide ((px_P b z px_F 0 0 (0, false)).2 ≠ (z, false)))) ∧ (∀ st, xe (M 99) (px_P b z px_F 0 0 (0, false)).1 st = v :: st) ∧ (px_P b z px_F 0 0 (0, false)).2.1 ≤ z := by
  obtain ⟨d, rfl⟩ : ∃ d', d = d' + 1 := ⟨d - 1, by omega⟩
  have hz := H.2.2.2.2.1
  have hf := H.2.2.2.2.2.1
  obtain ⟨v, v1, v2, v3⟩ := q_either (l := l) (x := x) H (d := d) (by omega)
  have e99 : (tm_up (tm_up M 95 5 (nI fr)) 95 6 (nI z)) 99 = M 99 := by rw [tm_up_n (by decide), tm_up_n (by decide)]
  have e6 := H.2.1
  refine ⟨v, ?_, by rw [← e99]; exact v2, v3⟩
  clear v2
  generalize hs1 : px_P b z px_F 0 0 (0, false) = s1 at *
  obtain ⟨c1, p1, bd1⟩ := s1
  simp only at v1 v3 ⊢
  have e6' : pS (tm_up (tm_up M 95 5 (nI fr)) 95 6 (nI z)) p1 0 bd1 95 6 = nI z := (pS_j (by decide) (by decide) (by decide)).trans e6
  cases bd1
  · by_cases a : p1 < z
    · rw [decide_eq_true (by intro y; cases y; omega)]
      simp (disch := first | exact tm_inb_i (by omega) (by omega) | exact tm_cc rfl | exact tm_cat rfl | omega | exact nI_ne0 (by omega) (by omega) | exact nI_ne (by omega) (by omega) (by omega) | exact tm_cS (by omega) | assumption) only [n_X12_reads, e_al0, e_il1, p_95_5, e_il2, p_95_6, e_iconst, p_95_7, p_95_8, p_95_9, r_X12_either, e_is3i, e_is3r, e_is3u, g_95_9, e_if_ne, g_95_7, g_95_6, e_ic_ge, e_gotow, e_goto, e_il3, e_iret, kn_0, kn_1, b_X12_reads_49, b_X12_reads_53, b_X12_reads_54, Option.bind_some, Option.toList_some, Option.toList_none, List.cons_append, List.nil_append, z_0, nI_add, pk_mul, pk_sub, pk_div, n_mod, nI_clamp, nI_leI, nI_ltI, nI_eq, le_T, le_F, lt_T, lt_F, eq_T, eq_F, n_i0, n_i1, eq_self, not_true_eq_false, not_false_eq_true, Bool.false_eq_true, ↓reduceIte, if_true, if_false, tm_up_n, tm_up_s, tm_up_i, ite_self, true_and, and_true, false_and, and_false, n_ofN, Nat.reduceAdd, Nat.reduceMul, Nat.reduceSub, Nat.zero_add, pz0c, up90, pS_begin0, v1, pS_9, pS_7, bI, e6', a, pz1]
    · obtain rfl : p1 = z := by omega
      rw [decide_eq_false (by intro y; exact y rfl)]
      simp (disch := first | exact tm_inb_i (by omega) (by omega) | exact tm_cc rfl | exact tm_cat rfl | omega | exact nI_ne0 (by omega) (by omega) | exact nI_ne (by omega) (by omega) (by omega) | exact tm_cS (by omega) | assumption) only [n_X12_reads, e_al0, e_il1, p_95_5, e_il2, p_95_6, e_iconst, p_95_7, p_95_8, p_95_9, r_X12_either, e_is3i, e_is3r, e_is3u, g_95_9, e_if_ne, g_95_7, g_95_6, e_ic_ge, e_gotow, e_goto, e_il3, e_iret, kn_0, kn_1, b_X12_reads_49, b_X12_reads_53, b_X12_reads_54, Option.bind_some, Option.toList_some, Option.toList_none, List.cons_append, List.nil_append, z_0, nI_add, pk_mul, pk_sub, pk_div, n_mod, nI_clamp, nI_leI, nI_ltI, nI_eq, le_T, le_F, lt_T, lt_F, eq_T, eq_F, n_i0, n_i1, eq_self, not_true_eq_false, not_false_eq_true, Bool.false_eq_true, ↓reduceIte, if_true, if_false, tm_up_n, tm_up_s, tm_up_i, ite_self, true_and, and_true, false_and, and_false, n_ofN, Nat.reduceAdd, Nat.reduceMul, Nat.reduceSub, Nat.zero_add, pz0c, up90, pS_begin0, v1, pS_9, pS_7, bI, e6']
  · rw [decide_eq_true (by intro y; cases y)]
    simp (disch := first | exact tm_inb_i (by omega) (by omega) | exact tm_cc rfl | exact tm_cat rfl | omega | exact nI_ne0 (by omega) (by omega) | exact nI_ne (by omega) (by omega) (by omega) | exact tm_cS (by omega) | assumption) only [n_X12_reads, e_al0, e_il1, p_95_5, e_il2, p_95_6, e_iconst, p_95_7, p_95_8, p_95_9, r_X12_either, e_is3i, e_is3r, e_is3u, g_95_9, e_if_ne, g_95_7, g_95_6, e_ic_ge, e_gotow, e_goto, e_il3, e_iret, kn_0, kn_1, b_X12_reads_49, b_X12_reads_53, b_X12_reads_54, Option.bind_some, Option.toList_some, Option.toList_none, List.cons_append, List.nil_append, z_0, nI_add, pk_mul, pk_sub, pk_div, n_mod, nI_clamp, nI_leI, nI_ltI, nI_eq, le_T, le_F, lt_T, lt_F, eq_T, eq_F, n_i0, n_i1, eq_self, not_true_eq_false, not_false_eq_true, Bool.false_eq_true, ↓reduceIte, if_true, if_false, tm_up_n, tm_up_s, tm_up_i, ite_self, true_and, and_true, false_and, and_false, n_ofN, Nat.reduceAdd, Nat.reduceMul, Nat.reduceSub, Nat.zero_add, pz0c, up90, pS_begin0, v1, pS_9, bI, pz1]
end TPU
