/-! part 50: reaching a mark: the class's table and the reference's -/
def wF (D : Nat → Int32) (w : Nat) : Nat := (D (84 + 5 * w)).toNatClampNeg
def wT (D : Nat → Int32) (w : Nat) : Nat := (D (85 + 5 * w)).toNatClampNeg
def wM (D : Nat → Int32) (w : Nat) : Nat := (D (86 + 5 * w)).toNatClampNeg
def wS (D : Nat → Int32) (w : Nat) : Nat := (D (87 + 5 * w)).toNatClampNeg
def wE (D : Nat → Int32) (w : Nat) : Nat := (D (88 + 5 * w)).toNatClampNeg
theorem wv {D : Nat → Int32} {n W w : Nat} (k : tm_kW D n W) (hn : n ≤ 24) (hw : w < W) : D (84 + 5 * w) = nI (wF D w) ∧ D (85 + 5 * w) = nI (wT D w) ∧ D (86 + 5 * w) = nI (wM D w) ∧ D (88 + 5 * w) = nI (wE D w) ∧ wF D w < wT D w ∧ wT D w ≤ n ∧ wM D w ≤ 300 ∧ wE D w ≤ 99 ∧ (wE D w = 0 ∨ (wS D w ≤ 999 ∧ D (87 + 5 * w) = nI (wS D w))) := by
  obtain ⟨a, b, t, e, h1, h2, h3, h4, h5, h6, h7, h8, h9, h10⟩ := k w hw
  unfold wF wT wM wS wE
  rw [h1, h2, h3, h4, nI_clamp (by omega), nI_clamp (by omega), nI_clamp (by omega), nI_clamp (by omega)]
  refine ⟨rfl, rfl, rfl, rfl, h5, h6, h8, h9, ?_⟩
  by_cases q : e = 0
  · exact Or.inl q
  · obtain ⟨f, f1, f2⟩ := h10 q
    rw [f2, nI_clamp (by omega)]
    exact Or.inr ⟨f1, rfl⟩
def lvN (D : Nat → Int32) (w t : Nat) : Nat := if wE D w = 0 then t else if t ≤ wS D w then wS D w else wS D w + (t - wS D w + wE D w - 1) / wE D w * wE D w
theorem lvN_le {D : Nat → Int32} {n W w t : Nat} (k : tm_kW D n W) (hn : n ≤ 24) (hw : w < W) : lvN D w t ≤ t + 1098 := by
  obtain ⟨_, _, _, _, _, _, _, h8, h9⟩ := wv k hn hw
  unfold lvN
  by_cases q : wE D w = 0
  · rw [if_pos q]; omega
  · rw [if_neg q]
    have h9 : wS D w ≤ 999 := by rcases h9 with h | h <;> omega
    by_cases q2 : t ≤ wS D w
    · rw [if_pos q2]; omega
    · rw [if_neg q2]
      have := Nat.div_mul_le_self (t - wS D w + wE D w - 1) (wE D w)
      omega
section TMR
variable {d l : Nat} {x : Nat → Int32} {M : tm_M} {D : Nat → Int32} {n W : Nat}
/-- the ways, in the class's rows -/
def tm_hW (M : tm_M) (D : Nat → Int32) : Prop := ∀ w, w < 12 → M 5 w = D (84 + 5 * w) ∧ M 6 w = D (85 + 5 * w) ∧ M 7 w = D (86 + 5 * w) ∧ M 8 w = D (87 + 5 * w) ∧ M 9 w = D (88 + 5 * w)
theorem tm_I_hW {k : Nat} (hI : tm_I k M) : tm_hW M (M 96) := fun w hw => ⟨wA hI (tm_ph_if hw), wA hI (tm_ph_if hw), wA hI (tm_ph_if hw), wA hI (tm_ph_if hw), wA hI (tm_ph_if hw)⟩
theorem m_arrival (hW : tm_hW M D) (k : tm_kW D n W) (hn : n ≤ 24) (hW12 : W ≤ 12) {w t : Nat} (hw : w < W) (ht : t ≤ 200000) : tm_call (d + 1) 49 [.ref 2, .int (nI w), .int (nI t)] (tm_GG l x) M = some (some (.int (nI (lvN D w t + wM D w))), tm_GG l x, M) := by
  obtain ⟨h1, h2, h3, h4, h5, h6, h7, h8, h9⟩ := wv k hn hw
  obtain ⟨g1, g2, g3, g4, g5⟩ := hW w (by omega)
  rw [h3] at g3
  rw [h4] at g5
  have hw12 : w < 12 := by omega
  by_cases q : wE D w = 0
  · have e1 : lvN D w t = t := if_pos q
    simp (disch := first | exact tm_inb_i (by omega) (by omega) | exact tm_cc rfl | exact tm_cat rfl | omega | exact nI_ne0 (by omega) (by omega) | exact nI_ne (by omega) (by omega) (by omega) | assumption) only [n_X5_arrival, n_X5_leaving, e_al0, e_il1, e_il2, r_X5_leaving, g_2_8, g_36_8, e_iadd, e_iret, al_7, al_41, Option.bind_some, Option.toList_some, Option.toList_none, List.cons_append, List.nil_append, z_0, nI_add, pk_mul, pk_sub, pk_div, n_mod, nI_clamp, nI_leI, nI_ltI, nI_eq, le_T, le_F, lt_T, lt_F, eq_T, eq_F, n_i0, n_i1, eq_self, not_true_eq_false, not_false_eq_true, Bool.false_eq_true, ↓reduceIte, if_true, if_false, tm_up_n, tm_up_s, tm_up_i, ite_self, true_and, and_true, false_and, and_false, n_ofN, Nat.reduceAdd, Nat.reduceMul, Nat.reduceSub, Nat.zero_add, g_2_9, g_36_9, e_is3i, e_is3r, e_is3u, g_2_10, g_36_10, e_is4i, e_is4r, e_is4u, e_il4, e_if_ne, e_il3, e_ic_gt, e_isub, e_iconst, e_idiv, e_imul, al_8, al_9, al_42, al_43, kn_1, b_X5_leaving_22, b_X5_leaving_29, g3, g5, e1]
  · obtain ⟨s1, s2⟩ : wS D w ≤ 999 ∧ D (87 + 5 * w) = nI (wS D w) := h9.resolve_left q
    rw [s2] at g4
    by_cases q2 : t ≤ wS D w
    · have e1 : lvN D w t = wS D w := by unfold lvN; rw [if_neg q, if_pos q2]
      simp (disch := first | exact tm_inb_i (by omega) (by omega) | exact tm_cc rfl | exact tm_cat rfl | omega | exact nI_ne0 (by omega) (by omega) | exact nI_ne (by omega) (by omega) (by omega) | assumption) only [n_X5_arrival, n_X5_leaving, e_al0, e_il1, e_il2, r_X5_leaving, g_2_8, g_36_8, e_iadd, e_iret, al_7, al_41, Option.bind_some, Option.toList_some, Option.toList_none, List.cons_append, List.nil_append, z_0, nI_add, pk_mul, pk_sub, pk_div, n_mod, nI_clamp, nI_leI, nI_ltI, nI_eq, le_T, le_F, lt_T, lt_F, eq_T, eq_F, n_i0, n_i1, eq_self, not_true_eq_false, not_false_eq_true, Bool.false_eq_true, ↓reduceIte, if_true, if_false, tm_up_n, tm_up_s, tm_up_i, ite_self, true_and, and_true, false_and, and_false, n_ofN, Nat.reduceAdd, Nat.reduceMul, Nat.reduceSub, Nat.zero_add, g_2_9, g_36_9, e_is3i, e_is3r, e_is3u, g_2_10, g_36_10, e_is4i, e_is4r, e_is4u, e_il4, e_if_ne, e_il3, e_ic_gt, e_isub, e_iconst, e_idiv, e_imul, al_8, al_9, al_42, al_43, kn_1, b_X5_leaving_22, b_X5_leaving_29, g3, g4, g5, e1]
    · have e1 : lvN D w t = wS D w + (t - wS D w + wE D w - 1) / wE D w * wE D w := by unfold lvN; rw [if_neg q, if_neg q2]
      simp (disch := first | exact tm_inb_i (by omega) (by omega) | exact tm_cc rfl | exact tm_cat rfl | omega | exact nI_ne0 (by omega) (by omega) | exact nI_ne (by omega) (by omega) (by omega) | assumption) only [n_X5_arrival, n_X5_leaving, e_al0, e_il1, e_il2, r_X5_leaving, g_2_8, g_36_8, e_iadd, e_iret, al_7, al_41, Option.bind_some, Option.toList_some, Option.toList_none, List.cons_append, List.nil_append, z_0, nI_add, pk_mul, pk_sub, pk_div, n_mod, nI_clamp, nI_leI, nI_ltI, nI_eq, le_T, le_F, lt_T, lt_F, eq_T, eq_F, n_i0, n_i1, eq_self, not_true_eq_false, not_false_eq_true, Bool.false_eq_true, ↓reduceIte, if_true, if_false, tm_up_n, tm_up_s, tm_up_i, ite_self, true_and, and_true, false_and, and_false, n_ofN, Nat.reduceAdd, Nat.reduceMul, Nat.reduceSub, Nat.zero_add, g_2_9, g_36_9, e_is3i, e_is3r, e_is3u, g_2_10, g_36_10, e_is4i, e_is4r, e_is4u, e_il4, e_if_ne, e_il3, e_ic_gt, e_isub, e_iconst, e_idiv, e_imul, al_8, al_9, al_42, al_43, kn_1, b_X5_leaving_22, b_X5_leaving_29, g3, g4, g5, e1]
theorem q_leaves (hM : M 96 = D) (k : tm_kW D n W) (hn : n ≤ 24) (hW12 : W ≤ 12) {w t : Nat} (hw : w < W) (ht : t ≤ 200000) : tm_call (d + 1) 183 [.ref 95, .int (nI w), .int (nI t)] (tm_GG l x) M = some (some (.int (nI (lvN D w t))), tm_GG l x, M) := by
  obtain ⟨h1, h2, h3, h4, h5, h6, h7, h8, h9⟩ := wv k hn hw
  have hw12 : w < 12 := by omega
  have g5 : M 96 (84 + 5 * w + 4) = nI (wE D w) := by rw [hM, show 84 + 5 * w + 4 = 88 + 5 * w by omega]; exact h4
  by_cases q : wE D w = 0
  · have e1 : lvN D w t = t := if_pos q
    simp (disch := first | exact tm_inb_i (by omega) (by omega) | exact tm_cc rfl | exact tm_cat rfl | omega | exact nI_ne0 (by omega) (by omega) | exact nI_ne (by omega) (by omega) (by omega) | assumption) only [n_X12_leaves, e_al0, e_il1, e_iconst, r_X12_wa, e_if_ne, e_il2, e_iret, e_isub, e_is3i, e_is3r, e_is3u, e_il3, e_if_gt, e_goto, e_iadd, e_idiv, e_imul, e_gotow, kn_1, kn_3, kn_4, b_X12_leaves_11, b_X12_leaves_33, b_X12_leaves_64, Option.bind_some, Option.toList_some, Option.toList_none, List.cons_append, List.nil_append, z_0, nI_add, pk_mul, pk_sub, pk_div, n_mod, nI_clamp, nI_leI, nI_ltI, nI_eq, le_T, le_F, lt_T, lt_F, eq_T, eq_F, n_i0, n_i1, eq_self, not_true_eq_false, not_false_eq_true, Bool.false_eq_true, ↓reduceIte, if_true, if_false, tm_up_n, tm_up_s, tm_up_i, ite_self, true_and, and_true, false_and, and_false, n_ofN, Nat.reduceAdd, Nat.reduceMul, Nat.reduceSub, Nat.zero_add, q_wa, g5, e1]
  · obtain ⟨s1, s2⟩ : wS D w ≤ 999 ∧ D (87 + 5 * w) = nI (wS D w) := h9.resolve_left q
    have g4 : M 96 (84 + 5 * w + 3) = nI (wS D w) := by rw [hM, show 84 + 5 * w + 3 = 87 + 5 * w by omega]; exact s2
    by_cases q2 : t ≤ wS D w
    · have e1 : lvN D w t = wS D w := by unfold lvN; rw [if_neg q, if_pos q2]
      have e2 : ¬ nI 0 < nI t - nI (wS D w) := by
        intro z
        have := pk_sub_toInt (a := t) (b := wS D w) (by omega) (by omega)
        rw [Int32.lt_iff_toInt_lt, this, nI_toInt (by decide)] at z
        omega
      simp (disch := first | exact tm_inb_i (by omega) (by omega) | exact tm_cc rfl | exact tm_cat rfl | omega | exact nI_ne0 (by omega) (by omega) | exact nI_ne (by omega) (by omega) (by omega) | assumption) only [n_X12_leaves, e_al0, e_il1, e_iconst, r_X12_wa, e_if_ne, e_il2, e_iret, e_isub, e_is3i, e_is3r, e_is3u, e_il3, e_if_gt, e_goto, e_iadd, e_idiv, e_imul, e_gotow, kn_1, kn_3, kn_4, b_X12_leaves_11, b_X12_leaves_33, b_X12_leaves_64, Option.bind_some, Option.toList_some, Option.toList_none, List.cons_append, List.nil_append, z_0, nI_add, pk_mul, pk_sub, pk_div, n_mod, nI_clamp, nI_leI, nI_ltI, nI_eq, le_T, le_F, lt_T, lt_F, eq_T, eq_F, n_i0, n_i1, eq_self, not_true_eq_false, not_false_eq_true, Bool.false_eq_true, ↓reduceIte, if_true, if_false, tm_up_n, tm_up_s, tm_up_i, ite_self, true_and, and_true, false_and, and_false, n_ofN, Nat.reduceAdd, Nat.reduceMul, Nat.reduceSub, Nat.zero_add, q_wa, g4, g5, e1, e2]
    · have e1 : lvN D w t = wS D w + (t - wS D w + wE D w - 1) / wE D w * wE D w := by unfold lvN; rw [if_neg q, if_neg q2]
      simp (disch := first | exact tm_inb_i (by omega) (by omega) | exact tm_cc rfl | exact tm_cat rfl | omega | exact nI_ne0 (by omega) (by omega) | exact nI_ne (by omega) (by omega) (by omega) | assumption) only [n_X12_leaves, e_al0, e_il1, e_iconst, r_X12_wa, e_if_ne, e_il2, e_iret, e_isub, e_is3i, e_is3r, e_is3u, e_il3, e_if_gt, e_goto, e_iadd, e_idiv, e_imul, e_gotow, kn_1, kn_3, kn_4, b_X12_leaves_11, b_X12_leaves_33, b_X12_leaves_64, Option.bind_some, Option.toList_some, Option.toList_none, List.cons_append, List.nil_append, z_0, nI_add, pk_mul, pk_sub, pk_div, n_mod, nI_clamp, nI_leI, nI_ltI, nI_eq, le_T, le_F, lt_T, lt_F, eq_T, eq_F, n_i0, n_i1, eq_self, not_true_eq_false, not_false_eq_true, Bool.false_eq_true, ↓reduceIte, if_true, if_false, tm_up_n, tm_up_s, tm_up_i, ite_self, true_and, and_true, false_and, and_false, n_ofN, Nat.reduceAdd, Nat.reduceMul, Nat.reduceSub, Nat.zero_add, q_wa, g4, g5, e1]
def mnI (a b : Int32) : Int32 := if b < a then b else a
theorem m_arrive {g m : Nat} {t : Int32} (hg : g ≤ 12) (hm : m ≤ 24) : tm_call d 53 [.ref 2, .int (nI g), .int (nI m), .int t] (tm_GG l x) M = some (none, tm_GG l x, tm_up M 10 (g * 25 + m) (mnI (M 10 (g * 25 + m)) t)) := by
  unfold mnI
  simp (disch := first | exact tm_inb_i (by omega) (by omega) | exact tm_cc rfl | exact tm_cat rfl | omega | exact nI_ne0 (by omega) (by omega) | exact nI_ne (by omega) (by omega) (by omega) | assumption) only [n_X5_arrive, e_il1, e_iconst, e_imul, e_il2, e_iadd, e_is4i, e_is4r, e_is4u, e_al0, g_2_11, g_36_11, e_il4, e_il3, e_mmin, e_vret, al_10, as_10, al_44, as_44, kn_25, Option.bind_some, Option.toList_some, Option.toList_none, List.cons_append, List.nil_append, z_0, nI_add, pk_mul, pk_sub, pk_div, n_mod, nI_clamp, nI_leI, nI_ltI, nI_eq, le_T, le_F, lt_T, lt_F, eq_T, eq_F, n_i0, n_i1, eq_self, not_true_eq_false, not_false_eq_true, Bool.false_eq_true, ↓reduceIte, if_true, if_false, tm_up_n, tm_up_s, tm_up_i, ite_self, true_and, and_true, false_and, and_false, n_ofN, Nat.reduceAdd, Nat.reduceMul, Nat.reduceSub, Nat.zero_add]
/-! the class's loops over its table -/
def cW (D : Nat → Int32) (m k t : Nat) : Nat → Nat → (Nat → Int32) → (Nat → Int32)
  | 0, _, f => f
  | c + 1, w, f => cW D m k t c (w + 1) (if wF D w = m then upd f ((k + 1) * 25 + wT D w) (mnI (f ((k + 1) * 25 + wT D w)) (nI (lvN D w t + wM D w))) else f)
theorem m_gw (k : tm_kW D n W) (hn : n ≤ 24) (hW12 : W ≤ 12) {g m t : Nat} (hg : g < W) (hm : m ≤ 24) (ht : t ≤ 200000) : ∀ (c w : Nat) (M : tm_M), w + c = W → tm_hW M D → M 2 3 = nI W → tm_ev (d + 2) (tm_blk (Int.toNat 520003)) [.ref 2, .int (nI g), .int (nI m), .int (nI t), .int (nI w)] [] (tm_GG l x) M = some (none, tm_GG l x, tm_uc M 10 (cW D m g t c w (M 10))) := by
  intro c
  induction c with
  | zero =>
    intro w M h hW c3
    rw [b_X5_goOnByWays_3]
    unfold cW
    simp (disch := first | exact tm_inb_i (by omega) (by omega) | exact tm_cc rfl | exact tm_cat rfl | omega | exact nI_ne0 (by omega) (by omega) | exact nI_ne (by omega) (by omega) (by omega) | assumption) only [e_iconst, e_is4i, e_is4r, e_is4u, e_gotow, e_il4, e_al0, g_2_3, g_36_3, e_ic_ge, e_il1, g_2_6, g_36_6, e_il2, e_ic_ne, e_iadd, g_2_7, g_36_7, e_il3, r_X5_arrival, r_X5_arrive, e_ii4i, e_ii4r, e_ii4u, e_goto, e_vret, al_5, al_6, al_39, al_40, kn_0, kn_1, b_X5_goOnByWays_52, b_X5_goOnByWays_58, Option.bind_some, Option.toList_some, Option.toList_none, List.cons_append, List.nil_append, z_0, nI_add, pk_mul, pk_sub, pk_div, n_mod, nI_clamp, nI_leI, nI_ltI, nI_eq, le_T, le_F, lt_T, lt_F, eq_T, eq_F, n_i0, n_i1, eq_self, not_true_eq_false, not_false_eq_true, Bool.false_eq_true, ↓reduceIte, if_true, if_false, tm_up_n, tm_up_s, tm_up_i, ite_self, true_and, and_true, false_and, and_false, n_ofN, Nat.reduceAdd, Nat.reduceMul, Nat.reduceSub, Nat.zero_add, c3]
    rw [tm_uc_same _ _ _ rfl]
  | succ c ih =>
    intro w M h hW c3
    have hw : w < W := by omega
    obtain ⟨h1, h2, h3, h4, h5, h6, h7, h8, h9⟩ := wv k hn hw
    obtain ⟨g1, g2, g3, g4, g5⟩ := hW w (by omega)
    rw [h1] at g1
    rw [h2] at g2
    have hup : ∀ (j : Nat) (v : Int32), tm_hW (tm_up M 10 j v) D := fun j v w' hw' => by
      rw [tm_up_n (by decide), tm_up_n (by decide), tm_up_n (by decide), tm_up_n (by decide), tm_up_n (by decide)]
      exact hW w' hw'
    rw [b_X5_goOnByWays_3]
    unfold cW
    by_cases q : wF D w = m
    · have := ih (w + 1) (tm_up M 10 ((g + 1) * 25 + wT D w) (mnI (M 10 ((g + 1) * 25 + wT D w)) (nI (lvN D w t + wM D w)))) (by omega) (hup _ _) (by rw [tm_up_n (by decide)]; exact c3)
      simp (disch := first | exact tm_inb_i (by omega) (by omega) | exact tm_cc rfl | exact tm_cat rfl | omega | exact nI_ne0 (by omega) (by omega) | exact nI_ne (by omega) (by omega) (by omega) | assumption) only [e_iconst, e_is4i, e_is4r, e_is4u, e_gotow, e_il4, e_al0, g_2_3, g_36_3, e_ic_ge, e_il1, g_2_6, g_36_6, e_il2, e_ic_ne, e_iadd, g_2_7, g_36_7, e_il3, r_X5_arrival, r_X5_arrive, e_ii4i, e_ii4r, e_ii4u, e_goto, e_vret, al_5, al_6, al_39, al_40, kn_0, kn_1, b_X5_goOnByWays_52, b_X5_goOnByWays_58, Option.bind_some, Option.toList_some, Option.toList_none, List.cons_append, List.nil_append, z_0, nI_add, pk_mul, pk_sub, pk_div, n_mod, nI_clamp, nI_leI, nI_ltI, nI_eq, le_T, le_F, lt_T, lt_F, eq_T, eq_F, n_i0, n_i1, eq_self, not_true_eq_false, not_false_eq_true, Bool.false_eq_true, ↓reduceIte, if_true, if_false, tm_up_n, tm_up_s, tm_up_i, ite_self, true_and, and_true, false_and, and_false, n_ofN, Nat.reduceAdd, Nat.reduceMul, Nat.reduceSub, Nat.zero_add, c3, g1, g2, m_arrival hW k hn hW12 hw ht, m_arrive, q, this]
      rw [tm_up_at, tm_uc_up]
    · simp (disch := first | exact tm_inb_i (by omega) (by omega) | exact tm_cc rfl | exact tm_cat rfl | omega | exact nI_ne0 (by omega) (by omega) | exact nI_ne (by omega) (by omega) (by omega) | assumption) only [e_iconst, e_is4i, e_is4r, e_is4u, e_gotow, e_il4, e_al0, g_2_3, g_36_3, e_ic_ge, e_il1, g_2_6, g_36_6, e_il2, e_ic_ne, e_iadd, g_2_7, g_36_7, e_il3, r_X5_arrival, r_X5_arrive, e_ii4i, e_ii4r, e_ii4u, e_goto, e_vret, al_5, al_6, al_39, al_40, kn_0, kn_1, b_X5_goOnByWays_52, b_X5_goOnByWays_58, Option.bind_some, Option.toList_some, Option.toList_none, List.cons_append, List.nil_append, z_0, nI_add, pk_mul, pk_sub, pk_div, n_mod, nI_clamp, nI_leI, nI_ltI, nI_eq, le_T, le_F, lt_T, lt_F, eq_T, eq_F, n_i0, n_i1, eq_self, not_true_eq_false, not_false_eq_true, Bool.false_eq_true, ↓reduceIte, if_true, if_false, tm_up_n, tm_up_s, tm_up_i, ite_self, true_and, and_true, false_and, and_false, n_ofN, Nat.reduceAdd, Nat.reduceMul, Nat.reduceSub, Nat.zero_add, c3, g1, q, ih (w + 1) M (by omega) hW c3]
theorem m_gw0 (hW12 : W ≤ 12) {m t : Nat} {v : Int32} (c3 : M 2 3 = nI W) : tm_call (d + 2) 52 [.ref 2, .int (nI W), .int (nI m), .int v] (tm_GG l x) M = some (none, tm_GG l x, M) := by
  by_cases q : 0 < W
  · simp (disch := first | exact tm_inb_i (by omega) (by omega) | exact tm_cc rfl | exact tm_cat rfl | omega | exact nI_ne0 (by omega) (by omega) | exact nI_ne (by omega) (by omega) (by omega) | assumption) only [n_X5_goOnByWays, e_iconst, e_is4i, e_is4r, e_is4u, e_gotow, e_il4, e_al0, g_2_3, g_36_3, e_ic_ge, e_il1, g_2_6, g_36_6, e_il2, e_ic_ne, e_iadd, g_2_7, g_36_7, e_il3, r_X5_arrival, r_X5_arrive, e_ii4i, e_ii4r, e_ii4u, e_goto, e_vret, al_5, al_6, al_39, al_40, kn_0, kn_1, b_X5_goOnByWays_3, b_X5_goOnByWays_52, b_X5_goOnByWays_58, Option.bind_some, Option.toList_some, Option.toList_none, List.cons_append, List.nil_append, z_0, nI_add, pk_mul, pk_sub, pk_div, n_mod, nI_clamp, nI_leI, nI_ltI, nI_eq, le_T, le_F, lt_T, lt_F, eq_T, eq_F, n_i0, n_i1, eq_self, not_true_eq_false, not_false_eq_true, Bool.false_eq_true, ↓reduceIte, if_true, if_false, tm_up_n, tm_up_s, tm_up_i, ite_self, true_and, and_true, false_and, and_false, n_ofN, Nat.reduceAdd, Nat.reduceMul, Nat.reduceSub, Nat.zero_add, c3]
  · simp (disch := first | exact tm_inb_i (by omega) (by omega) | exact tm_cc rfl | exact tm_cat rfl | omega | exact nI_ne0 (by omega) (by omega) | exact nI_ne (by omega) (by omega) (by omega) | assumption) only [n_X5_goOnByWays, e_iconst, e_is4i, e_is4r, e_is4u, e_gotow, e_il4, e_al0, g_2_3, g_36_3, e_ic_ge, e_il1, g_2_6, g_36_6, e_il2, e_ic_ne, e_iadd, g_2_7, g_36_7, e_il3, r_X5_arrival, r_X5_arrive, e_ii4i, e_ii4r, e_ii4u, e_goto, e_vret, al_5, al_6, al_39, al_40, kn_0, kn_1, b_X5_goOnByWays_3, b_X5_goOnByWays_52, b_X5_goOnByWays_58, Option.bind_some, Option.toList_some, Option.toList_none, List.cons_append, List.nil_append, z_0, nI_add, pk_mul, pk_sub, pk_div, n_mod, nI_clamp, nI_leI, nI_ltI, nI_eq, le_T, le_F, lt_T, lt_F, eq_T, eq_F, n_i0, n_i1, eq_self, not_true_eq_false, not_false_eq_true, Bool.false_eq_true, ↓reduceIte, if_true, if_false, tm_up_n, tm_up_s, tm_up_i, ite_self, true_and, and_true, false_and, and_false, n_ofN, Nat.reduceAdd, Nat.reduceMul, Nat.reduceSub, Nat.zero_add, c3]
end TMR
