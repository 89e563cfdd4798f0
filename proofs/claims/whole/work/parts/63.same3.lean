/-! part 63: pair of calls: same, ended -/
section TSB
variable {d l : Nat} {x : Nat → Int32} {D : Nat → Int32} {r e : Nat}
theorem hC_19 {M : tm_M} {f : Nat → Int32} (h : tm_hC M D) : tm_hC (tm_uc M 19 f) D := by
  obtain ⟨h1, h2, h3⟩ := h
  exact ⟨fun p hp => by rw [tm_uc_ne _ _ (by decide), tm_uc_ne _ _ (by decide)]; exact h1 p hp, fun p hp => by rw [tm_uc_ne _ _ (by decide)]; exact h2 p hp, h3⟩
theorem m_rv1 (hr : r < 12) (he : e ≤ 8) {i : Nat} (hi : i < e) : ∀ (c j b : Nat) (M : tm_M), j + c = e → M 15 r = nI e → M 19 i = nI b → tm_hC M D → tm_ev (d + 1) (tm_blk (Int.toNat 670021)) [.ref 12, .int (nI r), .int (nI i), .int (nI j)] [] (tm_GG l x) M = tm_ev (d + 1) (tm_blk (Int.toNat 670002)) [.ref 12, .int (nI r), .int (nI (i + 1)), .int (nI e)] [] (tm_GG l x) (tm_up M 19 i (nI (rvr D r i c j b))) := by
  intro c
  induction c with
  | zero =>
    intro j b M h e1 e2 hC
    obtain rfl : j = e := by omega
    rw [b_X6_findRivals_21]
    unfold rvr
    simp (disch := first | exact tm_inb_i (by omega) (by omega) | exact tm_cc rfl | exact tm_cat rfl | omega | exact nI_ne0 (by omega) (by omega) | exact nI_ne (by omega) (by omega) (by omega) | exact tm_cS (by omega) | assumption) only [e_iconst, e_is2i, e_is2r, e_is2u, e_gotow, e_il2, e_al0, g_12_3, g_46_3, e_il1, e_ic_ge, g_12_7, g_46_7, e_is3i, e_is3r, e_is3u, e_il3, e_ic_eq, e_imul, e_iadd, r_X6_clash, e_if_eq, e_dup2, e_dup2i, e_ishl, e_ior, e_ii3i, e_ii3r, e_ii3u, e_goto, e_ii2i, e_ii2r, e_ii2u, e_vret, al_15, as_15, al_19, as_19, al_49, as_49, al_53, as_53, kn_0, kn_1, kn_8, b_X6_findRivals_67, b_X6_findRivals_73, b_X6_findRivals_79, Option.bind_some, Option.toList_some, Option.toList_none, List.cons_append, List.nil_append, z_0, nI_add, pk_mul, pk_sub, pk_div, n_mod, nI_clamp, nI_leI, nI_ltI, nI_eq, le_T, le_F, lt_T, lt_F, eq_T, eq_F, n_i0, n_i1, eq_self, not_true_eq_false, not_false_eq_true, Bool.false_eq_true, ↓reduceIte, if_true, if_false, tm_up_n, tm_up_s, tm_up_i, ite_self, true_and, and_true, false_and, and_false, n_ofN, Nat.reduceAdd, Nat.reduceMul, Nat.reduceSub, Nat.zero_add, e1]
    rw [tm_up_same e2]
  | succ c ih =>
    intro j b M h e1 e2 hC
    have hi8 : i < 8 := by omega
    rw [b_X6_findRivals_21]
    unfold rvr
    by_cases q1 : j = i
    · rw [if_neg (fun z => z.1 q1)]
      have := ih (j + 1) b M (by omega) e1 e2 hC
      simp (disch := first | exact tm_inb_i (by omega) (by omega) | exact tm_cc rfl | exact tm_cat rfl | omega | exact nI_ne0 (by omega) (by omega) | exact nI_ne (by omega) (by omega) (by omega) | exact tm_cS (by omega) | assumption) only [e_iconst, e_is2i, e_is2r, e_is2u, e_gotow, e_il2, e_al0, g_12_3, g_46_3, e_il1, e_ic_ge, g_12_7, g_46_7, e_is3i, e_is3r, e_is3u, e_il3, e_ic_eq, e_imul, e_iadd, r_X6_clash, e_if_eq, e_dup2, e_dup2i, e_ishl, e_ior, e_ii3i, e_ii3r, e_ii3u, e_goto, e_ii2i, e_ii2r, e_ii2u, e_vret, al_15, as_15, al_19, as_19, al_49, as_49, al_53, as_53, kn_0, kn_1, kn_8, b_X6_findRivals_67, b_X6_findRivals_73, b_X6_findRivals_79, Option.bind_some, Option.toList_some, Option.toList_none, List.cons_append, List.nil_append, z_0, nI_add, pk_mul, pk_sub, pk_div, n_mod, nI_clamp, nI_leI, nI_ltI, nI_eq, le_T, le_F, lt_T, lt_F, eq_T, eq_F, n_i0, n_i1, eq_self, not_true_eq_false, not_false_eq_true, Bool.false_eq_true, ↓reduceIte, if_true, if_false, tm_up_n, tm_up_s, tm_up_i, ite_self, true_and, and_true, false_and, and_false, n_ofN, Nat.reduceAdd, Nat.reduceMul, Nat.reduceSub, Nat.zero_add, e1, eq_true q1, this]
    · have cc := m_clash (d := d) (l := l) (x := x) hC (p := r * 8 + i) (q := r * 8 + j) (by omega) (by omega)
      by_cases q2 : cl D (r * 8 + i) (r * 8 + j) = true
      · rw [if_pos ⟨q1, q2⟩]
        have := ih (j + 1) (b ||| 2 ^ j) (tm_up M 19 i (nI (b ||| 2 ^ j))) (by omega) (by rw [tm_up_n (by decide)]; exact e1) tm_up_s (hC_19 hC)
        have uu : ∀ v w, tm_up (tm_up M 19 i v) 19 i w = tm_up M 19 i w := fun v w => by
          unfold tm_up
          rw [tm_uc_uc, tm_uc_at]
          congr 1
          funext y
          by_cases e : y = i
          · subst e; rw [upd_s, upd_s]
          · rw [upd_n e, upd_n e, upd_n e]
        rw [uu] at this
        simp (disch := first | exact tm_inb_i (by omega) (by omega) | exact tm_cc rfl | exact tm_cat rfl | omega | exact nI_ne0 (by omega) (by omega) | exact nI_ne (by omega) (by omega) (by omega) | exact tm_cS (by omega) | assumption) only [e_iconst, e_is2i, e_is2r, e_is2u, e_gotow, e_il2, e_al0, g_12_3, g_46_3, e_il1, e_ic_ge, g_12_7, g_46_7, e_is3i, e_is3r, e_is3u, e_il3, e_ic_eq, e_imul, e_iadd, r_X6_clash, e_if_eq, e_dup2, e_dup2i, e_ishl, e_ior, e_ii3i, e_ii3r, e_ii3u, e_goto, e_ii2i, e_ii2r, e_ii2u, e_vret, al_15, as_15, al_19, as_19, al_49, as_49, al_53, as_53, kn_0, kn_1, kn_8, b_X6_findRivals_67, b_X6_findRivals_73, b_X6_findRivals_79, Option.bind_some, Option.toList_some, Option.toList_none, List.cons_append, List.nil_append, z_0, nI_add, pk_mul, pk_sub, pk_div, n_mod, nI_clamp, nI_leI, nI_ltI, nI_eq, le_T, le_F, lt_T, lt_F, eq_T, eq_F, n_i0, n_i1, eq_self, not_true_eq_false, not_false_eq_true, Bool.false_eq_true, ↓reduceIte, if_true, if_false, tm_up_n, tm_up_s, tm_up_i, ite_self, true_and, and_true, false_and, and_false, n_ofN, Nat.reduceAdd, Nat.reduceMul, Nat.reduceSub, Nat.zero_add, e1, e2, q1, cc, q2, n_shl1, n_or, this]
      · rw [if_neg (fun z => q2 z.2)]
        have := ih (j + 1) b M (by omega) e1 e2 hC
        simp (disch := first | exact tm_inb_i (by omega) (by omega) | exact tm_cc rfl | exact tm_cat rfl | omega | exact nI_ne0 (by omega) (by omega) | exact nI_ne (by omega) (by omega) (by omega) | exact tm_cS (by omega) | assumption) only [e_iconst, e_is2i, e_is2r, e_is2u, e_gotow, e_il2, e_al0, g_12_3, g_46_3, e_il1, e_ic_ge, g_12_7, g_46_7, e_is3i, e_is3r, e_is3u, e_il3, e_ic_eq, e_imul, e_iadd, r_X6_clash, e_if_eq, e_dup2, e_dup2i, e_ishl, e_ior, e_ii3i, e_ii3r, e_ii3u, e_goto, e_ii2i, e_ii2r, e_ii2u, e_vret, al_15, as_15, al_19, as_19, al_49, as_49, al_53, as_53, kn_0, kn_1, kn_8, b_X6_findRivals_67, b_X6_findRivals_73, b_X6_findRivals_79, Option.bind_some, Option.toList_some, Option.toList_none, List.cons_append, List.nil_append, z_0, nI_add, pk_mul, pk_sub, pk_div, n_mod, nI_clamp, nI_leI, nI_ltI, nI_eq, le_T, le_F, lt_T, lt_F, eq_T, eq_F, n_i0, n_i1, eq_self, not_true_eq_false, not_false_eq_true, Bool.false_eq_true, ↓reduceIte, if_true, if_false, tm_up_n, tm_up_s, tm_up_i, ite_self, true_and, and_true, false_and, and_false, n_ofN, Nat.reduceAdd, Nat.reduceMul, Nat.reduceSub, Nat.zero_add, e1, q1, cc, q2, this]
theorem m_rv (hr : r < 12) (he : e ≤ 8) : ∀ (c i : Nat) (M : tm_M) (v3 : Value), i + c = e → M 15 r = nI e → tm_hC M D → tm_ev (d + 1) (tm_blk (Int.toNat 670002)) [.ref 12, .int (nI r), .int (nI i), v3] [] (tm_GG l x) M = some (none, tm_GG l x, tm_uc M 19 (tm_tp (fun p => nI (rv D r e p)) 0 i e (M 19))) := by
  intro c
  induction c with
  | zero =>
    intro i M v3 h e1 hC
    obtain rfl : i = e := by omega
    rw [b_X6_findRivals_2]
    simp (disch := first | exact tm_inb_i (by omega) (by omega) | exact tm_cc rfl | exact tm_cat rfl | omega | exact nI_ne0 (by omega) (by omega) | exact nI_ne (by omega) (by omega) (by omega) | exact tm_cS (by omega) | assumption) only [e_iconst, e_is2i, e_is2r, e_is2u, e_gotow, e_il2, e_al0, g_12_3, g_46_3, e_il1, e_ic_ge, g_12_7, g_46_7, e_is3i, e_is3r, e_is3u, e_il3, e_ic_eq, e_imul, e_iadd, r_X6_clash, e_if_eq, e_dup2, e_dup2i, e_ishl, e_ior, e_ii3i, e_ii3r, e_ii3u, e_goto, e_ii2i, e_ii2r, e_ii2u, e_vret, al_15, as_15, al_19, as_19, al_49, as_49, al_53, as_53, kn_0, kn_1, kn_8, b_X6_findRivals_67, b_X6_findRivals_73, b_X6_findRivals_79, Option.bind_some, Option.toList_some, Option.toList_none, List.cons_append, List.nil_append, z_0, nI_add, pk_mul, pk_sub, pk_div, n_mod, nI_clamp, nI_leI, nI_ltI, nI_eq, le_T, le_F, lt_T, lt_F, eq_T, eq_F, n_i0, n_i1, eq_self, not_true_eq_false, not_false_eq_true, Bool.false_eq_true, ↓reduceIte, if_true, if_false, tm_up_n, tm_up_s, tm_up_i, ite_self, true_and, and_true, false_and, and_false, n_ofN, Nat.reduceAdd, Nat.reduceMul, Nat.reduceSub, Nat.zero_add, e1]
    rw [tm_uc_same _ _ _ (by rw [tm_tp_e])]
  | succ c ih =>
    intro i M v3 h e1 hC
    have hi8 : i < 8 := by omega
    have a1 := m_rv1 (d := d) (l := l) (x := x) (D := D) hr he (i := i) (by omega) e 0 0 (tm_up M 19 i (nI 0)) (by omega) (by rw [tm_up_n (by decide)]; exact e1) tm_up_s (hC_19 hC)
    have a2 := ih (i + 1) (tm_up (tm_up M 19 i (nI 0)) 19 i (nI (rvr D r i e 0 0))) (.int (nI e)) (by omega) (by rw [tm_up_n (by decide), tm_up_n (by decide)]; exact e1) (hC_19 (hC_19 hC))
    rw [a2] at a1
    rw [b_X6_findRivals_2]
    simp (disch := first | exact tm_inb_i (by omega) (by omega) | exact tm_cc rfl | exact tm_cat rfl | omega | exact nI_ne0 (by omega) (by omega) | exact nI_ne (by omega) (by omega) (by omega) | exact tm_cS (by omega) | assumption) only [e_iconst, e_is2i, e_is2r, e_is2u, e_gotow, e_il2, e_al0, g_12_3, g_46_3, e_il1, e_ic_ge, g_12_7, g_46_7, e_is3i, e_is3r, e_is3u, e_il3, e_ic_eq, e_imul, e_iadd, r_X6_clash, e_if_eq, e_dup2, e_dup2i, e_ishl, e_ior, e_ii3i, e_ii3r, e_ii3u, e_goto, e_ii2i, e_ii2r, e_ii2u, e_vret, al_15, as_15, al_19, as_19, al_49, as_49, al_53, as_53, kn_0, kn_1, kn_8, b_X6_findRivals_67, b_X6_findRivals_73, b_X6_findRivals_79, Option.bind_some, Option.toList_some, Option.toList_none, List.cons_append, List.nil_append, z_0, nI_add, pk_mul, pk_sub, pk_div, n_mod, nI_clamp, nI_leI, nI_ltI, nI_eq, le_T, le_F, lt_T, lt_F, eq_T, eq_F, n_i0, n_i1, eq_self, not_true_eq_false, not_false_eq_true, Bool.false_eq_true, ↓reduceIte, if_true, if_false, tm_up_n, tm_up_s, tm_up_i, ite_self, true_and, and_true, false_and, and_false, n_ofN, Nat.reduceAdd, Nat.reduceMul, Nat.reduceSub, Nat.zero_add, e1, a1]
    congr 3
    simp only [tm_up_uc, tm_uc_uc, tm_uc_at]
    congr 1
    have := tm_tp_s (g := fun p => nI (rv D r e p)) (f := M 19) (t := 0) (j := i) (n := e) (by omega)
    rw [← this]
    funext y
    unfold tm_tp
    by_cases y1 : 0 + (i + 1) ≤ y ∧ y < 0 + e
    · rw [if_pos y1, if_pos y1]
    · rw [if_neg y1, if_neg y1, Nat.zero_add]
      by_cases e : y = i
      · subst e; rw [upd_s, upd_s]; rfl
      · rw [upd_n e, upd_n e, upd_n e]
theorem m_findRivals (hr : r < 12) (he : e ≤ 8) {M : tm_M} (e1 : M 15 r = nI e) (hC : tm_hC M D) : tm_call (d + 1) 67 [.ref 12, .int (nI r)] (tm_GG l x) M = some (none, tm_GG l x, tm_uc M 19 (tm_tp (fun p => nI (rv D r e p)) 0 0 e (M 19))) := by
  have := m_rv (d := d) (l := l) (x := x) (D := D) hr he e 0 M tm_un (by omega) e1 hC
  simp (disch := first | exact tm_inb_i (by omega) (by omega) | exact tm_cc rfl | exact tm_cat rfl | omega | exact nI_ne0 (by omega) (by omega) | exact nI_ne (by omega) (by omega) (by omega) | exact tm_cS (by omega) | assumption) only [n_X6_findRivals, e_iconst, e_is2i, e_is2r, e_is2u, e_gotow, e_il2, e_al0, g_12_3, g_46_3, e_il1, e_ic_ge, g_12_7, g_46_7, e_is3i, e_is3r, e_is3u, e_il3, e_ic_eq, e_imul, e_iadd, r_X6_clash, e_if_eq, e_dup2, e_dup2i, e_ishl, e_ior, e_ii3i, e_ii3r, e_ii3u, e_goto, e_ii2i, e_ii2r, e_ii2u, e_vret, al_15, as_15, al_19, as_19, al_49, as_49, al_53, as_53, kn_0, kn_1, kn_8, b_X6_findRivals_21, b_X6_findRivals_67, b_X6_findRivals_73, b_X6_findRivals_79, Option.bind_some, Option.toList_some, Option.toList_none, List.cons_append, List.nil_append, z_0, nI_add, pk_mul, pk_sub, pk_div, n_mod, nI_clamp, nI_leI, nI_ltI, nI_eq, le_T, le_F, lt_T, lt_F, eq_T, eq_F, n_i0, n_i1, eq_self, not_true_eq_false, not_false_eq_true, Bool.false_eq_true, ↓reduceIte, if_true, if_false, tm_up_n, tm_up_s, tm_up_i, ite_self, true_and, and_true, false_and, and_false, n_ofN, Nat.reduceAdd, Nat.reduceMul, Nat.reduceSub, Nat.zero_add, this]
theorem m_cO (hr : r < 12) (he : e ≤ 8) {M : tm_M} (e1 : M 15 r = nI e) (hv : ∀ p, p < e → M 19 p = nI (rv D r e p)) : ∀ (c i s : Nat), i + c = e → tm_ev (d + 1) (tm_blk (Int.toNat 640009)) [.ref 12, .int (nI r), .int (nI s), .int (nI i)] [] (tm_GG l x) M = some (some (.int (nI (sC D r e c i s))), tm_GG l x, M) := by
  intro c
  induction c with
  | zero =>
    intro i s h
    rw [b_X6_clashesOf_9]
    unfold sC
    simp (disch := first | exact tm_inb_i (by omega) (by omega) | exact tm_cc rfl | exact tm_cat rfl | omega | exact nI_ne0 (by omega) (by omega) | exact nI_ne (by omega) (by omega) (by omega) | exact tm_cS (by omega) | assumption) only [e_al0, e_il1, r_X6_findRivals, e_iconst, e_is2i, e_is2r, e_is2u, e_is3i, e_is3r, e_is3u, e_gotow, e_il3, g_12_3, g_46_3, e_ic_ge, e_il2, g_12_7, g_46_7, e_ishr, r_J6_bitCount_0f7a4, e_iadd, e_ii3i, e_ii3r, e_ii3u, e_goto, e_iret, al_15, al_19, al_49, al_53, kn_0, kn_1, b_X6_clashesOf_39, Option.bind_some, Option.toList_some, Option.toList_none, List.cons_append, List.nil_append, z_0, nI_add, pk_mul, pk_sub, pk_div, n_mod, nI_clamp, nI_leI, nI_ltI, nI_eq, le_T, le_F, lt_T, lt_F, eq_T, eq_F, n_i0, n_i1, eq_self, not_true_eq_false, not_false_eq_true, Bool.false_eq_true, ↓reduceIte, if_true, if_false, tm_up_n, tm_up_s, tm_up_i, ite_self, true_and, and_true, false_and, and_false, n_ofN, Nat.reduceAdd, Nat.reduceMul, Nat.reduceSub, Nat.zero_add, e1]
  | succ c ih =>
    intro i s h
    have hi8 : i < 8 := by omega
    have h1 := rv_lt (D := D) (r := r) (i := i) he
    have h2 : rv D r e i / 2 ^ i ≤ rv D r e i := Nat.div_le_self _ _
    rw [b_X6_clashesOf_9]
    unfold sC
    simp (disch := first | exact tm_inb_i (by omega) (by omega) | exact tm_cc rfl | exact tm_cat rfl | omega | exact nI_ne0 (by omega) (by omega) | exact nI_ne (by omega) (by omega) (by omega) | exact tm_cS (by omega) | assumption) only [e_al0, e_il1, r_X6_findRivals, e_iconst, e_is2i, e_is2r, e_is2u, e_is3i, e_is3r, e_is3u, e_gotow, e_il3, g_12_3, g_46_3, e_ic_ge, e_il2, g_12_7, g_46_7, e_ishr, r_J6_bitCount_0f7a4, e_iadd, e_ii3i, e_ii3r, e_ii3u, e_goto, e_iret, al_15, al_19, al_49, al_53, kn_0, kn_1, b_X6_clashesOf_39, Option.bind_some, Option.toList_some, Option.toList_none, List.cons_append, List.nil_append, z_0, nI_add, pk_mul, pk_sub, pk_div, n_mod, nI_clamp, nI_leI, nI_ltI, nI_eq, le_T, le_F, lt_T, lt_F, eq_T, eq_F, n_i0, n_i1, eq_self, not_true_eq_false, not_false_eq_true, Bool.false_eq_true, ↓reduceIte, if_true, if_false, tm_up_n, tm_up_s, tm_up_i, ite_self, true_and, and_true, false_and, and_false, n_ofN, Nat.reduceAdd, Nat.reduceMul, Nat.reduceSub, Nat.zero_add, e1, hv i (by omega), n_shr, m_bitCount, ih (i + 1) _ (by omega)]
theorem fre_t {ch c i : Nat} (h : ¬ (ch.testBit i = true ∧ ¬ rv D r e i &&& ch = 0)) : fre D r e ch (c + 1) i = fre D r e ch c (i + 1) := if_neg h
theorem fre_f {ch c i : Nat} (h : ch.testBit i = true ∧ ¬ rv D r e i &&& ch = 0) : fre D r e ch (c + 1) i = false := if_pos h
theorem m_cf (hr : r < 12) (he : e ≤ 8) {M : tm_M} {ch : Nat} (hch : ch < 256) (hv : ∀ p, p < e → M 19 p = nI (rv D r e p)) : ∀ (c i : Nat), i + c = e → tm_ev d (tm_blk (Int.toNat 660002)) [.ref 12, .int (nI ch), .int (nI e), .int (nI i)] [] (tm_GG l x) M = some (some (.int (if fre D r e ch c i = true then nI 1 else nI 0)), tm_GG l x, M) := by
  intro c
  induction c with
  | zero =>
    intro i h
    rw [b_X6_isClashFree_2]
    unfold fre
    simp (disch := first | exact tm_inb_i (by omega) (by omega) | exact tm_cc rfl | exact tm_cat rfl | omega | exact nI_ne0 (by omega) (by omega) | exact nI_ne (by omega) (by omega) (by omega) | exact tm_cS (by omega) | assumption) only [e_iconst, e_is3i, e_is3r, e_is3u, e_gotow, e_il3, e_il2, e_ic_ge, e_il1, e_ishr, e_iand, e_ic_ne, e_al0, g_12_7, g_46_7, e_if_eq, en_zret0, en_zret1, en_zretb, e_ii3i, e_ii3r, e_ii3u, e_goto, al_19, al_53, kn_0, kn_1, b_X6_isClashFree_29, b_X6_isClashFree_35, Option.bind_some, Option.toList_some, Option.toList_none, List.cons_append, List.nil_append, z_0, nI_add, pk_mul, pk_sub, pk_div, n_mod, nI_clamp, nI_leI, nI_ltI, nI_eq, le_T, le_F, lt_T, lt_F, eq_T, eq_F, n_i0, n_i1, eq_self, not_true_eq_false, not_false_eq_true, Bool.false_eq_true, ↓reduceIte, if_true, if_false, tm_up_n, tm_up_s, tm_up_i, ite_self, true_and, and_true, false_and, and_false, n_ofN, Nat.reduceAdd, Nat.reduceMul, Nat.reduceSub, Nat.zero_add]
  | succ c ih =>
    intro i h
    have hi8 : i < 8 := by omega
    have h1 := rv_lt (D := D) (r := r) (i := i) he
    have h2 : rv D r e i &&& ch ≤ rv D r e i := Nat.and_le_left
    rw [b_X6_isClashFree_2]
    by_cases q1 : ch.testBit i = true
    · by_cases q2 : rv D r e i &&& ch = 0
      · rw [fre_t (fun z => z.2 q2)]
        simp (disch := first | exact tm_inb_i (by omega) (by omega) | exact tm_cc rfl | exact tm_cat rfl | omega | exact nI_ne0 (by omega) (by omega) | exact nI_ne (by omega) (by omega) (by omega) | exact tm_cS (by omega) | assumption) only [e_iconst, e_is3i, e_is3r, e_is3u, e_gotow, e_il3, e_il2, e_ic_ge, e_il1, e_ishr, e_iand, e_ic_ne, e_al0, g_12_7, g_46_7, e_if_eq, en_zret0, en_zret1, en_zretb, e_ii3i, e_ii3r, e_ii3u, e_goto, al_19, al_53, kn_0, kn_1, b_X6_isClashFree_29, b_X6_isClashFree_35, Option.bind_some, Option.toList_some, Option.toList_none, List.cons_append, List.nil_append, z_0, nI_add, pk_mul, pk_sub, pk_div, n_mod, nI_clamp, nI_leI, nI_ltI, nI_eq, le_T, le_F, lt_T, lt_F, eq_T, eq_F, n_i0, n_i1, eq_self, not_true_eq_false, not_false_eq_true, Bool.false_eq_true, ↓reduceIte, if_true, if_false, tm_up_n, tm_up_s, tm_up_i, ite_self, true_and, and_true, false_and, and_false, n_ofN, Nat.reduceAdd, Nat.reduceMul, Nat.reduceSub, Nat.zero_add, n_bit, q1, hv i (by omega), n_and, q2, ih (i + 1) (by omega)]
      · rw [fre_f ⟨q1, q2⟩]
        simp (disch := first | exact tm_inb_i (by omega) (by omega) | exact tm_cc rfl | exact tm_cat rfl | omega | exact nI_ne0 (by omega) (by omega) | exact nI_ne (by omega) (by omega) (by omega) | exact tm_cS (by omega) | assumption) only [e_iconst, e_is3i, e_is3r, e_is3u, e_gotow, e_il3, e_il2, e_ic_ge, e_il1, e_ishr, e_iand, e_ic_ne, e_al0, g_12_7, g_46_7, e_if_eq, en_zret0, en_zret1, en_zretb, e_ii3i, e_ii3r, e_ii3u, e_goto, al_19, al_53, kn_0, kn_1, b_X6_isClashFree_29, b_X6_isClashFree_35, Option.bind_some, Option.toList_some, Option.toList_none, List.cons_append, List.nil_append, z_0, nI_add, pk_mul, pk_sub, pk_div, n_mod, nI_clamp, nI_leI, nI_ltI, nI_eq, le_T, le_F, lt_T, lt_F, eq_T, eq_F, n_i0, n_i1, eq_self, not_true_eq_false, not_false_eq_true, Bool.false_eq_true, ↓reduceIte, if_true, if_false, tm_up_n, tm_up_s, tm_up_i, ite_self, true_and, and_true, false_and, and_false, n_ofN, Nat.reduceAdd, Nat.reduceMul, Nat.reduceSub, Nat.zero_add, n_bit, q1, hv i (by omega), n_and, q2]
    · rw [fre_t (fun z => q1 z.1)]
      simp (disch := first | exact tm_inb_i (by omega) (by omega) | exact tm_cc rfl | exact tm_cat rfl | omega | exact nI_ne0 (by omega) (by omega) | exact nI_ne (by omega) (by omega) (by omega) | exact tm_cS (by omega) | assumption) only [e_iconst, e_is3i, e_is3r, e_is3u, e_gotow, e_il3, e_il2, e_ic_ge, e_il1, e_ishr, e_iand, e_ic_ne, e_al0, g_12_7, g_46_7, e_if_eq, en_zret0, en_zret1, en_zretb, e_ii3i, e_ii3r, e_ii3u, e_goto, al_19, al_53, kn_0, kn_1, b_X6_isClashFree_29, b_X6_isClashFree_35, Option.bind_some, Option.toList_some, Option.toList_none, List.cons_append, List.nil_append, z_0, nI_add, pk_mul, pk_sub, pk_div, n_mod, nI_clamp, nI_leI, nI_ltI, nI_eq, le_T, le_F, lt_T, lt_F, eq_T, eq_F, n_i0, n_i1, eq_self, not_true_eq_false, not_false_eq_true, Bool.false_eq_true, ↓reduceIte, if_true, if_false, tm_up_n, tm_up_s, tm_up_i, ite_self, true_and, and_true, false_and, and_false, n_ofN, Nat.reduceAdd, Nat.reduceMul, Nat.reduceSub, Nat.zero_add, n_bit, q1, ih (i + 1) (by omega)]
theorem m_mw (hr : r < 12) (he : e ≤ 8) {M : tm_M} (e1 : M 15 r = nI e) (hv : ∀ p, p < e → M 19 p = nI (rv D r e p)) : ∀ (c ch m : Nat), ch + c = 2 ^ e → m ≤ 8 → tm_ev (d + 1) (tm_blk (Int.toNat 650009)) [.ref 12, .int (nI r), .int (nI m), .int (nI ch)] [] (tm_GG l x) M = some (some (.int (nI (mw D r e c ch m))), tm_GG l x, M) := by
  have h256 : 2 ^ e ≤ 2 ^ 8 := Nat.pow_le_pow_right (by decide) he
  have h0 : 0 < 2 ^ e := Nat.two_pow_pos e
  intro c
  induction c with
  | zero =>
    intro ch m h hm
    rw [b_X6_mostWithoutClash_9]
    unfold mw
    simp (disch := first | exact tm_inb_i (by omega) (by omega) | exact tm_cc rfl | exact tm_cat rfl | omega | exact nI_ne0 (by omega) (by omega) | exact nI_ne (by omega) (by omega) (by omega) | exact tm_cS (by omega) | assumption) only [e_al0, e_il1, r_X6_findRivals, e_iconst, e_is2i, e_is2r, e_is2u, e_is3i, e_is3r, e_is3u, e_gotow, e_il3, g_12_3, g_46_3, e_ishl, e_ic_ge, r_J6_bitCount_0f7a4, e_il2, e_ic_le, r_X6_isClashFree, e_if_eq, e_ii3i, e_ii3r, e_ii3u, e_goto, e_iret, al_15, al_49, kn_0, kn_1, b_X6_mostWithoutClash_48, b_X6_mostWithoutClash_54, Option.bind_some, Option.toList_some, Option.toList_none, List.cons_append, List.nil_append, z_0, nI_add, pk_mul, pk_sub, pk_div, n_mod, nI_clamp, nI_leI, nI_ltI, nI_eq, le_T, le_F, lt_T, lt_F, eq_T, eq_F, n_i0, n_i1, eq_self, not_true_eq_false, not_false_eq_true, Bool.false_eq_true, ↓reduceIte, if_true, if_false, tm_up_n, tm_up_s, tm_up_i, ite_self, true_and, and_true, false_and, and_false, n_ofN, Nat.reduceAdd, Nat.reduceMul, Nat.reduceSub, Nat.zero_add, e1, n_shl1]
  | succ c ih =>
    intro ch m h hm
    have hp : pcn ch 25 = pcn ch e := pcn_z 25 e (by omega) (by omega)
    have hpl := pcn_le ch e
    have cf := m_cf (d := d) (l := l) (x := x) hr he (M := M) (ch := ch) (by omega) hv e 0 (by omega)
    have cf' : tm_call d 66 [.ref 12, .int (nI ch), .int (nI e)] (tm_GG l x) M = some (some (.int (if fre D r e ch e 0 = true then nI 1 else nI 0)), tm_GG l x, M) := by
      simp (disch := first | exact tm_inb_i (by omega) (by omega) | exact tm_cc rfl | exact tm_cat rfl | omega | exact nI_ne0 (by omega) (by omega) | exact nI_ne (by omega) (by omega) (by omega) | exact tm_cS (by omega) | assumption) only [n_X6_isClashFree, e_iconst, e_is3i, e_is3r, e_is3u, e_gotow, e_il3, e_il2, e_ic_ge, e_il1, e_ishr, e_iand, e_ic_ne, e_al0, g_12_7, g_46_7, e_if_eq, en_zret0, en_zret1, en_zretb, e_ii3i, e_ii3r, e_ii3u, e_goto, al_19, al_53, kn_0, kn_1, b_X6_isClashFree_29, b_X6_isClashFree_35, Option.bind_some, Option.toList_some, Option.toList_none, List.cons_append, List.nil_append, z_0, nI_add, pk_mul, pk_sub, pk_div, n_mod, nI_clamp, nI_leI, nI_ltI, nI_eq, le_T, le_F, lt_T, lt_F, eq_T, eq_F, n_i0, n_i1, eq_self, not_true_eq_false, not_false_eq_true, Bool.false_eq_true, ↓reduceIte, if_true, if_false, tm_up_n, tm_up_s, tm_up_i, ite_self, true_and, and_true, false_and, and_false, n_ofN, Nat.reduceAdd, Nat.reduceMul, Nat.reduceSub, Nat.zero_add, cf]
    have fb := fre_bad (D := D) (r := r) (e := e) (ch := ch) (by omega)
    rw [b_X6_mostWithoutClash_9]
    unfold mw
    by_cases q1 : m < pcn ch e
    · by_cases q2 : fre D r e ch e 0 = true
      · rw [if_pos ⟨fb.mp q2, q1⟩]
        simp (disch := first | exact tm_inb_i (by omega) (by omega) | exact tm_cc rfl | exact tm_cat rfl | omega | exact nI_ne0 (by omega) (by omega) | exact nI_ne (by omega) (by omega) (by omega) | exact tm_cS (by omega) | assumption) only [e_al0, e_il1, r_X6_findRivals, e_iconst, e_is2i, e_is2r, e_is2u, e_is3i, e_is3r, e_is3u, e_gotow, e_il3, g_12_3, g_46_3, e_ishl, e_ic_ge, r_J6_bitCount_0f7a4, e_il2, e_ic_le, r_X6_isClashFree, e_if_eq, e_ii3i, e_ii3r, e_ii3u, e_goto, e_iret, al_15, al_49, kn_0, kn_1, b_X6_mostWithoutClash_48, b_X6_mostWithoutClash_54, Option.bind_some, Option.toList_some, Option.toList_none, List.cons_append, List.nil_append, z_0, nI_add, pk_mul, pk_sub, pk_div, n_mod, nI_clamp, nI_leI, nI_ltI, nI_eq, le_T, le_F, lt_T, lt_F, eq_T, eq_F, n_i0, n_i1, eq_self, not_true_eq_false, not_false_eq_true, Bool.false_eq_true, ↓reduceIte, if_true, if_false, tm_up_n, tm_up_s, tm_up_i, ite_self, true_and, and_true, false_and, and_false, n_ofN, Nat.reduceAdd, Nat.reduceMul, Nat.reduceSub, Nat.zero_add, e1, n_shl1, m_bitCount, hp, cf', q2, ih (ch + 1) _ (by omega) (by omega : pcn ch e ≤ 8)]
      · rw [if_neg (fun z => q2 (fb.mpr z.1))]
        simp (disch := first | exact tm_inb_i (by omega) (by omega) | exact tm_cc rfl | exact tm_cat rfl | omega | exact nI_ne0 (by omega) (by omega) | exact nI_ne (by omega) (by omega) (by omega) | exact tm_cS (by omega) | assumption) only [e_al0, e_il1, r_X6_findRivals, e_iconst, e_is2i, e_is2r, e_is2u, e_is3i, e_is3r, e_is3u, e_gotow, e_il3, g_12_3, g_46_3, e_ishl, e_ic_ge, r_J6_bitCount_0f7a4, e_il2, e_ic_le, r_X6_isClashFree, e_if_eq, e_ii3i, e_ii3r, e_ii3u, e_goto, e_iret, al_15, al_49, kn_0, kn_1, b_X6_mostWithoutClash_48, b_X6_mostWithoutClash_54, Option.bind_some, Option.toList_some, Option.toList_none, List.cons_append, List.nil_append, z_0, nI_add, pk_mul, pk_sub, pk_div, n_mod, nI_clamp, nI_leI, nI_ltI, nI_eq, le_T, le_F, lt_T, lt_F, eq_T, eq_F, n_i0, n_i1, eq_self, not_true_eq_false, not_false_eq_true, Bool.false_eq_true, ↓reduceIte, if_true, if_false, tm_up_n, tm_up_s, tm_up_i, ite_self, true_and, and_true, false_and, and_false, n_ofN, Nat.reduceAdd, Nat.reduceMul, Nat.reduceSub, Nat.zero_add, e1, n_shl1, m_bitCount, hp, cf', q2, ih (ch + 1) _ (by omega) hm]
    · rw [if_neg (fun z => q1 z.2)]
      simp (disch := first | exact tm_inb_i (by omega) (by omega) | exact tm_cc rfl | exact tm_cat rfl | omega | exact nI_ne0 (by omega) (by omega) | exact nI_ne (by omega) (by omega) (by omega) | exact tm_cS (by omega) | assumption) only [e_al0, e_il1, r_X6_findRivals, e_iconst, e_is2i, e_is2r, e_is2u, e_is3i, e_is3r, e_is3u, e_gotow, e_il3, g_12_3, g_46_3, e_ishl, e_ic_ge, r_J6_bitCount_0f7a4, e_il2, e_ic_le, r_X6_isClashFree, e_if_eq, e_ii3i, e_ii3r, e_ii3u, e_goto, e_iret, al_15, al_49, kn_0, kn_1, b_X6_mostWithoutClash_48, b_X6_mostWithoutClash_54, Option.bind_some, Option.toList_some, Option.toList_none, List.cons_append, List.nil_append, z_0, nI_add, pk_mul, pk_sub, pk_div, n_mod, nI_clamp, nI_leI, nI_ltI, nI_eq, le_T, le_F, lt_T, lt_F, eq_T, eq_F, n_i0, n_i1, eq_self, not_true_eq_false, not_false_eq_true, Bool.false_eq_true, ↓reduceIte, if_true, if_false, tm_up_n, tm_up_s, tm_up_i, ite_self, true_and, and_true, false_and, and_false, n_ofN, Nat.reduceAdd, Nat.reduceMul, Nat.reduceSub, Nat.zero_add, e1, n_shl1, m_bitCount, hp, ih (ch + 1) _ (by omega) hm]
end TSB
