/-! part 77: the class reads a whole text -/
section TCW
variable {d l : Nat} {x : Nat → Int32} {M : tm_M} {b : Nat → Int32} {z : Nat}
theorem cS_begin {M : tm_M} : tm_up (tm_up (tm_up M 77 5 (nI 0)) 77 1 (nI 0)) 77 2 (-1) = cS M 0 0 (-1) (M 78) := by
  rw [tm_up_uc, tm_up_uc, tm_up_uc, tm_uc_uc, tm_uc_uc, tm_uc_at, tm_uc_at]
  funext k
  unfold cS
  by_cases h8 : k = 78
  · subst h8; rw [tm_uc_at, tm_uc_ne _ _ (by decide)]
  rw [tm_uc_ne _ _ h8]
  refine congrArg (fun f => tm_uc M 77 f k) (funext fun j => ?_)
  by_cases e2 : j = 2
  · subst e2; rw [upd_s]; rfl
  rw [upd_n e2]
  by_cases e1 : j = 1
  · subst e1; rw [upd_s]; rfl
  rw [upd_n e1]
  by_cases e5 : j = 5
  · subst e5; rw [upd_s]; rfl
  rw [upd_n e5, if_neg e1, if_neg e2, if_neg e5]
theorem c_read (H : cH (tm_up M 77 4 (nI z)) b z) (hd : 47 ≤ d) : ∃ M', tm_call d 35 [.ref 77, .int (nI z)] (tm_GG l x) M = some (none, tm_GG l x, M') ∧ (((px_P b z px_F 0 0 (0, false)).2 = (z, false) ∧ M' = cS (tm_up M 77 4 (nI z)) z (px_P b z px_F 0 0 (0, false)).1.length (-1) (cw (M 78) 0 (px_P b z px_F 0 0 (0, false)).1)) ∨ (¬ (px_P b z px_F 0 0 (0, false)).2 = (z, false) ∧ ∃ e c, e ≤ 60 ∧ M' = cS (tm_up M 77 4 (nI z)) (px_P b z px_F 0 0 (0, false)).2.1 e (nI (px_P b z px_F 0 0 (0, false)).2.1) c)) := by
  have hz := H.2.2.2
  obtain ⟨d, rfl⟩ : ∃ d', d = d' + 1 := ⟨d - 1, by omega⟩
  have e78 : tm_up M 77 4 (nI z) 78 = M 78 := tm_up_n (by decide)
  obtain ⟨M1, m1, m2⟩ := (c_all (l := l) (x := x) H z).2 d 0 0 0 0 (M 78) (by decide) (by omega) (Nat.zero_le _) (Nat.le_refl _) (by decide) (by omega)
  have hb := px_b (b := b) px_F 0 0 0 false (by decide) (Nat.zero_le z)
  have hn := px_len (b := b) (z := z) px_F 0 0 0 false (by decide) (Nat.zero_le z)
  generalize hs1 : px_P b z px_F 0 0 (0, false) = s1 at *
  obtain ⟨cc, p1, bd1⟩ := s1
  simp only at hb hn
  have hmin : ¬ 60 < z := by omega
  rcases m2 with ⟨r1, rfl⟩ | ⟨r1, r2⟩
  · simp only [Nat.zero_add] at r1 m1
    subst r1
    have hn := hn rfl
    have e4 : ∀ e F c, cS (tm_up M 77 4 (nI z)) p1 e F c 77 4 = nI z := fun e F c => cS_4.trans H.1
    by_cases a : p1 < z
    · refine ⟨cS (tm_up M 77 4 (nI z)) p1 cc.length (nI p1) (cw (M 78) 0 cc), ?_, Or.inr ⟨(fun y => by cases y; omega), cc.length, _, by omega, rfl⟩⟩
      simp (disch := first | exact tm_inb_i (by omega) (by omega) | exact tm_cc rfl | exact tm_cat rfl | omega | exact nI_ne0 (by omega) (by omega) | exact nI_ne (by omega) (by omega) (by omega) | exact tm_cS (by omega) | assumption) only [n_X4_read, e_al0, e_il1, g_77_3, e_mmin, p_77_4, e_iconst, p_77_5, p_77_1, p_77_2, r_X4_readJoined, g_77_5, g_77_4, e_ic_ge, r_X4_failHere, e_gotow, e_vret, an_33, k_m1, kn_0, b_X4_read_49, Option.bind_some, Option.toList_some, Option.toList_none, List.cons_append, List.nil_append, z_0, nI_add, pk_mul, pk_sub, pk_div, n_mod, nI_clamp, nI_leI, nI_ltI, nI_eq, le_T, le_F, lt_T, lt_F, eq_T, eq_F, n_i0, n_i1, eq_self, not_true_eq_false, not_false_eq_true, Bool.false_eq_true, ↓reduceIte, if_true, if_false, tm_up_n, tm_up_s, tm_up_i, ite_self, true_and, and_true, false_and, and_false, n_ofN, Nat.reduceAdd, Nat.reduceMul, Nat.reduceSub, Nat.zero_add, cS_begin, e78, m1, cS_5, e4, c_fail]
    · obtain rfl : p1 = z := by omega
      refine ⟨cS (tm_up M 77 4 (nI p1)) p1 cc.length (-1) (cw (M 78) 0 cc), ?_, Or.inl ⟨rfl, rfl⟩⟩
      simp (disch := first | exact tm_inb_i (by omega) (by omega) | exact tm_cc rfl | exact tm_cat rfl | omega | exact nI_ne0 (by omega) (by omega) | exact nI_ne (by omega) (by omega) (by omega) | exact tm_cS (by omega) | assumption) only [n_X4_read, e_al0, e_il1, g_77_3, e_mmin, p_77_4, e_iconst, p_77_5, p_77_1, p_77_2, r_X4_readJoined, g_77_5, g_77_4, e_ic_ge, r_X4_failHere, e_gotow, e_vret, an_33, k_m1, kn_0, b_X4_read_49, Option.bind_some, Option.toList_some, Option.toList_none, List.cons_append, List.nil_append, z_0, nI_add, pk_mul, pk_sub, pk_div, n_mod, nI_clamp, nI_leI, nI_ltI, nI_eq, le_T, le_F, lt_T, lt_F, eq_T, eq_F, n_i0, n_i1, eq_self, not_true_eq_false, not_false_eq_true, Bool.false_eq_true, ↓reduceIte, if_true, if_false, tm_up_n, tm_up_s, tm_up_i, ite_self, true_and, and_true, false_and, and_false, n_ofN, Nat.reduceAdd, Nat.reduceMul, Nat.reduceSub, Nat.zero_add, cS_begin, e78, m1, cS_5, e4]
  · simp only at r1 r2
    subst r1
    obtain ⟨e, F, c, he, rfl, hF⟩ := r2
    have e4 : ∀ e F c, cS (tm_up M 77 4 (nI z)) p1 e F c 77 4 = nI z := fun e F c => cS_4.trans H.1
    refine ⟨cS (tm_up M 77 4 (nI z)) p1 e (nI p1) c, ?_, Or.inr ⟨(fun y => by cases y), e, c, he, rfl⟩⟩
    by_cases a : p1 < z
    · rcases hF with rfl | ⟨rfl, hdg⟩
      · simp (disch := first | exact tm_inb_i (by omega) (by omega) | exact tm_cc rfl | exact tm_cat rfl | omega | exact nI_ne0 (by omega) (by omega) | exact nI_ne (by omega) (by omega) (by omega) | exact tm_cS (by omega) | assumption) only [n_X4_read, e_al0, e_il1, g_77_3, e_mmin, p_77_4, e_iconst, p_77_5, p_77_1, p_77_2, r_X4_readJoined, g_77_5, g_77_4, e_ic_ge, r_X4_failHere, e_gotow, e_vret, an_33, k_m1, kn_0, b_X4_read_49, Option.bind_some, Option.toList_some, Option.toList_none, List.cons_append, List.nil_append, z_0, nI_add, pk_mul, pk_sub, pk_div, n_mod, nI_clamp, nI_leI, nI_ltI, nI_eq, le_T, le_F, lt_T, lt_F, eq_T, eq_F, n_i0, n_i1, eq_self, not_true_eq_false, not_false_eq_true, Bool.false_eq_true, ↓reduceIte, if_true, if_false, tm_up_n, tm_up_s, tm_up_i, ite_self, true_and, and_true, false_and, and_false, n_ofN, Nat.reduceAdd, Nat.reduceMul, Nat.reduceSub, Nat.zero_add, cS_begin, e78, m1, cS_5, e4, c_failb (by omega : p1 < 2 ^ 31)]
      · simp (disch := first | exact tm_inb_i (by omega) (by omega) | exact tm_cc rfl | exact tm_cat rfl | omega | exact nI_ne0 (by omega) (by omega) | exact nI_ne (by omega) (by omega) (by omega) | exact tm_cS (by omega) | assumption) only [n_X4_read, e_al0, e_il1, g_77_3, e_mmin, p_77_4, e_iconst, p_77_5, p_77_1, p_77_2, r_X4_readJoined, g_77_5, g_77_4, e_ic_ge, r_X4_failHere, e_gotow, e_vret, an_33, k_m1, kn_0, b_X4_read_49, Option.bind_some, Option.toList_some, Option.toList_none, List.cons_append, List.nil_append, z_0, nI_add, pk_mul, pk_sub, pk_div, n_mod, nI_clamp, nI_leI, nI_ltI, nI_eq, le_T, le_F, lt_T, lt_F, eq_T, eq_F, n_i0, n_i1, eq_self, not_true_eq_false, not_false_eq_true, Bool.false_eq_true, ↓reduceIte, if_true, if_false, tm_up_n, tm_up_s, tm_up_i, ite_self, true_and, and_true, false_and, and_false, n_ofN, Nat.reduceAdd, Nat.reduceMul, Nat.reduceSub, Nat.zero_add, cS_begin, e78, m1, cS_5, e4, c_fail]
    · rcases hF with rfl | ⟨rfl, hdg⟩
      · simp (disch := first | exact tm_inb_i (by omega) (by omega) | exact tm_cc rfl | exact tm_cat rfl | omega | exact nI_ne0 (by omega) (by omega) | exact nI_ne (by omega) (by omega) (by omega) | exact tm_cS (by omega) | assumption) only [n_X4_read, e_al0, e_il1, g_77_3, e_mmin, p_77_4, e_iconst, p_77_5, p_77_1, p_77_2, r_X4_readJoined, g_77_5, g_77_4, e_ic_ge, r_X4_failHere, e_gotow, e_vret, an_33, k_m1, kn_0, b_X4_read_49, Option.bind_some, Option.toList_some, Option.toList_none, List.cons_append, List.nil_append, z_0, nI_add, pk_mul, pk_sub, pk_div, n_mod, nI_clamp, nI_leI, nI_ltI, nI_eq, le_T, le_F, lt_T, lt_F, eq_T, eq_F, n_i0, n_i1, eq_self, not_true_eq_false, not_false_eq_true, Bool.false_eq_true, ↓reduceIte, if_true, if_false, tm_up_n, tm_up_s, tm_up_i, ite_self, true_and, and_true, false_and, and_false, n_ofN, Nat.reduceAdd, Nat.reduceMul, Nat.reduceSub, Nat.zero_add, cS_begin, e78, m1, cS_5, e4]
      · obtain ⟨u, u1, u2, u3⟩ := px_dg_v hdg
        exact absurd (px_at (by omega) u3).2.1 a
end TCW
