/-! part 79: the pair text -/
section TTP
variable {l : Nat} {x : Nat → Int32}
theorem m_cpt_28 {d l : Nat} {x : Nat → Int32} {M : tm_M} : tm_call d 152 [.ref 78, .ref 28] (tm_GG l x) M = some (none, tm_GG l x, tm_yc M 78 28 60) := m_copy (by decide) (by decide) rfl rfl (by decide)
theorem m_cpt_31 {d l : Nat} {x : Nat → Int32} {M : tm_M} : tm_call d 152 [.ref 78, .ref 31] (tm_GG l x) M = some (none, tm_GG l x, tm_yc M 78 31 60) := m_copy (by decide) (by decide) rfl rfl (by decide)
theorem m_tCt0 {d l : Nat} {x : Nat → Int32} {M : tm_M} {v : Int32} : tm_call (d + 1) 79 [.ref 27, .ref 78, .int v] (tm_GG l x) M = some (none, tm_GG l x, tm_up (tm_yc M 78 28 60) 27 1 v) := by
  simp (disch := first | exact tm_inb_i (by omega) (by omega) | exact tm_cc rfl | exact tm_cat rfl | omega | exact nI_ne0 (by omega) (by omega) | exact nI_ne (by omega) (by omega) (by omega) | exact tm_cS (by omega) | assumption) only [n_X8_takeCode, e_al1, e_al0, g_27_0, g_30_0, g_61_0, g_64_0, r_X11_copy, e_il2, p_27_1, p_30_1, p_61_1, p_64_1, e_vret, Option.bind_some, Option.toList_some, Option.toList_none, List.cons_append, List.nil_append, z_0, nI_add, pk_mul, pk_sub, pk_div, n_mod, nI_clamp, nI_leI, nI_ltI, nI_eq, le_T, le_F, lt_T, lt_F, eq_T, eq_F, n_i0, n_i1, eq_self, not_true_eq_false, not_false_eq_true, Bool.false_eq_true, ↓reduceIte, if_true, if_false, tm_up_n, tm_up_s, tm_up_i, ite_self, true_and, and_true, false_and, and_false, n_ofN, Nat.reduceAdd, Nat.reduceMul, Nat.reduceSub, Nat.zero_add, m_cpt_28]
theorem m_tCt1 {d l : Nat} {x : Nat → Int32} {M : tm_M} {v : Int32} : tm_call (d + 1) 79 [.ref 30, .ref 78, .int v] (tm_GG l x) M = some (none, tm_GG l x, tm_up (tm_yc M 78 31 60) 30 1 v) := by
  simp (disch := first | exact tm_inb_i (by omega) (by omega) | exact tm_cc rfl | exact tm_cat rfl | omega | exact nI_ne0 (by omega) (by omega) | exact nI_ne (by omega) (by omega) (by omega) | exact tm_cS (by omega) | assumption) only [n_X8_takeCode, e_al1, e_al0, g_27_0, g_30_0, g_61_0, g_64_0, r_X11_copy, e_il2, p_27_1, p_30_1, p_61_1, p_64_1, e_vret, Option.bind_some, Option.toList_some, Option.toList_none, List.cons_append, List.nil_append, z_0, nI_add, pk_mul, pk_sub, pk_div, n_mod, nI_clamp, nI_leI, nI_ltI, nI_eq, le_T, le_F, lt_T, lt_F, eq_T, eq_F, n_i0, n_i1, eq_self, not_true_eq_false, not_false_eq_true, Bool.false_eq_true, ↓reduceIte, if_true, if_false, tm_up_n, tm_up_s, tm_up_i, ite_self, true_and, and_true, false_and, and_false, n_ofN, Nat.reduceAdd, Nat.reduceMul, Nat.reduceSub, Nat.zero_add, m_cpt_31]
theorem pr_text (a1 : Int32) : tm_Pi tm_I l x 117 211 [.int a1] := by
  intro k M hk hI
  obtain ⟨n, X, W, R, G, T, L, hK, c0, _, _, c4, c5, c6, _⟩ := tm_I_n hI
  obtain ⟨k0, k2, k3, k4, k5, ⟨k6, k62⟩, k8, _⟩ := id hK
  rcases rng a1 0 1 (by decide) (by decide) with h | ⟨u, _, hu1, rfl⟩
  · exact tm_fdp hI (by decide : 1 < 6) (by simp (disch := first | exact tm_inb_i (by omega) (by omega) | exact tm_cc rfl | exact tm_cat rfl | omega | exact nI_ne0 (by omega) (by omega) | exact nI_ne (by omega) (by omega) (by omega) | exact tm_cS (by omega) | assumption) only [n_X11_text, e_il1, e_iconst, r_X11_within, e_if_ne, e_al0, r_X11_finding, e_iret, g_0_4, g_0_0, g_1_5, g_35_5, r_X4_read, p_1_5, p_35_5, g_77_2, e_if_lt, e_isub, g_1_3, g_35_3, g_77_0, g_77_1, r_X8_takeCode, arn_26_0, arn_26_1, arn_60_0, arn_60_1, k_m10, kn_0, kn_1, b_X11_text_15, b_X11_text_58, Option.bind_some, Option.toList_some, Option.toList_none, List.cons_append, List.nil_append, z_0, nI_add, pk_mul, pk_sub, pk_div, n_mod, nI_clamp, nI_leI, nI_ltI, nI_eq, le_T, le_F, lt_T, lt_F, eq_T, eq_F, n_i0, n_i1, eq_self, not_true_eq_false, not_false_eq_true, Bool.false_eq_true, ↓reduceIte, if_true, if_false, tm_up_n, tm_up_s, tm_up_i, ite_self, true_and, and_true, false_and, and_false, n_ofN, Nat.reduceAdd, Nat.reduceMul, Nat.reduceSub, Nat.zero_add, m_within, m_finding, h]) (by simp (disch := first | exact tm_inb_i (by omega) (by omega) | exact tm_cc rfl | exact tm_cat rfl | omega | exact nI_ne0 (by omega) (by omega) | exact nI_ne (by omega) (by omega) (by omega) | exact tm_cS (by omega) | assumption) only [n_X12_text, e_il1, e_iconst, r_X12_in, e_if_ne, e_al0, r_X12_finding, e_iret, g_95_0, e_is2i, e_is2r, e_is2u, e_il2, r_X12_reads, e_is3i, e_is3r, e_is3u, g_95_9, e_if_eq, g_95_7, e_isub, e_iadd, e_is4i, e_is4r, e_is4u, e_gotow, e_il4, e_ic_ge, e_imul, e_ii4i, e_ii4r, e_ii4u, e_goto, al_96, as_96, k_m10, kn_0, kn_1, kn_6, kn_60, kn_1076, kn_1078, kn_1198, b_X12_text_15, b_X12_text_55, b_X12_text_108, Option.bind_some, Option.toList_some, Option.toList_none, List.cons_append, List.nil_append, z_0, nI_add, pk_mul, pk_sub, pk_div, n_mod, nI_clamp, nI_leI, nI_ltI, nI_eq, le_T, le_F, lt_T, lt_F, eq_T, eq_F, n_i0, n_i1, eq_self, not_true_eq_false, not_false_eq_true, Bool.false_eq_true, ↓reduceIte, if_true, if_false, tm_up_n, tm_up_s, tm_up_i, ite_self, true_and, and_true, false_and, and_false, n_ofN, Nat.reduceAdd, Nat.reduceMul, Nat.reduceSub, Nat.zero_add, q_in, q_finding, h])
  · have hu : u < 2 := by omega
    have hE := hI.1.2.2.2.2.1
    have Hc : cH (tm_up M 77 4 (nI T)) (fun k => M 96 (1198 + k)) T := by
      refine ⟨tm_up_s, fun k hk => ?_, fun k hk => ?_, k62⟩
      · rw [tm_up_n (by decide)]
        obtain ⟨v, v1, v2, v3⟩ := hE k (by omega)
        exact v3.trans v2.symm
      · obtain ⟨v, v1, v2, v3⟩ := hE k (by omega)
        exact ⟨v, v1, v2⟩
    obtain ⟨Mc, r1, r2⟩ := c_read (d := 998) (l := l) (x := x) Hc (by decide)
    have fc : ∀ c, c ≠ 77 → c ≠ 78 → Mc c = M c := by
      intro c h7 h8
      rcases r2 with ⟨_, rfl⟩ | ⟨_, e, cc, _, rfl⟩
      · rw [cS_c h7 h8, tm_up_n h7]
      · rw [cS_c h7 h8, tm_up_n h7]
    rcases r2 with ⟨g, rfl⟩ | ⟨g, e, cc, he, rfl⟩
    · obtain ⟨code, hcd⟩ : ∃ code, px_P (fun k => M 96 (1198 + k)) T px_F 0 0 (0, false) = (code, T, false) := by
        generalize px_P (fun k => M 96 (1198 + k)) T px_F 0 0 (0, false) = s1 at g ⊢
        obtain ⟨a, b⟩ := s1
        simp only at g
        exact ⟨a, by rw [g]⟩
      rw [hcd] at r1 fc
      simp only at r1 fc
      have hxl : code.length ≤ T := by
        have := px_len (b := fun k => M 96 (1198 + k)) (z := T) px_F 0 0 0 false (by decide) (Nat.zero_le _) (by rw [hcd])
        rw [hcd] at this
        simpa using this
      have cls : ∃ M1, tm_call 999 117 [.ref 0, .int (nI u)] (tm_GG l x) M = some (some (.int (nI 1)), tm_GG l x, M1) ∧ M1 (27 + 3 * u) 1 = nI code.length ∧ (∀ i, i < 60 → M1 (28 + 3 * u) i = cw (M 78) 0 code i) ∧ M1 1 = upd (M 1) 5 (nI 0) ∧ ∀ c, c ≠ 77 → c ≠ 78 → c ≠ 1 → c ≠ 27 + 3 * u → c ≠ 28 + 3 * u → M1 c = M c := by
        have e2 : tm_up (cS (tm_up M 77 4 (nI T)) T code.length (-1) (cw (M 78) 0 code)) 1 5 (nI 0) 77 2 = -1 := by rw [tm_up_n (by decide)]; exact cS_2
        have e1 : tm_up (cS (tm_up M 77 4 (nI T)) T code.length (-1) (cw (M 78) 0 code)) 1 5 (nI 0) 77 1 = nI code.length := by rw [tm_up_n (by decide)]; exact cS_1
        have e8 : tm_up (cS (tm_up M 77 4 (nI T)) T code.length (-1) (cw (M 78) 0 code)) 1 5 (nI 0) 78 = cw (M 78) 0 code := by rw [tm_up_n (by decide)]; exact cS_78
        have eo : tm_up (cS (tm_up M 77 4 (nI T)) T code.length (-1) (cw (M 78) 0 code)) 1 5 (nI 0) 1 = upd (M 1) 5 (nI 0) := by rw [tm_up_at, fc 1 (by decide) (by decide)]
        rcases (by omega : u = 0 ∨ u = 1) with rfl | rfl
        · refine ⟨tm_up (tm_yc (tm_up (cS (tm_up M 77 4 (nI T)) T code.length (-1) (cw (M 78) 0 code)) 1 5 (nI 0)) 78 28 60) 27 1 (nI code.length), ?_, tm_up_s, fun i hi => ?_, ?_, fun c h1 h2 h3 h4 h5 => ?_⟩
          · simp (disch := first | exact tm_inb_i (by omega) (by omega) | exact tm_cc rfl | exact tm_cat rfl | omega | exact nI_ne0 (by omega) (by omega) | exact nI_ne (by omega) (by omega) (by omega) | exact tm_cS (by omega) | assumption) only [n_X11_text, e_il1, e_iconst, r_X11_within, e_if_ne, e_al0, r_X11_finding, e_iret, g_0_4, g_0_0, g_1_5, g_35_5, r_X4_read, p_1_5, p_35_5, g_77_2, e_if_lt, e_isub, g_1_3, g_35_3, g_77_0, g_77_1, r_X8_takeCode, arn_26_0, arn_26_1, arn_60_0, arn_60_1, k_m10, kn_0, kn_1, b_X11_text_15, b_X11_text_58, Option.bind_some, Option.toList_some, Option.toList_none, List.cons_append, List.nil_append, z_0, nI_add, pk_mul, pk_sub, pk_div, n_mod, nI_clamp, nI_leI, nI_ltI, nI_eq, le_T, le_F, lt_T, lt_F, eq_T, eq_F, n_i0, n_i1, eq_self, not_true_eq_false, not_false_eq_true, Bool.false_eq_true, ↓reduceIte, if_true, if_false, tm_up_n, tm_up_s, tm_up_i, ite_self, true_and, and_true, false_and, and_false, n_ofN, Nat.reduceAdd, Nat.reduceMul, Nat.reduceSub, Nat.zero_add, m_within, c6, r1, e2, e1, m1_lt, m_tCt0]
          · rw [tm_up_n (by decide), tm_yc_s hi, e8]
          · rw [tm_up_n (by decide), tm_yc_n (by decide), eo]
          · rw [tm_up_n h4, tm_yc_n h5, tm_up_n h3, fc c h1 h2]
        · refine ⟨tm_up (tm_yc (tm_up (cS (tm_up M 77 4 (nI T)) T code.length (-1) (cw (M 78) 0 code)) 1 5 (nI 0)) 78 31 60) 30 1 (nI code.length), ?_, tm_up_s, fun i hi => ?_, ?_, fun c h1 h2 h3 h4 h5 => ?_⟩
          · simp (disch := first | exact tm_inb_i (by omega) (by omega) | exact tm_cc rfl | exact tm_cat rfl | omega | exact nI_ne0 (by omega) (by omega) | exact nI_ne (by omega) (by omega) (by omega) | exact tm_cS (by omega) | assumption) only [n_X11_text, e_il1, e_iconst, r_X11_within, e_if_ne, e_al0, r_X11_finding, e_iret, g_0_4, g_0_0, g_1_5, g_35_5, r_X4_read, p_1_5, p_35_5, g_77_2, e_if_lt, e_isub, g_1_3, g_35_3, g_77_0, g_77_1, r_X8_takeCode, arn_26_0, arn_26_1, arn_60_0, arn_60_1, k_m10, kn_0, kn_1, b_X11_text_15, b_X11_text_58, Option.bind_some, Option.toList_some, Option.toList_none, List.cons_append, List.nil_append, z_0, nI_add, pk_mul, pk_sub, pk_div, n_mod, nI_clamp, nI_leI, nI_ltI, nI_eq, le_T, le_F, lt_T, lt_F, eq_T, eq_F, n_i0, n_i1, eq_self, not_true_eq_false, not_false_eq_true, Bool.false_eq_true, ↓reduceIte, if_true, if_false, tm_up_n, tm_up_s, tm_up_i, ite_self, true_and, and_true, false_and, and_false, n_ofN, Nat.reduceAdd, Nat.reduceMul, Nat.reduceSub, Nat.zero_add, m_within, c6, r1, e2, e1, m1_lt, m_tCt1]
          · rw [tm_up_n (by decide), tm_yc_s hi, e8]
          · rw [tm_up_n (by decide), tm_yc_n (by decide), eo]
          · rw [tm_up_n h4, tm_yc_n h5, tm_up_n h3, fc c h1 h2]
      obtain ⟨M1, s1, s2, s3, s4, s5⟩ := cls
      have f96 : M1 96 = M 96 := s5 96 (by decide) (by decide) (by decide) (by omega) (by omega)
      have Hr : pH (tm_up (tm_up (tm_up M1 96 6 (nI 0)) 95 5 (nI 1198)) 95 6 (nI T)) (fun k => M 96 (1198 + k)) T 1198 := by
        refine ⟨by rw [tm_up_i (by decide), tm_up_s], tm_up_s, fun k hk => ?_, Hc.2.2.1, k62, by decide, fun i hi => ?_⟩
        · rw [tm_up_n (by decide), tm_up_n (by decide), tm_up_i (by omega), f96]
        · rw [tm_up_n (by decide), tm_up_n (by decide), tm_up_n (by decide), s5 100 (by decide) (by decide) (by decide) (by omega) (by omega)]
          exact hI.2.2.2.2.2.2 i hi
      obtain ⟨v, q1, q2, q3⟩ := q_reads (d := 998) (l := l) (x := x) Hr (by decide)
      rw [hcd] at q1 q2
      simp only [ne_eq, not_true_eq_false, decide_false] at q1 q2
      have hne : 0 < code.length := by
        cases code with
        | nil => exact absurd (q2 []) (by simp [xe])
        | cons a as => simp
      have e6 : M1 96 6 = nI T := by rw [f96]; exact k6
      have fm : ∀ k, k < T → tm_up (pS (tm_up (tm_up (tm_up M1 96 6 (nI 0)) 95 5 (nI 1198)) 95 6 (nI T)) T 0 false) 96 (1076 + u) (nI T) 96 (1198 + k) = (fun k => M 96 (1198 + k)) k := by
        intro k hk
        rw [tm_up_i (by omega), pS_c (by decide), tm_up_n (by decide), tm_up_n (by decide), tm_up_i (by omega), f96]
      have qx := q_tx (d := 999) (l := l) (x := x) (v3 := v) hu k62 T 0 (tm_up (pS (tm_up (tm_up (tm_up M1 96 6 (nI 0)) 95 5 (nI 1198)) 95 6 (nI T)) T 0 false) 96 (1076 + u) (nI T)) (by omega) fm
      have hD : tm_uc (tm_up (pS (tm_up (tm_up (tm_up M1 96 6 (nI 0)) 95 5 (nI 1198)) 95 6 (nI T)) T 0 false) 96 (1076 + u) (nI T)) 96 (tm_tp (fun k => M 96 (1198 + k)) (1078 + 60 * u) 0 T (tm_up (pS (tm_up (tm_up (tm_up M1 96 6 (nI 0)) 95 5 (nI 1198)) 95 6 (nI T)) T 0 false) 96 (1076 + u) (nI T) 96)) 96 = tm_tp (fun k => M 96 (1198 + k)) (1078 + 60 * u) 0 T (upd (upd (M 96) 6 (nI 0)) (1076 + u) (nI T)) := by
        rw [tm_uc_at, tm_up_at, pS_c (by decide), tm_up_n (by decide), tm_up_n (by decide), tm_up_at, f96]
      refine ⟨nI 1, M1, tm_uc (tm_up (pS (tm_up (tm_up (tm_up M1 96 6 (nI 0)) 95 5 (nI 1198)) 95 6 (nI T)) T 0 false) 96 (1076 + u) (nI T)) 96 (tm_tp (fun k => M 96 (1198 + k)) (1078 + 60 * u) 0 T (tm_up (pS (tm_up (tm_up (tm_up M1 96 6 (nI 0)) 95 5 (nI 1198)) 95 6 (nI T)) T 0 false) 96 (1076 + u) (nI T) 96)), s1, ?_, ?_⟩
      · rcases (by omega : u = 0 ∨ u = 1) with rfl | rfl
        · simp (disch := first | exact tm_inb_i (by omega) (by omega) | exact tm_cc rfl | exact tm_cat rfl | omega | exact nI_ne0 (by omega) (by omega) | exact nI_ne (by omega) (by omega) (by omega) | exact tm_cS (by omega) | assumption) only [n_X12_text, e_il1, e_iconst, r_X12_in, e_if_ne, e_al0, r_X12_finding, e_iret, g_95_0, e_is2i, e_is2r, e_is2u, e_il2, r_X12_reads, e_is3i, e_is3r, e_is3u, g_95_9, e_if_eq, g_95_7, e_isub, e_iadd, e_is4i, e_is4r, e_is4u, e_gotow, e_il4, e_ic_ge, e_imul, e_ii4i, e_ii4r, e_ii4u, e_goto, al_96, as_96, k_m10, kn_0, kn_1, kn_6, kn_60, kn_1076, kn_1078, kn_1198, b_X12_text_15, b_X12_text_55, b_X12_text_108, Option.bind_some, Option.toList_some, Option.toList_none, List.cons_append, List.nil_append, z_0, nI_add, pk_mul, pk_sub, pk_div, n_mod, nI_clamp, nI_leI, nI_ltI, nI_eq, le_T, le_F, lt_T, lt_F, eq_T, eq_F, n_i0, n_i1, eq_self, not_true_eq_false, not_false_eq_true, Bool.false_eq_true, ↓reduceIte, if_true, if_false, tm_up_n, tm_up_s, tm_up_i, ite_self, true_and, and_true, false_and, and_false, n_ofN, Nat.reduceAdd, Nat.reduceMul, Nat.reduceSub, Nat.zero_add, q_in, e6, q1, pS_9, pS_7, bI]
          exact qx
        · simp (disch := first | exact tm_inb_i (by omega) (by omega) | exact tm_cc rfl | exact tm_cat rfl | omega | exact nI_ne0 (by omega) (by omega) | exact nI_ne (by omega) (by omega) (by omega) | exact tm_cS (by omega) | assumption) only [n_X12_text, e_il1, e_iconst, r_X12_in, e_if_ne, e_al0, r_X12_finding, e_iret, g_95_0, e_is2i, e_is2r, e_is2u, e_il2, r_X12_reads, e_is3i, e_is3r, e_is3u, g_95_9, e_if_eq, g_95_7, e_isub, e_iadd, e_is4i, e_is4r, e_is4u, e_gotow, e_il4, e_ic_ge, e_imul, e_ii4i, e_ii4r, e_ii4u, e_goto, al_96, as_96, k_m10, kn_0, kn_1, kn_6, kn_60, kn_1076, kn_1078, kn_1198, b_X12_text_15, b_X12_text_55, b_X12_text_108, Option.bind_some, Option.toList_some, Option.toList_none, List.cons_append, List.nil_append, z_0, nI_add, pk_mul, pk_sub, pk_div, n_mod, nI_clamp, nI_leI, nI_ltI, nI_eq, le_T, le_F, lt_T, lt_F, eq_T, eq_F, n_i0, n_i1, eq_self, not_true_eq_false, not_false_eq_true, Bool.false_eq_true, ↓reduceIte, if_true, if_false, tm_up_n, tm_up_s, tm_up_i, ite_self, true_and, and_true, false_and, and_false, n_ofN, Nat.reduceAdd, Nat.reduceMul, Nat.reduceSub, Nat.zero_add, q_in, e6, q1, pS_9, pS_7, bI]
          exact qx
      · generalize hM2 : tm_uc (tm_up (pS (tm_up (tm_up (tm_up M1 96 6 (nI 0)) 95 5 (nI 1198)) 95 6 (nI T)) T 0 false) 96 (1076 + u) (nI T)) 96 (tm_tp (fun k => M 96 (1198 + k)) (1078 + 60 * u) 0 T (tm_up (pS (tm_up (tm_up (tm_up M1 96 6 (nI 0)) 95 5 (nI 1198)) 95 6 (nI T)) T 0 false) 96 (1076 + u) (nI T) 96)) = M2 at hD ⊢
        have fo : ∀ c, c ≠ 95 → c ≠ 96 → M2 c = M1 c := by
          intro c h1 h2
          rw [← hM2, tm_uc_ne _ _ h2, tm_up_n h2, pS_c h1, tm_up_n h1, tm_up_n h1, tm_up_n h2]
        have f95 : ∀ j, j ≠ 5 → j ≠ 6 → j ≠ 7 → j ≠ 8 → j ≠ 9 → M2 95 j = M 95 j := by
          intro j h5 h6 h7 h8 h9
          rw [← hM2, tm_uc_ne _ _ (by decide), tm_up_n (by decide), pS_j h7 h8 h9, tm_up_i h6, tm_up_i h5, tm_up_n (by decide), s5 95 (by decide) (by decide) (by decide) (by omega) (by omega)]
        have hlo : ∀ q, ¬ (1078 + 60 * u ≤ q ∧ q < 1138 + 60 * u) → q ≠ 1076 + u → M2 96 q = upd (M 96) 6 (nI 0) q := by
          intro q h1 h2
          rw [hD]
          unfold tm_tp
          rw [if_neg (by omega), upd_n h2]
        have hn : ∀ q, q ≠ 6 → ¬ (1078 + 60 * u ≤ q ∧ q < 1138 + 60 * u) → q ≠ 1076 + u → M2 96 q = M 96 q := fun q a b c => (hlo q b c).trans (upd_n a)
        refine tm_I_mk hI ?_ ?_ (fun c hc hs => ?_) ?_ (f95 2 (by decide) (by decide) (by decide) (by decide) (by decide)) (f95 3 (by decide) (by decide) (by decide) (by decide) (by decide)) (f95 23 (by decide) (by decide) (by decide) (by decide) (by decide))
        · refine tm_W_T hu (tm_W_up (c := 1) (i := 5) (q := 6) (v := nI 0) hI.1 rfl) (fun c hc h1 h2 => ?_) (fun q hq h1 h2 => hlo q h2 h1) ?_
          · rw [fo c (by omega) (by omega)]
            by_cases h5 : c = 1
            · subst h5; rw [s4, tm_up_at]
            · rw [tm_up_n h5, s5 c (by omega) (by omega) h5 h1 h2]
          · refine ⟨T, k62, ?_, fun h => absurd h (by omega), fun _ => ⟨code.length, hne, by omega, ?_, code, ?_, rfl, fun i hi => ?_⟩, fun k hk => ?_⟩
            · rw [hD]
              unfold tm_tp
              rw [if_neg (by omega), upd_s]
            · rw [Nat.add_zero, fo _ (by omega) (by omega), s2]
            · rw [← hcd]
              refine px_P_cg (fun i hi => ?_) _ _ _ _
              rw [hD]
              unfold tm_tp
              rw [if_pos (by omega)]
              rw [show 1078 + 60 * u + i - (1078 + 60 * u) = i by omega]
            · rw [Nat.add_zero, fo _ (by omega) (by omega), s3 i (by omega)]
              have := cw_at code (M 78) 0 i hi
              rwa [Nat.zero_add] at this
            · rw [hD]
              unfold tm_tp
              by_cases hkT : k < T
              · rw [if_pos (by omega)]
                rw [show 1078 + 60 * u + k - (1078 + 60 * u) = k by omega]
                exact Hc.2.2.1 k hkT
              · rw [if_neg (by omega), upd_n (by omega), upd_n (by omega)]
                rcases (by omega : u = 0 ∨ u = 1) with rfl | rfl
                · obtain ⟨_, _, _, _, _, t⟩ := hI.1.2.2.2.2.2.1
                  exact t k hk
                · obtain ⟨_, _, _, _, _, t⟩ := hI.1.2.2.2.2.2.2.1
                  exact t k hk
        · exact ⟨n, X, W, R, G, 0, L, tm_OK_mk hK (fun q _ _ => hn q (by omega) (by omega) (by omega)) (fun q _ _ => hn q (by omega) (by omega) (by omega)) (hn _ (by omega) (by omega) (by omega)) ((hn _ (by omega) (by omega) (by omega)).trans k2.1) k2.2 (hn _ (by omega) (by omega) (by omega)) (hn _ (by omega) (by omega) (by omega)) ((hn _ (by omega) (by omega) (by omega)).trans k5.1) (Nat.le_refl _) ((hlo _ (by omega) (by omega)).trans upd_s) (Nat.zero_le _) ((hn _ (by omega) (by omega) (by omega)).trans k8.1) k8.2⟩
        · rw [fo c (by rintro rfl; exact hs (by decide)) (by omega), s5 c (by rintro rfl; exact hs (by decide)) (by rintro rfl; exact hs (by decide)) (by omega) (by omega) (by omega)]
        · rw [fo 79 (by decide) (by decide), s5 79 (by decide) (by decide) (by decide) (by omega) (by omega)]
    · have hp := px_b (b := fun k => M 96 (1198 + k)) (z := T) px_F 0 0 0 false (by decide) (Nat.zero_le _)
      have Hr : pH (tm_up (tm_up (tm_up (tm_up (cS (tm_up M 77 4 (nI T)) (px_P (fun k => M 96 (1198 + k)) T px_F 0 0 (0, false)).2.1 e (nI (px_P (fun k => M 96 (1198 + k)) T px_F 0 0 (0, false)).2.1) cc) 1 5 (nI 0)) 96 6 (nI 0)) 95 5 (nI 1198)) 95 6 (nI T)) (fun k => M 96 (1198 + k)) T 1198 := by
        refine ⟨by rw [tm_up_i (by decide), tm_up_s], tm_up_s, fun k hk => ?_, Hc.2.2.1, k62, by decide, fun i hi => ?_⟩
        · rw [tm_up_n (by decide), tm_up_n (by decide), tm_up_i (by omega), tm_up_n (by decide), fc 96 (by decide) (by decide)]
        · rw [tm_up_n (by decide), tm_up_n (by decide), tm_up_n (by decide), tm_up_n (by decide), fc 100 (by decide) (by decide)]
          exact hI.2.2.2.2.2.2 i hi
      obtain ⟨v, q1, q2, q3⟩ := q_reads (d := 998) (l := l) (x := x) Hr (by decide)
      rw [decide_eq_true g] at q1
      clear q2
      generalize hs : px_P (fun k => M 96 (1198 + k)) T px_F 0 0 (0, false) = s1 at *
      obtain ⟨cd, p, bd⟩ := s1
      simp only at *
      have e2 : tm_up (cS (tm_up M 77 4 (nI T)) p e (nI p) cc) 1 5 (nI 0) 77 2 = nI p := by rw [tm_up_n (by decide)]; exact cS_2
      have e6 : tm_up (cS (tm_up M 77 4 (nI T)) p e (nI p) cc) 1 5 (nI 0) 96 6 = nI T := by rw [tm_up_n (by decide), fc 96 (by decide) (by decide)]; exact k6
      refine ⟨-10 - nI p, tm_up (cS (tm_up M 77 4 (nI T)) p e (nI p) cc) 1 5 (nI 0), (pS (tm_up (tm_up (tm_up (tm_up (cS (tm_up M 77 4 (nI T)) p e (nI p) cc) 1 5 (nI 0)) 96 6 (nI 0)) 95 5 (nI 1198)) 95 6 (nI T)) p 0 true), ?_, ?_, ?_⟩
      · simp (disch := first | exact tm_inb_i (by omega) (by omega) | exact tm_cc rfl | exact tm_cat rfl | omega | exact nI_ne0 (by omega) (by omega) | exact nI_ne (by omega) (by omega) (by omega) | exact tm_cS (by omega) | assumption) only [n_X11_text, e_il1, e_iconst, r_X11_within, e_if_ne, e_al0, r_X11_finding, e_iret, g_0_4, g_0_0, g_1_5, g_35_5, r_X4_read, p_1_5, p_35_5, g_77_2, e_if_lt, e_isub, g_1_3, g_35_3, g_77_0, g_77_1, r_X8_takeCode, arn_26_0, arn_26_1, arn_60_0, arn_60_1, k_m10, kn_0, kn_1, b_X11_text_15, b_X11_text_58, Option.bind_some, Option.toList_some, Option.toList_none, List.cons_append, List.nil_append, z_0, nI_add, pk_mul, pk_sub, pk_div, n_mod, nI_clamp, nI_leI, nI_ltI, nI_eq, le_T, le_F, lt_T, lt_F, eq_T, eq_F, n_i0, n_i1, eq_self, not_true_eq_false, not_false_eq_true, Bool.false_eq_true, ↓reduceIte, if_true, if_false, tm_up_n, tm_up_s, tm_up_i, ite_self, true_and, and_true, false_and, and_false, n_ofN, Nat.reduceAdd, Nat.reduceMul, Nat.reduceSub, Nat.zero_add, m_within, c6, r1, e2]
      · simp (disch := first | exact tm_inb_i (by omega) (by omega) | exact tm_cc rfl | exact tm_cat rfl | omega | exact nI_ne0 (by omega) (by omega) | exact nI_ne (by omega) (by omega) (by omega) | exact tm_cS (by omega) | assumption) only [n_X12_text, e_il1, e_iconst, r_X12_in, e_if_ne, e_al0, r_X12_finding, e_iret, g_95_0, e_is2i, e_is2r, e_is2u, e_il2, r_X12_reads, e_is3i, e_is3r, e_is3u, g_95_9, e_if_eq, g_95_7, e_isub, e_iadd, e_is4i, e_is4r, e_is4u, e_gotow, e_il4, e_ic_ge, e_imul, e_ii4i, e_ii4r, e_ii4u, e_goto, al_96, as_96, k_m10, kn_0, kn_1, kn_6, kn_60, kn_1076, kn_1078, kn_1198, b_X12_text_15, b_X12_text_55, b_X12_text_108, Option.bind_some, Option.toList_some, Option.toList_none, List.cons_append, List.nil_append, z_0, nI_add, pk_mul, pk_sub, pk_div, n_mod, nI_clamp, nI_leI, nI_ltI, nI_eq, le_T, le_F, lt_T, lt_F, eq_T, eq_F, n_i0, n_i1, eq_self, not_true_eq_false, not_false_eq_true, Bool.false_eq_true, ↓reduceIte, if_true, if_false, tm_up_n, tm_up_s, tm_up_i, ite_self, true_and, and_true, false_and, and_false, n_ofN, Nat.reduceAdd, Nat.reduceMul, Nat.reduceSub, Nat.zero_add, q_in, e6, q1, pS_9, pS_7, bI]
      · have f96 : (pS (tm_up (tm_up (tm_up (tm_up (cS (tm_up M 77 4 (nI T)) p e (nI p) cc) 1 5 (nI 0)) 96 6 (nI 0)) 95 5 (nI 1198)) 95 6 (nI T)) p 0 true) 96 = upd (M 96) 6 (nI 0) := by rw [pS_c (by decide), tm_up_n (by decide), tm_up_n (by decide), tm_up_at, tm_up_n (by decide), fc 96 (by decide) (by decide)]
        have fo : ∀ c, c ≠ 77 → c ≠ 78 → c ≠ 95 → c ≠ 96 → (pS (tm_up (tm_up (tm_up (tm_up (cS (tm_up M 77 4 (nI T)) p e (nI p) cc) 1 5 (nI 0)) 96 6 (nI 0)) 95 5 (nI 1198)) 95 6 (nI T)) p 0 true) c = tm_up M 1 5 (nI 0) c := by
          intro c h1 h2 h3 h4
          rw [pS_c h3, tm_up_n h3, tm_up_n h3, tm_up_n h4]
          by_cases h5 : c = 1
          · subst h5; rw [tm_up_at, tm_up_at, fc 1 (by decide) (by decide)]
          · rw [tm_up_n h5, tm_up_n h5, fc c h1 h2]
        have f95 : ∀ j, j ≠ 5 → j ≠ 6 → j ≠ 7 → j ≠ 8 → j ≠ 9 → (pS (tm_up (tm_up (tm_up (tm_up (cS (tm_up M 77 4 (nI T)) p e (nI p) cc) 1 5 (nI 0)) 96 6 (nI 0)) 95 5 (nI 1198)) 95 6 (nI T)) p 0 true) 95 j = M 95 j := by
          intro j h5 h6 h7 h8 h9
          rw [pS_j h7 h8 h9, tm_up_i h6, tm_up_i h5, tm_up_n (by decide), tm_up_n (by decide), fc 95 (by decide) (by decide)]
        have hn : ∀ q, q ≠ 6 → upd (M 96) 6 (nI 0) q = M 96 q := fun q a => upd_n a
        refine tm_I_mk hI ?_ ?_ (fun c hc hs => ?_) ?_ (f95 2 (by decide) (by decide) (by decide) (by decide) (by decide)) (f95 3 (by decide) (by decide) (by decide) (by decide) (by decide)) (f95 23 (by decide) (by decide) (by decide) (by decide) (by decide))
        · rw [f96]
          exact tm_W_cg (fun c hc => fo c (by rintro rfl; cases hc) (by rintro rfl; cases hc) (by rintro rfl; cases hc) (by rintro rfl; cases hc)) (tm_W_up (c := 1) (i := 5) (q := 6) (v := nI 0) hI.1 rfl)
        · rw [f96]
          exact ⟨n, X, W, R, G, 0, L, tm_OK_mk hK (fun q _ _ => hn q (by omega)) (fun q _ _ => hn q (by omega)) (hn _ (by omega)) ((hn _ (by omega)).trans k2.1) k2.2 (hn _ (by omega)) (hn _ (by omega)) ((hn _ (by omega)).trans k5.1) (Nat.le_refl _) upd_s (Nat.zero_le _) ((hn _ (by omega)).trans k8.1) k8.2⟩
        · rw [fo c (by rintro rfl; exact hs (by decide)) (by rintro rfl; exact hs (by decide)) (by rintro rfl; exact hs (by decide)) (by omega), tm_up_n (by omega)]
        · rw [fo 79 (by decide) (by decide) (by decide) (by decide), tm_up_n (by decide)]
end TTP
