/-! part 56: pair of calls: write -/
def nar (b : Nat) (v : Int32) : Int32 := if b = 8 then v.toInt8.toInt32 else if b = 16 then v.toInt16.toInt32 else v
def gvl (D : Nat → Int32) (n s i : Nat) : Int32 := match gp D n s i with
  | some (a, b) => (hs D s b - hs D s a) / nI (b - a)
  | none => nI 0
def wct (D : Nat → Int32) (n s : Nat) : Nat → Nat → Nat
  | 0, j => j
  | c + 1, j => if gp D n s j = none then j else wct D n s c (j + 1)
theorem wct_ge (D : Nat → Int32) (n s : Nat) : ∀ c j, j ≤ wct D n s c j ∧ wct D n s c j ≤ j + c := by
  intro c
  induction c with
  | zero => intro j; exact ⟨Nat.le_refl _, Nat.le_refl _⟩
  | succ c ih =>
    intro j
    unfold wct
    have := ih (j + 1)
    split <;> omega
section TMW
variable {d l : Nat} {x : Nat → Int32} {M : tm_M} {D : Nat → Int32} {n s r b z : Nat}
theorem m_set {i : Nat} {v : Int32} (hs1 : s < 4) (hi : i < 24) (hb : b = 8 ∨ b = 16 ∨ b = 32) (e : M (82 + 3 * s) 0 = nI b) : tm_call d 72 [.ref (82 + 3 * s), .int (nI i), .int v] (tm_GG l x) M = some (none, tm_GG l x, tm_up M (83 + 3 * s) i (nar b v)) := by
  unfold nar
  rcases hb with rfl | rfl | rfl
  · simp (disch := first | exact tm_inb_i (by omega) (by omega) | exact tm_cc rfl | exact tm_cat rfl | omega | exact nI_ne0 (by omega) (by omega) | exact nI_ne (by omega) (by omega) (by omega) | exact tm_cS (by omega) | assumption) only [n_X7_set, e_al0, g_82_2, g_85_2, g_88_2, g_91_2, e_il1, g_82_0, g_85_0, g_88_0, g_91_0, e_iconst, e_ic_ne, e_il2, e_i2b, e_goto, e_i2s, e_gotow, e_vret, as_83, as_86, as_89, as_92, kn_8, kn_16, b_X7_set_19, b_X7_set_33, b_X7_set_34, Option.bind_some, Option.toList_some, Option.toList_none, List.cons_append, List.nil_append, z_0, nI_add, pk_mul, pk_sub, pk_div, n_mod, nI_clamp, nI_leI, nI_ltI, nI_eq, le_T, le_F, lt_T, lt_F, eq_T, eq_F, n_i0, n_i1, eq_self, not_true_eq_false, not_false_eq_true, Bool.false_eq_true, ↓reduceIte, if_true, if_false, tm_up_n, tm_up_s, tm_up_i, ite_self, true_and, and_true, false_and, and_false, n_ofN, Nat.reduceAdd, Nat.reduceMul, Nat.reduceSub, Nat.zero_add, arS, gS0, gS1, gS2, gS3, pS0, pS1, alS, asS, alU, asU, e]
  · simp (disch := first | exact tm_inb_i (by omega) (by omega) | exact tm_cc rfl | exact tm_cat rfl | omega | exact nI_ne0 (by omega) (by omega) | exact nI_ne (by omega) (by omega) (by omega) | exact tm_cS (by omega) | assumption) only [n_X7_set, e_al0, g_82_2, g_85_2, g_88_2, g_91_2, e_il1, g_82_0, g_85_0, g_88_0, g_91_0, e_iconst, e_ic_ne, e_il2, e_i2b, e_goto, e_i2s, e_gotow, e_vret, as_83, as_86, as_89, as_92, kn_8, kn_16, b_X7_set_19, b_X7_set_33, b_X7_set_34, Option.bind_some, Option.toList_some, Option.toList_none, List.cons_append, List.nil_append, z_0, nI_add, pk_mul, pk_sub, pk_div, n_mod, nI_clamp, nI_leI, nI_ltI, nI_eq, le_T, le_F, lt_T, lt_F, eq_T, eq_F, n_i0, n_i1, eq_self, not_true_eq_false, not_false_eq_true, Bool.false_eq_true, ↓reduceIte, if_true, if_false, tm_up_n, tm_up_s, tm_up_i, ite_self, true_and, and_true, false_and, and_false, n_ofN, Nat.reduceAdd, Nat.reduceMul, Nat.reduceSub, Nat.zero_add, arS, gS0, gS1, gS2, gS3, pS0, pS1, alS, asS, alU, asU, e]
  · simp (disch := first | exact tm_inb_i (by omega) (by omega) | exact tm_cc rfl | exact tm_cat rfl | omega | exact nI_ne0 (by omega) (by omega) | exact nI_ne (by omega) (by omega) (by omega) | exact tm_cS (by omega) | assumption) only [n_X7_set, e_al0, g_82_2, g_85_2, g_88_2, g_91_2, e_il1, g_82_0, g_85_0, g_88_0, g_91_0, e_iconst, e_ic_ne, e_il2, e_i2b, e_goto, e_i2s, e_gotow, e_vret, as_83, as_86, as_89, as_92, kn_8, kn_16, b_X7_set_19, b_X7_set_33, b_X7_set_34, Option.bind_some, Option.toList_some, Option.toList_none, List.cons_append, List.nil_append, z_0, nI_add, pk_mul, pk_sub, pk_div, n_mod, nI_clamp, nI_leI, nI_ltI, nI_eq, le_T, le_F, lt_T, lt_F, eq_T, eq_F, n_i0, n_i1, eq_self, not_true_eq_false, not_false_eq_true, Bool.false_eq_true, ↓reduceIte, if_true, if_false, tm_up_n, tm_up_s, tm_up_i, ite_self, true_and, and_true, false_and, and_false, n_ofN, Nat.reduceAdd, Nat.reduceMul, Nat.reduceSub, Nat.zero_add, arS, gS0, gS1, gS2, gS3, pS0, pS1, alS, asS, alU, asU, e]
theorem q_narrowed {v : Int32} (hs1 : s < 4) (hb : b = 8 ∨ b = 16 ∨ b = 32) (e : M 106 s = nI b) : tm_call d 250 [.ref 95, .int (nI s), .int v] (tm_GG l x) M = some (some (.int (nar b v)), tm_GG l x, M) := by
  unfold nar
  rcases hb with rfl | rfl | rfl
  · simp (disch := first | exact tm_inb_i (by omega) (by omega) | exact tm_cc rfl | exact tm_cat rfl | omega | exact nI_ne0 (by omega) (by omega) | exact nI_ne (by omega) (by omega) (by omega) | exact tm_cS (by omega) | assumption) only [n_X12_narrowed, e_al0, g_95_27, e_il1, e_iconst, e_ic_ne, e_il2, e_i2b, e_goto, e_i2s, e_gotow, e_iret, al_106, kn_8, kn_16, b_X12_narrowed_16, b_X12_narrowed_32, b_X12_narrowed_33, Option.bind_some, Option.toList_some, Option.toList_none, List.cons_append, List.nil_append, z_0, nI_add, pk_mul, pk_sub, pk_div, n_mod, nI_clamp, nI_leI, nI_ltI, nI_eq, le_T, le_F, lt_T, lt_F, eq_T, eq_F, n_i0, n_i1, eq_self, not_true_eq_false, not_false_eq_true, Bool.false_eq_true, ↓reduceIte, if_true, if_false, tm_up_n, tm_up_s, tm_up_i, ite_self, true_and, and_true, false_and, and_false, n_ofN, Nat.reduceAdd, Nat.reduceMul, Nat.reduceSub, Nat.zero_add, e]
  · simp (disch := first | exact tm_inb_i (by omega) (by omega) | exact tm_cc rfl | exact tm_cat rfl | omega | exact nI_ne0 (by omega) (by omega) | exact nI_ne (by omega) (by omega) (by omega) | exact tm_cS (by omega) | assumption) only [n_X12_narrowed, e_al0, g_95_27, e_il1, e_iconst, e_ic_ne, e_il2, e_i2b, e_goto, e_i2s, e_gotow, e_iret, al_106, kn_8, kn_16, b_X12_narrowed_16, b_X12_narrowed_32, b_X12_narrowed_33, Option.bind_some, Option.toList_some, Option.toList_none, List.cons_append, List.nil_append, z_0, nI_add, pk_mul, pk_sub, pk_div, n_mod, nI_clamp, nI_leI, nI_ltI, nI_eq, le_T, le_F, lt_T, lt_F, eq_T, eq_F, n_i0, n_i1, eq_self, not_true_eq_false, not_false_eq_true, Bool.false_eq_true, ↓reduceIte, if_true, if_false, tm_up_n, tm_up_s, tm_up_i, ite_self, true_and, and_true, false_and, and_false, n_ofN, Nat.reduceAdd, Nat.reduceMul, Nat.reduceSub, Nat.zero_add, e]
  · simp (disch := first | exact tm_inb_i (by omega) (by omega) | exact tm_cc rfl | exact tm_cat rfl | omega | exact nI_ne0 (by omega) (by omega) | exact nI_ne (by omega) (by omega) (by omega) | exact tm_cS (by omega) | assumption) only [n_X12_narrowed, e_al0, g_95_27, e_il1, e_iconst, e_ic_ne, e_il2, e_i2b, e_goto, e_i2s, e_gotow, e_iret, al_106, kn_8, kn_16, b_X12_narrowed_16, b_X12_narrowed_32, b_X12_narrowed_33, Option.bind_some, Option.toList_some, Option.toList_none, List.cons_append, List.nil_append, z_0, nI_add, pk_mul, pk_sub, pk_div, n_mod, nI_clamp, nI_leI, nI_ltI, nI_eq, le_T, le_F, lt_T, lt_F, eq_T, eq_F, n_i0, n_i1, eq_self, not_true_eq_false, not_false_eq_true, Bool.false_eq_true, ↓reduceIte, if_true, if_false, tm_up_n, tm_up_s, tm_up_i, ite_self, true_and, and_true, false_and, and_false, n_ofN, Nat.reduceAdd, Nat.reduceMul, Nat.reduceSub, Nat.zero_add, e]
theorem gp_cases (D : Nat → Int32) (n s i : Nat) : gp D n s i = none ∨ ∃ a b, gp D n s i = some (a, b) := by
  cases hgp : gp D n s i with
  | none => exact Or.inl rfl
  | some q => exact Or.inr ⟨q.1, q.2, rfl⟩
theorem m_gapPace {a c : Nat} {v : Int32} (h0 : M 75 0 = nI a) (h1 : M 75 1 = nI c) (h2 : M 75 2 = v) (ac : a < c) (hc : c ≤ 24) : tm_call d 258 [.ref 75] (tm_GG l x) M = some (some (.int (v / nI (c - a))), tm_GG l x, M) := by
  simp (disch := first | exact tm_inb_i (by omega) (by omega) | exact tm_cc rfl | exact tm_cat rfl | omega | exact nI_ne0 (by omega) (by omega) | exact nI_ne (by omega) (by omega) (by omega) | exact tm_cS (by omega) | assumption) only [n_X2_gapPace, e_al0, g_75_1, g_75_0, e_isub, e_is1i, e_is1r, e_is1u, e_il1, e_iconst, e_ic_ge, e_goto, g_75_2, e_idiv, e_gotow, e_iret, kn_0, kn_1, b_X2_gapPace_19, b_X2_gapPace_25, Option.bind_some, Option.toList_some, Option.toList_none, List.cons_append, List.nil_append, z_0, nI_add, pk_mul, pk_sub, pk_div, n_mod, nI_clamp, nI_leI, nI_ltI, nI_eq, le_T, le_F, lt_T, lt_F, eq_T, eq_F, n_i0, n_i1, eq_self, not_true_eq_false, not_false_eq_true, Bool.false_eq_true, ↓reduceIte, if_true, if_false, tm_up_n, tm_up_s, tm_up_i, ite_self, true_and, and_true, false_and, and_false, n_ofN, Nat.reduceAdd, Nat.reduceMul, Nat.reduceSub, Nat.zero_add, h0, h1, h2]
theorem m_wr (hn : n ≤ 24) (hr1 : r < 12) (hs1 : s < 4) (hb : b = 8 ∨ b = 16 ∨ b = 32) (hz : z ≤ 24) : ∀ (c i : Nat) (M : tm_M), i + c = z → tm_hH M D → M 2 0 = nI n → M (82 + 3 * s) 0 = nI b → M (82 + 3 * s) 1 = nI z → ∃ M1, tm_ev (d + 3) (tm_blk (Int.toNat 1340048)) [.ref 0, .int (nI r), .int (nI s), .ref (82 + 3 * s), .int (nI i), .int (nI i)] [] (tm_GG l x) M = some (some (.int (nI (wct D n r c i))), tm_GG l x, M1) ∧ (∀ q, q ≠ 75 → q ≠ 83 + 3 * s → M1 q = M q) ∧ M1 (83 + 3 * s) = tm_tp (fun p => nar b (gvl D n r p)) 0 i (wct D n r c i) (M (83 + 3 * s)) := by
  intro c
  induction c with
  | zero =>
    intro i M h hH c0 e0 e1
    refine ⟨M, ?_, fun _ _ _ => rfl, ?_⟩
    · rw [b_X11_write_48]
      unfold wct
      simp (disch := first | exact tm_inb_i (by omega) (by omega) | exact tm_cc rfl | exact tm_cat rfl | omega | exact nI_ne0 (by omega) (by omega) | exact nI_ne (by omega) (by omega) (by omega) | exact tm_cS (by omega) | assumption) only [e_al0, e_il1, r_X11_isRunner, e_if_eq, e_il2, r_X11_isSheet, e_if_ne, e_gotow, e_iconst, r_X11_finding, e_iret, g_0_6, e_as3i, e_as3r, e_as3u, e_al3, g_82_0, g_85_0, g_88_0, g_91_0, e_is4i, e_is4r, e_is4u, e_is5i, e_is5r, e_is5u, e_il5, g_82_1, g_85_1, g_88_1, g_91_1, e_ic_ge, g_0_3, r_X2_findGap, r_X2_gapPace, r_X7_set, e_ii4i, e_ii4r, e_ii4u, e_ii5i, e_ii5r, e_ii5u, e_goto, e_il4, arn_81_0, arn_81_1, arn_81_2, arn_81_3, kn_0, kn_1, kn_2, b_X11_write_16, b_X11_write_22, b_X11_write_42, b_X11_write_92, Option.bind_some, Option.toList_some, Option.toList_none, List.cons_append, List.nil_append, z_0, nI_add, pk_mul, pk_sub, pk_div, n_mod, nI_clamp, nI_leI, nI_ltI, nI_eq, le_T, le_F, lt_T, lt_F, eq_T, eq_F, n_i0, n_i1, eq_self, not_true_eq_false, not_false_eq_true, Bool.false_eq_true, ↓reduceIte, if_true, if_false, tm_up_n, tm_up_s, tm_up_i, ite_self, true_and, and_true, false_and, and_false, n_ofN, Nat.reduceAdd, Nat.reduceMul, Nat.reduceSub, Nat.zero_add, arS, gS0, gS1, gS2, gS3, pS0, pS1, alS, asS, alU, asU, e1]
    · unfold wct
      rw [tm_tp_e]
  | succ c ih =>
    intro i M h hH c0 e0 e1
    obtain ⟨Ms, g1, g2, g3⟩ := m_findGap (d := d) (l := l) (x := x) hH c0 hn hr1 (i := i) (by omega)
    have es0 : Ms (82 + 3 * s) 0 = nI b := by rw [g2 _ (by omega)]; exact e0
    rcases gp_cases D n r i with hG | ⟨a, b', hG⟩
    · refine ⟨Ms, ?_, fun q q1 _ => g2 q q1, ?_⟩
      · rw [b_X11_write_48]
        unfold wct
        rw [if_pos hG]
        rw [hG] at g1
        simp (disch := first | exact tm_inb_i (by omega) (by omega) | exact tm_cc rfl | exact tm_cat rfl | omega | exact nI_ne0 (by omega) (by omega) | exact nI_ne (by omega) (by omega) (by omega) | exact tm_cS (by omega) | assumption) only [e_al0, e_il1, r_X11_isRunner, e_if_eq, e_il2, r_X11_isSheet, e_if_ne, e_gotow, e_iconst, r_X11_finding, e_iret, g_0_6, e_as3i, e_as3r, e_as3u, e_al3, g_82_0, g_85_0, g_88_0, g_91_0, e_is4i, e_is4r, e_is4u, e_is5i, e_is5r, e_is5u, e_il5, g_82_1, g_85_1, g_88_1, g_91_1, e_ic_ge, g_0_3, r_X2_findGap, r_X2_gapPace, r_X7_set, e_ii4i, e_ii4r, e_ii4u, e_ii5i, e_ii5r, e_ii5u, e_goto, e_il4, arn_81_0, arn_81_1, arn_81_2, arn_81_3, kn_0, kn_1, kn_2, b_X11_write_16, b_X11_write_22, b_X11_write_42, b_X11_write_92, Option.bind_some, Option.toList_some, Option.toList_none, List.cons_append, List.nil_append, z_0, nI_add, pk_mul, pk_sub, pk_div, n_mod, nI_clamp, nI_leI, nI_ltI, nI_eq, le_T, le_F, lt_T, lt_F, eq_T, eq_F, n_i0, n_i1, eq_self, not_true_eq_false, not_false_eq_true, Bool.false_eq_true, ↓reduceIte, if_true, if_false, tm_up_n, tm_up_s, tm_up_i, ite_self, true_and, and_true, false_and, and_false, n_ofN, Nat.reduceAdd, Nat.reduceMul, Nat.reduceSub, Nat.zero_add, arS, gS0, gS1, gS2, gS3, pS0, pS1, alS, asS, alU, asU, e1, g1, ogp]
      · unfold wct
        rw [if_pos hG, tm_tp_e, g2 _ (by omega)]
    · obtain ⟨p1, p2, _⟩ := gp_spec hG
      obtain ⟨m0, m1, m2⟩ := g3 a b' hG
      have hv : gvl D n r i = (hs D r b' - hs D r a) / nI (b' - a) := by unfold gvl; rw [hG]
      obtain ⟨M1, r1, r2, r3⟩ := ih (i + 1) (tm_up Ms (83 + 3 * s) i (nar b ((hs D r b' - hs D r a) / nI (b' - a)))) (by omega) (fun s' m h1 h2 => by rw [tm_up_n (by omega), g2 34 (by decide)]; exact hH s' m h1 h2) (by rw [tm_up_n (by omega), g2 2 (by decide)]; exact c0) (by rw [tm_up_n (by omega)]; exact es0) (by rw [tm_up_n (by omega), g2 _ (by omega)]; exact e1)
      have hw := wct_ge D n r c (i + 1)
      refine ⟨M1, ?_, fun q q1 q2 => by rw [r2 q q1 q2, tm_up_n q2, g2 q q1], ?_⟩
      · rw [b_X11_write_48]
        unfold wct
        rw [if_neg (by rw [hG]; exact fun z => by cases z)]
        have st := m_set (d := d + 2) (l := l) (x := x) (M := Ms) (i := i) (v := (hs D r b' - hs D r a) / nI (b' - a)) hs1 (by omega) hb es0
        have gpc := m_gapPace (d := d + 2) (l := l) (x := x) m0 m1 m2 (by omega) (by omega)
        rw [hG] at g1
        simp (disch := first | exact tm_inb_i (by omega) (by omega) | exact tm_cc rfl | exact tm_cat rfl | omega | exact nI_ne0 (by omega) (by omega) | exact nI_ne (by omega) (by omega) (by omega) | exact tm_cS (by omega) | assumption) only [e_al0, e_il1, r_X11_isRunner, e_if_eq, e_il2, r_X11_isSheet, e_if_ne, e_gotow, e_iconst, r_X11_finding, e_iret, g_0_6, e_as3i, e_as3r, e_as3u, e_al3, g_82_0, g_85_0, g_88_0, g_91_0, e_is4i, e_is4r, e_is4u, e_is5i, e_is5r, e_is5u, e_il5, g_82_1, g_85_1, g_88_1, g_91_1, e_ic_ge, g_0_3, r_X2_findGap, r_X2_gapPace, r_X7_set, e_ii4i, e_ii4r, e_ii4u, e_ii5i, e_ii5r, e_ii5u, e_goto, e_il4, arn_81_0, arn_81_1, arn_81_2, arn_81_3, kn_0, kn_1, kn_2, b_X11_write_16, b_X11_write_22, b_X11_write_42, b_X11_write_92, Option.bind_some, Option.toList_some, Option.toList_none, List.cons_append, List.nil_append, z_0, nI_add, pk_mul, pk_sub, pk_div, n_mod, nI_clamp, nI_leI, nI_ltI, nI_eq, le_T, le_F, lt_T, lt_F, eq_T, eq_F, n_i0, n_i1, eq_self, not_true_eq_false, not_false_eq_true, Bool.false_eq_true, ↓reduceIte, if_true, if_false, tm_up_n, tm_up_s, tm_up_i, ite_self, true_and, and_true, false_and, and_false, n_ofN, Nat.reduceAdd, Nat.reduceMul, Nat.reduceSub, Nat.zero_add, arS, gS0, gS1, gS2, gS3, pS0, pS1, alS, asS, alU, asU, e1, g1, ogp, gpc, st, r1]
      · rw [r3, tm_up_at, g2 _ (by omega)]
        rw [show wct D n r (c + 1) i = wct D n r c (i + 1) from if_neg (by rw [hG]; exact fun z => by cases z)]
        have := tm_tp_s (g := fun p => nar b (gvl D n r p)) (f := M (83 + 3 * s)) (t := 0) (j := i) (n := wct D n r c (i + 1)) (by omega)
        rw [← this, Nat.zero_add, hv]
theorem q_wr (k0 : D 0 = nI n) (hn : n ≤ 24) (hr1 : r < 12) (hs1 : s < 4) (hb : b = 8 ∨ b = 16 ∨ b = 32) (hz : z ≤ 24) : ∀ (c i : Nat) (M : tm_M) (v4 : Value), i + c = z → M 96 = D → M 106 s = nI b → M 107 s = nI z → ∃ M1, tm_ev (d + 2) (tm_blk (Int.toNat 2510040)) [.ref 95, .int (nI r), .int (nI s), .int (nI i), v4] [] (tm_GG l x) M = some (some (.int (nI (wct D n r c i))), tm_GG l x, M1) ∧ (∀ q, q ≠ 95 → q ≠ 108 → M1 q = M q) ∧ (∀ j, j ≠ 19 → j ≠ 20 → M1 95 j = M 95 j) ∧ M1 108 = tm_tp (fun p => nar b (gvl D n r p)) (24 * s) i (wct D n r c i) (M 108) := by
  intro c
  induction c with
  | zero =>
    intro i M v4 h hM e0 e1
    refine ⟨M, ?_, fun _ _ _ => rfl, fun _ _ _ => rfl, ?_⟩
    · rw [b_X12_write_40]
      unfold wct
      simp (disch := first | exact tm_inb_i (by omega) (by omega) | exact tm_cc rfl | exact tm_cat rfl | omega | exact nI_ne0 (by omega) (by omega) | exact nI_ne (by omega) (by omega) (by omega) | exact tm_cS (by omega) | assumption) only [e_al0, e_il1, r_X12_isRunner, e_if_eq, e_il2, e_iconst, r_X12_in, e_if_ne, e_gotow, r_X12_finding, e_iret, g_95_27, e_is3i, e_is3r, e_is3u, e_il3, g_95_28, e_ic_ge, r_X12_findGap, g_95_20, r_X12_heardAt, g_95_19, e_isub, e_idiv, e_is4i, e_is4r, e_is4u, g_95_29, e_imul, e_iadd, e_il4, r_X12_narrowed, e_ii3i, e_ii3r, e_ii3u, e_goto, al_106, as_106, al_107, as_107, al_108, as_108, kn_0, kn_1, kn_2, kn_3, kn_24, b_X12_write_17, b_X12_write_23, b_X12_write_38, b_X12_write_114, Option.bind_some, Option.toList_some, Option.toList_none, List.cons_append, List.nil_append, z_0, nI_add, pk_mul, pk_sub, pk_div, n_mod, nI_clamp, nI_leI, nI_ltI, nI_eq, le_T, le_F, lt_T, lt_F, eq_T, eq_F, n_i0, n_i1, eq_self, not_true_eq_false, not_false_eq_true, Bool.false_eq_true, ↓reduceIte, if_true, if_false, tm_up_n, tm_up_s, tm_up_i, ite_self, true_and, and_true, false_and, and_false, n_ofN, Nat.reduceAdd, Nat.reduceMul, Nat.reduceSub, Nat.zero_add, e1]
    · unfold wct
      rw [tm_tp_e]
  | succ c ih =>
    intro i M v4 h hM e0 e1
    obtain ⟨Ms, g1, g2, g3, g4⟩ := q_findGap (d := d) (l := l) (x := x) hM k0 hn hr1 (i := i) (by omega)
    have es0 : Ms 106 s = nI b := by rw [g2 _ (by decide)]; exact e0
    have h96 : Ms 96 = D := by rw [g2 _ (by decide)]; exact hM
    rcases gp_cases D n r i with hG | ⟨a, b', hG⟩
    · refine ⟨Ms, ?_, fun q q1 _ => g2 q q1, g3, ?_⟩
      · rw [b_X12_write_40]
        unfold wct
        rw [if_pos hG]
        rw [hG] at g1
        simp (disch := first | exact tm_inb_i (by omega) (by omega) | exact tm_cc rfl | exact tm_cat rfl | omega | exact nI_ne0 (by omega) (by omega) | exact nI_ne (by omega) (by omega) (by omega) | exact tm_cS (by omega) | assumption) only [e_al0, e_il1, r_X12_isRunner, e_if_eq, e_il2, e_iconst, r_X12_in, e_if_ne, e_gotow, r_X12_finding, e_iret, g_95_27, e_is3i, e_is3r, e_is3u, e_il3, g_95_28, e_ic_ge, r_X12_findGap, g_95_20, r_X12_heardAt, g_95_19, e_isub, e_idiv, e_is4i, e_is4r, e_is4u, g_95_29, e_imul, e_iadd, e_il4, r_X12_narrowed, e_ii3i, e_ii3r, e_ii3u, e_goto, al_106, as_106, al_107, as_107, al_108, as_108, kn_0, kn_1, kn_2, kn_3, kn_24, b_X12_write_17, b_X12_write_23, b_X12_write_38, b_X12_write_114, Option.bind_some, Option.toList_some, Option.toList_none, List.cons_append, List.nil_append, z_0, nI_add, pk_mul, pk_sub, pk_div, n_mod, nI_clamp, nI_leI, nI_ltI, nI_eq, le_T, le_F, lt_T, lt_F, eq_T, eq_F, n_i0, n_i1, eq_self, not_true_eq_false, not_false_eq_true, Bool.false_eq_true, ↓reduceIte, if_true, if_false, tm_up_n, tm_up_s, tm_up_i, ite_self, true_and, and_true, false_and, and_false, n_ofN, Nat.reduceAdd, Nat.reduceMul, Nat.reduceSub, Nat.zero_add, e1, g1, ogp]
      · unfold wct
        rw [if_pos hG, tm_tp_e, g2 _ (by decide)]
    · obtain ⟨p1, p2, _⟩ := gp_spec hG
      obtain ⟨m0, m1⟩ := g4 a b' hG
      have hv : gvl D n r i = (hs D r b' - hs D r a) / nI (b' - a) := by unfold gvl; rw [hG]
      obtain ⟨M1, r1, r2, r3, r4⟩ := ih (i + 1) (tm_up Ms 108 (24 * s + i) (nar b ((hs D r b' - hs D r a) / nI (b' - a)))) (.int ((hs D r b' - hs D r a) / nI (b' - a))) (by omega) (by rw [tm_up_n (by decide)]; exact h96) (by rw [tm_up_n (by decide)]; exact es0) (by rw [tm_up_n (by decide), g2 _ (by decide)]; exact e1)
      have hw := wct_ge D n r c (i + 1)
      refine ⟨M1, ?_, fun q q1 q2 => by rw [r2 q q1 q2, tm_up_n q2, g2 q q1], fun j j1 j2 => by rw [r3 j j1 j2, tm_up_n (by decide), g3 j j1 j2], ?_⟩
      · rw [b_X12_write_40]
        unfold wct
        rw [if_neg (by rw [hG]; exact fun z => by cases z)]
        have nr := q_narrowed (d := d + 1) (l := l) (x := x) (M := Ms) (v := (hs D r b' - hs D r a) / nI (b' - a)) hs1 hb es0
        have hA := q_hA (d := d + 1) (l := l) (x := x) h96 hr1 (show a < 25 by omega)
        have hB := q_hA (d := d + 1) (l := l) (x := x) h96 hr1 (show b' < 25 by omega)
        rw [hG] at g1
        simp (disch := first | exact tm_inb_i (by omega) (by omega) | exact tm_cc rfl | exact tm_cat rfl | omega | exact nI_ne0 (by omega) (by omega) | exact nI_ne (by omega) (by omega) (by omega) | exact tm_cS (by omega) | assumption) only [e_al0, e_il1, r_X12_isRunner, e_if_eq, e_il2, e_iconst, r_X12_in, e_if_ne, e_gotow, r_X12_finding, e_iret, g_95_27, e_is3i, e_is3r, e_is3u, e_il3, g_95_28, e_ic_ge, r_X12_findGap, g_95_20, r_X12_heardAt, g_95_19, e_isub, e_idiv, e_is4i, e_is4r, e_is4u, g_95_29, e_imul, e_iadd, e_il4, r_X12_narrowed, e_ii3i, e_ii3r, e_ii3u, e_goto, al_106, as_106, al_107, as_107, al_108, as_108, kn_0, kn_1, kn_2, kn_3, kn_24, b_X12_write_17, b_X12_write_23, b_X12_write_38, b_X12_write_114, Option.bind_some, Option.toList_some, Option.toList_none, List.cons_append, List.nil_append, z_0, nI_add, pk_mul, pk_sub, pk_div, n_mod, nI_clamp, nI_leI, nI_ltI, nI_eq, le_T, le_F, lt_T, lt_F, eq_T, eq_F, n_i0, n_i1, eq_self, not_true_eq_false, not_false_eq_true, Bool.false_eq_true, ↓reduceIte, if_true, if_false, tm_up_n, tm_up_s, tm_up_i, ite_self, true_and, and_true, false_and, and_false, n_ofN, Nat.reduceAdd, Nat.reduceMul, Nat.reduceSub, Nat.zero_add, e1, g1, ogp, m0, m1, hA, hB, nr, r1]
      · rw [r4, tm_up_at, g2 _ (by decide)]
        rw [show wct D n r (c + 1) i = wct D n r c (i + 1) from if_neg (by rw [hG]; exact fun z => by cases z)]
        have := tm_tp_s (g := fun p => nar b (gvl D n r p)) (f := M 108) (t := 24 * s) (j := i) (n := wct D n r c (i + 1)) (by omega)
        rw [← this, hv]
theorem pr_write (a0 a1 : Int32) : tm_Pi tm_I l x 134 251 [.int a0, .int a1] := by
  intro k M hk hI
  obtain ⟨n, X, W, R, G, T, L, ⟨⟨k0, k01, k02⟩, -, -, ⟨k4, k42⟩, -⟩, c0, -, -, c4, -⟩ := tm_I_n hI
  rcases rng1 a0 R (by omega) with h | ⟨r, hr1, rfl⟩
  · exact tm_fdp hI (by decide : 1 < 6) (by simp (disch := first | exact tm_inb_i (by omega) (by omega) | exact tm_cc rfl | exact tm_cat rfl | omega | exact nI_ne0 (by omega) (by omega) | exact nI_ne (by omega) (by omega) (by omega) | exact tm_cS (by omega) | assumption) only [n_X11_write, e_al0, e_il1, r_X11_isRunner, e_if_eq, e_il2, r_X11_isSheet, e_if_ne, e_gotow, e_iconst, r_X11_finding, e_iret, g_0_6, e_as3i, e_as3r, e_as3u, e_al3, g_82_0, g_85_0, g_88_0, g_91_0, e_is4i, e_is4r, e_is4u, e_is5i, e_is5r, e_is5u, e_il5, g_82_1, g_85_1, g_88_1, g_91_1, e_ic_ge, g_0_3, r_X2_findGap, r_X2_gapPace, r_X7_set, e_ii4i, e_ii4r, e_ii4u, e_ii5i, e_ii5r, e_ii5u, e_goto, e_il4, arn_81_0, arn_81_1, arn_81_2, arn_81_3, kn_0, kn_1, kn_2, b_X11_write_16, b_X11_write_22, b_X11_write_42, b_X11_write_92, Option.bind_some, Option.toList_some, Option.toList_none, List.cons_append, List.nil_append, z_0, nI_add, pk_mul, pk_sub, pk_div, n_mod, nI_clamp, nI_leI, nI_ltI, nI_eq, le_T, le_F, lt_T, lt_F, eq_T, eq_F, n_i0, n_i1, eq_self, not_true_eq_false, not_false_eq_true, Bool.false_eq_true, ↓reduceIte, if_true, if_false, tm_up_n, tm_up_s, tm_up_i, ite_self, true_and, and_true, false_and, and_false, n_ofN, Nat.reduceAdd, Nat.reduceMul, Nat.reduceSub, Nat.zero_add, m_within, m_finding, m_isRunner, c4, h]) (by simp (disch := first | exact tm_inb_i (by omega) (by omega) | exact tm_cc rfl | exact tm_cat rfl | omega | exact nI_ne0 (by omega) (by omega) | exact nI_ne (by omega) (by omega) (by omega) | exact tm_cS (by omega) | assumption) only [n_X12_write, e_al0, e_il1, r_X12_isRunner, e_if_eq, e_il2, e_iconst, r_X12_in, e_if_ne, e_gotow, r_X12_finding, e_iret, g_95_27, e_is3i, e_is3r, e_is3u, e_il3, g_95_28, e_ic_ge, r_X12_findGap, g_95_20, r_X12_heardAt, g_95_19, e_isub, e_idiv, e_is4i, e_is4r, e_is4u, g_95_29, e_imul, e_iadd, e_il4, r_X12_narrowed, e_ii3i, e_ii3r, e_ii3u, e_goto, al_106, as_106, al_107, as_107, al_108, as_108, kn_0, kn_1, kn_2, kn_3, kn_24, b_X12_write_17, b_X12_write_23, b_X12_write_38, b_X12_write_114, Option.bind_some, Option.toList_some, Option.toList_none, List.cons_append, List.nil_append, z_0, nI_add, pk_mul, pk_sub, pk_div, n_mod, nI_clamp, nI_leI, nI_ltI, nI_eq, le_T, le_F, lt_T, lt_F, eq_T, eq_F, n_i0, n_i1, eq_self, not_true_eq_false, not_false_eq_true, Bool.false_eq_true, ↓reduceIte, if_true, if_false, tm_up_n, tm_up_s, tm_up_i, ite_self, true_and, and_true, false_and, and_false, n_ofN, Nat.reduceAdd, Nat.reduceMul, Nat.reduceSub, Nat.zero_add, q_in, q_finding, q_isRunner, k4, h])
  rcases rng a1 0 3 (by decide) (by omega) with h | ⟨s, _, hs1, rfl⟩
  · exact tm_fdp hI (by decide : 1 < 6) (by simp (disch := first | exact tm_inb_i (by omega) (by omega) | exact tm_cc rfl | exact tm_cat rfl | omega | exact nI_ne0 (by omega) (by omega) | exact nI_ne (by omega) (by omega) (by omega) | exact tm_cS (by omega) | assumption) only [n_X11_write, e_al0, e_il1, r_X11_isRunner, e_if_eq, e_il2, r_X11_isSheet, e_if_ne, e_gotow, e_iconst, r_X11_finding, e_iret, g_0_6, e_as3i, e_as3r, e_as3u, e_al3, g_82_0, g_85_0, g_88_0, g_91_0, e_is4i, e_is4r, e_is4u, e_is5i, e_is5r, e_is5u, e_il5, g_82_1, g_85_1, g_88_1, g_91_1, e_ic_ge, g_0_3, r_X2_findGap, r_X2_gapPace, r_X7_set, e_ii4i, e_ii4r, e_ii4u, e_ii5i, e_ii5r, e_ii5u, e_goto, e_il4, arn_81_0, arn_81_1, arn_81_2, arn_81_3, kn_0, kn_1, kn_2, b_X11_write_16, b_X11_write_22, b_X11_write_42, b_X11_write_92, Option.bind_some, Option.toList_some, Option.toList_none, List.cons_append, List.nil_append, z_0, nI_add, pk_mul, pk_sub, pk_div, n_mod, nI_clamp, nI_leI, nI_ltI, nI_eq, le_T, le_F, lt_T, lt_F, eq_T, eq_F, n_i0, n_i1, eq_self, not_true_eq_false, not_false_eq_true, Bool.false_eq_true, ↓reduceIte, if_true, if_false, tm_up_n, tm_up_s, tm_up_i, ite_self, true_and, and_true, false_and, and_false, n_ofN, Nat.reduceAdd, Nat.reduceMul, Nat.reduceSub, Nat.zero_add, m_within, m_finding, m_isRunner, m_isSheet, c4, h]) (by simp (disch := first | exact tm_inb_i (by omega) (by omega) | exact tm_cc rfl | exact tm_cat rfl | omega | exact nI_ne0 (by omega) (by omega) | exact nI_ne (by omega) (by omega) (by omega) | exact tm_cS (by omega) | assumption) only [n_X12_write, e_al0, e_il1, r_X12_isRunner, e_if_eq, e_il2, e_iconst, r_X12_in, e_if_ne, e_gotow, r_X12_finding, e_iret, g_95_27, e_is3i, e_is3r, e_is3u, e_il3, g_95_28, e_ic_ge, r_X12_findGap, g_95_20, r_X12_heardAt, g_95_19, e_isub, e_idiv, e_is4i, e_is4r, e_is4u, g_95_29, e_imul, e_iadd, e_il4, r_X12_narrowed, e_ii3i, e_ii3r, e_ii3u, e_goto, al_106, as_106, al_107, as_107, al_108, as_108, kn_0, kn_1, kn_2, kn_3, kn_24, b_X12_write_17, b_X12_write_23, b_X12_write_38, b_X12_write_114, Option.bind_some, Option.toList_some, Option.toList_none, List.cons_append, List.nil_append, z_0, nI_add, pk_mul, pk_sub, pk_div, n_mod, nI_clamp, nI_leI, nI_ltI, nI_eq, le_T, le_F, lt_T, lt_F, eq_T, eq_F, n_i0, n_i1, eq_self, not_true_eq_false, not_false_eq_true, Bool.false_eq_true, ↓reduceIte, if_true, if_false, tm_up_n, tm_up_s, tm_up_i, ite_self, true_and, and_true, false_and, and_false, n_ofN, Nat.reduceAdd, Nat.reduceMul, Nat.reduceSub, Nat.zero_add, q_in, q_finding, q_isRunner, k4, h])
  obtain ⟨b, hb, e1, e2, e3⟩ := tm_rS_all hI s (by omega)
  by_cases b0 : b = 0
  · subst b0
    exact tm_fdp hI (by decide : 2 < 6) (by simp (disch := first | exact tm_inb_i (by omega) (by omega) | exact tm_cc rfl | exact tm_cat rfl | omega | exact nI_ne0 (by omega) (by omega) | exact nI_ne (by omega) (by omega) (by omega) | exact tm_cS (by omega) | assumption) only [n_X11_write, e_al0, e_il1, r_X11_isRunner, e_if_eq, e_il2, r_X11_isSheet, e_if_ne, e_gotow, e_iconst, r_X11_finding, e_iret, g_0_6, e_as3i, e_as3r, e_as3u, e_al3, g_82_0, g_85_0, g_88_0, g_91_0, e_is4i, e_is4r, e_is4u, e_is5i, e_is5r, e_is5u, e_il5, g_82_1, g_85_1, g_88_1, g_91_1, e_ic_ge, g_0_3, r_X2_findGap, r_X2_gapPace, r_X7_set, e_ii4i, e_ii4r, e_ii4u, e_ii5i, e_ii5r, e_ii5u, e_goto, e_il4, arn_81_0, arn_81_1, arn_81_2, arn_81_3, kn_0, kn_1, kn_2, b_X11_write_16, b_X11_write_22, b_X11_write_42, b_X11_write_92, Option.bind_some, Option.toList_some, Option.toList_none, List.cons_append, List.nil_append, z_0, nI_add, pk_mul, pk_sub, pk_div, n_mod, nI_clamp, nI_leI, nI_ltI, nI_eq, le_T, le_F, lt_T, lt_F, eq_T, eq_F, n_i0, n_i1, eq_self, not_true_eq_false, not_false_eq_true, Bool.false_eq_true, ↓reduceIte, if_true, if_false, tm_up_n, tm_up_s, tm_up_i, ite_self, true_and, and_true, false_and, and_false, n_ofN, Nat.reduceAdd, Nat.reduceMul, Nat.reduceSub, Nat.zero_add, m_within, m_finding, m_isRunner, m_isSheet, c4, e1, arS, gS0, gS1, gS2, gS3, pS0, pS1, alS, asS, alU, asU]) (by simp (disch := first | exact tm_inb_i (by omega) (by omega) | exact tm_cc rfl | exact tm_cat rfl | omega | exact nI_ne0 (by omega) (by omega) | exact nI_ne (by omega) (by omega) (by omega) | exact tm_cS (by omega) | assumption) only [n_X12_write, e_al0, e_il1, r_X12_isRunner, e_if_eq, e_il2, e_iconst, r_X12_in, e_if_ne, e_gotow, r_X12_finding, e_iret, g_95_27, e_is3i, e_is3r, e_is3u, e_il3, g_95_28, e_ic_ge, r_X12_findGap, g_95_20, r_X12_heardAt, g_95_19, e_isub, e_idiv, e_is4i, e_is4r, e_is4u, g_95_29, e_imul, e_iadd, e_il4, r_X12_narrowed, e_ii3i, e_ii3r, e_ii3u, e_goto, al_106, as_106, al_107, as_107, al_108, as_108, kn_0, kn_1, kn_2, kn_3, kn_24, b_X12_write_17, b_X12_write_23, b_X12_write_38, b_X12_write_114, Option.bind_some, Option.toList_some, Option.toList_none, List.cons_append, List.nil_append, z_0, nI_add, pk_mul, pk_sub, pk_div, n_mod, nI_clamp, nI_leI, nI_ltI, nI_eq, le_T, le_F, lt_T, lt_F, eq_T, eq_F, n_i0, n_i1, eq_self, not_true_eq_false, not_false_eq_true, Bool.false_eq_true, ↓reduceIte, if_true, if_false, tm_up_n, tm_up_s, tm_up_i, ite_self, true_and, and_true, false_and, and_false, n_ofN, Nat.reduceAdd, Nat.reduceMul, Nat.reduceSub, Nat.zero_add, q_in, q_finding, q_isRunner, k4, e2])
  · obtain ⟨⟨z, hz, f1, f2⟩, f3⟩ := e3 b0
    have hb3 : b = 8 ∨ b = 16 ∨ b = 32 := hb.resolve_left b0
    obtain ⟨M1, r1, r2, r3⟩ := m_wr (d := 996) (l := l) (x := x) (D := M 96) k02 (by omega : r < 12) (by omega : s < 4) hb3 hz z 0 M (by omega) (tm_I_H hI) c0 e1 f1
    obtain ⟨M2, t1, t2, t3, t4⟩ := q_wr (d := 997) (l := l) (x := x) (D := M 96) k0 k02 (by omega : r < 12) (by omega : s < 4) hb3 hz z 0 M1 tm_un (by omega) (r2 96 (by decide) (by omega)) (by rw [r2 106 (by decide) (by omega)]; exact e2) (by rw [r2 107 (by decide) (by omega)]; exact f2)
    have k4' : M1 96 4 = nI R := by rw [r2 96 (by decide) (by omega)]; exact k4
    have e2' : M1 106 s = nI b := by rw [r2 106 (by decide) (by omega)]; exact e2
    refine ⟨nI (wct (M 96) n r z 0), M1, M2, ?_, ?_, ?_⟩
    · simp (disch := first | exact tm_inb_i (by omega) (by omega) | exact tm_cc rfl | exact tm_cat rfl | omega | exact nI_ne0 (by omega) (by omega) | exact nI_ne (by omega) (by omega) (by omega) | exact tm_cS (by omega) | assumption) only [n_X11_write, e_al0, e_il1, r_X11_isRunner, e_if_eq, e_il2, r_X11_isSheet, e_if_ne, e_gotow, e_iconst, r_X11_finding, e_iret, g_0_6, e_as3i, e_as3r, e_as3u, e_al3, g_82_0, g_85_0, g_88_0, g_91_0, e_is4i, e_is4r, e_is4u, e_is5i, e_is5r, e_is5u, e_il5, g_82_1, g_85_1, g_88_1, g_91_1, e_ic_ge, g_0_3, r_X2_findGap, r_X2_gapPace, r_X7_set, e_ii4i, e_ii4r, e_ii4u, e_ii5i, e_ii5r, e_ii5u, e_goto, e_il4, arn_81_0, arn_81_1, arn_81_2, arn_81_3, kn_0, kn_1, kn_2, b_X11_write_16, b_X11_write_22, b_X11_write_42, b_X11_write_92, Option.bind_some, Option.toList_some, Option.toList_none, List.cons_append, List.nil_append, z_0, nI_add, pk_mul, pk_sub, pk_div, n_mod, nI_clamp, nI_leI, nI_ltI, nI_eq, le_T, le_F, lt_T, lt_F, eq_T, eq_F, n_i0, n_i1, eq_self, not_true_eq_false, not_false_eq_true, Bool.false_eq_true, ↓reduceIte, if_true, if_false, tm_up_n, tm_up_s, tm_up_i, ite_self, true_and, and_true, false_and, and_false, n_ofN, Nat.reduceAdd, Nat.reduceMul, Nat.reduceSub, Nat.zero_add, arS, gS0, gS1, gS2, gS3, pS0, pS1, alS, asS, alU, asU, m_isRunner, m_isSheet, c4, e1, r1]
    · simp (disch := first | exact tm_inb_i (by omega) (by omega) | exact tm_cc rfl | exact tm_cat rfl | omega | exact nI_ne0 (by omega) (by omega) | exact nI_ne (by omega) (by omega) (by omega) | exact tm_cS (by omega) | assumption) only [n_X12_write, e_al0, e_il1, r_X12_isRunner, e_if_eq, e_il2, e_iconst, r_X12_in, e_if_ne, e_gotow, r_X12_finding, e_iret, g_95_27, e_is3i, e_is3r, e_is3u, e_il3, g_95_28, e_ic_ge, r_X12_findGap, g_95_20, r_X12_heardAt, g_95_19, e_isub, e_idiv, e_is4i, e_is4r, e_is4u, g_95_29, e_imul, e_iadd, e_il4, r_X12_narrowed, e_ii3i, e_ii3r, e_ii3u, e_goto, al_106, as_106, al_107, as_107, al_108, as_108, kn_0, kn_1, kn_2, kn_3, kn_24, b_X12_write_17, b_X12_write_23, b_X12_write_38, b_X12_write_114, Option.bind_some, Option.toList_some, Option.toList_none, List.cons_append, List.nil_append, z_0, nI_add, pk_mul, pk_sub, pk_div, n_mod, nI_clamp, nI_leI, nI_ltI, nI_eq, le_T, le_F, lt_T, lt_F, eq_T, eq_F, n_i0, n_i1, eq_self, not_true_eq_false, not_false_eq_true, Bool.false_eq_true, ↓reduceIte, if_true, if_false, tm_up_n, tm_up_s, tm_up_i, ite_self, true_and, and_true, false_and, and_false, n_ofN, Nat.reduceAdd, Nat.reduceMul, Nat.reduceSub, Nat.zero_add, q_in, q_isRunner, k4', e2', t1]
    · have hc : ∀ q, q ≠ 75 → q ≠ 83 + 3 * s → q ≠ 95 → q ≠ 108 → M2 q = M q := fun q a1 a2 a3 a4 => by rw [t2 q a3 a4, r2 q a1 a2]
      have hI' : tm_I k (fun c => if c = 83 + 3 * s ∨ c = 108 then M c else M2 c) := by
        refine tm_I_fr0 hI ⟨fun c q => ?_, ?_, ?_, ?_, ?_⟩
        · show (if c = 83 + 3 * s ∨ c = 108 then M c else M2 c) = M c
          by_cases z : c = 83 + 3 * s ∨ c = 108
          · rw [if_pos z]
          · rw [if_neg z]
            exact hc c (fun e => q (by rw [e]; decide)) (fun e => z (Or.inl e)) (fun e => q (by rw [e]; decide)) (fun e => z (Or.inr e))
        · show (if 79 = 83 + 3 * s ∨ 79 = 108 then M 79 else M2 79) 1 = M 79 1
          rw [if_neg (by omega), hc 79 (by omega) (by omega) (by omega) (by omega)]
        · show (if 95 = 83 + 3 * s ∨ 95 = 108 then M 95 else M2 95) 2 = M 95 2
          rw [if_neg (by omega), t3 2 (by decide) (by decide), r2 95 (by decide) (by omega)]
        · show (if 95 = 83 + 3 * s ∨ 95 = 108 then M 95 else M2 95) 3 = M 95 3
          rw [if_neg (by omega), t3 3 (by decide) (by decide), r2 95 (by decide) (by omega)]
        · show (if 95 = 83 + 3 * s ∨ 95 = 108 then M 95 else M2 95) 23 = M 95 23
          rw [if_neg (by omega), t3 23 (by decide) (by decide), r2 95 (by decide) (by omega)]
      refine tm_I_sh hI' (fun c q => ?_) (fun s' hs' => ?_)
      · show M2 c = if c = 83 + 3 * s ∨ c = 108 then M c else M2 c
        rw [if_neg (by omega)]
      · have k1 := tm_rS_all hI s' hs'
        by_cases q : s' = s
        · subst q
          refine ⟨b, hb, by rw [hc _ (by omega) (by omega) (by omega) (by omega)]; exact e1, by rw [hc _ (by omega) (by omega) (by omega) (by omega)]; exact e2, fun _ => ⟨⟨z, hz, by rw [hc _ (by omega) (by omega) (by omega) (by omega)]; exact f1, by rw [hc _ (by omega) (by omega) (by omega) (by omega)]; exact f2⟩, fun i hi => ?_⟩⟩
          rw [t2 _ (by omega) (by omega), r3, t4, r2 108 (by decide) (by omega)]
          unfold tm_tp
          by_cases y : 0 ≤ i ∧ i < wct (M 96) n r z 0
          · rw [if_pos (by omega), if_pos (by omega), Nat.sub_zero, Nat.add_sub_cancel_left]
          · rw [if_neg (by omega), if_neg (by omega)]
            exact f3 i hi
        · refine tm_rS_pt ?_ ?_ ?_ ?_ (fun j hj => ?_) k1
          · exact hc _ (by omega) (by omega) (by omega) (by omega)
          · exact hc _ (by omega) (by omega) (by omega) (by omega)
          · rw [hc 106 (by omega) (by omega) (by omega) (by omega)]
          · rw [hc 107 (by omega) (by omega) (by omega) (by omega)]
          · have hw := wct_ge (M 96) n r z 0
            rw [t4, r2 108 (by decide) (by omega)]
            unfold tm_tp
            rw [if_neg (by omega)]
end TMW
