/-! part 95: the fewest mats, in the class -/
section TFM
variable {d l : Nat} {x : Nat → Int32} {D : Nat → Int32} {n W : Nat} {M : tm_M}
/-- what the class sees of the ways -/
def wE' (M : tm_M) (D : Nat → Int32) (n W : Nat) : Prop := M 2 0 = nI n ∧ M 2 3 = nI W ∧ tm_hW M D ∧ tm_kW D n W ∧ n ≤ 24 ∧ W ≤ 12
theorem wE_cg {M' : tm_M} (f : ∀ c, c ≠ 11 → M' c = M c) (h : wE' M D n W) : wE' M' D n W := by
  obtain ⟨h1, h2, h3, h4⟩ := h
  exact ⟨by rw [f 2 (by decide)]; exact h1, by rw [f 2 (by decide)]; exact h2, fun w hw => by rw [f 5 (by decide), f 6 (by decide), f 7 (by decide), f 8 (by decide), f 9 (by decide)]; exact h3 w hw, h4⟩
theorem m_oe1 (h : wE' M D n W) {p : Nat} (hp : p ≤ 24) : ∀ (c w z : Nat), w + c = W → z ≤ 25 → tm_ev d (tm_blk (Int.toNat 570009)) [.ref 2, .int (nI p), .int (nI z), .int (nI w)] [] (tm_GG l x) M = some (some (.int (nI (oel D p c w z))), tm_GG l x, M) := by
  obtain ⟨h0, h3, hH, hK, hn, hW⟩ := h
  intro c
  induction c with
  | zero =>
    intro w z hw hz
    rw [b_X5_openEnd_9]
    simp (disch := first | exact tm_inb_i (by omega) (by omega) | exact tm_cc rfl | exact tm_cat rfl | omega | exact nI_ne0 (by omega) (by omega) | exact nI_ne (by omega) (by omega) (by omega) | exact tm_cS (by omega) | assumption) only [e_al0, g_2_0, g_36_0, e_iconst, e_iadd, e_is2i, e_is2r, e_is2u, e_is3i, e_is3r, e_is3u, e_gotow, e_il3, g_2_3, g_36_3, e_ic_ge, g_2_6, g_36_6, e_il1, e_ic_lt, g_2_7, g_36_7, e_isub, e_il2, e_mmin, e_ii3i, e_ii3r, e_ii3u, e_goto, e_iret, al_5, al_6, al_39, al_40, kn_0, kn_1, kn_2, b_X5_openEnd_55, b_X5_openEnd_61, Option.bind_some, Option.toList_some, Option.toList_none, List.cons_append, List.nil_append, z_0, nI_add, pk_mul, pk_sub, pk_div, n_mod, nI_clamp, nI_leI, nI_ltI, nI_eq, le_T, le_F, lt_T, lt_F, eq_T, eq_F, n_i0, n_i1, eq_self, not_true_eq_false, not_false_eq_true, Bool.false_eq_true, ↓reduceIte, if_true, if_false, tm_up_n, tm_up_s, tm_up_i, ite_self, true_and, and_true, false_and, and_false, n_ofN, Nat.reduceAdd, Nat.reduceMul, Nat.reduceSub, Nat.zero_add, h3, oel]
  | succ c ih =>
    intro w z hw hz
    obtain ⟨z1, z2, z3, z4, z5, z6, z7, z8, z9⟩ := wv hK hn (show w < W by omega)
    obtain ⟨w1, w2, w3, w4, w5⟩ := hH w (by omega)
    rw [z1] at w1
    rw [z2] at w2
    rw [oel, b_X5_openEnd_9]
    by_cases q1 : p ≤ wF D w
    · by_cases q2 : wF D w + 2 ≤ wT D w
      · have e : wl D p w = true := decide_eq_true ⟨q1, q2⟩
        by_cases q3 : wT D w < z
        · rw [if_pos ⟨e, q3⟩]
          have i1 := ih (w + 1) (wT D w) (by omega) (by omega)
          simp (disch := first | exact tm_inb_i (by omega) (by omega) | exact tm_cc rfl | exact tm_cat rfl | omega | exact nI_ne0 (by omega) (by omega) | exact nI_ne (by omega) (by omega) (by omega) | exact tm_cS (by omega) | assumption) only [e_al0, g_2_0, g_36_0, e_iconst, e_iadd, e_is2i, e_is2r, e_is2u, e_is3i, e_is3r, e_is3u, e_gotow, e_il3, g_2_3, g_36_3, e_ic_ge, g_2_6, g_36_6, e_il1, e_ic_lt, g_2_7, g_36_7, e_isub, e_il2, e_mmin, e_ii3i, e_ii3r, e_ii3u, e_goto, e_iret, al_5, al_6, al_39, al_40, kn_0, kn_1, kn_2, b_X5_openEnd_55, b_X5_openEnd_61, Option.bind_some, Option.toList_some, Option.toList_none, List.cons_append, List.nil_append, z_0, nI_add, pk_mul, pk_sub, pk_div, n_mod, nI_clamp, nI_leI, nI_ltI, nI_eq, le_T, le_F, lt_T, lt_F, eq_T, eq_F, n_i0, n_i1, eq_self, not_true_eq_false, not_false_eq_true, Bool.false_eq_true, ↓reduceIte, if_true, if_false, tm_up_n, tm_up_s, tm_up_i, ite_self, true_and, and_true, false_and, and_false, n_ofN, Nat.reduceAdd, Nat.reduceMul, Nat.reduceSub, Nat.zero_add, h3, w1, w2, i1]
        · rw [if_neg (fun y => q3 y.2)]
          have i1 := ih (w + 1) z (by omega) (by omega)
          simp (disch := first | exact tm_inb_i (by omega) (by omega) | exact tm_cc rfl | exact tm_cat rfl | omega | exact nI_ne0 (by omega) (by omega) | exact nI_ne (by omega) (by omega) (by omega) | exact tm_cS (by omega) | assumption) only [e_al0, g_2_0, g_36_0, e_iconst, e_iadd, e_is2i, e_is2r, e_is2u, e_is3i, e_is3r, e_is3u, e_gotow, e_il3, g_2_3, g_36_3, e_ic_ge, g_2_6, g_36_6, e_il1, e_ic_lt, g_2_7, g_36_7, e_isub, e_il2, e_mmin, e_ii3i, e_ii3r, e_ii3u, e_goto, e_iret, al_5, al_6, al_39, al_40, kn_0, kn_1, kn_2, b_X5_openEnd_55, b_X5_openEnd_61, Option.bind_some, Option.toList_some, Option.toList_none, List.cons_append, List.nil_append, z_0, nI_add, pk_mul, pk_sub, pk_div, n_mod, nI_clamp, nI_leI, nI_ltI, nI_eq, le_T, le_F, lt_T, lt_F, eq_T, eq_F, n_i0, n_i1, eq_self, not_true_eq_false, not_false_eq_true, Bool.false_eq_true, ↓reduceIte, if_true, if_false, tm_up_n, tm_up_s, tm_up_i, ite_self, true_and, and_true, false_and, and_false, n_ofN, Nat.reduceAdd, Nat.reduceMul, Nat.reduceSub, Nat.zero_add, h3, w1, w2, i1]
      · rw [if_neg (fun y => q2 (of_decide_eq_true y.1).2)]
        have i1 := ih (w + 1) z (by omega) (by omega)
        simp (disch := first | exact tm_inb_i (by omega) (by omega) | exact tm_cc rfl | exact tm_cat rfl | omega | exact nI_ne0 (by omega) (by omega) | exact nI_ne (by omega) (by omega) (by omega) | exact tm_cS (by omega) | assumption) only [e_al0, g_2_0, g_36_0, e_iconst, e_iadd, e_is2i, e_is2r, e_is2u, e_is3i, e_is3r, e_is3u, e_gotow, e_il3, g_2_3, g_36_3, e_ic_ge, g_2_6, g_36_6, e_il1, e_ic_lt, g_2_7, g_36_7, e_isub, e_il2, e_mmin, e_ii3i, e_ii3r, e_ii3u, e_goto, e_iret, al_5, al_6, al_39, al_40, kn_0, kn_1, kn_2, b_X5_openEnd_55, b_X5_openEnd_61, Option.bind_some, Option.toList_some, Option.toList_none, List.cons_append, List.nil_append, z_0, nI_add, pk_mul, pk_sub, pk_div, n_mod, nI_clamp, nI_leI, nI_ltI, nI_eq, le_T, le_F, lt_T, lt_F, eq_T, eq_F, n_i0, n_i1, eq_self, not_true_eq_false, not_false_eq_true, Bool.false_eq_true, ↓reduceIte, if_true, if_false, tm_up_n, tm_up_s, tm_up_i, ite_self, true_and, and_true, false_and, and_false, n_ofN, Nat.reduceAdd, Nat.reduceMul, Nat.reduceSub, Nat.zero_add, h3, w1, w2, i1]
    · rw [if_neg (fun y => q1 (of_decide_eq_true y.1).1)]
      have i1 := ih (w + 1) z (by omega) (by omega)
      simp (disch := first | exact tm_inb_i (by omega) (by omega) | exact tm_cc rfl | exact tm_cat rfl | omega | exact nI_ne0 (by omega) (by omega) | exact nI_ne (by omega) (by omega) (by omega) | exact tm_cS (by omega) | assumption) only [e_al0, g_2_0, g_36_0, e_iconst, e_iadd, e_is2i, e_is2r, e_is2u, e_is3i, e_is3r, e_is3u, e_gotow, e_il3, g_2_3, g_36_3, e_ic_ge, g_2_6, g_36_6, e_il1, e_ic_lt, g_2_7, g_36_7, e_isub, e_il2, e_mmin, e_ii3i, e_ii3r, e_ii3u, e_goto, e_iret, al_5, al_6, al_39, al_40, kn_0, kn_1, kn_2, b_X5_openEnd_55, b_X5_openEnd_61, Option.bind_some, Option.toList_some, Option.toList_none, List.cons_append, List.nil_append, z_0, nI_add, pk_mul, pk_sub, pk_div, n_mod, nI_clamp, nI_leI, nI_ltI, nI_eq, le_T, le_F, lt_T, lt_F, eq_T, eq_F, n_i0, n_i1, eq_self, not_true_eq_false, not_false_eq_true, Bool.false_eq_true, ↓reduceIte, if_true, if_false, tm_up_n, tm_up_s, tm_up_i, ite_self, true_and, and_true, false_and, and_false, n_ofN, Nat.reduceAdd, Nat.reduceMul, Nat.reduceSub, Nat.zero_add, h3, w1, w2, i1]
theorem m_oe (h : wE' M D n W) {p : Nat} (hp : p ≤ 24) : tm_call d 57 [.ref 2, .int (nI p)] (tm_GG l x) M = some (some (.int (nI (oe D W n p))), tm_GG l x, M) := by
  have hn := h.2.2.2.2.1
  have h0 := h.1
  have e := m_oe1 (d := d) (l := l) (x := x) h hp W 0 (n + 1) (by omega) (by omega)
  rw [show oel D p W 0 (n + 1) = oe D W n p from rfl] at e
  simp (disch := first | exact tm_inb_i (by omega) (by omega) | exact tm_cc rfl | exact tm_cat rfl | omega | exact nI_ne0 (by omega) (by omega) | exact nI_ne (by omega) (by omega) (by omega) | exact tm_cS (by omega) | assumption) only [n_X5_openEnd, e_al0, g_2_0, g_36_0, e_iconst, e_iadd, e_is2i, e_is2r, e_is2u, e_is3i, e_is3r, e_is3u, e_gotow, e_il3, g_2_3, g_36_3, e_ic_ge, g_2_6, g_36_6, e_il1, e_ic_lt, g_2_7, g_36_7, e_isub, e_il2, e_mmin, e_ii3i, e_ii3r, e_ii3u, e_goto, e_iret, al_5, al_6, al_39, al_40, kn_0, kn_1, kn_2, b_X5_openEnd_55, b_X5_openEnd_61, Option.bind_some, Option.toList_some, Option.toList_none, List.cons_append, List.nil_append, z_0, nI_add, pk_mul, pk_sub, pk_div, n_mod, nI_clamp, nI_leI, nI_ltI, nI_eq, le_T, le_F, lt_T, lt_F, eq_T, eq_F, n_i0, n_i1, eq_self, not_true_eq_false, not_false_eq_true, Bool.false_eq_true, ↓reduceIte, if_true, if_false, tm_up_n, tm_up_s, tm_up_i, ite_self, true_and, and_true, false_and, and_false, n_ofN, Nat.reduceAdd, Nat.reduceMul, Nat.reduceSub, Nat.zero_add, h0, e]
theorem gg_30 {D : Nat → Int32} {W n p : Nat} (hn : n ≤ 24) : gg D W n p ≤ 24 := by
  have := gg_le (D := D) (W := W) (n := n) (p := p)
  omega
theorem m_bn1 {p E : Nat} (hn : n ≤ 24) (hE : E ≤ n) (hM : ∀ m, p < m → m ≤ n → M 11 m = nI (gg D W n m)) : ∀ (c mr be : Nat), mr + c = E → p < be → be ≤ n → p < mr → tm_ev d (tm_blk (Int.toNat 580009)) [.ref 2, .int (nI p), .int (nI E), .int (nI be), .int (nI mr)] [] (tm_GG l x) M = some (some (.int (nI (bnl (gg D W n) c mr be))), tm_GG l x, M) := by
  intro c
  induction c with
  | zero =>
    intro mr be h1 h2 h3 h4
    rw [b_X5_bestNext_9]
    simp (disch := first | exact tm_inb_i (by omega) (by omega) | exact tm_cc rfl | exact tm_cat rfl | omega | exact nI_ne0 (by omega) (by omega) | exact nI_ne (by omega) (by omega) (by omega) | exact tm_cS (by omega) | assumption) only [e_il1, e_iconst, e_iadd, e_is3i, e_is3r, e_is3u, e_is4i, e_is4r, e_is4u, e_gotow, e_il4, e_il2, e_ic_ge, e_al0, g_2_12, g_36_12, e_il3, e_ii4i, e_ii4r, e_ii4u, e_goto, e_iret, al_11, al_45, kn_1, kn_2, b_X5_bestNext_34, b_X5_bestNext_40, Option.bind_some, Option.toList_some, Option.toList_none, List.cons_append, List.nil_append, z_0, nI_add, pk_mul, pk_sub, pk_div, n_mod, nI_clamp, nI_leI, nI_ltI, nI_eq, le_T, le_F, lt_T, lt_F, eq_T, eq_F, n_i0, n_i1, eq_self, not_true_eq_false, not_false_eq_true, Bool.false_eq_true, ↓reduceIte, if_true, if_false, tm_up_n, tm_up_s, tm_up_i, ite_self, true_and, and_true, false_and, and_false, n_ofN, Nat.reduceAdd, Nat.reduceMul, Nat.reduceSub, Nat.zero_add, bnl]
  | succ c ih =>
    intro mr be h1 h2 h3 h4
    have e1 := hM mr h4 (by omega)
    have e2 := hM be h2 h3
    have g1 := gg_30 (D := D) (W := W) (p := mr) hn
    have g2 := gg_30 (D := D) (W := W) (p := be) hn
    rw [bnl, b_X5_bestNext_9]
    by_cases q : gg D W n mr < gg D W n be
    · rw [if_pos q]
      have i1 := ih (mr + 1) mr (by omega) (by omega) (by omega) (by omega)
      simp (disch := first | exact tm_inb_i (by omega) (by omega) | exact tm_cc rfl | exact tm_cat rfl | omega | exact nI_ne0 (by omega) (by omega) | exact nI_ne (by omega) (by omega) (by omega) | exact tm_cS (by omega) | assumption) only [e_il1, e_iconst, e_iadd, e_is3i, e_is3r, e_is3u, e_is4i, e_is4r, e_is4u, e_gotow, e_il4, e_il2, e_ic_ge, e_al0, g_2_12, g_36_12, e_il3, e_ii4i, e_ii4r, e_ii4u, e_goto, e_iret, al_11, al_45, kn_1, kn_2, b_X5_bestNext_34, b_X5_bestNext_40, Option.bind_some, Option.toList_some, Option.toList_none, List.cons_append, List.nil_append, z_0, nI_add, pk_mul, pk_sub, pk_div, n_mod, nI_clamp, nI_leI, nI_ltI, nI_eq, le_T, le_F, lt_T, lt_F, eq_T, eq_F, n_i0, n_i1, eq_self, not_true_eq_false, not_false_eq_true, Bool.false_eq_true, ↓reduceIte, if_true, if_false, tm_up_n, tm_up_s, tm_up_i, ite_self, true_and, and_true, false_and, and_false, n_ofN, Nat.reduceAdd, Nat.reduceMul, Nat.reduceSub, Nat.zero_add, e1, e2, i1]
    · rw [if_neg q]
      have i1 := ih (mr + 1) be (by omega) (by omega) (by omega) (by omega)
      simp (disch := first | exact tm_inb_i (by omega) (by omega) | exact tm_cc rfl | exact tm_cat rfl | omega | exact nI_ne0 (by omega) (by omega) | exact nI_ne (by omega) (by omega) (by omega) | exact tm_cS (by omega) | assumption) only [e_il1, e_iconst, e_iadd, e_is3i, e_is3r, e_is3u, e_is4i, e_is4r, e_is4u, e_gotow, e_il4, e_il2, e_ic_ge, e_al0, g_2_12, g_36_12, e_il3, e_ii4i, e_ii4r, e_ii4u, e_goto, e_iret, al_11, al_45, kn_1, kn_2, b_X5_bestNext_34, b_X5_bestNext_40, Option.bind_some, Option.toList_some, Option.toList_none, List.cons_append, List.nil_append, z_0, nI_add, pk_mul, pk_sub, pk_div, n_mod, nI_clamp, nI_leI, nI_ltI, nI_eq, le_T, le_F, lt_T, lt_F, eq_T, eq_F, n_i0, n_i1, eq_self, not_true_eq_false, not_false_eq_true, Bool.false_eq_true, ↓reduceIte, if_true, if_false, tm_up_n, tm_up_s, tm_up_i, ite_self, true_and, and_true, false_and, and_false, n_ofN, Nat.reduceAdd, Nat.reduceMul, Nat.reduceSub, Nat.zero_add, e1, e2, i1]
theorem m_bn {p : Nat} (hn : n ≤ 24) (ho : oe D W n p ≤ n) (hM : ∀ m, p < m → m ≤ n → M 11 m = nI (gg D W n m)) : tm_call d 58 [.ref 2, .int (nI p), .int (nI (oe D W n p))] (tm_GG l x) M = some (some (.int (nI (nx D W n p))), tm_GG l x, M) := by
  have hl := oe_lo ho
  have e := m_bn1 (d := d) (l := l) (x := x) hn ho hM (oe D W n p - (p + 2)) (p + 2) (p + 1) (by omega) (by omega) (by omega) (by omega)
  rw [bnl_nx hn ho] at e
  simp (disch := first | exact tm_inb_i (by omega) (by omega) | exact tm_cc rfl | exact tm_cat rfl | omega | exact nI_ne0 (by omega) (by omega) | exact nI_ne (by omega) (by omega) (by omega) | exact tm_cS (by omega) | assumption) only [n_X5_bestNext, e_il1, e_iconst, e_iadd, e_is3i, e_is3r, e_is3u, e_is4i, e_is4r, e_is4u, e_gotow, e_il4, e_il2, e_ic_ge, e_al0, g_2_12, g_36_12, e_il3, e_ii4i, e_ii4r, e_ii4u, e_goto, e_iret, al_11, al_45, kn_1, kn_2, b_X5_bestNext_34, b_X5_bestNext_40, Option.bind_some, Option.toList_some, Option.toList_none, List.cons_append, List.nil_append, z_0, nI_add, pk_mul, pk_sub, pk_div, n_mod, nI_clamp, nI_leI, nI_ltI, nI_eq, le_T, le_F, lt_T, lt_F, eq_T, eq_F, n_i0, n_i1, eq_self, not_true_eq_false, not_false_eq_true, Bool.false_eq_true, ↓reduceIte, if_true, if_false, tm_up_n, tm_up_s, tm_up_i, ite_self, true_and, and_true, false_and, and_false, n_ofN, Nat.reduceAdd, Nat.reduceMul, Nat.reduceSub, Nat.zero_add, e]
theorem m_fw1 : ∀ (c : Nat) (v2 : Value) (M : tm_M), c ≤ n + 1 → wE' M D n W → (∀ m, c ≤ m → m ≤ n → M 11 m = nI (gg D W n m)) → ∃ M' v2', tm_ev (d + 1) (tm_blk (Int.toNat 560005)) [.ref 2, .int (im c), v2, tm_un] [] (tm_GG l x) M = tm_ev (d + 1) (tm_blk (Int.toNat 560055)) [.ref 2, .int (-1), v2', tm_un] [] (tm_GG l x) M' ∧ (∀ m, m ≤ n → M' 11 m = nI (gg D W n m)) ∧ ∀ c, c ≠ 11 → M' c = M c := by
  intro c
  induction c with
  | zero =>
    intro v2 M hc h hM
    refine ⟨M, v2, ?_, fun m hm => hM m (Nat.zero_le _) hm, fun _ _ => rfl⟩
    rw [show im 0 = -1 from rfl, b_X5_fewestMats_5]
    simp (disch := first | exact tm_inb_i (by omega) (by omega) | exact tm_cc rfl | exact tm_cat rfl | omega | exact nI_ne0 (by omega) (by omega) | exact nI_ne (by omega) (by omega) (by omega) | exact tm_cS (by omega) | assumption) only [e_al0, g_2_0, g_36_0, e_is1i, e_is1r, e_is1u, e_gotow, e_il1, e_if_lt, r_X5_openEnd, e_is2i, e_is2r, e_is2u, g_2_12, g_36_12, e_iconst, e_il2, e_ic_gt, r_X5_bestNext, e_iadd, e_ii1i, e_ii1r, e_ii1u, e_goto, e_is3i, e_is3r, e_is3u, e_il3, e_ic_ge, e_if_le, e_ishl, e_ior, e_ii3i, e_ii3r, e_ii3u, e_iret, al_11, as_11, al_45, as_45, k_m1, kn_0, kn_1, kn_25, b_X5_fewestMats_49, b_X5_fewestMats_99, Option.bind_some, Option.toList_some, Option.toList_none, List.cons_append, List.nil_append, z_0, nI_add, pk_mul, pk_sub, pk_div, n_mod, nI_clamp, nI_leI, nI_ltI, nI_eq, le_T, le_F, lt_T, lt_F, eq_T, eq_F, n_i0, n_i1, eq_self, not_true_eq_false, not_false_eq_true, Bool.false_eq_true, ↓reduceIte, if_true, if_false, tm_up_n, tm_up_s, tm_up_i, ite_self, true_and, and_true, false_and, and_false, n_ofN, Nat.reduceAdd, Nat.reduceMul, Nat.reduceSub, Nat.zero_add, m1_lt]
  | succ c ih =>
    intro v2 M hc h hM
    have hn := h.2.2.2.2.1
    have h0 := h.1
    have rE := m_oe (d := d) (l := l) (x := x) h (show c ≤ 24 by omega)
    have hoe := oe_le (D := D) (W := W) (n := n) (p := c)
    have i2 : nI c + -1 = im c := im_dec (by omega)
    by_cases ho : oe D W n c ≤ n
    · obtain ⟨n1, n2, n3⟩ := nx_spec hn ho
      have g1 := gg_30 (D := D) (W := W) (p := nx D W n c) hn
      have rB := m_bn (d := d) (l := l) (x := x) (M := tm_up M 11 c (nI 0)) hn ho (fun m a1 a2 => by rw [tm_up_i (by omega)]; exact hM m (by omega) a2)
      have e1 : M 11 (nx D W n c) = nI (gg D W n (nx D W n c)) := hM _ (by omega) (by omega)
      obtain ⟨M', v2', j1, j2, j3⟩ := ih (.int (nI (oe D W n c))) (tm_up (tm_up M 11 c (nI 0)) 11 c (nI (1 + gg D W n (nx D W n c)))) (by omega) (wE_cg (fun c hc => by rw [tm_up_n hc, tm_up_n hc]) h) (fun m a1 a2 => by
        by_cases z : m = c
        · subst z; rw [tm_up_s, n3]
        · rw [tm_up_i z, tm_up_i z]; exact hM m (by omega) a2)
      refine ⟨M', v2', ?_, j2, fun c hc => by rw [j3 c hc, tm_up_n hc, tm_up_n hc]⟩
      conv => lhs; rw [im_s, b_X5_fewestMats_5]
      simp (disch := first | exact tm_inb_i (by omega) (by omega) | exact tm_cc rfl | exact tm_cat rfl | omega | exact nI_ne0 (by omega) (by omega) | exact nI_ne (by omega) (by omega) (by omega) | exact tm_cS (by omega) | assumption) only [e_al0, g_2_0, g_36_0, e_is1i, e_is1r, e_is1u, e_gotow, e_il1, e_if_lt, r_X5_openEnd, e_is2i, e_is2r, e_is2u, g_2_12, g_36_12, e_iconst, e_il2, e_ic_gt, r_X5_bestNext, e_iadd, e_ii1i, e_ii1r, e_ii1u, e_goto, e_is3i, e_is3r, e_is3u, e_il3, e_ic_ge, e_if_le, e_ishl, e_ior, e_ii3i, e_ii3r, e_ii3u, e_iret, al_11, as_11, al_45, as_45, k_m1, kn_0, kn_1, kn_25, b_X5_fewestMats_49, b_X5_fewestMats_99, Option.bind_some, Option.toList_some, Option.toList_none, List.cons_append, List.nil_append, z_0, nI_add, pk_mul, pk_sub, pk_div, n_mod, nI_clamp, nI_leI, nI_ltI, nI_eq, le_T, le_F, lt_T, lt_F, eq_T, eq_F, n_i0, n_i1, eq_self, not_true_eq_false, not_false_eq_true, Bool.false_eq_true, ↓reduceIte, if_true, if_false, tm_up_n, tm_up_s, tm_up_i, ite_self, true_and, and_true, false_and, and_false, n_ofN, Nat.reduceAdd, Nat.reduceMul, Nat.reduceSub, Nat.zero_add, h0, rE, rB, e1, i2, j1]
    · obtain ⟨M', v2', j1, j2, j3⟩ := ih (.int (nI (oe D W n c))) (tm_up M 11 c (nI 0)) (by omega) (wE_cg (fun c hc => tm_up_n hc) h) (fun m a1 a2 => by
        by_cases z : m = c
        · subst z; rw [tm_up_s, gg_f ho]
        · rw [tm_up_i z]; exact hM m (by omega) a2)
      refine ⟨M', v2', ?_, j2, fun c hc => by rw [j3 c hc, tm_up_n hc]⟩
      conv => lhs; rw [im_s, b_X5_fewestMats_5]
      simp (disch := first | exact tm_inb_i (by omega) (by omega) | exact tm_cc rfl | exact tm_cat rfl | omega | exact nI_ne0 (by omega) (by omega) | exact nI_ne (by omega) (by omega) (by omega) | exact tm_cS (by omega) | assumption) only [e_al0, g_2_0, g_36_0, e_is1i, e_is1r, e_is1u, e_gotow, e_il1, e_if_lt, r_X5_openEnd, e_is2i, e_is2r, e_is2u, g_2_12, g_36_12, e_iconst, e_il2, e_ic_gt, r_X5_bestNext, e_iadd, e_ii1i, e_ii1r, e_ii1u, e_goto, e_is3i, e_is3r, e_is3u, e_il3, e_ic_ge, e_if_le, e_ishl, e_ior, e_ii3i, e_ii3r, e_ii3u, e_iret, al_11, as_11, al_45, as_45, k_m1, kn_0, kn_1, kn_25, b_X5_fewestMats_49, b_X5_fewestMats_99, Option.bind_some, Option.toList_some, Option.toList_none, List.cons_append, List.nil_append, z_0, nI_add, pk_mul, pk_sub, pk_div, n_mod, nI_clamp, nI_leI, nI_ltI, nI_eq, le_T, le_F, lt_T, lt_F, eq_T, eq_F, n_i0, n_i1, eq_self, not_true_eq_false, not_false_eq_true, Bool.false_eq_true, ↓reduceIte, if_true, if_false, tm_up_n, tm_up_s, tm_up_i, ite_self, true_and, and_true, false_and, and_false, n_ofN, Nat.reduceAdd, Nat.reduceMul, Nat.reduceSub, Nat.zero_add, h0, rE, i2, j1]
theorem gg_o {D : Nat → Int32} {W n p c : Nat} (hg : gg D W n p = c + 1) : oe D W n p ≤ n := by
  rcases Nat.lt_or_ge n (oe D W n p) with z | z
  · rw [gg_f (by omega)] at hg; omega
  · exact z
theorem m_fw2 (h : wE' M D n W) (hM : ∀ m, m ≤ n → M 11 m = nI (gg D W n m)) : ∀ (c p s i : Nat), gg D W n p = c → i + c ≤ 24 → s < 2 ^ 25 → p ≤ n → tm_ev (d + 1) (tm_blk (Int.toNat 560061)) [.ref 2, .int (nI s), .int (nI p), .int (nI i)] [] (tm_GG l x) M = some (some (.int (nI (mks D W n c p s))), tm_GG l x, M) := by
  have hn := h.2.2.2.2.1
  intro c
  induction c with
  | zero =>
    intro p s i hg hi hs hp
    have e := hM p hp
    rw [hg] at e
    rw [b_X5_fewestMats_61]
    simp (disch := first | exact tm_inb_i (by omega) (by omega) | exact tm_cc rfl | exact tm_cat rfl | omega | exact nI_ne0 (by omega) (by omega) | exact nI_ne (by omega) (by omega) (by omega) | exact tm_cS (by omega) | assumption) only [e_al0, g_2_0, g_36_0, e_is1i, e_is1r, e_is1u, e_gotow, e_il1, e_if_lt, r_X5_openEnd, e_is2i, e_is2r, e_is2u, g_2_12, g_36_12, e_iconst, e_il2, e_ic_gt, r_X5_bestNext, e_iadd, e_ii1i, e_ii1r, e_ii1u, e_goto, e_is3i, e_is3r, e_is3u, e_il3, e_ic_ge, e_if_le, e_ishl, e_ior, e_ii3i, e_ii3r, e_ii3u, e_iret, al_11, as_11, al_45, as_45, k_m1, kn_0, kn_1, kn_25, b_X5_fewestMats_49, b_X5_fewestMats_99, Option.bind_some, Option.toList_some, Option.toList_none, List.cons_append, List.nil_append, z_0, nI_add, pk_mul, pk_sub, pk_div, n_mod, nI_clamp, nI_leI, nI_ltI, nI_eq, le_T, le_F, lt_T, lt_F, eq_T, eq_F, n_i0, n_i1, eq_self, not_true_eq_false, not_false_eq_true, Bool.false_eq_true, ↓reduceIte, if_true, if_false, tm_up_n, tm_up_s, tm_up_i, ite_self, true_and, and_true, false_and, and_false, n_ofN, Nat.reduceAdd, Nat.reduceMul, Nat.reduceSub, Nat.zero_add, e, mks]
  | succ c ih =>
    intro p s i hg hi hs hp
    have e := hM p hp
    rw [hg] at e
    have ho := gg_o hg
    obtain ⟨n1, n2, n3⟩ := nx_spec hn ho
    have rE := m_oe (d := d) (l := l) (x := x) h (show p ≤ 24 by omega)
    have rB := m_bn (d := d) (l := l) (x := x) (M := M) hn ho (fun m a1 a2 => hM m a2)
    have i1 := ih (nx D W n p) (s ||| 2 ^ nx D W n p) (i + 1) (by omega) (by omega) (Nat.or_lt_two_pow hs (Nat.pow_lt_pow_right (by decide) (by omega))) (by omega)
    rw [mks, b_X5_fewestMats_61]
    simp (disch := first | exact tm_inb_i (by omega) (by omega) | exact tm_cc rfl | exact tm_cat rfl | omega | exact nI_ne0 (by omega) (by omega) | exact nI_ne (by omega) (by omega) (by omega) | exact tm_cS (by omega) | assumption) only [e_al0, g_2_0, g_36_0, e_is1i, e_is1r, e_is1u, e_gotow, e_il1, e_if_lt, r_X5_openEnd, e_is2i, e_is2r, e_is2u, g_2_12, g_36_12, e_iconst, e_il2, e_ic_gt, r_X5_bestNext, e_iadd, e_ii1i, e_ii1r, e_ii1u, e_goto, e_is3i, e_is3r, e_is3u, e_il3, e_ic_ge, e_if_le, e_ishl, e_ior, e_ii3i, e_ii3r, e_ii3u, e_iret, al_11, as_11, al_45, as_45, k_m1, kn_0, kn_1, kn_25, b_X5_fewestMats_49, b_X5_fewestMats_99, Option.bind_some, Option.toList_some, Option.toList_none, List.cons_append, List.nil_append, z_0, nI_add, pk_mul, pk_sub, pk_div, n_mod, nI_clamp, nI_leI, nI_ltI, nI_eq, le_T, le_F, lt_T, lt_F, eq_T, eq_F, n_i0, n_i1, eq_self, not_true_eq_false, not_false_eq_true, Bool.false_eq_true, ↓reduceIte, if_true, if_false, tm_up_n, tm_up_s, tm_up_i, ite_self, true_and, and_true, false_and, and_false, n_ofN, Nat.reduceAdd, Nat.reduceMul, Nat.reduceSub, Nat.zero_add, e, rE, rB, n_or, n_shl1, i1]
theorem m_fw (h : wE' M D n W) : ∃ M', tm_call (d + 1) 56 [.ref 2] (tm_GG l x) M = some (some (.int (nI (mks D W n (gg D W n 0) 0 0))), tm_GG l x, M') ∧ ∀ c, c ≠ 11 → M' c = M c := by
  have hn := h.2.2.2.2.1
  have h0 := h.1
  obtain ⟨M', v2', j1, j2, j3⟩ := m_fw1 (d := d) (l := l) (x := x) (n + 1) tm_un M (Nat.le_refl _) h (fun m a1 a2 => by omega)
  rw [im_s] at j1
  have e := m_fw2 (d := d) (l := l) (x := x) (wE_cg j3 h) j2 (gg D W n 0) 0 0 0 rfl (by have := gg_30 (D := D) (W := W) (p := 0) hn; omega) (by decide) (Nat.zero_le _)
  refine ⟨M', ?_, j3⟩
  simp (disch := first | exact tm_inb_i (by omega) (by omega) | exact tm_cc rfl | exact tm_cat rfl | omega | exact nI_ne0 (by omega) (by omega) | exact nI_ne (by omega) (by omega) (by omega) | exact tm_cS (by omega) | assumption) only [n_X5_fewestMats, e_al0, g_2_0, g_36_0, e_is1i, e_is1r, e_is1u, e_gotow, e_il1, e_if_lt, r_X5_openEnd, e_is2i, e_is2r, e_is2u, g_2_12, g_36_12, e_iconst, e_il2, e_ic_gt, r_X5_bestNext, e_iadd, e_ii1i, e_ii1r, e_ii1u, e_goto, e_is3i, e_is3r, e_is3u, e_il3, e_ic_ge, e_if_le, e_ishl, e_ior, e_ii3i, e_ii3r, e_ii3u, e_iret, al_11, as_11, al_45, as_45, k_m1, kn_0, kn_1, kn_25, b_X5_fewestMats_49, b_X5_fewestMats_99, Option.bind_some, Option.toList_some, Option.toList_none, List.cons_append, List.nil_append, z_0, nI_add, pk_mul, pk_sub, pk_div, n_mod, nI_clamp, nI_leI, nI_ltI, nI_eq, le_T, le_F, lt_T, lt_F, eq_T, eq_F, n_i0, n_i1, eq_self, not_true_eq_false, not_false_eq_true, Bool.false_eq_true, ↓reduceIte, if_true, if_false, tm_up_n, tm_up_s, tm_up_i, ite_self, true_and, and_true, false_and, and_false, n_ofN, Nat.reduceAdd, Nat.reduceMul, Nat.reduceSub, Nat.zero_add, h0, j1]
  rw [b_X5_fewestMats_55]
  simp (disch := first | exact tm_inb_i (by omega) (by omega) | exact tm_cc rfl | exact tm_cat rfl | omega | exact nI_ne0 (by omega) (by omega) | exact nI_ne (by omega) (by omega) (by omega) | exact tm_cS (by omega) | assumption) only [e_al0, g_2_0, g_36_0, e_is1i, e_is1r, e_is1u, e_gotow, e_il1, e_if_lt, r_X5_openEnd, e_is2i, e_is2r, e_is2u, g_2_12, g_36_12, e_iconst, e_il2, e_ic_gt, r_X5_bestNext, e_iadd, e_ii1i, e_ii1r, e_ii1u, e_goto, e_is3i, e_is3r, e_is3u, e_il3, e_ic_ge, e_if_le, e_ishl, e_ior, e_ii3i, e_ii3r, e_ii3u, e_iret, al_11, as_11, al_45, as_45, k_m1, kn_0, kn_1, kn_25, b_X5_fewestMats_49, b_X5_fewestMats_99, Option.bind_some, Option.toList_some, Option.toList_none, List.cons_append, List.nil_append, z_0, nI_add, pk_mul, pk_sub, pk_div, n_mod, nI_clamp, nI_leI, nI_ltI, nI_eq, le_T, le_F, lt_T, lt_F, eq_T, eq_F, n_i0, n_i1, eq_self, not_true_eq_false, not_false_eq_true, Bool.false_eq_true, ↓reduceIte, if_true, if_false, tm_up_n, tm_up_s, tm_up_i, ite_self, true_and, and_true, false_and, and_false, n_ofN, Nat.reduceAdd, Nat.reduceMul, Nat.reduceSub, Nat.zero_add, e]
end TFM
