/-! part 52: the loops over the tables are those -/
section TMZ
variable {d l : Nat} {x : Nat → Int32} {D : Nat → Int32} {n W v : Nat}
theorem kn_LG : nI 1000000000 = LG := rfl
theorem tm_hW_uc {M : tm_M} {c : Nat} {f : Nat → Int32} (hc : c = 10 ∨ 34 < c) (h : tm_hW M D) : tm_hW (tm_uc M c f) D := fun w hw => by
  rw [tm_uc_ne _ _ (by omega), tm_uc_ne _ _ (by omega), tm_uc_ne _ _ (by omega), tm_uc_ne _ _ (by omega), tm_uc_ne _ _ (by omega)]
  exact h w hw
theorem cW_gW (kW : tm_kW D n W) (hn : n ≤ 24) {m k t : Nat} (hk : k < W) : ∀ c w f, w + c = W → cW D m k t c w f = gW ixc D 24 W m k t c w f := by
  intro c
  induction c with
  | zero => intro w f _; rfl
  | succ c ih =>
    intro w f hw
    obtain ⟨h1, h2, h3, h4, h5, h6, h7, h8, h9⟩ := wv kW hn (w := w) (by omega)
    unfold cW gW
    rw [ih (w + 1) _ (by omega)]
    by_cases q : wF D w = m
    · rw [if_pos q, if_pos ⟨q, by omega, hk⟩]
      rfl
    · rw [if_neg q, if_neg (fun z => q z.1)]
theorem m_gow (kW : tm_kW D n W) (hn : n ≤ 24) (hW12 : W ≤ 12) {g m t : Nat} (hg : g ≤ W) (hm : m ≤ 24) (ht : t ≤ 200000) {M : tm_M} (hW : tm_hW M D) (c3 : M 2 3 = nI W) : tm_call (d + 2) 52 [.ref 2, .int (nI g), .int (nI m), .int (nI t)] (tm_GG l x) M = some (none, tm_GG l x, tm_uc M 10 (gW ixc D 24 W m g t W 0 (M 10))) := by
  by_cases q : g < W
  · have := m_gw (d := d) (l := l) (x := x) kW hn hW12 q hm ht W 0 M (by omega) hW c3
    rw [← cW_gW kW hn q W 0 _ (by omega)]
    simp (disch := first | exact tm_inb_i (by omega) (by omega) | exact tm_cc rfl | exact tm_cat rfl | omega | exact nI_ne0 (by omega) (by omega) | exact nI_ne (by omega) (by omega) (by omega) | assumption) only [n_X5_goOnByWays, e_iconst, e_is4i, e_is4r, e_is4u, e_gotow, e_il4, e_al0, g_2_3, g_36_3, e_ic_ge, e_il1, g_2_6, g_36_6, e_il2, e_ic_ne, e_iadd, g_2_7, g_36_7, e_il3, r_X5_arrival, r_X5_arrive, e_ii4i, e_ii4r, e_ii4u, e_goto, e_vret, al_5, al_6, al_39, al_40, kn_0, kn_1, b_X5_goOnByWays_52, b_X5_goOnByWays_58, Option.bind_some, Option.toList_some, Option.toList_none, List.cons_append, List.nil_append, z_0, nI_add, pk_mul, pk_sub, pk_div, n_mod, nI_clamp, nI_leI, nI_ltI, nI_eq, le_T, le_F, lt_T, lt_F, eq_T, eq_F, n_i0, n_i1, eq_self, not_true_eq_false, not_false_eq_true, Bool.false_eq_true, ↓reduceIte, if_true, if_false, tm_up_n, tm_up_s, tm_up_i, ite_self, true_and, and_true, false_and, and_false, n_ofN, Nat.reduceAdd, Nat.reduceMul, Nat.reduceSub, Nat.zero_add, this]
  · obtain rfl : g = W := by omega
    rw [gW_no g 0 _ (fun u a b _ _ z => q z), tm_uc_same _ _ _ rfl]
    exact m_gw0 (t := t) hW12 c3
theorem m_rK (kW : tm_kW D n W) (hn : n ≤ 24) (hW12 : W ≤ 12) (hv : v ≤ 60) {m : Nat} (hm : m < n) {a1 a2 : Int32} : ∀ (c k : Nat) (M : tm_M) (v6 : Value), k + c = W + 1 → tm_hW M D → M 2 3 = nI W → M 2 0 = nI n → okT ixc D W (M 10) → ∃ v6', tm_ev (d + 3) (tm_blk (Int.toNat 510031)) [.ref 2, .int a1, .int a2, .int (nI v), .int (nI m), .int (nI k), v6] [] (tm_GG l x) M = tm_ev (d + 3) (tm_blk (Int.toNat 510019)) [.ref 2, .int a1, .int a2, .int (nI v), .int (nI (m + 1)), .int (nI (W + 1)), v6'] [] (tm_GG l x) (tm_uc M 10 (gK ixc D W 24 W v m c k (M 10))) := by
  intro c
  induction c with
  | zero =>
    intro k M v6 h hW c3 c0 hok
    obtain rfl : k = W + 1 := by omega
    refine ⟨v6, ?_⟩
    rw [b_X5_reach_31]
    unfold gK
    simp (disch := first | exact tm_inb_i (by omega) (by omega) | exact tm_cc rfl | exact tm_cat rfl | omega | exact nI_ne0 (by omega) (by omega) | exact nI_ne (by omega) (by omega) (by omega) | assumption) only [e_al0, g_2_11, g_36_11, e_iconst, r_J7_fill_53178, e_il1, e_il2, e_is4i, e_is4r, e_is4u, e_gotow, e_il4, g_2_0, g_36_0, e_ic_ge, e_is5i, e_is5r, e_is5u, e_il5, g_2_3, g_36_3, e_ic_gt, e_imul, e_iadd, e_is6i, e_is6r, e_is6u, e_il6, e_ic_ne, e_goto, e_il3, e_if_le, r_X5_arrive, r_X5_goOnByWays, e_ii5i, e_ii5r, e_ii5u, e_ii4i, e_ii4r, e_ii4u, e_vret, al_10, as_10, al_44, as_44, kn_0, kn_1, kn_25, kn_1000000000, b_X5_reach_65, b_X5_reach_83, b_X5_reach_93, b_X5_reach_99, b_X5_reach_105, Option.bind_some, Option.toList_some, Option.toList_none, List.cons_append, List.nil_append, z_0, nI_add, pk_mul, pk_sub, pk_div, n_mod, nI_clamp, nI_leI, nI_ltI, nI_eq, le_T, le_F, lt_T, lt_F, eq_T, eq_F, n_i0, n_i1, eq_self, not_true_eq_false, not_false_eq_true, Bool.false_eq_true, ↓reduceIte, if_true, if_false, tm_up_n, tm_up_s, tm_up_i, ite_self, true_and, and_true, false_and, and_false, n_ofN, Nat.reduceAdd, Nat.reduceMul, Nat.reduceSub, Nat.zero_add, c3]
    rw [tm_uc_same _ _ _ rfl]
  | succ c ih =>
    intro k M v6 h hW c3 c0 hok
    have hk : k ≤ 12 := by omega
    have hix : k * 25 + m < 325 := by omega
    unfold gK gS
    by_cases q : M 10 (ixc k m) = LG
    · rw [if_pos q]
      have q' : M 10 (k * 25 + m) = LG := q
      obtain ⟨v6', e⟩ := ih (k + 1) M (.int LG) (by omega) hW c3 c0 hok
      refine ⟨v6', ?_⟩
      rw [b_X5_reach_31]
      simp (disch := first | exact tm_inb_i (by omega) (by omega) | exact tm_cc rfl | exact tm_cat rfl | omega | exact nI_ne0 (by omega) (by omega) | exact nI_ne (by omega) (by omega) (by omega) | assumption) only [e_al0, g_2_11, g_36_11, e_iconst, r_J7_fill_53178, e_il1, e_il2, e_is4i, e_is4r, e_is4u, e_gotow, e_il4, g_2_0, g_36_0, e_ic_ge, e_is5i, e_is5r, e_is5u, e_il5, g_2_3, g_36_3, e_ic_gt, e_imul, e_iadd, e_is6i, e_is6r, e_is6u, e_il6, e_ic_ne, e_goto, e_il3, e_if_le, r_X5_arrive, r_X5_goOnByWays, e_ii5i, e_ii5r, e_ii5u, e_ii4i, e_ii4r, e_ii4u, e_vret, al_10, as_10, al_44, as_44, kn_0, kn_1, kn_25, kn_1000000000, b_X5_reach_65, b_X5_reach_83, b_X5_reach_93, b_X5_reach_99, b_X5_reach_105, Option.bind_some, Option.toList_some, Option.toList_none, List.cons_append, List.nil_append, z_0, nI_add, pk_mul, pk_sub, pk_div, n_mod, nI_clamp, nI_leI, nI_ltI, nI_eq, le_T, le_F, lt_T, lt_F, eq_T, eq_F, n_i0, n_i1, eq_self, not_true_eq_false, not_false_eq_true, Bool.false_eq_true, ↓reduceIte, if_true, if_false, tm_up_n, tm_up_s, tm_up_i, ite_self, true_and, and_true, false_and, and_false, n_ofN, Nat.reduceAdd, Nat.reduceMul, Nat.reduceSub, Nat.zero_add, kn_LG, c3, q', e]
    · rw [if_neg q]
      obtain ⟨e1, e2, e3⟩ := okE_t (by omega) (hok k m hk (by omega)) q
      generalize hT : (M 10 (ixc k m)).toNatClampNeg = t at *
      have q1 : M 10 (k * 25 + m) = nI t := e1
      have q' : ¬ nI t = LG := by rw [← e1]; exact q
      have hF := gF_ok (W := W) inj_c hv (by omega : m < 24) hk e2 e3 hok
      have hG := gW_ok (lim := 24) inj_c kW hn hW12 (by omega : m < 24) hk e2 e3 W 0 _ (by omega) hF
      obtain ⟨v6', e⟩ := ih (k + 1) (tm_uc M 10 (gW ixc D 24 W m k t W 0 (gF ixc v m k t (M 10)))) (.int (nI t)) (by omega) (tm_hW_uc (Or.inl rfl) hW) (by rw [tm_uc_ne _ _ (by decide)]; exact c3) (by rw [tm_uc_ne _ _ (by decide)]; exact c0) (by rw [tm_uc_at]; exact hG)
      rw [tm_uc_at, tm_uc_uc] at e
      refine ⟨v6', ?_⟩
      by_cases hv0 : 0 < v
      · have hup : tm_hW (tm_up M 10 (k * 25 + (m + 1)) (mnI (M 10 (k * 25 + (m + 1))) (nI (t + v)))) D := tm_hW_uc (Or.inl rfl) hW
        have g1 := m_gow (d := d) (l := l) (x := x) kW hn hW12 (g := k) (m := m) (t := t) (by omega) (by omega) (by omega) hup (by rw [tm_up_n (by decide)]; exact c3)
        have g2 : gF ixc v m k t (M 10) = upd (M 10) (k * 25 + (m + 1)) (mnI (M 10 (k * 25 + (m + 1))) (nI (t + v))) := if_pos hv0
        rw [tm_up_at, tm_uc_up] at g1
        rw [g2] at e
        rw [b_X5_reach_31]
        simp (disch := first | exact tm_inb_i (by omega) (by omega) | exact tm_cc rfl | exact tm_cat rfl | omega | exact nI_ne0 (by omega) (by omega) | exact nI_ne (by omega) (by omega) (by omega) | assumption) only [e_al0, g_2_11, g_36_11, e_iconst, r_J7_fill_53178, e_il1, e_il2, e_is4i, e_is4r, e_is4u, e_gotow, e_il4, g_2_0, g_36_0, e_ic_ge, e_is5i, e_is5r, e_is5u, e_il5, g_2_3, g_36_3, e_ic_gt, e_imul, e_iadd, e_is6i, e_is6r, e_is6u, e_il6, e_ic_ne, e_goto, e_il3, e_if_le, r_X5_arrive, r_X5_goOnByWays, e_ii5i, e_ii5r, e_ii5u, e_ii4i, e_ii4r, e_ii4u, e_vret, al_10, as_10, al_44, as_44, kn_0, kn_1, kn_25, kn_1000000000, b_X5_reach_65, b_X5_reach_83, b_X5_reach_93, b_X5_reach_99, b_X5_reach_105, Option.bind_some, Option.toList_some, Option.toList_none, List.cons_append, List.nil_append, z_0, nI_add, pk_mul, pk_sub, pk_div, n_mod, nI_clamp, nI_leI, nI_ltI, nI_eq, le_T, le_F, lt_T, lt_F, eq_T, eq_F, n_i0, n_i1, eq_self, not_true_eq_false, not_false_eq_true, Bool.false_eq_true, ↓reduceIte, if_true, if_false, tm_up_n, tm_up_s, tm_up_i, ite_self, true_and, and_true, false_and, and_false, n_ofN, Nat.reduceAdd, Nat.reduceMul, Nat.reduceSub, Nat.zero_add, kn_LG, c3, q1, q', m_arrive, g1, g2, e]
      · have g1 := m_gow (d := d) (l := l) (x := x) kW hn hW12 (g := k) (m := m) (t := t) (by omega) (by omega) (by omega) hW c3
        have g2 : gF ixc v m k t (M 10) = M 10 := if_neg hv0
        rw [g2] at e
        rw [b_X5_reach_31]
        simp (disch := first | exact tm_inb_i (by omega) (by omega) | exact tm_cc rfl | exact tm_cat rfl | omega | exact nI_ne0 (by omega) (by omega) | exact nI_ne (by omega) (by omega) (by omega) | assumption) only [e_al0, g_2_11, g_36_11, e_iconst, r_J7_fill_53178, e_il1, e_il2, e_is4i, e_is4r, e_is4u, e_gotow, e_il4, g_2_0, g_36_0, e_ic_ge, e_is5i, e_is5r, e_is5u, e_il5, g_2_3, g_36_3, e_ic_gt, e_imul, e_iadd, e_is6i, e_is6r, e_is6u, e_il6, e_ic_ne, e_goto, e_il3, e_if_le, r_X5_arrive, r_X5_goOnByWays, e_ii5i, e_ii5r, e_ii5u, e_ii4i, e_ii4r, e_ii4u, e_vret, al_10, as_10, al_44, as_44, kn_0, kn_1, kn_25, kn_1000000000, b_X5_reach_65, b_X5_reach_83, b_X5_reach_93, b_X5_reach_99, b_X5_reach_105, Option.bind_some, Option.toList_some, Option.toList_none, List.cons_append, List.nil_append, z_0, nI_add, pk_mul, pk_sub, pk_div, n_mod, nI_clamp, nI_leI, nI_ltI, nI_eq, le_T, le_F, lt_T, lt_F, eq_T, eq_F, n_i0, n_i1, eq_self, not_true_eq_false, not_false_eq_true, Bool.false_eq_true, ↓reduceIte, if_true, if_false, tm_up_n, tm_up_s, tm_up_i, ite_self, true_and, and_true, false_and, and_false, n_ofN, Nat.reduceAdd, Nat.reduceMul, Nat.reduceSub, Nat.zero_add, kn_LG, c3, q1, q', g1, g2, e]
theorem m_rM (kW : tm_kW D n W) (hn : n ≤ 24) (hW12 : W ≤ 12) (hv : v ≤ 60) {a1 a2 : Int32} : ∀ (c m : Nat) (M : tm_M) (v5 v6 : Value), m + c = n → tm_hW M D → M 2 3 = nI W → M 2 0 = nI n → okT ixc D W (M 10) → tm_ev (d + 3) (tm_blk (Int.toNat 510019)) [.ref 2, .int a1, .int a2, .int (nI v), .int (nI m), v5, v6] [] (tm_GG l x) M = some (none, tm_GG l x, tm_uc M 10 (gM ixc D W 24 W v (W + 1) c m (M 10))) := by
  intro c
  induction c with
  | zero =>
    intro m M v5 v6 h hW c3 c0 hok
    rw [b_X5_reach_19]
    unfold gM
    simp (disch := first | exact tm_inb_i (by omega) (by omega) | exact tm_cc rfl | exact tm_cat rfl | omega | exact nI_ne0 (by omega) (by omega) | exact nI_ne (by omega) (by omega) (by omega) | assumption) only [e_al0, g_2_11, g_36_11, e_iconst, r_J7_fill_53178, e_il1, e_il2, e_is4i, e_is4r, e_is4u, e_gotow, e_il4, g_2_0, g_36_0, e_ic_ge, e_is5i, e_is5r, e_is5u, e_il5, g_2_3, g_36_3, e_ic_gt, e_imul, e_iadd, e_is6i, e_is6r, e_is6u, e_il6, e_ic_ne, e_goto, e_il3, e_if_le, r_X5_arrive, r_X5_goOnByWays, e_ii5i, e_ii5r, e_ii5u, e_ii4i, e_ii4r, e_ii4u, e_vret, al_10, as_10, al_44, as_44, kn_0, kn_1, kn_25, kn_1000000000, b_X5_reach_65, b_X5_reach_83, b_X5_reach_93, b_X5_reach_99, b_X5_reach_105, Option.bind_some, Option.toList_some, Option.toList_none, List.cons_append, List.nil_append, z_0, nI_add, pk_mul, pk_sub, pk_div, n_mod, nI_clamp, nI_leI, nI_ltI, nI_eq, le_T, le_F, lt_T, lt_F, eq_T, eq_F, n_i0, n_i1, eq_self, not_true_eq_false, not_false_eq_true, Bool.false_eq_true, ↓reduceIte, if_true, if_false, tm_up_n, tm_up_s, tm_up_i, ite_self, true_and, and_true, false_and, and_false, n_ofN, Nat.reduceAdd, Nat.reduceMul, Nat.reduceSub, Nat.zero_add, c0]
    rw [tm_uc_same _ _ _ rfl]
  | succ c ih =>
    intro m M v5 v6 h hW c3 c0 hok
    obtain ⟨v6', e⟩ := m_rK (d := d) (l := l) (x := x) kW hn hW12 hv (m := m) (a1 := a1) (a2 := a2) (by omega) (W + 1) 0 M v6 (by omega) hW c3 c0 hok
    have e2 := ih (m + 1) (tm_uc M 10 (gK ixc D W 24 W v m (W + 1) 0 (M 10))) (.int (nI (W + 1))) v6' (by omega) (tm_hW_uc (Or.inl rfl) hW) (by rw [tm_uc_ne _ _ (by decide)]; exact c3) (by rw [tm_uc_ne _ _ (by decide)]; exact c0) (by rw [tm_uc_at]; exact gK_ok inj_c kW hn hW12 hv (by omega) (W + 1) 0 _ (by omega) hok)
    rw [tm_uc_at, tm_uc_uc] at e2
    rw [b_X5_reach_19]
    unfold gM
    simp (disch := first | exact tm_inb_i (by omega) (by omega) | exact tm_cc rfl | exact tm_cat rfl | omega | exact nI_ne0 (by omega) (by omega) | exact nI_ne (by omega) (by omega) (by omega) | assumption) only [e_al0, g_2_11, g_36_11, e_iconst, r_J7_fill_53178, e_il1, e_il2, e_is4i, e_is4r, e_is4u, e_gotow, e_il4, g_2_0, g_36_0, e_ic_ge, e_is5i, e_is5r, e_is5u, e_il5, g_2_3, g_36_3, e_ic_gt, e_imul, e_iadd, e_is6i, e_is6r, e_is6u, e_il6, e_ic_ne, e_goto, e_il3, e_if_le, r_X5_arrive, r_X5_goOnByWays, e_ii5i, e_ii5r, e_ii5u, e_ii4i, e_ii4r, e_ii4u, e_vret, al_10, as_10, al_44, as_44, kn_0, kn_1, kn_25, kn_1000000000, b_X5_reach_65, b_X5_reach_83, b_X5_reach_93, b_X5_reach_99, b_X5_reach_105, Option.bind_some, Option.toList_some, Option.toList_none, List.cons_append, List.nil_append, z_0, nI_add, pk_mul, pk_sub, pk_div, n_mod, nI_clamp, nI_leI, nI_ltI, nI_eq, le_T, le_F, lt_T, lt_F, eq_T, eq_F, n_i0, n_i1, eq_self, not_true_eq_false, not_false_eq_true, Bool.false_eq_true, ↓reduceIte, if_true, if_false, tm_up_n, tm_up_s, tm_up_i, ite_self, true_and, and_true, false_and, and_false, n_ofN, Nat.reduceAdd, Nat.reduceMul, Nat.reduceSub, Nat.zero_add, c0, e, e2]
def f0c (f : Nat → Int32) (fr t : Nat) : Nat → Int32 := upd (tm_fil LG 0 325 f) fr (nI t)
theorem okT_0c {f : Nat → Int32} {fr t : Nat} (hfr : fr ≤ 24) (ht : t ≤ 100000) : okT ixc D W (f0c f fr t) := by
  intro k m hk hm
  unfold f0c
  by_cases q : ixc k m = fr
  · have : k = 0 ∧ m = fr := by unfold ixc at q; omega
    obtain ⟨rfl, rfl⟩ := this
    rw [q, upd_s]
    exact Or.inr ⟨t, rfl, by omega, by omega⟩
  · rw [upd_n q]
    exact Or.inl (fil_p (by unfold ixc; omega))
theorem m_reach (kW : tm_kW D n W) (hn : n ≤ 24) (hW12 : W ≤ 12) (hv : v ≤ 60) {M : tm_M} {fr t : Nat} (hfr : fr ≤ n) (ht : t ≤ 100000) (hW : tm_hW M D) (c3 : M 2 3 = nI W) (c0 : M 2 0 = nI n) : tm_call (d + 3) 51 [.ref 2, .int (nI fr), .int (nI t), .int (nI v)] (tm_GG l x) M = some (none, tm_GG l x, tm_uc M 10 (gM ixc D W 24 W v (W + 1) (n - fr) fr (f0c (M 10) fr t))) := by
  have e := m_rM (d := d) (l := l) (x := x) kW hn hW12 hv (a1 := nI fr) (a2 := nI t) (n - fr) fr (tm_uc M 10 (f0c (M 10) fr t)) tm_un tm_un (by omega) (tm_hW_uc (Or.inl rfl) hW) (by rw [tm_uc_ne _ _ (by decide)]; exact c3) (by rw [tm_uc_ne _ _ (by decide)]; exact c0) (by rw [tm_uc_at]; exact okT_0c (by omega) ht)
  rw [tm_uc_at, tm_uc_uc] at e
  have e0 : tm_up (tm_uc M 10 (tm_fil LG 0 325 (M 10))) 10 fr (nI t) = tm_uc M 10 (f0c (M 10) fr t) := by
    rw [tm_up_uc, tm_uc_at, tm_uc_uc]
    rfl
  have hfr2 : fr < 325 := by omega
  simp (disch := first | exact tm_inb_i (by omega) (by omega) | exact tm_cc rfl | exact tm_cat rfl | omega | exact nI_ne0 (by omega) (by omega) | exact nI_ne (by omega) (by omega) (by omega) | assumption) only [n_X5_reach, e_al0, g_2_11, g_36_11, e_iconst, r_J7_fill_53178, e_il1, e_il2, e_is4i, e_is4r, e_is4u, e_gotow, e_il4, g_2_0, g_36_0, e_ic_ge, e_is5i, e_is5r, e_is5u, e_il5, g_2_3, g_36_3, e_ic_gt, e_imul, e_iadd, e_is6i, e_is6r, e_is6u, e_il6, e_ic_ne, e_goto, e_il3, e_if_le, r_X5_arrive, r_X5_goOnByWays, e_ii5i, e_ii5r, e_ii5u, e_ii4i, e_ii4r, e_ii4u, e_vret, al_10, as_10, al_44, as_44, kn_0, kn_1, kn_25, kn_1000000000, b_X5_reach_65, b_X5_reach_83, b_X5_reach_93, b_X5_reach_99, b_X5_reach_105, Option.bind_some, Option.toList_some, Option.toList_none, List.cons_append, List.nil_append, z_0, nI_add, pk_mul, pk_sub, pk_div, n_mod, nI_clamp, nI_leI, nI_ltI, nI_eq, le_T, le_F, lt_T, lt_F, eq_T, eq_F, n_i0, n_i1, eq_self, not_true_eq_false, not_false_eq_true, Bool.false_eq_true, ↓reduceIte, if_true, if_false, tm_up_n, tm_up_s, tm_up_i, ite_self, true_and, and_true, false_and, and_false, n_ofN, Nat.reduceAdd, Nat.reduceMul, Nat.reduceSub, Nat.zero_add, kn_LG, m_fill_10, e0, e]
/-! the reference's -/
def qWs (M : tm_M) (D : Nat → Int32) : Prop := M 96 = D
theorem q_tW (kW : tm_kW D n W) (hn : n ≤ 24) (hW12 : W ≤ 12) {to m k t : Nat} {a1 a2 a3 a8 : Int32} (k3 : D 3 = nI W) (hto : to ≤ 24) (hm : m ≤ 24) (hk : k ≤ 12) (ht : t ≤ 200000) : ∀ (c w : Nat) (M : tm_M) (v10 v11 : Value), w + c = W → M 96 = D → ∃ v10' v11', tm_ev (d + 2) (tm_blk (Int.toNat 1840134)) [.ref 95, .int a1, .int a2, .int (nI to), .int a3, .int (nI m), .int (nI k), .int (nI t), .int a8, .int (nI w), v10, v11] [] (tm_GG l x) M = tm_ev (d + 2) (tm_blk (Int.toNat 1840048)) [.ref 95, .int a1, .int a2, .int (nI to), .int a3, .int (nI m), .int (nI (k + 1)), .int (nI t), .int a8, .int (nI W), v10', v11'] [] (tm_GG l x) (tm_uc M 101 (gW ixr D to 12 m k t c w (M 101))) := by
  intro c
  induction c with
  | zero =>
    intro w M v10 v11 h hM
    have k3' : M 96 3 = nI W := by rw [hM]; exact k3
    obtain rfl : w = W := by omega
    refine ⟨v10, v11, ?_⟩
    rw [b_X12_findThere_134]
    unfold gW
    simp (disch := first | exact tm_inb_i (by omega) (by omega) | exact tm_cc rfl | exact tm_cat rfl | omega | exact nI_ne0 (by omega) (by omega) | exact nI_ne (by omega) (by omega) (by omega) | assumption) only [e_iconst, e_is5i, e_is5r, e_is5u, e_gotow, e_il5, e_ic_ge, e_al0, g_95_12, e_ii5i, e_ii5r, e_ii5u, e_goto, e_il1, e_imul, e_il2, e_il3, e_is6i, e_is6r, e_is6u, e_il6, e_ic_gt, e_iadd, e_is7i, e_is7r, e_is7u, e_il7, e_is8i, e_is8r, e_is8u, e_il8, e_il4, e_if_le, e_is9i, e_is9r, e_is9u, e_il9, g_95_0, r_X12_wa, e_ic_ne, e_is10i, e_is10r, e_is10u, r_X12_leaves, e_is11i, e_is11r, e_is11u, e_il10, e_il11, e_ii9i, e_ii9r, e_ii9u, e_ii6i, e_ii6r, e_ii6u, e_vret, al_96, as_96, al_101, as_101, kn_0, kn_1, kn_2, kn_3, kn_12, kn_13, kn_325, kn_1000000000, b_X12_findThere_3, b_X12_findThere_26, b_X12_findThere_39, b_X12_findThere_123, b_X12_findThere_130, b_X12_findThere_233, b_X12_findThere_240, b_X12_findThere_241, b_X12_findThere_247, b_X12_findThere_253, b_X12_findThere_259, Option.bind_some, Option.toList_some, Option.toList_none, List.cons_append, List.nil_append, z_0, nI_add, pk_mul, pk_sub, pk_div, n_mod, nI_clamp, nI_leI, nI_ltI, nI_eq, le_T, le_F, lt_T, lt_F, eq_T, eq_F, n_i0, n_i1, eq_self, not_true_eq_false, not_false_eq_true, Bool.false_eq_true, ↓reduceIte, if_true, if_false, tm_up_n, tm_up_s, tm_up_i, ite_self, true_and, and_true, false_and, and_false, n_ofN, Nat.reduceAdd, Nat.reduceMul, Nat.reduceSub, Nat.zero_add, k3']
    rw [tm_uc_same _ _ _ rfl]
  | succ c ih =>
    intro w M v10 v11 h hM
    have k3' : M 96 3 = nI W := by rw [hM]; exact k3
    have hw : w < W := by omega
    have hw12 : w < 12 := by omega
    obtain ⟨h1, h2, h3, h4, h5, h6, h7, h8, h9⟩ := wv kW hn hw
    have hl := lvN_le (t := t) kW hn hw
    have g1 : M 96 (84 + 5 * w + 0) = nI (wF D w) := by rw [hM]; exact h1
    have g2 : M 96 (84 + 5 * w + 1) = nI (wT D w) := by rw [hM, show 84 + 5 * w + 1 = 85 + 5 * w by omega]; exact h2
    have g3 : M 96 (84 + 5 * w + 2) = nI (wM D w) := by rw [hM, show 84 + 5 * w + 2 = 86 + 5 * w by omega]; exact h3
    unfold gW
    by_cases q : wF D w = m
    · by_cases q2 : wT D w ≤ to
      · by_cases q3 : k < 12
        · have hix : 13 * wT D w + k + 1 < 325 := by omega
          rw [if_pos ⟨q, q2, q3⟩]
          obtain ⟨v10', v11', e⟩ := ih (w + 1) (tm_up M 101 (13 * wT D w + k + 1) (mnI (M 101 (13 * wT D w + k + 1)) (nI (lvN D w t + wM D w)))) (.int (nI (13 * wT D w + k + 1))) (.int (nI (lvN D w t + wM D w))) (by omega) (by rw [tm_up_n (by decide)]; exact hM)
          rw [tm_up_at, tm_uc_up] at e
          refine ⟨v10', v11', ?_⟩
          have eL := q_leaves (d := d) (l := l) (x := x) (M := M) hM kW hn hW12 hw (t := t) ht
          rw [b_X12_findThere_134]
          show _ = tm_ev _ _ _ _ _ (tm_uc M 101 (gW ixr D to 12 m k t c (w + 1) (upd (M 101) (13 * wT D w + k + 1) (mnI (M 101 (13 * wT D w + k + 1)) (nI (lvN D w t + wM D w))))))
          rw [← e]
          by_cases q4 : nI (lvN D w t + wM D w) < M 101 (13 * wT D w + k + 1)
          · have em : mnI (M 101 (13 * wT D w + k + 1)) (nI (lvN D w t + wM D w)) = nI (lvN D w t + wM D w) := if_pos q4
            simp (disch := first | exact tm_inb_i (by omega) (by omega) | exact tm_cc rfl | exact tm_cat rfl | omega | exact nI_ne0 (by omega) (by omega) | exact nI_ne (by omega) (by omega) (by omega) | assumption) only [e_iconst, e_is5i, e_is5r, e_is5u, e_gotow, e_il5, e_ic_ge, e_al0, g_95_12, e_ii5i, e_ii5r, e_ii5u, e_goto, e_il1, e_imul, e_il2, e_il3, e_is6i, e_is6r, e_is6u, e_il6, e_ic_gt, e_iadd, e_is7i, e_is7r, e_is7u, e_il7, e_is8i, e_is8r, e_is8u, e_il8, e_il4, e_if_le, e_is9i, e_is9r, e_is9u, e_il9, g_95_0, r_X12_wa, e_ic_ne, e_is10i, e_is10r, e_is10u, r_X12_leaves, e_is11i, e_is11r, e_is11u, e_il10, e_il11, e_ii9i, e_ii9r, e_ii9u, e_ii6i, e_ii6r, e_ii6u, e_vret, al_96, as_96, al_101, as_101, kn_0, kn_1, kn_2, kn_3, kn_12, kn_13, kn_325, kn_1000000000, b_X12_findThere_3, b_X12_findThere_26, b_X12_findThere_39, b_X12_findThere_123, b_X12_findThere_130, b_X12_findThere_233, b_X12_findThere_240, b_X12_findThere_241, b_X12_findThere_247, b_X12_findThere_253, b_X12_findThere_259, Option.bind_some, Option.toList_some, Option.toList_none, List.cons_append, List.nil_append, z_0, nI_add, pk_mul, pk_sub, pk_div, n_mod, nI_clamp, nI_leI, nI_ltI, nI_eq, le_T, le_F, lt_T, lt_F, eq_T, eq_F, n_i0, n_i1, eq_self, not_true_eq_false, not_false_eq_true, Bool.false_eq_true, ↓reduceIte, if_true, if_false, tm_up_n, tm_up_s, tm_up_i, ite_self, true_and, and_true, false_and, and_false, n_ofN, Nat.reduceAdd, Nat.reduceMul, Nat.reduceSub, Nat.zero_add, k3', q_wa, g1, g2, g3, eL, q, Int32.not_le.mpr q4, em]
          · have em : mnI (M 101 (13 * wT D w + k + 1)) (nI (lvN D w t + wM D w)) = M 101 (13 * wT D w + k + 1) := if_neg q4
            simp (disch := first | exact tm_inb_i (by omega) (by omega) | exact tm_cc rfl | exact tm_cat rfl | omega | exact nI_ne0 (by omega) (by omega) | exact nI_ne (by omega) (by omega) (by omega) | assumption) only [e_iconst, e_is5i, e_is5r, e_is5u, e_gotow, e_il5, e_ic_ge, e_al0, g_95_12, e_ii5i, e_ii5r, e_ii5u, e_goto, e_il1, e_imul, e_il2, e_il3, e_is6i, e_is6r, e_is6u, e_il6, e_ic_gt, e_iadd, e_is7i, e_is7r, e_is7u, e_il7, e_is8i, e_is8r, e_is8u, e_il8, e_il4, e_if_le, e_is9i, e_is9r, e_is9u, e_il9, g_95_0, r_X12_wa, e_ic_ne, e_is10i, e_is10r, e_is10u, r_X12_leaves, e_is11i, e_is11r, e_is11u, e_il10, e_il11, e_ii9i, e_ii9r, e_ii9u, e_ii6i, e_ii6r, e_ii6u, e_vret, al_96, as_96, al_101, as_101, kn_0, kn_1, kn_2, kn_3, kn_12, kn_13, kn_325, kn_1000000000, b_X12_findThere_3, b_X12_findThere_26, b_X12_findThere_39, b_X12_findThere_123, b_X12_findThere_130, b_X12_findThere_233, b_X12_findThere_240, b_X12_findThere_241, b_X12_findThere_247, b_X12_findThere_253, b_X12_findThere_259, Option.bind_some, Option.toList_some, Option.toList_none, List.cons_append, List.nil_append, z_0, nI_add, pk_mul, pk_sub, pk_div, n_mod, nI_clamp, nI_leI, nI_ltI, nI_eq, le_T, le_F, lt_T, lt_F, eq_T, eq_F, n_i0, n_i1, eq_self, not_true_eq_false, not_false_eq_true, Bool.false_eq_true, ↓reduceIte, if_true, if_false, tm_up_n, tm_up_s, tm_up_i, ite_self, true_and, and_true, false_and, and_false, n_ofN, Nat.reduceAdd, Nat.reduceMul, Nat.reduceSub, Nat.zero_add, k3', q_wa, g1, g2, g3, eL, q, Int32.not_lt.mp q4, em]
        · rw [if_neg (fun z => q3 z.2.2)]
          obtain ⟨v10', v11', e⟩ := ih (w + 1) M v10 v11 (by omega) hM
          refine ⟨v10', v11', ?_⟩
          rw [b_X12_findThere_134]
          simp (disch := first | exact tm_inb_i (by omega) (by omega) | exact tm_cc rfl | exact tm_cat rfl | omega | exact nI_ne0 (by omega) (by omega) | exact nI_ne (by omega) (by omega) (by omega) | assumption) only [e_iconst, e_is5i, e_is5r, e_is5u, e_gotow, e_il5, e_ic_ge, e_al0, g_95_12, e_ii5i, e_ii5r, e_ii5u, e_goto, e_il1, e_imul, e_il2, e_il3, e_is6i, e_is6r, e_is6u, e_il6, e_ic_gt, e_iadd, e_is7i, e_is7r, e_is7u, e_il7, e_is8i, e_is8r, e_is8u, e_il8, e_il4, e_if_le, e_is9i, e_is9r, e_is9u, e_il9, g_95_0, r_X12_wa, e_ic_ne, e_is10i, e_is10r, e_is10u, r_X12_leaves, e_is11i, e_is11r, e_is11u, e_il10, e_il11, e_ii9i, e_ii9r, e_ii9u, e_ii6i, e_ii6r, e_ii6u, e_vret, al_96, as_96, al_101, as_101, kn_0, kn_1, kn_2, kn_3, kn_12, kn_13, kn_325, kn_1000000000, b_X12_findThere_3, b_X12_findThere_26, b_X12_findThere_39, b_X12_findThere_123, b_X12_findThere_130, b_X12_findThere_233, b_X12_findThere_240, b_X12_findThere_241, b_X12_findThere_247, b_X12_findThere_253, b_X12_findThere_259, Option.bind_some, Option.toList_some, Option.toList_none, List.cons_append, List.nil_append, z_0, nI_add, pk_mul, pk_sub, pk_div, n_mod, nI_clamp, nI_leI, nI_ltI, nI_eq, le_T, le_F, lt_T, lt_F, eq_T, eq_F, n_i0, n_i1, eq_self, not_true_eq_false, not_false_eq_true, Bool.false_eq_true, ↓reduceIte, if_true, if_false, tm_up_n, tm_up_s, tm_up_i, ite_self, true_and, and_true, false_and, and_false, n_ofN, Nat.reduceAdd, Nat.reduceMul, Nat.reduceSub, Nat.zero_add, k3', q_wa, g1, g2, q, e]
      · rw [if_neg (fun z => q2 z.2.1)]
        obtain ⟨v10', v11', e⟩ := ih (w + 1) M v10 v11 (by omega) hM
        refine ⟨v10', v11', ?_⟩
        rw [b_X12_findThere_134]
        simp (disch := first | exact tm_inb_i (by omega) (by omega) | exact tm_cc rfl | exact tm_cat rfl | omega | exact nI_ne0 (by omega) (by omega) | exact nI_ne (by omega) (by omega) (by omega) | assumption) only [e_iconst, e_is5i, e_is5r, e_is5u, e_gotow, e_il5, e_ic_ge, e_al0, g_95_12, e_ii5i, e_ii5r, e_ii5u, e_goto, e_il1, e_imul, e_il2, e_il3, e_is6i, e_is6r, e_is6u, e_il6, e_ic_gt, e_iadd, e_is7i, e_is7r, e_is7u, e_il7, e_is8i, e_is8r, e_is8u, e_il8, e_il4, e_if_le, e_is9i, e_is9r, e_is9u, e_il9, g_95_0, r_X12_wa, e_ic_ne, e_is10i, e_is10r, e_is10u, r_X12_leaves, e_is11i, e_is11r, e_is11u, e_il10, e_il11, e_ii9i, e_ii9r, e_ii9u, e_ii6i, e_ii6r, e_ii6u, e_vret, al_96, as_96, al_101, as_101, kn_0, kn_1, kn_2, kn_3, kn_12, kn_13, kn_325, kn_1000000000, b_X12_findThere_3, b_X12_findThere_26, b_X12_findThere_39, b_X12_findThere_123, b_X12_findThere_130, b_X12_findThere_233, b_X12_findThere_240, b_X12_findThere_241, b_X12_findThere_247, b_X12_findThere_253, b_X12_findThere_259, Option.bind_some, Option.toList_some, Option.toList_none, List.cons_append, List.nil_append, z_0, nI_add, pk_mul, pk_sub, pk_div, n_mod, nI_clamp, nI_leI, nI_ltI, nI_eq, le_T, le_F, lt_T, lt_F, eq_T, eq_F, n_i0, n_i1, eq_self, not_true_eq_false, not_false_eq_true, Bool.false_eq_true, ↓reduceIte, if_true, if_false, tm_up_n, tm_up_s, tm_up_i, ite_self, true_and, and_true, false_and, and_false, n_ofN, Nat.reduceAdd, Nat.reduceMul, Nat.reduceSub, Nat.zero_add, k3', q_wa, g1, g2, q, e]
    · rw [if_neg (fun z => q z.1)]
      obtain ⟨v10', v11', e⟩ := ih (w + 1) M v10 v11 (by omega) hM
      refine ⟨v10', v11', ?_⟩
      rw [b_X12_findThere_134]
      simp (disch := first | exact tm_inb_i (by omega) (by omega) | exact tm_cc rfl | exact tm_cat rfl | omega | exact nI_ne0 (by omega) (by omega) | exact nI_ne (by omega) (by omega) (by omega) | assumption) only [e_iconst, e_is5i, e_is5r, e_is5u, e_gotow, e_il5, e_ic_ge, e_al0, g_95_12, e_ii5i, e_ii5r, e_ii5u, e_goto, e_il1, e_imul, e_il2, e_il3, e_is6i, e_is6r, e_is6u, e_il6, e_ic_gt, e_iadd, e_is7i, e_is7r, e_is7u, e_il7, e_is8i, e_is8r, e_is8u, e_il8, e_il4, e_if_le, e_is9i, e_is9r, e_is9u, e_il9, g_95_0, r_X12_wa, e_ic_ne, e_is10i, e_is10r, e_is10u, r_X12_leaves, e_is11i, e_is11r, e_is11u, e_il10, e_il11, e_ii9i, e_ii9r, e_ii9u, e_ii6i, e_ii6r, e_ii6u, e_vret, al_96, as_96, al_101, as_101, kn_0, kn_1, kn_2, kn_3, kn_12, kn_13, kn_325, kn_1000000000, b_X12_findThere_3, b_X12_findThere_26, b_X12_findThere_39, b_X12_findThere_123, b_X12_findThere_130, b_X12_findThere_233, b_X12_findThere_240, b_X12_findThere_241, b_X12_findThere_247, b_X12_findThere_253, b_X12_findThere_259, Option.bind_some, Option.toList_some, Option.toList_none, List.cons_append, List.nil_append, z_0, nI_add, pk_mul, pk_sub, pk_div, n_mod, nI_clamp, nI_leI, nI_ltI, nI_eq, le_T, le_F, lt_T, lt_F, eq_T, eq_F, n_i0, n_i1, eq_self, not_true_eq_false, not_false_eq_true, Bool.false_eq_true, ↓reduceIte, if_true, if_false, tm_up_n, tm_up_s, tm_up_i, ite_self, true_and, and_true, false_and, and_false, n_ofN, Nat.reduceAdd, Nat.reduceMul, Nat.reduceSub, Nat.zero_add, k3', q_wa, g1, q, e]
theorem LG_le {t : Nat} (h : t ≤ 200000) : (LG ≤ nI t) = False := by
  unfold LG
  rw [nI_leI (by decide) (by omega)]
  exact eq_false (by omega)
theorem LG_le2 : (LG ≤ LG) = True := eq_true (Int32.le_refl _)
theorem q_tK (kW : tm_kW D n W) (hn : n ≤ 24) (hW12 : W ≤ 12) (hv : v ≤ 60) {to m : Nat} {a1 a2 : Int32} (k3 : D 3 = nI W) (hto : to ≤ 24) (hm : m < to) : ∀ (c k : Nat) (M : tm_M) (v7 v8 v9 v10 v11 : Value), k + c = 13 → M 96 = D → okT ixr D W (M 101) → ∃ v7' v8' v9' v10' v11', tm_ev (d + 2) (tm_blk (Int.toNat 1840048)) [.ref 95, .int a1, .int a2, .int (nI to), .int (nI v), .int (nI m), .int (nI k), v7, v8, v9, v10, v11] [] (tm_GG l x) M = tm_ev (d + 2) (tm_blk (Int.toNat 1840039)) [.ref 95, .int a1, .int a2, .int (nI to), .int (nI v), .int (nI (m + 1)), .int (nI 13), v7', v8', v9', v10', v11'] [] (tm_GG l x) (tm_uc M 101 (gK ixr D W to 12 v m c k (M 101))) := by
  intro c
  induction c with
  | zero =>
    intro k M v7 v8 v9 v10 v11 h hM hok
    obtain rfl : k = 13 := by omega
    refine ⟨v7, v8, v9, v10, v11, ?_⟩
    rw [b_X12_findThere_48]
    unfold gK
    simp (disch := first | exact tm_inb_i (by omega) (by omega) | exact tm_cc rfl | exact tm_cat rfl | omega | exact nI_ne0 (by omega) (by omega) | exact nI_ne (by omega) (by omega) (by omega) | assumption) only [e_iconst, e_is5i, e_is5r, e_is5u, e_gotow, e_il5, e_ic_ge, e_al0, g_95_12, e_ii5i, e_ii5r, e_ii5u, e_goto, e_il1, e_imul, e_il2, e_il3, e_is6i, e_is6r, e_is6u, e_il6, e_ic_gt, e_iadd, e_is7i, e_is7r, e_is7u, e_il7, e_is8i, e_is8r, e_is8u, e_il8, e_il4, e_if_le, e_is9i, e_is9r, e_is9u, e_il9, g_95_0, r_X12_wa, e_ic_ne, e_is10i, e_is10r, e_is10u, r_X12_leaves, e_is11i, e_is11r, e_is11u, e_il10, e_il11, e_ii9i, e_ii9r, e_ii9u, e_ii6i, e_ii6r, e_ii6u, e_vret, al_96, as_96, al_101, as_101, kn_0, kn_1, kn_2, kn_3, kn_12, kn_13, kn_325, kn_1000000000, b_X12_findThere_3, b_X12_findThere_26, b_X12_findThere_123, b_X12_findThere_130, b_X12_findThere_233, b_X12_findThere_240, b_X12_findThere_241, b_X12_findThere_247, b_X12_findThere_253, b_X12_findThere_259, Option.bind_some, Option.toList_some, Option.toList_none, List.cons_append, List.nil_append, z_0, nI_add, pk_mul, pk_sub, pk_div, n_mod, nI_clamp, nI_leI, nI_ltI, nI_eq, le_T, le_F, lt_T, lt_F, eq_T, eq_F, n_i0, n_i1, eq_self, not_true_eq_false, not_false_eq_true, Bool.false_eq_true, ↓reduceIte, if_true, if_false, tm_up_n, tm_up_s, tm_up_i, ite_self, true_and, and_true, false_and, and_false, n_ofN, Nat.reduceAdd, Nat.reduceMul, Nat.reduceSub, Nat.zero_add]
    rw [tm_uc_same _ _ _ rfl]
  | succ c ih =>
    intro k M v7 v8 v9 v10 v11 h hM hok
    have hk : k ≤ 12 := by omega
    have hix : 13 * m + k < 325 := by omega
    unfold gK gS
    by_cases q : M 101 (ixr k m) = LG
    · rw [if_pos q]
      have q' : M 101 (13 * m + k) = LG := q
      obtain ⟨v7', v8', v9', v10', v11', e⟩ := ih (k + 1) M (.int LG) v8 v9 v10 v11 (by omega) hM hok
      refine ⟨v7', v8', v9', v10', v11', ?_⟩
      rw [b_X12_findThere_48]
      simp (disch := first | exact tm_inb_i (by omega) (by omega) | exact tm_cc rfl | exact tm_cat rfl | omega | exact nI_ne0 (by omega) (by omega) | exact nI_ne (by omega) (by omega) (by omega) | assumption) only [e_iconst, e_is5i, e_is5r, e_is5u, e_gotow, e_il5, e_ic_ge, e_al0, g_95_12, e_ii5i, e_ii5r, e_ii5u, e_goto, e_il1, e_imul, e_il2, e_il3, e_is6i, e_is6r, e_is6u, e_il6, e_ic_gt, e_iadd, e_is7i, e_is7r, e_is7u, e_il7, e_is8i, e_is8r, e_is8u, e_il8, e_il4, e_if_le, e_is9i, e_is9r, e_is9u, e_il9, g_95_0, r_X12_wa, e_ic_ne, e_is10i, e_is10r, e_is10u, r_X12_leaves, e_is11i, e_is11r, e_is11u, e_il10, e_il11, e_ii9i, e_ii9r, e_ii9u, e_ii6i, e_ii6r, e_ii6u, e_vret, al_96, as_96, al_101, as_101, kn_0, kn_1, kn_2, kn_3, kn_12, kn_13, kn_325, kn_1000000000, b_X12_findThere_3, b_X12_findThere_26, b_X12_findThere_123, b_X12_findThere_130, b_X12_findThere_233, b_X12_findThere_240, b_X12_findThere_241, b_X12_findThere_247, b_X12_findThere_253, b_X12_findThere_259, Option.bind_some, Option.toList_some, Option.toList_none, List.cons_append, List.nil_append, z_0, nI_add, pk_mul, pk_sub, pk_div, n_mod, nI_clamp, nI_leI, nI_ltI, nI_eq, le_T, le_F, lt_T, lt_F, eq_T, eq_F, n_i0, n_i1, eq_self, not_true_eq_false, not_false_eq_true, Bool.false_eq_true, ↓reduceIte, if_true, if_false, tm_up_n, tm_up_s, tm_up_i, ite_self, true_and, and_true, false_and, and_false, n_ofN, Nat.reduceAdd, Nat.reduceMul, Nat.reduceSub, Nat.zero_add, kn_LG, q', LG_le2, e]
    · rw [if_neg q]
      obtain ⟨e1, e2, e3⟩ := okE_t (by omega) (hok k m hk (by omega)) q
      generalize hT : (M 101 (ixr k m)).toNatClampNeg = t at *
      have q1 : M 101 (13 * m + k) = nI t := e1
      have ql := LG_le (t := t) (by omega)
      have hF := gF_ok (W := W) inj_r hv (by omega : m < 24) hk e2 e3 hok
      have hG := gW_ok (lim := to) (kx := 12) inj_r kW hn (by decide) (by omega : m < 24) hk e2 e3 W 0 _ (by omega) hF
      have hix2 : 13 * (m + 1) + k < 325 := by omega
      have fin : ∀ (f : Nat → Int32), f = gF ixr v m k t (M 101) → ∃ v7' v8' v9' v10' v11', tm_ev (d + 2) (tm_blk (Int.toNat 1840134)) [.ref 95, .int a1, .int a2, .int (nI to), .int (nI v), .int (nI m), .int (nI k), .int (nI t), .int (nI (13 * (m + 1) + k)), .int (nI 0), v10, v11] [] (tm_GG l x) (tm_uc M 101 f) = tm_ev (d + 2) (tm_blk (Int.toNat 1840039)) [.ref 95, .int a1, .int a2, .int (nI to), .int (nI v), .int (nI (m + 1)), .int (nI 13), v7', v8', v9', v10', v11'] [] (tm_GG l x) (tm_uc M 101 (gK ixr D W to 12 v m c (k + 1) (gW ixr D to 12 m k t W 0 (gF ixr v m k t (M 101))))) := by
        intro f hf
        subst hf
        obtain ⟨w10, w11, e⟩ := q_tW (d := d) (l := l) (x := x) kW hn hW12 (to := to) (m := m) (k := k) (t := t) (a1 := a1) (a2 := a2) (a3 := nI v) (a8 := nI (13 * (m + 1) + k)) k3 hto (by omega) hk (by omega) W 0 (tm_uc M 101 (gF ixr v m k t (M 101))) v10 v11 (by omega) (by rw [tm_uc_ne _ _ (by decide)]; exact hM)
        rw [tm_uc_at, tm_uc_uc] at e
        obtain ⟨v7', v8', v9', v10', v11', e'⟩ := ih (k + 1) (tm_uc M 101 (gW ixr D to 12 m k t W 0 (gF ixr v m k t (M 101)))) (.int (nI t)) (.int (nI (13 * (m + 1) + k))) (.int (nI W)) w10 w11 (by omega) (by rw [tm_uc_ne _ _ (by decide)]; exact hM) (by rw [tm_uc_at]; exact hG)
        rw [tm_uc_at, tm_uc_uc] at e'
        exact ⟨v7', v8', v9', v10', v11', e.trans e'⟩
      by_cases hv0 : 0 < v
      · have g2 : gF ixr v m k t (M 101) = upd (M 101) (13 * (m + 1) + k) (mnI (M 101 (13 * (m + 1) + k)) (nI (t + v))) := if_pos hv0
        by_cases q4 : nI (t + v) < M 101 (13 * (m + 1) + k)
        · have em : mnI (M 101 (13 * (m + 1) + k)) (nI (t + v)) = nI (t + v) := if_pos q4
          obtain ⟨v7', v8', v9', v10', v11', e⟩ := fin (upd (M 101) (13 * (m + 1) + k) (nI (t + v))) (by rw [g2, em])
          refine ⟨v7', v8', v9', v10', v11', ?_⟩
          rw [← e, b_X12_findThere_48]
          simp (disch := first | exact tm_inb_i (by omega) (by omega) | exact tm_cc rfl | exact tm_cat rfl | omega | exact nI_ne0 (by omega) (by omega) | exact nI_ne (by omega) (by omega) (by omega) | assumption) only [e_iconst, e_is5i, e_is5r, e_is5u, e_gotow, e_il5, e_ic_ge, e_al0, g_95_12, e_ii5i, e_ii5r, e_ii5u, e_goto, e_il1, e_imul, e_il2, e_il3, e_is6i, e_is6r, e_is6u, e_il6, e_ic_gt, e_iadd, e_is7i, e_is7r, e_is7u, e_il7, e_is8i, e_is8r, e_is8u, e_il8, e_il4, e_if_le, e_is9i, e_is9r, e_is9u, e_il9, g_95_0, r_X12_wa, e_ic_ne, e_is10i, e_is10r, e_is10u, r_X12_leaves, e_is11i, e_is11r, e_is11u, e_il10, e_il11, e_ii9i, e_ii9r, e_ii9u, e_ii6i, e_ii6r, e_ii6u, e_vret, al_96, as_96, al_101, as_101, kn_0, kn_1, kn_2, kn_3, kn_12, kn_13, kn_325, kn_1000000000, b_X12_findThere_3, b_X12_findThere_26, b_X12_findThere_123, b_X12_findThere_130, b_X12_findThere_233, b_X12_findThere_240, b_X12_findThere_241, b_X12_findThere_247, b_X12_findThere_253, b_X12_findThere_259, Option.bind_some, Option.toList_some, Option.toList_none, List.cons_append, List.nil_append, z_0, nI_add, pk_mul, pk_sub, pk_div, n_mod, nI_clamp, nI_leI, nI_ltI, nI_eq, le_T, le_F, lt_T, lt_F, eq_T, eq_F, n_i0, n_i1, eq_self, not_true_eq_false, not_false_eq_true, Bool.false_eq_true, ↓reduceIte, if_true, if_false, tm_up_n, tm_up_s, tm_up_i, ite_self, true_and, and_true, false_and, and_false, n_ofN, Nat.reduceAdd, Nat.reduceMul, Nat.reduceSub, Nat.zero_add, kn_LG, q1, ql, Int32.not_le.mpr q4, tm_up_uc]
        · have em : mnI (M 101 (13 * (m + 1) + k)) (nI (t + v)) = M 101 (13 * (m + 1) + k) := if_neg q4
          obtain ⟨v7', v8', v9', v10', v11', e⟩ := fin (upd (M 101) (13 * (m + 1) + k) (M 101 (13 * (m + 1) + k))) (by rw [g2, em])
          refine ⟨v7', v8', v9', v10', v11', ?_⟩
          rw [← e, b_X12_findThere_48]
          simp (disch := first | exact tm_inb_i (by omega) (by omega) | exact tm_cc rfl | exact tm_cat rfl | omega | exact nI_ne0 (by omega) (by omega) | exact nI_ne (by omega) (by omega) (by omega) | assumption) only [e_iconst, e_is5i, e_is5r, e_is5u, e_gotow, e_il5, e_ic_ge, e_al0, g_95_12, e_ii5i, e_ii5r, e_ii5u, e_goto, e_il1, e_imul, e_il2, e_il3, e_is6i, e_is6r, e_is6u, e_il6, e_ic_gt, e_iadd, e_is7i, e_is7r, e_is7u, e_il7, e_is8i, e_is8r, e_is8u, e_il8, e_il4, e_if_le, e_is9i, e_is9r, e_is9u, e_il9, g_95_0, r_X12_wa, e_ic_ne, e_is10i, e_is10r, e_is10u, r_X12_leaves, e_is11i, e_is11r, e_is11u, e_il10, e_il11, e_ii9i, e_ii9r, e_ii9u, e_ii6i, e_ii6r, e_ii6u, e_vret, al_96, as_96, al_101, as_101, kn_0, kn_1, kn_2, kn_3, kn_12, kn_13, kn_325, kn_1000000000, b_X12_findThere_3, b_X12_findThere_26, b_X12_findThere_123, b_X12_findThere_130, b_X12_findThere_233, b_X12_findThere_240, b_X12_findThere_241, b_X12_findThere_247, b_X12_findThere_253, b_X12_findThere_259, Option.bind_some, Option.toList_some, Option.toList_none, List.cons_append, List.nil_append, z_0, nI_add, pk_mul, pk_sub, pk_div, n_mod, nI_clamp, nI_leI, nI_ltI, nI_eq, le_T, le_F, lt_T, lt_F, eq_T, eq_F, n_i0, n_i1, eq_self, not_true_eq_false, not_false_eq_true, Bool.false_eq_true, ↓reduceIte, if_true, if_false, tm_up_n, tm_up_s, tm_up_i, ite_self, true_and, and_true, false_and, and_false, n_ofN, Nat.reduceAdd, Nat.reduceMul, Nat.reduceSub, Nat.zero_add, kn_LG, q1, ql, Int32.not_lt.mp q4, tm_up_uc]
      · have g2 : gF ixr v m k t (M 101) = M 101 := if_neg hv0
        obtain ⟨v7', v8', v9', v10', v11', e⟩ := fin (upd (M 101) (13 * (m + 1) + k) (M 101 (13 * (m + 1) + k))) (by rw [g2, upd_same rfl])
        refine ⟨v7', v8', v9', v10', v11', ?_⟩
        rw [← e, b_X12_findThere_48]
        simp (disch := first | exact tm_inb_i (by omega) (by omega) | exact tm_cc rfl | exact tm_cat rfl | omega | exact nI_ne0 (by omega) (by omega) | exact nI_ne (by omega) (by omega) (by omega) | assumption) only [e_iconst, e_is5i, e_is5r, e_is5u, e_gotow, e_il5, e_ic_ge, e_al0, g_95_12, e_ii5i, e_ii5r, e_ii5u, e_goto, e_il1, e_imul, e_il2, e_il3, e_is6i, e_is6r, e_is6u, e_il6, e_ic_gt, e_iadd, e_is7i, e_is7r, e_is7u, e_il7, e_is8i, e_is8r, e_is8u, e_il8, e_il4, e_if_le, e_is9i, e_is9r, e_is9u, e_il9, g_95_0, r_X12_wa, e_ic_ne, e_is10i, e_is10r, e_is10u, r_X12_leaves, e_is11i, e_is11r, e_is11u, e_il10, e_il11, e_ii9i, e_ii9r, e_ii9u, e_ii6i, e_ii6r, e_ii6u, e_vret, al_96, as_96, al_101, as_101, kn_0, kn_1, kn_2, kn_3, kn_12, kn_13, kn_325, kn_1000000000, b_X12_findThere_3, b_X12_findThere_26, b_X12_findThere_123, b_X12_findThere_130, b_X12_findThere_233, b_X12_findThere_240, b_X12_findThere_241, b_X12_findThere_247, b_X12_findThere_253, b_X12_findThere_259, Option.bind_some, Option.toList_some, Option.toList_none, List.cons_append, List.nil_append, z_0, nI_add, pk_mul, pk_sub, pk_div, n_mod, nI_clamp, nI_leI, nI_ltI, nI_eq, le_T, le_F, lt_T, lt_F, eq_T, eq_F, n_i0, n_i1, eq_self, not_true_eq_false, not_false_eq_true, Bool.false_eq_true, ↓reduceIte, if_true, if_false, tm_up_n, tm_up_s, tm_up_i, ite_self, true_and, and_true, false_and, and_false, n_ofN, Nat.reduceAdd, Nat.reduceMul, Nat.reduceSub, Nat.zero_add, kn_LG, q1, ql, tm_up_uc]
theorem q_tM (kW : tm_kW D n W) (hn : n ≤ 24) (hW12 : W ≤ 12) (hv : v ≤ 60) {to : Nat} {a1 a2 : Int32} (k3 : D 3 = nI W) (hto : to ≤ 24) : ∀ (c m : Nat) (M : tm_M) (v6 v7 v8 v9 v10 v11 : Value), m + c = to → M 96 = D → okT ixr D W (M 101) → tm_ev (d + 2) (tm_blk (Int.toNat 1840039)) [.ref 95, .int a1, .int a2, .int (nI to), .int (nI v), .int (nI m), v6, v7, v8, v9, v10, v11] [] (tm_GG l x) M = some (none, tm_GG l x, tm_uc M 101 (gM ixr D W to 12 v 13 c m (M 101))) := by
  intro c
  induction c with
  | zero =>
    intro m M v6 v7 v8 v9 v10 v11 h hM hok
    rw [b_X12_findThere_39]
    unfold gM
    simp (disch := first | exact tm_inb_i (by omega) (by omega) | exact tm_cc rfl | exact tm_cat rfl | omega | exact nI_ne0 (by omega) (by omega) | exact nI_ne (by omega) (by omega) (by omega) | assumption) only [e_iconst, e_is5i, e_is5r, e_is5u, e_gotow, e_il5, e_ic_ge, e_al0, g_95_12, e_ii5i, e_ii5r, e_ii5u, e_goto, e_il1, e_imul, e_il2, e_il3, e_is6i, e_is6r, e_is6u, e_il6, e_ic_gt, e_iadd, e_is7i, e_is7r, e_is7u, e_il7, e_is8i, e_is8r, e_is8u, e_il8, e_il4, e_if_le, e_is9i, e_is9r, e_is9u, e_il9, g_95_0, r_X12_wa, e_ic_ne, e_is10i, e_is10r, e_is10u, r_X12_leaves, e_is11i, e_is11r, e_is11u, e_il10, e_il11, e_ii9i, e_ii9r, e_ii9u, e_ii6i, e_ii6r, e_ii6u, e_vret, al_96, as_96, al_101, as_101, kn_0, kn_1, kn_2, kn_3, kn_12, kn_13, kn_325, kn_1000000000, b_X12_findThere_3, b_X12_findThere_26, b_X12_findThere_123, b_X12_findThere_130, b_X12_findThere_134, b_X12_findThere_233, b_X12_findThere_240, b_X12_findThere_241, b_X12_findThere_247, b_X12_findThere_253, b_X12_findThere_259, Option.bind_some, Option.toList_some, Option.toList_none, List.cons_append, List.nil_append, z_0, nI_add, pk_mul, pk_sub, pk_div, n_mod, nI_clamp, nI_leI, nI_ltI, nI_eq, le_T, le_F, lt_T, lt_F, eq_T, eq_F, n_i0, n_i1, eq_self, not_true_eq_false, not_false_eq_true, Bool.false_eq_true, ↓reduceIte, if_true, if_false, tm_up_n, tm_up_s, tm_up_i, ite_self, true_and, and_true, false_and, and_false, n_ofN, Nat.reduceAdd, Nat.reduceMul, Nat.reduceSub, Nat.zero_add]
    rw [tm_uc_same _ _ _ rfl]
  | succ c ih =>
    intro m M v6 v7 v8 v9 v10 v11 h hM hok
    obtain ⟨v7', v8', v9', v10', v11', e⟩ := q_tK (d := d) (l := l) (x := x) kW hn hW12 hv (to := to) (m := m) (a1 := a1) (a2 := a2) k3 hto (by omega) 13 0 M v7 v8 v9 v10 v11 (by omega) hM hok
    have e2 := ih (m + 1) (tm_uc M 101 (gK ixr D W to 12 v m 13 0 (M 101))) (.int (nI 13)) v7' v8' v9' v10' v11' (by omega) (by rw [tm_uc_ne _ _ (by decide)]; exact hM) (by rw [tm_uc_at]; exact gK_ok inj_r kW hn (by decide) hv (by omega) 13 0 _ (by omega) hok)
    rw [tm_uc_at, tm_uc_uc] at e2
    rw [b_X12_findThere_39]
    unfold gM
    simp (disch := first | exact tm_inb_i (by omega) (by omega) | exact tm_cc rfl | exact tm_cat rfl | omega | exact nI_ne0 (by omega) (by omega) | exact nI_ne (by omega) (by omega) (by omega) | assumption) only [e_iconst, e_is5i, e_is5r, e_is5u, e_gotow, e_il5, e_ic_ge, e_al0, g_95_12, e_ii5i, e_ii5r, e_ii5u, e_goto, e_il1, e_imul, e_il2, e_il3, e_is6i, e_is6r, e_is6u, e_il6, e_ic_gt, e_iadd, e_is7i, e_is7r, e_is7u, e_il7, e_is8i, e_is8r, e_is8u, e_il8, e_il4, e_if_le, e_is9i, e_is9r, e_is9u, e_il9, g_95_0, r_X12_wa, e_ic_ne, e_is10i, e_is10r, e_is10u, r_X12_leaves, e_is11i, e_is11r, e_is11u, e_il10, e_il11, e_ii9i, e_ii9r, e_ii9u, e_ii6i, e_ii6r, e_ii6u, e_vret, al_96, as_96, al_101, as_101, kn_0, kn_1, kn_2, kn_3, kn_12, kn_13, kn_325, kn_1000000000, b_X12_findThere_3, b_X12_findThere_26, b_X12_findThere_123, b_X12_findThere_130, b_X12_findThere_134, b_X12_findThere_233, b_X12_findThere_240, b_X12_findThere_241, b_X12_findThere_247, b_X12_findThere_253, b_X12_findThere_259, Option.bind_some, Option.toList_some, Option.toList_none, List.cons_append, List.nil_append, z_0, nI_add, pk_mul, pk_sub, pk_div, n_mod, nI_clamp, nI_leI, nI_ltI, nI_eq, le_T, le_F, lt_T, lt_F, eq_T, eq_F, n_i0, n_i1, eq_self, not_true_eq_false, not_false_eq_true, Bool.false_eq_true, ↓reduceIte, if_true, if_false, tm_up_n, tm_up_s, tm_up_i, ite_self, true_and, and_true, false_and, and_false, n_ofN, Nat.reduceAdd, Nat.reduceMul, Nat.reduceSub, Nat.zero_add, e, e2]
theorem q_t0 {a1 a2 a3 a4 : Int32} : ∀ (c j : Nat) (M : tm_M), j + c = 325 → tm_ev d (tm_blk (Int.toNat 1840003)) [.ref 95, .int a1, .int a2, .int a3, .int a4, .int (nI j), tm_un, tm_un, tm_un, tm_un, tm_un, tm_un] [] (tm_GG l x) M = tm_ev d (tm_blk (Int.toNat 1840026)) [.ref 95, .int a1, .int a2, .int a3, .int a4, .int (nI 325), tm_un, tm_un, tm_un, tm_un, tm_un, tm_un] [] (tm_GG l x) (tm_uc M 101 (tm_fil LG j 325 (M 101))) := by
  intro c
  induction c with
  | zero =>
    intro j M h
    obtain rfl : j = 325 := by omega
    rw [b_X12_findThere_3]
    simp (disch := first | exact tm_inb_i (by omega) (by omega) | exact tm_cc rfl | exact tm_cat rfl | omega | exact nI_ne0 (by omega) (by omega) | exact nI_ne (by omega) (by omega) (by omega) | assumption) only [e_iconst, e_is5i, e_is5r, e_is5u, e_gotow, e_il5, e_ic_ge, e_al0, g_95_12, e_ii5i, e_ii5r, e_ii5u, e_goto, e_il1, e_imul, e_il2, e_il3, e_is6i, e_is6r, e_is6u, e_il6, e_ic_gt, e_iadd, e_is7i, e_is7r, e_is7u, e_il7, e_is8i, e_is8r, e_is8u, e_il8, e_il4, e_if_le, e_is9i, e_is9r, e_is9u, e_il9, g_95_0, r_X12_wa, e_ic_ne, e_is10i, e_is10r, e_is10u, r_X12_leaves, e_is11i, e_is11r, e_is11u, e_il10, e_il11, e_ii9i, e_ii9r, e_ii9u, e_ii6i, e_ii6r, e_ii6u, e_vret, al_96, as_96, al_101, as_101, kn_0, kn_1, kn_2, kn_3, kn_12, kn_13, kn_325, kn_1000000000, b_X12_findThere_39, b_X12_findThere_48, b_X12_findThere_123, b_X12_findThere_130, b_X12_findThere_134, b_X12_findThere_233, b_X12_findThere_240, b_X12_findThere_241, b_X12_findThere_247, b_X12_findThere_253, b_X12_findThere_259, Option.bind_some, Option.toList_some, Option.toList_none, List.cons_append, List.nil_append, z_0, nI_add, pk_mul, pk_sub, pk_div, n_mod, nI_clamp, nI_leI, nI_ltI, nI_eq, le_T, le_F, lt_T, lt_F, eq_T, eq_F, n_i0, n_i1, eq_self, not_true_eq_false, not_false_eq_true, Bool.false_eq_true, ↓reduceIte, if_true, if_false, tm_up_n, tm_up_s, tm_up_i, ite_self, true_and, and_true, false_and, and_false, n_ofN, Nat.reduceAdd, Nat.reduceMul, Nat.reduceSub, Nat.zero_add]
    rw [tm_uc_same _ _ _ (by rw [tm_fil_end])]
  | succ c ih =>
    intro j M h
    have hj : j < 325 := by omega
    rw [b_X12_findThere_3]
    simp (disch := first | exact tm_inb_i (by omega) (by omega) | exact tm_cc rfl | exact tm_cat rfl | omega | exact nI_ne0 (by omega) (by omega) | exact nI_ne (by omega) (by omega) (by omega) | assumption) only [e_iconst, e_is5i, e_is5r, e_is5u, e_gotow, e_il5, e_ic_ge, e_al0, g_95_12, e_ii5i, e_ii5r, e_ii5u, e_goto, e_il1, e_imul, e_il2, e_il3, e_is6i, e_is6r, e_is6u, e_il6, e_ic_gt, e_iadd, e_is7i, e_is7r, e_is7u, e_il7, e_is8i, e_is8r, e_is8u, e_il8, e_il4, e_if_le, e_is9i, e_is9r, e_is9u, e_il9, g_95_0, r_X12_wa, e_ic_ne, e_is10i, e_is10r, e_is10u, r_X12_leaves, e_is11i, e_is11r, e_is11u, e_il10, e_il11, e_ii9i, e_ii9r, e_ii9u, e_ii6i, e_ii6r, e_ii6u, e_vret, al_96, as_96, al_101, as_101, kn_0, kn_1, kn_2, kn_3, kn_12, kn_13, kn_325, kn_1000000000, b_X12_findThere_39, b_X12_findThere_48, b_X12_findThere_123, b_X12_findThere_130, b_X12_findThere_134, b_X12_findThere_233, b_X12_findThere_240, b_X12_findThere_241, b_X12_findThere_247, b_X12_findThere_253, b_X12_findThere_259, Option.bind_some, Option.toList_some, Option.toList_none, List.cons_append, List.nil_append, z_0, nI_add, pk_mul, pk_sub, pk_div, n_mod, nI_clamp, nI_leI, nI_ltI, nI_eq, le_T, le_F, lt_T, lt_F, eq_T, eq_F, n_i0, n_i1, eq_self, not_true_eq_false, not_false_eq_true, Bool.false_eq_true, ↓reduceIte, if_true, if_false, tm_up_n, tm_up_s, tm_up_i, ite_self, true_and, and_true, false_and, and_false, n_ofN, Nat.reduceAdd, Nat.reduceMul, Nat.reduceSub, Nat.zero_add, kn_LG, ih (j + 1) _ (by omega)]
    rw [tm_up_at, tm_uc_up, tm_fil_step (by omega)]
def f0r (f : Nat → Int32) (fr t : Nat) : Nat → Int32 := upd (tm_fil LG 0 325 f) (13 * fr) (nI t)
theorem okT_0r {f : Nat → Int32} {fr t : Nat} (hfr : fr ≤ 24) (ht : t ≤ 100000) : okT ixr D W (f0r f fr t) := by
  intro k m hk hm
  unfold f0r
  by_cases q : ixr k m = 13 * fr
  · have : k = 0 ∧ m = fr := by unfold ixr at q; omega
    obtain ⟨rfl, rfl⟩ := this
    rw [q, upd_s]
    exact Or.inr ⟨t, rfl, by omega, by omega⟩
  · rw [upd_n q]
    exact Or.inl (fil_p (by unfold ixr; omega))
theorem q_findThere (kW : tm_kW D n W) (hn : n ≤ 24) (hW12 : W ≤ 12) (hv : v ≤ 60) {M : tm_M} {fr to t : Nat} (hfr : fr ≤ to) (hto : to ≤ 24) (ht : t ≤ 100000) (k3 : D 3 = nI W) (hM : M 96 = D) : tm_call (d + 2) 184 [.ref 95, .int (nI fr), .int (nI t), .int (nI to), .int (nI v)] (tm_GG l x) M = some (none, tm_GG l x, tm_uc M 101 (gM ixr D W to 12 v 13 (to - fr) fr (f0r (M 101) fr t))) := by
  have e := q_tM (d := d) (l := l) (x := x) kW hn hW12 hv (to := to) (a1 := nI fr) (a2 := nI t) k3 hto (to - fr) fr (tm_uc M 101 (f0r (M 101) fr t)) tm_un tm_un tm_un tm_un tm_un tm_un (by omega) (by rw [tm_uc_ne _ _ (by decide)]; exact hM) (by rw [tm_uc_at]; exact okT_0r (by omega) ht)
  rw [tm_uc_at, tm_uc_uc] at e
  have e0 : tm_up (tm_uc M 101 (tm_fil LG 0 325 (M 101))) 101 (13 * fr) (nI t) = tm_uc M 101 (f0r (M 101) fr t) := by
    rw [tm_up_uc, tm_uc_at, tm_uc_uc]
    rfl
  have hfr2 : 13 * fr < 325 := by omega
  have e1 := q_t0 (d := d + 2) (l := l) (x := x) (a1 := nI fr) (a2 := nI t) (a3 := nI to) (a4 := nI v) 325 0 M (by omega)
  have e2 : tm_ev (d + 2) (tm_blk (Int.toNat 1840026)) [.ref 95, .int (nI fr), .int (nI t), .int (nI to), .int (nI v), .int (nI 325), tm_un, tm_un, tm_un, tm_un, tm_un, tm_un] [] (tm_GG l x) (tm_uc M 101 (tm_fil LG 0 325 (M 101))) = some (none, tm_GG l x, tm_uc M 101 (gM ixr D W to 12 v 13 (to - fr) fr (f0r (M 101) fr t))) := by
    rw [b_X12_findThere_26]
    simp (disch := first | exact tm_inb_i (by omega) (by omega) | exact tm_cc rfl | exact tm_cat rfl | omega | exact nI_ne0 (by omega) (by omega) | exact nI_ne (by omega) (by omega) (by omega) | assumption) only [e_iconst, e_is5i, e_is5r, e_is5u, e_gotow, e_il5, e_ic_ge, e_al0, g_95_12, e_ii5i, e_ii5r, e_ii5u, e_goto, e_il1, e_imul, e_il2, e_il3, e_is6i, e_is6r, e_is6u, e_il6, e_ic_gt, e_iadd, e_is7i, e_is7r, e_is7u, e_il7, e_is8i, e_is8r, e_is8u, e_il8, e_il4, e_if_le, e_is9i, e_is9r, e_is9u, e_il9, g_95_0, r_X12_wa, e_ic_ne, e_is10i, e_is10r, e_is10u, r_X12_leaves, e_is11i, e_is11r, e_is11u, e_il10, e_il11, e_ii9i, e_ii9r, e_ii9u, e_ii6i, e_ii6r, e_ii6u, e_vret, al_96, as_96, al_101, as_101, kn_0, kn_1, kn_2, kn_3, kn_12, kn_13, kn_325, kn_1000000000, b_X12_findThere_3, b_X12_findThere_48, b_X12_findThere_123, b_X12_findThere_130, b_X12_findThere_134, b_X12_findThere_233, b_X12_findThere_240, b_X12_findThere_241, b_X12_findThere_247, b_X12_findThere_253, b_X12_findThere_259, Option.bind_some, Option.toList_some, Option.toList_none, List.cons_append, List.nil_append, z_0, nI_add, pk_mul, pk_sub, pk_div, n_mod, nI_clamp, nI_leI, nI_ltI, nI_eq, le_T, le_F, lt_T, lt_F, eq_T, eq_F, n_i0, n_i1, eq_self, not_true_eq_false, not_false_eq_true, Bool.false_eq_true, ↓reduceIte, if_true, if_false, tm_up_n, tm_up_s, tm_up_i, ite_self, true_and, and_true, false_and, and_false, n_ofN, Nat.reduceAdd, Nat.reduceMul, Nat.reduceSub, Nat.zero_add, e0, e]
  rw [e2] at e1
  simp (disch := first | exact tm_inb_i (by omega) (by omega) | exact tm_cc rfl | exact tm_cat rfl | omega | exact nI_ne0 (by omega) (by omega) | exact nI_ne (by omega) (by omega) (by omega) | assumption) only [n_X12_findThere, e_iconst, e_is5i, e_is5r, e_is5u, e_gotow, e_il5, e_ic_ge, e_al0, g_95_12, e_ii5i, e_ii5r, e_ii5u, e_goto, e_il1, e_imul, e_il2, e_il3, e_is6i, e_is6r, e_is6u, e_il6, e_ic_gt, e_iadd, e_is7i, e_is7r, e_is7u, e_il7, e_is8i, e_is8r, e_is8u, e_il8, e_il4, e_if_le, e_is9i, e_is9r, e_is9u, e_il9, g_95_0, r_X12_wa, e_ic_ne, e_is10i, e_is10r, e_is10u, r_X12_leaves, e_is11i, e_is11r, e_is11u, e_il10, e_il11, e_ii9i, e_ii9r, e_ii9u, e_ii6i, e_ii6r, e_ii6u, e_vret, al_96, as_96, al_101, as_101, kn_0, kn_1, kn_2, kn_3, kn_12, kn_13, kn_325, kn_1000000000, b_X12_findThere_26, b_X12_findThere_39, b_X12_findThere_48, b_X12_findThere_123, b_X12_findThere_130, b_X12_findThere_134, b_X12_findThere_233, b_X12_findThere_240, b_X12_findThere_241, b_X12_findThere_247, b_X12_findThere_253, b_X12_findThere_259, Option.bind_some, Option.toList_some, Option.toList_none, List.cons_append, List.nil_append, z_0, nI_add, pk_mul, pk_sub, pk_div, n_mod, nI_clamp, nI_leI, nI_ltI, nI_eq, le_T, le_F, lt_T, lt_F, eq_T, eq_F, n_i0, n_i1, eq_self, not_true_eq_false, not_false_eq_true, Bool.false_eq_true, ↓reduceIte, if_true, if_false, tm_up_n, tm_up_s, tm_up_i, ite_self, true_and, and_true, false_and, and_false, n_ofN, Nat.reduceAdd, Nat.reduceMul, Nat.reduceSub, Nat.zero_add, e1]
/-- both tell the same of the last mark -/
theorem reach_sam (kW : tm_kW D n W) (hn : n ≤ 24) (hW12 : W ≤ 12) (hv : v ≤ 60) {fr to t : Nat} (hto : to ≤ n) (hfr : fr ≤ to) (ht : t ≤ 100000) (f g : Nat → Int32) : sam to (gM ixc D W 24 W v (W + 1) (n - fr) fr (f0c f fr t)) (gM ixr D W to 12 v 13 (to - fr) fr (f0r g fr t)) := by
  refine sam_all kW hn hW12 hv hto hfr (okT_0c (by omega) ht) (okT_0r (by omega) ht) (fun k m hk hm => ?_)
  unfold f0c f0r
  by_cases q : k = 0 ∧ m = fr
  · obtain ⟨rfl, rfl⟩ := q
    rw [show ixc 0 m = m by unfold ixc; omega, show ixr 0 m = 13 * m by unfold ixr; omega, upd_s, upd_s]
  · rw [upd_n (by unfold ixc; omega), upd_n (by unfold ixr; omega), fil_p (by unfold ixc; omega), fil_p (by unfold ixr; omega)]
end TMZ
