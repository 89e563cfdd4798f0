/-! part 76: the class reads a text: what is joined -/
section TCJ
variable {d l : Nat} {x : Nat → Int32} {M0 M : tm_M} {b : Nat → Int32} {z p e k o : Nat}
theorem c_lvm {d : Nat} {u : Int32} {m : Nat} (h : px_lv u = m) (hm : m < 5) (M : tm_M) : tm_call d 39 [.int u] (tm_GG l x) M = some (some (.int (nI m)), tm_GG l x, M) := by
  rw [c_level, h, if_pos hm]
theorem c_lvn {d : Nat} {u : Int32} (h : ¬ px_lv u < 5) (M : tm_M) : tm_call d 39 [.int u] (tm_GG l x) M = some (some (.int (-1)), tm_GG l x, M) := by
  rw [c_level, if_neg h]
theorem m1_k (hk : k < 2 ^ 31) {L : Int32} : ¬ (¬ (-1 : Int32) < nI k ∧ ¬ L < -1) := by
  intro y
  apply y.1
  rw [Int32.lt_iff_toInt_lt, nI_toInt hk, show (-1 : Int32).toInt = -1 by decide +kernel]
  omega
/-- the loop's head with a failed reader -/
theorem c_loopb (H : cH M0 b z) (hk : k ≤ 5) (ho : o ≤ 5) (hp : p ≤ z) (h : cB M0 b z p M) {i : Nat} (hi : i < 2 ^ 31) {L : Nat} {v5 v6 : Value} : tm_ev (d + 1) (tm_blk (Int.toNat 400010)) [.ref 77, .int (nI k), .int (nI o), .int (nI L), .int (nI i), v5, v6] [] (tm_GG l x) M = some (none, tm_GG l x, M) := by
  obtain ⟨u, u1, u2, _⟩ := cB_sign (d := d) (l := l) (x := x) H hp h
  have cl := c_lvn (l := l) (x := x) (d := d) (u := u) (by omega) M
  rw [b_X4_readJoined_10]
  by_cases a : i < 60
  · simp (disch := first | exact tm_inb_i (by omega) (by omega) | exact tm_cc rfl | exact tm_cat rfl | omega | exact nI_ne0 (by omega) (by omega) | exact nI_ne (by omega) (by omega) (by omega) | exact tm_cS (by omega) | assumption) only [e_al0, e_il2, r_X4_readSingle, e_iconst, e_is3i, e_is3r, e_is3u, e_is4i, e_is4r, e_is4u, e_gotow, e_il4, e_ic_ge, r_X4_sign, r_X4_levelOf, e_il1, e_il3, r_X11_within, e_if_eq, e_is5i, e_is5r, e_is5u, e_il5, e_is6i, e_is6r, e_is6u, e_dupi, e_dupr, g_77_5, e_iadd, p_77_5, e_il6, r_X4_readJoined, e_ineg, r_X4_emit, e_ic_ne, e_goto, e_ii4i, e_ii4r, e_ii4u, e_vret, kn_0, kn_1, kn_2, kn_4, kn_60, b_X4_readJoined_81, b_X4_readJoined_83, b_X4_readJoined_90, Option.bind_some, Option.toList_some, Option.toList_none, List.cons_append, List.nil_append, z_0, nI_add, pk_mul, pk_sub, pk_div, n_mod, nI_clamp, nI_leI, nI_ltI, nI_eq, le_T, le_F, lt_T, lt_F, eq_T, eq_F, n_i0, n_i1, eq_self, not_true_eq_false, not_false_eq_true, Bool.false_eq_true, ↓reduceIte, if_true, if_false, tm_up_n, tm_up_s, tm_up_i, ite_self, true_and, and_true, false_and, and_false, n_ofN, Nat.reduceAdd, Nat.reduceMul, Nat.reduceSub, Nat.zero_add, u1, cl, m_within, m1_k (by omega : k < 2 ^ 31)]
  · simp (disch := first | exact tm_inb_i (by omega) (by omega) | exact tm_cc rfl | exact tm_cat rfl | omega | exact nI_ne0 (by omega) (by omega) | exact nI_ne (by omega) (by omega) (by omega) | exact tm_cS (by omega) | assumption) only [e_al0, e_il2, r_X4_readSingle, e_iconst, e_is3i, e_is3r, e_is3u, e_is4i, e_is4r, e_is4u, e_gotow, e_il4, e_ic_ge, r_X4_sign, r_X4_levelOf, e_il1, e_il3, r_X11_within, e_if_eq, e_is5i, e_is5r, e_is5u, e_il5, e_is6i, e_is6r, e_is6u, e_dupi, e_dupr, g_77_5, e_iadd, p_77_5, e_il6, r_X4_readJoined, e_ineg, r_X4_emit, e_ic_ne, e_goto, e_ii4i, e_ii4r, e_ii4u, e_vret, kn_0, kn_1, kn_2, kn_4, kn_60, b_X4_readJoined_81, b_X4_readJoined_83, b_X4_readJoined_90, Option.bind_some, Option.toList_some, Option.toList_none, List.cons_append, List.nil_append, z_0, nI_add, pk_mul, pk_sub, pk_div, n_mod, nI_clamp, nI_leI, nI_ltI, nI_eq, le_T, le_F, lt_T, lt_F, eq_T, eq_F, n_i0, n_i1, eq_self, not_true_eq_false, not_false_eq_true, Bool.false_eq_true, ↓reduceIte, if_true, if_false, tm_up_n, tm_up_s, tm_up_i, ite_self, true_and, and_true, false_and, and_false, n_ofN, Nat.reduceAdd, Nat.reduceMul, Nat.reduceSub, Nat.zero_add]
theorem c_loop (H : cH M0 b z) {w : Nat} (i2 : ∀ w', w' < w → cJo l x M0 b z w') (hk : k ≤ 5) (ho : o ≤ 5) (hd : 7 * (5 - o) + (6 - k) + 4 ≤ d + 1) : ∀ (g p e L i : Nat) (c : Nat → Int32) (v5 v6 : Value), z - p ≤ g → z - p ≤ w → p ≤ z → e ≤ p → i ≤ p → L ≤ 4 → ∃ M', tm_ev (d + 1) (tm_blk (Int.toNat 400010)) [.ref 77, .int (nI k), .int (nI o), .int (nI L), .int (nI i), v5, v6] [] (tm_GG l x) (cS M0 p e (-1) c) = some (none, tm_GG l x, M') ∧ cR M0 b z e c (px_ch b z k o (L + 1) (p, false)) M' := by
  have hz := H.2.2.2
  intro g
  induction g with
  | zero =>
    intro p e L i c v5 v6 hg hw hp he hi hL
    have hb : px_byte b z (p, false) = -1 := px_b1 (Or.inr (by show z ≤ p; omega))
    have h9 : ¬ px_lv (px_byte b z (p, false)) < 5 := by rw [hb]; decide +kernel
    have cl := c_lvn (l := l) (x := x) (d := d) h9 (cS M0 p e (-1) c)
    rw [px_ch_no hz hp (L + 1) (by omega) (fun m a y => by omega)]
    refine ⟨cS M0 p e (-1) c, ?_, Or.inl ⟨rfl, rfl⟩⟩
    rw [b_X4_readJoined_10]
    by_cases a : i < 60
    · simp (disch := first | exact tm_inb_i (by omega) (by omega) | exact tm_cc rfl | exact tm_cat rfl | omega | exact nI_ne0 (by omega) (by omega) | exact nI_ne (by omega) (by omega) (by omega) | exact tm_cS (by omega) | assumption) only [e_al0, e_il2, r_X4_readSingle, e_iconst, e_is3i, e_is3r, e_is3u, e_is4i, e_is4r, e_is4u, e_gotow, e_il4, e_ic_ge, r_X4_sign, r_X4_levelOf, e_il1, e_il3, r_X11_within, e_if_eq, e_is5i, e_is5r, e_is5u, e_il5, e_is6i, e_is6r, e_is6u, e_dupi, e_dupr, g_77_5, e_iadd, p_77_5, e_il6, r_X4_readJoined, e_ineg, r_X4_emit, e_ic_ne, e_goto, e_ii4i, e_ii4r, e_ii4u, e_vret, kn_0, kn_1, kn_2, kn_4, kn_60, b_X4_readJoined_81, b_X4_readJoined_83, b_X4_readJoined_90, Option.bind_some, Option.toList_some, Option.toList_none, List.cons_append, List.nil_append, z_0, nI_add, pk_mul, pk_sub, pk_div, n_mod, nI_clamp, nI_leI, nI_ltI, nI_eq, le_T, le_F, lt_T, lt_F, eq_T, eq_F, n_i0, n_i1, eq_self, not_true_eq_false, not_false_eq_true, Bool.false_eq_true, ↓reduceIte, if_true, if_false, tm_up_n, tm_up_s, tm_up_i, ite_self, true_and, and_true, false_and, and_false, n_ofN, Nat.reduceAdd, Nat.reduceMul, Nat.reduceSub, Nat.zero_add, c_sign H hp, cl, m_within, m1_k (by omega : k < 2 ^ 31)]
    · simp (disch := first | exact tm_inb_i (by omega) (by omega) | exact tm_cc rfl | exact tm_cat rfl | omega | exact nI_ne0 (by omega) (by omega) | exact nI_ne (by omega) (by omega) (by omega) | exact tm_cS (by omega) | assumption) only [e_al0, e_il2, r_X4_readSingle, e_iconst, e_is3i, e_is3r, e_is3u, e_is4i, e_is4r, e_is4u, e_gotow, e_il4, e_ic_ge, r_X4_sign, r_X4_levelOf, e_il1, e_il3, r_X11_within, e_if_eq, e_is5i, e_is5r, e_is5u, e_il5, e_is6i, e_is6r, e_is6u, e_dupi, e_dupr, g_77_5, e_iadd, p_77_5, e_il6, r_X4_readJoined, e_ineg, r_X4_emit, e_ic_ne, e_goto, e_ii4i, e_ii4r, e_ii4u, e_vret, kn_0, kn_1, kn_2, kn_4, kn_60, b_X4_readJoined_81, b_X4_readJoined_83, b_X4_readJoined_90, Option.bind_some, Option.toList_some, Option.toList_none, List.cons_append, List.nil_append, z_0, nI_add, pk_mul, pk_sub, pk_div, n_mod, nI_clamp, nI_leI, nI_ltI, nI_eq, le_T, le_F, lt_T, lt_F, eq_T, eq_F, n_i0, n_i1, eq_self, not_true_eq_false, not_false_eq_true, Bool.false_eq_true, ↓reduceIte, if_true, if_false, tm_up_n, tm_up_s, tm_up_i, ite_self, true_and, and_true, false_and, and_false, n_ofN, Nat.reduceAdd, Nat.reduceMul, Nat.reduceSub, Nat.zero_add]
  | succ g ih =>
    intro p e L i c v5 v6 hg hw hp he hi hL
    by_cases q : k ≤ px_lv (px_byte b z (p, false)) ∧ px_lv (px_byte b z (p, false)) ≤ L
    · obtain ⟨m, hm⟩ : ∃ m, px_lv (px_byte b z (p, false)) = m := ⟨_, rfl⟩
      rw [hm] at q
      obtain ⟨_, hpz⟩ := px_lv_at (by omega : m < 5) hm
      have hi6 : i < 60 := by omega
      rw [px_ch_yes hz hp q.1 hm (L + 1) (by omega) (by omega)]
      have cl := fun M => c_lvm (l := l) (x := x) (d := d) hm (by omega) M
      obtain ⟨M1, m1, m2⟩ := i2 (w - 1) (by omega) d (m + 1) (p + 1) e o c (by omega) (by omega) hpz (by omega) ho (by omega)
      have hb := px_b (b := b) px_F (m + 1) o (p + 1) false (by omega) hpz
      have hn := px_len (b := b) (z := z) px_F (m + 1) o (p + 1) false (by omega) hpz
      generalize hs1 : px_P b z px_F (m + 1) o (p + 1, false) = s1 at *
      obtain ⟨cc, p1, bd1⟩ := s1
      simp only at hb hn
      rw [b_X4_readJoined_10]
      rcases m2 with ⟨r1, rfl⟩ | ⟨r1, r2⟩
      · simp only at r1 m1
        subst r1
        have hn := hn rfl
        have em := fun v => c_emit (d := d) (l := l) (x := x) (M0 := M0) (p := p1) (F := -1) (c := cw c e cc) (v := v) (by omega : e + cc.length < 60)
        by_cases h2 : m = 2
        · subst h2
          obtain ⟨M2, t1, t2⟩ := ih p1 (e + cc.length + 1) 1 (i + 1) (upd (cw c e cc) (e + cc.length) (-(px_byte b z (p, false)))) (.int (px_byte b z (p, false))) (.int (nI 2)) (by omega) (by omega) hb.2 (by omega) (by omega) (by decide)
          rw [show (1 : Nat) + 1 = 2 from rfl] at t2
          refine ⟨M2, ?_, ?_⟩
          · simp (disch := first | exact tm_inb_i (by omega) (by omega) | exact tm_cc rfl | exact tm_cat rfl | omega | exact nI_ne0 (by omega) (by omega) | exact nI_ne (by omega) (by omega) (by omega) | exact tm_cS (by omega) | assumption) only [e_al0, e_il2, r_X4_readSingle, e_iconst, e_is3i, e_is3r, e_is3u, e_is4i, e_is4r, e_is4u, e_gotow, e_il4, e_ic_ge, r_X4_sign, r_X4_levelOf, e_il1, e_il3, r_X11_within, e_if_eq, e_is5i, e_is5r, e_is5u, e_il5, e_is6i, e_is6r, e_is6u, e_dupi, e_dupr, g_77_5, e_iadd, p_77_5, e_il6, r_X4_readJoined, e_ineg, r_X4_emit, e_ic_ne, e_goto, e_ii4i, e_ii4r, e_ii4u, e_vret, kn_0, kn_1, kn_2, kn_4, kn_60, b_X4_readJoined_81, b_X4_readJoined_83, b_X4_readJoined_90, Option.bind_some, Option.toList_some, Option.toList_none, List.cons_append, List.nil_append, z_0, nI_add, pk_mul, pk_sub, pk_div, n_mod, nI_clamp, nI_leI, nI_ltI, nI_eq, le_T, le_F, lt_T, lt_F, eq_T, eq_F, n_i0, n_i1, eq_self, not_true_eq_false, not_false_eq_true, Bool.false_eq_true, ↓reduceIte, if_true, if_false, tm_up_n, tm_up_s, tm_up_i, ite_self, true_and, and_true, false_and, and_false, n_ofN, Nat.reduceAdd, Nat.reduceMul, Nat.reduceSub, Nat.zero_add, c_sign H hp, cl, m_within, cS_5, cu5, m1, em, t1]
          · rcases t2 with ⟨s1, s2⟩ | ⟨s1, s2⟩
            · refine Or.inl ⟨s1, s2.trans ?_⟩
              rw [if_pos rfl]
              dsimp only
              rw [cw_app, cw_app, cw_one, List.length_append, List.length_append, List.length_singleton]
              congr 1
              omega
            · exact Or.inr ⟨s1, s2⟩
        · obtain ⟨M2, t1, t2⟩ := ih p1 (e + cc.length + 1) m (i + 1) (upd (cw c e cc) (e + cc.length) (-(px_byte b z (p, false)))) (.int (px_byte b z (p, false))) (.int (nI m)) (by omega) (by omega) hb.2 (by omega) (by omega) (by omega)
          rw [if_neg h2]
          refine ⟨M2, ?_, ?_⟩
          · simp (disch := first | exact tm_inb_i (by omega) (by omega) | exact tm_cc rfl | exact tm_cat rfl | omega | exact nI_ne0 (by omega) (by omega) | exact nI_ne (by omega) (by omega) (by omega) | exact tm_cS (by omega) | assumption) only [e_al0, e_il2, r_X4_readSingle, e_iconst, e_is3i, e_is3r, e_is3u, e_is4i, e_is4r, e_is4u, e_gotow, e_il4, e_ic_ge, r_X4_sign, r_X4_levelOf, e_il1, e_il3, r_X11_within, e_if_eq, e_is5i, e_is5r, e_is5u, e_il5, e_is6i, e_is6r, e_is6u, e_dupi, e_dupr, g_77_5, e_iadd, p_77_5, e_il6, r_X4_readJoined, e_ineg, r_X4_emit, e_ic_ne, e_goto, e_ii4i, e_ii4r, e_ii4u, e_vret, kn_0, kn_1, kn_2, kn_4, kn_60, b_X4_readJoined_81, b_X4_readJoined_83, b_X4_readJoined_90, Option.bind_some, Option.toList_some, Option.toList_none, List.cons_append, List.nil_append, z_0, nI_add, pk_mul, pk_sub, pk_div, n_mod, nI_clamp, nI_leI, nI_ltI, nI_eq, le_T, le_F, lt_T, lt_F, eq_T, eq_F, n_i0, n_i1, eq_self, not_true_eq_false, not_false_eq_true, Bool.false_eq_true, ↓reduceIte, if_true, if_false, tm_up_n, tm_up_s, tm_up_i, ite_self, true_and, and_true, false_and, and_false, n_ofN, Nat.reduceAdd, Nat.reduceMul, Nat.reduceSub, Nat.zero_add, c_sign H hp, cl, m_within, cS_5, cu5, m1, em, h2, t1]
          · rcases t2 with ⟨s1, s2⟩ | ⟨s1, s2⟩
            · refine Or.inl ⟨s1, s2.trans ?_⟩
              dsimp only
              rw [cw_app, cw_app, cw_one, List.length_append, List.length_append, List.length_singleton]
              congr 1
              omega
            · exact Or.inr ⟨s1, s2⟩
      · simp only at r1 r2
        subst r1
        obtain ⟨M2, f1, f2⟩ := cB_emit (d := d) (l := l) (x := x) (v := -(px_byte b z (p, false))) r2
        have h9 : ¬ px_lv (px_byte b z (p1, true)) < 5 := by rw [px_b1 (Or.inl rfl)]; decide +kernel
        rw [px_ch_no hz hb.2 _ (by split <;> omega) (fun m' a y => by split at y <;> omega)]
        refine ⟨M2, ?_, Or.inr ⟨rfl, f2⟩⟩
        have lb := fun L v5 v6 => c_loopb (d := d) (l := l) (x := x) (L := L) (v5 := v5) (v6 := v6) H hk ho hb.2 f2 (by omega : i + 1 < 2 ^ 31)
        by_cases h2 : m = 2
        · subst h2
          simp (disch := first | exact tm_inb_i (by omega) (by omega) | exact tm_cc rfl | exact tm_cat rfl | omega | exact nI_ne0 (by omega) (by omega) | exact nI_ne (by omega) (by omega) (by omega) | exact tm_cS (by omega) | assumption) only [e_al0, e_il2, r_X4_readSingle, e_iconst, e_is3i, e_is3r, e_is3u, e_is4i, e_is4r, e_is4u, e_gotow, e_il4, e_ic_ge, r_X4_sign, r_X4_levelOf, e_il1, e_il3, r_X11_within, e_if_eq, e_is5i, e_is5r, e_is5u, e_il5, e_is6i, e_is6r, e_is6u, e_dupi, e_dupr, g_77_5, e_iadd, p_77_5, e_il6, r_X4_readJoined, e_ineg, r_X4_emit, e_ic_ne, e_goto, e_ii4i, e_ii4r, e_ii4u, e_vret, kn_0, kn_1, kn_2, kn_4, kn_60, b_X4_readJoined_81, b_X4_readJoined_83, b_X4_readJoined_90, Option.bind_some, Option.toList_some, Option.toList_none, List.cons_append, List.nil_append, z_0, nI_add, pk_mul, pk_sub, pk_div, n_mod, nI_clamp, nI_leI, nI_ltI, nI_eq, le_T, le_F, lt_T, lt_F, eq_T, eq_F, n_i0, n_i1, eq_self, not_true_eq_false, not_false_eq_true, Bool.false_eq_true, ↓reduceIte, if_true, if_false, tm_up_n, tm_up_s, tm_up_i, ite_self, true_and, and_true, false_and, and_false, n_ofN, Nat.reduceAdd, Nat.reduceMul, Nat.reduceSub, Nat.zero_add, c_sign H hp, cl, m_within, cS_5, cu5, m1, f1, lb]
        · simp (disch := first | exact tm_inb_i (by omega) (by omega) | exact tm_cc rfl | exact tm_cat rfl | omega | exact nI_ne0 (by omega) (by omega) | exact nI_ne (by omega) (by omega) (by omega) | exact tm_cS (by omega) | assumption) only [e_al0, e_il2, r_X4_readSingle, e_iconst, e_is3i, e_is3r, e_is3u, e_is4i, e_is4r, e_is4u, e_gotow, e_il4, e_ic_ge, r_X4_sign, r_X4_levelOf, e_il1, e_il3, r_X11_within, e_if_eq, e_is5i, e_is5r, e_is5u, e_il5, e_is6i, e_is6r, e_is6u, e_dupi, e_dupr, g_77_5, e_iadd, p_77_5, e_il6, r_X4_readJoined, e_ineg, r_X4_emit, e_ic_ne, e_goto, e_ii4i, e_ii4r, e_ii4u, e_vret, kn_0, kn_1, kn_2, kn_4, kn_60, b_X4_readJoined_81, b_X4_readJoined_83, b_X4_readJoined_90, Option.bind_some, Option.toList_some, Option.toList_none, List.cons_append, List.nil_append, z_0, nI_add, pk_mul, pk_sub, pk_div, n_mod, nI_clamp, nI_leI, nI_ltI, nI_eq, le_T, le_F, lt_T, lt_F, eq_T, eq_F, n_i0, n_i1, eq_self, not_true_eq_false, not_false_eq_true, Bool.false_eq_true, ↓reduceIte, if_true, if_false, tm_up_n, tm_up_s, tm_up_i, ite_self, true_and, and_true, false_and, and_false, n_ofN, Nat.reduceAdd, Nat.reduceMul, Nat.reduceSub, Nat.zero_add, c_sign H hp, cl, m_within, cS_5, cu5, m1, f1, h2, lb]
    · rw [px_ch_no hz hp (L + 1) (by omega) (fun m a y => by omega)]
      refine ⟨cS M0 p e (-1) c, ?_, Or.inl ⟨rfl, rfl⟩⟩
      rw [b_X4_readJoined_10]
      by_cases a : i < 60
      · by_cases h5 : px_lv (px_byte b z (p, false)) < 5
        · obtain ⟨m, hm⟩ : ∃ m, px_lv (px_byte b z (p, false)) = m := ⟨_, rfl⟩
          rw [hm] at q h5
          have cl := c_lvm (l := l) (x := x) (d := d) hm h5 (cS M0 p e (-1) c)
          have nk : ¬ (¬ m < k ∧ ¬ L < m) := by omega
          simp (disch := first | exact tm_inb_i (by omega) (by omega) | exact tm_cc rfl | exact tm_cat rfl | omega | exact nI_ne0 (by omega) (by omega) | exact nI_ne (by omega) (by omega) (by omega) | exact tm_cS (by omega) | assumption) only [e_al0, e_il2, r_X4_readSingle, e_iconst, e_is3i, e_is3r, e_is3u, e_is4i, e_is4r, e_is4u, e_gotow, e_il4, e_ic_ge, r_X4_sign, r_X4_levelOf, e_il1, e_il3, r_X11_within, e_if_eq, e_is5i, e_is5r, e_is5u, e_il5, e_is6i, e_is6r, e_is6u, e_dupi, e_dupr, g_77_5, e_iadd, p_77_5, e_il6, r_X4_readJoined, e_ineg, r_X4_emit, e_ic_ne, e_goto, e_ii4i, e_ii4r, e_ii4u, e_vret, kn_0, kn_1, kn_2, kn_4, kn_60, b_X4_readJoined_81, b_X4_readJoined_83, b_X4_readJoined_90, Option.bind_some, Option.toList_some, Option.toList_none, List.cons_append, List.nil_append, z_0, nI_add, pk_mul, pk_sub, pk_div, n_mod, nI_clamp, nI_leI, nI_ltI, nI_eq, le_T, le_F, lt_T, lt_F, eq_T, eq_F, n_i0, n_i1, eq_self, not_true_eq_false, not_false_eq_true, Bool.false_eq_true, ↓reduceIte, if_true, if_false, tm_up_n, tm_up_s, tm_up_i, ite_self, true_and, and_true, false_and, and_false, n_ofN, Nat.reduceAdd, Nat.reduceMul, Nat.reduceSub, Nat.zero_add, c_sign H hp, cl, m_within, nk]
        · have cl := c_lvn (l := l) (x := x) (d := d) h5 (cS M0 p e (-1) c)
          simp (disch := first | exact tm_inb_i (by omega) (by omega) | exact tm_cc rfl | exact tm_cat rfl | omega | exact nI_ne0 (by omega) (by omega) | exact nI_ne (by omega) (by omega) (by omega) | exact tm_cS (by omega) | assumption) only [e_al0, e_il2, r_X4_readSingle, e_iconst, e_is3i, e_is3r, e_is3u, e_is4i, e_is4r, e_is4u, e_gotow, e_il4, e_ic_ge, r_X4_sign, r_X4_levelOf, e_il1, e_il3, r_X11_within, e_if_eq, e_is5i, e_is5r, e_is5u, e_il5, e_is6i, e_is6r, e_is6u, e_dupi, e_dupr, g_77_5, e_iadd, p_77_5, e_il6, r_X4_readJoined, e_ineg, r_X4_emit, e_ic_ne, e_goto, e_ii4i, e_ii4r, e_ii4u, e_vret, kn_0, kn_1, kn_2, kn_4, kn_60, b_X4_readJoined_81, b_X4_readJoined_83, b_X4_readJoined_90, Option.bind_some, Option.toList_some, Option.toList_none, List.cons_append, List.nil_append, z_0, nI_add, pk_mul, pk_sub, pk_div, n_mod, nI_clamp, nI_leI, nI_ltI, nI_eq, le_T, le_F, lt_T, lt_F, eq_T, eq_F, n_i0, n_i1, eq_self, not_true_eq_false, not_false_eq_true, Bool.false_eq_true, ↓reduceIte, if_true, if_false, tm_up_n, tm_up_s, tm_up_i, ite_self, true_and, and_true, false_and, and_false, n_ofN, Nat.reduceAdd, Nat.reduceMul, Nat.reduceSub, Nat.zero_add, c_sign H hp, cl, m_within, m1_k (by omega : k < 2 ^ 31)]
      · simp (disch := first | exact tm_inb_i (by omega) (by omega) | exact tm_cc rfl | exact tm_cat rfl | omega | exact nI_ne0 (by omega) (by omega) | exact nI_ne (by omega) (by omega) (by omega) | exact tm_cS (by omega) | assumption) only [e_al0, e_il2, r_X4_readSingle, e_iconst, e_is3i, e_is3r, e_is3u, e_is4i, e_is4r, e_is4u, e_gotow, e_il4, e_ic_ge, r_X4_sign, r_X4_levelOf, e_il1, e_il3, r_X11_within, e_if_eq, e_is5i, e_is5r, e_is5u, e_il5, e_is6i, e_is6r, e_is6u, e_dupi, e_dupr, g_77_5, e_iadd, p_77_5, e_il6, r_X4_readJoined, e_ineg, r_X4_emit, e_ic_ne, e_goto, e_ii4i, e_ii4r, e_ii4u, e_vret, kn_0, kn_1, kn_2, kn_4, kn_60, b_X4_readJoined_81, b_X4_readJoined_83, b_X4_readJoined_90, Option.bind_some, Option.toList_some, Option.toList_none, List.cons_append, List.nil_append, z_0, nI_add, pk_mul, pk_sub, pk_div, n_mod, nI_clamp, nI_leI, nI_ltI, nI_eq, le_T, le_F, lt_T, lt_F, eq_T, eq_F, n_i0, n_i1, eq_self, not_true_eq_false, not_false_eq_true, Bool.false_eq_true, ↓reduceIte, if_true, if_false, tm_up_n, tm_up_s, tm_up_i, ite_self, true_and, and_true, false_and, and_false, n_ofN, Nat.reduceAdd, Nat.reduceMul, Nat.reduceSub, Nat.zero_add]
theorem c_joined (H : cH M0 b z) {w : Nat} (i1 : cSg l x M0 b z w) (i2 : ∀ w', w' < w → cJo l x M0 b z w') : cJo l x M0 b z w := by
  intro d k p e o c hk hw hp he ho hd
  have hz := H.2.2.2
  obtain ⟨d, rfl⟩ : ∃ d', d = d' + 1 := ⟨d - 1, by omega⟩
  obtain ⟨M1, m1, m2⟩ := i1 d p e o c hw hp he ho (by omega)
  rw [px_lev hz hp hk]
  have hb := px_b (b := b) px_F 5 o p false (by decide) hp
  have hn := px_len (b := b) (z := z) px_F 5 o p false (by decide) hp
  generalize hs1 : px_P b z px_F 5 o (p, false) = s1 at *
  obtain ⟨cc, p1, bd1⟩ := s1
  simp only at hb hn
  rcases m2 with ⟨r1, rfl⟩ | ⟨r1, r2⟩
  · simp only at r1 m1
    subst r1
    have hn := hn rfl
    obtain ⟨M2, t1, t2⟩ := c_loop (d := d) H i2 hk ho hd (z - p1) p1 (e + cc.length) 4 0 (cw c e cc) tm_un tm_un (Nat.le_refl _) (by omega) hb.2 (by omega) (by omega) (by decide)
    rw [show (4 : Nat) + 1 = 5 from rfl] at t2
    refine ⟨M2, ?_, ?_⟩
    · simp (disch := first | exact tm_inb_i (by omega) (by omega) | exact tm_cc rfl | exact tm_cat rfl | omega | exact nI_ne0 (by omega) (by omega) | exact nI_ne (by omega) (by omega) (by omega) | exact tm_cS (by omega) | assumption) only [n_X4_readJoined, e_al0, e_il2, r_X4_readSingle, e_iconst, e_is3i, e_is3r, e_is3u, e_is4i, e_is4r, e_is4u, e_gotow, e_il4, e_ic_ge, r_X4_sign, r_X4_levelOf, e_il1, e_il3, r_X11_within, e_if_eq, e_is5i, e_is5r, e_is5u, e_il5, e_is6i, e_is6r, e_is6u, e_dupi, e_dupr, g_77_5, e_iadd, p_77_5, e_il6, r_X4_readJoined, e_ineg, r_X4_emit, e_ic_ne, e_goto, e_ii4i, e_ii4r, e_ii4u, e_vret, kn_0, kn_1, kn_2, kn_4, kn_60, b_X4_readJoined_81, b_X4_readJoined_83, b_X4_readJoined_90, Option.bind_some, Option.toList_some, Option.toList_none, List.cons_append, List.nil_append, z_0, nI_add, pk_mul, pk_sub, pk_div, n_mod, nI_clamp, nI_leI, nI_ltI, nI_eq, le_T, le_F, lt_T, lt_F, eq_T, eq_F, n_i0, n_i1, eq_self, not_true_eq_false, not_false_eq_true, Bool.false_eq_true, ↓reduceIte, if_true, if_false, tm_up_n, tm_up_s, tm_up_i, ite_self, true_and, and_true, false_and, and_false, n_ofN, Nat.reduceAdd, Nat.reduceMul, Nat.reduceSub, Nat.zero_add, m1, t1]
    · rcases t2 with ⟨s1, s2⟩ | ⟨s1, s2⟩
      · refine Or.inl ⟨s1, s2.trans ?_⟩
        dsimp only
        rw [cw_app, List.length_append, Nat.add_assoc]
      · exact Or.inr ⟨s1, s2⟩
  · simp only at r1 r2
    subst r1
    have h9 : ¬ px_lv (px_byte b z (p1, true)) < 5 := by rw [px_b1 (Or.inl rfl)]; decide +kernel
    rw [px_ch_no hz hb.2 5 (by decide) (fun m' a y => by omega)]
    refine ⟨M1, ?_, Or.inr ⟨rfl, r2⟩⟩
    have lb := c_loopb (d := d) (l := l) (x := x) (L := 4) (i := 0) (v5 := tm_un) (v6 := tm_un) H hk ho hb.2 r2 (by decide)
    simp (disch := first | exact tm_inb_i (by omega) (by omega) | exact tm_cc rfl | exact tm_cat rfl | omega | exact nI_ne0 (by omega) (by omega) | exact nI_ne (by omega) (by omega) (by omega) | exact tm_cS (by omega) | assumption) only [n_X4_readJoined, e_al0, e_il2, r_X4_readSingle, e_iconst, e_is3i, e_is3r, e_is3u, e_is4i, e_is4r, e_is4u, e_gotow, e_il4, e_ic_ge, r_X4_sign, r_X4_levelOf, e_il1, e_il3, r_X11_within, e_if_eq, e_is5i, e_is5r, e_is5u, e_il5, e_is6i, e_is6r, e_is6u, e_dupi, e_dupr, g_77_5, e_iadd, p_77_5, e_il6, r_X4_readJoined, e_ineg, r_X4_emit, e_ic_ne, e_goto, e_ii4i, e_ii4r, e_ii4u, e_vret, kn_0, kn_1, kn_2, kn_4, kn_60, b_X4_readJoined_81, b_X4_readJoined_83, b_X4_readJoined_90, Option.bind_some, Option.toList_some, Option.toList_none, List.cons_append, List.nil_append, z_0, nI_add, pk_mul, pk_sub, pk_div, n_mod, nI_clamp, nI_leI, nI_ltI, nI_eq, le_T, le_F, lt_T, lt_F, eq_T, eq_F, n_i0, n_i1, eq_self, not_true_eq_false, not_false_eq_true, Bool.false_eq_true, ↓reduceIte, if_true, if_false, tm_up_n, tm_up_s, tm_up_i, ite_self, true_and, and_true, false_and, and_false, n_ofN, Nat.reduceAdd, Nat.reduceMul, Nat.reduceSub, Nat.zero_add, m1, lb]
theorem c_all (H : cH M0 b z) : ∀ w, cSg l x M0 b z w ∧ cJo l x M0 b z w := by
  intro w
  induction w using Nat.strongRecOn with
  | ind w ih =>
    have s := c_single H (fun w' h => (ih w' h).1) (fun w' h => (ih w' h).2)
    exact ⟨s, c_joined H s (fun w' h => (ih w' h).2)⟩
end TCJ
