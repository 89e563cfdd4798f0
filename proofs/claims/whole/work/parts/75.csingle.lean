/-! part 75: the class reads a text: single ones -/
def cw (c : Nat → Int32) (e : Nat) : List Int32 → Nat → Int32
  | [] => c
  | a :: as => cw (upd c e a) (e + 1) as
theorem cw_app : ∀ (as bs : List Int32) (c : Nat → Int32) (e : Nat), cw c e (as ++ bs) = cw (cw c e as) (e + as.length) bs := by
  intro as
  induction as with
  | nil => intro bs c e; rfl
  | cons a as ih =>
    intro bs c e
    rw [List.cons_append, cw, cw, ih, List.length_cons, show e + 1 + as.length = e + (as.length + 1) by omega]
theorem cw_one {c : Nat → Int32} {e : Nat} {a : Int32} : cw c e [a] = upd c e a := rfl
/-- the class's reader has failed at p, or will -/
def cB (M0 : tm_M) (b : Nat → Int32) (z p : Nat) (M : tm_M) : Prop := ∃ e F c, e ≤ 60 ∧ M = cS M0 p e F c ∧ (F = nI p ∨ F = -1 ∧ px_dg (px_byte b z (p, false)) = true)
def cR (M0 : tm_M) (b : Nat → Int32) (z e : Nat) (c : Nat → Int32) (r : List Int32 × Nat × Bool) (M : tm_M) : Prop := (r.2.2 = false ∧ M = cS M0 r.2.1 (e + r.1.length) (-1) (cw c e r.1)) ∨ (r.2.2 = true ∧ cB M0 b z r.2.1 M)
section TCS
variable {d l : Nat} {x : Nat → Int32} {M0 M : tm_M} {b : Nat → Int32} {z p e : Nat} {v : Int32} {c : Nat → Int32}
theorem cB_emit (h : cB M0 b z p M) : ∃ M', tm_call d 38 [.ref 77, .int v] (tm_GG l x) M = some (none, tm_GG l x, M') ∧ cB M0 b z p M' := by
  obtain ⟨e, F, c, he, rfl, hF⟩ := h
  by_cases q : e < 60
  · exact ⟨_, c_emit q, e + 1, F, _, q, rfl, hF⟩
  · obtain rfl : e = 60 := by omega
    exact ⟨_, c_emitf, 60, F, _, he, rfl, hF⟩
theorem cB_sign (H : cH M0 b z) (hp : p ≤ z) (h : cB M0 b z p M) : ∃ u, tm_call d 36 [.ref 77] (tm_GG l x) M = some (some (.int u), tm_GG l x, M) ∧ px_lv u = 9 ∧ ¬ u = nI 41 := by
  have hz := H.2.2.2
  obtain ⟨e, F, c, he, rfl, hF⟩ := h
  rcases hF with rfl | ⟨rfl, hd⟩
  · exact ⟨-1, c_signb (by omega), by decide +kernel, by decide +kernel⟩
  · refine ⟨_, c_sign H hp, ?_⟩
    obtain ⟨u, u1, u2, u3⟩ := px_dg_v hd
    rw [u3]
    rcases (by omega : u = 48 ∨ u = 49 ∨ u = 50 ∨ u = 51 ∨ u = 52 ∨ u = 53 ∨ u = 54 ∨ u = 55 ∨ u = 56 ∨ u = 57) with rfl | rfl | rfl | rfl | rfl | rfl | rfl | rfl | rfl | rfl <;> decide +kernel
theorem cB_fail (hz : z ≤ 60) (hp : p ≤ z) (h : cB M0 b z p M) : ∃ M', tm_call d 37 [.ref 77] (tm_GG l x) M = some (none, tm_GG l x, M') ∧ cB M0 b z p M' := by
  obtain ⟨e, F, c, he, rfl, hF⟩ := h
  rcases hF with rfl | ⟨rfl, hd⟩
  · exact ⟨_, c_failb (by omega), e, _, c, he, rfl, Or.inl rfl⟩
  · exact ⟨_, c_fail, e, _, c, he, rfl, Or.inl rfl⟩
theorem cB_close (H : cH M0 b z) (hp : p ≤ z) (h : cB M0 b z p M) : ∃ M', tm_call (d + 1) 42 [.ref 77] (tm_GG l x) M = some (none, tm_GG l x, M') ∧ cB M0 b z p M' := by
  obtain ⟨u, u1, _, u3⟩ := cB_sign (d := d) (l := l) (x := x) H hp h
  obtain ⟨M', f1, f2⟩ := cB_fail (d := d) (l := l) (x := x) H.2.2.2 hp h
  refine ⟨M', ?_, f2⟩
  simp (disch := first | exact tm_inb_i (by omega) (by omega) | exact tm_cc rfl | exact tm_cat rfl | omega | exact nI_ne0 (by omega) (by omega) | exact nI_ne (by omega) (by omega) (by omega) | exact tm_cS (by omega) | assumption) only [n_X4_close, e_al0, r_X4_sign, e_iconst, e_ic_ne, e_dupi, e_dupr, g_77_5, e_iadd, p_77_5, e_goto, r_X4_failHere, e_gotow, e_vret, kn_1, kn_41, b_X4_close_22, b_X4_close_26, Option.bind_some, Option.toList_some, Option.toList_none, List.cons_append, List.nil_append, z_0, nI_add, pk_mul, pk_sub, pk_div, n_mod, nI_clamp, nI_leI, nI_ltI, nI_eq, le_T, le_F, lt_T, lt_F, eq_T, eq_F, n_i0, n_i1, eq_self, not_true_eq_false, not_false_eq_true, Bool.false_eq_true, ↓reduceIte, if_true, if_false, tm_up_n, tm_up_s, tm_up_i, ite_self, true_and, and_true, false_and, and_false, n_ofN, Nat.reduceAdd, Nat.reduceMul, Nat.reduceSub, Nat.zero_add, u1, u3, f1]
theorem c_close_t (H : cH M0 b z) (hp : p ≤ z) (h : px_byte b z (p, false) = nI 41) : tm_call (d + 1) 42 [.ref 77] (tm_GG l x) (cS M0 p e (-1) c) = some (none, tm_GG l x, cS M0 (p + 1) e (-1) c) := by
  have hz := H.2.2.2
  simp (disch := first | exact tm_inb_i (by omega) (by omega) | exact tm_cc rfl | exact tm_cat rfl | omega | exact nI_ne0 (by omega) (by omega) | exact nI_ne (by omega) (by omega) (by omega) | exact tm_cS (by omega) | assumption) only [n_X4_close, e_al0, r_X4_sign, e_iconst, e_ic_ne, e_dupi, e_dupr, g_77_5, e_iadd, p_77_5, e_goto, r_X4_failHere, e_gotow, e_vret, kn_1, kn_41, b_X4_close_22, b_X4_close_26, Option.bind_some, Option.toList_some, Option.toList_none, List.cons_append, List.nil_append, z_0, nI_add, pk_mul, pk_sub, pk_div, n_mod, nI_clamp, nI_leI, nI_ltI, nI_eq, le_T, le_F, lt_T, lt_F, eq_T, eq_F, n_i0, n_i1, eq_self, not_true_eq_false, not_false_eq_true, Bool.false_eq_true, ↓reduceIte, if_true, if_false, tm_up_n, tm_up_s, tm_up_i, ite_self, true_and, and_true, false_and, and_false, n_ofN, Nat.reduceAdd, Nat.reduceMul, Nat.reduceSub, Nat.zero_add, c_sign H hp, h, cS_5, cu5]
theorem c_close_f (H : cH M0 b z) (hp : p ≤ z) (h : ¬ px_byte b z (p, false) = nI 41) : tm_call (d + 1) 42 [.ref 77] (tm_GG l x) (cS M0 p e (-1) c) = some (none, tm_GG l x, cS M0 p e (nI p) c) := by
  have hz := H.2.2.2
  simp (disch := first | exact tm_inb_i (by omega) (by omega) | exact tm_cc rfl | exact tm_cat rfl | omega | exact nI_ne0 (by omega) (by omega) | exact nI_ne (by omega) (by omega) (by omega) | exact tm_cS (by omega) | assumption) only [n_X4_close, e_al0, r_X4_sign, e_iconst, e_ic_ne, e_dupi, e_dupr, g_77_5, e_iadd, p_77_5, e_goto, r_X4_failHere, e_gotow, e_vret, kn_1, kn_41, b_X4_close_22, b_X4_close_26, Option.bind_some, Option.toList_some, Option.toList_none, List.cons_append, List.nil_append, z_0, nI_add, pk_mul, pk_sub, pk_div, n_mod, nI_clamp, nI_leI, nI_ltI, nI_eq, le_T, le_F, lt_T, lt_F, eq_T, eq_F, n_i0, n_i1, eq_self, not_true_eq_false, not_false_eq_true, Bool.false_eq_true, ↓reduceIte, if_true, if_false, tm_up_n, tm_up_s, tm_up_i, ite_self, true_and, and_true, false_and, and_false, n_ofN, Nat.reduceAdd, Nat.reduceMul, Nat.reduceSub, Nat.zero_add, c_sign H hp, h, c_fail]
def cSg (l : Nat) (x : Nat → Int32) (M0 : tm_M) (b : Nat → Int32) (z w : Nat) : Prop := ∀ d p e o c, z - p ≤ w → p ≤ z → e ≤ p → o ≤ 5 → 7 * (5 - o) + 4 ≤ d → ∃ M', tm_call d 41 [.ref 77, .int (nI o)] (tm_GG l x) (cS M0 p e (-1) c) = some (none, tm_GG l x, M') ∧ cR M0 b z e c (px_P b z px_F 5 o (p, false)) M'
def cJo (l : Nat) (x : Nat → Int32) (M0 : tm_M) (b : Nat → Int32) (z w : Nat) : Prop := ∀ d k p e o c, k ≤ 5 → z - p ≤ w → p ≤ z → e ≤ p → o ≤ 5 → 7 * (5 - o) + (6 - k) + 4 ≤ d → ∃ M', tm_call d 40 [.ref 77, .int (nI k), .int (nI o)] (tm_GG l x) (cS M0 p e (-1) c) = some (none, tm_GG l x, M') ∧ cR M0 b z e c (px_P b z px_F k o (p, false)) M'
theorem c_single (H : cH M0 b z) {w : Nat} (i1 : ∀ w', w' < w → cSg l x M0 b z w') (i2 : ∀ w', w' < w → cJo l x M0 b z w') : cSg l x M0 b z w := by
  intro d p e o c hw hp he ho hd
  obtain ⟨d, rfl⟩ : ∃ d', d = d' + 2 := ⟨d - 2, by omega⟩
  have sg := c_sign (d := d + 1) (l := l) (x := x) (e := e) (c := c) H hp
  have hz := H.2.2.2
  rw [px_un hz hp (by omega), px_P, if_pos rfl]
  dsimp only
  by_cases q : px_dg (px_byte b z (p, false)) = true
  · rw [if_pos q]
    have q' : (¬ px_byte b z (p, false) < nI 48 ∧ ¬ nI 57 < px_byte b z (p, false)) := of_decide_eq_true q
    obtain ⟨u, u1, u2, u3⟩ := px_dg_v q
    obtain ⟨_, hpz, _⟩ := px_at (by omega) u3
    refine ⟨cS M0 (px_num b z false 4 p 0).2 (e + 1) (-1) (upd c e (nI (px_num b z false 4 p 0).1)), ?_, ?_⟩
    · simp (disch := first | exact tm_inb_i (by omega) (by omega) | exact tm_cc rfl | exact tm_cat rfl | omega | exact nI_ne0 (by omega) (by omega) | exact nI_ne (by omega) (by omega) (by omega) | exact tm_cS (by omega) | assumption) only [n_X4_readSingle, e_al0, r_X4_sign, e_is2i, e_is2r, e_is2u, e_il2, e_iconst, r_X11_within, e_if_eq, r_X4_readNumber, e_goto, e_dupi, e_dupr, g_77_5, e_iadd, p_77_5, e_isub, r_X4_emit, e_ic_ne, e_il1, e_ic_ge, r_X4_readSingle, r_X4_readJoined, r_X4_close, r_X4_failHere, e_gotow, e_vret, k_m33, kn_0, kn_1, kn_5, kn_33, kn_40, kn_48, kn_57, kn_96, kn_97, kn_102, b_X4_readSingle_23, b_X4_readSingle_55, b_X4_readSingle_92, b_X4_readSingle_128, b_X4_readSingle_132, Option.bind_some, Option.toList_some, Option.toList_none, List.cons_append, List.nil_append, z_0, nI_add, pk_mul, pk_sub, pk_div, n_mod, nI_clamp, nI_leI, nI_ltI, nI_eq, le_T, le_F, lt_T, lt_F, eq_T, eq_F, n_i0, n_i1, eq_self, not_true_eq_false, not_false_eq_true, Bool.false_eq_true, ↓reduceIte, if_true, if_false, tm_up_n, tm_up_s, tm_up_i, ite_self, true_and, and_true, false_and, and_false, n_ofN, Nat.reduceAdd, Nat.reduceMul, Nat.reduceSub, Nat.zero_add, sg, m_within, q', c_number H hp (by omega : e < 60)]
    · rw [Bool.false_or]
      cases hg : px_dg (px_byte b z ((px_num b z false 4 p 0).2, false)) with
      | false => exact Or.inl ⟨rfl, rfl⟩
      | true => exact Or.inr ⟨rfl, e + 1, -1, _, by omega, rfl, Or.inr ⟨rfl, hg⟩⟩
  rw [if_neg q]
  have q' : ¬ (¬ px_byte b z (p, false) < nI 48 ∧ ¬ nI 57 < px_byte b z (p, false)) := fun y => q (decide_eq_true y)
  by_cases g : ¬ px_byte b z (p, false) < nI 97 ∧ ¬ nI 102 < px_byte b z (p, false)
  · rw [if_pos g]
    have hpz := (px_lt_at g).2
    refine ⟨cS M0 (p + 1) (e + 1) (-1) (upd c e (nI 96 - px_byte b z (p, false))), ?_, Or.inl ⟨rfl, rfl⟩⟩
    simp (disch := first | exact tm_inb_i (by omega) (by omega) | exact tm_cc rfl | exact tm_cat rfl | omega | exact nI_ne0 (by omega) (by omega) | exact nI_ne (by omega) (by omega) (by omega) | exact tm_cS (by omega) | assumption) only [n_X4_readSingle, e_al0, r_X4_sign, e_is2i, e_is2r, e_is2u, e_il2, e_iconst, r_X11_within, e_if_eq, r_X4_readNumber, e_goto, e_dupi, e_dupr, g_77_5, e_iadd, p_77_5, e_isub, r_X4_emit, e_ic_ne, e_il1, e_ic_ge, r_X4_readSingle, r_X4_readJoined, r_X4_close, r_X4_failHere, e_gotow, e_vret, k_m33, kn_0, kn_1, kn_5, kn_33, kn_40, kn_48, kn_57, kn_96, kn_97, kn_102, b_X4_readSingle_23, b_X4_readSingle_55, b_X4_readSingle_92, b_X4_readSingle_128, b_X4_readSingle_132, Option.bind_some, Option.toList_some, Option.toList_none, List.cons_append, List.nil_append, z_0, nI_add, pk_mul, pk_sub, pk_div, n_mod, nI_clamp, nI_leI, nI_ltI, nI_eq, le_T, le_F, lt_T, lt_F, eq_T, eq_F, n_i0, n_i1, eq_self, not_true_eq_false, not_false_eq_true, Bool.false_eq_true, ↓reduceIte, if_true, if_false, tm_up_n, tm_up_s, tm_up_i, ite_self, true_and, and_true, false_and, and_false, n_ofN, Nat.reduceAdd, Nat.reduceMul, Nat.reduceSub, Nat.zero_add, sg, m_within, q', g, cS_5, cu5, c_emit (by omega : e < 60)]
  rw [if_neg g]
  by_cases c3 : px_byte b z (p, false) = nI 33 ∧ o < 5
  · rw [if_pos c3]
    obtain ⟨c3, ho5⟩ := c3
    obtain ⟨_, hpz, _⟩ := px_at (by decide) c3
    obtain ⟨M1, m1, m2⟩ := i1 (w - 1) (by omega) (d + 1) (p + 1) e (o + 1) c (by omega) hpz (by omega) (by omega) (by omega)
    have hb := px_b (b := b) px_F 5 (o + 1) (p + 1) false (by decide) hpz
    have hn := px_len (b := b) (z := z) px_F 5 (o + 1) (p + 1) false (by decide) hpz
    rw [c3] at sg
    rcases m2 with ⟨r1, rfl⟩ | ⟨r1, r2⟩
    · have hn := hn r1
      refine ⟨_, ?_, Or.inl ⟨r1, rfl⟩⟩
      rw [List.length_append, List.length_singleton, cw_app, cw_one, ← Nat.add_assoc]
      simp (disch := first | exact tm_inb_i (by omega) (by omega) | exact tm_cc rfl | exact tm_cat rfl | omega | exact nI_ne0 (by omega) (by omega) | exact nI_ne (by omega) (by omega) (by omega) | exact tm_cS (by omega) | assumption) only [n_X4_readSingle, e_al0, r_X4_sign, e_is2i, e_is2r, e_is2u, e_il2, e_iconst, r_X11_within, e_if_eq, r_X4_readNumber, e_goto, e_dupi, e_dupr, g_77_5, e_iadd, p_77_5, e_isub, r_X4_emit, e_ic_ne, e_il1, e_ic_ge, r_X4_readSingle, r_X4_readJoined, r_X4_close, r_X4_failHere, e_gotow, e_vret, k_m33, kn_0, kn_1, kn_5, kn_33, kn_40, kn_48, kn_57, kn_96, kn_97, kn_102, b_X4_readSingle_23, b_X4_readSingle_55, b_X4_readSingle_92, b_X4_readSingle_128, b_X4_readSingle_132, Option.bind_some, Option.toList_some, Option.toList_none, List.cons_append, List.nil_append, z_0, nI_add, pk_mul, pk_sub, pk_div, n_mod, nI_clamp, nI_leI, nI_ltI, nI_eq, le_T, le_F, lt_T, lt_F, eq_T, eq_F, n_i0, n_i1, eq_self, not_true_eq_false, not_false_eq_true, Bool.false_eq_true, ↓reduceIte, if_true, if_false, tm_up_n, tm_up_s, tm_up_i, ite_self, true_and, and_true, false_and, and_false, n_ofN, Nat.reduceAdd, Nat.reduceMul, Nat.reduceSub, Nat.zero_add, sg, m_within, cS_5, cu5, ho5, m1, c_emit (by omega : e + (px_P b z px_F 5 (o + 1) (p + 1, false)).1.length < 60)]
    · obtain ⟨M2, f1, f2⟩ := cB_emit (d := d + 1) (l := l) (x := x) (v := -33) r2
      refine ⟨M2, ?_, Or.inr ⟨r1, f2⟩⟩
      simp (disch := first | exact tm_inb_i (by omega) (by omega) | exact tm_cc rfl | exact tm_cat rfl | omega | exact nI_ne0 (by omega) (by omega) | exact nI_ne (by omega) (by omega) (by omega) | exact tm_cS (by omega) | assumption) only [n_X4_readSingle, e_al0, r_X4_sign, e_is2i, e_is2r, e_is2u, e_il2, e_iconst, r_X11_within, e_if_eq, r_X4_readNumber, e_goto, e_dupi, e_dupr, g_77_5, e_iadd, p_77_5, e_isub, r_X4_emit, e_ic_ne, e_il1, e_ic_ge, r_X4_readSingle, r_X4_readJoined, r_X4_close, r_X4_failHere, e_gotow, e_vret, k_m33, kn_0, kn_1, kn_5, kn_33, kn_40, kn_48, kn_57, kn_96, kn_97, kn_102, b_X4_readSingle_23, b_X4_readSingle_55, b_X4_readSingle_92, b_X4_readSingle_128, b_X4_readSingle_132, Option.bind_some, Option.toList_some, Option.toList_none, List.cons_append, List.nil_append, z_0, nI_add, pk_mul, pk_sub, pk_div, n_mod, nI_clamp, nI_leI, nI_ltI, nI_eq, le_T, le_F, lt_T, lt_F, eq_T, eq_F, n_i0, n_i1, eq_self, not_true_eq_false, not_false_eq_true, Bool.false_eq_true, ↓reduceIte, if_true, if_false, tm_up_n, tm_up_s, tm_up_i, ite_self, true_and, and_true, false_and, and_false, n_ofN, Nat.reduceAdd, Nat.reduceMul, Nat.reduceSub, Nat.zero_add, sg, m_within, cS_5, cu5, ho5, m1, f1]
  rw [if_neg c3]
  by_cases c4 : px_byte b z (p, false) = nI 40 ∧ o < 5
  · rw [if_pos c4]
    obtain ⟨c4, ho5⟩ := c4
    obtain ⟨_, hpz, _⟩ := px_at (by decide) c4
    obtain ⟨M1, m1, m2⟩ := i2 (w - 1) (by omega) (d + 1) 0 (p + 1) e (o + 1) c (by decide) (by omega) hpz (by omega) (by omega) (by omega)
    have hb := px_b (b := b) px_F 0 (o + 1) (p + 1) false (by decide) hpz
    rw [c4] at sg
    generalize hs1 : px_P b z px_F 0 (o + 1) (p + 1, false) = s1 at *
    obtain ⟨cc, p1, bd1⟩ := s1
    simp only at hb
    rcases m2 with ⟨r1, rfl⟩ | ⟨r1, r2⟩
    · simp only at r1 m1
      subst r1
      by_cases a : px_byte b z (p1, false) = nI 41
      · rw [if_pos a]
        refine ⟨_, ?_, Or.inl ⟨rfl, rfl⟩⟩
        simp (disch := first | exact tm_inb_i (by omega) (by omega) | exact tm_cc rfl | exact tm_cat rfl | omega | exact nI_ne0 (by omega) (by omega) | exact nI_ne (by omega) (by omega) (by omega) | exact tm_cS (by omega) | assumption) only [n_X4_readSingle, e_al0, r_X4_sign, e_is2i, e_is2r, e_is2u, e_il2, e_iconst, r_X11_within, e_if_eq, r_X4_readNumber, e_goto, e_dupi, e_dupr, g_77_5, e_iadd, p_77_5, e_isub, r_X4_emit, e_ic_ne, e_il1, e_ic_ge, r_X4_readSingle, r_X4_readJoined, r_X4_close, r_X4_failHere, e_gotow, e_vret, k_m33, kn_0, kn_1, kn_5, kn_33, kn_40, kn_48, kn_57, kn_96, kn_97, kn_102, b_X4_readSingle_23, b_X4_readSingle_55, b_X4_readSingle_92, b_X4_readSingle_128, b_X4_readSingle_132, Option.bind_some, Option.toList_some, Option.toList_none, List.cons_append, List.nil_append, z_0, nI_add, pk_mul, pk_sub, pk_div, n_mod, nI_clamp, nI_leI, nI_ltI, nI_eq, le_T, le_F, lt_T, lt_F, eq_T, eq_F, n_i0, n_i1, eq_self, not_true_eq_false, not_false_eq_true, Bool.false_eq_true, ↓reduceIte, if_true, if_false, tm_up_n, tm_up_s, tm_up_i, ite_self, true_and, and_true, false_and, and_false, n_ofN, Nat.reduceAdd, Nat.reduceMul, Nat.reduceSub, Nat.zero_add, sg, m_within, cS_5, cu5, ho5, m1, c_close_t H hb.2 a]
      · rw [if_neg a]
        have hn := px_len (b := b) (z := z) px_F 0 (o + 1) (p + 1) false (by decide) hpz
        rw [hs1] at hn
        have hn := hn rfl
        simp only at hn
        refine ⟨cS M0 p1 (e + cc.length) (nI p1) (cw c e cc), ?_, Or.inr ⟨rfl, e + cc.length, nI p1, cw c e cc, by omega, rfl, Or.inl rfl⟩⟩
        simp (disch := first | exact tm_inb_i (by omega) (by omega) | exact tm_cc rfl | exact tm_cat rfl | omega | exact nI_ne0 (by omega) (by omega) | exact nI_ne (by omega) (by omega) (by omega) | exact tm_cS (by omega) | assumption) only [n_X4_readSingle, e_al0, r_X4_sign, e_is2i, e_is2r, e_is2u, e_il2, e_iconst, r_X11_within, e_if_eq, r_X4_readNumber, e_goto, e_dupi, e_dupr, g_77_5, e_iadd, p_77_5, e_isub, r_X4_emit, e_ic_ne, e_il1, e_ic_ge, r_X4_readSingle, r_X4_readJoined, r_X4_close, r_X4_failHere, e_gotow, e_vret, k_m33, kn_0, kn_1, kn_5, kn_33, kn_40, kn_48, kn_57, kn_96, kn_97, kn_102, b_X4_readSingle_23, b_X4_readSingle_55, b_X4_readSingle_92, b_X4_readSingle_128, b_X4_readSingle_132, Option.bind_some, Option.toList_some, Option.toList_none, List.cons_append, List.nil_append, z_0, nI_add, pk_mul, pk_sub, pk_div, n_mod, nI_clamp, nI_leI, nI_ltI, nI_eq, le_T, le_F, lt_T, lt_F, eq_T, eq_F, n_i0, n_i1, eq_self, not_true_eq_false, not_false_eq_true, Bool.false_eq_true, ↓reduceIte, if_true, if_false, tm_up_n, tm_up_s, tm_up_i, ite_self, true_and, and_true, false_and, and_false, n_ofN, Nat.reduceAdd, Nat.reduceMul, Nat.reduceSub, Nat.zero_add, sg, m_within, cS_5, cu5, ho5, m1, c_close_f H hb.2 a]
    · simp only at r1 r2
      subst r1
      obtain ⟨M2, f1, f2⟩ := cB_close (d := d) (l := l) (x := x) H hb.2 r2
      rw [if_neg (by rw [px_b1 (Or.inl rfl)]; decide +kernel)]
      refine ⟨M2, ?_, Or.inr ⟨rfl, f2⟩⟩
      simp (disch := first | exact tm_inb_i (by omega) (by omega) | exact tm_cc rfl | exact tm_cat rfl | omega | exact nI_ne0 (by omega) (by omega) | exact nI_ne (by omega) (by omega) (by omega) | exact tm_cS (by omega) | assumption) only [n_X4_readSingle, e_al0, r_X4_sign, e_is2i, e_is2r, e_is2u, e_il2, e_iconst, r_X11_within, e_if_eq, r_X4_readNumber, e_goto, e_dupi, e_dupr, g_77_5, e_iadd, p_77_5, e_isub, r_X4_emit, e_ic_ne, e_il1, e_ic_ge, r_X4_readSingle, r_X4_readJoined, r_X4_close, r_X4_failHere, e_gotow, e_vret, k_m33, kn_0, kn_1, kn_5, kn_33, kn_40, kn_48, kn_57, kn_96, kn_97, kn_102, b_X4_readSingle_23, b_X4_readSingle_55, b_X4_readSingle_92, b_X4_readSingle_128, b_X4_readSingle_132, Option.bind_some, Option.toList_some, Option.toList_none, List.cons_append, List.nil_append, z_0, nI_add, pk_mul, pk_sub, pk_div, n_mod, nI_clamp, nI_leI, nI_ltI, nI_eq, le_T, le_F, lt_T, lt_F, eq_T, eq_F, n_i0, n_i1, eq_self, not_true_eq_false, not_false_eq_true, Bool.false_eq_true, ↓reduceIte, if_true, if_false, tm_up_n, tm_up_s, tm_up_i, ite_self, true_and, and_true, false_and, and_false, n_ofN, Nat.reduceAdd, Nat.reduceMul, Nat.reduceSub, Nat.zero_add, sg, m_within, cS_5, cu5, ho5, m1, f1]
  rw [if_neg c4]
  refine ⟨cS M0 p e (nI p) c, ?_, Or.inr ⟨rfl, e, nI p, c, by omega, rfl, Or.inl rfl⟩⟩
  by_cases h5 : o < 5
  · have n3 : ¬ px_byte b z (p, false) = nI 33 := fun y => c3 ⟨y, h5⟩
    have n4 : ¬ px_byte b z (p, false) = nI 40 := fun y => c4 ⟨y, h5⟩
    simp (disch := first | exact tm_inb_i (by omega) (by omega) | exact tm_cc rfl | exact tm_cat rfl | omega | exact nI_ne0 (by omega) (by omega) | exact nI_ne (by omega) (by omega) (by omega) | exact tm_cS (by omega) | assumption) only [n_X4_readSingle, e_al0, r_X4_sign, e_is2i, e_is2r, e_is2u, e_il2, e_iconst, r_X11_within, e_if_eq, r_X4_readNumber, e_goto, e_dupi, e_dupr, g_77_5, e_iadd, p_77_5, e_isub, r_X4_emit, e_ic_ne, e_il1, e_ic_ge, r_X4_readSingle, r_X4_readJoined, r_X4_close, r_X4_failHere, e_gotow, e_vret, k_m33, kn_0, kn_1, kn_5, kn_33, kn_40, kn_48, kn_57, kn_96, kn_97, kn_102, b_X4_readSingle_23, b_X4_readSingle_55, b_X4_readSingle_92, b_X4_readSingle_128, b_X4_readSingle_132, Option.bind_some, Option.toList_some, Option.toList_none, List.cons_append, List.nil_append, z_0, nI_add, pk_mul, pk_sub, pk_div, n_mod, nI_clamp, nI_leI, nI_ltI, nI_eq, le_T, le_F, lt_T, lt_F, eq_T, eq_F, n_i0, n_i1, eq_self, not_true_eq_false, not_false_eq_true, Bool.false_eq_true, ↓reduceIte, if_true, if_false, tm_up_n, tm_up_s, tm_up_i, ite_self, true_and, and_true, false_and, and_false, n_ofN, Nat.reduceAdd, Nat.reduceMul, Nat.reduceSub, Nat.zero_add, sg, m_within, q', g, n3, n4, c_fail]
  · obtain rfl : o = 5 := by omega
    by_cases n3 : px_byte b z (p, false) = nI 33
    · rw [n3] at sg
      simp (disch := first | exact tm_inb_i (by omega) (by omega) | exact tm_cc rfl | exact tm_cat rfl | omega | exact nI_ne0 (by omega) (by omega) | exact nI_ne (by omega) (by omega) (by omega) | exact tm_cS (by omega) | assumption) only [n_X4_readSingle, e_al0, r_X4_sign, e_is2i, e_is2r, e_is2u, e_il2, e_iconst, r_X11_within, e_if_eq, r_X4_readNumber, e_goto, e_dupi, e_dupr, g_77_5, e_iadd, p_77_5, e_isub, r_X4_emit, e_ic_ne, e_il1, e_ic_ge, r_X4_readSingle, r_X4_readJoined, r_X4_close, r_X4_failHere, e_gotow, e_vret, k_m33, kn_0, kn_1, kn_5, kn_33, kn_40, kn_48, kn_57, kn_96, kn_97, kn_102, b_X4_readSingle_23, b_X4_readSingle_55, b_X4_readSingle_92, b_X4_readSingle_128, b_X4_readSingle_132, Option.bind_some, Option.toList_some, Option.toList_none, List.cons_append, List.nil_append, z_0, nI_add, pk_mul, pk_sub, pk_div, n_mod, nI_clamp, nI_leI, nI_ltI, nI_eq, le_T, le_F, lt_T, lt_F, eq_T, eq_F, n_i0, n_i1, eq_self, not_true_eq_false, not_false_eq_true, Bool.false_eq_true, ↓reduceIte, if_true, if_false, tm_up_n, tm_up_s, tm_up_i, ite_self, true_and, and_true, false_and, and_false, n_ofN, Nat.reduceAdd, Nat.reduceMul, Nat.reduceSub, Nat.zero_add, sg, m_within, c_fail]
    · by_cases n4 : px_byte b z (p, false) = nI 40
      · rw [n4] at sg
        simp (disch := first | exact tm_inb_i (by omega) (by omega) | exact tm_cc rfl | exact tm_cat rfl | omega | exact nI_ne0 (by omega) (by omega) | exact nI_ne (by omega) (by omega) (by omega) | exact tm_cS (by omega) | assumption) only [n_X4_readSingle, e_al0, r_X4_sign, e_is2i, e_is2r, e_is2u, e_il2, e_iconst, r_X11_within, e_if_eq, r_X4_readNumber, e_goto, e_dupi, e_dupr, g_77_5, e_iadd, p_77_5, e_isub, r_X4_emit, e_ic_ne, e_il1, e_ic_ge, r_X4_readSingle, r_X4_readJoined, r_X4_close, r_X4_failHere, e_gotow, e_vret, k_m33, kn_0, kn_1, kn_5, kn_33, kn_40, kn_48, kn_57, kn_96, kn_97, kn_102, b_X4_readSingle_23, b_X4_readSingle_55, b_X4_readSingle_92, b_X4_readSingle_128, b_X4_readSingle_132, Option.bind_some, Option.toList_some, Option.toList_none, List.cons_append, List.nil_append, z_0, nI_add, pk_mul, pk_sub, pk_div, n_mod, nI_clamp, nI_leI, nI_ltI, nI_eq, le_T, le_F, lt_T, lt_F, eq_T, eq_F, n_i0, n_i1, eq_self, not_true_eq_false, not_false_eq_true, Bool.false_eq_true, ↓reduceIte, if_true, if_false, tm_up_n, tm_up_s, tm_up_i, ite_self, true_and, and_true, false_and, and_false, n_ofN, Nat.reduceAdd, Nat.reduceMul, Nat.reduceSub, Nat.zero_add, sg, m_within, c_fail]
      · simp (disch := first | exact tm_inb_i (by omega) (by omega) | exact tm_cc rfl | exact tm_cat rfl | omega | exact nI_ne0 (by omega) (by omega) | exact nI_ne (by omega) (by omega) (by omega) | exact tm_cS (by omega) | assumption) only [n_X4_readSingle, e_al0, r_X4_sign, e_is2i, e_is2r, e_is2u, e_il2, e_iconst, r_X11_within, e_if_eq, r_X4_readNumber, e_goto, e_dupi, e_dupr, g_77_5, e_iadd, p_77_5, e_isub, r_X4_emit, e_ic_ne, e_il1, e_ic_ge, r_X4_readSingle, r_X4_readJoined, r_X4_close, r_X4_failHere, e_gotow, e_vret, k_m33, kn_0, kn_1, kn_5, kn_33, kn_40, kn_48, kn_57, kn_96, kn_97, kn_102, b_X4_readSingle_23, b_X4_readSingle_55, b_X4_readSingle_92, b_X4_readSingle_128, b_X4_readSingle_132, Option.bind_some, Option.toList_some, Option.toList_none, List.cons_append, List.nil_append, z_0, nI_add, pk_mul, pk_sub, pk_div, n_mod, nI_clamp, nI_leI, nI_ltI, nI_eq, le_T, le_F, lt_T, lt_F, eq_T, eq_F, n_i0, n_i1, eq_self, not_true_eq_false, not_false_eq_true, Bool.false_eq_true, ↓reduceIte, if_true, if_false, tm_up_n, tm_up_s, tm_up_i, ite_self, true_and, and_true, false_and, and_false, n_ofN, Nat.reduceAdd, Nat.reduceMul, Nat.reduceSub, Nat.zero_add, sg, m_within, q', g, n3, n4, c_fail]
end TCS
