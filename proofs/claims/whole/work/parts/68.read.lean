/-! part 68: the reference reads a text: bytes, numbers -/
def bI (b : Bool) : Int32 := if b = true then nI 1 else nI 0
/-- the reference's place, open signs and badness -/
def pS (M0 : tm_M) (p o : Nat) (bd : Bool) : tm_M := tm_uc M0 95 (fun j => if j = 7 then nI p else if j = 8 then nI o else if j = 9 then bI bd else M0 95 j)
section TRD
variable {d l : Nat} {x : Nat → Int32} {M0 : tm_M} {p o q : Nat} {bd : Bool}
theorem pS_7 : pS M0 p o bd 95 7 = nI p := by unfold pS; rw [tm_uc_at]; rfl
theorem pS_8 : pS M0 p o bd 95 8 = nI o := by unfold pS; rw [tm_uc_at]; rfl
theorem pS_9 : pS M0 p o bd 95 9 = bI bd := by unfold pS; rw [tm_uc_at]; rfl
theorem pS_j {j : Nat} (h7 : j ≠ 7) (h8 : j ≠ 8) (h9 : j ≠ 9) : pS M0 p o bd 95 j = M0 95 j := by unfold pS; rw [tm_uc_at, if_neg h7, if_neg h8, if_neg h9]
theorem pS_c {c : Nat} (h : c ≠ 95) : pS M0 p o bd c = M0 c := tm_uc_ne _ _ h
theorem pS_up {j : Nat} {v : Int32} : tm_up (pS M0 p o bd) 95 j v = tm_uc M0 95 (upd (fun j => if j = 7 then nI p else if j = 8 then nI o else if j = 9 then bI bd else M0 95 j) j v) := by
  unfold pS
  rw [tm_up_uc, tm_uc_at, tm_uc_uc]
theorem up7 : tm_up (pS M0 p o bd) 95 7 (nI q) = pS M0 q o bd := by
  rw [pS_up]
  unfold pS
  congr 1
  funext j
  by_cases e : j = 7
  · subst e; rw [upd_s]; rfl
  · rw [upd_n e, if_neg e, if_neg e]
theorem up8 : tm_up (pS M0 p o bd) 95 8 (nI q) = pS M0 p q bd := by
  rw [pS_up]
  unfold pS
  congr 1
  funext j
  by_cases e : j = 8
  · subst e; rw [upd_s]; rfl
  · rw [upd_n e]
    by_cases e7 : j = 7
    · rw [if_pos e7, if_pos e7]
    · rw [if_neg e7, if_neg e7, if_neg e, if_neg e]
theorem up9 {b : Bool} : tm_up (pS M0 p o bd) 95 9 (bI b) = pS M0 p o b := by
  rw [pS_up]
  unfold pS
  congr 1
  funext j
  by_cases e : j = 9
  · subst e; rw [upd_s]; rfl
  · rw [upd_n e]
    by_cases e7 : j = 7
    · rw [if_pos e7, if_pos e7]
    · rw [if_neg e7, if_neg e7]
      by_cases e8 : j = 8
      · rw [if_pos e8, if_pos e8]
      · rw [if_neg e8, if_neg e8, if_neg e, if_neg e]
theorem pz0 {is : List Instr} {L st : List Value} : tm_ev d (.putfield 1209 :: is) L (.int (nI 0) :: .ref 95 :: st) (tm_GG l x) (pS M0 p o bd) = tm_ev d is L st (tm_GG l x) (pS M0 p o false) := by
  rw [p_95_9 (Or.inl nI_0), ← up9 (M0 := M0) (p := p) (o := o) (bd := bd) (b := false)]
  rfl
theorem pz1 {is : List Instr} {L st : List Value} : tm_ev d (.putfield 1209 :: is) L (.int (nI 1) :: .ref 95 :: st) (tm_GG l x) (pS M0 p o bd) = tm_ev d is L st (tm_GG l x) (pS M0 p o true) := by
  rw [p_95_9 (Or.inr (by decide +kernel)), ← up9 (M0 := M0) (p := p) (o := o) (bd := bd) (b := true)]
  rfl
def pH (M0 : tm_M) (b : Nat → Int32) (z fr : Nat) : Prop := M0 95 5 = nI fr ∧ M0 95 6 = nI z ∧ (∀ k, k < z → M0 96 (fr + k) = b k) ∧ (∀ k, k < z → ∃ v, v < 256 ∧ b k = nI v) ∧ z ≤ 60 ∧ fr + 60 ≤ 1258 ∧ ∀ i, i < 6 → M0 100 i = nI (97 + i)
variable {b : Nat → Int32} {z fr : Nat}
theorem px_b1 {s : Nat × Bool} (h : s.2 = true ∨ z ≤ s.1) : px_byte b z s = -1 := if_pos h
theorem px_b2 (h : p < z) : px_byte b z (p, false) = b p := if_neg (by rintro (h1 | h1); cases h1; exact absurd h1 (by simpa using h))
/-- a byte that is seen stands there -/
theorem px_at {u : Nat} (hu : u < 2 ^ 31) (h : px_byte b z (p, bd) = nI u) : bd = false ∧ p < z ∧ b p = nI u := by
  unfold px_byte at h
  by_cases q : bd = true ∨ z ≤ p
  · rw [if_pos q] at h
    exact absurd h (by rw [m1_ne hu]; exact id)
  · rw [if_neg q] at h
    exact ⟨eq_false_of_ne_true (fun e => q (Or.inl e)), by omega, h⟩
theorem q_byteAt (H : pH M0 b z fr) (hp : p ≤ z) : tm_call d 166 [.ref 95] (tm_GG l x) (pS M0 p o bd) = some (some (.int (px_byte b z (p, bd))), tm_GG l x, pS M0 p o bd) := by
  obtain ⟨h5, h6, h96, hv, hz, hfr, -⟩ := H
  have e5 : pS M0 p o bd 95 5 = nI fr := (pS_j (by decide) (by decide) (by decide)).trans h5
  have e6 : pS M0 p o bd 95 6 = nI z := (pS_j (by decide) (by decide) (by decide)).trans h6
  cases bd
  · by_cases q : p < z
    · have e96 : pS M0 p o false 96 (fr + p) = b p := by rw [pS_c (by decide)]; exact h96 p q
      rw [px_b2 q]
      simp (disch := first | exact tm_inb_i (by omega) (by omega) | exact tm_cc rfl | exact tm_cat rfl | omega | exact nI_ne0 (by omega) (by omega) | exact nI_ne (by omega) (by omega) (by omega) | exact tm_cS (by omega) | assumption) only [n_X12_byteAt, e_al0, g_95_9, e_if_ne, g_95_7, g_95_6, e_ic_lt, e_gotow, e_iconst, e_goto, g_95_0, g_95_5, e_iadd, e_iret, al_96, k_m1, b_X12_byteAt_18, b_X12_byteAt_22, b_X12_byteAt_36, Option.bind_some, Option.toList_some, Option.toList_none, List.cons_append, List.nil_append, z_0, nI_add, pk_mul, pk_sub, pk_div, n_mod, nI_clamp, nI_leI, nI_ltI, nI_eq, le_T, le_F, lt_T, lt_F, eq_T, eq_F, n_i0, n_i1, eq_self, not_true_eq_false, not_false_eq_true, Bool.false_eq_true, ↓reduceIte, if_true, if_false, tm_up_n, tm_up_s, tm_up_i, ite_self, true_and, and_true, false_and, and_false, n_ofN, Nat.reduceAdd, Nat.reduceMul, Nat.reduceSub, Nat.zero_add, pS_7, pS_9, e5, e6, e96, bI]
    · rw [px_b1 (Or.inr (by simpa using q))]
      simp (disch := first | exact tm_inb_i (by omega) (by omega) | exact tm_cc rfl | exact tm_cat rfl | omega | exact nI_ne0 (by omega) (by omega) | exact nI_ne (by omega) (by omega) (by omega) | exact tm_cS (by omega) | assumption) only [n_X12_byteAt, e_al0, g_95_9, e_if_ne, g_95_7, g_95_6, e_ic_lt, e_gotow, e_iconst, e_goto, g_95_0, g_95_5, e_iadd, e_iret, al_96, k_m1, b_X12_byteAt_18, b_X12_byteAt_22, b_X12_byteAt_36, Option.bind_some, Option.toList_some, Option.toList_none, List.cons_append, List.nil_append, z_0, nI_add, pk_mul, pk_sub, pk_div, n_mod, nI_clamp, nI_leI, nI_ltI, nI_eq, le_T, le_F, lt_T, lt_F, eq_T, eq_F, n_i0, n_i1, eq_self, not_true_eq_false, not_false_eq_true, Bool.false_eq_true, ↓reduceIte, if_true, if_false, tm_up_n, tm_up_s, tm_up_i, ite_self, true_and, and_true, false_and, and_false, n_ofN, Nat.reduceAdd, Nat.reduceMul, Nat.reduceSub, Nat.zero_add, pS_7, pS_9, e6, bI]
  · rw [px_b1 (Or.inl rfl)]
    simp (disch := first | exact tm_inb_i (by omega) (by omega) | exact tm_cc rfl | exact tm_cat rfl | omega | exact nI_ne0 (by omega) (by omega) | exact nI_ne (by omega) (by omega) (by omega) | exact tm_cS (by omega) | assumption) only [n_X12_byteAt, e_al0, g_95_9, e_if_ne, g_95_7, g_95_6, e_ic_lt, e_gotow, e_iconst, e_goto, g_95_0, g_95_5, e_iadd, e_iret, al_96, k_m1, b_X12_byteAt_18, b_X12_byteAt_22, b_X12_byteAt_36, Option.bind_some, Option.toList_some, Option.toList_none, List.cons_append, List.nil_append, z_0, nI_add, pk_mul, pk_sub, pk_div, n_mod, nI_clamp, nI_leI, nI_ltI, nI_eq, le_T, le_F, lt_T, lt_F, eq_T, eq_F, n_i0, n_i1, eq_self, not_true_eq_false, not_false_eq_true, Bool.false_eq_true, ↓reduceIte, if_true, if_false, tm_up_n, tm_up_s, tm_up_i, ite_self, true_and, and_true, false_and, and_false, n_ofN, Nat.reduceAdd, Nat.reduceMul, Nat.reduceSub, Nat.zero_add, pS_9, bI]
theorem q_eats_t (H : pH M0 b z fr) (hp : p ≤ z) {c : Int32} (h : px_byte b z (p, bd) = c) : tm_call (d + 1) 167 [.ref 95, .int c] (tm_GG l x) (pS M0 p o bd) = some (some (.int (nI 1)), tm_GG l x, pS M0 (p + 1) o bd) := by
  have hz := H.2.2.2.2.1
  simp (disch := first | exact tm_inb_i (by omega) (by omega) | exact tm_cc rfl | exact tm_cat rfl | omega | exact nI_ne0 (by omega) (by omega) | exact nI_ne (by omega) (by omega) (by omega) | exact tm_cS (by omega) | assumption) only [n_X12_eats, e_al0, r_X12_byteAt, e_il1, e_ic_ne, e_iconst, e_goto, e_gotow, e_is2i, e_is2r, e_is2u, e_dupi, e_dupr, g_95_7, e_il2, e_if_eq, e_iadd, p_95_7, en_zret0, en_zret1, en_zretb, kn_0, kn_1, b_X12_eats_12, b_X12_eats_13, b_X12_eats_27, b_X12_eats_28, Option.bind_some, Option.toList_some, Option.toList_none, List.cons_append, List.nil_append, z_0, nI_add, pk_mul, pk_sub, pk_div, n_mod, nI_clamp, nI_leI, nI_ltI, nI_eq, le_T, le_F, lt_T, lt_F, eq_T, eq_F, n_i0, n_i1, eq_self, not_true_eq_false, not_false_eq_true, Bool.false_eq_true, ↓reduceIte, if_true, if_false, tm_up_n, tm_up_s, tm_up_i, ite_self, true_and, and_true, false_and, and_false, n_ofN, Nat.reduceAdd, Nat.reduceMul, Nat.reduceSub, Nat.zero_add, q_byteAt H hp, h, pS_7, up7]
theorem q_eats_f (H : pH M0 b z fr) (hp : p ≤ z) {c : Int32} (h : ¬ px_byte b z (p, bd) = c) : tm_call (d + 1) 167 [.ref 95, .int c] (tm_GG l x) (pS M0 p o bd) = some (some (.int (nI 0)), tm_GG l x, pS M0 p o bd) := by
  have hz := H.2.2.2.2.1
  simp (disch := first | exact tm_inb_i (by omega) (by omega) | exact tm_cc rfl | exact tm_cat rfl | omega | exact nI_ne0 (by omega) (by omega) | exact nI_ne (by omega) (by omega) (by omega) | exact tm_cS (by omega) | assumption) only [n_X12_eats, e_al0, r_X12_byteAt, e_il1, e_ic_ne, e_iconst, e_goto, e_gotow, e_is2i, e_is2r, e_is2u, e_dupi, e_dupr, g_95_7, e_il2, e_if_eq, e_iadd, p_95_7, en_zret0, en_zret1, en_zretb, kn_0, kn_1, b_X12_eats_12, b_X12_eats_13, b_X12_eats_27, b_X12_eats_28, Option.bind_some, Option.toList_some, Option.toList_none, List.cons_append, List.nil_append, z_0, nI_add, pk_mul, pk_sub, pk_div, n_mod, nI_clamp, nI_leI, nI_ltI, nI_eq, le_T, le_F, lt_T, lt_F, eq_T, eq_F, n_i0, n_i1, eq_self, not_true_eq_false, not_false_eq_true, Bool.false_eq_true, ↓reduceIte, if_true, if_false, tm_up_n, tm_up_s, tm_up_i, ite_self, true_and, and_true, false_and, and_false, n_ofN, Nat.reduceAdd, Nat.reduceMul, Nat.reduceSub, Nat.zero_add, q_byteAt H hp, h, pS_7, Nat.add_zero, up7]
/-! numbers -/
theorem px_dg_v {c : Int32} (h : px_dg c = true) : ∃ u, 48 ≤ u ∧ u ≤ 57 ∧ c = nI u := by
  have h := of_decide_eq_true h
  rcases rng c 48 57 (by decide) (by decide) with q | ⟨j, a, b, e⟩
  · exact absurd h q
  · exact ⟨j, a, b, e⟩
theorem px_num_b : ∀ n p v, px_num b z bd n p v = px_num b z bd n p v ∧ p ≤ (px_num b z bd n p v).2 ∧ (p ≤ z → (px_num b z bd n p v).2 ≤ z) := by
  intro n
  induction n with
  | zero => intro p v; exact ⟨rfl, Nat.le_refl _, id⟩
  | succ n ih =>
    intro p v
    refine ⟨rfl, ?_⟩
    rw [px_num]
    by_cases q : px_dg (px_byte b z (p, bd)) = true
    · rw [if_pos q]
      obtain ⟨u, u1, u2, u3⟩ := px_dg_v q
      obtain ⟨_, hp, _⟩ := px_at (by omega) u3
      have := (ih (p + 1) (10 * v + ((b p).toNatClampNeg - 48))).2
      exact ⟨by omega, fun _ => this.2 hp⟩
    · rw [if_neg q]
      exact ⟨Nat.le_refl _, id⟩
theorem q_nu (H : pH M0 b z fr) {c0 : Int32} : ∀ (n j p v : Nat), j + n = 4 → p ≤ z → v < 10 ^ j → ∃ j', tm_ev (d + 1) (tm_blk (Int.toNat 1730020)) [.ref 95, .int c0, .int (nI v), .int (nI j)] [] (tm_GG l x) (pS M0 p o false) = tm_ev (d + 1) (tm_blk (Int.toNat 1730068)) [.ref 95, .int c0, .int (nI (px_num b z false n p v).1), .int (nI j')] [] (tm_GG l x) (pS M0 (px_num b z false n p v).2 o false) := by
  intro n
  induction n with
  | zero =>
    intro j p v h hp hv
    refine ⟨j, ?_⟩
    rw [b_X12_single_20]
    unfold px_num
    simp (disch := first | exact tm_inb_i (by omega) (by omega) | exact tm_cc rfl | exact tm_cat rfl | omega | exact nI_ne0 (by omega) (by omega) | exact nI_ne (by omega) (by omega) (by omega) | exact tm_cS (by omega) | assumption) only [e_al0, r_X12_byteAt, e_is1i, e_is1r, e_is1u, e_il1, e_iconst, r_X12_in, e_if_eq, e_is2i, e_is2r, e_is2u, e_is3i, e_is3r, e_is3u, e_gotow, e_il3, e_ic_ge, e_il2, e_imul, e_iadd, e_isub, e_dupi, e_dupr, g_95_7, p_95_7, e_ii3i, e_ii3r, e_ii3u, e_goto, g_95_9, e_if_ne, p_95_9, e_iret, g_95_11, e_ic_ne, g_95_10, e_ii2i, e_ii2r, e_ii2u, e_ic_eq, g_95_8, p_95_8, r_X12_either, r_X12_single, r_X12_eats, al_99, al_100, kn_0, kn_1, kn_4, kn_5, kn_6, kn_10, kn_33, kn_40, kn_41, kn_48, kn_57, b_X12_single_90, b_X12_single_94, b_X12_single_95, b_X12_single_100, b_X12_single_102, b_X12_single_135, b_X12_single_141, b_X12_single_153, b_X12_single_161, b_X12_single_168, b_X12_single_201, b_X12_single_212, b_X12_single_213, b_X12_single_234, Option.bind_some, Option.toList_some, Option.toList_none, List.cons_append, List.nil_append, z_0, nI_add, pk_mul, pk_sub, pk_div, n_mod, nI_clamp, nI_leI, nI_ltI, nI_eq, le_T, le_F, lt_T, lt_F, eq_T, eq_F, n_i0, n_i1, eq_self, not_true_eq_false, not_false_eq_true, Bool.false_eq_true, ↓reduceIte, if_true, if_false, tm_up_n, tm_up_s, tm_up_i, ite_self, true_and, and_true, false_and, and_false, n_ofN, Nat.reduceAdd, Nat.reduceMul, Nat.reduceSub, Nat.zero_add]
  | succ n ih =>
    intro j p v h hp hv
    have hj : j < 4 := by omega
    have hz := H.2.2.2.2.1
    have hv4 : v < 10000 := Nat.lt_of_lt_of_le hv (Nat.pow_le_pow_right (by decide) (by omega : j ≤ 4))
    rw [px_num]
    by_cases q : px_dg (px_byte b z (p, false)) = true
    · rw [if_pos q]
      obtain ⟨u, u1, u2, u3⟩ := px_dg_v q
      obtain ⟨_, hpz, u4⟩ := px_at (by omega) u3
      rw [u4, nI_clamp (by omega)]
      obtain ⟨j', e⟩ := ih (j + 1) (p + 1) (10 * v + (u - 48)) (by omega) (by omega) (by rw [Nat.pow_succ]; omega)
      refine ⟨j', ?_⟩
      have ev : 10 * v + u - 48 = 10 * v + (u - 48) := by omega
      rw [b_X12_single_20]
      simp (disch := first | exact tm_inb_i (by omega) (by omega) | exact tm_cc rfl | exact tm_cat rfl | omega | exact nI_ne0 (by omega) (by omega) | exact nI_ne (by omega) (by omega) (by omega) | exact tm_cS (by omega) | assumption) only [e_al0, r_X12_byteAt, e_is1i, e_is1r, e_is1u, e_il1, e_iconst, r_X12_in, e_if_eq, e_is2i, e_is2r, e_is2u, e_is3i, e_is3r, e_is3u, e_gotow, e_il3, e_ic_ge, e_il2, e_imul, e_iadd, e_isub, e_dupi, e_dupr, g_95_7, p_95_7, e_ii3i, e_ii3r, e_ii3u, e_goto, g_95_9, e_if_ne, p_95_9, e_iret, g_95_11, e_ic_ne, g_95_10, e_ii2i, e_ii2r, e_ii2u, e_ic_eq, g_95_8, p_95_8, r_X12_either, r_X12_single, r_X12_eats, al_99, al_100, kn_0, kn_1, kn_4, kn_5, kn_6, kn_10, kn_33, kn_40, kn_41, kn_48, kn_57, b_X12_single_90, b_X12_single_94, b_X12_single_95, b_X12_single_100, b_X12_single_102, b_X12_single_135, b_X12_single_141, b_X12_single_153, b_X12_single_161, b_X12_single_168, b_X12_single_201, b_X12_single_212, b_X12_single_213, b_X12_single_234, Option.bind_some, Option.toList_some, Option.toList_none, List.cons_append, List.nil_append, z_0, nI_add, pk_mul, pk_sub, pk_div, n_mod, nI_clamp, nI_leI, nI_ltI, nI_eq, le_T, le_F, lt_T, lt_F, eq_T, eq_F, n_i0, n_i1, eq_self, not_true_eq_false, not_false_eq_true, Bool.false_eq_true, ↓reduceIte, if_true, if_false, tm_up_n, tm_up_s, tm_up_i, ite_self, true_and, and_true, false_and, and_false, n_ofN, Nat.reduceAdd, Nat.reduceMul, Nat.reduceSub, Nat.zero_add, q_byteAt H hp, q_in, u3, pS_7, up7, ev, e]
    · rw [if_neg q]
      refine ⟨j, ?_⟩
      have q' : ¬ (¬ px_byte b z (p, false) < nI 48 ∧ ¬ nI 57 < px_byte b z (p, false)) := fun y => q (decide_eq_true y)
      rw [b_X12_single_20]
      simp (disch := first | exact tm_inb_i (by omega) (by omega) | exact tm_cc rfl | exact tm_cat rfl | omega | exact nI_ne0 (by omega) (by omega) | exact nI_ne (by omega) (by omega) (by omega) | exact tm_cS (by omega) | assumption) only [e_al0, r_X12_byteAt, e_is1i, e_is1r, e_is1u, e_il1, e_iconst, r_X12_in, e_if_eq, e_is2i, e_is2r, e_is2u, e_is3i, e_is3r, e_is3u, e_gotow, e_il3, e_ic_ge, e_il2, e_imul, e_iadd, e_isub, e_dupi, e_dupr, g_95_7, p_95_7, e_ii3i, e_ii3r, e_ii3u, e_goto, g_95_9, e_if_ne, p_95_9, e_iret, g_95_11, e_ic_ne, g_95_10, e_ii2i, e_ii2r, e_ii2u, e_ic_eq, g_95_8, p_95_8, r_X12_either, r_X12_single, r_X12_eats, al_99, al_100, kn_0, kn_1, kn_4, kn_5, kn_6, kn_10, kn_33, kn_40, kn_41, kn_48, kn_57, b_X12_single_90, b_X12_single_94, b_X12_single_95, b_X12_single_100, b_X12_single_102, b_X12_single_135, b_X12_single_141, b_X12_single_153, b_X12_single_161, b_X12_single_168, b_X12_single_201, b_X12_single_212, b_X12_single_213, b_X12_single_234, Option.bind_some, Option.toList_some, Option.toList_none, List.cons_append, List.nil_append, z_0, nI_add, pk_mul, pk_sub, pk_div, n_mod, nI_clamp, nI_leI, nI_ltI, nI_eq, le_T, le_F, lt_T, lt_F, eq_T, eq_F, n_i0, n_i1, eq_self, not_true_eq_false, not_false_eq_true, Bool.false_eq_true, ↓reduceIte, if_true, if_false, tm_up_n, tm_up_s, tm_up_i, ite_self, true_and, and_true, false_and, and_false, n_ofN, Nat.reduceAdd, Nat.reduceMul, Nat.reduceSub, Nat.zero_add, q_byteAt H hp, q_in, q']
end TRD
