/-! part 90: the race -/
def rS (D : Nat → Int32) (b : Nat) (A : Nat → Nat → Int32) (G n X0 : Nat) (o : Nat → Bool) : Nat → Nat
  | 0 => X0
  | s + 1 => (lis D b A G s (n + 1) 0 (rS D b A G n X0 o s) (fun _ => -1) (o s)).1
def rH (D : Nat → Int32) (b : Nat) (A : Nat → Nat → Int32) (G n X0 : Nat) (o : Nat → Bool) (s : Nat) : Nat → Int32 := (lis D b A G s (n + 1) 0 (rS D b A G n X0 o s) (fun _ => -1) (o s)).2.1
def rO (D : Nat → Int32) (b : Nat) (A : Nat → Nat → Int32) (G n X0 : Nat) (o : Nat → Bool) (s : Nat) : Bool := (lis D b A G s (n + 1) 0 (rS D b A G n X0 o s) (fun _ => -1) (o s)).2.2
def rG (D : Nat → Int32) (b : Nat) (A : Nat → Nat → Int32) (G n X0 : Nat) (o : Nat → Bool) (s : Nat) : Bool := decide (nI 0 ≤ rH D b A G n X0 o s n)
theorem rS_lt {D : Nat → Int32} {b : Nat} {A : Nat → Nat → Int32} {G n X0 : Nat} {o : Nat → Bool} (h : X0 < 65536) : ∀ s, rS D b A G n X0 o s < 65536 := by
  intro s
  induction s with
  | zero => exact h
  | succ s ih => exact lis_lt _ _ _ _ _ ih
section TRA
variable {dc dr d l : Nat} {x : Nat → Int32} {D : Nat → Int32} {n W R G b X0 : Nat} {A : Nat → Nat → Int32} {o : Nat → Bool}
theorem cV_cg1 {M M' : tm_M} (f : ∀ c, 2 ≤ c → c ≤ 28 → M' c = M c) (h : cV M D n G) : cV M' D n G := by
  obtain ⟨h1, h2, ⟨h3, h4⟩, h5, h6⟩ := h
  refine ⟨eP_cg (f 2 (by decide) (by decide)) (f 3 (by decide) (by decide)) (f 27 (by decide) (by decide)) (f 28 (by decide) (by decide)) h1, by rw [f 2 (by decide) (by decide)]; exact h2, ⟨by rw [f 20 (by decide) (by decide)]; exact h3, fun g hg => ?_⟩, fun r hr => ?_, fun w hw => ?_⟩
  · rw [f 21 (by decide) (by decide), f 22 (by decide) (by decide), f 23 (by decide) (by decide), f 24 (by decide) (by decide), f 25 (by decide) (by decide)]; exact h4 g hg
  · rw [f 13 (by decide) (by decide)]; exact h5 r hr
  · rw [f 5 (by decide) (by decide), f 6 (by decide) (by decide), f 7 (by decide) (by decide), f 8 (by decide) (by decide), f 9 (by decide) (by decide)]; exact h6 w hw
theorem bit_or {B r : Nat} {p : Nat → Bool} (h : ∀ i, B.testBit i = (decide (i < r) && p i)) (hp : p r = true) : ∀ i, (B ||| 2 ^ r).testBit i = (decide (i < r + 1) && p i) := by
  intro i
  rw [Nat.testBit_or, Nat.testBit_two_pow, h i]
  by_cases q : i = r
  · subst q; simp [hp]
  · rw [show decide (i < r + 1) = decide (i < r) from decide_eq_decide.mpr (by omega), show decide (r = i) = false from decide_eq_false (fun z => q z.symm), Bool.or_false]
theorem bit_st {B r : Nat} {p : Nat → Bool} (h : ∀ i, B.testBit i = (decide (i < r) && p i)) (hp : ¬ p r = true) : ∀ i, B.testBit i = (decide (i < r + 1) && p i) := by
  intro i
  rw [h i]
  by_cases q : i = r
  · subst q; simp [hp]
  · rw [show decide (i < r + 1) = decide (i < r) from decide_eq_decide.mpr (by omega)]
theorem m_r1 (hR : R ≤ 12) (hC : ∀ r, r < R → ∀ M : tm_M, cV M D n G → M 14 r = D (145 + 2 * r) → ∃ M', tm_call (dc + 5) 26 [.ref 69, .int (nI r)] (tm_GG l x) M = some (none, tm_GG l x, M') ∧ M' 69 0 = bI (o r) ∧ (∀ m, m < 25 → M' 70 (r * 25 + m) = A r m) ∧ frF M M' r) : ∀ (c r B : Nat) (M : tm_M), r + c = R → cV M D n G → (∀ r, r < 12 → M 14 r = D (145 + 2 * r)) → M 12 0 = nI R → M 1 7 = nI B → B < 2 ^ 12 → (∀ i, B.testBit i = (decide (i < r) && o i)) → (∀ r' m, r' < r → m < 25 → M 70 (r' * 25 + m) = A r' m) → ∃ M' B', tm_ev (dc + 6) (tm_blk (Int.toNat 1100009)) [.ref 0, .int (nI r), tm_un] [] (tm_GG l x) M = tm_ev (dc + 6) (tm_blk (Int.toNat 1100062)) [.ref 0, .int (nI R), tm_un] [] (tm_GG l x) M' ∧ M' 1 7 = nI B' ∧ B' < 2 ^ 12 ∧ (∀ i, B'.testBit i = (decide (i < R) && o i)) ∧ (∀ r' m, r' < R → m < 25 → M' 70 (r' * 25 + m) = A r' m) ∧ (∀ c, c ≠ 1 → c ≠ 29 → c ≠ 69 → c ≠ 70 → c ≠ 71 → c ≠ 72 → c ≠ 73 → M' c = M c) ∧ ∀ j, j ≠ 7 → M' 1 j = M 1 j := by
  intro c
  induction c with
  | zero =>
    intro r B M hr hV h14 h12 h7 hB hb hA
    obtain rfl : r = R := by omega
    refine ⟨M, B, ?_, h7, hB, hb, hA, fun _ _ _ _ _ _ _ _ => rfl, fun _ _ => rfl⟩
    rw [b_X11_race_9]
    simp (disch := first | exact tm_inb_i (by omega) (by omega) | exact tm_cc rfl | exact tm_cat rfl | omega | exact nI_ne0 (by omega) (by omega) | exact nI_ne (by omega) (by omega) (by omega) | exact tm_cS (by omega) | assumption) only [e_al0, g_0_0, r_X10_forgetRace, e_iconst, e_is1i, e_is1r, e_is1u, e_gotow, e_il1, g_1_1, g_35_1, g_12_0, g_46_0, e_ic_ge, g_0_2, r_X3_follow, g_69_0, e_if_eq, e_dupi, e_dupr, g_1_7, g_35_7, e_ishl, e_ior, p_1_7, p_35_7, e_ii1i, e_ii1r, e_ii1u, e_goto, e_is2i, e_is2r, e_is2u, e_il2, r_X3_listen, g_1_0, g_35_0, g_2_0, g_36_0, r_X10_minuteAt, e_if_lt, e_ii2i, e_ii2r, e_ii2u, g_1_8, g_35_8, e_iadd, p_1_8, p_35_8, e_iret, kn_0, kn_1, b_X11_race_56, b_X11_race_112, Option.bind_some, Option.toList_some, Option.toList_none, List.cons_append, List.nil_append, z_0, nI_add, pk_mul, pk_sub, pk_div, n_mod, nI_clamp, nI_leI, nI_ltI, nI_eq, le_T, le_F, lt_T, lt_F, eq_T, eq_F, n_i0, n_i1, eq_self, not_true_eq_false, not_false_eq_true, Bool.false_eq_true, ↓reduceIte, if_true, if_false, tm_up_n, tm_up_s, tm_up_i, ite_self, true_and, and_true, false_and, and_false, n_ofN, Nat.reduceAdd, Nat.reduceMul, Nat.reduceSub, Nat.zero_add, h12]
  | succ c ih =>
    intro r B M hr hV h14 h12 h7 hB hb hA
    obtain ⟨M1, e1, e2, e3, f1, f2⟩ := hC r (by omega) M hV (h14 r (by omega))
    have g1 : M1 1 = M 1 := f1 1 (by decide) (by decide) (by decide) (by decide) (by decide) (by decide)
    have h7' : M1 1 7 = nI B := by rw [g1]; exact h7
    have hA' : ∀ r' m, r' < r + 1 → m < 25 → M1 70 (r' * 25 + m) = A r' m := fun r' m a1 a2 => by
      by_cases q : r' = r
      · subst q; exact e3 m a2
      · rw [f2 _ (by omega)]; exact hA r' m (by omega) a2
    by_cases q : o r = true
    · rw [q, bI_t] at e2
      obtain ⟨M', B', i1, i2, i3, i4, i5, i6, i7⟩ := ih (r + 1) (B ||| 2 ^ r) (tm_up M1 1 7 (nI (B ||| 2 ^ r))) (by omega) (cV_cg1 (fun c a1 a2 => by rw [tm_up_n (by omega)]; exact f1 c (by omega) (by omega) (by omega) (by omega) (by omega) (by omega) |>.trans (by rfl)) hV) (fun r hr => by rw [tm_up_n (by decide), f1 14 (by decide) (by decide) (by decide) (by decide) (by decide) (by decide)]; exact h14 r hr) (by rw [tm_up_n (by decide), f1 12 (by decide) (by decide) (by decide) (by decide) (by decide) (by decide)]; exact h12) tm_up_s (Nat.or_lt_two_pow hB (Nat.pow_lt_pow_right (by decide) (by omega))) (bit_or hb q) (fun r' m a1 a2 => by rw [tm_up_n (by decide)]; exact hA' r' m a1 a2)
      refine ⟨M', B', ?_, i2, i3, i4, i5, fun c a1 a2 a3 a4 a5 a6 a7 => ?_, fun j hj => ?_⟩
      · conv => lhs; rw [b_X11_race_9]
        simp (disch := first | exact tm_inb_i (by omega) (by omega) | exact tm_cc rfl | exact tm_cat rfl | omega | exact nI_ne0 (by omega) (by omega) | exact nI_ne (by omega) (by omega) (by omega) | exact tm_cS (by omega) | assumption) only [e_al0, g_0_0, r_X10_forgetRace, e_iconst, e_is1i, e_is1r, e_is1u, e_gotow, e_il1, g_1_1, g_35_1, g_12_0, g_46_0, e_ic_ge, g_0_2, r_X3_follow, g_69_0, e_if_eq, e_dupi, e_dupr, g_1_7, g_35_7, e_ishl, e_ior, p_1_7, p_35_7, e_ii1i, e_ii1r, e_ii1u, e_goto, e_is2i, e_is2r, e_is2u, e_il2, r_X3_listen, g_1_0, g_35_0, g_2_0, g_36_0, r_X10_minuteAt, e_if_lt, e_ii2i, e_ii2r, e_ii2u, g_1_8, g_35_8, e_iadd, p_1_8, p_35_8, e_iret, kn_0, kn_1, b_X11_race_56, b_X11_race_112, Option.bind_some, Option.toList_some, Option.toList_none, List.cons_append, List.nil_append, z_0, nI_add, pk_mul, pk_sub, pk_div, n_mod, nI_clamp, nI_leI, nI_ltI, nI_eq, le_T, le_F, lt_T, lt_F, eq_T, eq_F, n_i0, n_i1, eq_self, not_true_eq_false, not_false_eq_true, Bool.false_eq_true, ↓reduceIte, if_true, if_false, tm_up_n, tm_up_s, tm_up_i, ite_self, true_and, and_true, false_and, and_false, n_ofN, Nat.reduceAdd, Nat.reduceMul, Nat.reduceSub, Nat.zero_add, h12, e1, e2, h7', n_or, n_shl1, i1]
      · rw [i6 c a1 a2 a3 a4 a5 a6 a7, tm_up_n a1, f1 c a2 a3 a4 a5 a6 a7]
      · rw [i7 j hj, tm_up_i hj, g1]
    · rw [Bool.eq_false_iff.mpr q, bI_f] at e2
      obtain ⟨M', B', i1, i2, i3, i4, i5, i6, i7⟩ := ih (r + 1) B M1 (by omega) (frF_cV ⟨f1, f2⟩ hV) (fun r hr => by rw [f1 14 (by decide) (by decide) (by decide) (by decide) (by decide) (by decide)]; exact h14 r hr) (by rw [f1 12 (by decide) (by decide) (by decide) (by decide) (by decide) (by decide)]; exact h12) h7' hB (bit_st hb q) hA'
      refine ⟨M', B', ?_, i2, i3, i4, i5, fun c a1 a2 a3 a4 a5 a6 a7 => ?_, fun j hj => ?_⟩
      · conv => lhs; rw [b_X11_race_9]
        simp (disch := first | exact tm_inb_i (by omega) (by omega) | exact tm_cc rfl | exact tm_cat rfl | omega | exact nI_ne0 (by omega) (by omega) | exact nI_ne (by omega) (by omega) (by omega) | exact tm_cS (by omega) | assumption) only [e_al0, g_0_0, r_X10_forgetRace, e_iconst, e_is1i, e_is1r, e_is1u, e_gotow, e_il1, g_1_1, g_35_1, g_12_0, g_46_0, e_ic_ge, g_0_2, r_X3_follow, g_69_0, e_if_eq, e_dupi, e_dupr, g_1_7, g_35_7, e_ishl, e_ior, p_1_7, p_35_7, e_ii1i, e_ii1r, e_ii1u, e_goto, e_is2i, e_is2r, e_is2u, e_il2, r_X3_listen, g_1_0, g_35_0, g_2_0, g_36_0, r_X10_minuteAt, e_if_lt, e_ii2i, e_ii2r, e_ii2u, g_1_8, g_35_8, e_iadd, p_1_8, p_35_8, e_iret, kn_0, kn_1, b_X11_race_56, b_X11_race_112, Option.bind_some, Option.toList_some, Option.toList_none, List.cons_append, List.nil_append, z_0, nI_add, pk_mul, pk_sub, pk_div, n_mod, nI_clamp, nI_leI, nI_ltI, nI_eq, le_T, le_F, lt_T, lt_F, eq_T, eq_F, n_i0, n_i1, eq_self, not_true_eq_false, not_false_eq_true, Bool.false_eq_true, ↓reduceIte, if_true, if_false, tm_up_n, tm_up_s, tm_up_i, ite_self, true_and, and_true, false_and, and_false, n_ofN, Nat.reduceAdd, Nat.reduceMul, Nat.reduceSub, Nat.zero_add, h12, e1, e2, i1]
      · rw [i6 c a1 a2 a3 a4 a5 a6 a7, f1 c a2 a3 a4 a5 a6 a7]
      · rw [i7 j hj, g1]
theorem m_r2 (hK : eK D n W R G) (hX : X0 < 65536) : ∀ (c s a B : Nat) (M : tm_M), s + c = R → a ≤ s → cL M D n R G b A → M 12 0 = nI R → M 1 7 = nI B → B < 2 ^ 12 → (∀ i, B.testBit i = if i < s then rO D b A G n X0 o i else (decide (i < R) && o i)) → M 1 9 = nI (rS D b A G n X0 o s) → (∀ s' m, s' < s → m < n + 1 → M 34 (s' * 25 + m) = rH D b A G n X0 o s' m) → (∀ s' m, s' < 12 → m < 25 → s ≤ s' ∨ n < m → M 34 (s' * 25 + m) = -1) → ∃ M' B', tm_ev (d + 4) (tm_blk (Int.toNat 1100066)) [.ref 0, .int (nI a), .int (nI s)] [] (tm_GG l x) M = tm_ev (d + 4) (tm_blk (Int.toNat 1100118)) [.ref 0, .int (nI (a + cnf (rG D b A G n X0 o) c s)), .int (nI R)] [] (tm_GG l x) M' ∧ M' 1 7 = nI B' ∧ B' < 2 ^ 12 ∧ (∀ i, B'.testBit i = if i < R then rO D b A G n X0 o i else (decide (i < R) && o i)) ∧ M' 1 9 = nI (rS D b A G n X0 o R) ∧ (∀ s' m, s' < R → m < n + 1 → M' 34 (s' * 25 + m) = rH D b A G n X0 o s' m) ∧ (∀ s' m, s' < 12 → m < 25 → R ≤ s' ∨ n < m → M' 34 (s' * 25 + m) = -1) ∧ (∀ c, c ≠ 1 → c ≠ 34 → M' c = M c) ∧ ∀ j, j ≠ 7 → j ≠ 9 → M' 1 j = M 1 j := by
  obtain ⟨kG, hn, hW, hR, hG40, k0, k5⟩ := id hK
  intro c
  induction c with
  | zero =>
    intro s a B M hs ha hL h12 h7 hB hb h9 hH hN
    obtain rfl : s = R := by omega
    refine ⟨M, B, ?_, h7, hB, hb, h9, hH, hN, fun _ _ _ => rfl, fun _ _ _ => rfl⟩
    rw [b_X11_race_66]
    simp (disch := first | exact tm_inb_i (by omega) (by omega) | exact tm_cc rfl | exact tm_cat rfl | omega | exact nI_ne0 (by omega) (by omega) | exact nI_ne (by omega) (by omega) (by omega) | exact tm_cS (by omega) | assumption) only [e_al0, g_0_0, r_X10_forgetRace, e_iconst, e_is1i, e_is1r, e_is1u, e_gotow, e_il1, g_1_1, g_35_1, g_12_0, g_46_0, e_ic_ge, g_0_2, r_X3_follow, g_69_0, e_if_eq, e_dupi, e_dupr, g_1_7, g_35_7, e_ishl, e_ior, p_1_7, p_35_7, e_ii1i, e_ii1r, e_ii1u, e_goto, e_is2i, e_is2r, e_is2u, e_il2, r_X3_listen, g_1_0, g_35_0, g_2_0, g_36_0, r_X10_minuteAt, e_if_lt, e_ii2i, e_ii2r, e_ii2u, g_1_8, g_35_8, e_iadd, p_1_8, p_35_8, e_iret, kn_0, kn_1, b_X11_race_56, b_X11_race_112, Option.bind_some, Option.toList_some, Option.toList_none, List.cons_append, List.nil_append, z_0, nI_add, pk_mul, pk_sub, pk_div, n_mod, nI_clamp, nI_leI, nI_ltI, nI_eq, le_T, le_F, lt_T, lt_F, eq_T, eq_F, n_i0, n_i1, eq_self, not_true_eq_false, not_false_eq_true, Bool.false_eq_true, ↓reduceIte, if_true, if_false, tm_up_n, tm_up_s, tm_up_i, ite_self, true_and, and_true, false_and, and_false, n_ofN, Nat.reduceAdd, Nat.reduceMul, Nat.reduceSub, Nat.zero_add, h12, cnf, Nat.add_zero]
  | succ c ih =>
    intro s a B M hs ha hL h12 h7 hB hb h9 hH hN
    have hO : B.testBit s = o s := by rw [hb s, if_neg (Nat.lt_irrefl _), decide_eq_true (show s < R by omega)]; rfl
    obtain ⟨M1, B1, e1, e2, e3, e4, e5, e6, e7, e8, e9⟩ := m_li (d := d) (l := l) (x := x) hK (show s < R by omega) (n + 1) 0 (rS D b A G n X0 o s) (fun _ => -1) B tm_un tm_un M (by omega) hL h7 hB h9 (rS_lt hX s) (fun m' hm' => by omega) (fun m' _ hm' => hN s m' (by omega) hm' (Or.inl (Nat.le_refl _)))
    rw [hO] at e2 e5 e6
    have hc1 : tm_call (d + 3) 29 [.ref 69, .int (nI s)] (tm_GG l x) M = some (none, tm_GG l x, M1) := by
      simp (disch := first | exact tm_inb_i (by omega) (by omega) | exact tm_cc rfl | exact tm_cat rfl | omega | exact nI_ne0 (by omega) (by omega) | exact nI_ne (by omega) (by omega) (by omega) | exact tm_cS (by omega) | assumption) only [n_X3_listen, e_iconst, e_is2i, e_is2r, e_is2u, e_gotow, e_il2, e_al0, g_69_1, g_1_0, g_35_0, g_2_0, g_36_0, e_ic_gt, g_1_2, g_35_2, e_il1, r_X1_carrierOf, e_is3i, e_is3r, e_is3u, e_il3, e_ic_eq, e_dupi, e_dupr, g_1_7, g_35_7, e_ishl, e_ior, p_1_7, p_35_7, r_X3_minuteOf, e_is4i, e_is4r, e_is4u, r_X5_hasMat, e_if_eq, e_il4, e_if_lt, r_X3_matHears, r_X1_isMissed, e_if_ne, g_1_6, g_35_6, e_imul, e_iadd, e_ii2i, e_ii2r, e_ii2u, e_goto, e_vret, as_34, as_68, kn_0, kn_1, kn_25, b_X3_listen_49, b_X3_listen_115, b_X3_listen_121, Option.bind_some, Option.toList_some, Option.toList_none, List.cons_append, List.nil_append, z_0, nI_add, pk_mul, pk_sub, pk_div, n_mod, nI_clamp, nI_leI, nI_ltI, nI_eq, le_T, le_F, lt_T, lt_F, eq_T, eq_F, n_i0, n_i1, eq_self, not_true_eq_false, not_false_eq_true, Bool.false_eq_true, ↓reduceIte, if_true, if_false, tm_up_n, tm_up_s, tm_up_i, ite_self, true_and, and_true, false_and, and_false, n_ofN, Nat.reduceAdd, Nat.reduceMul, Nat.reduceSub, Nat.zero_add, e1]
    have eH : M1 34 (s * 25 + n) = rH D b A G n X0 o s n := e6 n (by omega)
    have h0 : M1 2 0 = nI n := by rw [e7 2 (by decide) (by decide)]; exact hL.2.1
    have ihyp := fun a' ha' => ih (s + 1) a' B1 M1 (by omega) ha' (cL_cg e7 hL) (by rw [e7 12 (by decide) (by decide)]; exact h12) e3 e4 (fun i => by
        rw [e5 i]
        by_cases q : i = s
        · subst q; rw [if_pos rfl, if_pos (Nat.lt_succ_self _)]; rfl
        · rw [if_neg q, hb i]
          by_cases q2 : i < s
          · rw [if_pos q2, if_pos (by omega)]
          · rw [if_neg q2, if_neg (by omega)]) e2 (fun s' m a1 a2 => by
        by_cases q : s' = s
        · subst q; exact e6 m a2
        · rw [e9 _ (by omega)]; exact hH s' m (by omega) a2) (fun s' m a1 a2 a3 => by
        rw [e9 _ (by omega)]; exact hN s' m a1 a2 (by omega))
    by_cases q : rG D b A G n X0 o s = true
    · obtain ⟨M', B', i1, i2, i3, i4, i5, i6, i7, i8, i9⟩ := ihyp (a + 1) (by omega)
      have q1 : nI 0 ≤ rH D b A G n X0 o s n := of_decide_eq_true q
      have q1' := Int32.not_lt.mpr q1
      rw [Nat.add_assoc, ← cnf_t q] at i1
      refine ⟨M', B', ?_, i2, i3, i4, i5, i6, i7, fun c a1 a2 => (i8 c a1 a2).trans (e7 c a1 a2), fun j a1 a2 => (i9 j a1 a2).trans (e8 j a1 a2)⟩
      conv => lhs; rw [b_X11_race_66]
      simp (disch := first | exact tm_inb_i (by omega) (by omega) | exact tm_cc rfl | exact tm_cat rfl | omega | exact nI_ne0 (by omega) (by omega) | exact nI_ne (by omega) (by omega) (by omega) | exact tm_cS (by omega) | assumption) only [e_al0, g_0_0, r_X10_forgetRace, e_iconst, e_is1i, e_is1r, e_is1u, e_gotow, e_il1, g_1_1, g_35_1, g_12_0, g_46_0, e_ic_ge, g_0_2, r_X3_follow, g_69_0, e_if_eq, e_dupi, e_dupr, g_1_7, g_35_7, e_ishl, e_ior, p_1_7, p_35_7, e_ii1i, e_ii1r, e_ii1u, e_goto, e_is2i, e_is2r, e_is2u, e_il2, r_X3_listen, g_1_0, g_35_0, g_2_0, g_36_0, r_X10_minuteAt, e_if_lt, e_ii2i, e_ii2r, e_ii2u, g_1_8, g_35_8, e_iadd, p_1_8, p_35_8, e_iret, kn_0, kn_1, b_X11_race_56, b_X11_race_112, Option.bind_some, Option.toList_some, Option.toList_none, List.cons_append, List.nil_append, z_0, nI_add, pk_mul, pk_sub, pk_div, n_mod, nI_clamp, nI_leI, nI_ltI, nI_eq, le_T, le_F, lt_T, lt_F, eq_T, eq_F, n_i0, n_i1, eq_self, not_true_eq_false, not_false_eq_true, Bool.false_eq_true, ↓reduceIte, if_true, if_false, tm_up_n, tm_up_s, tm_up_i, ite_self, true_and, and_true, false_and, and_false, n_ofN, Nat.reduceAdd, Nat.reduceMul, Nat.reduceSub, Nat.zero_add, n_X10_minuteAt, e_al0, g_1_6, g_35_6, e_il1, e_iconst, e_imul, e_il2, e_iadd, e_iret, al_34, al_68, kn_25, Option.bind_some, Option.toList_some, Option.toList_none, List.cons_append, List.nil_append, z_0, nI_add, pk_mul, pk_sub, pk_div, n_mod, nI_clamp, nI_leI, nI_ltI, nI_eq, le_T, le_F, lt_T, lt_F, eq_T, eq_F, n_i0, n_i1, eq_self, not_true_eq_false, not_false_eq_true, Bool.false_eq_true, ↓reduceIte, if_true, if_false, tm_up_n, tm_up_s, tm_up_i, ite_self, true_and, and_true, false_and, and_false, n_ofN, Nat.reduceAdd, Nat.reduceMul, Nat.reduceSub, Nat.zero_add, h12, hc1, h0, eH, q1, q1', i1]
    · obtain ⟨M', B', i1, i2, i3, i4, i5, i6, i7, i8, i9⟩ := ihyp a (by omega)
      have q1 : ¬ nI 0 ≤ rH D b A G n X0 o s n := fun z => q (decide_eq_true z)
      have q1' := Int32.not_le.mp q1
      rw [← cnf_f q] at i1
      refine ⟨M', B', ?_, i2, i3, i4, i5, i6, i7, fun c a1 a2 => (i8 c a1 a2).trans (e7 c a1 a2), fun j a1 a2 => (i9 j a1 a2).trans (e8 j a1 a2)⟩
      conv => lhs; rw [b_X11_race_66]
      simp (disch := first | exact tm_inb_i (by omega) (by omega) | exact tm_cc rfl | exact tm_cat rfl | omega | exact nI_ne0 (by omega) (by omega) | exact nI_ne (by omega) (by omega) (by omega) | exact tm_cS (by omega) | assumption) only [e_al0, g_0_0, r_X10_forgetRace, e_iconst, e_is1i, e_is1r, e_is1u, e_gotow, e_il1, g_1_1, g_35_1, g_12_0, g_46_0, e_ic_ge, g_0_2, r_X3_follow, g_69_0, e_if_eq, e_dupi, e_dupr, g_1_7, g_35_7, e_ishl, e_ior, p_1_7, p_35_7, e_ii1i, e_ii1r, e_ii1u, e_goto, e_is2i, e_is2r, e_is2u, e_il2, r_X3_listen, g_1_0, g_35_0, g_2_0, g_36_0, r_X10_minuteAt, e_if_lt, e_ii2i, e_ii2r, e_ii2u, g_1_8, g_35_8, e_iadd, p_1_8, p_35_8, e_iret, kn_0, kn_1, b_X11_race_56, b_X11_race_112, Option.bind_some, Option.toList_some, Option.toList_none, List.cons_append, List.nil_append, z_0, nI_add, pk_mul, pk_sub, pk_div, n_mod, nI_clamp, nI_leI, nI_ltI, nI_eq, le_T, le_F, lt_T, lt_F, eq_T, eq_F, n_i0, n_i1, eq_self, not_true_eq_false, not_false_eq_true, Bool.false_eq_true, ↓reduceIte, if_true, if_false, tm_up_n, tm_up_s, tm_up_i, ite_self, true_and, and_true, false_and, and_false, n_ofN, Nat.reduceAdd, Nat.reduceMul, Nat.reduceSub, Nat.zero_add, n_X10_minuteAt, e_al0, g_1_6, g_35_6, e_il1, e_iconst, e_imul, e_il2, e_iadd, e_iret, al_34, al_68, kn_25, Option.bind_some, Option.toList_some, Option.toList_none, List.cons_append, List.nil_append, z_0, nI_add, pk_mul, pk_sub, pk_div, n_mod, nI_clamp, nI_leI, nI_ltI, nI_eq, le_T, le_F, lt_T, lt_F, eq_T, eq_F, n_i0, n_i1, eq_self, not_true_eq_false, not_false_eq_true, Bool.false_eq_true, ↓reduceIte, if_true, if_false, tm_up_n, tm_up_s, tm_up_i, ite_self, true_and, and_true, false_and, and_false, n_ofN, Nat.reduceAdd, Nat.reduceMul, Nat.reduceSub, Nat.zero_add, h12, hc1, h0, eH, q1, q1', i1]
theorem q_r1 (hR : R ≤ 12) (k4 : D 4 = nI R) (hC : ∀ r, r < R → ∀ M : tm_M, eQ M D → ∃ M', tm_call (dr + 49) 199 [.ref 95, .int (nI r)] (tm_GG l x) M = some (none, tm_GG l x, M') ∧ qF M' D r (o r) (A r) ∧ frR M M' r) : ∀ (c r : Nat) (M : tm_M), r + c = R → eQ M D → (∀ r' m, r' < r → m < 25 → M 102 (25 * r' + m) = A r' m) → (∀ r', r' < r → M 103 r' = bI (o r')) → ∃ M', tm_ev (dr + 50) (tm_blk (Int.toNat 2030002)) [.ref 95, .int (nI r), tm_un] [] (tm_GG l x) M = tm_ev (dr + 50) (tm_blk (Int.toNat 2030023)) [.ref 95, .int (nI R), tm_un] [] (tm_GG l x) M' ∧ (∀ r' m, r' < R → m < 25 → M' 102 (25 * r' + m) = A r' m) ∧ (∀ r', r' < R → M' 103 r' = bI (o r')) ∧ (∀ c, c ≠ 95 → c ≠ 99 → c ≠ 102 → c ≠ 103 → M' c = M c) ∧ ∀ j, j < 5 ∨ 18 < j → M' 95 j = M 95 j := by
  intro c
  induction c with
  | zero =>
    intro r M hr hQ hA ho
    obtain rfl : r = R := by omega
    have m4 : M 96 4 = nI r := by rw [hQ.1]; exact k4
    refine ⟨M, ?_, hA, ho, fun _ _ _ _ _ => rfl, fun _ _ => rfl⟩
    rw [b_X12_race_2]
    simp (disch := first | exact tm_inb_i (by omega) (by omega) | exact tm_cc rfl | exact tm_cat rfl | omega | exact nI_ne0 (by omega) (by omega) | exact nI_ne (by omega) (by omega) (by omega) | exact tm_cS (by omega) | assumption) only [e_iconst, e_is1i, e_is1r, e_is1u, e_gotow, e_il1, e_al0, g_95_0, e_ic_ge, r_X12_runs, e_ii1i, e_ii1r, e_ii1u, e_goto, e_is2i, e_is2r, e_is2u, e_il2, r_X12_hears, e_iadd, g_95_14, e_if_eq, r_X12_heardAt, e_if_lt, e_ii2i, e_ii2r, e_ii2u, e_dup2, e_dup2i, e_iret, al_96, as_96, al_103, as_103, kn_0, kn_1, kn_4, kn_7, kn_668, b_X12_race_64, b_X12_race_65, b_X12_race_85, b_X12_race_86, Option.bind_some, Option.toList_some, Option.toList_none, List.cons_append, List.nil_append, z_0, nI_add, pk_mul, pk_sub, pk_div, n_mod, nI_clamp, nI_leI, nI_ltI, nI_eq, le_T, le_F, lt_T, lt_F, eq_T, eq_F, n_i0, n_i1, eq_self, not_true_eq_false, not_false_eq_true, Bool.false_eq_true, ↓reduceIte, if_true, if_false, tm_up_n, tm_up_s, tm_up_i, ite_self, true_and, and_true, false_and, and_false, n_ofN, Nat.reduceAdd, Nat.reduceMul, Nat.reduceSub, Nat.zero_add, m4]
  | succ c ih =>
    intro r M hr hQ hA ho
    have m4 : M 96 4 = nI R := by rw [hQ.1]; exact k4
    obtain ⟨M1, e1, ⟨e2, e3, e4⟩, f1, f2, f3, f4⟩ := hC r (by omega) M hQ
    obtain ⟨M', i1, i2, i3, i4, i5⟩ := ih (r + 1) M1 (by omega) e2 (fun r' m a1 a2 => by
        by_cases q : r' = r
        · subst q; exact e4 m a2
        · rw [f3 _ (by omega)]; exact hA r' m (by omega) a2) (fun r' a1 => by
        by_cases q : r' = r
        · subst q; exact e3
        · rw [f4 _ q]; exact ho r' (by omega))
    refine ⟨M', ?_, i2, i3, fun c a1 a2 a3 a4 => (i4 c a1 a2 a3 a4).trans (f1 c a1 a2 a3 a4), fun j hj => (i5 j hj).trans (f2 j hj)⟩
    conv => lhs; rw [b_X12_race_2]
    simp (disch := first | exact tm_inb_i (by omega) (by omega) | exact tm_cc rfl | exact tm_cat rfl | omega | exact nI_ne0 (by omega) (by omega) | exact nI_ne (by omega) (by omega) (by omega) | exact tm_cS (by omega) | assumption) only [e_iconst, e_is1i, e_is1r, e_is1u, e_gotow, e_il1, e_al0, g_95_0, e_ic_ge, r_X12_runs, e_ii1i, e_ii1r, e_ii1u, e_goto, e_is2i, e_is2r, e_is2u, e_il2, r_X12_hears, e_iadd, g_95_14, e_if_eq, r_X12_heardAt, e_if_lt, e_ii2i, e_ii2r, e_ii2u, e_dup2, e_dup2i, e_iret, al_96, as_96, al_103, as_103, kn_0, kn_1, kn_4, kn_7, kn_668, b_X12_race_64, b_X12_race_65, b_X12_race_85, b_X12_race_86, Option.bind_some, Option.toList_some, Option.toList_none, List.cons_append, List.nil_append, z_0, nI_add, pk_mul, pk_sub, pk_div, n_mod, nI_clamp, nI_leI, nI_ltI, nI_eq, le_T, le_F, lt_T, lt_F, eq_T, eq_F, n_i0, n_i1, eq_self, not_true_eq_false, not_false_eq_true, Bool.false_eq_true, ↓reduceIte, if_true, if_false, tm_up_n, tm_up_s, tm_up_i, ite_self, true_and, and_true, false_and, and_false, n_ofN, Nat.reduceAdd, Nat.reduceMul, Nat.reduceSub, Nat.zero_add, m4, e1, i1]
theorem q_r2 (hK : eK D n W R G) (k4 : D 4 = nI R) (hX : X0 < 65536) : ∀ (c s a : Nat) (M : tm_M), s + c = R → a ≤ s → qL M D R b A → M 96 2 = nI (rS D b A G n X0 o s) → (∀ i, s ≤ i → i < R → M 103 i = bI (o i)) → (∀ s' m, s' < s → m < n + 1 → M 96 (368 + 25 * s' + m) = rH D b A G n X0 o s' m) → (∀ s' m, s' < 12 → m < 25 → s ≤ s' ∨ n < m → M 96 (368 + 25 * s' + m) = D (368 + 25 * s' + m)) → (∀ i, i < s → M 96 (668 + i) = bI (rO D b A G n X0 o i)) → (∀ i, s ≤ i → i < 12 → M 96 (668 + i) = D (668 + i)) → ∃ M', tm_ev (d + 4) (tm_blk (Int.toNat 2030027)) [.ref 95, .int (nI a), .int (nI s)] [] (tm_GG l x) M = tm_ev (d + 4) (tm_blk (Int.toNat 2030094)) [.ref 95, .int (nI (a + cnf (rG D b A G n X0 o) c s)), .int (nI R)] [] (tm_GG l x) M' ∧ M' 96 2 = nI (rS D b A G n X0 o R) ∧ (∀ q, q ≠ 2 → q < 368 ∨ 680 ≤ q → M' 96 q = D q) ∧ (∀ s' m, s' < R → m < n + 1 → M' 96 (368 + 25 * s' + m) = rH D b A G n X0 o s' m) ∧ (∀ s' m, s' < 12 → m < 25 → R ≤ s' ∨ n < m → M' 96 (368 + 25 * s' + m) = D (368 + 25 * s' + m)) ∧ (∀ i, i < R → M' 96 (668 + i) = bI (rO D b A G n X0 o i)) ∧ (∀ i, R ≤ i → i < 12 → M' 96 (668 + i) = D (668 + i)) ∧ ∀ c, c ≠ 96 → c ≠ 103 → M' c = M c := by
  obtain ⟨kG, hn, hW, hR, hG40, k0, k5⟩ := id hK
  intro c
  induction c with
  | zero =>
    intro s a M hs ha hL h2 h103 hH hN hO hP
    obtain rfl : s = R := by omega
    have m4 : M 96 4 = nI s := by rw [hL.1 4 (by decide) (by decide)]; exact k4
    refine ⟨M, ?_, h2, hL.1, hH, hN, hO, hP, fun _ _ _ => rfl⟩
    rw [b_X12_race_27]
    simp (disch := first | exact tm_inb_i (by omega) (by omega) | exact tm_cc rfl | exact tm_cat rfl | omega | exact nI_ne0 (by omega) (by omega) | exact nI_ne (by omega) (by omega) (by omega) | exact tm_cS (by omega) | assumption) only [e_iconst, e_is1i, e_is1r, e_is1u, e_gotow, e_il1, e_al0, g_95_0, e_ic_ge, r_X12_runs, e_ii1i, e_ii1r, e_ii1u, e_goto, e_is2i, e_is2r, e_is2u, e_il2, r_X12_hears, e_iadd, g_95_14, e_if_eq, r_X12_heardAt, e_if_lt, e_ii2i, e_ii2r, e_ii2u, e_dup2, e_dup2i, e_iret, al_96, as_96, al_103, as_103, kn_0, kn_1, kn_4, kn_7, kn_668, b_X12_race_64, b_X12_race_65, b_X12_race_85, b_X12_race_86, Option.bind_some, Option.toList_some, Option.toList_none, List.cons_append, List.nil_append, z_0, nI_add, pk_mul, pk_sub, pk_div, n_mod, nI_clamp, nI_leI, nI_ltI, nI_eq, le_T, le_F, lt_T, lt_F, eq_T, eq_F, n_i0, n_i1, eq_self, not_true_eq_false, not_false_eq_true, Bool.false_eq_true, ↓reduceIte, if_true, if_false, tm_up_n, tm_up_s, tm_up_i, ite_self, true_and, and_true, false_and, and_false, n_ofN, Nat.reduceAdd, Nat.reduceMul, Nat.reduceSub, Nat.zero_add, m4, cnf, Nat.add_zero]
  | succ c ih =>
    intro s a M hs ha hL h2 h103 hH hN hO hP
    have m4 : M 96 4 = nI R := by rw [hL.1 4 (by decide) (by decide)]; exact k4
    obtain ⟨M1, e1, e2, e3, e4, e5, e6, e7⟩ := q_hs (d := d) (l := l) (x := x) hK (show s < R by omega) (n + 1) 0 (rS D b A G n X0 o s) (fun _ => -1) (o s) tm_un tm_un tm_un M (by omega) hL (h103 s (Nat.le_refl _) (by omega)) h2 (rS_lt hX s) (fun m' hm' => by omega)
    have hc1 : tm_call (d + 3) 202 [.ref 95, .int (nI s)] (tm_GG l x) M = some (none, tm_GG l x, M1) := by
      simp (disch := first | exact tm_inb_i (by omega) (by omega) | exact tm_cc rfl | exact tm_cat rfl | omega | exact nI_ne0 (by omega) (by omega) | exact nI_ne (by omega) (by omega) (by omega) | exact tm_cS (by omega) | assumption) only [n_X12_hears, e_iconst, e_is2i, e_is2r, e_is2u, e_gotow, e_il2, e_al0, g_95_0, e_ic_gt, e_il1, r_X12_carrier, e_is3i, e_is3r, e_is3u, g_95_14, e_if_ne, e_il3, e_ic_eq, e_goto, g_95_13, e_imul, e_iadd, e_is4i, e_is4r, e_is4u, e_ic_ne, e_il4, e_if_lt, e_is5i, e_is5r, e_is5u, e_il5, e_if_eq, e_if_le, e_irem, e_ic_lt, r_X12_isMissed, e_ii2i, e_ii2r, e_ii2u, e_vret, al_96, as_96, al_102, as_102, al_103, as_103, k_m1, kn_0, kn_1, kn_2, kn_10, kn_25, kn_34, kn_59, kn_368, kn_13849, kn_25173, kn_65536, b_X12_hears_38, b_X12_hears_42, b_X12_hears_79, b_X12_hears_80, b_X12_hears_139, b_X12_hears_140, b_X12_hears_175, b_X12_hears_176, b_X12_hears_183, Option.bind_some, Option.toList_some, Option.toList_none, List.cons_append, List.nil_append, z_0, nI_add, pk_mul, pk_sub, pk_div, n_mod, nI_clamp, nI_leI, nI_ltI, nI_eq, le_T, le_F, lt_T, lt_F, eq_T, eq_F, n_i0, n_i1, eq_self, not_true_eq_false, not_false_eq_true, Bool.false_eq_true, ↓reduceIte, if_true, if_false, tm_up_n, tm_up_s, tm_up_i, ite_self, true_and, and_true, false_and, and_false, n_ofN, Nat.reduceAdd, Nat.reduceMul, Nat.reduceSub, Nat.zero_add, e1]
    have e3' : M1 103 s = bI (rO D b A G n X0 o s) := e3
    have eH : M1 96 (368 + 25 * s + n) = rH D b A G n X0 o s n := e4 n (by omega)
    have m0 : M1 96 0 = nI n := by rw [e6 0 (by decide) (by omega), hL.1 0 (by decide) (by decide)]; exact k0
    have hq : ∀ q, q ≠ 2 → q ≠ 668 + s → tm_up M1 96 (668 + s) (bI (rO D b A G n X0 o s)) 96 q = M1 96 q := fun q _ h => tm_up_i h
    have ihyp := fun a' ha' => ih (s + 1) a' (tm_up M1 96 (668 + s) (bI (rO D b A G n X0 o s))) (by omega) ha' ⟨fun q a1 a2 => by rw [tm_up_i (by omega), e6 q a1 (by omega)]; exact hL.1 q a1 a2, hL.2.1, fun r m a1 a2 => by rw [tm_up_n (by decide), e5 102 (by decide) (by decide)]; exact hL.2.2 r m a1 a2⟩ (by rw [tm_up_i (by omega)]; exact e2) (fun i a1 a2 => by rw [tm_up_n (by decide), e7 i (by omega)]; exact h103 i (by omega) a2) (fun s' m a1 a2 => by
        rw [tm_up_i (by omega)]
        by_cases q : s' = s
        · subst q; exact e4 m a2
        · rw [e6 _ (by omega) (by omega)]; exact hH s' m (by omega) a2) (fun s' m a1 a2 a3 => by
        rw [tm_up_i (by omega), e6 _ (by omega) (by omega)]; exact hN s' m a1 a2 (by omega)) (fun i a1 => by
        by_cases q : i = s
        · subst q; rw [tm_up_s]
        · rw [tm_up_i (by omega), e6 _ (by omega) (by omega)]; exact hO i (by omega)) (fun i a1 a2 => by rw [tm_up_i (by omega), e6 _ (by omega) (by omega)]; exact hP i (by omega) a2)
    by_cases q : rG D b A G n X0 o s = true
    · obtain ⟨M', i1, i2, i3, i4, i5, i6, i7, i8⟩ := ihyp (a + 1) (by omega)
      have q1 : nI 0 ≤ rH D b A G n X0 o s n := of_decide_eq_true q
      have q1' := Int32.not_lt.mpr q1
      rw [Nat.add_assoc, ← cnf_t q] at i1
      refine ⟨M', ?_, i2, i3, i4, i5, i6, i7, fun c a1 a2 => by rw [i8 c a1 a2, tm_up_n a1, e5 c a1 a2]⟩
      conv => lhs; rw [b_X12_race_27]
      rcases boo (rO D b A G n X0 o s) with z | z
      · rw [z, bI_t] at e3' i1
        simp (disch := first | exact tm_inb_i (by omega) (by omega) | exact tm_cc rfl | exact tm_cat rfl | omega | exact nI_ne0 (by omega) (by omega) | exact nI_ne (by omega) (by omega) (by omega) | exact tm_cS (by omega) | assumption) only [e_iconst, e_is1i, e_is1r, e_is1u, e_gotow, e_il1, e_al0, g_95_0, e_ic_ge, r_X12_runs, e_ii1i, e_ii1r, e_ii1u, e_goto, e_is2i, e_is2r, e_is2u, e_il2, r_X12_hears, e_iadd, g_95_14, e_if_eq, r_X12_heardAt, e_if_lt, e_ii2i, e_ii2r, e_ii2u, e_dup2, e_dup2i, e_iret, al_96, as_96, al_103, as_103, kn_0, kn_1, kn_4, kn_7, kn_668, b_X12_race_64, b_X12_race_65, b_X12_race_85, b_X12_race_86, Option.bind_some, Option.toList_some, Option.toList_none, List.cons_append, List.nil_append, z_0, nI_add, pk_mul, pk_sub, pk_div, n_mod, nI_clamp, nI_leI, nI_ltI, nI_eq, le_T, le_F, lt_T, lt_F, eq_T, eq_F, n_i0, n_i1, eq_self, not_true_eq_false, not_false_eq_true, Bool.false_eq_true, ↓reduceIte, if_true, if_false, tm_up_n, tm_up_s, tm_up_i, ite_self, true_and, and_true, false_and, and_false, n_ofN, Nat.reduceAdd, Nat.reduceMul, Nat.reduceSub, Nat.zero_add, n_X12_heardAt, e_al0, g_95_0, e_iconst, e_il1, e_imul, e_iadd, e_il2, e_iret, al_96, kn_25, kn_368, Option.bind_some, Option.toList_some, Option.toList_none, List.cons_append, List.nil_append, z_0, nI_add, pk_mul, pk_sub, pk_div, n_mod, nI_clamp, nI_leI, nI_ltI, nI_eq, le_T, le_F, lt_T, lt_F, eq_T, eq_F, n_i0, n_i1, eq_self, not_true_eq_false, not_false_eq_true, Bool.false_eq_true, ↓reduceIte, if_true, if_false, tm_up_n, tm_up_s, tm_up_i, ite_self, true_and, and_true, false_and, and_false, n_ofN, Nat.reduceAdd, Nat.reduceMul, Nat.reduceSub, Nat.zero_add, m4, hc1, m0, eH, e3', q1, q1', i1]
      · rw [z, bI_f] at e3' i1
        simp (disch := first | exact tm_inb_i (by omega) (by omega) | exact tm_cc rfl | exact tm_cat rfl | omega | exact nI_ne0 (by omega) (by omega) | exact nI_ne (by omega) (by omega) (by omega) | exact tm_cS (by omega) | assumption) only [e_iconst, e_is1i, e_is1r, e_is1u, e_gotow, e_il1, e_al0, g_95_0, e_ic_ge, r_X12_runs, e_ii1i, e_ii1r, e_ii1u, e_goto, e_is2i, e_is2r, e_is2u, e_il2, r_X12_hears, e_iadd, g_95_14, e_if_eq, r_X12_heardAt, e_if_lt, e_ii2i, e_ii2r, e_ii2u, e_dup2, e_dup2i, e_iret, al_96, as_96, al_103, as_103, kn_0, kn_1, kn_4, kn_7, kn_668, b_X12_race_64, b_X12_race_65, b_X12_race_85, b_X12_race_86, Option.bind_some, Option.toList_some, Option.toList_none, List.cons_append, List.nil_append, z_0, nI_add, pk_mul, pk_sub, pk_div, n_mod, nI_clamp, nI_leI, nI_ltI, nI_eq, le_T, le_F, lt_T, lt_F, eq_T, eq_F, n_i0, n_i1, eq_self, not_true_eq_false, not_false_eq_true, Bool.false_eq_true, ↓reduceIte, if_true, if_false, tm_up_n, tm_up_s, tm_up_i, ite_self, true_and, and_true, false_and, and_false, n_ofN, Nat.reduceAdd, Nat.reduceMul, Nat.reduceSub, Nat.zero_add, n_X12_heardAt, e_al0, g_95_0, e_iconst, e_il1, e_imul, e_iadd, e_il2, e_iret, al_96, kn_25, kn_368, Option.bind_some, Option.toList_some, Option.toList_none, List.cons_append, List.nil_append, z_0, nI_add, pk_mul, pk_sub, pk_div, n_mod, nI_clamp, nI_leI, nI_ltI, nI_eq, le_T, le_F, lt_T, lt_F, eq_T, eq_F, n_i0, n_i1, eq_self, not_true_eq_false, not_false_eq_true, Bool.false_eq_true, ↓reduceIte, if_true, if_false, tm_up_n, tm_up_s, tm_up_i, ite_self, true_and, and_true, false_and, and_false, n_ofN, Nat.reduceAdd, Nat.reduceMul, Nat.reduceSub, Nat.zero_add, m4, hc1, m0, eH, e3', q1, q1', i1]
    · obtain ⟨M', i1, i2, i3, i4, i5, i6, i7, i8⟩ := ihyp a (by omega)
      have q1 : ¬ nI 0 ≤ rH D b A G n X0 o s n := fun z => q (decide_eq_true z)
      have q1' := Int32.not_le.mp q1
      rw [← cnf_f q] at i1
      refine ⟨M', ?_, i2, i3, i4, i5, i6, i7, fun c a1 a2 => by rw [i8 c a1 a2, tm_up_n a1, e5 c a1 a2]⟩
      conv => lhs; rw [b_X12_race_27]
      rcases boo (rO D b A G n X0 o s) with z | z
      · rw [z, bI_t] at e3' i1
        simp (disch := first | exact tm_inb_i (by omega) (by omega) | exact tm_cc rfl | exact tm_cat rfl | omega | exact nI_ne0 (by omega) (by omega) | exact nI_ne (by omega) (by omega) (by omega) | exact tm_cS (by omega) | assumption) only [e_iconst, e_is1i, e_is1r, e_is1u, e_gotow, e_il1, e_al0, g_95_0, e_ic_ge, r_X12_runs, e_ii1i, e_ii1r, e_ii1u, e_goto, e_is2i, e_is2r, e_is2u, e_il2, r_X12_hears, e_iadd, g_95_14, e_if_eq, r_X12_heardAt, e_if_lt, e_ii2i, e_ii2r, e_ii2u, e_dup2, e_dup2i, e_iret, al_96, as_96, al_103, as_103, kn_0, kn_1, kn_4, kn_7, kn_668, b_X12_race_64, b_X12_race_65, b_X12_race_85, b_X12_race_86, Option.bind_some, Option.toList_some, Option.toList_none, List.cons_append, List.nil_append, z_0, nI_add, pk_mul, pk_sub, pk_div, n_mod, nI_clamp, nI_leI, nI_ltI, nI_eq, le_T, le_F, lt_T, lt_F, eq_T, eq_F, n_i0, n_i1, eq_self, not_true_eq_false, not_false_eq_true, Bool.false_eq_true, ↓reduceIte, if_true, if_false, tm_up_n, tm_up_s, tm_up_i, ite_self, true_and, and_true, false_and, and_false, n_ofN, Nat.reduceAdd, Nat.reduceMul, Nat.reduceSub, Nat.zero_add, n_X12_heardAt, e_al0, g_95_0, e_iconst, e_il1, e_imul, e_iadd, e_il2, e_iret, al_96, kn_25, kn_368, Option.bind_some, Option.toList_some, Option.toList_none, List.cons_append, List.nil_append, z_0, nI_add, pk_mul, pk_sub, pk_div, n_mod, nI_clamp, nI_leI, nI_ltI, nI_eq, le_T, le_F, lt_T, lt_F, eq_T, eq_F, n_i0, n_i1, eq_self, not_true_eq_false, not_false_eq_true, Bool.false_eq_true, ↓reduceIte, if_true, if_false, tm_up_n, tm_up_s, tm_up_i, ite_self, true_and, and_true, false_and, and_false, n_ofN, Nat.reduceAdd, Nat.reduceMul, Nat.reduceSub, Nat.zero_add, Nat.add_zero, m4, hc1, m0, eH, e3', q1, q1', i1]
      · rw [z, bI_f] at e3' i1
        simp (disch := first | exact tm_inb_i (by omega) (by omega) | exact tm_cc rfl | exact tm_cat rfl | omega | exact nI_ne0 (by omega) (by omega) | exact nI_ne (by omega) (by omega) (by omega) | exact tm_cS (by omega) | assumption) only [e_iconst, e_is1i, e_is1r, e_is1u, e_gotow, e_il1, e_al0, g_95_0, e_ic_ge, r_X12_runs, e_ii1i, e_ii1r, e_ii1u, e_goto, e_is2i, e_is2r, e_is2u, e_il2, r_X12_hears, e_iadd, g_95_14, e_if_eq, r_X12_heardAt, e_if_lt, e_ii2i, e_ii2r, e_ii2u, e_dup2, e_dup2i, e_iret, al_96, as_96, al_103, as_103, kn_0, kn_1, kn_4, kn_7, kn_668, b_X12_race_64, b_X12_race_65, b_X12_race_85, b_X12_race_86, Option.bind_some, Option.toList_some, Option.toList_none, List.cons_append, List.nil_append, z_0, nI_add, pk_mul, pk_sub, pk_div, n_mod, nI_clamp, nI_leI, nI_ltI, nI_eq, le_T, le_F, lt_T, lt_F, eq_T, eq_F, n_i0, n_i1, eq_self, not_true_eq_false, not_false_eq_true, Bool.false_eq_true, ↓reduceIte, if_true, if_false, tm_up_n, tm_up_s, tm_up_i, ite_self, true_and, and_true, false_and, and_false, n_ofN, Nat.reduceAdd, Nat.reduceMul, Nat.reduceSub, Nat.zero_add, n_X12_heardAt, e_al0, g_95_0, e_iconst, e_il1, e_imul, e_iadd, e_il2, e_iret, al_96, kn_25, kn_368, Option.bind_some, Option.toList_some, Option.toList_none, List.cons_append, List.nil_append, z_0, nI_add, pk_mul, pk_sub, pk_div, n_mod, nI_clamp, nI_leI, nI_ltI, nI_eq, le_T, le_F, lt_T, lt_F, eq_T, eq_F, n_i0, n_i1, eq_self, not_true_eq_false, not_false_eq_true, Bool.false_eq_true, ↓reduceIte, if_true, if_false, tm_up_n, tm_up_s, tm_up_i, ite_self, true_and, and_true, false_and, and_false, n_ofN, Nat.reduceAdd, Nat.reduceMul, Nat.reduceSub, Nat.zero_add, Nat.add_zero, m4, hc1, m0, eH, e3', q1, q1', i1]
end TRA
