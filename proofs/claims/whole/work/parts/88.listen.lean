/-! part 88: mats listen -/
def lcg (X : Nat) : Nat := (X * 25173 + 13849) % 65536
theorem lcg_lt (X : Nat) : lcg X < 65536 := Nat.mod_lt _ (by decide)
def lC (D : Nat → Int32) (G s m : Nat) : Nat := cC D s (cbs D s m G)
def lI (D : Nat → Int32) (b : Nat) (A : Nat → Nat → Int32) (G s m : Nat) : Bool := b.testBit m && decide (nI 0 ≤ A (lC D G s m) m)
def lX (D : Nat → Int32) (b : Nat) (A : Nat → Nat → Int32) (G s m X : Nat) : Nat := if lI D b A G s m = true ∧ m ≠ 0 then lcg X else X
def lV (D : Nat → Int32) (b : Nat) (A : Nat → Nat → Int32) (G s m X : Nat) : Int32 := if lI D b A G s m = true ∧ (m = 0 ∨ ¬ nI (lcg X % 10) < D (59 + m)) ∧ ¬ exf (mis D (lC D G s m) m) G 0 = true then A (lC D G s m) m else -1
def lis (D : Nat → Int32) (b : Nat) (A : Nat → Nat → Int32) (G s : Nat) : Nat → Nat → Nat → (Nat → Int32) → Bool → Nat × (Nat → Int32) × Bool
  | 0, _, X, H, O => (X, H, O)
  | c + 1, m, X, H, O => lis D b A G s c (m + 1) (lX D b A G s m X) (upd H m (lV D b A G s m X)) (O || decide (lC D G s m ≠ s))
section TLS
variable {d l : Nat} {x : Nat → Int32} {M : tm_M} {D D' : Nat → Int32} {n W R G s m X b : Nat} {A : Nat → Nat → Int32}
theorem lI_f1 (q : ¬ b.testBit m = true) : ¬ lI D b A G s m = true := by unfold lI; simp [q]
theorem lI_f2 (q : ¬ nI 0 ≤ A (lC D G s m) m) : ¬ lI D b A G s m = true := by unfold lI; simp [q]
theorem lI_t (q : b.testBit m = true) (q2 : nI 0 ≤ A (lC D G s m) m) : lI D b A G s m = true := by unfold lI; simp [q, q2]
theorem lX_f (q : ¬ lI D b A G s m = true) : lX D b A G s m X = X := if_neg (fun z => q z.1)
theorem lX_0 (q : m = 0) : lX D b A G s m X = X := if_neg (fun z => z.2 q)
theorem lX_t (q : lI D b A G s m = true) (h : m ≠ 0) : lX D b A G s m X = lcg X := if_pos ⟨q, h⟩
theorem lX_lt (h : X < 65536) : lX D b A G s m X < 65536 := by
  unfold lX
  split
  · exact lcg_lt X
  · exact h
theorem lV_f (q : ¬ lI D b A G s m = true) : lV D b A G s m X = -1 := if_neg (fun z => q z.1)
theorem lV_d (q : m ≠ 0) (h : nI (lcg X % 10) < D (59 + m)) : lV D b A G s m X = -1 := if_neg (fun z => z.2.1.elim q (fun y => y h))
theorem lV_m (q : exf (mis D (lC D G s m) m) G 0 = true) : lV D b A G s m X = -1 := if_neg (fun z => z.2.2 q)
theorem lV_t (q : lI D b A G s m = true) (h : m = 0 ∨ ¬ nI (lcg X % 10) < D (59 + m)) (q2 : ¬ exf (mis D (lC D G s m) m) G 0 = true) : lV D b A G s m X = A (lC D G s m) m := if_pos ⟨q, h, q2⟩
theorem lis_lt : ∀ c m X H O, X < 65536 → (lis D b A G s c m X H O).1 < 65536 := by
  intro c
  induction c with
  | zero => intro m X H O h; exact h
  | succ c ih => intro m X H O h; exact ih _ _ _ _ (lX_lt h)
theorem lis_ok (hK : eK D n W R G) (hs1 : s < R) (hA : ∀ r, r < R → okA (A r)) : ∀ c m X H O, m + c ≤ 25 → okA H → okA (lis D b A G s c m X H O).2.1 := by
  intro c
  induction c with
  | zero => intro m X H O _ h; exact h
  | succ c ih =>
    intro m X H O hm h
    refine ih _ _ _ _ (by omega) (fun m' hm' => ?_)
    by_cases q : m' = m
    · subst q
      rw [upd_s]
      unfold lV
      split
      · exact hA _ (cC_lt hK (Nat.le_refl _) hs1) m' hm'
      · exact Or.inl rfl
    · rw [upd_n q]; exact h m' hm'
/-- goings alike are looked up alike -/
theorem g_cg (h : ∀ q, 168 ≤ q → q < 368 → D' q = D q) {g : Nat} (hg : g < 40) : gk D' g = gk D g ∧ gw D' g = gw D g ∧ ga D' g = ga D g ∧ gn D' g = gn D g := by
  unfold gk gw ga gn
  rw [h _ (by omega) (by omega), h _ (by omega) (by omega), h _ (by omega) (by omega), h _ (by omega) (by omega)]
  exact ⟨rfl, rfl, rfl, rfl⟩
theorem cbs_cg (h : ∀ q, 168 ≤ q → q < 368 → D' q = D q) : ∀ g, g ≤ 40 → cbs D' s m g = cbs D s m g ∧ cA D' (cbs D s m g) = cA D (cbs D s m g) := by
  intro g
  induction g with
  | zero => intro _; exact ⟨rfl, rfl⟩
  | succ g ih =>
    intro hg
    obtain ⟨i1, i2⟩ := ih (by omega)
    obtain ⟨j1, j2, j3, j4⟩ := g_cg h (show g < 40 by omega)
    have e : cbs D' s m (g + 1) = cbs D s m (g + 1) := by
      show (if cok D' s m g = true ∧ cA D' (cbs D' s m g) ≤ ga D' g then g + 1 else cbs D' s m g) = if cok D s m g = true ∧ cA D (cbs D s m g) ≤ ga D g then g + 1 else cbs D s m g
      rw [i1, i2, show cok D' s m g = cok D s m g by unfold cok; rw [j1, j2, j3], j3]
    refine ⟨e, ?_⟩
    cases q : cbs D s m (g + 1) with
    | zero => rfl
    | succ u =>
      obtain ⟨u1, _⟩ := cbs_p _ _ q
      exact (g_cg h (show u < 40 by omega)).2.2.1
theorem lC_cg (h : ∀ q, 168 ≤ q → q < 368 → D' q = D q) (hG : G ≤ 40) : lC D' G s m = lC D G s m := by
  unfold lC
  rw [(cbs_cg h G hG).1]
  cases q : cbs D s m G with
  | zero => rfl
  | succ u =>
    obtain ⟨u1, _⟩ := cbs_p _ _ q
    exact (g_cg h (show u < 40 by omega)).2.2.2
theorem exf_z (p : Nat → Bool) (g : Nat) : exf p 0 g = false := rfl
theorem mis_cg (h : ∀ q, 168 ≤ q → q < 368 → D' q = D q) {r : Nat} : ∀ c g, g + c ≤ 40 → exf (mis D' r m) c g = exf (mis D r m) c g := by
  intro c
  induction c with
  | zero => intro g _; exact (exf_z _ _).trans (exf_z _ _).symm
  | succ c ih =>
    intro g hg
    have e : mis D' r m g = mis D r m g := by
      obtain ⟨j1, j2, j3, j4⟩ := g_cg h (show g < 40 by omega)
      unfold mis
      rw [j1, j2, j3]
    have i1 := ih (g + 1) (by omega)
    unfold exf
    rw [e, i1]
theorem eK_cg (h : ∀ q, q ≠ 2 → q < 368 → D' q = D q) (hK : eK D n W R G) : eK D' n W R G := by
  obtain ⟨kG, hn, hW, hR, hG40, k0, k5⟩ := hK
  exact ⟨tm_kG_cg (fun q a b => h q (by omega) (by omega)) (fun v a => h _ (by omega) (by omega)) kG, hn, hW, hR, hG40, by rw [h 0 (by omega) (by omega)]; exact k0, by rw [h 5 (by omega) (by omega)]; exact k5⟩
theorem n_m16 (a : Nat) : a &&& 65535 = a % 65536 := by
  have h := Nat.and_two_pow_sub_one_eq_mod a 16
  simp only [Nat.reducePow, Nat.reduceSub] at h
  exact h
/-- what listening sees of the class -/
def cL (M : tm_M) (D : Nat → Int32) (n R G b : Nat) (A : Nat → Nat → Int32) : Prop := eG M D G ∧ M 2 0 = nI n ∧ (M 2 2 = nI b ∧ b < 2 ^ 25) ∧ (∀ m, m < 25 → M 4 m = D (59 + m)) ∧ ∀ r m, r < R → m < 25 → M 70 (r * 25 + m) = A r m
theorem cL_cg {M' : tm_M} (f : ∀ c, c ≠ 1 → c ≠ 34 → M' c = M c) (h : cL M D n R G b A) : cL M' D n R G b A := by
  obtain ⟨⟨a1, a2⟩, a3, a4, a5, a6⟩ := h
  refine ⟨⟨by rw [f 20 (by decide) (by decide)]; exact a1, fun g hg => ?_⟩, by rw [f 2 (by decide) (by decide)]; exact a3, by rw [f 2 (by decide) (by decide)]; exact a4, fun m hm => by rw [f 4 (by decide) (by decide)]; exact a5 m hm, fun r m h1 h2 => by rw [f 70 (by decide) (by decide)]; exact a6 r m h1 h2⟩
  rw [f 21 (by decide) (by decide), f 22 (by decide) (by decide), f 23 (by decide) (by decide), f 24 (by decide) (by decide), f 25 (by decide) (by decide)]
  exact a2 g hg
theorem m_mh (h4 : M 4 m = D (59 + m)) (h9 : M 1 9 = nI X) (hX : X < 65536) (hm : m < 25) (hm0 : m ≠ 0) : tm_call (d + 1) 30 [.ref 69, .int (nI m)] (tm_GG l x) M = some (some (.int (if nI (lcg X % 10) < D (59 + m) then nI 0 else nI 1)), tm_GG l x, tm_up M 1 9 (nI (lcg X))) := by
  have hl : (X * 25173 + 13849) % 65536 = lcg X := rfl
  have hlt := lcg_lt X
  by_cases q : nI (lcg X % 10) < D (59 + m)
  · simp (disch := first | exact tm_inb_i (by omega) (by omega) | exact tm_cc rfl | exact tm_cat rfl | omega | exact nI_ne0 (by omega) (by omega) | exact nI_ne (by omega) (by omega) (by omega) | exact tm_cS (by omega) | assumption) only [n_X3_matHears, n_X10_drawNext, e_il1, e_if_eq, e_al0, g_69_1, r_X10_drawNext, e_iconst, e_irem, g_1_0, g_35_0, g_2_5, g_36_5, e_ic_lt, e_gotow, e_goto, en_zret0, en_zret1, en_zretb, al_4, al_38, kn_0, kn_1, kn_10, b_X3_matHears_29, b_X3_matHears_33, b_X3_matHears_34, Option.bind_some, Option.toList_some, Option.toList_none, List.cons_append, List.nil_append, z_0, nI_add, pk_mul, pk_sub, pk_div, n_mod, nI_clamp, nI_leI, nI_ltI, nI_eq, le_T, le_F, lt_T, lt_F, eq_T, eq_F, n_i0, n_i1, eq_self, not_true_eq_false, not_false_eq_true, Bool.false_eq_true, ↓reduceIte, if_true, if_false, tm_up_n, tm_up_s, tm_up_i, ite_self, true_and, and_true, false_and, and_false, n_ofN, Nat.reduceAdd, Nat.reduceMul, Nat.reduceSub, Nat.zero_add, g_1_9, g_35_9, e_imul, e_iadd, e_iand, p_1_9, p_35_9, e_iret, kn_13849, kn_25173, kn_65535, h4, h9, n_and, n_m16, hl, q]
  · simp (disch := first | exact tm_inb_i (by omega) (by omega) | exact tm_cc rfl | exact tm_cat rfl | omega | exact nI_ne0 (by omega) (by omega) | exact nI_ne (by omega) (by omega) (by omega) | exact tm_cS (by omega) | assumption) only [n_X3_matHears, n_X10_drawNext, e_il1, e_if_eq, e_al0, g_69_1, r_X10_drawNext, e_iconst, e_irem, g_1_0, g_35_0, g_2_5, g_36_5, e_ic_lt, e_gotow, e_goto, en_zret0, en_zret1, en_zretb, al_4, al_38, kn_0, kn_1, kn_10, b_X3_matHears_29, b_X3_matHears_33, b_X3_matHears_34, Option.bind_some, Option.toList_some, Option.toList_none, List.cons_append, List.nil_append, z_0, nI_add, pk_mul, pk_sub, pk_div, n_mod, nI_clamp, nI_leI, nI_ltI, nI_eq, le_T, le_F, lt_T, lt_F, eq_T, eq_F, n_i0, n_i1, eq_self, not_true_eq_false, not_false_eq_true, Bool.false_eq_true, ↓reduceIte, if_true, if_false, tm_up_n, tm_up_s, tm_up_i, ite_self, true_and, and_true, false_and, and_false, n_ofN, Nat.reduceAdd, Nat.reduceMul, Nat.reduceSub, Nat.zero_add, g_1_9, g_35_9, e_imul, e_iadd, e_iand, p_1_9, p_35_9, e_iret, kn_13849, kn_25173, kn_65535, h4, h9, n_and, n_m16, hl, q]
theorem m_l1 {v3 v4 : Value} {B : Nat} (hL : cL M D n R G b A) (hK : eK D n W R G) (hs1 : s < R) (hm : m ≤ n) (h7 : M 1 7 = nI B) (hB : B < 2 ^ 12) : ∃ B1 M1, tm_ev (d + 3) (tm_blk (Int.toNat 290002)) [.ref 69, .int (nI s), .int (nI m), v3, v4] [] (tm_GG l x) M = tm_ev (d + 3) (tm_blk (Int.toNat 290049)) [.ref 69, .int (nI s), .int (nI m), .int (nI (lC D G s m)), v4] [] (tm_GG l x) M1 ∧ M1 1 7 = nI B1 ∧ B1 < 2 ^ 12 ∧ (∀ i, B1.testBit i = if i = s then (B.testBit s || decide (lC D G s m ≠ s)) else B.testBit i) ∧ (∀ c, c ≠ 1 → M1 c = M c) ∧ ∀ j, j ≠ 7 → M1 1 j = M 1 j := by
  obtain ⟨kG, hn, hW, hR, hG40, k0, k5⟩ := id hK
  have rC := m_ca (d := d + 1) (l := l) (x := x) hL.1 hK hs1 (show m < 25 by omega)
  have h0 := hL.2.1
  have hc : lC D G s m < R := cC_lt hK (Nat.le_refl _) hs1
  rw [show cC D s (cbs D s m G) = lC D G s m from rfl] at rC
  by_cases q : lC D G s m = s
  · refine ⟨B, M, ?_, h7, hB, fun i => ?_, fun _ _ => rfl, fun _ _ => rfl⟩
    · conv => lhs; rw [b_X3_listen_2]
      simp (disch := first | exact tm_inb_i (by omega) (by omega) | exact tm_cc rfl | exact tm_cat rfl | omega | exact nI_ne0 (by omega) (by omega) | exact nI_ne (by omega) (by omega) (by omega) | exact tm_cS (by omega) | assumption) only [e_iconst, e_is2i, e_is2r, e_is2u, e_gotow, e_il2, e_al0, g_69_1, g_1_0, g_35_0, g_2_0, g_36_0, e_ic_gt, g_1_2, g_35_2, e_il1, r_X1_carrierOf, e_is3i, e_is3r, e_is3u, e_il3, e_ic_eq, e_dupi, e_dupr, g_1_7, g_35_7, e_ishl, e_ior, p_1_7, p_35_7, r_X3_minuteOf, e_is4i, e_is4r, e_is4u, r_X5_hasMat, e_if_eq, e_il4, e_if_lt, r_X3_matHears, r_X1_isMissed, e_if_ne, g_1_6, g_35_6, e_imul, e_iadd, e_ii2i, e_ii2r, e_ii2u, e_goto, e_vret, as_34, as_68, kn_0, kn_1, kn_25, b_X3_listen_121, Option.bind_some, Option.toList_some, Option.toList_none, List.cons_append, List.nil_append, z_0, nI_add, pk_mul, pk_sub, pk_div, n_mod, nI_clamp, nI_leI, nI_ltI, nI_eq, le_T, le_F, lt_T, lt_F, eq_T, eq_F, n_i0, n_i1, eq_self, not_true_eq_false, not_false_eq_true, Bool.false_eq_true, ↓reduceIte, if_true, if_false, tm_up_n, tm_up_s, tm_up_i, ite_self, true_and, and_true, false_and, and_false, n_ofN, Nat.reduceAdd, Nat.reduceMul, Nat.reduceSub, Nat.zero_add, h0, rC]
    · by_cases z : i = s
      · subst z; rw [if_pos rfl, q]; simp
      · rw [if_neg z]
  · refine ⟨B ||| 2 ^ s, tm_up M 1 7 (nI (B ||| 2 ^ s)), ?_, tm_up_s, ?_, fun i => ?_, fun c hc => tm_up_n hc, fun j hj => tm_up_i hj⟩
    · conv => lhs; rw [b_X3_listen_2]
      simp (disch := first | exact tm_inb_i (by omega) (by omega) | exact tm_cc rfl | exact tm_cat rfl | omega | exact nI_ne0 (by omega) (by omega) | exact nI_ne (by omega) (by omega) (by omega) | exact tm_cS (by omega) | assumption) only [e_iconst, e_is2i, e_is2r, e_is2u, e_gotow, e_il2, e_al0, g_69_1, g_1_0, g_35_0, g_2_0, g_36_0, e_ic_gt, g_1_2, g_35_2, e_il1, r_X1_carrierOf, e_is3i, e_is3r, e_is3u, e_il3, e_ic_eq, e_dupi, e_dupr, g_1_7, g_35_7, e_ishl, e_ior, p_1_7, p_35_7, r_X3_minuteOf, e_is4i, e_is4r, e_is4u, r_X5_hasMat, e_if_eq, e_il4, e_if_lt, r_X3_matHears, r_X1_isMissed, e_if_ne, g_1_6, g_35_6, e_imul, e_iadd, e_ii2i, e_ii2r, e_ii2u, e_goto, e_vret, as_34, as_68, kn_0, kn_1, kn_25, b_X3_listen_121, Option.bind_some, Option.toList_some, Option.toList_none, List.cons_append, List.nil_append, z_0, nI_add, pk_mul, pk_sub, pk_div, n_mod, nI_clamp, nI_leI, nI_ltI, nI_eq, le_T, le_F, lt_T, lt_F, eq_T, eq_F, n_i0, n_i1, eq_self, not_true_eq_false, not_false_eq_true, Bool.false_eq_true, ↓reduceIte, if_true, if_false, tm_up_n, tm_up_s, tm_up_i, ite_self, true_and, and_true, false_and, and_false, n_ofN, Nat.reduceAdd, Nat.reduceMul, Nat.reduceSub, Nat.zero_add, h0, rC, h7, n_or, n_shl1]
    · exact Nat.or_lt_two_pow hB (Nat.pow_lt_pow_right (by decide) (by omega))
    · rw [Nat.testBit_or, Nat.testBit_two_pow]
      by_cases z : i = s
      · subst z; rw [if_pos rfl]; simp [q]
      · rw [if_neg z]; simp [Ne.symm z]
theorem m_l2 {v4 : Value} (hL : cL M D n R G b A) (hK : eK D n W R G) (hs1 : s < R) (hm : m ≤ n) (h9 : M 1 9 = nI X) (hX : X < 65536) (hH : M 34 (s * 25 + m) = -1) : ∃ v4' M1, tm_ev (d + 3) (tm_blk (Int.toNat 290049)) [.ref 69, .int (nI s), .int (nI m), .int (nI (lC D G s m)), v4] [] (tm_GG l x) M = tm_ev (d + 3) (tm_blk (Int.toNat 290115)) [.ref 69, .int (nI s), .int (nI m), .int (nI (lC D G s m)), v4'] [] (tm_GG l x) M1 ∧ M1 1 9 = nI (lX D b A G s m X) ∧ M1 34 (s * 25 + m) = lV D b A G s m X ∧ (∀ c, c ≠ 1 → c ≠ 34 → M1 c = M c) ∧ (∀ j, j ≠ 9 → M1 1 j = M 1 j) ∧ ∀ i, i ≠ s * 25 + m → M1 34 i = M 34 i := by
  obtain ⟨kG, hn, hW, hR, hG40, k0, k5⟩ := id hK
  have hc : lC D G s m < R := cC_lt hK (Nat.le_refl _) hs1
  obtain ⟨hG1, h0, ⟨hb1, hb2⟩, h4, h70⟩ := id hL
  have e70 := h70 (lC D G s m) m hc (by omega)
  have rM := m_hasMat (d := d + 2) (l := l) (x := x) hb1 hb2 (show m < 25 by omega)
  by_cases q1 : b.testBit m = true
  · by_cases q2 : nI 0 ≤ A (lC D G s m) m
    · have q2' := Int32.not_lt.mpr q2
      have tI : lI D b A G s m = true := lI_t q1 q2
      by_cases q3 : m = 0
      · have rI := m_mi (d := d + 2) (l := l) (x := x) hG1 hK (show lC D G s m < 12 by omega) (show m < 25 by omega)
        have rH : tm_call (d + 2) 30 [.ref 69, .int (nI m)] (tm_GG l x) M = some (some (.int (nI 1)), tm_GG l x, M) := by
          simp (disch := first | exact tm_inb_i (by omega) (by omega) | exact tm_cc rfl | exact tm_cat rfl | omega | exact nI_ne0 (by omega) (by omega) | exact nI_ne (by omega) (by omega) (by omega) | exact tm_cS (by omega) | assumption) only [n_X3_matHears, e_il1, e_if_eq, e_al0, g_69_1, r_X10_drawNext, e_iconst, e_irem, g_1_0, g_35_0, g_2_5, g_36_5, e_ic_lt, e_gotow, e_goto, en_zret0, en_zret1, en_zretb, al_4, al_38, kn_0, kn_1, kn_10, b_X3_matHears_29, b_X3_matHears_33, b_X3_matHears_34, Option.bind_some, Option.toList_some, Option.toList_none, List.cons_append, List.nil_append, z_0, nI_add, pk_mul, pk_sub, pk_div, n_mod, nI_clamp, nI_leI, nI_ltI, nI_eq, le_T, le_F, lt_T, lt_F, eq_T, eq_F, n_i0, n_i1, eq_self, not_true_eq_false, not_false_eq_true, Bool.false_eq_true, ↓reduceIte, if_true, if_false, tm_up_n, tm_up_s, tm_up_i, ite_self, true_and, and_true, false_and, and_false, n_ofN, Nat.reduceAdd, Nat.reduceMul, Nat.reduceSub, Nat.zero_add]
        by_cases q5 : exf (mis D (lC D G s m) m) G 0 = true
        · refine ⟨.int (A (lC D G s m) m), M, ?_, by rw [lX_0 q3]; exact h9, by rw [lV_m q5]; exact hH, fun _ _ _ => rfl, fun _ _ => rfl, fun _ _ => rfl⟩
          rw [b_X3_listen_49]
          simp (disch := first | exact tm_inb_i (by omega) (by omega) | exact tm_cc rfl | exact tm_cat rfl | omega | exact nI_ne0 (by omega) (by omega) | exact nI_ne (by omega) (by omega) (by omega) | exact tm_cS (by omega) | assumption) only [e_iconst, e_is2i, e_is2r, e_is2u, e_gotow, e_il2, e_al0, g_69_1, g_1_0, g_35_0, g_2_0, g_36_0, e_ic_gt, g_1_2, g_35_2, e_il1, r_X1_carrierOf, e_is3i, e_is3r, e_is3u, e_il3, e_ic_eq, e_dupi, e_dupr, g_1_7, g_35_7, e_ishl, e_ior, p_1_7, p_35_7, r_X3_minuteOf, e_is4i, e_is4r, e_is4u, r_X5_hasMat, e_if_eq, e_il4, e_if_lt, r_X3_matHears, r_X1_isMissed, e_if_ne, g_1_6, g_35_6, e_imul, e_iadd, e_ii2i, e_ii2r, e_ii2u, e_goto, e_vret, as_34, as_68, kn_0, kn_1, kn_25, b_X3_listen_121, Option.bind_some, Option.toList_some, Option.toList_none, List.cons_append, List.nil_append, z_0, nI_add, pk_mul, pk_sub, pk_div, n_mod, nI_clamp, nI_leI, nI_ltI, nI_eq, le_T, le_F, lt_T, lt_F, eq_T, eq_F, n_i0, n_i1, eq_self, not_true_eq_false, not_false_eq_true, Bool.false_eq_true, ↓reduceIte, if_true, if_false, tm_up_n, tm_up_s, tm_up_i, ite_self, true_and, and_true, false_and, and_false, n_ofN, Nat.reduceAdd, Nat.reduceMul, Nat.reduceSub, Nat.zero_add, n_X3_minuteOf, e_al0, g_69_2, e_il1, e_iconst, e_imul, e_il2, e_iadd, e_iret, al_70, kn_25, Option.bind_some, Option.toList_some, Option.toList_none, List.cons_append, List.nil_append, z_0, nI_add, pk_mul, pk_sub, pk_div, n_mod, nI_clamp, nI_leI, nI_ltI, nI_eq, le_T, le_F, lt_T, lt_F, eq_T, eq_F, n_i0, n_i1, eq_self, not_true_eq_false, not_false_eq_true, Bool.false_eq_true, ↓reduceIte, if_true, if_false, tm_up_n, tm_up_s, tm_up_i, ite_self, true_and, and_true, false_and, and_false, n_ofN, Nat.reduceAdd, Nat.reduceMul, Nat.reduceSub, Nat.zero_add, e70, rM, q1, q2, q2', rH, rI, q5]
        · refine ⟨.int (A (lC D G s m) m), tm_up M 34 (s * 25 + m) (A (lC D G s m) m), ?_, by rw [lX_0 q3, tm_up_n (by decide)]; exact h9, by rw [lV_t tI (Or.inl q3) q5, tm_up_s], fun c _ h => tm_up_n h, fun j _ => by rw [tm_up_n (by decide)], fun i hi => tm_up_i hi⟩
          rw [b_X3_listen_49]
          simp (disch := first | exact tm_inb_i (by omega) (by omega) | exact tm_cc rfl | exact tm_cat rfl | omega | exact nI_ne0 (by omega) (by omega) | exact nI_ne (by omega) (by omega) (by omega) | exact tm_cS (by omega) | assumption) only [e_iconst, e_is2i, e_is2r, e_is2u, e_gotow, e_il2, e_al0, g_69_1, g_1_0, g_35_0, g_2_0, g_36_0, e_ic_gt, g_1_2, g_35_2, e_il1, r_X1_carrierOf, e_is3i, e_is3r, e_is3u, e_il3, e_ic_eq, e_dupi, e_dupr, g_1_7, g_35_7, e_ishl, e_ior, p_1_7, p_35_7, r_X3_minuteOf, e_is4i, e_is4r, e_is4u, r_X5_hasMat, e_if_eq, e_il4, e_if_lt, r_X3_matHears, r_X1_isMissed, e_if_ne, g_1_6, g_35_6, e_imul, e_iadd, e_ii2i, e_ii2r, e_ii2u, e_goto, e_vret, as_34, as_68, kn_0, kn_1, kn_25, b_X3_listen_121, Option.bind_some, Option.toList_some, Option.toList_none, List.cons_append, List.nil_append, z_0, nI_add, pk_mul, pk_sub, pk_div, n_mod, nI_clamp, nI_leI, nI_ltI, nI_eq, le_T, le_F, lt_T, lt_F, eq_T, eq_F, n_i0, n_i1, eq_self, not_true_eq_false, not_false_eq_true, Bool.false_eq_true, ↓reduceIte, if_true, if_false, tm_up_n, tm_up_s, tm_up_i, ite_self, true_and, and_true, false_and, and_false, n_ofN, Nat.reduceAdd, Nat.reduceMul, Nat.reduceSub, Nat.zero_add, n_X3_minuteOf, e_al0, g_69_2, e_il1, e_iconst, e_imul, e_il2, e_iadd, e_iret, al_70, kn_25, Option.bind_some, Option.toList_some, Option.toList_none, List.cons_append, List.nil_append, z_0, nI_add, pk_mul, pk_sub, pk_div, n_mod, nI_clamp, nI_leI, nI_ltI, nI_eq, le_T, le_F, lt_T, lt_F, eq_T, eq_F, n_i0, n_i1, eq_self, not_true_eq_false, not_false_eq_true, Bool.false_eq_true, ↓reduceIte, if_true, if_false, tm_up_n, tm_up_s, tm_up_i, ite_self, true_and, and_true, false_and, and_false, n_ofN, Nat.reduceAdd, Nat.reduceMul, Nat.reduceSub, Nat.zero_add, e70, rM, q1, q2, q2', rH, rI, q5]
      · have rH := m_mh (d := d + 1) (l := l) (x := x) (h4 m (by omega)) h9 hX (by omega) q3
        have rI := m_mi (d := d + 2) (l := l) (x := x) (cL_cg (M' := tm_up M 1 9 (nI (lcg X))) (fun c h1 _ => tm_up_n h1) hL).1 hK (show lC D G s m < 12 by omega) (show m < 25 by omega)
        by_cases q4 : nI (lcg X % 10) < D (59 + m)
        · rw [if_pos q4] at rH
          refine ⟨.int (A (lC D G s m) m), tm_up M 1 9 (nI (lcg X)), ?_, by rw [lX_t tI q3, tm_up_s], by rw [lV_d q3 q4, tm_up_n (by decide)]; exact hH, fun c h _ => tm_up_n h, fun j h => tm_up_i h, fun i _ => by rw [tm_up_n (by decide)]⟩
          rw [b_X3_listen_49]
          simp (disch := first | exact tm_inb_i (by omega) (by omega) | exact tm_cc rfl | exact tm_cat rfl | omega | exact nI_ne0 (by omega) (by omega) | exact nI_ne (by omega) (by omega) (by omega) | exact tm_cS (by omega) | assumption) only [e_iconst, e_is2i, e_is2r, e_is2u, e_gotow, e_il2, e_al0, g_69_1, g_1_0, g_35_0, g_2_0, g_36_0, e_ic_gt, g_1_2, g_35_2, e_il1, r_X1_carrierOf, e_is3i, e_is3r, e_is3u, e_il3, e_ic_eq, e_dupi, e_dupr, g_1_7, g_35_7, e_ishl, e_ior, p_1_7, p_35_7, r_X3_minuteOf, e_is4i, e_is4r, e_is4u, r_X5_hasMat, e_if_eq, e_il4, e_if_lt, r_X3_matHears, r_X1_isMissed, e_if_ne, g_1_6, g_35_6, e_imul, e_iadd, e_ii2i, e_ii2r, e_ii2u, e_goto, e_vret, as_34, as_68, kn_0, kn_1, kn_25, b_X3_listen_121, Option.bind_some, Option.toList_some, Option.toList_none, List.cons_append, List.nil_append, z_0, nI_add, pk_mul, pk_sub, pk_div, n_mod, nI_clamp, nI_leI, nI_ltI, nI_eq, le_T, le_F, lt_T, lt_F, eq_T, eq_F, n_i0, n_i1, eq_self, not_true_eq_false, not_false_eq_true, Bool.false_eq_true, ↓reduceIte, if_true, if_false, tm_up_n, tm_up_s, tm_up_i, ite_self, true_and, and_true, false_and, and_false, n_ofN, Nat.reduceAdd, Nat.reduceMul, Nat.reduceSub, Nat.zero_add, n_X3_minuteOf, e_al0, g_69_2, e_il1, e_iconst, e_imul, e_il2, e_iadd, e_iret, al_70, kn_25, Option.bind_some, Option.toList_some, Option.toList_none, List.cons_append, List.nil_append, z_0, nI_add, pk_mul, pk_sub, pk_div, n_mod, nI_clamp, nI_leI, nI_ltI, nI_eq, le_T, le_F, lt_T, lt_F, eq_T, eq_F, n_i0, n_i1, eq_self, not_true_eq_false, not_false_eq_true, Bool.false_eq_true, ↓reduceIte, if_true, if_false, tm_up_n, tm_up_s, tm_up_i, ite_self, true_and, and_true, false_and, and_false, n_ofN, Nat.reduceAdd, Nat.reduceMul, Nat.reduceSub, Nat.zero_add, e70, rM, q1, q2, q2', rH]
        · rw [if_neg q4] at rH
          by_cases q5 : exf (mis D (lC D G s m) m) G 0 = true
          · refine ⟨.int (A (lC D G s m) m), tm_up M 1 9 (nI (lcg X)), ?_, by rw [lX_t tI q3, tm_up_s], by rw [lV_m q5, tm_up_n (by decide)]; exact hH, fun c h _ => tm_up_n h, fun j h => tm_up_i h, fun i _ => by rw [tm_up_n (by decide)]⟩
            rw [b_X3_listen_49]
            simp (disch := first | exact tm_inb_i (by omega) (by omega) | exact tm_cc rfl | exact tm_cat rfl | omega | exact nI_ne0 (by omega) (by omega) | exact nI_ne (by omega) (by omega) (by omega) | exact tm_cS (by omega) | assumption) only [e_iconst, e_is2i, e_is2r, e_is2u, e_gotow, e_il2, e_al0, g_69_1, g_1_0, g_35_0, g_2_0, g_36_0, e_ic_gt, g_1_2, g_35_2, e_il1, r_X1_carrierOf, e_is3i, e_is3r, e_is3u, e_il3, e_ic_eq, e_dupi, e_dupr, g_1_7, g_35_7, e_ishl, e_ior, p_1_7, p_35_7, r_X3_minuteOf, e_is4i, e_is4r, e_is4u, r_X5_hasMat, e_if_eq, e_il4, e_if_lt, r_X3_matHears, r_X1_isMissed, e_if_ne, g_1_6, g_35_6, e_imul, e_iadd, e_ii2i, e_ii2r, e_ii2u, e_goto, e_vret, as_34, as_68, kn_0, kn_1, kn_25, b_X3_listen_121, Option.bind_some, Option.toList_some, Option.toList_none, List.cons_append, List.nil_append, z_0, nI_add, pk_mul, pk_sub, pk_div, n_mod, nI_clamp, nI_leI, nI_ltI, nI_eq, le_T, le_F, lt_T, lt_F, eq_T, eq_F, n_i0, n_i1, eq_self, not_true_eq_false, not_false_eq_true, Bool.false_eq_true, ↓reduceIte, if_true, if_false, tm_up_n, tm_up_s, tm_up_i, ite_self, true_and, and_true, false_and, and_false, n_ofN, Nat.reduceAdd, Nat.reduceMul, Nat.reduceSub, Nat.zero_add, n_X3_minuteOf, e_al0, g_69_2, e_il1, e_iconst, e_imul, e_il2, e_iadd, e_iret, al_70, kn_25, Option.bind_some, Option.toList_some, Option.toList_none, List.cons_append, List.nil_append, z_0, nI_add, pk_mul, pk_sub, pk_div, n_mod, nI_clamp, nI_leI, nI_ltI, nI_eq, le_T, le_F, lt_T, lt_F, eq_T, eq_F, n_i0, n_i1, eq_self, not_true_eq_false, not_false_eq_true, Bool.false_eq_true, ↓reduceIte, if_true, if_false, tm_up_n, tm_up_s, tm_up_i, ite_self, true_and, and_true, false_and, and_false, n_ofN, Nat.reduceAdd, Nat.reduceMul, Nat.reduceSub, Nat.zero_add, e70, rM, q1, q2, q2', rH, rI, q5]
          · refine ⟨.int (A (lC D G s m) m), tm_up (tm_up M 1 9 (nI (lcg X))) 34 (s * 25 + m) (A (lC D G s m) m), ?_, by rw [lX_t tI q3, tm_up_n (by decide), tm_up_s], by rw [lV_t tI (Or.inr q4) q5, tm_up_s], fun c h h2 => by rw [tm_up_n h2, tm_up_n h], fun j h => by rw [tm_up_n (by decide), tm_up_i h], fun i hi => by rw [tm_up_i hi, tm_up_n (by decide)]⟩
            rw [b_X3_listen_49]
            simp (disch := first | exact tm_inb_i (by omega) (by omega) | exact tm_cc rfl | exact tm_cat rfl | omega | exact nI_ne0 (by omega) (by omega) | exact nI_ne (by omega) (by omega) (by omega) | exact tm_cS (by omega) | assumption) only [e_iconst, e_is2i, e_is2r, e_is2u, e_gotow, e_il2, e_al0, g_69_1, g_1_0, g_35_0, g_2_0, g_36_0, e_ic_gt, g_1_2, g_35_2, e_il1, r_X1_carrierOf, e_is3i, e_is3r, e_is3u, e_il3, e_ic_eq, e_dupi, e_dupr, g_1_7, g_35_7, e_ishl, e_ior, p_1_7, p_35_7, r_X3_minuteOf, e_is4i, e_is4r, e_is4u, r_X5_hasMat, e_if_eq, e_il4, e_if_lt, r_X3_matHears, r_X1_isMissed, e_if_ne, g_1_6, g_35_6, e_imul, e_iadd, e_ii2i, e_ii2r, e_ii2u, e_goto, e_vret, as_34, as_68, kn_0, kn_1, kn_25, b_X3_listen_121, Option.bind_some, Option.toList_some, Option.toList_none, List.cons_append, List.nil_append, z_0, nI_add, pk_mul, pk_sub, pk_div, n_mod, nI_clamp, nI_leI, nI_ltI, nI_eq, le_T, le_F, lt_T, lt_F, eq_T, eq_F, n_i0, n_i1, eq_self, not_true_eq_false, not_false_eq_true, Bool.false_eq_true, ↓reduceIte, if_true, if_false, tm_up_n, tm_up_s, tm_up_i, ite_self, true_and, and_true, false_and, and_false, n_ofN, Nat.reduceAdd, Nat.reduceMul, Nat.reduceSub, Nat.zero_add, n_X3_minuteOf, e_al0, g_69_2, e_il1, e_iconst, e_imul, e_il2, e_iadd, e_iret, al_70, kn_25, Option.bind_some, Option.toList_some, Option.toList_none, List.cons_append, List.nil_append, z_0, nI_add, pk_mul, pk_sub, pk_div, n_mod, nI_clamp, nI_leI, nI_ltI, nI_eq, le_T, le_F, lt_T, lt_F, eq_T, eq_F, n_i0, n_i1, eq_self, not_true_eq_false, not_false_eq_true, Bool.false_eq_true, ↓reduceIte, if_true, if_false, tm_up_n, tm_up_s, tm_up_i, ite_self, true_and, and_true, false_and, and_false, n_ofN, Nat.reduceAdd, Nat.reduceMul, Nat.reduceSub, Nat.zero_add, e70, rM, q1, q2, q2', rH, rI, q5]
    · have q2' := Int32.not_le.mp q2
      refine ⟨.int (A (lC D G s m) m), M, ?_, by rw [lX_f (lI_f2 q2)]; exact h9, by rw [lV_f (lI_f2 q2)]; exact hH, fun _ _ _ => rfl, fun _ _ => rfl, fun _ _ => rfl⟩
      rw [b_X3_listen_49]
      simp (disch := first | exact tm_inb_i (by omega) (by omega) | exact tm_cc rfl | exact tm_cat rfl | omega | exact nI_ne0 (by omega) (by omega) | exact nI_ne (by omega) (by omega) (by omega) | exact tm_cS (by omega) | assumption) only [e_iconst, e_is2i, e_is2r, e_is2u, e_gotow, e_il2, e_al0, g_69_1, g_1_0, g_35_0, g_2_0, g_36_0, e_ic_gt, g_1_2, g_35_2, e_il1, r_X1_carrierOf, e_is3i, e_is3r, e_is3u, e_il3, e_ic_eq, e_dupi, e_dupr, g_1_7, g_35_7, e_ishl, e_ior, p_1_7, p_35_7, r_X3_minuteOf, e_is4i, e_is4r, e_is4u, r_X5_hasMat, e_if_eq, e_il4, e_if_lt, r_X3_matHears, r_X1_isMissed, e_if_ne, g_1_6, g_35_6, e_imul, e_iadd, e_ii2i, e_ii2r, e_ii2u, e_goto, e_vret, as_34, as_68, kn_0, kn_1, kn_25, b_X3_listen_121, Option.bind_some, Option.toList_some, Option.toList_none, List.cons_append, List.nil_append, z_0, nI_add, pk_mul, pk_sub, pk_div, n_mod, nI_clamp, nI_leI, nI_ltI, nI_eq, le_T, le_F, lt_T, lt_F, eq_T, eq_F, n_i0, n_i1, eq_self, not_true_eq_false, not_false_eq_true, Bool.false_eq_true, ↓reduceIte, if_true, if_false, tm_up_n, tm_up_s, tm_up_i, ite_self, true_and, and_true, false_and, and_false, n_ofN, Nat.reduceAdd, Nat.reduceMul, Nat.reduceSub, Nat.zero_add, n_X3_minuteOf, e_al0, g_69_2, e_il1, e_iconst, e_imul, e_il2, e_iadd, e_iret, al_70, kn_25, Option.bind_some, Option.toList_some, Option.toList_none, List.cons_append, List.nil_append, z_0, nI_add, pk_mul, pk_sub, pk_div, n_mod, nI_clamp, nI_leI, nI_ltI, nI_eq, le_T, le_F, lt_T, lt_F, eq_T, eq_F, n_i0, n_i1, eq_self, not_true_eq_false, not_false_eq_true, Bool.false_eq_true, ↓reduceIte, if_true, if_false, tm_up_n, tm_up_s, tm_up_i, ite_self, true_and, and_true, false_and, and_false, n_ofN, Nat.reduceAdd, Nat.reduceMul, Nat.reduceSub, Nat.zero_add, e70, rM, q1, q2, q2']
  · refine ⟨.int (A (lC D G s m) m), M, ?_, by rw [lX_f (lI_f1 q1)]; exact h9, by rw [lV_f (lI_f1 q1)]; exact hH, fun _ _ _ => rfl, fun _ _ => rfl, fun _ _ => rfl⟩
    rw [b_X3_listen_49]
    simp (disch := first | exact tm_inb_i (by omega) (by omega) | exact tm_cc rfl | exact tm_cat rfl | omega | exact nI_ne0 (by omega) (by omega) | exact nI_ne (by omega) (by omega) (by omega) | exact tm_cS (by omega) | assumption) only [e_iconst, e_is2i, e_is2r, e_is2u, e_gotow, e_il2, e_al0, g_69_1, g_1_0, g_35_0, g_2_0, g_36_0, e_ic_gt, g_1_2, g_35_2, e_il1, r_X1_carrierOf, e_is3i, e_is3r, e_is3u, e_il3, e_ic_eq, e_dupi, e_dupr, g_1_7, g_35_7, e_ishl, e_ior, p_1_7, p_35_7, r_X3_minuteOf, e_is4i, e_is4r, e_is4u, r_X5_hasMat, e_if_eq, e_il4, e_if_lt, r_X3_matHears, r_X1_isMissed, e_if_ne, g_1_6, g_35_6, e_imul, e_iadd, e_ii2i, e_ii2r, e_ii2u, e_goto, e_vret, as_34, as_68, kn_0, kn_1, kn_25, b_X3_listen_121, Option.bind_some, Option.toList_some, Option.toList_none, List.cons_append, List.nil_append, z_0, nI_add, pk_mul, pk_sub, pk_div, n_mod, nI_clamp, nI_leI, nI_ltI, nI_eq, le_T, le_F, lt_T, lt_F, eq_T, eq_F, n_i0, n_i1, eq_self, not_true_eq_false, not_false_eq_true, Bool.false_eq_true, ↓reduceIte, if_true, if_false, tm_up_n, tm_up_s, tm_up_i, ite_self, true_and, and_true, false_and, and_false, n_ofN, Nat.reduceAdd, Nat.reduceMul, Nat.reduceSub, Nat.zero_add, n_X3_minuteOf, e_al0, g_69_2, e_il1, e_iconst, e_imul, e_il2, e_iadd, e_iret, al_70, kn_25, Option.bind_some, Option.toList_some, Option.toList_none, List.cons_append, List.nil_append, z_0, nI_add, pk_mul, pk_sub, pk_div, n_mod, nI_clamp, nI_leI, nI_ltI, nI_eq, le_T, le_F, lt_T, lt_F, eq_T, eq_F, n_i0, n_i1, eq_self, not_true_eq_false, not_false_eq_true, Bool.false_eq_true, ↓reduceIte, if_true, if_false, tm_up_n, tm_up_s, tm_up_i, ite_self, true_and, and_true, false_and, and_false, n_ofN, Nat.reduceAdd, Nat.reduceMul, Nat.reduceSub, Nat.zero_add, e70, rM, q1]
theorem m_li (hK : eK D n W R G) (hs1 : s < R) : ∀ (c m X : Nat) (H : Nat → Int32) (B : Nat) (v3 v4 : Value) (M : tm_M), m + c = n + 1 → cL M D n R G b A → M 1 7 = nI B → B < 2 ^ 12 → M 1 9 = nI X → X < 65536 → (∀ m', m' < m → M 34 (s * 25 + m') = H m') → (∀ m', m ≤ m' → m' < 25 → M 34 (s * 25 + m') = -1) → ∃ M' B', tm_ev (d + 3) (tm_blk (Int.toNat 290002)) [.ref 69, .int (nI s), .int (nI m), v3, v4] [] (tm_GG l x) M = some (none, tm_GG l x, M') ∧ M' 1 9 = nI (lis D b A G s c m X H (B.testBit s)).1 ∧ M' 1 7 = nI B' ∧ B' < 2 ^ 12 ∧ (∀ i, B'.testBit i = if i = s then (lis D b A G s c m X H (B.testBit s)).2.2 else B.testBit i) ∧ (∀ m', m' < n + 1 → M' 34 (s * 25 + m') = (lis D b A G s c m X H (B.testBit s)).2.1 m') ∧ (∀ c, c ≠ 1 → c ≠ 34 → M' c = M c) ∧ (∀ j, j ≠ 7 → j ≠ 9 → M' 1 j = M 1 j) ∧ ∀ i, i < s * 25 ∨ s * 25 + n < i → M' 34 i = M 34 i := by
  obtain ⟨kG, hn, hW, hR, hG40, k0, k5⟩ := id hK
  intro c
  induction c with
  | zero =>
    intro m X H B v3 v4 M hm hL h7 hB h9 hX hH hN
    refine ⟨M, B, ?_, h9, h7, hB, fun i => ?_, fun m' hm' => hH m' (by omega), fun _ _ _ => rfl, fun _ _ _ => rfl, fun _ _ => rfl⟩
    · have h0 := hL.2.1
      rw [b_X3_listen_2]
      simp (disch := first | exact tm_inb_i (by omega) (by omega) | exact tm_cc rfl | exact tm_cat rfl | omega | exact nI_ne0 (by omega) (by omega) | exact nI_ne (by omega) (by omega) (by omega) | exact tm_cS (by omega) | assumption) only [e_iconst, e_is2i, e_is2r, e_is2u, e_gotow, e_il2, e_al0, g_69_1, g_1_0, g_35_0, g_2_0, g_36_0, e_ic_gt, g_1_2, g_35_2, e_il1, r_X1_carrierOf, e_is3i, e_is3r, e_is3u, e_il3, e_ic_eq, e_dupi, e_dupr, g_1_7, g_35_7, e_ishl, e_ior, p_1_7, p_35_7, r_X3_minuteOf, e_is4i, e_is4r, e_is4u, r_X5_hasMat, e_if_eq, e_il4, e_if_lt, r_X3_matHears, r_X1_isMissed, e_if_ne, g_1_6, g_35_6, e_imul, e_iadd, e_ii2i, e_ii2r, e_ii2u, e_goto, e_vret, as_34, as_68, kn_0, kn_1, kn_25, b_X3_listen_49, b_X3_listen_115, b_X3_listen_121, Option.bind_some, Option.toList_some, Option.toList_none, List.cons_append, List.nil_append, z_0, nI_add, pk_mul, pk_sub, pk_div, n_mod, nI_clamp, nI_leI, nI_ltI, nI_eq, le_T, le_F, lt_T, lt_F, eq_T, eq_F, n_i0, n_i1, eq_self, not_true_eq_false, not_false_eq_true, Bool.false_eq_true, ↓reduceIte, if_true, if_false, tm_up_n, tm_up_s, tm_up_i, ite_self, true_and, and_true, false_and, and_false, n_ofN, Nat.reduceAdd, Nat.reduceMul, Nat.reduceSub, Nat.zero_add, h0]
    · split
      · rename_i z; rw [z]; rfl
      · rfl
  | succ c ih =>
    intro m X H B v3 v4 M hm hL h7 hB h9 hX hH hN
    obtain ⟨B1, M1, e1, h71, hB1, hb, f1, f2⟩ := m_l1 (d := d) (l := l) (x := x) (v3 := v3) (v4 := v4) hL hK hs1 (show m ≤ n by omega) h7 hB
    have hL1 : cL M1 D n R G b A := cL_cg (fun c h _ => f1 c h) hL
    obtain ⟨v4', M2, e2, h92, h34, g1, g2, g3⟩ := m_l2 (d := d) (l := l) (x := x) (v4 := v4) hL1 hK hs1 (show m ≤ n by omega) ((f2 9 (by decide)).trans h9) hX (by rw [f1 34 (by decide)]; exact hN m (by omega) (by omega))
    have hO : B1.testBit s = (B.testBit s || decide (lC D G s m ≠ s)) := by rw [hb s, if_pos rfl]
    obtain ⟨M', B', i1, i2, i3, i4, i5, i6, i7, i8, i9⟩ := ih (m + 1) (lX D b A G s m X) (upd H m (lV D b A G s m X)) B1 (.int (nI (lC D G s m))) v4' M2 (by omega) (cL_cg g1 hL1) (by rw [g2 7 (by decide)]; exact h71) hB1 h92 (lX_lt hX) (fun m' hm' => by
        by_cases q : m' = m
        · subst q; rw [h34, upd_s]
        · rw [g3 _ (by omega), f1 34 (by decide), upd_n q]; exact hH m' (by omega)) (fun m' a1 a2 => by rw [g3 _ (by omega), f1 34 (by decide)]; exact hN m' (by omega) a2)
    rw [hO] at i2 i5 i6
    refine ⟨M', B', ?_, i2, i3, i4, fun i => ?_, i6, fun c h1 h2 => ?_, fun j h1 h2 => ?_, fun i hi => ?_⟩
    · rw [e1, e2, b_X3_listen_115]
      simp (disch := first | exact tm_inb_i (by omega) (by omega) | exact tm_cc rfl | exact tm_cat rfl | omega | exact nI_ne0 (by omega) (by omega) | exact nI_ne (by omega) (by omega) (by omega) | exact tm_cS (by omega) | assumption) only [e_iconst, e_is2i, e_is2r, e_is2u, e_gotow, e_il2, e_al0, g_69_1, g_1_0, g_35_0, g_2_0, g_36_0, e_ic_gt, g_1_2, g_35_2, e_il1, r_X1_carrierOf, e_is3i, e_is3r, e_is3u, e_il3, e_ic_eq, e_dupi, e_dupr, g_1_7, g_35_7, e_ishl, e_ior, p_1_7, p_35_7, r_X3_minuteOf, e_is4i, e_is4r, e_is4u, r_X5_hasMat, e_if_eq, e_il4, e_if_lt, r_X3_matHears, r_X1_isMissed, e_if_ne, g_1_6, g_35_6, e_imul, e_iadd, e_ii2i, e_ii2r, e_ii2u, e_goto, e_vret, as_34, as_68, kn_0, kn_1, kn_25, b_X3_listen_121, Option.bind_some, Option.toList_some, Option.toList_none, List.cons_append, List.nil_append, z_0, nI_add, pk_mul, pk_sub, pk_div, n_mod, nI_clamp, nI_leI, nI_ltI, nI_eq, le_T, le_F, lt_T, lt_F, eq_T, eq_F, n_i0, n_i1, eq_self, not_true_eq_false, not_false_eq_true, Bool.false_eq_true, ↓reduceIte, if_true, if_false, tm_up_n, tm_up_s, tm_up_i, ite_self, true_and, and_true, false_and, and_false, n_ofN, Nat.reduceAdd, Nat.reduceMul, Nat.reduceSub, Nat.zero_add, i1]
    · rw [i5 i, hb i]
      by_cases z : i = s
      · rw [if_pos z, if_pos z]; rfl
      · rw [if_neg z, if_neg z, if_neg z]
    · rw [i7 c h1 h2, g1 c h1 h2, f1 c h1]
    · rw [i8 j h1 h2, g2 j h2, f2 j h1]
    · rw [i9 i hi, g3 i (by omega), f1 34 (by decide)]
end TLS
