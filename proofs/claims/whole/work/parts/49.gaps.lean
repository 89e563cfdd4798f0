/-! part 49: gaps -/
/-- the gap of number i: marks left, mark, heard so far, the latest two -/
def gpr (h : Nat → Int32) (i : Nat) : Nat → Nat → Nat → Nat → Nat → Option (Nat × Nat)
  | 0, _, k, a, b => if k = i + 2 then some (a, b) else none
  | c + 1, m, k, a, b => if k = i + 2 then some (a, b) else if hp h m = true then gpr h i c (m + 1) (k + 1) b m else gpr h i c (m + 1) k a b
theorem gpr_done {h : Nat → Int32} {i c m k a b : Nat} (e : k = i + 2) : gpr h i c m k a b = some (a, b) := by
  cases c <;> exact if_pos e
theorem gpr_skip {h : Nat → Int32} {i : Nat} : ∀ (c m k a b : Nat), k < i + 2 → m + c ≤ 25 → gpr h i c m k a b = if nh h c m = 25 then none else gpr h i (m + c - (nh h c m + 1)) (nh h c m + 1) (k + 1) b (nh h c m) := by
  intro c
  induction c with
  | zero =>
    intro m k a b h1 h2
    unfold nh gpr
    rw [if_neg (by omega), if_pos rfl]
  | succ c ih =>
    intro m k a b h1 h2
    rw [gpr, if_neg (by omega), nh]
    by_cases q : hp h m = true
    · rw [if_pos q, if_pos q, if_neg (by omega), show m + (c + 1) - (m + 1) = c by omega]
    · rw [if_neg q, if_neg q, ih (m + 1) k a b h1 (by omega), show m + 1 + c = m + (c + 1) by omega]
theorem gpr_spec {h : Nat → Int32} {i : Nat} : ∀ (c m k a b : Nat), k ≤ i + 2 → (1 ≤ k → b < m ∧ hp h b = true) → (2 ≤ k → a < b ∧ hp h a = true) → ∀ a' b', gpr h i c m k a b = some (a', b') → a' < b' ∧ b' < m + c ∧ hp h a' = true ∧ hp h b' = true := by
  intro c
  induction c with
  | zero =>
    intro m k a b h1 h2 h3 a' b' e
    unfold gpr at e
    by_cases q : k = i + 2
    · rw [if_pos q] at e
      cases e
      have := h2 (by omega)
      have := h3 (by omega)
      exact ⟨this.1, by omega, this.2, (h2 (by omega)).2⟩
    · rw [if_neg q] at e; cases e
  | succ c ih =>
    intro m k a b h1 h2 h3 a' b' e
    rw [gpr] at e
    by_cases q : k = i + 2
    · rw [if_pos q] at e
      cases e
      have := h2 (by omega)
      have := h3 (by omega)
      exact ⟨this.1, by omega, this.2, (h2 (by omega)).2⟩
    · rw [if_neg q] at e
      by_cases q2 : hp h m = true
      · rw [if_pos q2] at e
        have := ih (m + 1) (k + 1) b m (by omega) (fun _ => ⟨by omega, q2⟩) (fun z => h2 (by omega)) a' b' e
        exact ⟨this.1, by omega, this.2.2⟩
      · rw [if_neg q2] at e
        have := ih (m + 1) k a b h1 (fun z => ⟨by have := (h2 z).1; omega, (h2 z).2⟩) h3 a' b' e
        exact ⟨this.1, by omega, this.2.2⟩
def gp (D : Nat → Int32) (n s i : Nat) : Option (Nat × Nat) := gpr (hs D s) i (n + 1) 0 0 25 25
theorem gp_spec {D : Nat → Int32} {n s i a b : Nat} (h : gp D n s i = some (a, b)) : a < b ∧ b ≤ n ∧ hp (hs D s) a = true ∧ hp (hs D s) b = true := by
  have := gpr_spec (n + 1) 0 0 25 25 (by omega) (fun z => by omega) (fun z => by omega) a b h
  exact ⟨this.1, by omega, this.2.2⟩
def ogp (G : Option (Nat × Nat)) : Int32 := match G with
  | some _ => nI 1
  | none => nI 0
section TMK
variable {d l : Nat} {x : Nat → Int32} {M : tm_M} {D : Nat → Int32} {n s : Nat}
theorem tm_hH_up {c j : Nat} {v : Int32} (hc : c ≠ 34) (hH : tm_hH M D) : tm_hH (tm_up M c j v) D := fun s m h1 h2 => by rw [tm_up_n (Ne.symm hc)]; exact hH s m h1 h2
/-- what findGap leaves -/
def fgp (M M1 : tm_M) (D : Nat → Int32) (s : Nat) (G : Option (Nat × Nat)) : Prop := (∀ c, c ≠ 75 → M1 c = M c) ∧ ∀ a b, G = some (a, b) → M1 75 0 = nI a ∧ M1 75 1 = nI b ∧ M1 75 2 = hs D s b - hs D s a
theorem m_fg (hn : n ≤ 24) (hs1 : s < 12) {i : Nat} (hi : i < 2 ^ 31) : ∀ (c kk a b : Nat) (M : tm_M), kk + c = i → a ≤ 25 → b ≤ 25 → (b < 25 → a < 25) → tm_hH M D → M 2 0 = nI n → M 75 0 = nI a → M 75 1 = nI b → ∃ M1, tm_ev (d + 2) (tm_blk (Int.toNat 110027)) [.ref 75, .int (nI s), .int (nI i), .int (nI kk)] [] (tm_GG l x) M = some (some (.int (ogp (if b = 25 then none else gpr (hs D s) i (n + 1 - (b + 1)) (b + 1) (kk + 2) a b))), tm_GG l x, M1) ∧ fgp M M1 D s (if b = 25 then none else gpr (hs D s) i (n + 1 - (b + 1)) (b + 1) (kk + 2) a b) := by
  intro c
  induction c with
  | zero =>
    intro kk a b M h ha hb hab hH c0 e0 e1
    obtain rfl : kk = i := by omega
    by_cases hb25 : b = 25
    · rw [if_pos hb25]
      refine ⟨M, ?_, fun c _ => rfl, fun a b e => by cases e⟩
      rw [b_X2_findGap_27]
      simp (disch := first | exact tm_inb_i (by omega) (by omega) | exact tm_cc rfl | exact tm_cat rfl | omega | exact nI_ne0 (by omega) (by omega) | exact nI_ne (by omega) (by omega) (by omega) | assumption) only [e_al0, e_il1, e_iconst, r_X2_nextHeard, p_75_0, g_75_0, e_iadd, p_75_1, e_is3i, e_is3r, e_is3u, e_gotow, e_il3, e_il2, e_ic_ge, g_75_1, e_ii3i, e_ii3r, e_ii3u, e_goto, e_if_lt, e_ic_lt, en_zret0, en_zret1, en_zretb, g_75_3, r_X10_minuteAt, e_isub, p_75_2, kn_0, kn_1, kn_25, b_X2_findGap_70, b_X2_findGap_83, b_X2_findGap_85, Option.bind_some, Option.toList_some, Option.toList_none, List.cons_append, List.nil_append, z_0, nI_add, pk_mul, pk_sub, pk_div, n_mod, nI_clamp, nI_leI, nI_ltI, nI_eq, le_T, le_F, lt_T, lt_F, eq_T, eq_F, n_i0, n_i1, eq_self, not_true_eq_false, not_false_eq_true, Bool.false_eq_true, ↓reduceIte, if_true, if_false, tm_up_n, tm_up_s, tm_up_i, ite_self, true_and, and_true, false_and, and_false, n_ofN, Nat.reduceAdd, Nat.reduceMul, Nat.reduceSub, Nat.zero_add, e1, ogp]
    · rw [if_neg hb25, gpr_done rfl]
      have hb1 : b < 25 := by omega
      have ha1 := hab hb1
      refine ⟨tm_up M 75 2 (hs D s b - hs D s a), ?_, fun c hc => tm_up_n hc, fun a' b' e => ?_⟩
      · rw [b_X2_findGap_27]
        simp (disch := first | exact tm_inb_i (by omega) (by omega) | exact tm_cc rfl | exact tm_cat rfl | omega | exact nI_ne0 (by omega) (by omega) | exact nI_ne (by omega) (by omega) (by omega) | assumption) only [e_al0, e_il1, e_iconst, r_X2_nextHeard, p_75_0, g_75_0, e_iadd, p_75_1, e_is3i, e_is3r, e_is3u, e_gotow, e_il3, e_il2, e_ic_ge, g_75_1, e_ii3i, e_ii3r, e_ii3u, e_goto, e_if_lt, e_ic_lt, en_zret0, en_zret1, en_zretb, g_75_3, r_X10_minuteAt, e_isub, p_75_2, kn_0, kn_1, kn_25, b_X2_findGap_70, b_X2_findGap_83, b_X2_findGap_85, Option.bind_some, Option.toList_some, Option.toList_none, List.cons_append, List.nil_append, z_0, nI_add, pk_mul, pk_sub, pk_div, n_mod, nI_clamp, nI_leI, nI_ltI, nI_eq, le_T, le_F, lt_T, lt_F, eq_T, eq_F, n_i0, n_i1, eq_self, not_true_eq_false, not_false_eq_true, Bool.false_eq_true, ↓reduceIte, if_true, if_false, tm_up_n, tm_up_s, tm_up_i, ite_self, true_and, and_true, false_and, and_false, n_ofN, Nat.reduceAdd, Nat.reduceMul, Nat.reduceSub, Nat.zero_add, e0, e1, m_mA hH, ogp]
      · cases e
        exact ⟨by rw [tm_up_i (by decide)]; exact e0, by rw [tm_up_i (by decide)]; exact e1, tm_up_s⟩
  | succ c ih =>
    intro kk a b M h ha hb hab hH c0 e0 e1
    by_cases hb25 : b = 25
    · rw [if_pos hb25]
      refine ⟨M, ?_, fun c _ => rfl, fun a b e => by cases e⟩
      rw [b_X2_findGap_27]
      simp (disch := first | exact tm_inb_i (by omega) (by omega) | exact tm_cc rfl | exact tm_cat rfl | omega | exact nI_ne0 (by omega) (by omega) | exact nI_ne (by omega) (by omega) (by omega) | assumption) only [e_al0, e_il1, e_iconst, r_X2_nextHeard, p_75_0, g_75_0, e_iadd, p_75_1, e_is3i, e_is3r, e_is3u, e_gotow, e_il3, e_il2, e_ic_ge, g_75_1, e_ii3i, e_ii3r, e_ii3u, e_goto, e_if_lt, e_ic_lt, en_zret0, en_zret1, en_zretb, g_75_3, r_X10_minuteAt, e_isub, p_75_2, kn_0, kn_1, kn_25, b_X2_findGap_70, b_X2_findGap_83, b_X2_findGap_85, Option.bind_some, Option.toList_some, Option.toList_none, List.cons_append, List.nil_append, z_0, nI_add, pk_mul, pk_sub, pk_div, n_mod, nI_clamp, nI_leI, nI_ltI, nI_eq, le_T, le_F, lt_T, lt_F, eq_T, eq_F, n_i0, n_i1, eq_self, not_true_eq_false, not_false_eq_true, Bool.false_eq_true, ↓reduceIte, if_true, if_false, tm_up_n, tm_up_s, tm_up_i, ite_self, true_and, and_true, false_and, and_false, n_ofN, Nat.reduceAdd, Nat.reduceMul, Nat.reduceSub, Nat.zero_add, e1, ogp]
    · have hb1 : b < 25 := by omega
      have ha1 := hab hb1
      have hnl : nh (hs D s) (n + 1 - (b + 1)) (b + 1) ≤ 25 := by
        by_cases z : b + 1 ≤ n + 1
        · exact nh_le _ _ _ (by omega)
        · rw [show n + 1 - (b + 1) = 0 by omega]; exact Nat.le_refl _
      obtain ⟨M1, r1, r2, r3⟩ := ih (kk + 1) b (nh (hs D s) (n + 1 - (b + 1)) (b + 1)) (tm_up (tm_up M 75 0 (nI b)) 75 1 (nI (nh (hs D s) (n + 1 - (b + 1)) (b + 1)))) (by omega) (by omega) hnl (fun _ => hb1) (tm_hH_up (by decide) (tm_hH_up (by decide) hH)) (by rw [tm_up_n (by decide), tm_up_n (by decide)]; exact c0) (by rw [tm_up_i (by decide), tm_up_s]) tm_up_s
      have eg : (if b = 25 then none else gpr (hs D s) i (n + 1 - (b + 1)) (b + 1) (kk + 2) a b) = (if nh (hs D s) (n + 1 - (b + 1)) (b + 1) = 25 then none else gpr (hs D s) i (n + 1 - (nh (hs D s) (n + 1 - (b + 1)) (b + 1) + 1)) (nh (hs D s) (n + 1 - (b + 1)) (b + 1) + 1) (kk + 1 + 2) b (nh (hs D s) (n + 1 - (b + 1)) (b + 1))) := by
        rw [if_neg hb25]
        by_cases z : b + 1 ≤ n + 1
        · rw [gpr_skip (n + 1 - (b + 1)) (b + 1) (kk + 2) a b (by omega) (by omega), show b + 1 + (n + 1 - (b + 1)) = n + 1 by omega, show kk + 2 + 1 = kk + 1 + 2 by omega]
        · rw [show n + 1 - (b + 1) = 0 by omega]
          unfold nh gpr
          rw [if_neg (by omega), if_pos rfl]
      rw [eg]
      refine ⟨M1, ?_, fun c hc => by rw [r2 c hc, tm_up_n hc, tm_up_n hc], r3⟩
      have nH := m_nextHeard (d := d) (l := l) (x := x) (M := tm_up M 75 0 (nI b)) (tm_hH_up (by decide) hH) (by rw [tm_up_n (by decide)]; exact c0) hn hs1 (m := b + 1) (by omega)
      rw [b_X2_findGap_27]
      simp (disch := first | exact tm_inb_i (by omega) (by omega) | exact tm_cc rfl | exact tm_cat rfl | omega | exact nI_ne0 (by omega) (by omega) | exact nI_ne (by omega) (by omega) (by omega) | assumption) only [e_al0, e_il1, e_iconst, r_X2_nextHeard, p_75_0, g_75_0, e_iadd, p_75_1, e_is3i, e_is3r, e_is3u, e_gotow, e_il3, e_il2, e_ic_ge, g_75_1, e_ii3i, e_ii3r, e_ii3u, e_goto, e_if_lt, e_ic_lt, en_zret0, en_zret1, en_zretb, g_75_3, r_X10_minuteAt, e_isub, p_75_2, kn_0, kn_1, kn_25, b_X2_findGap_70, b_X2_findGap_83, b_X2_findGap_85, Option.bind_some, Option.toList_some, Option.toList_none, List.cons_append, List.nil_append, z_0, nI_add, pk_mul, pk_sub, pk_div, n_mod, nI_clamp, nI_leI, nI_ltI, nI_eq, le_T, le_F, lt_T, lt_F, eq_T, eq_F, n_i0, n_i1, eq_self, not_true_eq_false, not_false_eq_true, Bool.false_eq_true, ↓reduceIte, if_true, if_false, tm_up_n, tm_up_s, tm_up_i, ite_self, true_and, and_true, false_and, and_false, n_ofN, Nat.reduceAdd, Nat.reduceMul, Nat.reduceSub, Nat.zero_add, e0, e1, nH, r1]
theorem m_findGap (hH : tm_hH M D) (c0 : M 2 0 = nI n) (hn : n ≤ 24) (hs1 : s < 12) {i : Nat} (hi : i < 2 ^ 31) : ∃ M1, tm_call (d + 2) 11 [.ref 75, .int (nI s), .int (nI i)] (tm_GG l x) M = some (some (.int (ogp (gp D n s i))), tm_GG l x, M1) ∧ fgp M M1 D s (gp D n s i) := by
  have hnl := nh_le (hs D s) (n + 1) 0 (by omega)
  have hnl2 : nh (hs D s) (n + 1 - (nh (hs D s) (n + 1) 0 + 1)) (nh (hs D s) (n + 1) 0 + 1) ≤ 25 := by
    by_cases z : nh (hs D s) (n + 1) 0 + 1 ≤ n + 1
    · exact nh_le _ _ _ (by omega)
    · rw [show n + 1 - (nh (hs D s) (n + 1) 0 + 1) = 0 by omega]; exact Nat.le_refl _
  have hab : nh (hs D s) (n + 1 - (nh (hs D s) (n + 1) 0 + 1)) (nh (hs D s) (n + 1) 0 + 1) < 25 → nh (hs D s) (n + 1) 0 < 25 := by
    intro z
    refine Classical.byContradiction fun y => ?_
    rw [show n + 1 - (nh (hs D s) (n + 1) 0 + 1) = 0 by omega] at z
    unfold nh at z
    omega
  obtain ⟨M1, r1, r2, r3⟩ := m_fg (d := d) (l := l) (x := x) (D := D) hn hs1 hi i 0 (nh (hs D s) (n + 1) 0) (nh (hs D s) (n + 1 - (nh (hs D s) (n + 1) 0 + 1)) (nh (hs D s) (n + 1) 0 + 1)) (tm_up (tm_up M 75 0 (nI (nh (hs D s) (n + 1) 0))) 75 1 (nI (nh (hs D s) (n + 1 - (nh (hs D s) (n + 1) 0 + 1)) (nh (hs D s) (n + 1) 0 + 1)))) (by omega) hnl hnl2 hab (tm_hH_up (by decide) (tm_hH_up (by decide) hH)) (by rw [tm_up_n (by decide), tm_up_n (by decide)]; exact c0) (by rw [tm_up_i (by decide), tm_up_s]) tm_up_s
  have eg : gp D n s i = (if nh (hs D s) (n + 1 - (nh (hs D s) (n + 1) 0 + 1)) (nh (hs D s) (n + 1) 0 + 1) = 25 then none else gpr (hs D s) i (n + 1 - (nh (hs D s) (n + 1 - (nh (hs D s) (n + 1) 0 + 1)) (nh (hs D s) (n + 1) 0 + 1) + 1)) (nh (hs D s) (n + 1 - (nh (hs D s) (n + 1) 0 + 1)) (nh (hs D s) (n + 1) 0 + 1) + 1) (0 + 2) (nh (hs D s) (n + 1) 0) (nh (hs D s) (n + 1 - (nh (hs D s) (n + 1) 0 + 1)) (nh (hs D s) (n + 1) 0 + 1))) := by
    unfold gp
    rw [gpr_skip (n + 1) 0 0 25 25 (by omega) (by omega), Nat.zero_add (n + 1)]
    by_cases z : nh (hs D s) (n + 1) 0 = 25
    · rw [if_pos z, z, show n + 1 - (25 + 1) = 0 by omega]
      unfold nh
      rw [if_pos rfl]
    · rw [if_neg z]
      have z2 : nh (hs D s) (n + 1) 0 < n + 1 := by
        rcases nh_spec (hs D s) (n + 1) 0 (by omega) with ⟨a, _⟩ | ⟨_, a, _⟩ <;> omega
      rw [gpr_skip (n + 1 - (nh (hs D s) (n + 1) 0 + 1)) (nh (hs D s) (n + 1) 0 + 1) (0 + 1) 25 (nh (hs D s) (n + 1) 0) (by omega) (by omega), show nh (hs D s) (n + 1) 0 + 1 + (n + 1 - (nh (hs D s) (n + 1) 0 + 1)) = n + 1 by omega]
  rw [eg]
  refine ⟨M1, ?_, fun c hc => by rw [r2 c hc, tm_up_n hc, tm_up_n hc], r3⟩
  have nH1 := m_nextHeard (d := d) (l := l) (x := x) hH c0 hn hs1 (m := 0) (by omega)
  have nH2 := m_nextHeard (d := d) (l := l) (x := x) (M := tm_up M 75 0 (nI (nh (hs D s) (n + 1) 0))) (tm_hH_up (by decide) hH) (by rw [tm_up_n (by decide)]; exact c0) hn hs1 (m := nh (hs D s) (n + 1) 0 + 1) (by omega)
  rw [Nat.sub_zero] at nH1
  simp (disch := first | exact tm_inb_i (by omega) (by omega) | exact tm_cc rfl | exact tm_cat rfl | omega | exact nI_ne0 (by omega) (by omega) | exact nI_ne (by omega) (by omega) (by omega) | assumption) only [n_X2_findGap, e_al0, e_il1, e_iconst, r_X2_nextHeard, p_75_0, g_75_0, e_iadd, p_75_1, e_is3i, e_is3r, e_is3u, e_gotow, e_il3, e_il2, e_ic_ge, g_75_1, e_ii3i, e_ii3r, e_ii3u, e_goto, e_if_lt, e_ic_lt, en_zret0, en_zret1, en_zretb, g_75_3, r_X10_minuteAt, e_isub, p_75_2, kn_0, kn_1, kn_25, b_X2_findGap_70, b_X2_findGap_83, b_X2_findGap_85, Option.bind_some, Option.toList_some, Option.toList_none, List.cons_append, List.nil_append, z_0, nI_add, pk_mul, pk_sub, pk_div, n_mod, nI_clamp, nI_leI, nI_ltI, nI_eq, le_T, le_F, lt_T, lt_F, eq_T, eq_F, n_i0, n_i1, eq_self, not_true_eq_false, not_false_eq_true, Bool.false_eq_true, ↓reduceIte, if_true, if_false, tm_up_n, tm_up_s, tm_up_i, ite_self, true_and, and_true, false_and, and_false, n_ofN, Nat.reduceAdd, Nat.reduceMul, Nat.reduceSub, Nat.zero_add, nH1, nH2, r1]
theorem m_findGap_neg (hH : tm_hH M D) (c0 : M 2 0 = nI n) (hn : n ≤ 24) (hs1 : s < 12) {v : Int32} (hv : v < nI 0) : ∃ M1, tm_call (d + 2) 11 [.ref 75, .int (nI s), .int v] (tm_GG l x) M = some (some (.int (nI 0)), tm_GG l x, M1) ∧ ∀ c, c ≠ 75 → M1 c = M c := by
  have hnl := nh_le (hs D s) (n + 1) 0 (by omega)
  refine ⟨tm_up (tm_up M 75 0 (nI (nh (hs D s) (n + 1) 0))) 75 1 (nI (nh (hs D s) (n + 1 - (nh (hs D s) (n + 1) 0 + 1)) (nh (hs D s) (n + 1) 0 + 1))), ?_, fun c hc => by rw [tm_up_n hc, tm_up_n hc]⟩
  have nH1 := m_nextHeard (d := d) (l := l) (x := x) hH c0 hn hs1 (m := 0) (by omega)
  have nH2 := m_nextHeard (d := d) (l := l) (x := x) (M := tm_up M 75 0 (nI (nh (hs D s) (n + 1) 0))) (tm_hH_up (by decide) hH) (by rw [tm_up_n (by decide)]; exact c0) hn hs1 (m := nh (hs D s) (n + 1) 0 + 1) (by omega)
  rw [Nat.sub_zero] at nH1
  simp (disch := first | exact tm_inb_i (by omega) (by omega) | exact tm_cc rfl | exact tm_cat rfl | omega | exact nI_ne0 (by omega) (by omega) | exact nI_ne (by omega) (by omega) (by omega) | assumption) only [n_X2_findGap, e_al0, e_il1, e_iconst, r_X2_nextHeard, p_75_0, g_75_0, e_iadd, p_75_1, e_is3i, e_is3r, e_is3u, e_gotow, e_il3, e_il2, e_ic_ge, g_75_1, e_ii3i, e_ii3r, e_ii3u, e_goto, e_if_lt, e_ic_lt, en_zret0, en_zret1, en_zretb, g_75_3, r_X10_minuteAt, e_isub, p_75_2, kn_0, kn_1, kn_25, b_X2_findGap_27, b_X2_findGap_70, b_X2_findGap_83, b_X2_findGap_85, Option.bind_some, Option.toList_some, Option.toList_none, List.cons_append, List.nil_append, z_0, nI_add, pk_mul, pk_sub, pk_div, n_mod, nI_clamp, nI_leI, nI_ltI, nI_eq, le_T, le_F, lt_T, lt_F, eq_T, eq_F, n_i0, n_i1, eq_self, not_true_eq_false, not_false_eq_true, Bool.false_eq_true, ↓reduceIte, if_true, if_false, tm_up_n, tm_up_s, tm_up_i, ite_self, true_and, and_true, false_and, and_false, n_ofN, Nat.reduceAdd, Nat.reduceMul, Nat.reduceSub, Nat.zero_add, nH1, nH2, hv, Int32.le_of_lt hv]
/-- the reference's -/
def kI (k : Nat) : Int32 := if k ≤ 1 then -1 else nI (k - 2)
def mI (k b : Nat) : Int32 := if k = 0 then -1 else nI b
def fgq (M M1 : tm_M) (G : Option (Nat × Nat)) : Prop := (∀ c, c ≠ 95 → M1 c = M c) ∧ (∀ j, j ≠ 19 → j ≠ 20 → M1 95 j = M 95 j) ∧ ∀ a b, G = some (a, b) → M1 95 19 = nI a ∧ M1 95 20 = nI b
theorem kI_ge {k i : Nat} (h : k ≤ i + 2) (hi : i < 2 ^ 31) : (nI i ≤ kI k) = (k = i + 2) := by
  unfold kI
  by_cases q : k ≤ 1
  · rw [if_pos q]
    refine propext ⟨fun z => ?_, fun z => by omega⟩
    have : (nI 0 ≤ (-1 : Int32)) := Int32.le_trans ((nI_leI (by decide) hi).mpr (by omega)) z
    rw [m1_le] at this
    exact this.elim
  · rw [if_neg q, nI_leI hi (by omega)]
    exact propext ⟨fun z => by omega, fun z => by omega⟩
theorem kI_eq {k i : Nat} (h : k ≤ i + 2) (hi : i < 2 ^ 31) : (kI k = nI i) = (k = i + 2) := by
  unfold kI
  by_cases q : k ≤ 1
  · rw [if_pos q, m1_ne hi]
    exact propext ⟨fun z => z.elim, fun z => by omega⟩
  · rw [if_neg q, nI_eq (by omega) hi]
    exact propext ⟨fun z => by omega, fun z => by omega⟩
theorem q_fg (k0 : D 0 = nI n) (hn : n ≤ 24) (hs1 : s < 12) {i : Nat} (hi : i < 2 ^ 31) : ∀ (c m k a b : Nat) (M : tm_M), m + c = n + 1 → k ≤ i + 2 → k ≤ m → M 96 = D → M 95 20 = mI k b → (2 ≤ k → M 95 19 = nI a) → b < 2 ^ 31 → ∃ M1, tm_ev (d + 1) (tm_blk (Int.toNat 2130010)) [.ref 95, .int (nI s), .int (nI i), .int (kI k), .int (nI m)] [] (tm_GG l x) M = some (some (.int (ogp (gpr (hs D s) i c m k a b))), tm_GG l x, M1) ∧ fgq M M1 (gpr (hs D s) i c m k a b) := by
  intro c
  induction c with
  | zero =>
    intro m k a b M h hk hkm hM e20 e19 hb
    have k0' : M 96 0 = nI n := by rw [hM]; exact k0
    refine ⟨M, ?_, fun c _ => rfl, fun j _ _ => rfl, fun a' b' e => ?_⟩
    · rw [b_X12_findGap_10]
      unfold gpr
      by_cases q : k = i + 2
      · simp (disch := first | exact tm_inb_i (by omega) (by omega) | exact tm_cc rfl | exact tm_cat rfl | omega | exact nI_ne0 (by omega) (by omega) | exact nI_ne (by omega) (by omega) (by omega) | assumption) only [e_iconst, e_is3i, e_is3r, e_is3u, e_al0, p_95_20, e_is4i, e_is4r, e_is4u, e_gotow, e_il4, g_95_0, e_ic_gt, e_il3, e_il2, e_ic_ge, e_il1, r_X12_heardAt, e_if_lt, g_95_20, p_95_19, g_95_19, e_goto, e_iadd, e_ii4i, e_ii4r, e_ii4u, e_ic_ne, en_zret0, en_zret1, en_zretb, al_96, k_m1, kn_0, kn_1, b_X12_findGap_62, b_X12_findGap_63, b_X12_findGap_65, b_X12_findGap_71, b_X12_findGap_80, b_X12_findGap_81, Option.bind_some, Option.toList_some, Option.toList_none, List.cons_append, List.nil_append, z_0, nI_add, pk_mul, pk_sub, pk_div, n_mod, nI_clamp, nI_leI, nI_ltI, nI_eq, le_T, le_F, lt_T, lt_F, eq_T, eq_F, n_i0, n_i1, eq_self, not_true_eq_false, not_false_eq_true, Bool.false_eq_true, ↓reduceIte, if_true, if_false, tm_up_n, tm_up_s, tm_up_i, ite_self, true_and, and_true, false_and, and_false, n_ofN, Nat.reduceAdd, Nat.reduceMul, Nat.reduceSub, Nat.zero_add, k0', kI_eq hk hi, eq_true q, ogp]
      · simp (disch := first | exact tm_inb_i (by omega) (by omega) | exact tm_cc rfl | exact tm_cat rfl | omega | exact nI_ne0 (by omega) (by omega) | exact nI_ne (by omega) (by omega) (by omega) | assumption) only [e_iconst, e_is3i, e_is3r, e_is3u, e_al0, p_95_20, e_is4i, e_is4r, e_is4u, e_gotow, e_il4, g_95_0, e_ic_gt, e_il3, e_il2, e_ic_ge, e_il1, r_X12_heardAt, e_if_lt, g_95_20, p_95_19, g_95_19, e_goto, e_iadd, e_ii4i, e_ii4r, e_ii4u, e_ic_ne, en_zret0, en_zret1, en_zretb, al_96, k_m1, kn_0, kn_1, b_X12_findGap_62, b_X12_findGap_63, b_X12_findGap_65, b_X12_findGap_71, b_X12_findGap_80, b_X12_findGap_81, Option.bind_some, Option.toList_some, Option.toList_none, List.cons_append, List.nil_append, z_0, nI_add, pk_mul, pk_sub, pk_div, n_mod, nI_clamp, nI_leI, nI_ltI, nI_eq, le_T, le_F, lt_T, lt_F, eq_T, eq_F, n_i0, n_i1, eq_self, not_true_eq_false, not_false_eq_true, Bool.false_eq_true, ↓reduceIte, if_true, if_false, tm_up_n, tm_up_s, tm_up_i, ite_self, true_and, and_true, false_and, and_false, n_ofN, Nat.reduceAdd, Nat.reduceMul, Nat.reduceSub, Nat.zero_add, k0', kI_eq hk hi, q, ogp]
    · unfold gpr at e
      by_cases q : k = i + 2
      · rw [if_pos q] at e
        cases e
        exact ⟨e19 (by omega), by rw [e20]; exact if_neg (by omega)⟩
      · rw [if_neg q] at e; cases e
  | succ c ih =>
    intro m k a b M h hk hkm hM e20 e19 hb
    have k0' : M 96 0 = nI n := by rw [hM]; exact k0
    have hm : m < 25 := by omega
    by_cases q : k = i + 2
    · rw [gpr_done q]
      refine ⟨M, ?_, fun c _ => rfl, fun j _ _ => rfl, fun a' b' e => ?_⟩
      · rw [b_X12_findGap_10]
        simp (disch := first | exact tm_inb_i (by omega) (by omega) | exact tm_cc rfl | exact tm_cat rfl | omega | exact nI_ne0 (by omega) (by omega) | exact nI_ne (by omega) (by omega) (by omega) | assumption) only [e_iconst, e_is3i, e_is3r, e_is3u, e_al0, p_95_20, e_is4i, e_is4r, e_is4u, e_gotow, e_il4, g_95_0, e_ic_gt, e_il3, e_il2, e_ic_ge, e_il1, r_X12_heardAt, e_if_lt, g_95_20, p_95_19, g_95_19, e_goto, e_iadd, e_ii4i, e_ii4r, e_ii4u, e_ic_ne, en_zret0, en_zret1, en_zretb, al_96, k_m1, kn_0, kn_1, b_X12_findGap_62, b_X12_findGap_63, b_X12_findGap_65, b_X12_findGap_71, b_X12_findGap_80, b_X12_findGap_81, Option.bind_some, Option.toList_some, Option.toList_none, List.cons_append, List.nil_append, z_0, nI_add, pk_mul, pk_sub, pk_div, n_mod, nI_clamp, nI_leI, nI_ltI, nI_eq, le_T, le_F, lt_T, lt_F, eq_T, eq_F, n_i0, n_i1, eq_self, not_true_eq_false, not_false_eq_true, Bool.false_eq_true, ↓reduceIte, if_true, if_false, tm_up_n, tm_up_s, tm_up_i, ite_self, true_and, and_true, false_and, and_false, n_ofN, Nat.reduceAdd, Nat.reduceMul, Nat.reduceSub, Nat.zero_add, k0', kI_ge hk hi, kI_eq hk hi, eq_true q, ogp]
      · cases e
        exact ⟨e19 (by omega), by rw [e20]; exact if_neg (by omega)⟩
    · rw [gpr, if_neg q]
      by_cases q2 : hp (hs D s) m = true
      · rw [if_pos q2]
        obtain ⟨M1, r1, r2, r3, r4⟩ := ih (m + 1) (k + 1) b m (tm_up (tm_up M 95 19 (mI k b)) 95 20 (nI m)) (by omega) (by omega) (by omega) (by rw [tm_up_n (by decide), tm_up_n (by decide)]; exact hM) (by rw [tm_up_s]; exact (if_neg (by omega)).symm) (fun z => by rw [tm_up_i (by decide), tm_up_s]; exact if_neg (by omega)) (by omega)
        refine ⟨M1, ?_, fun c hc => by rw [r2 c hc, tm_up_n hc, tm_up_n hc], fun j h1 h2 => by rw [r3 j h1 h2, tm_up_i h2, tm_up_i h1], r4⟩
        have hq : tm_up M 95 19 (mI k b) 96 = D := by rw [tm_up_n (by decide)]; exact hM
        by_cases k1 : k = 0
        · have m1 : mI k b = -1 := if_pos k1
          have k2 : kI k + nI 0 = kI (k + 1) := by subst k1; decide +kernel
          rw [m1] at r1
          rw [b_X12_findGap_10]
          simp (disch := first | exact tm_inb_i (by omega) (by omega) | exact tm_cc rfl | exact tm_cat rfl | omega | exact nI_ne0 (by omega) (by omega) | exact nI_ne (by omega) (by omega) (by omega) | assumption) only [e_iconst, e_is3i, e_is3r, e_is3u, e_al0, p_95_20, e_is4i, e_is4r, e_is4u, e_gotow, e_il4, g_95_0, e_ic_gt, e_il3, e_il2, e_ic_ge, e_il1, r_X12_heardAt, e_if_lt, g_95_20, p_95_19, g_95_19, e_goto, e_iadd, e_ii4i, e_ii4r, e_ii4u, e_ic_ne, en_zret0, en_zret1, en_zretb, al_96, k_m1, kn_0, kn_1, b_X12_findGap_62, b_X12_findGap_63, b_X12_findGap_65, b_X12_findGap_71, b_X12_findGap_80, b_X12_findGap_81, Option.bind_some, Option.toList_some, Option.toList_none, List.cons_append, List.nil_append, z_0, nI_add, pk_mul, pk_sub, pk_div, n_mod, nI_clamp, nI_leI, nI_ltI, nI_eq, le_T, le_F, lt_T, lt_F, eq_T, eq_F, n_i0, n_i1, eq_self, not_true_eq_false, not_false_eq_true, Bool.false_eq_true, ↓reduceIte, if_true, if_false, tm_up_n, tm_up_s, tm_up_i, ite_self, true_and, and_true, false_and, and_false, n_ofN, Nat.reduceAdd, Nat.reduceMul, Nat.reduceSub, Nat.zero_add, k0', kI_ge hk hi, q, q_hA hM, hp_lt q2, e20, m1, m1_lt, k2, r1]
        · have m1 : mI k b = nI b := if_neg k1
          have k2 : kI k + nI 1 = kI (k + 1) := by
            unfold kI
            by_cases z : k ≤ 1
            · have : k = 1 := by omega
              subst this
              decide +kernel
            · rw [if_neg z, if_neg (by omega), nI_add, show k - 2 + 1 = k + 1 - 2 by omega]
          rw [m1] at r1
          rw [b_X12_findGap_10]
          simp (disch := first | exact tm_inb_i (by omega) (by omega) | exact tm_cc rfl | exact tm_cat rfl | omega | exact nI_ne0 (by omega) (by omega) | exact nI_ne (by omega) (by omega) (by omega) | assumption) only [e_iconst, e_is3i, e_is3r, e_is3u, e_al0, p_95_20, e_is4i, e_is4r, e_is4u, e_gotow, e_il4, g_95_0, e_ic_gt, e_il3, e_il2, e_ic_ge, e_il1, r_X12_heardAt, e_if_lt, g_95_20, p_95_19, g_95_19, e_goto, e_iadd, e_ii4i, e_ii4r, e_ii4u, e_ic_ne, en_zret0, en_zret1, en_zretb, al_96, k_m1, kn_0, kn_1, b_X12_findGap_62, b_X12_findGap_63, b_X12_findGap_65, b_X12_findGap_71, b_X12_findGap_80, b_X12_findGap_81, Option.bind_some, Option.toList_some, Option.toList_none, List.cons_append, List.nil_append, z_0, nI_add, pk_mul, pk_sub, pk_div, n_mod, nI_clamp, nI_leI, nI_ltI, nI_eq, le_T, le_F, lt_T, lt_F, eq_T, eq_F, n_i0, n_i1, eq_self, not_true_eq_false, not_false_eq_true, Bool.false_eq_true, ↓reduceIte, if_true, if_false, tm_up_n, tm_up_s, tm_up_i, ite_self, true_and, and_true, false_and, and_false, n_ofN, Nat.reduceAdd, Nat.reduceMul, Nat.reduceSub, Nat.zero_add, k0', kI_ge hk hi, q, q_hA hM, hp_lt q2, e20, m1, k2, r1]
      · rw [if_neg q2]
        obtain ⟨M1, r1, r2, r3, r4⟩ := ih (m + 1) k a b M (by omega) hk (by omega) hM e20 e19 hb
        refine ⟨M1, ?_, r2, r3, r4⟩
        rw [b_X12_findGap_10]
        simp (disch := first | exact tm_inb_i (by omega) (by omega) | exact tm_cc rfl | exact tm_cat rfl | omega | exact nI_ne0 (by omega) (by omega) | exact nI_ne (by omega) (by omega) (by omega) | assumption) only [e_iconst, e_is3i, e_is3r, e_is3u, e_al0, p_95_20, e_is4i, e_is4r, e_is4u, e_gotow, e_il4, g_95_0, e_ic_gt, e_il3, e_il2, e_ic_ge, e_il1, r_X12_heardAt, e_if_lt, g_95_20, p_95_19, g_95_19, e_goto, e_iadd, e_ii4i, e_ii4r, e_ii4u, e_ic_ne, en_zret0, en_zret1, en_zretb, al_96, k_m1, kn_0, kn_1, b_X12_findGap_62, b_X12_findGap_63, b_X12_findGap_65, b_X12_findGap_71, b_X12_findGap_80, b_X12_findGap_81, Option.bind_some, Option.toList_some, Option.toList_none, List.cons_append, List.nil_append, z_0, nI_add, pk_mul, pk_sub, pk_div, n_mod, nI_clamp, nI_leI, nI_ltI, nI_eq, le_T, le_F, lt_T, lt_F, eq_T, eq_F, n_i0, n_i1, eq_self, not_true_eq_false, not_false_eq_true, Bool.false_eq_true, ↓reduceIte, if_true, if_false, tm_up_n, tm_up_s, tm_up_i, ite_self, true_and, and_true, false_and, and_false, n_ofN, Nat.reduceAdd, Nat.reduceMul, Nat.reduceSub, Nat.zero_add, k0', kI_ge hk hi, q, q_hA hM, hp_nlt q2, r1]
theorem q_findGap (hM : M 96 = D) (k0 : D 0 = nI n) (hn : n ≤ 24) (hs1 : s < 12) {i : Nat} (hi : i < 2 ^ 31) : ∃ M1, tm_call (d + 1) 213 [.ref 95, .int (nI s), .int (nI i)] (tm_GG l x) M = some (some (.int (ogp (gp D n s i))), tm_GG l x, M1) ∧ fgq M M1 (gp D n s i) := by
  obtain ⟨M1, r1, r2, r3, r4⟩ := q_fg (d := d) (l := l) (x := x) k0 hn hs1 hi (n + 1) 0 0 25 25 (tm_up M 95 20 (-1)) (by omega) (by omega) (by omega) (by rw [tm_up_n (by decide)]; exact hM) (by rw [tm_up_s]; rfl) (fun z => by omega) (by decide)
  refine ⟨M1, ?_, fun c hc => by rw [r2 c hc, tm_up_n hc], fun j h1 h2 => by rw [r3 j h1 h2, tm_up_i h2], r4⟩
  have kk : kI 0 = -1 := rfl
  rw [kk] at r1
  simp (disch := first | exact tm_inb_i (by omega) (by omega) | exact tm_cc rfl | exact tm_cat rfl | omega | exact nI_ne0 (by omega) (by omega) | exact nI_ne (by omega) (by omega) (by omega) | assumption) only [n_X12_findGap, e_iconst, e_is3i, e_is3r, e_is3u, e_al0, p_95_20, e_is4i, e_is4r, e_is4u, e_gotow, e_il4, g_95_0, e_ic_gt, e_il3, e_il2, e_ic_ge, e_il1, r_X12_heardAt, e_if_lt, g_95_20, p_95_19, g_95_19, e_goto, e_iadd, e_ii4i, e_ii4r, e_ii4u, e_ic_ne, en_zret0, en_zret1, en_zretb, al_96, k_m1, kn_0, kn_1, b_X12_findGap_62, b_X12_findGap_63, b_X12_findGap_65, b_X12_findGap_71, b_X12_findGap_80, b_X12_findGap_81, Option.bind_some, Option.toList_some, Option.toList_none, List.cons_append, List.nil_append, z_0, nI_add, pk_mul, pk_sub, pk_div, n_mod, nI_clamp, nI_leI, nI_ltI, nI_eq, le_T, le_F, lt_T, lt_F, eq_T, eq_F, n_i0, n_i1, eq_self, not_true_eq_false, not_false_eq_true, Bool.false_eq_true, ↓reduceIte, if_true, if_false, tm_up_n, tm_up_s, tm_up_i, ite_self, true_and, and_true, false_and, and_false, n_ofN, Nat.reduceAdd, Nat.reduceMul, Nat.reduceSub, Nat.zero_add, r1, gp]
end TMK
