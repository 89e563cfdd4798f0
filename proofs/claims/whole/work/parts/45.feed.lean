/-! part 45: pair of calls: feed -/
theorem by_v (y : Int64) : (y &&& Int64.ofNat 255).toInt32 = nI (y.toBitVec.toNat % 256) := by
  apply Int32.toBitVec_inj.mp
  apply BitVec.eq_of_toNat_eq
  rw [Int64.toBitVec_toInt32, BitVec.signExtend_eq_setWidth_of_le _ (by decide), BitVec.toNat_setWidth, Int64.toBitVec_and, BitVec.toNat_and, show (Int64.ofNat 255).toBitVec.toNat = 2 ^ 8 - 1 from by decide, Nat.and_two_pow_sub_one_eq_mod, pk_tn (by omega)]
  omega
theorem by_c (y : Int64) : y.toInt8.toInt32 &&& nI 255 = nI (y.toBitVec.toNat % 256) := by
  rw [pk_and _ 8 (by decide +kernel)]
  congr 1
  show ((y.toBitVec.signExtend 8).signExtend 32).toNat % 2 ^ 8 = _
  have h1 : (y.toBitVec.signExtend 8).toNat = y.toBitVec.toNat % 256 := by
    rw [BitVec.signExtend_eq_setWidth_of_le _ (by decide), BitVec.toNat_setWidth]
  rw [BitVec.toNat_signExtend, BitVec.toNat_setWidth, h1]
  split <;> omega
def tm_tp (g : Nat → Int32) (t j n : Nat) (f : Nat → Int32) : Nat → Int32 := fun p => if t + j ≤ p ∧ p < t + n then g (p - t) else f p
theorem tm_tp_s {g f : Nat → Int32} {t j n : Nat} (h : j < n) : tm_tp g t (j + 1) n (upd f (t + j) (g j)) = tm_tp g t j n f := by
  funext i
  unfold tm_tp
  by_cases e : i = t + j
  · subst e
    rw [if_neg (by omega), if_pos (by omega), upd_s, Nat.add_sub_cancel_left]
  · by_cases e2 : t + j ≤ i ∧ i < t + n
    · rw [if_pos (by omega), if_pos e2]
    · rw [if_neg (by omega), if_neg e2, upd_n e]
theorem tm_tp_e {g f : Nat → Int32} {t n : Nat} : tm_tp g t n n f = f := by
  funext i
  exact if_neg (by omega)
def by_w (w : Int64) (k : Nat) : Int64 := w >>> ((nI (8 * k)).toInt64 &&& 63)
section TMF
variable {d l : Nat} {x : Nat → Int32} {w : Int64} {n t : Nat}
theorem m_ab (ht : t + n ≤ 60) : ∀ (c j : Nat) (M : tm_M), j + c = n → M 1 5 = nI t → tm_ev d (tm_blk (Int.toNat 930003)) [.ref 1, .long w, tm_un, .int (nI n), .int (nI j)] [] (tm_GG l x) M = some (none, tm_GG l x, tm_up (tm_uc M 33 (tm_tp (fun k => (by_w w k).toInt8.toInt32) t j n (M 33))) 1 5 (nI (t + n))) := by
  intro c
  induction c with
  | zero =>
    intro j M h e
    obtain rfl : j = n := by omega
    rw [b_X10_addBytes_3]
    simp (disch := first | exact tm_inb_i (by omega) (by omega) | exact tm_cc rfl | exact tm_cat rfl | omega | exact nI_ne0 (by omega) (by omega) | exact nI_ne (by omega) (by omega) (by omega) | assumption) only [e_iconst, e_is4i, e_is4r, e_is4u, e_gotow, e_il4, e_il3, e_ic_ge, e_al0, g_1_4, g_35_4, g_1_5, g_35_5, e_iadd, e_ll1, e_imul, e_lshr, e_l2i, e_i2b, e_ii4i, e_ii4r, e_ii4u, e_goto, e_dupi, e_dupr, p_1_5, p_35_5, e_vret, as_33, as_67, kn_0, kn_1, kn_8, b_X10_addBytes_36, Option.bind_some, Option.toList_some, Option.toList_none, List.cons_append, List.nil_append, z_0, nI_add, pk_mul, pk_sub, pk_div, n_mod, nI_clamp, nI_leI, nI_ltI, nI_eq, le_T, le_F, lt_T, lt_F, eq_T, eq_F, n_i0, n_i1, eq_self, not_true_eq_false, not_false_eq_true, Bool.false_eq_true, ↓reduceIte, if_true, if_false, tm_up_n, tm_up_s, tm_up_i, ite_self, true_and, and_true, false_and, and_false, n_ofN, Nat.reduceAdd, Nat.reduceMul, Nat.reduceSub, Nat.zero_add, e]
    rw [tm_uc_same _ _ _ (by rw [tm_tp_e])]
  | succ c ih =>
    intro j M h e
    have hj : j < n := by omega
    have e2 : ∀ v, tm_up M 33 (t + j) v 1 5 = nI t := fun v => by rw [tm_up_n (by decide)]; exact e
    rw [b_X10_addBytes_3]
    simp (disch := first | exact tm_inb_i (by omega) (by omega) | exact tm_cc rfl | exact tm_cat rfl | omega | exact nI_ne0 (by omega) (by omega) | exact nI_ne (by omega) (by omega) (by omega) | assumption) only [e_iconst, e_is4i, e_is4r, e_is4u, e_gotow, e_il4, e_il3, e_ic_ge, e_al0, g_1_4, g_35_4, g_1_5, g_35_5, e_iadd, e_ll1, e_imul, e_lshr, e_l2i, e_i2b, e_ii4i, e_ii4r, e_ii4u, e_goto, e_dupi, e_dupr, p_1_5, p_35_5, e_vret, as_33, as_67, kn_0, kn_1, kn_8, b_X10_addBytes_36, Option.bind_some, Option.toList_some, Option.toList_none, List.cons_append, List.nil_append, z_0, nI_add, pk_mul, pk_sub, pk_div, n_mod, nI_clamp, nI_leI, nI_ltI, nI_eq, le_T, le_F, lt_T, lt_F, eq_T, eq_F, n_i0, n_i1, eq_self, not_true_eq_false, not_false_eq_true, Bool.false_eq_true, ↓reduceIte, if_true, if_false, tm_up_n, tm_up_s, tm_up_i, ite_self, true_and, and_true, false_and, and_false, n_ofN, Nat.reduceAdd, Nat.reduceMul, Nat.reduceSub, Nat.zero_add, e, ih (j + 1) _ (by omega) (e2 _), Int8.toInt8_toInt32, Int64.toInt8_toInt32]
    rw [tm_up_at, tm_uc_up]
    have := tm_tp_s (g := fun k => (by_w w k).toInt8.toInt32) (f := M 33) (t := t) hj
    simp only [by_w] at this ⊢
    rw [this]
theorem q_fd (ht : t + n ≤ 60) : ∀ (c j : Nat) (M : tm_M), j + c = n → M 96 6 = nI (t + j) → tm_ev d (tm_blk (Int.toNat 2100039)) [.ref 95, .long w, tm_un, .int (nI n), .int (nI j)] [] (tm_GG l x) M = some (some (.int (nI (t + n))), tm_GG l x, tm_uc M 96 (upd (tm_tp (fun k => nI ((by_w w k).toBitVec.toNat % 256)) (1198 + t) j n (M 96)) 6 (nI (t + n)))) := by
  intro c
  induction c with
  | zero =>
    intro j M h e
    obtain rfl : j = n := by omega
    rw [b_X12_feed_39]
    simp (disch := first | exact tm_inb_i (by omega) (by omega) | exact tm_cc rfl | exact tm_cat rfl | omega | exact nI_ne0 (by omega) (by omega) | exact nI_ne (by omega) (by omega) (by omega) | assumption) only [e_il3, e_iconst, r_X12_in, e_if_ne, e_al0, r_X12_finding, e_iret, g_95_0, e_iadd, e_ic_le, e_is4i, e_is4r, e_is4u, e_gotow, e_il4, e_ic_ge, e_ll1, e_imul, e_lshr, e_ldc2, e_land, e_l2i, e_dup2, e_dup2i, e_ii4i, e_ii4r, e_ii4u, e_goto, al_96, as_96, kn_0, kn_1, kn_4, kn_6, kn_8, kn_60, kn_1198, b_X12_feed_16, b_X12_feed_36, b_X12_feed_90, Option.bind_some, Option.toList_some, Option.toList_none, List.cons_append, List.nil_append, z_0, nI_add, pk_mul, pk_sub, pk_div, n_mod, nI_clamp, nI_leI, nI_ltI, nI_eq, le_T, le_F, lt_T, lt_F, eq_T, eq_F, n_i0, n_i1, eq_self, not_true_eq_false, not_false_eq_true, Bool.false_eq_true, ↓reduceIte, if_true, if_false, tm_up_n, tm_up_s, tm_up_i, ite_self, true_and, and_true, false_and, and_false, n_ofN, Nat.reduceAdd, Nat.reduceMul, Nat.reduceSub, Nat.zero_add, e]
    rw [tm_uc_same _ _ _ (by rw [tm_tp_e, upd_same e])]
  | succ c ih =>
    intro j M h e
    have hj : j < n := by omega
    rw [b_X12_feed_39]
    simp (disch := first | exact tm_inb_i (by omega) (by omega) | exact tm_cc rfl | exact tm_cat rfl | omega | exact nI_ne0 (by omega) (by omega) | exact nI_ne (by omega) (by omega) (by omega) | assumption) only [e_il3, e_iconst, r_X12_in, e_if_ne, e_al0, r_X12_finding, e_iret, g_95_0, e_iadd, e_ic_le, e_is4i, e_is4r, e_is4u, e_gotow, e_il4, e_ic_ge, e_ll1, e_imul, e_lshr, e_ldc2, e_land, e_l2i, e_dup2, e_dup2i, e_ii4i, e_ii4r, e_ii4u, e_goto, al_96, as_96, kn_0, kn_1, kn_4, kn_6, kn_8, kn_60, kn_1198, b_X12_feed_16, b_X12_feed_36, b_X12_feed_90, Option.bind_some, Option.toList_some, Option.toList_none, List.cons_append, List.nil_append, z_0, nI_add, pk_mul, pk_sub, pk_div, n_mod, nI_clamp, nI_leI, nI_ltI, nI_eq, le_T, le_F, lt_T, lt_F, eq_T, eq_F, n_i0, n_i1, eq_self, not_true_eq_false, not_false_eq_true, Bool.false_eq_true, ↓reduceIte, if_true, if_false, tm_up_n, tm_up_s, tm_up_i, ite_self, true_and, and_true, false_and, and_false, n_ofN, Nat.reduceAdd, Nat.reduceMul, Nat.reduceSub, Nat.zero_add, e, by_v]
    rw [ih (j + 1) _ (by omega) (by rw [tm_up_s, Nat.add_assoc])]
    simp only [tm_up_uc, tm_uc_uc, tm_uc_at]
    have := tm_tp_s (g := fun k => nI ((by_w w k).toBitVec.toNat % 256)) (f := M 96) (t := 1198 + t) hj
    congr 3
    congr 1
    funext i
    by_cases i6 : i = 6
    · subst i6; rw [upd_s, upd_s]
    · rw [upd_n i6, upd_n i6, ← this]
      unfold tm_tp
      by_cases e2 : 1198 + t + (j + 1) ≤ i ∧ i < 1198 + t + n
      · rw [if_pos e2, if_pos e2]
      · rw [if_neg e2, if_neg e2, upd_n i6, show 1198 + (t + j) = 1198 + t + j by omega]
        rfl
theorem tm_W_E {M : tm_M} {o : Nat} {D D' : Nat → Int32} {f : Nat → Int32} (hW : tm_W M o D) (hD : ∀ q, q < 1198 → D' q = D q) (hE : ∀ i, i < 60 → ∃ v, v < 256 ∧ D' (1198 + i) = nI v ∧ (f i).toInt8.toInt32 &&& nI 255 = nI v) : tm_W (tm_uc M (33 + o) f) o D' := by
  obtain ⟨hA, hB, hO, hH, _, hT0, hT1, hN⟩ := hW
  have hc : ∀ c, c ≠ 33 → tm_uc M (33 + o) f (c + o) = M (c + o) := fun c q => tm_uc_ne _ _ (by omega)
  refine ⟨fun c i q hq => ?_, ?_, ?_, ?_, ?_, ?_, ?_, ?_⟩
  · obtain ⟨z1, z2, z3, z4⟩ := tm_phq hq
    rw [hD q (by omega), hc c (fun e => by subst e; cases hq)]
    exact hA _ _ _ hq
  · unfold tm_wB
    rw [hc 2 (by decide)]
    obtain ⟨b, b1, b2, b3⟩ := hB
    exact ⟨b, b1, b2, fun m hm => by rw [hD _ (by omega)]; exact b3 m hm⟩
  · unfold tm_wO
    rw [hc 1 (by decide)]
    obtain ⟨b, b1, b2, b3⟩ := hO
    exact ⟨b, b1, b2, fun m hm => by rw [hD _ (by omega)]; exact b3 m hm⟩
  · unfold tm_wH
    rw [hc 18 (by decide)]
    intro j hj
    rw [hD _ (by omega), hD _ (by omega)]
    exact hH j hj
  · intro j hj
    rw [tm_uc_at]
    exact hE j hj
  · exact tm_wT_D (hD _ (by omega)) (fun k hk => hD _ (by omega)) (tm_wT_cg (hc _ (by decide)) (hc _ (by decide)) hT0)
  · exact tm_wT_D (hD _ (by omega)) (fun k hk => hD _ (by omega)) (tm_wT_cg (hc _ (by decide)) (hc _ (by decide)) hT1)
  · obtain ⟨n, n1, n2, n3⟩ := hN
    exact ⟨n, by rw [hD _ (by omega)]; exact n1, n2, fun m a b => by rw [hD _ (by omega)]; exact n3 m a b⟩
theorem pr_feed (w : Int64) (a1 : Int32) : tm_Pi tm_I l x 116 210 [.long w, .int a1] := by
  intro k M hk hI
  obtain ⟨n, X, W, R, G, T, L, hK, c0, _, _, c4, c5, c6, _⟩ := tm_I_n hI
  obtain ⟨k0, k2, k3, k4, k5, ⟨k6, k62⟩, k8, _⟩ := id hK
  rcases rng a1 1 8 (by decide) (by decide) with h | ⟨m, hm1, hm, rfl⟩
  · exact tm_fdp hI (by decide : 1 < 6) (by simp (disch := first | exact tm_inb_i (by omega) (by omega) | exact tm_cc rfl | exact tm_cat rfl | omega | exact nI_ne0 (by omega) (by omega) | exact nI_ne (by omega) (by omega) (by omega) | assumption) only [n_X11_feed, e_il3, e_iconst, r_X11_within, e_if_ne, e_al0, r_X11_finding, e_iret, g_0_0, g_1_5, g_35_5, e_iadd, e_ic_le, e_ll1, r_X10_addBytes, kn_1, kn_4, kn_8, kn_60, b_X11_feed_16, b_X11_feed_36, Option.bind_some, Option.toList_some, Option.toList_none, List.cons_append, List.nil_append, z_0, nI_add, pk_mul, pk_sub, pk_div, n_mod, nI_clamp, nI_leI, nI_ltI, nI_eq, le_T, le_F, lt_T, lt_F, eq_T, eq_F, n_i0, n_i1, eq_self, not_true_eq_false, not_false_eq_true, Bool.false_eq_true, ↓reduceIte, if_true, if_false, tm_up_n, tm_up_s, tm_up_i, ite_self, true_and, and_true, false_and, and_false, n_ofN, Nat.reduceAdd, Nat.reduceMul, Nat.reduceSub, Nat.zero_add, m_within, m_finding, h]) (by simp (disch := first | exact tm_inb_i (by omega) (by omega) | exact tm_cc rfl | exact tm_cat rfl | omega | exact nI_ne0 (by omega) (by omega) | exact nI_ne (by omega) (by omega) (by omega) | assumption) only [n_X12_feed, e_il3, e_iconst, r_X12_in, e_if_ne, e_al0, r_X12_finding, e_iret, g_95_0, e_iadd, e_ic_le, e_is4i, e_is4r, e_is4u, e_gotow, e_il4, e_ic_ge, e_ll1, e_imul, e_lshr, e_ldc2, e_land, e_l2i, e_dup2, e_dup2i, e_ii4i, e_ii4r, e_ii4u, e_goto, al_96, as_96, kn_0, kn_1, kn_4, kn_6, kn_8, kn_60, kn_1198, b_X12_feed_16, b_X12_feed_36, b_X12_feed_90, Option.bind_some, Option.toList_some, Option.toList_none, List.cons_append, List.nil_append, z_0, nI_add, pk_mul, pk_sub, pk_div, n_mod, nI_clamp, nI_leI, nI_ltI, nI_eq, le_T, le_F, lt_T, lt_F, eq_T, eq_F, n_i0, n_i1, eq_self, not_true_eq_false, not_false_eq_true, Bool.false_eq_true, ↓reduceIte, if_true, if_false, tm_up_n, tm_up_s, tm_up_i, ite_self, true_and, and_true, false_and, and_false, n_ofN, Nat.reduceAdd, Nat.reduceMul, Nat.reduceSub, Nat.zero_add, q_in, q_finding, h])
  · by_cases hT : T + m ≤ 60
    · have h1 := m_ab (d := 998) (l := l) (x := x) (w := w) hT m 0 M (by omega) c6
      have h2 := q_fd (d := 999) (l := l) (x := x) (w := w) hT m 0 (tm_up (tm_uc M 33 (tm_tp (fun k => (by_w w k).toInt8.toInt32) T 0 m (M 33))) 1 5 (nI (T + m))) (by omega) (by rw [tm_up_n (by decide), tm_uc_ne _ _ (by decide)]; exact k6)
      have f96 : tm_up (tm_uc M 33 (tm_tp (fun k => (by_w w k).toInt8.toInt32) T 0 m (M 33))) 1 5 (nI (T + m)) 96 = M 96 := by rw [tm_up_n (by decide), tm_uc_ne _ _ (by decide)]
      rw [f96] at h2
      refine ⟨nI (T + m), tm_up (tm_uc M 33 (tm_tp (fun k => (by_w w k).toInt8.toInt32) T 0 m (M 33))) 1 5 (nI (T + m)), _, ?_, ?_, tm_I_set hI (M1 := tm_up (tm_uc M 33 (tm_tp (fun k => (by_w w k).toInt8.toInt32) T 0 m (M 33))) 1 5 (nI (T + m))) (tm_W_up (c := 1) (i := 5) (q := 6) (tm_W_E (D' := tm_tp (fun k => nI ((by_w w k).toBitVec.toNat % 256)) (1198 + T) 0 m (M 96)) (f := tm_tp (fun k => (by_w w k).toInt8.toInt32) T 0 m (M 33)) hI.1 (fun q hq => if_neg (by omega)) (fun i hi => ?_)) rfl) ⟨n, X, W, R, G, T + m, L, ?_⟩ (fun c hc => by rw [tm_up_n (by omega), tm_uc_ne _ _ (by omega)]) rfl⟩
      · simp (disch := first | exact tm_inb_i (by omega) (by omega) | exact tm_cc rfl | exact tm_cat rfl | omega | exact nI_ne0 (by omega) (by omega) | exact nI_ne (by omega) (by omega) (by omega) | assumption) only [n_X11_feed, n_X10_addBytes, e_il3, e_iconst, r_X11_within, e_if_ne, e_al0, r_X11_finding, e_iret, g_0_0, g_1_5, g_35_5, e_iadd, e_ic_le, e_ll1, r_X10_addBytes, kn_1, kn_4, kn_8, kn_60, b_X11_feed_16, b_X11_feed_36, Option.bind_some, Option.toList_some, Option.toList_none, List.cons_append, List.nil_append, z_0, nI_add, pk_mul, pk_sub, pk_div, n_mod, nI_clamp, nI_leI, nI_ltI, nI_eq, le_T, le_F, lt_T, lt_F, eq_T, eq_F, n_i0, n_i1, eq_self, not_true_eq_false, not_false_eq_true, Bool.false_eq_true, ↓reduceIte, if_true, if_false, tm_up_n, tm_up_s, tm_up_i, ite_self, true_and, and_true, false_and, and_false, n_ofN, Nat.reduceAdd, Nat.reduceMul, Nat.reduceSub, Nat.zero_add, e_iconst, kn_0, e_is4i, e_is4r, e_is4u, e_gotow, m_within, c6, h1]
      · simp (disch := first | exact tm_inb_i (by omega) (by omega) | exact tm_cc rfl | exact tm_cat rfl | omega | exact nI_ne0 (by omega) (by omega) | exact nI_ne (by omega) (by omega) (by omega) | assumption) only [n_X12_feed, e_il3, e_iconst, r_X12_in, e_if_ne, e_al0, r_X12_finding, e_iret, g_95_0, e_iadd, e_ic_le, e_is4i, e_is4r, e_is4u, e_gotow, e_il4, e_ic_ge, e_ll1, e_imul, e_lshr, e_ldc2, e_land, e_l2i, e_dup2, e_dup2i, e_ii4i, e_ii4r, e_ii4u, e_goto, al_96, as_96, kn_0, kn_1, kn_4, kn_6, kn_8, kn_60, kn_1198, b_X12_feed_16, b_X12_feed_36, b_X12_feed_90, Option.bind_some, Option.toList_some, Option.toList_none, List.cons_append, List.nil_append, z_0, nI_add, pk_mul, pk_sub, pk_div, n_mod, nI_clamp, nI_leI, nI_ltI, nI_eq, le_T, le_F, lt_T, lt_F, eq_T, eq_F, n_i0, n_i1, eq_self, not_true_eq_false, not_false_eq_true, Bool.false_eq_true, ↓reduceIte, if_true, if_false, tm_up_n, tm_up_s, tm_up_i, ite_self, true_and, and_true, false_and, and_false, n_ofN, Nat.reduceAdd, Nat.reduceMul, Nat.reduceSub, Nat.zero_add, q_in, tm_uc_ne, k6, h2]
      · by_cases q : T ≤ i ∧ i < T + m
        · refine ⟨(by_w w (i - T)).toBitVec.toNat % 256, by omega, ?_, ?_⟩
          · unfold tm_tp
            rw [if_pos (by omega), show 1198 + i - (1198 + T) = i - T by omega]
          · unfold tm_tp
            rw [if_pos (by omega), Int8.toInt8_toInt32]
            exact by_c _
        · obtain ⟨v, v1, v2, v3⟩ := hI.1.2.2.2.2.1 i hi
          refine ⟨v, v1, ?_, ?_⟩
          · unfold tm_tp
            rw [if_neg (by omega)]
            exact v2
          · unfold tm_tp
            rw [if_neg (by omega)]
            exact v3
      · have hn : ∀ q, q < 1198 → q ≠ 6 → upd (tm_tp (fun k => nI ((by_w w k).toBitVec.toNat % 256)) (1198 + T) 0 m (M 96)) 6 (nI (T + m)) q = M 96 q := fun q a b => by rw [upd_n b]; exact if_neg (by omega)
        exact tm_OK_mk hK (fun q _ _ => hn q (by omega) (by omega)) (fun q _ _ => hn q (by omega) (by omega)) (hn _ (by omega) (by omega)) ((hn _ (by omega) (by omega)).trans k2.1) k2.2 (hn _ (by omega) (by omega)) (hn _ (by omega) (by omega)) ((hn _ (by omega) (by omega)).trans k5.1) (Nat.le_refl _) upd_s hT ((hn _ (by omega) (by omega)).trans k8.1) k8.2
    · exact tm_fdp hI (by decide : 4 < 6) (by simp (disch := first | exact tm_inb_i (by omega) (by omega) | exact tm_cc rfl | exact tm_cat rfl | omega | exact nI_ne0 (by omega) (by omega) | exact nI_ne (by omega) (by omega) (by omega) | assumption) only [n_X11_feed, e_il3, e_iconst, r_X11_within, e_if_ne, e_al0, r_X11_finding, e_iret, g_0_0, g_1_5, g_35_5, e_iadd, e_ic_le, e_ll1, r_X10_addBytes, kn_1, kn_4, kn_8, kn_60, b_X11_feed_16, b_X11_feed_36, Option.bind_some, Option.toList_some, Option.toList_none, List.cons_append, List.nil_append, z_0, nI_add, pk_mul, pk_sub, pk_div, n_mod, nI_clamp, nI_leI, nI_ltI, nI_eq, le_T, le_F, lt_T, lt_F, eq_T, eq_F, n_i0, n_i1, eq_self, not_true_eq_false, not_false_eq_true, Bool.false_eq_true, ↓reduceIte, if_true, if_false, tm_up_n, tm_up_s, tm_up_i, ite_self, true_and, and_true, false_and, and_false, n_ofN, Nat.reduceAdd, Nat.reduceMul, Nat.reduceSub, Nat.zero_add, m_within, m_finding, c6]) (by simp (disch := first | exact tm_inb_i (by omega) (by omega) | exact tm_cc rfl | exact tm_cat rfl | omega | exact nI_ne0 (by omega) (by omega) | exact nI_ne (by omega) (by omega) (by omega) | assumption) only [n_X12_feed, e_il3, e_iconst, r_X12_in, e_if_ne, e_al0, r_X12_finding, e_iret, g_95_0, e_iadd, e_ic_le, e_is4i, e_is4r, e_is4u, e_gotow, e_il4, e_ic_ge, e_ll1, e_imul, e_lshr, e_ldc2, e_land, e_l2i, e_dup2, e_dup2i, e_ii4i, e_ii4r, e_ii4u, e_goto, al_96, as_96, kn_0, kn_1, kn_4, kn_6, kn_8, kn_60, kn_1198, b_X12_feed_16, b_X12_feed_36, b_X12_feed_90, Option.bind_some, Option.toList_some, Option.toList_none, List.cons_append, List.nil_append, z_0, nI_add, pk_mul, pk_sub, pk_div, n_mod, nI_clamp, nI_leI, nI_ltI, nI_eq, le_T, le_F, lt_T, lt_F, eq_T, eq_F, n_i0, n_i1, eq_self, not_true_eq_false, not_false_eq_true, Bool.false_eq_true, ↓reduceIte, if_true, if_false, tm_up_n, tm_up_s, tm_up_i, ite_self, true_and, and_true, false_and, and_false, n_ofN, Nat.reduceAdd, Nat.reduceMul, Nat.reduceSub, Nat.zero_add, q_in, q_finding, k6])
end TMF
