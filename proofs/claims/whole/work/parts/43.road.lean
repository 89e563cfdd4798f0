/-! part 43: pairs of calls: road, image, restore -/
theorem px_byte_cg {b b' : Nat → Int32} {z : Nat} (h : ∀ i, i < z → b' i = b i) (s : Nat × Bool) : px_byte b' z s = px_byte b z s := by
  unfold px_byte
  by_cases q : s.2 = true ∨ z ≤ s.1
  · rw [if_pos q, if_pos q]
  · rw [if_neg q, if_neg q, h _ (by omega)]
theorem px_dg_m1 : px_dg (-1) = false := by decide +kernel
theorem px_num_cg {b b' : Nat → Int32} {z : Nat} (h : ∀ i, i < z → b' i = b i) (bad : Bool) : ∀ n p v, px_num b' z bad n p v = px_num b z bad n p v := by
  intro n
  induction n with
  | zero => intro p v; rfl
  | succ n ih =>
    intro p v
    unfold px_num
    rw [px_byte_cg h]
    by_cases q : px_dg (px_byte b z (p, bad)) = true
    · have hp : p < z := by
        refine Classical.byContradiction fun hp => ?_
        unfold px_byte at q
        rw [if_pos (Or.inr (by simpa using hp)), px_dg_m1] at q
        cases q
      rw [if_pos q, if_pos q, ih, h p hp]
    · rw [if_neg q, if_neg q]
theorem px_P_cg {b b' : Nat → Int32} {z : Nat} (h : ∀ i, i < z → b' i = b i) : ∀ f k op s, px_P b' z f k op s = px_P b z f k op s := by
  intro f
  induction f with
  | zero => intro k op s; rfl
  | succ f ih =>
    intro k op s
    unfold px_P
    simp only [ih, px_byte_cg h, px_num_cg h]
theorem px_TX_D {cd : Nat → Int32} {e z : Nat} {b b' : Nat → Int32} (h : ∀ i, i < z → b' i = b i) (k : px_TX cd e b z) : px_TX cd e b' z := by
  obtain ⟨code, k1, k2, k3⟩ := k
  exact ⟨code, by rw [px_P_cg h]; exact k1, k2, k3⟩
theorem tm_wT_D {M : tm_M} {o u : Nat} {D D' : Nat → Int32} (h0 : D' (1076 + u) = D (1076 + u)) (h : ∀ k, k < 60 → D' (1078 + 60 * u + k) = D (1078 + 60 * u + k)) (k : tm_wT M o D u) : tm_wT M o D' u := by
  obtain ⟨z, y1, y2, y3, y4, y5⟩ := k
  refine ⟨z, y1, h0.trans y2, y3, fun q => ?_, fun i hi => by rw [h i hi]; exact y5 i hi⟩
  obtain ⟨e, e1, e2, e3, e4⟩ := y4 q
  exact ⟨e, e1, e2, e3, px_TX_D (fun i hi => h i (by omega)) e4⟩
/-- the row counts below 1258 -/
theorem tm_W_D {M : tm_M} {o : Nat} {D D' : Nat → Int32} (h : ∀ q, q < 1258 → D' q = D q) (hW : tm_W M o D) : tm_W M o D' := by
  obtain ⟨hA, hB, hO, hH, hE, hT0, hT1, hN⟩ := hW
  refine ⟨fun c i q hq => ?_, ?_, ?_, ?_, ?_, ?_, ?_, ?_⟩
  · rw [h q (by have := (tm_phq hq).1; omega)]
    exact hA c i q hq
  · obtain ⟨b, b1, b2, b3⟩ := hB
    exact ⟨b, b1, b2, fun m hm => by rw [h _ (by omega)]; exact b3 m hm⟩
  · obtain ⟨b, b1, b2, b3⟩ := hO
    exact ⟨b, b1, b2, fun m hm => by rw [h _ (by omega)]; exact b3 m hm⟩
  · intro j hj
    rw [h _ (by omega), h _ (by omega)]
    exact hH j hj
  · intro j hj
    rw [h _ (by omega)]
    exact hE j hj
  · exact tm_wT_D (h _ (by omega)) (fun k hk => h _ (by omega)) hT0
  · exact tm_wT_D (h _ (by omega)) (fun k hk => h _ (by omega)) hT1
  · obtain ⟨n, n1, n2, n3⟩ := hN
    exact ⟨n, by rw [h _ (by omega)]; exact n1, n2, fun m a b => by rw [h _ (by omega)]; exact n3 m a b⟩
/-! what begins(n) makes of the row -/
theorem fil_n {v : Int32} {j n i : Nat} {f : Nat → Int32} (h : i < j ∨ n ≤ i) : tm_fil v j n f i = f i := if_neg (by omega)
theorem fil_p {v : Int32} {j n i : Nat} {f : Nat → Int32} (h : j ≤ i ∧ i < n) : tm_fil v j n f i = v := if_pos h
theorem mt9_n {v : Int32} {i : Nat} {f : Nat → Int32} (h : i < 34 ∨ 59 ≤ i) : tm_mt9 v 0 f i = f i := if_neg (by omega)
section TMB
variable {D : Nat → Int32} {v : Int32} {q : Nat}
theorem bg_n (h : q ≠ 0 ∧ q ≠ 3 ∧ q ≠ 5 ∧ (q < 10 ∨ 59 ≤ q) ∧ (q < 368 ∨ 680 ≤ q)) : tm_bg v D q = D q := by
  unfold tm_bg
  rw [fil_n (by omega), fil_n (by omega), mt9_n (by omega), fil_n (by omega), upd_n (by omega), upd_n (by omega), upd_n (by omega)]
theorem bg_0 : tm_bg v D 0 = v := by
  unfold tm_bg
  rw [fil_n (by omega), fil_n (by omega), mt9_n (by omega), fil_n (by omega), upd_n (by omega), upd_n (by omega), upd_s]
theorem bg_3 : tm_bg v D 3 = nI 0 := by
  unfold tm_bg
  rw [fil_n (by omega), fil_n (by omega), mt9_n (by omega), fil_n (by omega), upd_n (by omega), upd_s, nI_0]
theorem bg_5 : tm_bg v D 5 = nI 0 := by
  unfold tm_bg
  rw [fil_n (by omega), fil_n (by omega), mt9_n (by omega), fil_n (by omega), upd_s, nI_0]
theorem bg_c (h : 10 ≤ q ∧ q < 34) : tm_bg v D q = nI 0 := by
  unfold tm_bg
  rw [fil_n (by omega), fil_n (by omega), mt9_n (by omega), fil_p h, nI_0]
theorem bg_m {m : Nat} (h : m < 25) : tm_bg v D (34 + m) = if m = 0 ∨ nI m = v then nI 1 else nI 0 := by
  unfold tm_bg tm_fil tm_mt9
  rw [if_neg (by omega), if_neg (by omega), if_pos (by omega), Nat.add_sub_cancel_left, nI_0, show (1 : Int32) = nI 1 by decide +kernel]
  by_cases e : m = 0 ∨ nI m = v
  · rw [if_pos e, if_pos (e.imp (fun e => by omega) id)]
  · rw [if_neg e, if_neg (fun q => e (q.imp (fun e => by omega) id))]
theorem bg_h (h : 368 ≤ q ∧ q < 668) : tm_bg v D q = -1 := by
  unfold tm_bg tm_fil
  rw [if_neg (by omega), if_pos h]
theorem bg_o (h : 668 ≤ q ∧ q < 680) : tm_bg v D q = nI 0 := by
  unfold tm_bg tm_fil
  rw [if_pos h, nI_0]
end TMB
theorem tm_ph_3 {i q : Nat} (h : tm_ph 3 i = some q) : i < 24 ∧ q = 10 + i := by
  unfold tm_ph at h
  simp only at h
  split at h <;> cases h
  exact ⟨by assumption, rfl⟩
theorem tm_ph_34 {i q : Nat} (h : tm_ph 34 i = some q) : i < 300 ∧ q = 368 + i := by
  unfold tm_ph at h
  simp only at h
  split at h <;> cases h
  exact ⟨by assumption, rfl⟩
theorem tm_ph_oth {c i q : Nat} (h : tm_ph c i = some q) : (c = 2 ∧ i = 0 ∧ q = 0) ∨ (c = 2 ∧ i = 1 ∧ q = 1) ∨ (c = 2 ∧ i = 3 ∧ q = 3) ∨ (c = 20 ∧ i = 0 ∧ q = 5) ∨ c = 3 ∨ c = 34 ∨ (c ≠ 2 ∧ c ≠ 3 ∧ c ≠ 20 ∧ c ≠ 34 ∧ ¬ (c = 1 ∧ i = 7) ∧ q ≠ 0 ∧ q ≠ 3 ∧ q ≠ 5 ∧ (q < 10 ∨ 59 ≤ q) ∧ (q < 368 ∨ 680 ≤ q)) := by
  unfold tm_ph at h
  split at h
  all_goals first
    | cases h; done
    | ((repeat' split at h) <;> first | (cases h; done) | (cases h; omega))
section TMO
variable {d l : Nat} {x : Nat → Int32} {M : tm_M}
def tm_lr (M : tm_M) (n : Nat) : tm_M := tm_up (tm_uc (tm_up (tm_uc (tm_up (tm_up (tm_up M 2 0 (nI n)) 2 2 (nI (1 ||| 2 ^ n))) 2 3 (nI 0)) 3 (tm_fil (nI 0) 0 24 (M 3))) 20 0 (nI 0)) 34 (tm_fil (-1) 0 300 (M 34))) 1 7 (nI 0)
theorem m_layRoad {n : Nat} (hn : n < 31) : tm_call (d + 2) 88 [.ref 1, .int (nI n)] (tm_GG l x) M = some (none, tm_GG l x, tm_lr M n) := by
  simp (disch := first | exact tm_inb_i (by omega) (by omega) | exact tm_cc rfl | exact tm_cat rfl | omega | exact nI_ne0 (by omega) (by omega) | exact nI_ne (by omega) (by omega) (by omega) | assumption) only [n_X10_layRoad, n_X5_lay, n_X10_forgetRace, e_al0, g_1_0, g_35_0, e_il1, r_X5_lay, g_1_2, g_35_2, e_iconst, p_20_0, p_54_0, r_X10_forgetRace, e_vret, kn_0, Option.bind_some, Option.toList_some, Option.toList_none, List.cons_append, List.nil_append, z_0, nI_add, pk_mul, pk_sub, pk_div, n_mod, nI_clamp, nI_leI, nI_ltI, nI_eq, le_T, le_F, lt_T, lt_F, eq_T, eq_F, n_i0, n_i1, eq_self, not_true_eq_false, not_false_eq_true, Bool.false_eq_true, ↓reduceIte, if_true, if_false, tm_up_n, tm_up_s, tm_up_i, ite_self, true_and, and_true, false_and, and_false, n_ofN, Nat.reduceAdd, Nat.reduceMul, Nat.reduceSub, Nat.zero_add, p_2_0, p_36_0, e_ishl, e_ior, p_2_2, p_36_2, p_2_3, p_36_3, g_2_4, g_36_4, r_J7_fill_53178, kn_1, g_1_6, g_35_6, p_1_7, p_35_7, k_m1, m_fill_3, m_fill_34, n_shl1, n_or, tm_uc_ne, tm_lr]
theorem tm_W_lr {D : Nat → Int32} {n : Nat} (hn : n ≤ 24) (hW : tm_W M 0 D) : tm_W (tm_lr M n) 0 (tm_bg (nI n) D) := by
  obtain ⟨hA, hB, hO, hH, hE, hT0, hT1, hN⟩ := hW
  have hc : ∀ c, c ≠ 1 → c ≠ 2 → c ≠ 3 → c ≠ 20 → c ≠ 34 → tm_lr M n c = M c := fun c a1 a2 a3 a4 a5 => by
    unfold tm_lr
    rw [tm_up_n a1, tm_uc_ne _ _ a5, tm_up_n a4, tm_uc_ne _ _ a3, tm_up_n a2, tm_up_n a2, tm_up_n a2]
  have hb : 1 ||| 2 ^ n < 2 ^ 25 := Nat.or_lt_two_pow (by decide) (Nat.pow_lt_pow_of_lt (by decide) (by omega))
  refine ⟨fun c i q hq => ?_, ⟨1 ||| 2 ^ n, ?_, hb, fun m hm => ?_⟩, ⟨0, ?_, by decide, fun s hs => ?_⟩, fun j hj => ?_, fun j hj => ?_, ?_, ?_, ⟨n, bg_0, hn, fun m a b => by rw [bg_m b, if_neg (fun q => q.elim (fun e => by omega) (fun e => by rw [nI_eq (by omega) (by omega)] at e; omega))]⟩⟩
  · show tm_lr M n c i = _
    rcases tm_ph_oth hq with ⟨rfl, rfl, rfl⟩ | ⟨rfl, rfl, rfl⟩ | ⟨rfl, rfl, rfl⟩ | ⟨rfl, rfl, rfl⟩ | rfl | rfl | hh
    · rw [bg_0]
      simp (disch := omega) only [tm_lr, tm_up_n, tm_up_i, tm_up_s, tm_uc_ne]
    · rw [bg_n (by omega)]
      simp (disch := omega) only [tm_lr, tm_up_n, tm_up_i, tm_up_s, tm_uc_ne]
      exact hA 2 1 1 rfl
    · rw [bg_3]
      simp (disch := omega) only [tm_lr, tm_up_n, tm_up_i, tm_up_s, tm_uc_ne]
    · rw [bg_5]
      simp (disch := omega) only [tm_lr, tm_up_n, tm_up_i, tm_up_s, tm_uc_ne]
    · obtain ⟨h1, rfl⟩ := tm_ph_3 hq
      rw [bg_c (by omega)]
      simp (disch := omega) only [tm_lr, tm_up_n, tm_uc_ne, tm_uc_at]
      exact if_pos ⟨by omega, h1⟩
    · obtain ⟨h1, rfl⟩ := tm_ph_34 hq
      rw [bg_h (by omega)]
      simp (disch := omega) only [tm_lr, tm_up_n, tm_uc_ne, tm_uc_at]
      exact if_pos ⟨by omega, h1⟩
    · rw [bg_n (by omega)]
      by_cases h1 : c = 1
      · subst h1
        unfold tm_lr
        rw [tm_up_i (by omega), tm_uc_ne _ _ (by omega), tm_up_n (by omega), tm_uc_ne _ _ (by omega), tm_up_n (by omega), tm_up_n (by omega), tm_up_n (by omega)]
        exact hA _ _ _ hq
      · rw [hc c h1 (by omega) (by omega) (by omega) (by omega)]
        exact hA _ _ _ hq
  · simp (disch := omega) only [tm_lr, tm_up_n, tm_up_i, tm_up_s, tm_uc_ne, Nat.add_zero]
  · have t1 : (1 ||| 2 ^ n).testBit m = (decide (0 = m) || decide (n = m)) := by
      rw [Nat.testBit_or, Nat.testBit_two_pow]
      exact congrArg (fun b => b || decide (n = m)) (Nat.testBit_two_pow (n := 0) (m := m))
    rw [bg_m hm, t1]
    by_cases e : m = 0 ∨ m = n
    · rw [if_pos (e.imp id (fun q => by rw [q])), if_pos (by rcases e with rfl | rfl <;> simp)]
    · rw [if_neg (fun q => e (q.imp id (fun q => (nI_eq (by omega) (by omega)).mp q))), if_neg (by simp; omega)]
  · simp (disch := omega) only [tm_lr, tm_up_n, tm_up_i, tm_up_s, tm_uc_ne, Nat.add_zero]
  · rw [bg_o (by omega), Nat.zero_testBit]
    rfl
  · rw [hc 18 (by omega) (by omega) (by omega) (by omega) (by omega), bg_n (by omega), bg_n (by omega)]
    exact hH j hj
  · rw [hc 33 (by omega) (by omega) (by omega) (by omega) (by omega), bg_n (by omega)]
    exact hE j hj
  · exact tm_wT_D (bg_n (by omega)) (fun k hk => bg_n (by omega)) (tm_wT_cg (hc _ (by omega) (by omega) (by omega) (by omega) (by omega)) (hc _ (by omega) (by omega) (by omega) (by omega) (by omega)) hT0)
  · exact tm_wT_D (bg_n (by omega)) (fun k hk => bg_n (by omega)) (tm_wT_cg (hc _ (by omega) (by omega) (by omega) (by omega) (by omega)) (hc _ (by omega) (by omega) (by omega) (by omega) (by omega)) hT1)
theorem pr_road (a0 : Int32) : tm_Pi tm_I l x 96 177 [.int a0] := by
  intro k M hk hI
  obtain ⟨n0, X, W, R, G, T, L, hK, _⟩ := tm_I_n hI
  rcases rng a0 4 24 (by decide) (by decide) with h | ⟨n, hn4, hn, rfl⟩
  · exact tm_fdp hI (by decide : 1 < 6) (by simp (disch := first | exact tm_inb_i (by omega) (by omega) | exact tm_cc rfl | exact tm_cat rfl | omega | exact nI_ne0 (by omega) (by omega) | exact nI_ne (by omega) (by omega) (by omega) | assumption) only [n_X11_road, e_il1, e_iconst, r_X11_within, e_if_ne, e_al0, r_X11_finding, e_iret, g_0_0, r_X10_layRoad, kn_1, kn_4, kn_24, b_X11_road_16, Option.bind_some, Option.toList_some, Option.toList_none, List.cons_append, List.nil_append, z_0, nI_add, pk_mul, pk_sub, pk_div, n_mod, nI_clamp, nI_leI, nI_ltI, nI_eq, le_T, le_F, lt_T, lt_F, eq_T, eq_F, n_i0, n_i1, eq_self, not_true_eq_false, not_false_eq_true, Bool.false_eq_true, ↓reduceIte, if_true, if_false, tm_up_n, tm_up_s, tm_up_i, ite_self, true_and, and_true, false_and, and_false, n_ofN, Nat.reduceAdd, Nat.reduceMul, Nat.reduceSub, Nat.zero_add, m_within, m_finding, h]) (by simp (disch := first | exact tm_inb_i (by omega) (by omega) | exact tm_cc rfl | exact tm_cat rfl | omega | exact nI_ne0 (by omega) (by omega) | exact nI_ne (by omega) (by omega) (by omega) | assumption) only [n_X12_road, e_il1, e_iconst, r_X12_in, e_if_ne, e_al0, r_X12_finding, e_iret, r_X12_begins, kn_1, kn_4, kn_24, b_X12_road_16, Option.bind_some, Option.toList_some, Option.toList_none, List.cons_append, List.nil_append, z_0, nI_add, pk_mul, pk_sub, pk_div, n_mod, nI_clamp, nI_leI, nI_ltI, nI_eq, le_T, le_F, lt_T, lt_F, eq_T, eq_F, n_i0, n_i1, eq_self, not_true_eq_false, not_false_eq_true, Bool.false_eq_true, ↓reduceIte, if_true, if_false, tm_up_n, tm_up_s, tm_up_i, ite_self, true_and, and_true, false_and, and_false, n_ofN, Nat.reduceAdd, Nat.reduceMul, Nat.reduceSub, Nat.zero_add, q_in, q_finding, h])
  · refine ⟨nI n, tm_lr M n, tm_beg (tm_lr M n) (nI n), (by simp (disch := first | exact tm_inb_i (by omega) (by omega) | exact tm_cc rfl | exact tm_cat rfl | omega | exact nI_ne0 (by omega) (by omega) | exact nI_ne (by omega) (by omega) (by omega) | assumption) only [n_X11_road, e_il1, e_iconst, r_X11_within, e_if_ne, e_al0, r_X11_finding, e_iret, g_0_0, r_X10_layRoad, kn_1, kn_4, kn_24, b_X11_road_16, Option.bind_some, Option.toList_some, Option.toList_none, List.cons_append, List.nil_append, z_0, nI_add, pk_mul, pk_sub, pk_div, n_mod, nI_clamp, nI_leI, nI_ltI, nI_eq, le_T, le_F, lt_T, lt_F, eq_T, eq_F, n_i0, n_i1, eq_self, not_true_eq_false, not_false_eq_true, Bool.false_eq_true, ↓reduceIte, if_true, if_false, tm_up_n, tm_up_s, tm_up_i, ite_self, true_and, and_true, false_and, and_false, n_ofN, Nat.reduceAdd, Nat.reduceMul, Nat.reduceSub, Nat.zero_add, m_within, m_layRoad]), (by simp (disch := first | exact tm_inb_i (by omega) (by omega) | exact tm_cc rfl | exact tm_cat rfl | omega | exact nI_ne0 (by omega) (by omega) | exact nI_ne (by omega) (by omega) (by omega) | assumption) only [n_X12_road, e_il1, e_iconst, r_X12_in, e_if_ne, e_al0, r_X12_finding, e_iret, r_X12_begins, kn_1, kn_4, kn_24, b_X12_road_16, Option.bind_some, Option.toList_some, Option.toList_none, List.cons_append, List.nil_append, z_0, nI_add, pk_mul, pk_sub, pk_div, n_mod, nI_clamp, nI_leI, nI_ltI, nI_eq, le_T, le_F, lt_T, lt_F, eq_T, eq_F, n_i0, n_i1, eq_self, not_true_eq_false, not_false_eq_true, Bool.false_eq_true, ↓reduceIte, if_true, if_false, tm_up_n, tm_up_s, tm_up_i, ite_self, true_and, and_true, false_and, and_false, n_ofN, Nat.reduceAdd, Nat.reduceMul, Nat.reduceSub, Nat.zero_add, q_in, m_begins]), ?_⟩
    have e96 : tm_lr M n 96 = M 96 := by simp (disch := omega) only [tm_lr, tm_up_n, tm_uc_ne]
    refine tm_I_set hI (tm_W_lr hn hI.1) ⟨n, X, 0, R, 0, T, L, ?_⟩ (fun c hc => by simp (disch := omega) only [tm_lr, tm_up_n, tm_uc_ne]) (by unfold tm_beg; rw [e96])
    obtain ⟨k0, k2, k3, k4, k5, k6, k8, kW, kR, kG, kH, kE, kZ⟩ := hK
    have k42 := k4.2
    exact ⟨⟨bg_0, hn4, hn⟩, by rw [bg_n (by omega)]; exact k2, ⟨bg_3, by omega⟩, by rw [bg_n (by omega)]; exact k4, ⟨bg_5, by omega⟩, by rw [bg_n (by omega)]; exact k6, by rw [bg_n (by omega)]; exact k8, fun w hw => by omega, tm_kR_cg (fun q _ _ => bg_n (by omega)) kR, fun g hg => by omega, fun i hi => Or.inl (bg_h (by omega)), tm_kE_cg (fun q _ _ => bg_n (by omega)) kE, fun s m _ _ _ => bg_h (by omega), fun s _ _ => bg_o (by omega)⟩
/-! images -/
def tm_cpr (f : Nat → Int32) (j : Nat) (g : Nat → Int32) : Nat → Int32 := fun i => if j ≤ i ∧ i < 1258 then f i else g i
theorem tm_cpr_s {f g : Nat → Int32} {j : Nat} (h : j < 1258) : tm_cpr f (j + 1) (upd g j (f j)) = tm_cpr f j g := by
  funext i
  unfold tm_cpr
  by_cases e : i = j
  · subst e
    rw [if_neg (by omega), if_pos (by omega), upd_s]
  · by_cases e2 : j ≤ i ∧ i < 1258
    · rw [if_pos (by omega), if_pos e2]
    · rw [if_neg (by omega), if_neg e2, upd_n e]
theorem tm_cpr_e {f g : Nat → Int32} : tm_cpr f 1258 g = g := by
  funext i
  exact if_neg (by omega)
theorem qim : ∀ (c j : Nat) (M : tm_M), j + c = 1258 → tm_ev d (tm_blk (Int.toNat 2520002)) [.ref 95, .int (nI j)] [] (tm_GG l x) M = tm_ev d (tm_blk (Int.toNat 2520027)) [.ref 95, .int (nI 1258)] [] (tm_GG l x) (tm_uc M 97 (tm_cpr (M 96) j (M 97))) := by
  intro c
  induction c with
  | zero =>
    intro j M h
    obtain rfl : j = 1258 := by omega
    rw [b_X12_image_2]
    simp (disch := first | exact tm_inb_i (by omega) (by omega) | exact tm_cc rfl | exact tm_cat rfl | omega | exact nI_ne0 (by omega) (by omega) | exact nI_ne (by omega) (by omega) (by omega) | assumption) only [e_iconst, e_is1i, e_is1r, e_is1u, e_gotow, e_il1, e_ic_ge, e_al0, g_95_1, g_95_0, e_ii1i, e_ii1r, e_ii1u, e_goto, p_95_2, e_dupi, e_dupr, g_95_3, e_iadd, p_95_3, e_iret, al_96, as_96, al_97, as_97, kn_0, kn_1, kn_1258, Option.bind_some, Option.toList_some, Option.toList_none, List.cons_append, List.nil_append, z_0, nI_add, pk_mul, pk_sub, pk_div, n_mod, nI_clamp, nI_leI, nI_ltI, nI_eq, le_T, le_F, lt_T, lt_F, eq_T, eq_F, n_i0, n_i1, eq_self, not_true_eq_false, not_false_eq_true, Bool.false_eq_true, ↓reduceIte, if_true, if_false, tm_up_n, tm_up_s, tm_up_i, ite_self, true_and, and_true, false_and, and_false, n_ofN, Nat.reduceAdd, Nat.reduceMul, Nat.reduceSub, Nat.zero_add]
    rw [tm_uc_same _ _ _ (by rw [tm_cpr_e])]
  | succ c ih =>
    intro j M h
    have hj : j < 1258 := by omega
    rw [b_X12_image_2]
    simp (disch := first | exact tm_inb_i (by omega) (by omega) | exact tm_cc rfl | exact tm_cat rfl | omega | exact nI_ne0 (by omega) (by omega) | exact nI_ne (by omega) (by omega) (by omega) | assumption) only [e_iconst, e_is1i, e_is1r, e_is1u, e_gotow, e_il1, e_ic_ge, e_al0, g_95_1, g_95_0, e_ii1i, e_ii1r, e_ii1u, e_goto, p_95_2, e_dupi, e_dupr, g_95_3, e_iadd, p_95_3, e_iret, al_96, as_96, al_97, as_97, kn_0, kn_1, kn_1258, Option.bind_some, Option.toList_some, Option.toList_none, List.cons_append, List.nil_append, z_0, nI_add, pk_mul, pk_sub, pk_div, n_mod, nI_clamp, nI_leI, nI_ltI, nI_eq, le_T, le_F, lt_T, lt_F, eq_T, eq_F, n_i0, n_i1, eq_self, not_true_eq_false, not_false_eq_true, Bool.false_eq_true, ↓reduceIte, if_true, if_false, tm_up_n, tm_up_s, tm_up_i, ite_self, true_and, and_true, false_and, and_false, n_ofN, Nat.reduceAdd, Nat.reduceMul, Nat.reduceSub, Nat.zero_add, ih (j + 1) _ (by omega)]
    rw [tm_up_at, tm_uc_up, tm_cpr_s hj]
theorem qre : ∀ (c j : Nat) (M : tm_M), j + c = 1258 → tm_ev d (tm_blk (Int.toNat 2530015)) [.ref 95, .int (nI j)] [] (tm_GG l x) M = tm_ev d (tm_blk (Int.toNat 2530040)) [.ref 95, .int (nI 1258)] [] (tm_GG l x) (tm_uc M 96 (tm_cpr (M 97) j (M 96))) := by
  intro c
  induction c with
  | zero =>
    intro j M h
    obtain rfl : j = 1258 := by omega
    rw [b_X12_restore_15]
    simp (disch := first | exact tm_inb_i (by omega) (by omega) | exact tm_cc rfl | exact tm_cat rfl | omega | exact nI_ne0 (by omega) (by omega) | exact nI_ne (by omega) (by omega) (by omega) | assumption) only [e_al0, g_95_2, e_if_ne, e_iconst, r_X12_finding, e_iret, e_is1i, e_is1r, e_is1u, e_gotow, e_il1, e_ic_ge, g_95_0, g_95_1, e_ii1i, e_ii1r, e_ii1u, e_goto, al_96, as_96, al_97, as_97, kn_0, kn_1, kn_2, kn_1258, b_X12_restore_13, Option.bind_some, Option.toList_some, Option.toList_none, List.cons_append, List.nil_append, z_0, nI_add, pk_mul, pk_sub, pk_div, n_mod, nI_clamp, nI_leI, nI_ltI, nI_eq, le_T, le_F, lt_T, lt_F, eq_T, eq_F, n_i0, n_i1, eq_self, not_true_eq_false, not_false_eq_true, Bool.false_eq_true, ↓reduceIte, if_true, if_false, tm_up_n, tm_up_s, tm_up_i, ite_self, true_and, and_true, false_and, and_false, n_ofN, Nat.reduceAdd, Nat.reduceMul, Nat.reduceSub, Nat.zero_add]
    rw [tm_uc_same _ _ _ (by rw [tm_cpr_e])]
  | succ c ih =>
    intro j M h
    have hj : j < 1258 := by omega
    rw [b_X12_restore_15]
    simp (disch := first | exact tm_inb_i (by omega) (by omega) | exact tm_cc rfl | exact tm_cat rfl | omega | exact nI_ne0 (by omega) (by omega) | exact nI_ne (by omega) (by omega) (by omega) | assumption) only [e_al0, g_95_2, e_if_ne, e_iconst, r_X12_finding, e_iret, e_is1i, e_is1r, e_is1u, e_gotow, e_il1, e_ic_ge, g_95_0, g_95_1, e_ii1i, e_ii1r, e_ii1u, e_goto, al_96, as_96, al_97, as_97, kn_0, kn_1, kn_2, kn_1258, b_X12_restore_13, Option.bind_some, Option.toList_some, Option.toList_none, List.cons_append, List.nil_append, z_0, nI_add, pk_mul, pk_sub, pk_div, n_mod, nI_clamp, nI_leI, nI_ltI, nI_eq, le_T, le_F, lt_T, lt_F, eq_T, eq_F, n_i0, n_i1, eq_self, not_true_eq_false, not_false_eq_true, Bool.false_eq_true, ↓reduceIte, if_true, if_false, tm_up_n, tm_up_s, tm_up_i, ite_self, true_and, and_true, false_and, and_false, n_ofN, Nat.reduceAdd, Nat.reduceMul, Nat.reduceSub, Nat.zero_add, ih (j + 1) _ (by omega)]
    rw [tm_up_at, tm_uc_up, tm_cpr_s hj]
theorem pr_image : tm_Pi tm_I l x 135 252 [] := by
  intro k M hk hI
  obtain ⟨c, hc, e1, e2, e3, e4⟩ := hI.2.2.2.2.2.1
  refine ⟨nI (c + 1), tm_up (tm_tWk M) 0 8 (nI (c + 1)), tm_up (tm_up (tm_uc (tm_up (tm_tWk M) 0 8 (nI (c + 1))) 97 (tm_cpr (M 96) 0 (M 97))) 95 2 (nI 1)) 95 3 (nI (c + 1)), ?_, ?_, ?_⟩
  · simp (disch := first | exact tm_inb_i (by omega) (by omega) | exact tm_cc rfl | exact tm_cat rfl | omega | exact nI_ne0 (by omega) (by omega) | exact nI_ne (by omega) (by omega) (by omega) | assumption) only [n_X11_image, e_al0, g_0_1, g_0_0, r_X10_takeAll, e_dupi, e_dupr, g_0_8, e_iconst, e_iadd, p_0_8, e_iret, kn_1, Option.bind_some, Option.toList_some, Option.toList_none, List.cons_append, List.nil_append, z_0, nI_add, pk_mul, pk_sub, pk_div, n_mod, nI_clamp, nI_leI, nI_ltI, nI_eq, le_T, le_F, lt_T, lt_F, eq_T, eq_F, n_i0, n_i1, eq_self, not_true_eq_false, not_false_eq_true, Bool.false_eq_true, ↓reduceIte, if_true, if_false, tm_up_n, tm_up_s, tm_up_i, ite_self, true_and, and_true, false_and, and_false, n_ofN, Nat.reduceAdd, Nat.reduceMul, Nat.reduceSub, Nat.zero_add, m_tWk, tm_tWk_o, e1]
  · have h := qim (d := 999) (l := l) (x := x) 1258 0 (tm_up (tm_tWk M) 0 8 (nI (c + 1))) rfl
    have f97 : tm_up (tm_tWk M) 0 8 (nI (c + 1)) 97 = M 97 := by rw [tm_up_n (by decide), tm_tWk_o (by omega)]
    have f96 : tm_up (tm_tWk M) 0 8 (nI (c + 1)) 96 = M 96 := by rw [tm_up_n (by decide), tm_tWk_o (by omega)]
    have f95 : tm_tWk M 95 3 = nI c := by rw [tm_tWk_o (by omega)]; exact e2
    rw [f96, f97] at h
    have b1 : tm_ev 999 (tm_blk (Int.toNat 2520027)) [.ref 95, .int (nI 1258)] [] (tm_GG l x) (tm_uc (tm_up (tm_tWk M) 0 8 (nI (c + 1))) 97 (tm_cpr (M 96) 0 (M 97))) = some (some (.int (nI (c + 1))), tm_GG l x, tm_up (tm_up (tm_uc (tm_up (tm_tWk M) 0 8 (nI (c + 1))) 97 (tm_cpr (M 96) 0 (M 97))) 95 2 (nI 1)) 95 3 (nI (c + 1))) := by
      rw [b_X12_image_27]
      have p1 : ∀ {is : List Instr} {L st : List Value} {M : tm_M}, tm_ev 999 (.putfield 1202 :: is) L (.int (nI 1) :: .ref 95 :: st) (tm_GG l x) M = tm_ev 999 is L st (tm_GG l x) (tm_up M 95 2 (nI 1)) := p_95_2 (by decide +kernel)
      simp (disch := first | exact tm_inb_i (by omega) (by omega) | exact tm_cc rfl | exact tm_cat rfl | omega | exact nI_ne0 (by omega) (by omega) | exact nI_ne (by omega) (by omega) (by omega) | assumption) only [e_iconst, e_is1i, e_is1r, e_is1u, e_gotow, e_il1, e_ic_ge, e_al0, g_95_1, g_95_0, e_ii1i, e_ii1r, e_ii1u, e_goto, p_95_2, e_dupi, e_dupr, g_95_3, e_iadd, p_95_3, e_iret, al_96, as_96, al_97, as_97, kn_0, kn_1, kn_1258, Option.bind_some, Option.toList_some, Option.toList_none, List.cons_append, List.nil_append, z_0, nI_add, pk_mul, pk_sub, pk_div, n_mod, nI_clamp, nI_leI, nI_ltI, nI_eq, le_T, le_F, lt_T, lt_F, eq_T, eq_F, n_i0, n_i1, eq_self, not_true_eq_false, not_false_eq_true, Bool.false_eq_true, ↓reduceIte, if_true, if_false, tm_up_n, tm_up_s, tm_up_i, ite_self, true_and, and_true, false_and, and_false, n_ofN, Nat.reduceAdd, Nat.reduceMul, Nat.reduceSub, Nat.zero_add, p1, tm_uc_ne, f95]
    rw [← b1, ← h]
    simp (disch := first | exact tm_inb_i (by omega) (by omega) | exact tm_cc rfl | exact tm_cat rfl | omega | exact nI_ne0 (by omega) (by omega) | exact nI_ne (by omega) (by omega) (by omega) | assumption) only [n_X12_image, e_iconst, e_is1i, e_is1r, e_is1u, e_gotow, e_il1, e_ic_ge, e_al0, g_95_1, g_95_0, e_ii1i, e_ii1r, e_ii1u, e_goto, p_95_2, e_dupi, e_dupr, g_95_3, e_iadd, p_95_3, e_iret, al_96, as_96, al_97, as_97, kn_0, kn_1, kn_1258, Option.bind_some, Option.toList_some, Option.toList_none, List.cons_append, List.nil_append, z_0, nI_add, pk_mul, pk_sub, pk_div, n_mod, nI_clamp, nI_leI, nI_ltI, nI_eq, le_T, le_F, lt_T, lt_F, eq_T, eq_F, n_i0, n_i1, eq_self, not_true_eq_false, not_false_eq_true, Bool.false_eq_true, ↓reduceIte, if_true, if_false, tm_up_n, tm_up_s, tm_up_i, ite_self, true_and, and_true, false_and, and_false, n_ofN, Nat.reduceAdd, Nat.reduceMul, Nat.reduceSub, Nat.zero_add]
  · obtain ⟨i0, i00, i1, i2, ⟨s0, s1, s2, s3⟩, i4, i5⟩ := hI
    have hq : ∀ c', c' ≠ 0 → c' ≠ 95 → c' ≠ 97 → c' < 35 ∨ 68 < c' → tm_up (tm_up (tm_uc (tm_up (tm_tWk M) 0 8 (nI (c + 1))) 97 (tm_cpr (M 96) 0 (M 97))) 95 2 (nI 1)) 95 3 (nI (c + 1)) c' = M c' := fun c' a1 a2 a3 a4 => by rw [tm_up_n a2, tm_up_n a2, tm_uc_ne _ _ a3, tm_up_n a1, tm_tWk_o (by omega)]
    have hd : ∀ q, q < 1258 → tm_cpr (M 96) 0 (M 97) q = M 96 q := fun q hq => if_pos ⟨by omega, hq⟩
    have wl : ∀ c', tm_wc c' = true → 1 ≤ c' ∧ c' ≤ 34 := fun c' q => tm_wc_le q
    refine ⟨?_, ?_, ?_, ?_, ⟨?_, ?_, ?_, ?_⟩, ?_, ?_⟩
    · rw [hq 96 (by decide) (by decide) (by decide) (by decide)]
      exact tm_W_cg (fun c' q => by have := wl c' q; exact hq _ (by omega) (by omega) (by omega) (by omega)) i0
    · rw [hq 96 (by decide) (by decide) (by decide) (by decide)]
      exact i00
    · unfold tm_rF
      rw [hq 94 (by decide) (by decide) (by decide) (by decide), hq 98 (by decide) (by decide) (by decide) (by decide)]
      exact i1
    · unfold tm_rV
      rw [hq 80 (by decide) (by decide) (by decide) (by decide), hq 105 (by decide) (by decide) (by decide) (by decide), hq 79 (by decide) (by decide) (by decide) (by decide), tm_up_i (by decide : (23 : Nat) ≠ 3), tm_up_i (by decide : (23 : Nat) ≠ 2), tm_uc_ne _ _ (by decide : (95 : Nat) ≠ 97), tm_up_n (by decide : (95 : Nat) ≠ 0), tm_tWk_o (by omega)]
      exact i2
    · exact tm_rS_cg (by rintro c (rfl | rfl | rfl | rfl | rfl) <;> exact hq _ (by decide) (by decide) (by decide) (by decide)) s0
    · exact tm_rS_cg (by rintro c (rfl | rfl | rfl | rfl | rfl) <;> exact hq _ (by decide) (by decide) (by decide) (by decide)) s1
    · exact tm_rS_cg (by rintro c (rfl | rfl | rfl | rfl | rfl) <;> exact hq _ (by decide) (by decide) (by decide) (by decide)) s2
    · exact tm_rS_cg (by rintro c (rfl | rfl | rfl | rfl | rfl) <;> exact hq _ (by decide) (by decide) (by decide) (by decide)) s3
    · refine ⟨c + 1, by omega, ?_, ?_, ?_, fun _ => ⟨?_, ?_⟩⟩
      · rw [tm_up_n (by decide), tm_up_n (by decide), tm_uc_ne _ _ (by decide), tm_up_s]
      · rw [tm_up_s]
      · rw [tm_up_i (by decide), tm_up_s, if_neg (by omega)]
      · rw [tm_up_n (by decide : (97 : Nat) ≠ 95), tm_up_n (by decide : (97 : Nat) ≠ 95), tm_uc_at]
        refine tm_W_D hd (tm_W_cg (M := tm_tWk M) (fun c' q => ?_) (tm_W_cp tm_tWk_i i0))
        have := wl c' q
        rw [tm_up_n (by omega), tm_up_n (by omega), tm_uc_ne _ _ (by omega), tm_up_n (by omega)]
      · rw [tm_up_n (by decide : (97 : Nat) ≠ 95), tm_up_n (by decide : (97 : Nat) ≠ 95), tm_uc_at]
        obtain ⟨n, X, W, R, G, T, L, hK⟩ := i00
        exact ⟨n, X, W, R, G, T, L, tm_OK_cg hK (fun q hq => hd q (by omega))⟩
    · unfold tm_rL
      rw [hq 100 (by decide) (by decide) (by decide) (by decide)]
      exact i5
theorem pr_restore : tm_Pi tm_I l x 136 253 [] := by
  intro k M hk hI
  obtain ⟨c, hc, e1, e2, e3, e4⟩ := hI.2.2.2.2.2.1
  by_cases h : c = 0
  · subst h
    rw [if_pos rfl] at e3
    exact tm_fdp hI (by decide : 2 < 6) (by simp (disch := first | exact tm_inb_i (by omega) (by omega) | exact tm_cc rfl | exact tm_cat rfl | omega | exact nI_ne0 (by omega) (by omega) | exact nI_ne (by omega) (by omega) (by omega) | assumption) only [n_X11_restore, e_al0, g_0_8, e_if_ne, e_iconst, r_X11_finding, e_iret, g_0_0, g_0_1, r_X10_takeAll, g_1_0, g_35_0, g_2_0, g_36_0, kn_2, b_X11_restore_13, Option.bind_some, Option.toList_some, Option.toList_none, List.cons_append, List.nil_append, z_0, nI_add, pk_mul, pk_sub, pk_div, n_mod, nI_clamp, nI_leI, nI_ltI, nI_eq, le_T, le_F, lt_T, lt_F, eq_T, eq_F, n_i0, n_i1, eq_self, not_true_eq_false, not_false_eq_true, Bool.false_eq_true, ↓reduceIte, if_true, if_false, tm_up_n, tm_up_s, tm_up_i, ite_self, true_and, and_true, false_and, and_false, n_ofN, Nat.reduceAdd, Nat.reduceMul, Nat.reduceSub, Nat.zero_add, m_within, m_finding, e1]) (by simp (disch := first | exact tm_inb_i (by omega) (by omega) | exact tm_cc rfl | exact tm_cat rfl | omega | exact nI_ne0 (by omega) (by omega) | exact nI_ne (by omega) (by omega) (by omega) | assumption) only [n_X12_restore, e_al0, g_95_2, e_if_ne, e_iconst, r_X12_finding, e_iret, e_is1i, e_is1r, e_is1u, e_gotow, e_il1, e_ic_ge, g_95_0, g_95_1, e_ii1i, e_ii1r, e_ii1u, e_goto, al_96, as_96, al_97, as_97, kn_0, kn_1, kn_2, kn_1258, b_X12_restore_13, b_X12_restore_15, b_X12_restore_40, Option.bind_some, Option.toList_some, Option.toList_none, List.cons_append, List.nil_append, z_0, nI_add, pk_mul, pk_sub, pk_div, n_mod, nI_clamp, nI_leI, nI_ltI, nI_eq, le_T, le_F, lt_T, lt_F, eq_T, eq_F, n_i0, n_i1, eq_self, not_true_eq_false, not_false_eq_true, Bool.false_eq_true, ↓reduceIte, if_true, if_false, tm_up_n, tm_up_s, tm_up_i, ite_self, true_and, and_true, false_and, and_false, n_ofN, Nat.reduceAdd, Nat.reduceMul, Nat.reduceSub, Nat.zero_add, q_in, q_finding, e3])
  · obtain ⟨w, hK⟩ := e4 h
    rw [if_neg h] at e3
    obtain ⟨n, X, W, R, G, T, L, hK⟩ := hK
    have ep : M 36 0 = nI n := (w.1 2 0 0 rfl).trans hK.1.1
    have en : tm_tWn M 2 0 = nI n := (tm_tWn_i 2 0 rfl).trans ep
    have f97 : tm_tWn M 97 = M 97 := tm_tWn_o (by omega)
    have f96 : tm_tWn M 96 = M 96 := tm_tWn_o (by omega)
    refine ⟨nI n, tm_tWn M, tm_uc (tm_tWn M) 96 (tm_cpr (M 97) 0 (M 96)), ?_, ?_, ?_⟩
    · simp (disch := first | exact tm_inb_i (by omega) (by omega) | exact tm_cc rfl | exact tm_cat rfl | omega | exact nI_ne0 (by omega) (by omega) | exact nI_ne (by omega) (by omega) (by omega) | assumption) only [n_X11_restore, e_al0, g_0_8, e_if_ne, e_iconst, r_X11_finding, e_iret, g_0_0, g_0_1, r_X10_takeAll, g_1_0, g_35_0, g_2_0, g_36_0, kn_2, b_X11_restore_13, Option.bind_some, Option.toList_some, Option.toList_none, List.cons_append, List.nil_append, z_0, nI_add, pk_mul, pk_sub, pk_div, n_mod, nI_clamp, nI_leI, nI_ltI, nI_eq, le_T, le_F, lt_T, lt_F, eq_T, eq_F, n_i0, n_i1, eq_self, not_true_eq_false, not_false_eq_true, Bool.false_eq_true, ↓reduceIte, if_true, if_false, tm_up_n, tm_up_s, tm_up_i, ite_self, true_and, and_true, false_and, and_false, n_ofN, Nat.reduceAdd, Nat.reduceMul, Nat.reduceSub, Nat.zero_add, m_tWn, e1, en]
    · have h := qre (d := 999) (l := l) (x := x) 1258 0 (tm_tWn M) rfl
      rw [f96, f97] at h
      have f95 : tm_tWn M 95 2 = nI 1 := by rw [tm_tWn_o (by omega)]; exact e3
      have b1 : tm_ev 999 (tm_blk (Int.toNat 2530040)) [.ref 95, .int (nI 1258)] [] (tm_GG l x) (tm_uc (tm_tWn M) 96 (tm_cpr (M 97) 0 (M 96))) = some (some (.int (nI n)), tm_GG l x, tm_uc (tm_tWn M) 96 (tm_cpr (M 97) 0 (M 96))) := by
        rw [b_X12_restore_40]
        simp (disch := first | exact tm_inb_i (by omega) (by omega) | exact tm_cc rfl | exact tm_cat rfl | omega | exact nI_ne0 (by omega) (by omega) | exact nI_ne (by omega) (by omega) (by omega) | assumption) only [e_al0, g_95_2, e_if_ne, e_iconst, r_X12_finding, e_iret, e_is1i, e_is1r, e_is1u, e_gotow, e_il1, e_ic_ge, g_95_0, g_95_1, e_ii1i, e_ii1r, e_ii1u, e_goto, al_96, as_96, al_97, as_97, kn_0, kn_1, kn_2, kn_1258, b_X12_restore_13, Option.bind_some, Option.toList_some, Option.toList_none, List.cons_append, List.nil_append, z_0, nI_add, pk_mul, pk_sub, pk_div, n_mod, nI_clamp, nI_leI, nI_ltI, nI_eq, le_T, le_F, lt_T, lt_F, eq_T, eq_F, n_i0, n_i1, eq_self, not_true_eq_false, not_false_eq_true, Bool.false_eq_true, ↓reduceIte, if_true, if_false, tm_up_n, tm_up_s, tm_up_i, ite_self, true_and, and_true, false_and, and_false, n_ofN, Nat.reduceAdd, Nat.reduceMul, Nat.reduceSub, Nat.zero_add, tm_uc_at, show tm_cpr (M 97) 0 (M 96) 0 = nI n from hK.1.1]
      rw [← b1, ← h]
      simp (disch := first | exact tm_inb_i (by omega) (by omega) | exact tm_cc rfl | exact tm_cat rfl | omega | exact nI_ne0 (by omega) (by omega) | exact nI_ne (by omega) (by omega) (by omega) | assumption) only [n_X12_restore, e_al0, g_95_2, e_if_ne, e_iconst, r_X12_finding, e_iret, e_is1i, e_is1r, e_is1u, e_gotow, e_il1, e_ic_ge, g_95_0, g_95_1, e_ii1i, e_ii1r, e_ii1u, e_goto, al_96, as_96, al_97, as_97, kn_0, kn_1, kn_2, kn_1258, b_X12_restore_13, Option.bind_some, Option.toList_some, Option.toList_none, List.cons_append, List.nil_append, z_0, nI_add, pk_mul, pk_sub, pk_div, n_mod, nI_clamp, nI_leI, nI_ltI, nI_eq, le_T, le_F, lt_T, lt_F, eq_T, eq_F, n_i0, n_i1, eq_self, not_true_eq_false, not_false_eq_true, Bool.false_eq_true, ↓reduceIte, if_true, if_false, tm_up_n, tm_up_s, tm_up_i, ite_self, true_and, and_true, false_and, and_false, n_ofN, Nat.reduceAdd, Nat.reduceMul, Nat.reduceSub, Nat.zero_add, f95]
    · have hd : ∀ q, q < 1258 → tm_cpr (M 97) 0 (M 96) q = M 97 q := fun q hq => if_pos ⟨by omega, hq⟩
      exact tm_I_set hI (tm_W_D hd (tm_W_cp tm_tWn_i w)) ⟨n, X, W, R, G, T, L, tm_OK_cg hK (fun q hq => hd q (by omega))⟩ (fun c' q => tm_tWn_o (by omega)) rfl
end TMO
