/-! part 80: the law of a pace -/
def nmv (a b c h e f : Int32) (i : Nat) : Int32 := if i = 0 then a else if i = 1 then b else if i = 2 then c else if i = 3 then h else if i = 4 then e else f
def xt (nm b : Nat → Int32) (z : Nat) : Int32 := (xe nm (px_P b z px_F 0 0 (0, false)).1 []).headD 0
def pcl (v : Int32) : Nat := if v < nI 1 then 1 else if nI 99 < v then 99 else v.toNatClampNeg
def xP (D : Nat → Int32) (a b : Int32) (k : Nat) (e f : Int32) : Nat := pcl (if D 1076 = nI 0 then a + D (10 + k) / nI 2 + b / nI 6 else xt (nmv a b (D (10 + k)) (D 1) e f) (fun j => D (1078 + j)) (D 1076).toNatClampNeg)
theorem pcl_rng (v : Int32) : 1 ≤ pcl v ∧ pcl v ≤ 99 := by
  unfold pcl
  rcases rng v 1 99 (by decide) (by decide) with h | ⟨j, j1, j2, rfl⟩
  · by_cases h1 : v < nI 1
    · rw [if_pos h1]; omega
    · rw [if_neg h1]
      by_cases h2 : nI 99 < v
      · rw [if_pos h2]; omega
      · exact absurd ⟨h1, h2⟩ h
  · rw [if_neg (fun z => by have := (nI_ltI (by omega) (by decide)).mp z; omega), if_neg (fun z => by have := (nI_ltI (by decide) (by omega)).mp z; omega), nI_clamp (by omega)]
    omega
theorem pcl_m (v : Int32) : (if nI 1 < (if v < nI 99 then v else nI 99) then (if v < nI 99 then v else nI 99) else nI 1) = nI (pcl v) := by
  unfold pcl
  rcases rng v 1 99 (by decide) (by decide) with h | ⟨j, j1, j2, rfl⟩
  · by_cases h1 : v < nI 1
    · rw [if_pos h1, if_pos (Int32.lt_trans h1 (by decide +kernel)), if_neg (Int32.not_lt.mpr (Int32.le_of_lt h1))]
    · rw [if_neg h1]
      by_cases h2 : nI 99 < v
      · rw [if_pos h2, if_neg (Int32.not_lt.mpr (Int32.le_of_lt h2)), if_pos (by decide +kernel)]
      · exact absurd ⟨h1, h2⟩ h
  · rw [if_neg (fun z => by have := (nI_ltI (by omega) (by decide)).mp z; omega : ¬ nI j < nI 1), if_neg (fun z => by have := (nI_ltI (by decide) (by omega)).mp z; omega : ¬ nI 99 < nI j), nI_clamp (by omega)]
    by_cases q : j < 99
    · rw [if_pos ((nI_ltI (by omega) (by decide)).mpr q)]
      by_cases q1 : 1 < j
      · rw [if_pos ((nI_ltI (by decide) (by omega)).mpr q1)]
      · obtain rfl : j = 1 := by omega
        rw [if_neg (by decide +kernel)]
    · obtain rfl : j = 99 := by omega
      decide +kernel
theorem xe_cg {nm nm' : Nat → Int32} (h : ∀ i, i < 6 → nm i = nm' i) : ∀ cs st, xe nm cs st = xe nm' cs st := by
  intro cs
  induction cs with
  | nil => intro st; rfl
  | cons c cs ih =>
    intro st
    have e : xs nm c st = xs nm' c st := by
      unfold xs
      by_cases h1 : c < nI 0
      · by_cases h2 : c < -6
        · rw [if_neg (not_not_intro h1), if_neg (not_not_intro h2), if_neg (not_not_intro h1), if_neg (not_not_intro h2)]
        · obtain ⟨j, hj, e⟩ := nmx h1 h2
          rw [e, nI_clamp (by omega), h j hj]
      · rw [if_pos h1, if_pos h1]
    show xe nm cs (xs nm c st) = xe nm' cs (xs nm' c st)
    rw [e, ih]
theorem xt_cg {nm nm' b : Nat → Int32} {z : Nat} (h : ∀ i, i < 6 → nm i = nm' i) : xt nm b z = xt nm' b z := by
  unfold xt
  rw [xe_cg h]
theorem xt_ok {b : Nat → Int32} {z : Nat} (hb : ∀ k, k < z → ∃ v, v < 256 ∧ b k = nI v) (hz : z ≤ 60) (nm : Nat → Int32) : xe nm (px_P b z px_F 0 0 (0, false)).1 [] = [xt nm b z] := by
  obtain ⟨v, _, q2, _⟩ := q_reads (l := 0) (x := fun _ => 0) (b := b) (z := z) (fr := 0) (M := fun c i => if c = 99 then nm i else if c = 96 then b i else if c = 100 then nI (97 + i) else 0) (d := 45) (by
    refine ⟨by rw [tm_up_i (by decide), tm_up_s], tm_up_s, fun k hk => ?_, hb, hz, by decide, fun i hi => ?_⟩
    · rw [tm_up_n (by decide), tm_up_n (by decide), Nat.zero_add]; rfl
    · rw [tm_up_n (by decide), tm_up_n (by decide)]; rfl) (by decide)
  have e : xe nm (px_P b z px_F 0 0 (0, false)).1 [] = v :: [] := q2 []
  unfold xt
  rw [e]
  rfl
section TPC
variable {d l : Nat} {x : Nat → Int32} {M : tm_M} {D : Nat → Int32}
/-- what the law of a pace sees of the class -/
def eP (M : tm_M) (D : Nat → Int32) : Prop := (∀ k, k < 24 → M 3 k = D (10 + k)) ∧ M 2 1 = D 1 ∧ tm_wT M 0 D 0
theorem eP_cg {M' : tm_M} (h2 : M' 2 = M 2) (h3 : M' 3 = M 3) (h27 : M' 27 = M 27) (h28 : M' 28 = M 28) (h : eP M D) : eP M' D := by
  obtain ⟨a, b, c⟩ := h
  exact ⟨fun k hk => by rw [h3]; exact a k hk, by rw [h2]; exact b, tm_wT_cg h27 h28 c⟩
theorem eP_W {k : Nat} (hI : tm_I k M) : eP M (M 96) := ⟨fun k hk => wA hI (tm_ph_if hk), wA hI rfl, hI.1.2.2.2.2.2.1⟩
theorem m_paceOf (h : eP M D) {k : Nat} (hk : k < 24) {a b e f : Int32} : ∃ M1, tm_call (d + 2) 25 [.ref 69, .int a, .int b, .int (nI k), .int e, .int f] (tm_GG l x) M = some (some (.int (nI (xP D a b k e f))), tm_GG l x, M1) ∧ ∀ c, c ≠ 29 → c ≠ 73 → M1 c = M c := by
  obtain ⟨h3, h2, z, hz, hz1, hz0, hzp, hb⟩ := h
  have e3 := h3 k hk
  unfold xP
  rw [show D 1076 = nI z from hz1]
  by_cases q : z = 0
  · subst q
    have e27 : M 27 1 = nI 0 := hz0 rfl
    rw [if_pos rfl]
    refine ⟨M, ?_, fun _ _ _ => rfl⟩
    simp (disch := first | exact tm_inb_i (by omega) (by omega) | exact tm_cc rfl | exact tm_cat rfl | omega | exact nI_ne0 (by omega) (by omega) | exact nI_ne (by omega) (by omega) (by omega) | exact tm_cS (by omega) | assumption) only [n_X3_paceOf, e_al0, g_69_1, g_1_3, g_35_3, e_iconst, e_as6i, e_as6r, e_as6u, g_1_0, g_35_0, g_2_4, g_36_4, e_il3, e_is7i, e_is7r, e_is7u, e_il1, e_il7, e_idiv, e_iadd, e_il2, e_is8i, e_is8r, e_is8u, e_al6, g_27_1, g_30_1, g_61_1, g_64_1, e_if_le, g_69_5, g_2_1, g_36_1, e_il4, e_il5, r_X8_value, e_gotow, e_il8, e_mmin, e_mmax, e_iret, al_3, as_3, arn_26_0, arn_26_1, al_37, as_37, arn_60_0, arn_60_1, al_73, as_73, kn_0, kn_1, kn_2, kn_3, kn_4, kn_5, kn_6, kn_99, b_X3_paceOf_111, Option.bind_some, Option.toList_some, Option.toList_none, List.cons_append, List.nil_append, z_0, nI_add, pk_mul, pk_sub, pk_div, n_mod, nI_clamp, nI_leI, nI_ltI, nI_eq, le_T, le_F, lt_T, lt_F, eq_T, eq_F, n_i0, n_i1, eq_self, not_true_eq_false, not_false_eq_true, Bool.false_eq_true, ↓reduceIte, if_true, if_false, tm_up_n, tm_up_s, tm_up_i, ite_self, true_and, and_true, false_and, and_false, n_ofN, Nat.reduceAdd, Nat.reduceMul, Nat.reduceSub, Nat.zero_add, e3, e27, pcl_m]
  · obtain ⟨e0, ep, e60, e27, code, g1, g2, g3⟩ := hzp q
    have e27' : M 27 1 = nI e0 := e27
    have hzn : ¬ nI z = nI 0 := nI_ne q (by omega) (by decide)
    rw [if_neg hzn, nI_clamp (by omega)]
    have hx := xt_ok (b := fun j => D (1078 + j)) (z := z) (fun k hk => hb k (by omega)) hz
    have g1' : px_P (fun j => D (1078 + j)) z px_F 0 0 (0, false) = (code, z, false) := g1
    rw [g1'] at hx
    obtain ⟨M1, r, fr⟩ := m_value_27 (d := d) (l := l) (x := x) (M := tm_up (tm_up (tm_up (tm_up (tm_up (tm_up M 73 0 a) 73 1 b) 73 2 (D (10 + k))) 73 3 (D 1)) 73 4 e) 73 5 f) (cs := code) (v := xt (nmv a b (D (10 + k)) (D 1) e f) (fun j => D (1078 + j)) z) (by omega) (by
        rw [tm_up_n (by decide), tm_up_n (by decide), tm_up_n (by decide), tm_up_n (by decide), tm_up_n (by decide), tm_up_n (by decide), g2]; exact e27) (fun j hj => by
        rw [tm_up_n (by decide), tm_up_n (by decide), tm_up_n (by decide), tm_up_n (by decide), tm_up_n (by decide), tm_up_n (by decide)]; exact g3 j (by omega)) (by
        rw [← hx]
        refine xe_cg (fun i hi => ?_) _ _
        rcases (by omega : i = 0 ∨ i = 1 ∨ i = 2 ∨ i = 3 ∨ i = 4 ∨ i = 5) with rfl | rfl | rfl | rfl | rfl | rfl <;> rfl)
    refine ⟨M1, ?_, fun c h1 h2 => ?_⟩
    · simp (disch := first | exact tm_inb_i (by omega) (by omega) | exact tm_cc rfl | exact tm_cat rfl | omega | exact nI_ne0 (by omega) (by omega) | exact nI_ne (by omega) (by omega) (by omega) | exact tm_cS (by omega) | assumption) only [n_X3_paceOf, e_al0, g_69_1, g_1_3, g_35_3, e_iconst, e_as6i, e_as6r, e_as6u, g_1_0, g_35_0, g_2_4, g_36_4, e_il3, e_is7i, e_is7r, e_is7u, e_il1, e_il7, e_idiv, e_iadd, e_il2, e_is8i, e_is8r, e_is8u, e_al6, g_27_1, g_30_1, g_61_1, g_64_1, e_if_le, g_69_5, g_2_1, g_36_1, e_il4, e_il5, r_X8_value, e_gotow, e_il8, e_mmin, e_mmax, e_iret, al_3, as_3, arn_26_0, arn_26_1, al_37, as_37, arn_60_0, arn_60_1, al_73, as_73, kn_0, kn_1, kn_2, kn_3, kn_4, kn_5, kn_6, kn_99, b_X3_paceOf_111, Option.bind_some, Option.toList_some, Option.toList_none, List.cons_append, List.nil_append, z_0, nI_add, pk_mul, pk_sub, pk_div, n_mod, nI_clamp, nI_leI, nI_ltI, nI_eq, le_T, le_F, lt_T, lt_F, eq_T, eq_F, n_i0, n_i1, eq_self, not_true_eq_false, not_false_eq_true, Bool.false_eq_true, ↓reduceIte, if_true, if_false, tm_up_n, tm_up_s, tm_up_i, ite_self, true_and, and_true, false_and, and_false, n_ofN, Nat.reduceAdd, Nat.reduceMul, Nat.reduceSub, Nat.zero_add, e3, e27', h2, r, pcl_m]
    · rw [fr c h1, tm_up_n h2, tm_up_n h2, tm_up_n h2, tm_up_n h2, tm_up_n h2, tm_up_n h2]
/-- the reference's text, told -/
theorem q_tells {u z : Nat} (hu : u < 2) (hz : z ≤ 60) (h1 : M 96 (1076 + u) = nI z) (hb : ∀ k, k < z → ∃ v, v < 256 ∧ M 96 (1078 + 60 * u + k) = nI v) (hL : ∀ i, i < 6 → M 100 i = nI (97 + i)) : ∃ M1, tm_call (d + 46) 175 [.ref 95, .int (nI u)] (tm_GG l x) M = some (some (.int (xt (M 99) (fun k => M 96 (1078 + 60 * u + k)) z)), tm_GG l x, M1) ∧ (∀ c, c ≠ 95 → M1 c = M c) ∧ ∀ j, j ≠ 5 → j ≠ 6 → j ≠ 7 → j ≠ 8 → j ≠ 9 → M1 95 j = M 95 j := by
  have Hr : pH (tm_up (tm_up M 95 5 (nI (1078 + 60 * u))) 95 6 (nI z)) (fun k => M 96 (1078 + 60 * u + k)) z (1078 + 60 * u) := by
    refine ⟨by rw [tm_up_i (by decide), tm_up_s], tm_up_s, fun k hk => ?_, hb, hz, by omega, fun i hi => ?_⟩
    · rw [tm_up_n (by decide), tm_up_n (by decide)]
    · rw [tm_up_n (by decide), tm_up_n (by decide)]; exact hL i hi
  obtain ⟨v, q1, q2, q3⟩ := q_reads (d := d + 45) (l := l) (x := x) Hr (by omega)
  have ev : xt (M 99) (fun k => M 96 (1078 + 60 * u + k)) z = v := by
    unfold xt
    rw [q2 []]
    rfl
  rw [ev]
  refine ⟨pS (tm_up (tm_up M 95 5 (nI (1078 + 60 * u))) 95 6 (nI z)) (px_P (fun k => M 96 (1078 + 60 * u + k)) z px_F 0 0 (0, false)).2.1 0 (decide ((px_P (fun k => M 96 (1078 + 60 * u + k)) z px_F 0 0 (0, false)).2 ≠ (z, false))), ?_, fun c hc => ?_, fun j h5 h6 h7 h8 h9 => ?_⟩
  · simp (disch := first | exact tm_inb_i (by omega) (by omega) | exact tm_cc rfl | exact tm_cat rfl | omega | exact nI_ne0 (by omega) (by omega) | exact nI_ne (by omega) (by omega) (by omega) | exact tm_cS (by omega) | assumption) only [n_X12_tells, e_al0, e_iconst, e_il1, e_imul, e_iadd, g_95_0, r_X12_reads, e_iret, al_96, kn_60, kn_1076, kn_1078, Option.bind_some, Option.toList_some, Option.toList_none, List.cons_append, List.nil_append, z_0, nI_add, pk_mul, pk_sub, pk_div, n_mod, nI_clamp, nI_leI, nI_ltI, nI_eq, le_T, le_F, lt_T, lt_F, eq_T, eq_F, n_i0, n_i1, eq_self, not_true_eq_false, not_false_eq_true, Bool.false_eq_true, ↓reduceIte, if_true, if_false, tm_up_n, tm_up_s, tm_up_i, ite_self, true_and, and_true, false_and, and_false, n_ofN, Nat.reduceAdd, Nat.reduceMul, Nat.reduceSub, Nat.zero_add, h1, q1]
  · rw [pS_c hc, tm_up_n hc, tm_up_n hc]
  · rw [pS_j h7 h8 h9, tm_up_i h6, tm_up_i h5]
theorem q_pc92 {a b c e f g v : Int32} : tm_ev d (tm_blk (Int.toNat 1760092)) [.ref 95, .int a, .int b, .int c, .int e, .int f, .int g, .int v] [] (tm_GG l x) M = some (some (.int (nI (pcl v))), tm_GG l x, M) := by
  unfold pcl
  rw [b_X12_paceOf_92]
  by_cases h1 : v < nI 1
  · have h1' := Int32.not_le.mpr h1
    simp (disch := first | exact tm_inb_i (by omega) (by omega) | exact tm_cc rfl | exact tm_cat rfl | omega | exact nI_ne0 (by omega) (by omega) | exact nI_ne (by omega) (by omega) (by omega) | exact tm_cS (by omega) | assumption) only [e_al0, g_95_0, e_iconst, e_il3, e_iadd, e_is6i, e_is6r, e_is6u, e_il1, e_il6, e_idiv, e_il2, e_is7i, e_is7r, e_is7u, e_if_le, g_95_10, e_il4, e_il5, r_X12_tells, e_gotow, e_il7, e_ic_ge, e_goto, e_ic_le, e_iret, al_96, as_96, al_99, as_99, kn_0, kn_1, kn_2, kn_3, kn_4, kn_5, kn_6, kn_10, kn_99, kn_1076, b_X12_paceOf_102, b_X12_paceOf_114, b_X12_paceOf_116, Option.bind_some, Option.toList_some, Option.toList_none, List.cons_append, List.nil_append, z_0, nI_add, pk_mul, pk_sub, pk_div, n_mod, nI_clamp, nI_leI, nI_ltI, nI_eq, le_T, le_F, lt_T, lt_F, eq_T, eq_F, n_i0, n_i1, eq_self, not_true_eq_false, not_false_eq_true, Bool.false_eq_true, ↓reduceIte, if_true, if_false, tm_up_n, tm_up_s, tm_up_i, ite_self, true_and, and_true, false_and, and_false, n_ofN, Nat.reduceAdd, Nat.reduceMul, Nat.reduceSub, Nat.zero_add, h1, h1']
  · have h1' := Int32.not_lt.mp h1
    by_cases h2 : nI 99 < v
    · have h2' := Int32.not_le.mpr h2
      simp (disch := first | exact tm_inb_i (by omega) (by omega) | exact tm_cc rfl | exact tm_cat rfl | omega | exact nI_ne0 (by omega) (by omega) | exact nI_ne (by omega) (by omega) (by omega) | exact tm_cS (by omega) | assumption) only [e_al0, g_95_0, e_iconst, e_il3, e_iadd, e_is6i, e_is6r, e_is6u, e_il1, e_il6, e_idiv, e_il2, e_is7i, e_is7r, e_is7u, e_if_le, g_95_10, e_il4, e_il5, r_X12_tells, e_gotow, e_il7, e_ic_ge, e_goto, e_ic_le, e_iret, al_96, as_96, al_99, as_99, kn_0, kn_1, kn_2, kn_3, kn_4, kn_5, kn_6, kn_10, kn_99, kn_1076, b_X12_paceOf_102, b_X12_paceOf_114, b_X12_paceOf_116, Option.bind_some, Option.toList_some, Option.toList_none, List.cons_append, List.nil_append, z_0, nI_add, pk_mul, pk_sub, pk_div, n_mod, nI_clamp, nI_leI, nI_ltI, nI_eq, le_T, le_F, lt_T, lt_F, eq_T, eq_F, n_i0, n_i1, eq_self, not_true_eq_false, not_false_eq_true, Bool.false_eq_true, ↓reduceIte, if_true, if_false, tm_up_n, tm_up_s, tm_up_i, ite_self, true_and, and_true, false_and, and_false, n_ofN, Nat.reduceAdd, Nat.reduceMul, Nat.reduceSub, Nat.zero_add, h1, h1', h2, h2']
    · have h2' := Int32.not_lt.mp h2
      rcases rng v 1 99 (by decide) (by decide) with h | ⟨j, j1, j2, rfl⟩
      · exact absurd ⟨h1, h2⟩ h
      · simp (disch := first | exact tm_inb_i (by omega) (by omega) | exact tm_cc rfl | exact tm_cat rfl | omega | exact nI_ne0 (by omega) (by omega) | exact nI_ne (by omega) (by omega) (by omega) | exact tm_cS (by omega) | assumption) only [e_al0, g_95_0, e_iconst, e_il3, e_iadd, e_is6i, e_is6r, e_is6u, e_il1, e_il6, e_idiv, e_il2, e_is7i, e_is7r, e_is7u, e_if_le, g_95_10, e_il4, e_il5, r_X12_tells, e_gotow, e_il7, e_ic_ge, e_goto, e_ic_le, e_iret, al_96, as_96, al_99, as_99, kn_0, kn_1, kn_2, kn_3, kn_4, kn_5, kn_6, kn_10, kn_99, kn_1076, b_X12_paceOf_102, b_X12_paceOf_114, b_X12_paceOf_116, Option.bind_some, Option.toList_some, Option.toList_none, List.cons_append, List.nil_append, z_0, nI_add, pk_mul, pk_sub, pk_div, n_mod, nI_clamp, nI_leI, nI_ltI, nI_eq, le_T, le_F, lt_T, lt_F, eq_T, eq_F, n_i0, n_i1, eq_self, not_true_eq_false, not_false_eq_true, Bool.false_eq_true, ↓reduceIte, if_true, if_false, tm_up_n, tm_up_s, tm_up_i, ite_self, true_and, and_true, false_and, and_false, n_ofN, Nat.reduceAdd, Nat.reduceMul, Nat.reduceSub, Nat.zero_add]
/-- what the law of a pace sees of the reference -/
def eQ (M : tm_M) (D : Nat → Int32) : Prop := M 96 = D ∧ (∃ z, z ≤ 60 ∧ D 1076 = nI z) ∧ (∀ k, k < 60 → ∃ v, v < 256 ∧ D (1078 + k) = nI v) ∧ ∀ i, i < 6 → M 100 i = nI (97 + i)
theorem eQ_cg {M' : tm_M} (h96 : M' 96 = M 96) (h100 : M' 100 = M 100) (h : eQ M D) : eQ M' D := by
  obtain ⟨a, b, c, e⟩ := h
  exact ⟨h96.trans a, b, c, fun i hi => by rw [h100]; exact e i hi⟩
theorem eQ_W {k : Nat} {M1 : tm_M} (hI : tm_I k M) (h96 : M1 96 = M 96) (h100 : M1 100 = M 100) : eQ M1 (M 96) := by
  obtain ⟨z, z1, z2, _, _, z3⟩ := hI.1.2.2.2.2.2.1
  exact ⟨h96, ⟨z, z1, z2⟩, z3, fun i hi => by rw [h100]; exact hI.2.2.2.2.2.2 i hi⟩
theorem q_paceOf (h : eQ M D) {k : Nat} (hk : k < 24) {a b e f : Int32} : ∃ M1, tm_call (d + 47) 176 [.ref 95, .int a, .int b, .int (nI k), .int e, .int f] (tm_GG l x) M = some (some (.int (nI (xP D a b k e f))), tm_GG l x, M1) ∧ (∀ c, c ≠ 95 → c ≠ 99 → M1 c = M c) ∧ ∀ j, j ≠ 5 → j ≠ 6 → j ≠ 7 → j ≠ 8 → j ≠ 9 → M1 95 j = M 95 j := by
  obtain ⟨h96, ⟨z, hz, hz1⟩, hb, hL⟩ := h
  have e10 : M 96 (10 + k) = D (10 + k) := by rw [h96]
  have e1 : M 96 1 = D 1 := by rw [h96]
  have e76 : M 96 1076 = nI z := by rw [h96, hz1]
  unfold xP
  rw [hz1]
  by_cases q : z = 0
  · subst q
    rw [if_pos rfl]
    refine ⟨M, ?_, fun _ _ _ => rfl, fun _ _ _ _ _ _ => rfl⟩
    simp (disch := first | exact tm_inb_i (by omega) (by omega) | exact tm_cc rfl | exact tm_cat rfl | omega | exact nI_ne0 (by omega) (by omega) | exact nI_ne (by omega) (by omega) (by omega) | exact tm_cS (by omega) | assumption) only [n_X12_paceOf, e_al0, g_95_0, e_iconst, e_il3, e_iadd, e_is6i, e_is6r, e_is6u, e_il1, e_il6, e_idiv, e_il2, e_is7i, e_is7r, e_is7u, e_if_le, g_95_10, e_il4, e_il5, r_X12_tells, e_gotow, e_il7, e_ic_ge, e_goto, e_ic_le, e_iret, al_96, as_96, al_99, as_99, kn_0, kn_1, kn_2, kn_3, kn_4, kn_5, kn_6, kn_10, kn_99, kn_1076, b_X12_paceOf_102, b_X12_paceOf_114, b_X12_paceOf_116, Option.bind_some, Option.toList_some, Option.toList_none, List.cons_append, List.nil_append, z_0, nI_add, pk_mul, pk_sub, pk_div, n_mod, nI_clamp, nI_leI, nI_ltI, nI_eq, le_T, le_F, lt_T, lt_F, eq_T, eq_F, n_i0, n_i1, eq_self, not_true_eq_false, not_false_eq_true, Bool.false_eq_true, ↓reduceIte, if_true, if_false, tm_up_n, tm_up_s, tm_up_i, ite_self, true_and, and_true, false_and, and_false, n_ofN, Nat.reduceAdd, Nat.reduceMul, Nat.reduceSub, Nat.zero_add, e10, e76, q_pc92]
  · have hzn : ¬ nI z = nI 0 := nI_ne q (by omega) (by decide)
    rw [if_neg hzn, nI_clamp (by omega)]
    have f96 : tm_up (tm_up (tm_up (tm_up (tm_up (tm_up M 99 0 a) 99 1 b) 99 2 (D (10 + k))) 99 3 (D 1)) 99 4 e) 99 5 f 96 = D := by
      rw [tm_up_n (by decide), tm_up_n (by decide), tm_up_n (by decide), tm_up_n (by decide), tm_up_n (by decide), tm_up_n (by decide), h96]
    obtain ⟨M1, r, fr, fj⟩ := q_tells (d := d) (l := l) (x := x) (M := tm_up (tm_up (tm_up (tm_up (tm_up (tm_up M 99 0 a) 99 1 b) 99 2 (D (10 + k))) 99 3 (D 1)) 99 4 e) 99 5 f) (u := 0) (z := z) (by decide) hz (by rw [f96]; exact hz1) (fun k hk => by rw [f96]; exact hb k (by omega)) (fun i hi => by
      rw [tm_up_n (by decide), tm_up_n (by decide), tm_up_n (by decide), tm_up_n (by decide), tm_up_n (by decide), tm_up_n (by decide)]; exact hL i hi)
    rw [f96, xt_cg (nm' := nmv a b (D (10 + k)) (D 1) e f) (fun i hi => by
      rcases (by omega : i = 0 ∨ i = 1 ∨ i = 2 ∨ i = 3 ∨ i = 4 ∨ i = 5) with rfl | rfl | rfl | rfl | rfl | rfl <;> rfl)] at r
    refine ⟨M1, ?_, fun c h1 h2 => ?_, fun j h5 h6 h7 h8 h9 => ?_⟩
    · simp (disch := first | exact tm_inb_i (by omega) (by omega) | exact tm_cc rfl | exact tm_cat rfl | omega | exact nI_ne0 (by omega) (by omega) | exact nI_ne (by omega) (by omega) (by omega) | exact tm_cS (by omega) | assumption) only [n_X12_paceOf, e_al0, g_95_0, e_iconst, e_il3, e_iadd, e_is6i, e_is6r, e_is6u, e_il1, e_il6, e_idiv, e_il2, e_is7i, e_is7r, e_is7u, e_if_le, g_95_10, e_il4, e_il5, r_X12_tells, e_gotow, e_il7, e_ic_ge, e_goto, e_ic_le, e_iret, al_96, as_96, al_99, as_99, kn_0, kn_1, kn_2, kn_3, kn_4, kn_5, kn_6, kn_10, kn_99, kn_1076, b_X12_paceOf_102, b_X12_paceOf_114, b_X12_paceOf_116, Option.bind_some, Option.toList_some, Option.toList_none, List.cons_append, List.nil_append, z_0, nI_add, pk_mul, pk_sub, pk_div, n_mod, nI_clamp, nI_leI, nI_ltI, nI_eq, le_T, le_F, lt_T, lt_F, eq_T, eq_F, n_i0, n_i1, eq_self, not_true_eq_false, not_false_eq_true, Bool.false_eq_true, ↓reduceIte, if_true, if_false, tm_up_n, tm_up_s, tm_up_i, ite_self, true_and, and_true, false_and, and_false, n_ofN, Nat.reduceAdd, Nat.reduceMul, Nat.reduceSub, Nat.zero_add, e10, e76, e1, r, q_pc92]
    · rw [fr c h1, tm_up_n h2, tm_up_n h2, tm_up_n h2, tm_up_n h2, tm_up_n h2, tm_up_n h2]
    · rw [fj j h5 h6 h7 h8 h9, tm_up_n (by decide), tm_up_n (by decide), tm_up_n (by decide), tm_up_n (by decide), tm_up_n (by decide), tm_up_n (by decide)]
theorem fr_pc {M1 : tm_M} (h : ∀ c, c ≠ 29 → c ≠ 73 → M1 c = M c) : tm_fr M M1 := ⟨fun c hc => h c (fun z => hc (by rw [z]; decide)) (fun z => hc (by rw [z]; decide)), by rw [h 79 (by decide) (by decide)], by rw [h 95 (by decide) (by decide)], by rw [h 95 (by decide) (by decide)], by rw [h 95 (by decide) (by decide)]⟩
theorem fr_qp {M1 : tm_M} (h : ∀ c, c ≠ 95 → c ≠ 99 → M1 c = M c) (h2 : ∀ j, j ≠ 5 → j ≠ 6 → j ≠ 7 → j ≠ 8 → j ≠ 9 → M1 95 j = M 95 j) : tm_fr M M1 := ⟨fun c hc => h c (fun z => hc (by rw [z]; decide)) (fun z => hc (by rw [z]; decide)), by rw [h 79 (by decide) (by decide)], h2 2 (by decide) (by decide) (by decide) (by decide) (by decide), h2 3 (by decide) (by decide) (by decide) (by decide) (by decide), h2 23 (by decide) (by decide) (by decide) (by decide) (by decide)⟩
theorem pr_pace (a1 a2 a3 a4 a5 : Int32) : tm_Pi tm_I l x 114 207 [.int a1, .int a2, .int a3, .int a4, .int a5] := by
  intro k M hk hI
  obtain ⟨n, X, W, R, G, T, L, hK, c0, _, _, c4, c5, c6, _⟩ := tm_I_n hI
  obtain ⟨⟨k0, k01, k02⟩, k2, k3, ⟨k4, k42⟩, k5, ⟨k6, k62⟩, k8, _⟩ := id hK
  rcases rng1 a1 R (by omega) with h1 | ⟨r, hr, rfl⟩
  · exact tm_fdp hI (by decide : 1 < 6) (by simp (disch := first | exact tm_inb_i (by omega) (by omega) | exact tm_cc rfl | exact tm_cat rfl | omega | exact nI_ne0 (by omega) (by omega) | exact nI_ne (by omega) (by omega) (by omega) | exact tm_cS (by omega) | assumption) only [n_X11_pace, e_al0, e_il1, r_X11_isRunner, e_if_eq, e_il2, e_iconst, r_X11_within, e_il3, r_X11_isPiece, e_il4, e_il5, e_goto, e_gotow, e_is6i, e_is6r, e_is6u, e_il6, e_if_ne, r_X11_finding, e_iret, g_0_2, g_0_0, g_1_1, g_35_1, g_12_1, g_46_1, r_X3_paceOf, al_13, al_47, kn_0, kn_1, kn_24, kn_99, b_X11_pace_52, b_X11_pace_53, b_X11_pace_66, Option.bind_some, Option.toList_some, Option.toList_none, List.cons_append, List.nil_append, z_0, nI_add, pk_mul, pk_sub, pk_div, n_mod, nI_clamp, nI_leI, nI_ltI, nI_eq, le_T, le_F, lt_T, lt_F, eq_T, eq_F, n_i0, n_i1, eq_self, not_true_eq_false, not_false_eq_true, Bool.false_eq_true, ↓reduceIte, if_true, if_false, tm_up_n, tm_up_s, tm_up_i, ite_self, true_and, and_true, false_and, and_false, n_ofN, Nat.reduceAdd, Nat.reduceMul, Nat.reduceSub, Nat.zero_add, m_within, m_finding, m_isRunner, c4, h1]) (by simp (disch := first | exact tm_inb_i (by omega) (by omega) | exact tm_cc rfl | exact tm_cat rfl | omega | exact nI_ne0 (by omega) (by omega) | exact nI_ne (by omega) (by omega) (by omega) | exact tm_cS (by omega) | assumption) only [n_X12_pace, e_al0, e_il1, r_X12_isRunner, e_if_eq, e_il2, e_iconst, r_X12_in, e_il3, g_95_0, e_isub, e_il4, e_il5, e_if_ne, e_gotow, r_X12_finding, e_iret, r_X12_strength, r_X12_paceOf, al_96, kn_0, kn_1, kn_24, kn_99, b_X12_pace_56, b_X12_pace_62, Option.bind_some, Option.toList_some, Option.toList_none, List.cons_append, List.nil_append, z_0, nI_add, pk_mul, pk_sub, pk_div, n_mod, nI_clamp, nI_leI, nI_ltI, nI_eq, le_T, le_F, lt_T, lt_F, eq_T, eq_F, n_i0, n_i1, eq_self, not_true_eq_false, not_false_eq_true, Bool.false_eq_true, ↓reduceIte, if_true, if_false, tm_up_n, tm_up_s, tm_up_i, ite_self, true_and, and_true, false_and, and_false, n_ofN, Nat.reduceAdd, Nat.reduceMul, Nat.reduceSub, Nat.zero_add, q_in, q_finding, q_isRunner, k4, h1])
  rcases rng a2 0 24 (by decide) (by decide) with h2 | ⟨b, _, hb, rfl⟩
  · exact tm_fdp hI (by decide : 1 < 6) (by simp (disch := first | exact tm_inb_i (by omega) (by omega) | exact tm_cc rfl | exact tm_cat rfl | omega | exact nI_ne0 (by omega) (by omega) | exact nI_ne (by omega) (by omega) (by omega) | exact tm_cS (by omega) | assumption) only [n_X11_pace, e_al0, e_il1, r_X11_isRunner, e_if_eq, e_il2, e_iconst, r_X11_within, e_il3, r_X11_isPiece, e_il4, e_il5, e_goto, e_gotow, e_is6i, e_is6r, e_is6u, e_il6, e_if_ne, r_X11_finding, e_iret, g_0_2, g_0_0, g_1_1, g_35_1, g_12_1, g_46_1, r_X3_paceOf, al_13, al_47, kn_0, kn_1, kn_24, kn_99, b_X11_pace_52, b_X11_pace_53, b_X11_pace_66, Option.bind_some, Option.toList_some, Option.toList_none, List.cons_append, List.nil_append, z_0, nI_add, pk_mul, pk_sub, pk_div, n_mod, nI_clamp, nI_leI, nI_ltI, nI_eq, le_T, le_F, lt_T, lt_F, eq_T, eq_F, n_i0, n_i1, eq_self, not_true_eq_false, not_false_eq_true, Bool.false_eq_true, ↓reduceIte, if_true, if_false, tm_up_n, tm_up_s, tm_up_i, ite_self, true_and, and_true, false_and, and_false, n_ofN, Nat.reduceAdd, Nat.reduceMul, Nat.reduceSub, Nat.zero_add, m_within, m_finding, m_isRunner, c4, h2]) (by simp (disch := first | exact tm_inb_i (by omega) (by omega) | exact tm_cc rfl | exact tm_cat rfl | omega | exact nI_ne0 (by omega) (by omega) | exact nI_ne (by omega) (by omega) (by omega) | exact tm_cS (by omega) | assumption) only [n_X12_pace, e_al0, e_il1, r_X12_isRunner, e_if_eq, e_il2, e_iconst, r_X12_in, e_il3, g_95_0, e_isub, e_il4, e_il5, e_if_ne, e_gotow, r_X12_finding, e_iret, r_X12_strength, r_X12_paceOf, al_96, kn_0, kn_1, kn_24, kn_99, b_X12_pace_56, b_X12_pace_62, Option.bind_some, Option.toList_some, Option.toList_none, List.cons_append, List.nil_append, z_0, nI_add, pk_mul, pk_sub, pk_div, n_mod, nI_clamp, nI_leI, nI_ltI, nI_eq, le_T, le_F, lt_T, lt_F, eq_T, eq_F, n_i0, n_i1, eq_self, not_true_eq_false, not_false_eq_true, Bool.false_eq_true, ↓reduceIte, if_true, if_false, tm_up_n, tm_up_s, tm_up_i, ite_self, true_and, and_true, false_and, and_false, n_ofN, Nat.reduceAdd, Nat.reduceMul, Nat.reduceSub, Nat.zero_add, q_in, q_finding, q_isRunner, k4, h2])
  rcases rng1 a3 n (by omega) with h3 | ⟨p, hp, rfl⟩
  · rw [pk_sub (by omega)] at h3
    exact tm_fdp hI (by decide : 1 < 6) (by simp (disch := first | exact tm_inb_i (by omega) (by omega) | exact tm_cc rfl | exact tm_cat rfl | omega | exact nI_ne0 (by omega) (by omega) | exact nI_ne (by omega) (by omega) (by omega) | exact tm_cS (by omega) | assumption) only [n_X11_pace, e_al0, e_il1, r_X11_isRunner, e_if_eq, e_il2, e_iconst, r_X11_within, e_il3, r_X11_isPiece, e_il4, e_il5, e_goto, e_gotow, e_is6i, e_is6r, e_is6u, e_il6, e_if_ne, r_X11_finding, e_iret, g_0_2, g_0_0, g_1_1, g_35_1, g_12_1, g_46_1, r_X3_paceOf, al_13, al_47, kn_0, kn_1, kn_24, kn_99, b_X11_pace_52, b_X11_pace_53, b_X11_pace_66, Option.bind_some, Option.toList_some, Option.toList_none, List.cons_append, List.nil_append, z_0, nI_add, pk_mul, pk_sub, pk_div, n_mod, nI_clamp, nI_leI, nI_ltI, nI_eq, le_T, le_F, lt_T, lt_F, eq_T, eq_F, n_i0, n_i1, eq_self, not_true_eq_false, not_false_eq_true, Bool.false_eq_true, ↓reduceIte, if_true, if_false, tm_up_n, tm_up_s, tm_up_i, ite_self, true_and, and_true, false_and, and_false, n_ofN, Nat.reduceAdd, Nat.reduceMul, Nat.reduceSub, Nat.zero_add, m_within, m_finding, m_isRunner, m_isPiece, c0, c4, h3]) (by simp (disch := first | exact tm_inb_i (by omega) (by omega) | exact tm_cc rfl | exact tm_cat rfl | omega | exact nI_ne0 (by omega) (by omega) | exact nI_ne (by omega) (by omega) (by omega) | exact tm_cS (by omega) | assumption) only [n_X12_pace, e_al0, e_il1, r_X12_isRunner, e_if_eq, e_il2, e_iconst, r_X12_in, e_il3, g_95_0, e_isub, e_il4, e_il5, e_if_ne, e_gotow, r_X12_finding, e_iret, r_X12_strength, r_X12_paceOf, al_96, kn_0, kn_1, kn_24, kn_99, b_X12_pace_56, b_X12_pace_62, Option.bind_some, Option.toList_some, Option.toList_none, List.cons_append, List.nil_append, z_0, nI_add, pk_mul, pk_sub, pk_div, n_mod, nI_clamp, nI_leI, nI_ltI, nI_eq, le_T, le_F, lt_T, lt_F, eq_T, eq_F, n_i0, n_i1, eq_self, not_true_eq_false, not_false_eq_true, Bool.false_eq_true, ↓reduceIte, if_true, if_false, tm_up_n, tm_up_s, tm_up_i, ite_self, true_and, and_true, false_and, and_false, n_ofN, Nat.reduceAdd, Nat.reduceMul, Nat.reduceSub, Nat.zero_add, q_in, q_finding, q_isRunner, k0, k4, h3])
  rcases rng a4 0 99 (by decide) (by decide) with h4 | ⟨e, _, he, rfl⟩
  · exact tm_fdp hI (by decide : 1 < 6) (by simp (disch := first | exact tm_inb_i (by omega) (by omega) | exact tm_cc rfl | exact tm_cat rfl | omega | exact nI_ne0 (by omega) (by omega) | exact nI_ne (by omega) (by omega) (by omega) | exact tm_cS (by omega) | assumption) only [n_X11_pace, e_al0, e_il1, r_X11_isRunner, e_if_eq, e_il2, e_iconst, r_X11_within, e_il3, r_X11_isPiece, e_il4, e_il5, e_goto, e_gotow, e_is6i, e_is6r, e_is6u, e_il6, e_if_ne, r_X11_finding, e_iret, g_0_2, g_0_0, g_1_1, g_35_1, g_12_1, g_46_1, r_X3_paceOf, al_13, al_47, kn_0, kn_1, kn_24, kn_99, b_X11_pace_52, b_X11_pace_53, b_X11_pace_66, Option.bind_some, Option.toList_some, Option.toList_none, List.cons_append, List.nil_append, z_0, nI_add, pk_mul, pk_sub, pk_div, n_mod, nI_clamp, nI_leI, nI_ltI, nI_eq, le_T, le_F, lt_T, lt_F, eq_T, eq_F, n_i0, n_i1, eq_self, not_true_eq_false, not_false_eq_true, Bool.false_eq_true, ↓reduceIte, if_true, if_false, tm_up_n, tm_up_s, tm_up_i, ite_self, true_and, and_true, false_and, and_false, n_ofN, Nat.reduceAdd, Nat.reduceMul, Nat.reduceSub, Nat.zero_add, m_within, m_finding, m_isRunner, m_isPiece, c0, c4, h4]) (by simp (disch := first | exact tm_inb_i (by omega) (by omega) | exact tm_cc rfl | exact tm_cat rfl | omega | exact nI_ne0 (by omega) (by omega) | exact nI_ne (by omega) (by omega) (by omega) | exact tm_cS (by omega) | assumption) only [n_X12_pace, e_al0, e_il1, r_X12_isRunner, e_if_eq, e_il2, e_iconst, r_X12_in, e_il3, g_95_0, e_isub, e_il4, e_il5, e_if_ne, e_gotow, r_X12_finding, e_iret, r_X12_strength, r_X12_paceOf, al_96, kn_0, kn_1, kn_24, kn_99, b_X12_pace_56, b_X12_pace_62, Option.bind_some, Option.toList_some, Option.toList_none, List.cons_append, List.nil_append, z_0, nI_add, pk_mul, pk_sub, pk_div, n_mod, nI_clamp, nI_leI, nI_ltI, nI_eq, le_T, le_F, lt_T, lt_F, eq_T, eq_F, n_i0, n_i1, eq_self, not_true_eq_false, not_false_eq_true, Bool.false_eq_true, ↓reduceIte, if_true, if_false, tm_up_n, tm_up_s, tm_up_i, ite_self, true_and, and_true, false_and, and_false, n_ofN, Nat.reduceAdd, Nat.reduceMul, Nat.reduceSub, Nat.zero_add, q_in, q_finding, q_isRunner, k0, k4, h4])
  rcases rng a5 0 99 (by decide) (by decide) with h5 | ⟨f, _, hf, rfl⟩
  · exact tm_fdp hI (by decide : 1 < 6) (by simp (disch := first | exact tm_inb_i (by omega) (by omega) | exact tm_cc rfl | exact tm_cat rfl | omega | exact nI_ne0 (by omega) (by omega) | exact nI_ne (by omega) (by omega) (by omega) | exact tm_cS (by omega) | assumption) only [n_X11_pace, e_al0, e_il1, r_X11_isRunner, e_if_eq, e_il2, e_iconst, r_X11_within, e_il3, r_X11_isPiece, e_il4, e_il5, e_goto, e_gotow, e_is6i, e_is6r, e_is6u, e_il6, e_if_ne, r_X11_finding, e_iret, g_0_2, g_0_0, g_1_1, g_35_1, g_12_1, g_46_1, r_X3_paceOf, al_13, al_47, kn_0, kn_1, kn_24, kn_99, b_X11_pace_52, b_X11_pace_53, b_X11_pace_66, Option.bind_some, Option.toList_some, Option.toList_none, List.cons_append, List.nil_append, z_0, nI_add, pk_mul, pk_sub, pk_div, n_mod, nI_clamp, nI_leI, nI_ltI, nI_eq, le_T, le_F, lt_T, lt_F, eq_T, eq_F, n_i0, n_i1, eq_self, not_true_eq_false, not_false_eq_true, Bool.false_eq_true, ↓reduceIte, if_true, if_false, tm_up_n, tm_up_s, tm_up_i, ite_self, true_and, and_true, false_and, and_false, n_ofN, Nat.reduceAdd, Nat.reduceMul, Nat.reduceSub, Nat.zero_add, m_within, m_finding, m_isRunner, m_isPiece, c0, c4, h5]) (by simp (disch := first | exact tm_inb_i (by omega) (by omega) | exact tm_cc rfl | exact tm_cat rfl | omega | exact nI_ne0 (by omega) (by omega) | exact nI_ne (by omega) (by omega) (by omega) | exact tm_cS (by omega) | assumption) only [n_X12_pace, e_al0, e_il1, r_X12_isRunner, e_if_eq, e_il2, e_iconst, r_X12_in, e_il3, g_95_0, e_isub, e_il4, e_il5, e_if_ne, e_gotow, r_X12_finding, e_iret, r_X12_strength, r_X12_paceOf, al_96, kn_0, kn_1, kn_24, kn_99, b_X12_pace_56, b_X12_pace_62, Option.bind_some, Option.toList_some, Option.toList_none, List.cons_append, List.nil_append, z_0, nI_add, pk_mul, pk_sub, pk_div, n_mod, nI_clamp, nI_leI, nI_ltI, nI_eq, le_T, le_F, lt_T, lt_F, eq_T, eq_F, n_i0, n_i1, eq_self, not_true_eq_false, not_false_eq_true, Bool.false_eq_true, ↓reduceIte, if_true, if_false, tm_up_n, tm_up_s, tm_up_i, ite_self, true_and, and_true, false_and, and_false, n_ofN, Nat.reduceAdd, Nat.reduceMul, Nat.reduceSub, Nat.zero_add, q_in, q_finding, q_isRunner, k0, k4, h5])
  have e13 : M 13 r = M 96 (144 + 2 * r) := wA hI (tm_ph_if (by omega))
  obtain ⟨M1, r1, f1⟩ := m_paceOf (d := 996) (l := l) (x := x) (eP_W hI) (show p < 24 by omega) (a := M 96 (144 + 2 * r)) (b := nI b) (e := nI e) (f := nI f)
  have q0 : M1 96 0 = nI n := by rw [f1 96 (by decide) (by decide)]; exact k0
  have q4 : M1 96 4 = nI R := by rw [f1 96 (by decide) (by decide)]; exact k4
  have qs : M1 96 (144 + 2 * r) = M 96 (144 + 2 * r) := by rw [f1 96 (by decide) (by decide)]
  obtain ⟨M2, r2, f2, f3⟩ := q_paceOf (d := 951) (l := l) (x := x) (eQ_W hI (f1 96 (by decide) (by decide)) (f1 100 (by decide) (by decide))) (show p < 24 by omega) (a := M 96 (144 + 2 * r)) (b := nI b) (e := nI e) (f := nI f)
  refine ⟨nI (xP (M 96) (M 96 (144 + 2 * r)) (nI b) p (nI e) (nI f)), M1, M2, ?_, ?_, tm_I_fr hI (tm_fr_trans (fr_pc f1) (fr_qp f2 f3))⟩
  · simp (disch := first | exact tm_inb_i (by omega) (by omega) | exact tm_cc rfl | exact tm_cat rfl | omega | exact nI_ne0 (by omega) (by omega) | exact nI_ne (by omega) (by omega) (by omega) | exact tm_cS (by omega) | assumption) only [n_X11_pace, e_al0, e_il1, r_X11_isRunner, e_if_eq, e_il2, e_iconst, r_X11_within, e_il3, r_X11_isPiece, e_il4, e_il5, e_goto, e_gotow, e_is6i, e_is6r, e_is6u, e_il6, e_if_ne, r_X11_finding, e_iret, g_0_2, g_0_0, g_1_1, g_35_1, g_12_1, g_46_1, r_X3_paceOf, al_13, al_47, kn_0, kn_1, kn_24, kn_99, b_X11_pace_52, b_X11_pace_53, b_X11_pace_66, Option.bind_some, Option.toList_some, Option.toList_none, List.cons_append, List.nil_append, z_0, nI_add, pk_mul, pk_sub, pk_div, n_mod, nI_clamp, nI_leI, nI_ltI, nI_eq, le_T, le_F, lt_T, lt_F, eq_T, eq_F, n_i0, n_i1, eq_self, not_true_eq_false, not_false_eq_true, Bool.false_eq_true, ↓reduceIte, if_true, if_false, tm_up_n, tm_up_s, tm_up_i, ite_self, true_and, and_true, false_and, and_false, n_ofN, Nat.reduceAdd, Nat.reduceMul, Nat.reduceSub, Nat.zero_add, m_within, m_isRunner, m_isPiece, c0, c4, e13, r1]
  · simp (disch := first | exact tm_inb_i (by omega) (by omega) | exact tm_cc rfl | exact tm_cat rfl | omega | exact nI_ne0 (by omega) (by omega) | exact nI_ne (by omega) (by omega) (by omega) | exact tm_cS (by omega) | assumption) only [n_X12_pace, n_X12_strength, e_al0, e_il1, r_X12_isRunner, e_if_eq, e_il2, e_iconst, r_X12_in, e_il3, g_95_0, e_isub, e_il4, e_il5, e_if_ne, e_gotow, r_X12_finding, e_iret, r_X12_strength, r_X12_paceOf, al_96, kn_0, kn_1, kn_24, kn_99, b_X12_pace_56, b_X12_pace_62, Option.bind_some, Option.toList_some, Option.toList_none, List.cons_append, List.nil_append, z_0, nI_add, pk_mul, pk_sub, pk_div, n_mod, nI_clamp, nI_leI, nI_ltI, nI_eq, le_T, le_F, lt_T, lt_F, eq_T, eq_F, n_i0, n_i1, eq_self, not_true_eq_false, not_false_eq_true, Bool.false_eq_true, ↓reduceIte, if_true, if_false, tm_up_n, tm_up_s, tm_up_i, ite_self, true_and, and_true, false_and, and_false, n_ofN, Nat.reduceAdd, Nat.reduceMul, Nat.reduceSub, Nat.zero_add, e_imul, e_iadd, kn_2, kn_144, q_in, q_isRunner, q0, q4, qs, r2]
end TPC
