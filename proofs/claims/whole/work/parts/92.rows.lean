/-! part 92: rows of draws -/
def t1 (v : Nat) : Nat := if 2 ≤ v then v - 1 else 1
def rwn (D : Nat → Int32) (a : Int32) (ju : Bool) : Nat → Nat → Nat → Nat → Nat → Nat
  | 0, _, _, _, n => if ju = true ∧ n ≠ 0 then 0 else 1
  | c + 1, k, e, f, n => (if t1 (xP D a (nI k) k (nI e) (nI f)) ≤ n then rwn D a ju c (k + 1) (if k = 0 then t1 (xP D a (nI k) k (nI e) (nI f)) else e) (t1 (xP D a (nI k) k (nI e) (nI f))) (n - t1 (xP D a (nI k) k (nI e) (nI f))) else 0) + 2 * (if xP D a (nI k) k (nI e) (nI f) ≤ n then rwn D a ju c (k + 1) (if k = 0 then xP D a (nI k) k (nI e) (nI f) else e) (xP D a (nI k) k (nI e) (nI f)) (n - xP D a (nI k) k (nI e) (nI f)) else 0) + (if xP D a (nI k) k (nI e) (nI f) + 1 ≤ n then rwn D a ju c (k + 1) (if k = 0 then xP D a (nI k) k (nI e) (nI f) + 1 else e) (xP D a (nI k) k (nI e) (nI f) + 1) (n - (xP D a (nI k) k (nI e) (nI f) + 1)) else 0)
def rwt (D : Nat → Int32) (a : Int32) (ju : Bool) (c k e n t : Nat) : Nat := if t ≤ n then rwn D a ju c (k + 1) (if k = 0 then t else e) t (n - t) else 0
theorem rwn_s (D : Nat → Int32) (a : Int32) (ju : Bool) (c k e f n : Nat) : rwn D a ju (c + 1) k e f n = rwt D a ju c k e n (t1 (xP D a (nI k) k (nI e) (nI f))) + 2 * rwt D a ju c k e n (xP D a (nI k) k (nI e) (nI f)) + rwt D a ju c k e n (xP D a (nI k) k (nI e) (nI f) + 1) := by
  rw [rwn]
  rfl
theorem t1_rng {v : Nat} (h : 1 ≤ v) : 1 ≤ t1 v ∧ t1 v ≤ v := by unfold t1; split <;> omega
theorem rwn_z (D : Nat → Int32) (a : Int32) (ju : Bool) : ∀ c k e f n, n < c → rwn D a ju c k e f n = 0 := by
  intro c
  induction c with
  | zero => intro k e f n h; omega
  | succ c ih =>
    intro k e f n h
    have hv := xP_rng D a (nI k) k (nI e) (nI f)
    rw [rwn_s]
    generalize xP D a (nI k) k (nI e) (nI f) = v at *
    have ht : ∀ t, 1 ≤ t → rwt D a ju c k e n t = 0 := by
      intro t h1
      unfold rwt
      split
      · exact ih _ _ _ _ (by omega)
      · rfl
    rw [ht _ (t1_rng hv.1).1, ht v hv.1, ht (v + 1) (by omega)]
theorem rwn_le (D : Nat → Int32) (a : Int32) (ju : Bool) : ∀ c k e f n, rwn D a ju c k e f n ≤ 4 ^ c := by
  intro c
  induction c with
  | zero => intro k e f n; unfold rwn; split <;> omega
  | succ c ih =>
    intro k e f n
    rw [rwn_s]
    have ht : ∀ t, rwt D a ju c k e n t ≤ 4 ^ c := by
      intro t
      unfold rwt
      split
      · exact ih _ _ _ _
      · exact Nat.zero_le _
    have h1 := ht (t1 (xP D a (nI k) k (nI e) (nI f)))
    have h2 := ht (xP D a (nI k) k (nI e) (nI f))
    have h3 := ht (xP D a (nI k) k (nI e) (nI f) + 1)
    rw [Nat.pow_succ]
    omega
theorem m1_gt : (nI 1 < (-1 : Int32)) = False := by decide +kernel
theorem m1_p : (-1 : Int32) + nI 1 = nI 0 := by decide +kernel
theorem max_m {v : Nat} (h : 1 ≤ v) (h2 : v ≤ 99) : (if nI 1 < nI v + (-1) then nI v + (-1) else nI 1) = nI (t1 v) := by
  rw [im_dec (by omega)]
  obtain ⟨u, rfl⟩ : ∃ u, v = u + 1 := ⟨v - 1, by omega⟩
  rw [im_s]
  unfold t1
  by_cases q : 1 < u
  · rw [if_pos ((nI_ltI (by decide) (by omega)).mpr q), if_pos (by omega)]; rfl
  · rw [if_neg (fun z => q ((nI_ltI (by decide) (by omega)).mp z))]
    by_cases q2 : u = 1
    · subst q2; rfl
    · rw [if_neg (by omega)]
theorem max_0 {v : Nat} (h : 1 ≤ v) (h2 : v ≤ 99) : (if nI 1 < nI v + nI 0 then nI v + nI 0 else nI 1) = nI v := by
  rw [nI_add, Nat.add_zero]
  by_cases q : 1 < v
  · rw [if_pos ((nI_ltI (by decide) (by omega)).mpr q)]
  · rw [if_neg (fun z => q ((nI_ltI (by decide) (by omega)).mp z))]
    obtain rfl : v = 1 := by omega
    rfl
theorem max_1 {v : Nat} (h : 1 ≤ v) (h2 : v ≤ 99) : (if nI 1 < nI v + nI 1 then nI v + nI 1 else nI 1) = nI (v + 1) := by
  rw [nI_add, if_pos ((nI_ltI (by decide) (by omega)).mpr (by omega))]
theorem neg_lt {n t : Nat} (hn : n < 2 ^ 31) (ht : t ≤ 200) (h : n < t) : nI n - nI t < nI 0 := by
  rw [Int32.lt_iff_toInt_lt, Int32.toInt_sub, nI_toInt hn, nI_toInt (by omega), nI_toInt (by decide), Int.bmod_eq_of_le (by omega) (by omega)]
  omega
section TRW
variable {d l : Nat} {x : Nat → Int32} {D : Nat → Int32} {a : Int32} {ju : Bool} {mm : Nat}
/-- what odds see of the class -/
def oE (M : tm_M) (D : Nat → Int32) (a : Int32) (ju : Bool) (mm : Nat) : Prop := eP M D ∧ M 69 10 = a ∧ M 69 11 = nI mm ∧ M 69 12 = bI ju
def frO (M M' : tm_M) : Prop := ∀ c, c ≠ 29 → c ≠ 73 → c ≠ 74 → M' c = M c
theorem frO_oE {M M' : tm_M} (f : frO M M') (h : oE M D a ju mm) : oE M' D a ju mm := by
  obtain ⟨h1, h2, h3, h4⟩ := h
  refine ⟨eP_cg (f 2 (by decide) (by decide) (by decide)) (f 3 (by decide) (by decide) (by decide)) (f 27 (by decide) (by decide) (by decide)) (f 28 (by decide) (by decide) (by decide)) h1, ?_, ?_, ?_⟩
  · rw [f 69 (by decide) (by decide) (by decide)]; exact h2
  · rw [f 69 (by decide) (by decide) (by decide)]; exact h3
  · rw [f 69 (by decide) (by decide) (by decide)]; exact h4
/-- what is known of paces is right -/
def kN (M : tm_M) (D : Nat → Int32) (a : Int32) (e : Nat) : Prop := ∀ p f, 1 ≤ p → p < 8 → f ≤ 100 → M 74 (p * 101 + f) = nI 0 ∨ M 74 (p * 101 + f) = nI (xP D a (nI p) p (nI e) (nI f))
theorem m_kp {k e f : Nat} {M : tm_M} (h : oE M D a ju mm) (hk : 1 ≤ k) (hk8 : k < 8) (he : e ≤ 100) (hf : f ≤ 100) (hN : kN M D a e) : ∃ M', tm_call (d + 3) 33 [.ref 69, .int (nI k), .int (nI e), .int (nI f)] (tm_GG l x) M = some (some (.int (nI (xP D a (nI k) k (nI e) (nI f)))), tm_GG l x, M') ∧ kN M' D a e ∧ frO M M' := by
  have hv := xP_rng D a (nI k) k (nI e) (nI f)
  rcases hN k f hk hk8 hf with q | q
  · obtain ⟨Mp, rP, fP⟩ := m_paceOf (d := d) (l := l) (x := x) h.1 (show k < 24 by omega) (a := a) (b := nI k) (e := nI e) (f := nI f)
    have h10 := h.2.1
    refine ⟨tm_up Mp 74 (k * 101 + f) (nI (xP D a (nI k) k (nI e) (nI f))), ?_, fun p f' h1 h2 h3 => ?_, fun c a1 a2 a3 => ?_⟩
    · simp (disch := first | exact tm_inb_i (by omega) (by omega) | exact tm_cc rfl | exact tm_cat rfl | omega | exact nI_ne0 (by omega) (by omega) | exact nI_ne (by omega) (by omega) (by omega) | exact tm_cS (by omega) | assumption) only [n_X3_knownPace, e_il1, e_iconst, e_imul, e_il3, e_iadd, e_is4i, e_is4r, e_is4u, e_if_eq, e_al0, g_69_9, e_il4, e_if_ne, e_gotow, g_69_10, e_il2, r_X3_paceOf, e_iret, al_74, as_74, kn_101, b_X3_knownPace_22, b_X3_knownPace_41, Option.bind_some, Option.toList_some, Option.toList_none, List.cons_append, List.nil_append, z_0, nI_add, pk_mul, pk_sub, pk_div, n_mod, nI_clamp, nI_leI, nI_ltI, nI_eq, le_T, le_F, lt_T, lt_F, eq_T, eq_F, n_i0, n_i1, eq_self, not_true_eq_false, not_false_eq_true, Bool.false_eq_true, ↓reduceIte, if_true, if_false, tm_up_n, tm_up_s, tm_up_i, ite_self, true_and, and_true, false_and, and_false, n_ofN, Nat.reduceAdd, Nat.reduceMul, Nat.reduceSub, Nat.zero_add, q, h10, rP]
    · by_cases z : p = k ∧ f' = f
      · obtain ⟨rfl, rfl⟩ := z
        rw [tm_up_s]; exact Or.inr rfl
      · rw [tm_up_i (by omega), fP 74 (by decide) (by decide)]; exact hN p f' h1 h2 h3
    · rw [tm_up_n a3, fP c a1 a2]
  · refine ⟨M, ?_, hN, fun _ _ _ _ => rfl⟩
    generalize xP D a (nI k) k (nI e) (nI f) = v at *
    simp (disch := first | exact tm_inb_i (by omega) (by omega) | exact tm_cc rfl | exact tm_cat rfl | omega | exact nI_ne0 (by omega) (by omega) | exact nI_ne (by omega) (by omega) (by omega) | exact tm_cS (by omega) | assumption) only [n_X3_knownPace, e_il1, e_iconst, e_imul, e_il3, e_iadd, e_is4i, e_is4r, e_is4u, e_if_eq, e_al0, g_69_9, e_il4, e_if_ne, e_gotow, g_69_10, e_il2, r_X3_paceOf, e_iret, al_74, as_74, kn_101, b_X3_knownPace_22, b_X3_knownPace_41, Option.bind_some, Option.toList_some, Option.toList_none, List.cons_append, List.nil_append, z_0, nI_add, pk_mul, pk_sub, pk_div, n_mod, nI_clamp, nI_leI, nI_ltI, nI_eq, le_T, le_F, lt_T, lt_F, eq_T, eq_F, n_i0, n_i1, eq_self, not_true_eq_false, not_false_eq_true, Bool.false_eq_true, ↓reduceIte, if_true, if_false, tm_up_n, tm_up_s, tm_up_i, ite_self, true_and, and_true, false_and, and_false, n_ofN, Nat.reduceAdd, Nat.reduceMul, Nat.reduceSub, Nat.zero_add, q]
theorem m_kp0 {M : tm_M} (h : oE M D a ju mm) : ∃ M', tm_call (d + 3) 33 [.ref 69, .int (nI 0), .int (nI 0), .int (nI 0)] (tm_GG l x) M = some (some (.int (nI (xP D a (nI 0) 0 (nI 0) (nI 0)))), tm_GG l x, M') ∧ frO M M' := by
  obtain ⟨Mp, rP, fP⟩ := m_paceOf (d := d) (l := l) (x := x) h.1 (show 0 < 24 by omega) (a := a) (b := nI 0) (e := nI 0) (f := nI 0)
  have h10 := h.2.1
  refine ⟨tm_up Mp 74 0 (nI (xP D a (nI 0) 0 (nI 0) (nI 0))), ?_, fun c a1 a2 a3 => ?_⟩
  · simp (disch := first | exact tm_inb_i (by omega) (by omega) | exact tm_cc rfl | exact tm_cat rfl | omega | exact nI_ne0 (by omega) (by omega) | exact nI_ne (by omega) (by omega) (by omega) | exact tm_cS (by omega) | assumption) only [n_X3_knownPace, e_il1, e_iconst, e_imul, e_il3, e_iadd, e_is4i, e_is4r, e_is4u, e_if_eq, e_al0, g_69_9, e_il4, e_if_ne, e_gotow, g_69_10, e_il2, r_X3_paceOf, e_iret, al_74, as_74, kn_101, b_X3_knownPace_22, b_X3_knownPace_41, Option.bind_some, Option.toList_some, Option.toList_none, List.cons_append, List.nil_append, z_0, nI_add, pk_mul, pk_sub, pk_div, n_mod, nI_clamp, nI_leI, nI_ltI, nI_eq, le_T, le_F, lt_T, lt_F, eq_T, eq_F, n_i0, n_i1, eq_self, not_true_eq_false, not_false_eq_true, Bool.false_eq_true, ↓reduceIte, if_true, if_false, tm_up_n, tm_up_s, tm_up_i, ite_self, true_and, and_true, false_and, and_false, n_ofN, Nat.reduceAdd, Nat.reduceMul, Nat.reduceSub, Nat.zero_add, Nat.reduceMul, Nat.reduceAdd, Nat.zero_add, Nat.zero_mul, h10, rP]
  · rw [tm_up_n a3, fP c a1 a2]
theorem m_rneg {k : Nat} {e f L : Int32} {M : tm_M} (h : oE M D a ju mm) (hk : k ≤ mm) (hm : mm ≤ 8) (hL : L < nI 0) : tm_call d 32 [.ref 69, .int (nI k), .int e, .int f, .int L] (tm_GG l x) M = some (some (.int (nI 0)), tm_GG l x, M) := by
  have h11 := h.2.2.1
  have h2 : L < nI (mm - k) := Int32.lt_of_lt_of_le hL ((nI_leI (by decide) (by omega)).mpr (Nat.zero_le _))
  have h3 := Int32.not_le.mpr h2
  simp (disch := first | exact tm_inb_i (by omega) (by omega) | exact tm_cc rfl | exact tm_cat rfl | omega | exact nI_ne0 (by omega) (by omega) | exact nI_ne (by omega) (by omega) (by omega) | exact tm_cS (by omega) | assumption) only [n_X3_rowsFrom, e_il4, e_al0, g_69_11, e_il1, e_isub, e_ic_ge, e_iconst, e_iret, e_ic_lt, g_69_12, e_if_eq, e_if_le, e_goto, e_gotow, e_il2, e_il3, r_X3_knownPace, e_is5i, e_is5r, e_is5u, e_is6i, e_is6r, e_is6u, e_is7i, e_is7r, e_is7u, e_il7, e_ic_gt, e_il5, e_iadd, e_mmax, e_is8i, e_is8r, e_is8u, e_if_ne, g_69_9, r_J7_fill_53178, e_il8, r_X3_rowsFrom, e_is9i, e_is9r, e_is9u, e_il6, e_il9, e_imul, e_ii7i, e_ii7r, e_ii7u, k_m1, kn_0, kn_1, kn_2, b_X3_rowsFrom_13, b_X3_rowsFrom_37, b_X3_rowsFrom_38, b_X3_rowsFrom_39, b_X3_rowsFrom_83, b_X3_rowsFrom_96, b_X3_rowsFrom_97, b_X3_rowsFrom_123, b_X3_rowsFrom_125, b_X3_rowsFrom_134, Option.bind_some, Option.toList_some, Option.toList_none, List.cons_append, List.nil_append, z_0, nI_add, pk_mul, pk_sub, pk_div, n_mod, nI_clamp, nI_leI, nI_ltI, nI_eq, le_T, le_F, lt_T, lt_F, eq_T, eq_F, n_i0, n_i1, eq_self, not_true_eq_false, not_false_eq_true, Bool.false_eq_true, ↓reduceIte, if_true, if_false, tm_up_n, tm_up_s, tm_up_i, ite_self, true_and, and_true, false_and, and_false, n_ofN, Nat.reduceAdd, Nat.reduceMul, Nat.reduceSub, Nat.zero_add, h11, h2, h3]
/-- one draw, behind the first piece -/
theorem m_rt {k n v ro tk re rr : Nat} {e f dI : Int32} {v8 v9 : Value} {M M1 : tm_M} (hk : 1 ≤ k) (hk8 : k < 8) (hmax : (if nI 1 < nI v + dI then nI v + dI else nI 1) = nI tk) (hg : (nI 1 < dI) = False) (hz : ((dI = nI 0) = False ∧ rr = re) ∨ ((dI = nI 0) = True ∧ rr = 2 * re)) (hr : tm_call d 32 [.ref 69, .int (nI (k + 1)), .int e, .int (nI tk), .int (nI n - nI tk)] (tm_GG l x) M = some (some (.int (nI re)), tm_GG l x, M1)) : tm_ev (d + 1) (tm_blk (Int.toNat 320054)) [.ref 69, .int (nI k), .int e, .int f, .int (nI n), .int (nI v), .int (nI ro), .int dI, v8, v9] [] (tm_GG l x) M = tm_ev (d + 1) (tm_blk (Int.toNat 320054)) [.ref 69, .int (nI k), .int e, .int f, .int (nI n), .int (nI v), .int (nI (ro + rr)), .int (dI + nI 1), .int (nI tk), .int (nI re)] [] (tm_GG l x) M1 := by
  conv => lhs; rw [b_X3_rowsFrom_54]
  rcases hz with ⟨z, rfl⟩ | ⟨z, rfl⟩
  · simp (disch := first | exact tm_inb_i (by omega) (by omega) | exact tm_cc rfl | exact tm_cat rfl | omega | exact nI_ne0 (by omega) (by omega) | exact nI_ne (by omega) (by omega) (by omega) | exact tm_cS (by omega) | assumption) only [e_il4, e_al0, g_69_11, e_il1, e_isub, e_ic_ge, e_iconst, e_iret, e_ic_lt, g_69_12, e_if_eq, e_if_le, e_goto, e_gotow, e_il2, e_il3, r_X3_knownPace, e_is5i, e_is5r, e_is5u, e_is6i, e_is6r, e_is6u, e_is7i, e_is7r, e_is7u, e_il7, e_ic_gt, e_il5, e_iadd, e_mmax, e_is8i, e_is8r, e_is8u, e_if_ne, g_69_9, r_J7_fill_53178, e_il8, r_X3_rowsFrom, e_is9i, e_is9r, e_is9u, e_il6, e_il9, e_imul, e_ii7i, e_ii7r, e_ii7u, k_m1, kn_0, kn_1, kn_2, b_X3_rowsFrom_13, b_X3_rowsFrom_37, b_X3_rowsFrom_38, b_X3_rowsFrom_39, b_X3_rowsFrom_83, b_X3_rowsFrom_96, b_X3_rowsFrom_97, b_X3_rowsFrom_123, b_X3_rowsFrom_125, b_X3_rowsFrom_134, Option.bind_some, Option.toList_some, Option.toList_none, List.cons_append, List.nil_append, z_0, nI_add, pk_mul, pk_sub, pk_div, n_mod, nI_clamp, nI_leI, nI_ltI, nI_eq, le_T, le_F, lt_T, lt_F, eq_T, eq_F, n_i0, n_i1, eq_self, not_true_eq_false, not_false_eq_true, Bool.false_eq_true, ↓reduceIte, if_true, if_false, tm_up_n, tm_up_s, tm_up_i, ite_self, true_and, and_true, false_and, and_false, n_ofN, Nat.reduceAdd, Nat.reduceMul, Nat.reduceSub, Nat.zero_add, hg, hmax, hr, z]
  · simp (disch := first | exact tm_inb_i (by omega) (by omega) | exact tm_cc rfl | exact tm_cat rfl | omega | exact nI_ne0 (by omega) (by omega) | exact nI_ne (by omega) (by omega) (by omega) | exact tm_cS (by omega) | assumption) only [e_il4, e_al0, g_69_11, e_il1, e_isub, e_ic_ge, e_iconst, e_iret, e_ic_lt, g_69_12, e_if_eq, e_if_le, e_goto, e_gotow, e_il2, e_il3, r_X3_knownPace, e_is5i, e_is5r, e_is5u, e_is6i, e_is6r, e_is6u, e_is7i, e_is7r, e_is7u, e_il7, e_ic_gt, e_il5, e_iadd, e_mmax, e_is8i, e_is8r, e_is8u, e_if_ne, g_69_9, r_J7_fill_53178, e_il8, r_X3_rowsFrom, e_is9i, e_is9r, e_is9u, e_il6, e_il9, e_imul, e_ii7i, e_ii7r, e_ii7u, k_m1, kn_0, kn_1, kn_2, b_X3_rowsFrom_13, b_X3_rowsFrom_37, b_X3_rowsFrom_38, b_X3_rowsFrom_39, b_X3_rowsFrom_83, b_X3_rowsFrom_96, b_X3_rowsFrom_97, b_X3_rowsFrom_123, b_X3_rowsFrom_125, b_X3_rowsFrom_134, Option.bind_some, Option.toList_some, Option.toList_none, List.cons_append, List.nil_append, z_0, nI_add, pk_mul, pk_sub, pk_div, n_mod, nI_clamp, nI_leI, nI_ltI, nI_eq, le_T, le_F, lt_T, lt_F, eq_T, eq_F, n_i0, n_i1, eq_self, not_true_eq_false, not_false_eq_true, Bool.false_eq_true, ↓reduceIte, if_true, if_false, tm_up_n, tm_up_s, tm_up_i, ite_self, true_and, and_true, false_and, and_false, n_ofN, Nat.reduceAdd, Nat.reduceMul, Nat.reduceSub, Nat.zero_add, hg, hmax, hr, z]
theorem m_rend {k n v ro : Nat} {e f : Int32} {v8 v9 : Value} {M : tm_M} : tm_ev (d + 1) (tm_blk (Int.toNat 320054)) [.ref 69, .int (nI k), .int e, .int f, .int (nI n), .int (nI v), .int (nI ro), .int (nI 2), v8, v9] [] (tm_GG l x) M = some (some (.int (nI ro)), tm_GG l x, M) := by
  rw [b_X3_rowsFrom_54]
  simp (disch := first | exact tm_inb_i (by omega) (by omega) | exact tm_cc rfl | exact tm_cat rfl | omega | exact nI_ne0 (by omega) (by omega) | exact nI_ne (by omega) (by omega) (by omega) | exact tm_cS (by omega) | assumption) only [e_il4, e_al0, g_69_11, e_il1, e_isub, e_ic_ge, e_iconst, e_iret, e_ic_lt, g_69_12, e_if_eq, e_if_le, e_goto, e_gotow, e_il2, e_il3, r_X3_knownPace, e_is5i, e_is5r, e_is5u, e_is6i, e_is6r, e_is6u, e_is7i, e_is7r, e_is7u, e_il7, e_ic_gt, e_il5, e_iadd, e_mmax, e_is8i, e_is8r, e_is8u, e_if_ne, g_69_9, r_J7_fill_53178, e_il8, r_X3_rowsFrom, e_is9i, e_is9r, e_is9u, e_il6, e_il9, e_imul, e_ii7i, e_ii7r, e_ii7u, k_m1, kn_0, kn_1, kn_2, b_X3_rowsFrom_13, b_X3_rowsFrom_37, b_X3_rowsFrom_38, b_X3_rowsFrom_39, b_X3_rowsFrom_83, b_X3_rowsFrom_96, b_X3_rowsFrom_97, b_X3_rowsFrom_123, b_X3_rowsFrom_125, b_X3_rowsFrom_134, Option.bind_some, Option.toList_some, Option.toList_none, List.cons_append, List.nil_append, z_0, nI_add, pk_mul, pk_sub, pk_div, n_mod, nI_clamp, nI_leI, nI_ltI, nI_eq, le_T, le_F, lt_T, lt_F, eq_T, eq_F, n_i0, n_i1, eq_self, not_true_eq_false, not_false_eq_true, Bool.false_eq_true, ↓reduceIte, if_true, if_false, tm_up_n, tm_up_s, tm_up_i, ite_self, true_and, and_true, false_and, and_false, n_ofN, Nat.reduceAdd, Nat.reduceMul, Nat.reduceSub, Nat.zero_add]
theorem m_rw (hm : mm ≤ 8) : ∀ (c k e f n : Nat) (M : tm_M), k + c = mm → 1 ≤ k → e ≤ 100 → f ≤ 100 → n < 2 ^ 31 → oE M D a ju mm → kN M D a e → ∃ M', tm_call (d + 4 + c) 32 [.ref 69, .int (nI k), .int (nI e), .int (nI f), .int (nI n)] (tm_GG l x) M = some (some (.int (nI (rwn D a ju c k e f n))), tm_GG l x, M') ∧ kN M' D a e ∧ frO M M' := by
  intro c
  induction c with
  | zero =>
    intro k e f n M hk hk1 he hf hn h hN
    refine ⟨M, ?_, hN, fun _ _ _ _ => rfl⟩
    have h11 := h.2.2.1
    have h12 := h.2.2.2
    unfold rwn
    rcases boo ju with rfl | rfl
    · rw [bI_t] at h12
      by_cases q : n = 0
      · rw [if_neg (fun z => z.2 q)]
        simp (disch := first | exact tm_inb_i (by omega) (by omega) | exact tm_cc rfl | exact tm_cat rfl | omega | exact nI_ne0 (by omega) (by omega) | exact nI_ne (by omega) (by omega) (by omega) | exact tm_cS (by omega) | assumption) only [n_X3_rowsFrom, e_il4, e_al0, g_69_11, e_il1, e_isub, e_ic_ge, e_iconst, e_iret, e_ic_lt, g_69_12, e_if_eq, e_if_le, e_goto, e_gotow, e_il2, e_il3, r_X3_knownPace, e_is5i, e_is5r, e_is5u, e_is6i, e_is6r, e_is6u, e_is7i, e_is7r, e_is7u, e_il7, e_ic_gt, e_il5, e_iadd, e_mmax, e_is8i, e_is8r, e_is8u, e_if_ne, g_69_9, r_J7_fill_53178, e_il8, r_X3_rowsFrom, e_is9i, e_is9r, e_is9u, e_il6, e_il9, e_imul, e_ii7i, e_ii7r, e_ii7u, k_m1, kn_0, kn_1, kn_2, b_X3_rowsFrom_13, b_X3_rowsFrom_37, b_X3_rowsFrom_38, b_X3_rowsFrom_39, b_X3_rowsFrom_83, b_X3_rowsFrom_96, b_X3_rowsFrom_97, b_X3_rowsFrom_123, b_X3_rowsFrom_125, b_X3_rowsFrom_134, Option.bind_some, Option.toList_some, Option.toList_none, List.cons_append, List.nil_append, z_0, nI_add, pk_mul, pk_sub, pk_div, n_mod, nI_clamp, nI_leI, nI_ltI, nI_eq, le_T, le_F, lt_T, lt_F, eq_T, eq_F, n_i0, n_i1, eq_self, not_true_eq_false, not_false_eq_true, Bool.false_eq_true, ↓reduceIte, if_true, if_false, tm_up_n, tm_up_s, tm_up_i, ite_self, true_and, and_true, false_and, and_false, n_ofN, Nat.reduceAdd, Nat.reduceMul, Nat.reduceSub, Nat.zero_add, h11, h12]
      · rw [if_pos ⟨rfl, q⟩]
        simp (disch := first | exact tm_inb_i (by omega) (by omega) | exact tm_cc rfl | exact tm_cat rfl | omega | exact nI_ne0 (by omega) (by omega) | exact nI_ne (by omega) (by omega) (by omega) | exact tm_cS (by omega) | assumption) only [n_X3_rowsFrom, e_il4, e_al0, g_69_11, e_il1, e_isub, e_ic_ge, e_iconst, e_iret, e_ic_lt, g_69_12, e_if_eq, e_if_le, e_goto, e_gotow, e_il2, e_il3, r_X3_knownPace, e_is5i, e_is5r, e_is5u, e_is6i, e_is6r, e_is6u, e_is7i, e_is7r, e_is7u, e_il7, e_ic_gt, e_il5, e_iadd, e_mmax, e_is8i, e_is8r, e_is8u, e_if_ne, g_69_9, r_J7_fill_53178, e_il8, r_X3_rowsFrom, e_is9i, e_is9r, e_is9u, e_il6, e_il9, e_imul, e_ii7i, e_ii7r, e_ii7u, k_m1, kn_0, kn_1, kn_2, b_X3_rowsFrom_13, b_X3_rowsFrom_37, b_X3_rowsFrom_38, b_X3_rowsFrom_39, b_X3_rowsFrom_83, b_X3_rowsFrom_96, b_X3_rowsFrom_97, b_X3_rowsFrom_123, b_X3_rowsFrom_125, b_X3_rowsFrom_134, Option.bind_some, Option.toList_some, Option.toList_none, List.cons_append, List.nil_append, z_0, nI_add, pk_mul, pk_sub, pk_div, n_mod, nI_clamp, nI_leI, nI_ltI, nI_eq, le_T, le_F, lt_T, lt_F, eq_T, eq_F, n_i0, n_i1, eq_self, not_true_eq_false, not_false_eq_true, Bool.false_eq_true, ↓reduceIte, if_true, if_false, tm_up_n, tm_up_s, tm_up_i, ite_self, true_and, and_true, false_and, and_false, n_ofN, Nat.reduceAdd, Nat.reduceMul, Nat.reduceSub, Nat.zero_add, h11, h12]
    · rw [bI_f] at h12
      rw [if_neg (fun z => by cases z.1)]
      simp (disch := first | exact tm_inb_i (by omega) (by omega) | exact tm_cc rfl | exact tm_cat rfl | omega | exact nI_ne0 (by omega) (by omega) | exact nI_ne (by omega) (by omega) (by omega) | exact tm_cS (by omega) | assumption) only [n_X3_rowsFrom, e_il4, e_al0, g_69_11, e_il1, e_isub, e_ic_ge, e_iconst, e_iret, e_ic_lt, g_69_12, e_if_eq, e_if_le, e_goto, e_gotow, e_il2, e_il3, r_X3_knownPace, e_is5i, e_is5r, e_is5u, e_is6i, e_is6r, e_is6u, e_is7i, e_is7r, e_is7u, e_il7, e_ic_gt, e_il5, e_iadd, e_mmax, e_is8i, e_is8r, e_is8u, e_if_ne, g_69_9, r_J7_fill_53178, e_il8, r_X3_rowsFrom, e_is9i, e_is9r, e_is9u, e_il6, e_il9, e_imul, e_ii7i, e_ii7r, e_ii7u, k_m1, kn_0, kn_1, kn_2, b_X3_rowsFrom_13, b_X3_rowsFrom_37, b_X3_rowsFrom_38, b_X3_rowsFrom_39, b_X3_rowsFrom_83, b_X3_rowsFrom_96, b_X3_rowsFrom_97, b_X3_rowsFrom_123, b_X3_rowsFrom_125, b_X3_rowsFrom_134, Option.bind_some, Option.toList_some, Option.toList_none, List.cons_append, List.nil_append, z_0, nI_add, pk_mul, pk_sub, pk_div, n_mod, nI_clamp, nI_leI, nI_ltI, nI_eq, le_T, le_F, lt_T, lt_F, eq_T, eq_F, n_i0, n_i1, eq_self, not_true_eq_false, not_false_eq_true, Bool.false_eq_true, ↓reduceIte, if_true, if_false, tm_up_n, tm_up_s, tm_up_i, ite_self, true_and, and_true, false_and, and_false, n_ofN, Nat.reduceAdd, Nat.reduceMul, Nat.reduceSub, Nat.zero_add, h11, h12]
  | succ c ih =>
    intro k e f n M hk hk1 he hf hn h hN
    have h11 := h.2.2.1
    by_cases hp : n < c + 1
    · refine ⟨M, ?_, hN, fun _ _ _ _ => rfl⟩
      rw [rwn_z D a ju _ _ _ _ _ hp]
      simp (disch := first | exact tm_inb_i (by omega) (by omega) | exact tm_cc rfl | exact tm_cat rfl | omega | exact nI_ne0 (by omega) (by omega) | exact nI_ne (by omega) (by omega) (by omega) | exact tm_cS (by omega) | assumption) only [n_X3_rowsFrom, e_il4, e_al0, g_69_11, e_il1, e_isub, e_ic_ge, e_iconst, e_iret, e_ic_lt, g_69_12, e_if_eq, e_if_le, e_goto, e_gotow, e_il2, e_il3, r_X3_knownPace, e_is5i, e_is5r, e_is5u, e_is6i, e_is6r, e_is6u, e_is7i, e_is7r, e_is7u, e_il7, e_ic_gt, e_il5, e_iadd, e_mmax, e_is8i, e_is8r, e_is8u, e_if_ne, g_69_9, r_J7_fill_53178, e_il8, r_X3_rowsFrom, e_is9i, e_is9r, e_is9u, e_il6, e_il9, e_imul, e_ii7i, e_ii7r, e_ii7u, k_m1, kn_0, kn_1, kn_2, b_X3_rowsFrom_13, b_X3_rowsFrom_37, b_X3_rowsFrom_38, b_X3_rowsFrom_39, b_X3_rowsFrom_83, b_X3_rowsFrom_96, b_X3_rowsFrom_97, b_X3_rowsFrom_123, b_X3_rowsFrom_125, b_X3_rowsFrom_134, Option.bind_some, Option.toList_some, Option.toList_none, List.cons_append, List.nil_append, z_0, nI_add, pk_mul, pk_sub, pk_div, n_mod, nI_clamp, nI_leI, nI_ltI, nI_eq, le_T, le_F, lt_T, lt_F, eq_T, eq_F, n_i0, n_i1, eq_self, not_true_eq_false, not_false_eq_true, Bool.false_eq_true, ↓reduceIte, if_true, if_false, tm_up_n, tm_up_s, tm_up_i, ite_self, true_and, and_true, false_and, and_false, n_ofN, Nat.reduceAdd, Nat.reduceMul, Nat.reduceSub, Nat.zero_add, h11]
    · obtain ⟨M0, r0, n0, f0⟩ := m_kp (d := d + 1 + c) (l := l) (x := x) h hk1 (by omega) he hf hN
      have hv := xP_rng D a (nI k) k (nI e) (nI f)
      rw [rwn_s]
      generalize xP D a (nI k) k (nI e) (nI f) = v at *
      have ht1 := t1_rng hv.1
      have turn : ∀ t, 1 ≤ t → t ≤ 100 → ∀ N : tm_M, oE N D a ju mm → kN N D a e → ∃ N', tm_call (d + 4 + c) 32 [.ref 69, .int (nI (k + 1)), .int (nI e), .int (nI t), .int (nI n - nI t)] (tm_GG l x) N = some (some (.int (nI (rwt D a ju c k e n t))), tm_GG l x, N') ∧ kN N' D a e ∧ frO N N' := by
        intro t h1 h2 N hE hN'
        unfold rwt
        by_cases q : t ≤ n
        · rw [if_pos q, if_neg (by omega), pk_sub q]
          exact ih (k + 1) e t (n - t) N (by omega) (by omega) he h2 (by omega) hE hN'
        · rw [if_neg q]
          exact ⟨N, m_rneg hE (by omega) hm (neg_lt hn (by omega) (by omega)), hN', fun _ _ _ _ => rfl⟩
      have E0 := frO_oE f0 h
      obtain ⟨M1, r1, n1, f1⟩ := turn (t1 v) ht1.1 (by omega) M0 E0 n0
      have E1 := frO_oE f1 E0
      obtain ⟨M2, r2, n2, f2⟩ := turn v hv.1 (by omega) M1 E1 n1
      have E2 := frO_oE f2 E1
      obtain ⟨M3, r3, n3, f3⟩ := turn (v + 1) (by omega) (by omega) M2 E2 n2
      refine ⟨M3, ?_, n3, fun c a1 a2 a3 => by rw [f3 c a1 a2 a3, f2 c a1 a2 a3, f1 c a1 a2 a3, f0 c a1 a2 a3]⟩
      have s1 := m_rt (f := nI f) (ro := 0) (dI := -1) (v8 := tm_un) (v9 := tm_un) hk1 (show k < 8 by omega) (max_m hv.1 hv.2) m1_gt (Or.inl ⟨m1_ne (by decide), rfl⟩) r1
      have s2 := m_rt (f := nI f) (ro := 0 + rwt D a ju c k e n (t1 v)) (dI := nI 0) (v8 := .int (nI (t1 v))) (v9 := .int (nI (rwt D a ju c k e n (t1 v)))) hk1 (show k < 8 by omega) (max_0 hv.1 hv.2) (by decide +kernel) (Or.inr ⟨eq_self _, rfl⟩) r2
      have s3 := m_rt (f := nI f) (ro := 0 + rwt D a ju c k e n (t1 v) + 2 * rwt D a ju c k e n v) (dI := nI 1) (v8 := .int (nI v)) (v9 := .int (nI (rwt D a ju c k e n v))) hk1 (show k < 8 by omega) (max_1 hv.1 hv.2) (by decide +kernel) (Or.inl ⟨by decide +kernel, rfl⟩) r3
      rw [m1_p] at s1
      rw [show nI 0 + nI 1 = nI 1 by decide +kernel] at s2
      rw [show nI 1 + nI 1 = nI 2 by decide +kernel, m_rend] at s3
      rw [s2.trans s3, Nat.zero_add] at s1
      rw [show d + 1 + c + 3 = d + 4 + c by omega] at r0
      rw [show d + 4 + (c + 1) = (d + 4 + c) + 1 from rfl]
      simp (disch := first | exact tm_inb_i (by omega) (by omega) | exact tm_cc rfl | exact tm_cat rfl | omega | exact nI_ne0 (by omega) (by omega) | exact nI_ne (by omega) (by omega) (by omega) | exact tm_cS (by omega) | assumption) only [n_X3_rowsFrom, e_il4, e_al0, g_69_11, e_il1, e_isub, e_ic_ge, e_iconst, e_iret, e_ic_lt, g_69_12, e_if_eq, e_if_le, e_goto, e_gotow, e_il2, e_il3, r_X3_knownPace, e_is5i, e_is5r, e_is5u, e_is6i, e_is6r, e_is6u, e_is7i, e_is7r, e_is7u, e_il7, e_ic_gt, e_il5, e_iadd, e_mmax, e_is8i, e_is8r, e_is8u, e_if_ne, g_69_9, r_J7_fill_53178, e_il8, r_X3_rowsFrom, e_is9i, e_is9r, e_is9u, e_il6, e_il9, e_imul, e_ii7i, e_ii7r, e_ii7u, k_m1, kn_0, kn_1, kn_2, b_X3_rowsFrom_13, b_X3_rowsFrom_37, b_X3_rowsFrom_38, b_X3_rowsFrom_39, b_X3_rowsFrom_83, b_X3_rowsFrom_96, b_X3_rowsFrom_97, b_X3_rowsFrom_123, b_X3_rowsFrom_125, b_X3_rowsFrom_134, Option.bind_some, Option.toList_some, Option.toList_none, List.cons_append, List.nil_append, z_0, nI_add, pk_mul, pk_sub, pk_div, n_mod, nI_clamp, nI_leI, nI_ltI, nI_eq, le_T, le_F, lt_T, lt_F, eq_T, eq_F, n_i0, n_i1, eq_self, not_true_eq_false, not_false_eq_true, Bool.false_eq_true, ↓reduceIte, if_true, if_false, tm_up_n, tm_up_s, tm_up_i, ite_self, true_and, and_true, false_and, and_false, n_ofN, Nat.reduceAdd, Nat.reduceMul, Nat.reduceSub, Nat.zero_add, h11, r0, s1]
theorem m_rt0 {n v ro tk re rr : Nat} {dI : Int32} {v8 v9 : Value} {M M1 : tm_M} (hmax : (if nI 1 < nI v + dI then nI v + dI else nI 1) = nI tk) (hg : (nI 1 < dI) = False) (hz : ((dI = nI 0) = False ∧ rr = re) ∨ ((dI = nI 0) = True ∧ rr = 2 * re)) (hr : tm_call d 32 [.ref 69, .int (nI 1), .int (nI tk), .int (nI tk), .int (nI n - nI tk)] (tm_GG l x) (tm_uc M 74 (tm_fil (nI 0) 0 808 (M 74))) = some (some (.int (nI re)), tm_GG l x, M1)) : tm_ev (d + 1) (tm_blk (Int.toNat 320054)) [.ref 69, .int (nI 0), .int (nI 0), .int (nI 0), .int (nI n), .int (nI v), .int (nI ro), .int dI, v8, v9] [] (tm_GG l x) M = tm_ev (d + 1) (tm_blk (Int.toNat 320054)) [.ref 69, .int (nI 0), .int (nI 0), .int (nI 0), .int (nI n), .int (nI v), .int (nI (ro + rr)), .int (dI + nI 1), .int (nI tk), .int (nI re)] [] (tm_GG l x) M1 := by
  conv => lhs; rw [b_X3_rowsFrom_54]
  rcases hz with ⟨z, rfl⟩ | ⟨z, rfl⟩
  · simp (disch := first | exact tm_inb_i (by omega) (by omega) | exact tm_cc rfl | exact tm_cat rfl | omega | exact nI_ne0 (by omega) (by omega) | exact nI_ne (by omega) (by omega) (by omega) | exact tm_cS (by omega) | assumption) only [e_il4, e_al0, g_69_11, e_il1, e_isub, e_ic_ge, e_iconst, e_iret, e_ic_lt, g_69_12, e_if_eq, e_if_le, e_goto, e_gotow, e_il2, e_il3, r_X3_knownPace, e_is5i, e_is5r, e_is5u, e_is6i, e_is6r, e_is6u, e_is7i, e_is7r, e_is7u, e_il7, e_ic_gt, e_il5, e_iadd, e_mmax, e_is8i, e_is8r, e_is8u, e_if_ne, g_69_9, r_J7_fill_53178, e_il8, r_X3_rowsFrom, e_is9i, e_is9r, e_is9u, e_il6, e_il9, e_imul, e_ii7i, e_ii7r, e_ii7u, k_m1, kn_0, kn_1, kn_2, b_X3_rowsFrom_13, b_X3_rowsFrom_37, b_X3_rowsFrom_38, b_X3_rowsFrom_39, b_X3_rowsFrom_83, b_X3_rowsFrom_96, b_X3_rowsFrom_97, b_X3_rowsFrom_123, b_X3_rowsFrom_125, b_X3_rowsFrom_134, Option.bind_some, Option.toList_some, Option.toList_none, List.cons_append, List.nil_append, z_0, nI_add, pk_mul, pk_sub, pk_div, n_mod, nI_clamp, nI_leI, nI_ltI, nI_eq, le_T, le_F, lt_T, lt_F, eq_T, eq_F, n_i0, n_i1, eq_self, not_true_eq_false, not_false_eq_true, Bool.false_eq_true, ↓reduceIte, if_true, if_false, tm_up_n, tm_up_s, tm_up_i, ite_self, true_and, and_true, false_and, and_false, n_ofN, Nat.reduceAdd, Nat.reduceMul, Nat.reduceSub, Nat.zero_add, m_fill_74, Nat.reduceAdd, Nat.zero_add, hg, hmax, hr, z]
  · simp (disch := first | exact tm_inb_i (by omega) (by omega) | exact tm_cc rfl | exact tm_cat rfl | omega | exact nI_ne0 (by omega) (by omega) | exact nI_ne (by omega) (by omega) (by omega) | exact tm_cS (by omega) | assumption) only [e_il4, e_al0, g_69_11, e_il1, e_isub, e_ic_ge, e_iconst, e_iret, e_ic_lt, g_69_12, e_if_eq, e_if_le, e_goto, e_gotow, e_il2, e_il3, r_X3_knownPace, e_is5i, e_is5r, e_is5u, e_is6i, e_is6r, e_is6u, e_is7i, e_is7r, e_is7u, e_il7, e_ic_gt, e_il5, e_iadd, e_mmax, e_is8i, e_is8r, e_is8u, e_if_ne, g_69_9, r_J7_fill_53178, e_il8, r_X3_rowsFrom, e_is9i, e_is9r, e_is9u, e_il6, e_il9, e_imul, e_ii7i, e_ii7r, e_ii7u, k_m1, kn_0, kn_1, kn_2, b_X3_rowsFrom_13, b_X3_rowsFrom_37, b_X3_rowsFrom_38, b_X3_rowsFrom_39, b_X3_rowsFrom_83, b_X3_rowsFrom_96, b_X3_rowsFrom_97, b_X3_rowsFrom_123, b_X3_rowsFrom_125, b_X3_rowsFrom_134, Option.bind_some, Option.toList_some, Option.toList_none, List.cons_append, List.nil_append, z_0, nI_add, pk_mul, pk_sub, pk_div, n_mod, nI_clamp, nI_leI, nI_ltI, nI_eq, le_T, le_F, lt_T, lt_F, eq_T, eq_F, n_i0, n_i1, eq_self, not_true_eq_false, not_false_eq_true, Bool.false_eq_true, ↓reduceIte, if_true, if_false, tm_up_n, tm_up_s, tm_up_i, ite_self, true_and, and_true, false_and, and_false, n_ofN, Nat.reduceAdd, Nat.reduceMul, Nat.reduceSub, Nat.zero_add, m_fill_74, Nat.reduceAdd, Nat.zero_add, hg, hmax, hr, z]
theorem kN_fill {M : tm_M} {e : Nat} : kN (tm_uc M 74 (tm_fil (nI 0) 0 808 (M 74))) D a e := by
  intro p f h1 h2 h3
  rw [tm_uc_at]
  exact Or.inl (fil_p ⟨by omega, by omega⟩)
theorem m_rw0 (hm : mm ≤ 8) (hm1 : 1 ≤ mm) {n : Nat} {M : tm_M} (hn : n < 2 ^ 31) (h : oE M D a ju mm) : ∃ M', tm_call (d + 4 + mm) 32 [.ref 69, .int (nI 0), .int (nI 0), .int (nI 0), .int (nI n)] (tm_GG l x) M = some (some (.int (nI (rwn D a ju mm 0 0 0 n))), tm_GG l x, M') ∧ frO M M' := by
  obtain ⟨c, rfl⟩ : ∃ c, mm = c + 1 := ⟨mm - 1, by omega⟩
  have h11 := h.2.2.1
  by_cases hp : n < c + 1
  · refine ⟨M, ?_, fun _ _ _ _ => rfl⟩
    rw [rwn_z D a ju _ _ _ _ _ hp]
    simp (disch := first | exact tm_inb_i (by omega) (by omega) | exact tm_cc rfl | exact tm_cat rfl | omega | exact nI_ne0 (by omega) (by omega) | exact nI_ne (by omega) (by omega) (by omega) | exact tm_cS (by omega) | assumption) only [n_X3_rowsFrom, e_il4, e_al0, g_69_11, e_il1, e_isub, e_ic_ge, e_iconst, e_iret, e_ic_lt, g_69_12, e_if_eq, e_if_le, e_goto, e_gotow, e_il2, e_il3, r_X3_knownPace, e_is5i, e_is5r, e_is5u, e_is6i, e_is6r, e_is6u, e_is7i, e_is7r, e_is7u, e_il7, e_ic_gt, e_il5, e_iadd, e_mmax, e_is8i, e_is8r, e_is8u, e_if_ne, g_69_9, r_J7_fill_53178, e_il8, r_X3_rowsFrom, e_is9i, e_is9r, e_is9u, e_il6, e_il9, e_imul, e_ii7i, e_ii7r, e_ii7u, k_m1, kn_0, kn_1, kn_2, b_X3_rowsFrom_13, b_X3_rowsFrom_37, b_X3_rowsFrom_38, b_X3_rowsFrom_39, b_X3_rowsFrom_83, b_X3_rowsFrom_96, b_X3_rowsFrom_97, b_X3_rowsFrom_123, b_X3_rowsFrom_125, b_X3_rowsFrom_134, Option.bind_some, Option.toList_some, Option.toList_none, List.cons_append, List.nil_append, z_0, nI_add, pk_mul, pk_sub, pk_div, n_mod, nI_clamp, nI_leI, nI_ltI, nI_eq, le_T, le_F, lt_T, lt_F, eq_T, eq_F, n_i0, n_i1, eq_self, not_true_eq_false, not_false_eq_true, Bool.false_eq_true, ↓reduceIte, if_true, if_false, tm_up_n, tm_up_s, tm_up_i, ite_self, true_and, and_true, false_and, and_false, n_ofN, Nat.reduceAdd, Nat.reduceMul, Nat.reduceSub, Nat.zero_add, h11]
  · obtain ⟨M0, r0, f0⟩ := m_kp0 (d := d + 1 + c) (l := l) (x := x) h
    have hv := xP_rng D a (nI 0) 0 (nI 0) (nI 0)
    rw [rwn_s]
    generalize xP D a (nI 0) 0 (nI 0) (nI 0) = v at *
    have ht1 := t1_rng hv.1
    have fF : ∀ N : tm_M, frO N (tm_uc N 74 (tm_fil (nI 0) 0 808 (N 74))) := fun N c _ _ a3 => tm_uc_ne _ _ a3
    have turn : ∀ t, 1 ≤ t → t ≤ 100 → ∀ N : tm_M, oE N D a ju (c + 1) → ∃ N', tm_call (d + 4 + c) 32 [.ref 69, .int (nI 1), .int (nI t), .int (nI t), .int (nI n - nI t)] (tm_GG l x) (tm_uc N 74 (tm_fil (nI 0) 0 808 (N 74))) = some (some (.int (nI (rwt D a ju c 0 0 n t))), tm_GG l x, N') ∧ frO N N' := by
      intro t h1 h2 N hE
      unfold rwt
      by_cases q : t ≤ n
      · rw [if_pos q, if_pos rfl, pk_sub q]
        obtain ⟨N', i1, _, i3⟩ := m_rw (d := d) (l := l) (x := x) hm c 1 t t (n - t) (tm_uc N 74 (tm_fil (nI 0) 0 808 (N 74))) (by omega) (by omega) h2 h2 (by omega) (frO_oE (fF N) hE) kN_fill
        exact ⟨N', i1, fun c a1 a2 a3 => (i3 c a1 a2 a3).trans (fF N c a1 a2 a3)⟩
      · rw [if_neg q]
        exact ⟨tm_uc N 74 (tm_fil (nI 0) 0 808 (N 74)), m_rneg (k := 1) (frO_oE (fF N) hE) (by omega) hm (neg_lt hn (by omega) (by omega)), fF N⟩
    have E0 := frO_oE f0 h
    obtain ⟨M1, r1, f1⟩ := turn (t1 v) ht1.1 (by omega) M0 E0
    have E1 := frO_oE f1 E0
    obtain ⟨M2, r2, f2⟩ := turn v hv.1 (by omega) M1 E1
    have E2 := frO_oE f2 E1
    obtain ⟨M3, r3, f3⟩ := turn (v + 1) (by omega) (by omega) M2 E2
    refine ⟨M3, ?_, fun c a1 a2 a3 => by rw [f3 c a1 a2 a3, f2 c a1 a2 a3, f1 c a1 a2 a3, f0 c a1 a2 a3]⟩
    have s1 := m_rt0 (ro := 0) (dI := -1) (v8 := tm_un) (v9 := tm_un) (max_m hv.1 hv.2) m1_gt (Or.inl ⟨m1_ne (by decide), rfl⟩) r1
    have s2 := m_rt0 (ro := 0 + rwt D a ju c 0 0 n (t1 v)) (dI := nI 0) (v8 := .int (nI (t1 v))) (v9 := .int (nI (rwt D a ju c 0 0 n (t1 v)))) (max_0 hv.1 hv.2) (by decide +kernel) (Or.inr ⟨eq_self _, rfl⟩) r2
    have s3 := m_rt0 (ro := 0 + rwt D a ju c 0 0 n (t1 v) + 2 * rwt D a ju c 0 0 n v) (dI := nI 1) (v8 := .int (nI v)) (v9 := .int (nI (rwt D a ju c 0 0 n v))) (max_1 hv.1 hv.2) (by decide +kernel) (Or.inl ⟨by decide +kernel, rfl⟩) r3
    rw [m1_p] at s1
    rw [show nI 0 + nI 1 = nI 1 by decide +kernel] at s2
    rw [show nI 1 + nI 1 = nI 2 by decide +kernel, m_rend] at s3
    rw [s2.trans s3, Nat.zero_add] at s1
    rw [show d + 1 + c + 3 = d + 4 + c by omega] at r0
    rw [show d + 4 + (c + 1) = (d + 4 + c) + 1 from rfl]
    simp (disch := first | exact tm_inb_i (by omega) (by omega) | exact tm_cc rfl | exact tm_cat rfl | omega | exact nI_ne0 (by omega) (by omega) | exact nI_ne (by omega) (by omega) (by omega) | exact tm_cS (by omega) | assumption) only [n_X3_rowsFrom, e_il4, e_al0, g_69_11, e_il1, e_isub, e_ic_ge, e_iconst, e_iret, e_ic_lt, g_69_12, e_if_eq, e_if_le, e_goto, e_gotow, e_il2, e_il3, r_X3_knownPace, e_is5i, e_is5r, e_is5u, e_is6i, e_is6r, e_is6u, e_is7i, e_is7r, e_is7u, e_il7, e_ic_gt, e_il5, e_iadd, e_mmax, e_is8i, e_is8r, e_is8u, e_if_ne, g_69_9, r_J7_fill_53178, e_il8, r_X3_rowsFrom, e_is9i, e_is9r, e_is9u, e_il6, e_il9, e_imul, e_ii7i, e_ii7r, e_ii7u, k_m1, kn_0, kn_1, kn_2, b_X3_rowsFrom_13, b_X3_rowsFrom_37, b_X3_rowsFrom_38, b_X3_rowsFrom_39, b_X3_rowsFrom_83, b_X3_rowsFrom_96, b_X3_rowsFrom_97, b_X3_rowsFrom_123, b_X3_rowsFrom_125, b_X3_rowsFrom_134, Option.bind_some, Option.toList_some, Option.toList_none, List.cons_append, List.nil_append, z_0, nI_add, pk_mul, pk_sub, pk_div, n_mod, nI_clamp, nI_leI, nI_ltI, nI_eq, le_T, le_F, lt_T, lt_F, eq_T, eq_F, n_i0, n_i1, eq_self, not_true_eq_false, not_false_eq_true, Bool.false_eq_true, ↓reduceIte, if_true, if_false, tm_up_n, tm_up_s, tm_up_i, ite_self, true_and, and_true, false_and, and_false, n_ofN, Nat.reduceAdd, Nat.reduceMul, Nat.reduceSub, Nat.zero_add, h11, r0, s1]
end TRW
