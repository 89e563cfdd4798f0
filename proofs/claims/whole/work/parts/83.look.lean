/-! part 83: goings are looked up -/
def gk (D : Nat → Int32) (g : Nat) : Nat := (D (168 + 5 * g)).toNatClampNeg
def gw (D : Nat → Int32) (g : Nat) : Nat := (D (169 + 5 * g)).toNatClampNeg
def ga (D : Nat → Int32) (g : Nat) : Nat := (D (170 + 5 * g)).toNatClampNeg
def gt (D : Nat → Int32) (g : Nat) : Nat := (D (171 + 5 * g)).toNatClampNeg
def gn (D : Nat → Int32) (g : Nat) : Nat := (D (172 + 5 * g)).toNatClampNeg
def im : Nat → Int32
  | 0 => -1
  | c + 1 => nI c
theorem im_s (c : Nat) : im (c + 1) = nI c := rfl
theorem im_dec {c : Nat} (h : c < 1000) : nI c + (-1) = im c := by
  cases c with
  | zero => decide +kernel
  | succ c =>
    rw [show (-1 : Int32) = -(nI 1) by decide +kernel, ← Int32.sub_eq_add_neg, pk_sub (by omega)]
    rfl
theorem gv {D : Nat → Int32} {n W R G g : Nat} (k : tm_kG D n W R G) (hn : n ≤ 24) (hW : W ≤ 12) (hR : R ≤ 12) (hg : g < G) : D (168 + 5 * g) = nI (gk D g) ∧ gk D g ≤ 7 ∧ D (169 + 5 * g) = nI (gw D g) ∧ gw D g < R ∧ D (170 + 5 * g) = nI (ga D g) ∧ ga D g ≤ n ∧ D (171 + 5 * g) = nI (gt D g) ∧ gt D g < 100 ∧ (gk D g ≠ 5 → gk D g ≠ 7 → ga D g < n) ∧ (gk D g = 1 ∨ gk D g = 2 ∨ gk D g = 6 → ga D g < gt D g ∧ gt D g ≤ n) ∧ (gk D g ≠ 7 → D (172 + 5 * g) = nI (gn D g) ∧ (gk D g = 0 → gn D g ≤ 99) ∧ (gk D g = 1 ∨ gk D g = 2 → gn D g ≤ 20) ∧ (gk D g = 3 ∨ gk D g = 4 → gn D g < W ∧ D (84 + 5 * gn D g) = nI (ga D g)) ∧ (gk D g = 5 ∨ gk D g = 6 → gn D g < R)) := by
  obtain ⟨kd, r, a, t, e1, e2, e3, e4, e5, e6, e7, e8, e9, e10, e11⟩ := k g hg
  have hk : gk D g = kd := by unfold gk; rw [e1, nI_clamp (by omega)]
  have hw : gw D g = r := by unfold gw; rw [e3, nI_clamp (by omega)]
  have ha : ga D g = a := by unfold ga; rw [e5, nI_clamp (by omega)]
  have ht : gt D g = t := by unfold gt; rw [e7, nI_clamp (by omega)]
  rw [hk, hw, ha, ht]
  refine ⟨e1, e2, e3, e4, e5, e6, e7, e8, e9, e10, fun h7 => ?_⟩
  obtain ⟨v, v1, v2, v3, v4, v5⟩ := e11 h7
  have hv : v ≤ 99 := by
    rcases (by omega : kd = 0 ∨ (kd = 1 ∨ kd = 2) ∨ (kd = 3 ∨ kd = 4) ∨ (kd = 5 ∨ kd = 6)) with q | q | q | q
    · exact v2 q
    · have := v3 q; omega
    · have := (v4 q).1; omega
    · have := v5 q; omega
  have hgn : gn D g = v := by unfold gn; rw [v1, nI_clamp (by omega)]
  rw [hgn]
  exact ⟨v1, v2, v3, v4, v5⟩
def lst (p : Nat → Bool) : Nat → Nat
  | 0 => 0
  | c + 1 => if p c = true then c + 1 else lst p c
theorem lst_t {p : Nat → Bool} {c : Nat} (h : p c = true) : lst p (c + 1) = c + 1 := if_pos h
theorem lst_f {p : Nat → Bool} {c : Nat} (h : ¬ p c = true) : lst p (c + 1) = lst p c := if_neg h
theorem lst_p {p : Nat → Bool} : ∀ c g, lst p c = g + 1 → g < c ∧ p g = true := by
  intro c
  induction c with
  | zero => intro g h; cases h
  | succ c ih =>
    intro g h
    by_cases q : p c = true
    · rw [lst_t q] at h
      obtain rfl : c = g := by omega
      exact ⟨by omega, q⟩
    · rw [lst_f q] at h
      obtain ⟨a, b⟩ := ih g h
      exact ⟨by omega, b⟩
def gst (D : Nat → Int32) (r m g : Nat) : Bool := decide (gw D g = r ∧ ga D g = m ∧ gk D g ≠ 5 ∧ gk D g ≠ 7)
def mis (D : Nat → Int32) (r m g : Nat) : Bool := decide (gk D g = 7 ∧ gw D g = r ∧ ga D g = m)
def cok (D : Nat → Int32) (s m g : Nat) : Bool := decide (gk D g = 5 ∧ gw D g = s ∧ ga D g ≤ m)
def cA (D : Nat → Int32) : Nat → Nat
  | 0 => 0
  | b + 1 => ga D b
def cC (D : Nat → Int32) (s : Nat) : Nat → Nat
  | 0 => s
  | b + 1 => gn D b
def cbs (D : Nat → Int32) (s m : Nat) : Nat → Nat
  | 0 => 0
  | g + 1 => if cok D s m g = true ∧ cA D (cbs D s m g) ≤ ga D g then g + 1 else cbs D s m g
theorem cbs_t {D : Nat → Int32} {s m g : Nat} (h : cok D s m g = true ∧ cA D (cbs D s m g) ≤ ga D g) : cbs D s m (g + 1) = g + 1 := if_pos h
theorem cbs_f {D : Nat → Int32} {s m g : Nat} (h : ¬ (cok D s m g = true ∧ cA D (cbs D s m g) ≤ ga D g)) : cbs D s m (g + 1) = cbs D s m g := if_neg h
theorem cbs_p {D : Nat → Int32} {s m : Nat} : ∀ c b, cbs D s m c = b + 1 → b < c ∧ cok D s m b = true := by
  intro c
  induction c with
  | zero => intro g h; cases h
  | succ c ih =>
    intro g h
    by_cases q : cok D s m c = true ∧ cA D (cbs D s m c) ≤ ga D c
    · rw [cbs_t q] at h
      obtain rfl : c = g := by omega
      exact ⟨by omega, q.1⟩
    · rw [cbs_f q] at h
      obtain ⟨a, b⟩ := ih g h
      exact ⟨by omega, b⟩
theorem boo (b : Bool) : b = true ∨ b = false := by cases b <;> simp
section TLK
variable {d l : Nat} {x : Nat → Int32} {M : tm_M} {D : Nat → Int32} {n W R G : Nat}
/-- the goings of the class -/
def eG (M : tm_M) (D : Nat → Int32) (G : Nat) : Prop := M 20 0 = nI G ∧ ∀ g, g < 40 → M 21 g = D (168 + 5 * g) ∧ M 22 g = D (169 + 5 * g) ∧ M 23 g = D (170 + 5 * g) ∧ M 24 g = D (171 + 5 * g) ∧ M 25 g = D (172 + 5 * g)
theorem eG_W {k : Nat} (hI : tm_I k M) (c5 : M 20 0 = nI G) : eG M (M 96) G := ⟨c5, fun g hg => ⟨wA hI (tm_ph_if hg), wA hI (tm_ph_if hg), wA hI (tm_ph_if hg), wA hI (tm_ph_if hg), wA hI (tm_ph_if hg)⟩⟩
/-- bounds of the numbers in a row -/
def eK (D : Nat → Int32) (n W R G : Nat) : Prop := tm_kG D n W R G ∧ n ≤ 24 ∧ W ≤ 12 ∧ R ≤ 12 ∧ G ≤ 40 ∧ D 0 = nI n ∧ D 5 = nI G
theorem m_ls1 (h : eG M D G) (hK : eK D n W R G) {r m : Nat} (hr : r < 12) (hm : m < 25) : ∀ c, c ≤ G → tm_ev d (tm_blk (Int.toNat 50007)) [.ref 20, .int (nI r), .int (nI m), .int (im c)] [] (tm_GG l x) M = some (some (.int (im (lst (gst D r m) c))), tm_GG l x, M) := by
  obtain ⟨kG, hn, hW, hR, hG40, _, _⟩ := hK
  obtain ⟨_, he⟩ := h
  intro c
  induction c with
  | zero =>
    intro _
    rw [b_X1_latestStep_7]
    simp (disch := first | exact tm_inb_i (by omega) (by omega) | exact tm_cc rfl | exact tm_cat rfl | omega | exact nI_ne0 (by omega) (by omega) | exact nI_ne (by omega) (by omega) (by omega) | exact tm_cS (by omega) | assumption) only [e_al0, g_20_0, g_54_0, e_iconst, e_isub, e_is3i, e_is3r, e_is3u, e_gotow, e_il3, e_if_lt, g_20_2, g_54_2, e_il1, e_ic_ne, g_20_3, g_54_3, e_il2, g_20_1, g_54_1, e_ic_eq, e_iret, e_ii3i, e_ii3r, e_ii3u, e_goto, al_21, al_22, al_23, al_55, al_56, al_57, k_m1, kn_1, kn_5, kn_7, b_X1_latestStep_54, b_X1_latestStep_60, Option.bind_some, Option.toList_some, Option.toList_none, List.cons_append, List.nil_append, z_0, nI_add, pk_mul, pk_sub, pk_div, n_mod, nI_clamp, nI_leI, nI_ltI, nI_eq, le_T, le_F, lt_T, lt_F, eq_T, eq_F, n_i0, n_i1, eq_self, not_true_eq_false, not_false_eq_true, Bool.false_eq_true, ↓reduceIte, if_true, if_false, tm_up_n, tm_up_s, tm_up_i, ite_self, true_and, and_true, false_and, and_false, n_ofN, Nat.reduceAdd, Nat.reduceMul, Nat.reduceSub, Nat.zero_add, im, lst, m1_lt]
  | succ c ih =>
    intro hc
    obtain ⟨f0, f1, f2, f3, f4⟩ := he c (by omega)
    obtain ⟨v0, v0', v1, v1', v2, v2', _⟩ := gv kG hn hW hR (show c < G by omega)
    rw [v0] at f0
    rw [v1] at f1
    rw [v2] at f2
    have i1 := ih (by omega)
    have i2 : nI c + -1 = im c := im_dec (by omega)
    rw [b_X1_latestStep_7, im_s]
    by_cases q1 : gw D c = r
    · by_cases q2 : ga D c = m
      · by_cases q3 : gk D c = 5
        · have e : ¬ gst D r m c = true := by unfold gst; simp [q3]
          simp (disch := first | exact tm_inb_i (by omega) (by omega) | exact tm_cc rfl | exact tm_cat rfl | omega | exact nI_ne0 (by omega) (by omega) | exact nI_ne (by omega) (by omega) (by omega) | exact tm_cS (by omega) | assumption) only [e_al0, g_20_0, g_54_0, e_iconst, e_isub, e_is3i, e_is3r, e_is3u, e_gotow, e_il3, e_if_lt, g_20_2, g_54_2, e_il1, e_ic_ne, g_20_3, g_54_3, e_il2, g_20_1, g_54_1, e_ic_eq, e_iret, e_ii3i, e_ii3r, e_ii3u, e_goto, al_21, al_22, al_23, al_55, al_56, al_57, k_m1, kn_1, kn_5, kn_7, b_X1_latestStep_54, b_X1_latestStep_60, Option.bind_some, Option.toList_some, Option.toList_none, List.cons_append, List.nil_append, z_0, nI_add, pk_mul, pk_sub, pk_div, n_mod, nI_clamp, nI_leI, nI_ltI, nI_eq, le_T, le_F, lt_T, lt_F, eq_T, eq_F, n_i0, n_i1, eq_self, not_true_eq_false, not_false_eq_true, Bool.false_eq_true, ↓reduceIte, if_true, if_false, tm_up_n, tm_up_s, tm_up_i, ite_self, true_and, and_true, false_and, and_false, n_ofN, Nat.reduceAdd, Nat.reduceMul, Nat.reduceSub, Nat.zero_add, f0, f1, f2, lst_f e, i2, i1]
        · by_cases q4 : gk D c = 7
          · have e : ¬ gst D r m c = true := by unfold gst; simp [q4]
            simp (disch := first | exact tm_inb_i (by omega) (by omega) | exact tm_cc rfl | exact tm_cat rfl | omega | exact nI_ne0 (by omega) (by omega) | exact nI_ne (by omega) (by omega) (by omega) | exact tm_cS (by omega) | assumption) only [e_al0, g_20_0, g_54_0, e_iconst, e_isub, e_is3i, e_is3r, e_is3u, e_gotow, e_il3, e_if_lt, g_20_2, g_54_2, e_il1, e_ic_ne, g_20_3, g_54_3, e_il2, g_20_1, g_54_1, e_ic_eq, e_iret, e_ii3i, e_ii3r, e_ii3u, e_goto, al_21, al_22, al_23, al_55, al_56, al_57, k_m1, kn_1, kn_5, kn_7, b_X1_latestStep_54, b_X1_latestStep_60, Option.bind_some, Option.toList_some, Option.toList_none, List.cons_append, List.nil_append, z_0, nI_add, pk_mul, pk_sub, pk_div, n_mod, nI_clamp, nI_leI, nI_ltI, nI_eq, le_T, le_F, lt_T, lt_F, eq_T, eq_F, n_i0, n_i1, eq_self, not_true_eq_false, not_false_eq_true, Bool.false_eq_true, ↓reduceIte, if_true, if_false, tm_up_n, tm_up_s, tm_up_i, ite_self, true_and, and_true, false_and, and_false, n_ofN, Nat.reduceAdd, Nat.reduceMul, Nat.reduceSub, Nat.zero_add, f0, f1, f2, lst_f e, i2, i1]
          · have e : gst D r m c = true := by unfold gst; simp [q1, q2, q3, q4]
            simp (disch := first | exact tm_inb_i (by omega) (by omega) | exact tm_cc rfl | exact tm_cat rfl | omega | exact nI_ne0 (by omega) (by omega) | exact nI_ne (by omega) (by omega) (by omega) | exact tm_cS (by omega) | assumption) only [e_al0, g_20_0, g_54_0, e_iconst, e_isub, e_is3i, e_is3r, e_is3u, e_gotow, e_il3, e_if_lt, g_20_2, g_54_2, e_il1, e_ic_ne, g_20_3, g_54_3, e_il2, g_20_1, g_54_1, e_ic_eq, e_iret, e_ii3i, e_ii3r, e_ii3u, e_goto, al_21, al_22, al_23, al_55, al_56, al_57, k_m1, kn_1, kn_5, kn_7, b_X1_latestStep_54, b_X1_latestStep_60, Option.bind_some, Option.toList_some, Option.toList_none, List.cons_append, List.nil_append, z_0, nI_add, pk_mul, pk_sub, pk_div, n_mod, nI_clamp, nI_leI, nI_ltI, nI_eq, le_T, le_F, lt_T, lt_F, eq_T, eq_F, n_i0, n_i1, eq_self, not_true_eq_false, not_false_eq_true, Bool.false_eq_true, ↓reduceIte, if_true, if_false, tm_up_n, tm_up_s, tm_up_i, ite_self, true_and, and_true, false_and, and_false, n_ofN, Nat.reduceAdd, Nat.reduceMul, Nat.reduceSub, Nat.zero_add, f0, f1, f2, lst_t e, im_s]
      · have e : ¬ gst D r m c = true := by unfold gst; simp [q2]
        simp (disch := first | exact tm_inb_i (by omega) (by omega) | exact tm_cc rfl | exact tm_cat rfl | omega | exact nI_ne0 (by omega) (by omega) | exact nI_ne (by omega) (by omega) (by omega) | exact tm_cS (by omega) | assumption) only [e_al0, g_20_0, g_54_0, e_iconst, e_isub, e_is3i, e_is3r, e_is3u, e_gotow, e_il3, e_if_lt, g_20_2, g_54_2, e_il1, e_ic_ne, g_20_3, g_54_3, e_il2, g_20_1, g_54_1, e_ic_eq, e_iret, e_ii3i, e_ii3r, e_ii3u, e_goto, al_21, al_22, al_23, al_55, al_56, al_57, k_m1, kn_1, kn_5, kn_7, b_X1_latestStep_54, b_X1_latestStep_60, Option.bind_some, Option.toList_some, Option.toList_none, List.cons_append, List.nil_append, z_0, nI_add, pk_mul, pk_sub, pk_div, n_mod, nI_clamp, nI_leI, nI_ltI, nI_eq, le_T, le_F, lt_T, lt_F, eq_T, eq_F, n_i0, n_i1, eq_self, not_true_eq_false, not_false_eq_true, Bool.false_eq_true, ↓reduceIte, if_true, if_false, tm_up_n, tm_up_s, tm_up_i, ite_self, true_and, and_true, false_and, and_false, n_ofN, Nat.reduceAdd, Nat.reduceMul, Nat.reduceSub, Nat.zero_add, f0, f1, f2, lst_f e, i2, i1]
    · have e : ¬ gst D r m c = true := by unfold gst; simp [q1]
      simp (disch := first | exact tm_inb_i (by omega) (by omega) | exact tm_cc rfl | exact tm_cat rfl | omega | exact nI_ne0 (by omega) (by omega) | exact nI_ne (by omega) (by omega) (by omega) | exact tm_cS (by omega) | assumption) only [e_al0, g_20_0, g_54_0, e_iconst, e_isub, e_is3i, e_is3r, e_is3u, e_gotow, e_il3, e_if_lt, g_20_2, g_54_2, e_il1, e_ic_ne, g_20_3, g_54_3, e_il2, g_20_1, g_54_1, e_ic_eq, e_iret, e_ii3i, e_ii3r, e_ii3u, e_goto, al_21, al_22, al_23, al_55, al_56, al_57, k_m1, kn_1, kn_5, kn_7, b_X1_latestStep_54, b_X1_latestStep_60, Option.bind_some, Option.toList_some, Option.toList_none, List.cons_append, List.nil_append, z_0, nI_add, pk_mul, pk_sub, pk_div, n_mod, nI_clamp, nI_leI, nI_ltI, nI_eq, le_T, le_F, lt_T, lt_F, eq_T, eq_F, n_i0, n_i1, eq_self, not_true_eq_false, not_false_eq_true, Bool.false_eq_true, ↓reduceIte, if_true, if_false, tm_up_n, tm_up_s, tm_up_i, ite_self, true_and, and_true, false_and, and_false, n_ofN, Nat.reduceAdd, Nat.reduceMul, Nat.reduceSub, Nat.zero_add, f0, f1, f2, lst_f e, i2, i1]
theorem m_ls (h : eG M D G) (hK : eK D n W R G) {r m : Nat} (hr : r < 12) (hm : m < 25) : tm_call d 5 [.ref 20, .int (nI r), .int (nI m)] (tm_GG l x) M = some (some (.int (im (lst (gst D r m) G))), tm_GG l x, M) := by
  have e := m_ls1 (d := d) (l := l) (x := x) h hK hr hm G (Nat.le_refl _)
  have h20 := h.1
  have hG40 := hK.2.2.2.2.1
  cases G with
  | zero =>
    have e0 : nI 0 - nI 1 = im 0 := by decide +kernel
    simp (disch := first | exact tm_inb_i (by omega) (by omega) | exact tm_cc rfl | exact tm_cat rfl | omega | exact nI_ne0 (by omega) (by omega) | exact nI_ne (by omega) (by omega) (by omega) | exact tm_cS (by omega) | assumption) only [n_X1_latestStep, e_al0, g_20_0, g_54_0, e_iconst, e_isub, e_is3i, e_is3r, e_is3u, e_gotow, e_il3, e_if_lt, g_20_2, g_54_2, e_il1, e_ic_ne, g_20_3, g_54_3, e_il2, g_20_1, g_54_1, e_ic_eq, e_iret, e_ii3i, e_ii3r, e_ii3u, e_goto, al_21, al_22, al_23, al_55, al_56, al_57, k_m1, kn_1, kn_5, kn_7, b_X1_latestStep_54, b_X1_latestStep_60, Option.bind_some, Option.toList_some, Option.toList_none, List.cons_append, List.nil_append, z_0, nI_add, pk_mul, pk_sub, pk_div, n_mod, nI_clamp, nI_leI, nI_ltI, nI_eq, le_T, le_F, lt_T, lt_F, eq_T, eq_F, n_i0, n_i1, eq_self, not_true_eq_false, not_false_eq_true, Bool.false_eq_true, ↓reduceIte, if_true, if_false, tm_up_n, tm_up_s, tm_up_i, ite_self, true_and, and_true, false_and, and_false, n_ofN, Nat.reduceAdd, Nat.reduceMul, Nat.reduceSub, Nat.zero_add, h20, e0, e]
  | succ G =>
    rw [im_s] at e
    simp (disch := first | exact tm_inb_i (by omega) (by omega) | exact tm_cc rfl | exact tm_cat rfl | omega | exact nI_ne0 (by omega) (by omega) | exact nI_ne (by omega) (by omega) (by omega) | exact tm_cS (by omega) | assumption) only [n_X1_latestStep, e_al0, g_20_0, g_54_0, e_iconst, e_isub, e_is3i, e_is3r, e_is3u, e_gotow, e_il3, e_if_lt, g_20_2, g_54_2, e_il1, e_ic_ne, g_20_3, g_54_3, e_il2, g_20_1, g_54_1, e_ic_eq, e_iret, e_ii3i, e_ii3r, e_ii3u, e_goto, al_21, al_22, al_23, al_55, al_56, al_57, k_m1, kn_1, kn_5, kn_7, b_X1_latestStep_54, b_X1_latestStep_60, Option.bind_some, Option.toList_some, Option.toList_none, List.cons_append, List.nil_append, z_0, nI_add, pk_mul, pk_sub, pk_div, n_mod, nI_clamp, nI_leI, nI_ltI, nI_eq, le_T, le_F, lt_T, lt_F, eq_T, eq_F, n_i0, n_i1, eq_self, not_true_eq_false, not_false_eq_true, Bool.false_eq_true, ↓reduceIte, if_true, if_false, tm_up_n, tm_up_s, tm_up_i, ite_self, true_and, and_true, false_and, and_false, n_ofN, Nat.reduceAdd, Nat.reduceMul, Nat.reduceSub, Nat.zero_add, h20, Nat.add_sub_cancel, e]
theorem q_ga1 (h96 : M 96 = D) (hK : eK D n W R G) {r m : Nat} (hr : r < 12) (hm : m < 25) : ∀ c g (v5 : Value), g + c = G → tm_ev (d + 1) (tm_blk (Int.toNat 1980005)) [.ref 95, .int (nI r), .int (nI m), .int (im (lst (gst D r m) g)), .int (nI g), v5] [] (tm_GG l x) M = some (some (.int (im (lst (gst D r m) G))), tm_GG l x, M) := by
  obtain ⟨kG, hn, hW, hR, hG40, _, k5⟩ := hK
  have m5 : M 96 5 = nI G := by rw [h96]; exact k5
  intro c
  induction c with
  | zero =>
    intro g v5 hg
    obtain rfl : g = G := by omega
    rw [b_X12_goingAt_5]
    simp (disch := first | exact tm_inb_i (by omega) (by omega) | exact tm_cc rfl | exact tm_cat rfl | omega | exact nI_ne0 (by omega) (by omega) | exact nI_ne (by omega) (by omega) (by omega) | exact tm_cS (by omega) | assumption) only [e_iconst, e_is3i, e_is3r, e_is3u, e_is4i, e_is4r, e_is4u, e_gotow, e_il4, e_al0, g_95_0, e_ic_ge, r_X12_go, e_il1, e_ic_ne, e_il2, e_ic_eq, e_goto, e_is5i, e_is5r, e_is5u, e_il5, e_if_eq, e_il3, e_ii4i, e_ii4r, e_ii4u, e_iret, al_96, k_m1, kn_0, kn_1, kn_2, kn_5, kn_7, b_X12_goingAt_65, b_X12_goingAt_66, b_X12_goingAt_78, b_X12_goingAt_79, b_X12_goingAt_86, Option.bind_some, Option.toList_some, Option.toList_none, List.cons_append, List.nil_append, z_0, nI_add, pk_mul, pk_sub, pk_div, n_mod, nI_clamp, nI_leI, nI_ltI, nI_eq, le_T, le_F, lt_T, lt_F, eq_T, eq_F, n_i0, n_i1, eq_self, not_true_eq_false, not_false_eq_true, Bool.false_eq_true, ↓reduceIte, if_true, if_false, tm_up_n, tm_up_s, tm_up_i, ite_self, true_and, and_true, false_and, and_false, n_ofN, Nat.reduceAdd, Nat.reduceMul, Nat.reduceSub, Nat.zero_add, m5]
  | succ c ih =>
    intro g v5 hg
    obtain ⟨v0, v0', v1, v1', v2, v2', _⟩ := gv kG hn hW hR (show g < G by omega)
    have f0 : M 96 (168 + 5 * g) = nI (gk D g) := by rw [h96]; exact v0
    have f1 : M 96 (168 + 5 * g + 1) = nI (gw D g) := by rw [h96, ← v1]; congr 1; omega
    have f2 : M 96 (168 + 5 * g + 2) = nI (ga D g) := by rw [h96, ← v2]; congr 1; omega
    rw [b_X12_goingAt_5]
    by_cases q : gst D r m g = true
    · have i1 := ih (g + 1) (.int (nI 1)) (by omega)
      rw [lst_t q, im_s] at i1
      obtain ⟨q1, q2, q3, q4⟩ := of_decide_eq_true q
      simp (disch := first | exact tm_inb_i (by omega) (by omega) | exact tm_cc rfl | exact tm_cat rfl | omega | exact nI_ne0 (by omega) (by omega) | exact nI_ne (by omega) (by omega) (by omega) | exact tm_cS (by omega) | assumption) only [e_iconst, e_is3i, e_is3r, e_is3u, e_is4i, e_is4r, e_is4u, e_gotow, e_il4, e_al0, g_95_0, e_ic_ge, r_X12_go, e_il1, e_ic_ne, e_il2, e_ic_eq, e_goto, e_is5i, e_is5r, e_is5u, e_il5, e_if_eq, e_il3, e_ii4i, e_ii4r, e_ii4u, e_iret, al_96, k_m1, kn_0, kn_1, kn_2, kn_5, kn_7, b_X12_goingAt_65, b_X12_goingAt_66, b_X12_goingAt_78, b_X12_goingAt_79, b_X12_goingAt_86, Option.bind_some, Option.toList_some, Option.toList_none, List.cons_append, List.nil_append, z_0, nI_add, pk_mul, pk_sub, pk_div, n_mod, nI_clamp, nI_leI, nI_ltI, nI_eq, le_T, le_F, lt_T, lt_F, eq_T, eq_F, n_i0, n_i1, eq_self, not_true_eq_false, not_false_eq_true, Bool.false_eq_true, ↓reduceIte, if_true, if_false, tm_up_n, tm_up_s, tm_up_i, ite_self, true_and, and_true, false_and, and_false, n_ofN, Nat.reduceAdd, Nat.reduceMul, Nat.reduceSub, Nat.zero_add, m5, q_go, Nat.add_zero, f0, f1, f2, i1]
    · have i1 := ih (g + 1) (.int (nI 0)) (by omega)
      rw [lst_f q] at i1
      by_cases q1 : gw D g = r
      · by_cases q2 : ga D g = m
        · by_cases q3 : gk D g = 5
          · simp (disch := first | exact tm_inb_i (by omega) (by omega) | exact tm_cc rfl | exact tm_cat rfl | omega | exact nI_ne0 (by omega) (by omega) | exact nI_ne (by omega) (by omega) (by omega) | exact tm_cS (by omega) | assumption) only [e_iconst, e_is3i, e_is3r, e_is3u, e_is4i, e_is4r, e_is4u, e_gotow, e_il4, e_al0, g_95_0, e_ic_ge, r_X12_go, e_il1, e_ic_ne, e_il2, e_ic_eq, e_goto, e_is5i, e_is5r, e_is5u, e_il5, e_if_eq, e_il3, e_ii4i, e_ii4r, e_ii4u, e_iret, al_96, k_m1, kn_0, kn_1, kn_2, kn_5, kn_7, b_X12_goingAt_65, b_X12_goingAt_66, b_X12_goingAt_78, b_X12_goingAt_79, b_X12_goingAt_86, Option.bind_some, Option.toList_some, Option.toList_none, List.cons_append, List.nil_append, z_0, nI_add, pk_mul, pk_sub, pk_div, n_mod, nI_clamp, nI_leI, nI_ltI, nI_eq, le_T, le_F, lt_T, lt_F, eq_T, eq_F, n_i0, n_i1, eq_self, not_true_eq_false, not_false_eq_true, Bool.false_eq_true, ↓reduceIte, if_true, if_false, tm_up_n, tm_up_s, tm_up_i, ite_self, true_and, and_true, false_and, and_false, n_ofN, Nat.reduceAdd, Nat.reduceMul, Nat.reduceSub, Nat.zero_add, m5, q_go, Nat.add_zero, f0, f1, f2, i1]
          · by_cases q4 : gk D g = 7
            · simp (disch := first | exact tm_inb_i (by omega) (by omega) | exact tm_cc rfl | exact tm_cat rfl | omega | exact nI_ne0 (by omega) (by omega) | exact nI_ne (by omega) (by omega) (by omega) | exact tm_cS (by omega) | assumption) only [e_iconst, e_is3i, e_is3r, e_is3u, e_is4i, e_is4r, e_is4u, e_gotow, e_il4, e_al0, g_95_0, e_ic_ge, r_X12_go, e_il1, e_ic_ne, e_il2, e_ic_eq, e_goto, e_is5i, e_is5r, e_is5u, e_il5, e_if_eq, e_il3, e_ii4i, e_ii4r, e_ii4u, e_iret, al_96, k_m1, kn_0, kn_1, kn_2, kn_5, kn_7, b_X12_goingAt_65, b_X12_goingAt_66, b_X12_goingAt_78, b_X12_goingAt_79, b_X12_goingAt_86, Option.bind_some, Option.toList_some, Option.toList_none, List.cons_append, List.nil_append, z_0, nI_add, pk_mul, pk_sub, pk_div, n_mod, nI_clamp, nI_leI, nI_ltI, nI_eq, le_T, le_F, lt_T, lt_F, eq_T, eq_F, n_i0, n_i1, eq_self, not_true_eq_false, not_false_eq_true, Bool.false_eq_true, ↓reduceIte, if_true, if_false, tm_up_n, tm_up_s, tm_up_i, ite_self, true_and, and_true, false_and, and_false, n_ofN, Nat.reduceAdd, Nat.reduceMul, Nat.reduceSub, Nat.zero_add, m5, q_go, Nat.add_zero, f0, f1, f2, i1]
            · exact absurd (decide_eq_true ⟨q1, q2, q3, q4⟩) q
        · simp (disch := first | exact tm_inb_i (by omega) (by omega) | exact tm_cc rfl | exact tm_cat rfl | omega | exact nI_ne0 (by omega) (by omega) | exact nI_ne (by omega) (by omega) (by omega) | exact tm_cS (by omega) | assumption) only [e_iconst, e_is3i, e_is3r, e_is3u, e_is4i, e_is4r, e_is4u, e_gotow, e_il4, e_al0, g_95_0, e_ic_ge, r_X12_go, e_il1, e_ic_ne, e_il2, e_ic_eq, e_goto, e_is5i, e_is5r, e_is5u, e_il5, e_if_eq, e_il3, e_ii4i, e_ii4r, e_ii4u, e_iret, al_96, k_m1, kn_0, kn_1, kn_2, kn_5, kn_7, b_X12_goingAt_65, b_X12_goingAt_66, b_X12_goingAt_78, b_X12_goingAt_79, b_X12_goingAt_86, Option.bind_some, Option.toList_some, Option.toList_none, List.cons_append, List.nil_append, z_0, nI_add, pk_mul, pk_sub, pk_div, n_mod, nI_clamp, nI_leI, nI_ltI, nI_eq, le_T, le_F, lt_T, lt_F, eq_T, eq_F, n_i0, n_i1, eq_self, not_true_eq_false, not_false_eq_true, Bool.false_eq_true, ↓reduceIte, if_true, if_false, tm_up_n, tm_up_s, tm_up_i, ite_self, true_and, and_true, false_and, and_false, n_ofN, Nat.reduceAdd, Nat.reduceMul, Nat.reduceSub, Nat.zero_add, m5, q_go, Nat.add_zero, f0, f1, f2, i1]
      · simp (disch := first | exact tm_inb_i (by omega) (by omega) | exact tm_cc rfl | exact tm_cat rfl | omega | exact nI_ne0 (by omega) (by omega) | exact nI_ne (by omega) (by omega) (by omega) | exact tm_cS (by omega) | assumption) only [e_iconst, e_is3i, e_is3r, e_is3u, e_is4i, e_is4r, e_is4u, e_gotow, e_il4, e_al0, g_95_0, e_ic_ge, r_X12_go, e_il1, e_ic_ne, e_il2, e_ic_eq, e_goto, e_is5i, e_is5r, e_is5u, e_il5, e_if_eq, e_il3, e_ii4i, e_ii4r, e_ii4u, e_iret, al_96, k_m1, kn_0, kn_1, kn_2, kn_5, kn_7, b_X12_goingAt_65, b_X12_goingAt_66, b_X12_goingAt_78, b_X12_goingAt_79, b_X12_goingAt_86, Option.bind_some, Option.toList_some, Option.toList_none, List.cons_append, List.nil_append, z_0, nI_add, pk_mul, pk_sub, pk_div, n_mod, nI_clamp, nI_leI, nI_ltI, nI_eq, le_T, le_F, lt_T, lt_F, eq_T, eq_F, n_i0, n_i1, eq_self, not_true_eq_false, not_false_eq_true, Bool.false_eq_true, ↓reduceIte, if_true, if_false, tm_up_n, tm_up_s, tm_up_i, ite_self, true_and, and_true, false_and, and_false, n_ofN, Nat.reduceAdd, Nat.reduceMul, Nat.reduceSub, Nat.zero_add, m5, q_go, Nat.add_zero, f0, f1, f2, i1]
theorem q_ga (h96 : M 96 = D) (hK : eK D n W R G) {r m : Nat} (hr : r < 12) (hm : m < 25) : tm_call (d + 1) 198 [.ref 95, .int (nI r), .int (nI m)] (tm_GG l x) M = some (some (.int (im (lst (gst D r m) G))), tm_GG l x, M) := by
  have e := q_ga1 (d := d) (l := l) (x := x) h96 hK hr hm G 0 tm_un (by omega)
  rw [show lst (gst D r m) 0 = 0 from rfl, show im 0 = -1 from rfl] at e
  simp (disch := first | exact tm_inb_i (by omega) (by omega) | exact tm_cc rfl | exact tm_cat rfl | omega | exact nI_ne0 (by omega) (by omega) | exact nI_ne (by omega) (by omega) (by omega) | exact tm_cS (by omega) | assumption) only [n_X12_goingAt, e_iconst, e_is3i, e_is3r, e_is3u, e_is4i, e_is4r, e_is4u, e_gotow, e_il4, e_al0, g_95_0, e_ic_ge, r_X12_go, e_il1, e_ic_ne, e_il2, e_ic_eq, e_goto, e_is5i, e_is5r, e_is5u, e_il5, e_if_eq, e_il3, e_ii4i, e_ii4r, e_ii4u, e_iret, al_96, k_m1, kn_0, kn_1, kn_2, kn_5, kn_7, b_X12_goingAt_65, b_X12_goingAt_66, b_X12_goingAt_78, b_X12_goingAt_79, b_X12_goingAt_86, Option.bind_some, Option.toList_some, Option.toList_none, List.cons_append, List.nil_append, z_0, nI_add, pk_mul, pk_sub, pk_div, n_mod, nI_clamp, nI_leI, nI_ltI, nI_eq, le_T, le_F, lt_T, lt_F, eq_T, eq_F, n_i0, n_i1, eq_self, not_true_eq_false, not_false_eq_true, Bool.false_eq_true, ↓reduceIte, if_true, if_false, tm_up_n, tm_up_s, tm_up_i, ite_self, true_and, and_true, false_and, and_false, n_ofN, Nat.reduceAdd, Nat.reduceMul, Nat.reduceSub, Nat.zero_add, e]
theorem m_mi1 (h : eG M D G) (hK : eK D n W R G) {r m : Nat} (hr : r < 12) (hm : m < 25) : ∀ c g, g + c = G → tm_ev d (tm_blk (Int.toNat 60002)) [.ref 20, .int (nI r), .int (nI m), .int (nI g)] [] (tm_GG l x) M = some (some (.int (if exf (mis D r m) c g = true then nI 1 else nI 0)), tm_GG l x, M) := by
  obtain ⟨kG, hn, hW, hR, hG40, _, _⟩ := hK
  obtain ⟨h20, he⟩ := h
  intro c
  induction c with
  | zero =>
    intro g hg
    rw [b_X1_isMissed_2]
    simp (disch := first | exact tm_inb_i (by omega) (by omega) | exact tm_cc rfl | exact tm_cat rfl | omega | exact nI_ne0 (by omega) (by omega) | exact nI_ne (by omega) (by omega) (by omega) | exact tm_cS (by omega) | assumption) only [e_iconst, e_is3i, e_is3r, e_is3u, e_gotow, e_il3, e_al0, g_20_0, g_54_0, e_ic_ge, g_20_1, g_54_1, e_ic_ne, g_20_2, g_54_2, e_il1, g_20_3, g_54_3, e_il2, en_zret0, en_zret1, en_zretb, e_ii3i, e_ii3r, e_ii3u, e_goto, al_21, al_22, al_23, al_55, al_56, al_57, kn_0, kn_1, kn_7, b_X1_isMissed_43, b_X1_isMissed_49, Option.bind_some, Option.toList_some, Option.toList_none, List.cons_append, List.nil_append, z_0, nI_add, pk_mul, pk_sub, pk_div, n_mod, nI_clamp, nI_leI, nI_ltI, nI_eq, le_T, le_F, lt_T, lt_F, eq_T, eq_F, n_i0, n_i1, eq_self, not_true_eq_false, not_false_eq_true, Bool.false_eq_true, ↓reduceIte, if_true, if_false, tm_up_n, tm_up_s, tm_up_i, ite_self, true_and, and_true, false_and, and_false, n_ofN, Nat.reduceAdd, Nat.reduceMul, Nat.reduceSub, Nat.zero_add, h20, exf]
  | succ c ih =>
    intro g hg
    obtain ⟨f0, f1, f2, f3, f4⟩ := he g (by omega)
    obtain ⟨v0, v0', v1, v1', v2, v2', _⟩ := gv kG hn hW hR (show g < G by omega)
    rw [v0] at f0
    rw [v1] at f1
    rw [v2] at f2
    have i1 := ih (g + 1) (by omega)
    rw [b_X1_isMissed_2]
    by_cases q : mis D r m g = true
    · have e : exf (mis D r m) (c + 1) g = true := by unfold exf; rw [q]; rfl
      obtain ⟨q1, q2, q3⟩ := of_decide_eq_true q
      simp (disch := first | exact tm_inb_i (by omega) (by omega) | exact tm_cc rfl | exact tm_cat rfl | omega | exact nI_ne0 (by omega) (by omega) | exact nI_ne (by omega) (by omega) (by omega) | exact tm_cS (by omega) | assumption) only [e_iconst, e_is3i, e_is3r, e_is3u, e_gotow, e_il3, e_al0, g_20_0, g_54_0, e_ic_ge, g_20_1, g_54_1, e_ic_ne, g_20_2, g_54_2, e_il1, g_20_3, g_54_3, e_il2, en_zret0, en_zret1, en_zretb, e_ii3i, e_ii3r, e_ii3u, e_goto, al_21, al_22, al_23, al_55, al_56, al_57, kn_0, kn_1, kn_7, b_X1_isMissed_43, b_X1_isMissed_49, Option.bind_some, Option.toList_some, Option.toList_none, List.cons_append, List.nil_append, z_0, nI_add, pk_mul, pk_sub, pk_div, n_mod, nI_clamp, nI_leI, nI_ltI, nI_eq, le_T, le_F, lt_T, lt_F, eq_T, eq_F, n_i0, n_i1, eq_self, not_true_eq_false, not_false_eq_true, Bool.false_eq_true, ↓reduceIte, if_true, if_false, tm_up_n, tm_up_s, tm_up_i, ite_self, true_and, and_true, false_and, and_false, n_ofN, Nat.reduceAdd, Nat.reduceMul, Nat.reduceSub, Nat.zero_add, h20, f0, f1, f2, e]
    · have e : exf (mis D r m) (c + 1) g = exf (mis D r m) c (g + 1) := by
        show (mis D r m g || exf (mis D r m) c (g + 1)) = _
        rw [Bool.eq_false_iff.mpr q]; rfl
      rw [e]
      by_cases q1 : gk D g = 7
      · by_cases q2 : gw D g = r
        · by_cases q3 : ga D g = m
          · exact absurd (decide_eq_true ⟨q1, q2, q3⟩) q
          · simp (disch := first | exact tm_inb_i (by omega) (by omega) | exact tm_cc rfl | exact tm_cat rfl | omega | exact nI_ne0 (by omega) (by omega) | exact nI_ne (by omega) (by omega) (by omega) | exact tm_cS (by omega) | assumption) only [e_iconst, e_is3i, e_is3r, e_is3u, e_gotow, e_il3, e_al0, g_20_0, g_54_0, e_ic_ge, g_20_1, g_54_1, e_ic_ne, g_20_2, g_54_2, e_il1, g_20_3, g_54_3, e_il2, en_zret0, en_zret1, en_zretb, e_ii3i, e_ii3r, e_ii3u, e_goto, al_21, al_22, al_23, al_55, al_56, al_57, kn_0, kn_1, kn_7, b_X1_isMissed_43, b_X1_isMissed_49, Option.bind_some, Option.toList_some, Option.toList_none, List.cons_append, List.nil_append, z_0, nI_add, pk_mul, pk_sub, pk_div, n_mod, nI_clamp, nI_leI, nI_ltI, nI_eq, le_T, le_F, lt_T, lt_F, eq_T, eq_F, n_i0, n_i1, eq_self, not_true_eq_false, not_false_eq_true, Bool.false_eq_true, ↓reduceIte, if_true, if_false, tm_up_n, tm_up_s, tm_up_i, ite_self, true_and, and_true, false_and, and_false, n_ofN, Nat.reduceAdd, Nat.reduceMul, Nat.reduceSub, Nat.zero_add, h20, f0, f1, f2, i1]
        · simp (disch := first | exact tm_inb_i (by omega) (by omega) | exact tm_cc rfl | exact tm_cat rfl | omega | exact nI_ne0 (by omega) (by omega) | exact nI_ne (by omega) (by omega) (by omega) | exact tm_cS (by omega) | assumption) only [e_iconst, e_is3i, e_is3r, e_is3u, e_gotow, e_il3, e_al0, g_20_0, g_54_0, e_ic_ge, g_20_1, g_54_1, e_ic_ne, g_20_2, g_54_2, e_il1, g_20_3, g_54_3, e_il2, en_zret0, en_zret1, en_zretb, e_ii3i, e_ii3r, e_ii3u, e_goto, al_21, al_22, al_23, al_55, al_56, al_57, kn_0, kn_1, kn_7, b_X1_isMissed_43, b_X1_isMissed_49, Option.bind_some, Option.toList_some, Option.toList_none, List.cons_append, List.nil_append, z_0, nI_add, pk_mul, pk_sub, pk_div, n_mod, nI_clamp, nI_leI, nI_ltI, nI_eq, le_T, le_F, lt_T, lt_F, eq_T, eq_F, n_i0, n_i1, eq_self, not_true_eq_false, not_false_eq_true, Bool.false_eq_true, ↓reduceIte, if_true, if_false, tm_up_n, tm_up_s, tm_up_i, ite_self, true_and, and_true, false_and, and_false, n_ofN, Nat.reduceAdd, Nat.reduceMul, Nat.reduceSub, Nat.zero_add, h20, f0, f1, f2, i1]
      · simp (disch := first | exact tm_inb_i (by omega) (by omega) | exact tm_cc rfl | exact tm_cat rfl | omega | exact nI_ne0 (by omega) (by omega) | exact nI_ne (by omega) (by omega) (by omega) | exact tm_cS (by omega) | assumption) only [e_iconst, e_is3i, e_is3r, e_is3u, e_gotow, e_il3, e_al0, g_20_0, g_54_0, e_ic_ge, g_20_1, g_54_1, e_ic_ne, g_20_2, g_54_2, e_il1, g_20_3, g_54_3, e_il2, en_zret0, en_zret1, en_zretb, e_ii3i, e_ii3r, e_ii3u, e_goto, al_21, al_22, al_23, al_55, al_56, al_57, kn_0, kn_1, kn_7, b_X1_isMissed_43, b_X1_isMissed_49, Option.bind_some, Option.toList_some, Option.toList_none, List.cons_append, List.nil_append, z_0, nI_add, pk_mul, pk_sub, pk_div, n_mod, nI_clamp, nI_leI, nI_ltI, nI_eq, le_T, le_F, lt_T, lt_F, eq_T, eq_F, n_i0, n_i1, eq_self, not_true_eq_false, not_false_eq_true, Bool.false_eq_true, ↓reduceIte, if_true, if_false, tm_up_n, tm_up_s, tm_up_i, ite_self, true_and, and_true, false_and, and_false, n_ofN, Nat.reduceAdd, Nat.reduceMul, Nat.reduceSub, Nat.zero_add, h20, f0, f1, f2, i1]
theorem m_mi (h : eG M D G) (hK : eK D n W R G) {r m : Nat} (hr : r < 12) (hm : m < 25) : tm_call d 6 [.ref 20, .int (nI r), .int (nI m)] (tm_GG l x) M = some (some (.int (if exf (mis D r m) G 0 = true then nI 1 else nI 0)), tm_GG l x, M) := by
  have e := m_mi1 (d := d) (l := l) (x := x) h hK hr hm G 0 (by omega)
  simp (disch := first | exact tm_inb_i (by omega) (by omega) | exact tm_cc rfl | exact tm_cat rfl | omega | exact nI_ne0 (by omega) (by omega) | exact nI_ne (by omega) (by omega) (by omega) | exact tm_cS (by omega) | assumption) only [n_X1_isMissed, e_iconst, e_is3i, e_is3r, e_is3u, e_gotow, e_il3, e_al0, g_20_0, g_54_0, e_ic_ge, g_20_1, g_54_1, e_ic_ne, g_20_2, g_54_2, e_il1, g_20_3, g_54_3, e_il2, en_zret0, en_zret1, en_zretb, e_ii3i, e_ii3r, e_ii3u, e_goto, al_21, al_22, al_23, al_55, al_56, al_57, kn_0, kn_1, kn_7, b_X1_isMissed_43, b_X1_isMissed_49, Option.bind_some, Option.toList_some, Option.toList_none, List.cons_append, List.nil_append, z_0, nI_add, pk_mul, pk_sub, pk_div, n_mod, nI_clamp, nI_leI, nI_ltI, nI_eq, le_T, le_F, lt_T, lt_F, eq_T, eq_F, n_i0, n_i1, eq_self, not_true_eq_false, not_false_eq_true, Bool.false_eq_true, ↓reduceIte, if_true, if_false, tm_up_n, tm_up_s, tm_up_i, ite_self, true_and, and_true, false_and, and_false, n_ofN, Nat.reduceAdd, Nat.reduceMul, Nat.reduceSub, Nat.zero_add, e]
theorem q_mi1 (h96 : M 96 = D) (hK : eK D n W R G) {r m : Nat} (hr : r < 12) (hm : m < 25) : ∀ c g (b : Bool), g + c = G → tm_ev (d + 1) (tm_blk (Int.toNat 2010005)) [.ref 95, .int (nI r), .int (nI m), .int (if b = true then nI 1 else nI 0), .int (nI g)] [] (tm_GG l x) M = some (some (.int (if (b || exf (mis D r m) c g) = true then nI 1 else nI 0)), tm_GG l x, M) := by
  obtain ⟨kG, hn, hW, hR, hG40, _, k5⟩ := hK
  have m5 : M 96 5 = nI G := by rw [h96]; exact k5
  intro c
  induction c with
  | zero =>
    intro g b hg
    rw [b_X12_isMissed_5]
    rcases boo b with rfl | rfl
    · simp (disch := first | exact tm_inb_i (by omega) (by omega) | exact tm_cc rfl | exact tm_cat rfl | omega | exact nI_ne0 (by omega) (by omega) | exact nI_ne (by omega) (by omega) (by omega) | exact tm_cS (by omega) | assumption) only [e_iconst, e_is3i, e_is3r, e_is3u, e_is4i, e_is4r, e_is4u, e_gotow, e_il4, e_al0, g_95_0, e_ic_ge, e_il3, e_if_ne, r_X12_go, e_ic_ne, e_il1, e_il2, e_goto, e_ii4i, e_ii4r, e_ii4u, en_zret0, en_zret1, en_zretb, al_96, kn_0, kn_1, kn_2, kn_5, kn_7, b_X12_isMissed_54, b_X12_isMissed_58, b_X12_isMissed_59, b_X12_isMissed_66, Option.bind_some, Option.toList_some, Option.toList_none, List.cons_append, List.nil_append, z_0, nI_add, pk_mul, pk_sub, pk_div, n_mod, nI_clamp, nI_leI, nI_ltI, nI_eq, le_T, le_F, lt_T, lt_F, eq_T, eq_F, n_i0, n_i1, eq_self, not_true_eq_false, not_false_eq_true, Bool.false_eq_true, ↓reduceIte, if_true, if_false, tm_up_n, tm_up_s, tm_up_i, ite_self, true_and, and_true, false_and, and_false, n_ofN, Nat.reduceAdd, Nat.reduceMul, Nat.reduceSub, Nat.zero_add, m5, exf, Bool.true_or]
    · simp (disch := first | exact tm_inb_i (by omega) (by omega) | exact tm_cc rfl | exact tm_cat rfl | omega | exact nI_ne0 (by omega) (by omega) | exact nI_ne (by omega) (by omega) (by omega) | exact tm_cS (by omega) | assumption) only [e_iconst, e_is3i, e_is3r, e_is3u, e_is4i, e_is4r, e_is4u, e_gotow, e_il4, e_al0, g_95_0, e_ic_ge, e_il3, e_if_ne, r_X12_go, e_ic_ne, e_il1, e_il2, e_goto, e_ii4i, e_ii4r, e_ii4u, en_zret0, en_zret1, en_zretb, al_96, kn_0, kn_1, kn_2, kn_5, kn_7, b_X12_isMissed_54, b_X12_isMissed_58, b_X12_isMissed_59, b_X12_isMissed_66, Option.bind_some, Option.toList_some, Option.toList_none, List.cons_append, List.nil_append, z_0, nI_add, pk_mul, pk_sub, pk_div, n_mod, nI_clamp, nI_leI, nI_ltI, nI_eq, le_T, le_F, lt_T, lt_F, eq_T, eq_F, n_i0, n_i1, eq_self, not_true_eq_false, not_false_eq_true, Bool.false_eq_true, ↓reduceIte, if_true, if_false, tm_up_n, tm_up_s, tm_up_i, ite_self, true_and, and_true, false_and, and_false, n_ofN, Nat.reduceAdd, Nat.reduceMul, Nat.reduceSub, Nat.zero_add, m5, exf, Bool.false_or]
  | succ c ih =>
    intro g b hg
    obtain ⟨v0, v0', v1, v1', v2, v2', _⟩ := gv kG hn hW hR (show g < G by omega)
    have f0 : M 96 (168 + 5 * g) = nI (gk D g) := by rw [h96]; exact v0
    have f1 : M 96 (168 + 5 * g + 1) = nI (gw D g) := by rw [h96, ← v1]; congr 1; omega
    have f2 : M 96 (168 + 5 * g + 2) = nI (ga D g) := by rw [h96, ← v2]; congr 1; omega
    have i1 := ih (g + 1) true (by omega)
    have i2 := ih (g + 1) false (by omega)
    simp only [Bool.true_or, Bool.false_or, if_true, Bool.false_eq_true, if_false] at i1 i2
    have ex : exf (mis D r m) (c + 1) g = (mis D r m g || exf (mis D r m) c (g + 1)) := rfl
    rw [b_X12_isMissed_5, ex]
    rcases boo b with rfl | rfl
    · simp (disch := first | exact tm_inb_i (by omega) (by omega) | exact tm_cc rfl | exact tm_cat rfl | omega | exact nI_ne0 (by omega) (by omega) | exact nI_ne (by omega) (by omega) (by omega) | exact tm_cS (by omega) | assumption) only [e_iconst, e_is3i, e_is3r, e_is3u, e_is4i, e_is4r, e_is4u, e_gotow, e_il4, e_al0, g_95_0, e_ic_ge, e_il3, e_if_ne, r_X12_go, e_ic_ne, e_il1, e_il2, e_goto, e_ii4i, e_ii4r, e_ii4u, en_zret0, en_zret1, en_zretb, al_96, kn_0, kn_1, kn_2, kn_5, kn_7, b_X12_isMissed_54, b_X12_isMissed_58, b_X12_isMissed_59, b_X12_isMissed_66, Option.bind_some, Option.toList_some, Option.toList_none, List.cons_append, List.nil_append, z_0, nI_add, pk_mul, pk_sub, pk_div, n_mod, nI_clamp, nI_leI, nI_ltI, nI_eq, le_T, le_F, lt_T, lt_F, eq_T, eq_F, n_i0, n_i1, eq_self, not_true_eq_false, not_false_eq_true, Bool.false_eq_true, ↓reduceIte, if_true, if_false, tm_up_n, tm_up_s, tm_up_i, ite_self, true_and, and_true, false_and, and_false, n_ofN, Nat.reduceAdd, Nat.reduceMul, Nat.reduceSub, Nat.zero_add, m5, Bool.true_or, i1]
    · by_cases q : mis D r m g = true
      · obtain ⟨q1, q2, q3⟩ := of_decide_eq_true q
        rw [q]
        simp (disch := first | exact tm_inb_i (by omega) (by omega) | exact tm_cc rfl | exact tm_cat rfl | omega | exact nI_ne0 (by omega) (by omega) | exact nI_ne (by omega) (by omega) (by omega) | exact tm_cS (by omega) | assumption) only [e_iconst, e_is3i, e_is3r, e_is3u, e_is4i, e_is4r, e_is4u, e_gotow, e_il4, e_al0, g_95_0, e_ic_ge, e_il3, e_if_ne, r_X12_go, e_ic_ne, e_il1, e_il2, e_goto, e_ii4i, e_ii4r, e_ii4u, en_zret0, en_zret1, en_zretb, al_96, kn_0, kn_1, kn_2, kn_5, kn_7, b_X12_isMissed_54, b_X12_isMissed_58, b_X12_isMissed_59, b_X12_isMissed_66, Option.bind_some, Option.toList_some, Option.toList_none, List.cons_append, List.nil_append, z_0, nI_add, pk_mul, pk_sub, pk_div, n_mod, nI_clamp, nI_leI, nI_ltI, nI_eq, le_T, le_F, lt_T, lt_F, eq_T, eq_F, n_i0, n_i1, eq_self, not_true_eq_false, not_false_eq_true, Bool.false_eq_true, ↓reduceIte, if_true, if_false, tm_up_n, tm_up_s, tm_up_i, ite_self, true_and, and_true, false_and, and_false, n_ofN, Nat.reduceAdd, Nat.reduceMul, Nat.reduceSub, Nat.zero_add, m5, q_go, Nat.add_zero, f0, f1, f2, Bool.true_or, Bool.false_or, i1]
      · rw [Bool.eq_false_iff.mpr q]
        by_cases q1 : gk D g = 7
        · by_cases q2 : gw D g = r
          · by_cases q3 : ga D g = m
            · exact absurd (decide_eq_true ⟨q1, q2, q3⟩) q
            · simp (disch := first | exact tm_inb_i (by omega) (by omega) | exact tm_cc rfl | exact tm_cat rfl | omega | exact nI_ne0 (by omega) (by omega) | exact nI_ne (by omega) (by omega) (by omega) | exact tm_cS (by omega) | assumption) only [e_iconst, e_is3i, e_is3r, e_is3u, e_is4i, e_is4r, e_is4u, e_gotow, e_il4, e_al0, g_95_0, e_ic_ge, e_il3, e_if_ne, r_X12_go, e_ic_ne, e_il1, e_il2, e_goto, e_ii4i, e_ii4r, e_ii4u, en_zret0, en_zret1, en_zretb, al_96, kn_0, kn_1, kn_2, kn_5, kn_7, b_X12_isMissed_54, b_X12_isMissed_58, b_X12_isMissed_59, b_X12_isMissed_66, Option.bind_some, Option.toList_some, Option.toList_none, List.cons_append, List.nil_append, z_0, nI_add, pk_mul, pk_sub, pk_div, n_mod, nI_clamp, nI_leI, nI_ltI, nI_eq, le_T, le_F, lt_T, lt_F, eq_T, eq_F, n_i0, n_i1, eq_self, not_true_eq_false, not_false_eq_true, Bool.false_eq_true, ↓reduceIte, if_true, if_false, tm_up_n, tm_up_s, tm_up_i, ite_self, true_and, and_true, false_and, and_false, n_ofN, Nat.reduceAdd, Nat.reduceMul, Nat.reduceSub, Nat.zero_add, m5, q_go, Nat.add_zero, f0, f1, f2, Bool.false_or, i2]
          · simp (disch := first | exact tm_inb_i (by omega) (by omega) | exact tm_cc rfl | exact tm_cat rfl | omega | exact nI_ne0 (by omega) (by omega) | exact nI_ne (by omega) (by omega) (by omega) | exact tm_cS (by omega) | assumption) only [e_iconst, e_is3i, e_is3r, e_is3u, e_is4i, e_is4r, e_is4u, e_gotow, e_il4, e_al0, g_95_0, e_ic_ge, e_il3, e_if_ne, r_X12_go, e_ic_ne, e_il1, e_il2, e_goto, e_ii4i, e_ii4r, e_ii4u, en_zret0, en_zret1, en_zretb, al_96, kn_0, kn_1, kn_2, kn_5, kn_7, b_X12_isMissed_54, b_X12_isMissed_58, b_X12_isMissed_59, b_X12_isMissed_66, Option.bind_some, Option.toList_some, Option.toList_none, List.cons_append, List.nil_append, z_0, nI_add, pk_mul, pk_sub, pk_div, n_mod, nI_clamp, nI_leI, nI_ltI, nI_eq, le_T, le_F, lt_T, lt_F, eq_T, eq_F, n_i0, n_i1, eq_self, not_true_eq_false, not_false_eq_true, Bool.false_eq_true, ↓reduceIte, if_true, if_false, tm_up_n, tm_up_s, tm_up_i, ite_self, true_and, and_true, false_and, and_false, n_ofN, Nat.reduceAdd, Nat.reduceMul, Nat.reduceSub, Nat.zero_add, m5, q_go, Nat.add_zero, f0, f1, f2, Bool.false_or, i2]
        · simp (disch := first | exact tm_inb_i (by omega) (by omega) | exact tm_cc rfl | exact tm_cat rfl | omega | exact nI_ne0 (by omega) (by omega) | exact nI_ne (by omega) (by omega) (by omega) | exact tm_cS (by omega) | assumption) only [e_iconst, e_is3i, e_is3r, e_is3u, e_is4i, e_is4r, e_is4u, e_gotow, e_il4, e_al0, g_95_0, e_ic_ge, e_il3, e_if_ne, r_X12_go, e_ic_ne, e_il1, e_il2, e_goto, e_ii4i, e_ii4r, e_ii4u, en_zret0, en_zret1, en_zretb, al_96, kn_0, kn_1, kn_2, kn_5, kn_7, b_X12_isMissed_54, b_X12_isMissed_58, b_X12_isMissed_59, b_X12_isMissed_66, Option.bind_some, Option.toList_some, Option.toList_none, List.cons_append, List.nil_append, z_0, nI_add, pk_mul, pk_sub, pk_div, n_mod, nI_clamp, nI_leI, nI_ltI, nI_eq, le_T, le_F, lt_T, lt_F, eq_T, eq_F, n_i0, n_i1, eq_self, not_true_eq_false, not_false_eq_true, Bool.false_eq_true, ↓reduceIte, if_true, if_false, tm_up_n, tm_up_s, tm_up_i, ite_self, true_and, and_true, false_and, and_false, n_ofN, Nat.reduceAdd, Nat.reduceMul, Nat.reduceSub, Nat.zero_add, m5, q_go, Nat.add_zero, f0, f1, f2, Bool.false_or, i2]
theorem q_mi (h96 : M 96 = D) (hK : eK D n W R G) {r m : Nat} (hr : r < 12) (hm : m < 25) : tm_call (d + 1) 201 [.ref 95, .int (nI r), .int (nI m)] (tm_GG l x) M = some (some (.int (if exf (mis D r m) G 0 = true then nI 1 else nI 0)), tm_GG l x, M) := by
  have e := q_mi1 (d := d) (l := l) (x := x) h96 hK hr hm G 0 false (by omega)
  simp only [Bool.false_or, Bool.false_eq_true, if_false] at e
  simp (disch := first | exact tm_inb_i (by omega) (by omega) | exact tm_cc rfl | exact tm_cat rfl | omega | exact nI_ne0 (by omega) (by omega) | exact nI_ne (by omega) (by omega) (by omega) | exact tm_cS (by omega) | assumption) only [n_X12_isMissed, e_iconst, e_is3i, e_is3r, e_is3u, e_is4i, e_is4r, e_is4u, e_gotow, e_il4, e_al0, g_95_0, e_ic_ge, e_il3, e_if_ne, r_X12_go, e_ic_ne, e_il1, e_il2, e_goto, e_ii4i, e_ii4r, e_ii4u, en_zret0, en_zret1, en_zretb, al_96, kn_0, kn_1, kn_2, kn_5, kn_7, b_X12_isMissed_54, b_X12_isMissed_58, b_X12_isMissed_59, b_X12_isMissed_66, Option.bind_some, Option.toList_some, Option.toList_none, List.cons_append, List.nil_append, z_0, nI_add, pk_mul, pk_sub, pk_div, n_mod, nI_clamp, nI_leI, nI_ltI, nI_eq, le_T, le_F, lt_T, lt_F, eq_T, eq_F, n_i0, n_i1, eq_self, not_true_eq_false, not_false_eq_true, Bool.false_eq_true, ↓reduceIte, if_true, if_false, tm_up_n, tm_up_s, tm_up_i, ite_self, true_and, and_true, false_and, and_false, n_ofN, Nat.reduceAdd, Nat.reduceMul, Nat.reduceSub, Nat.zero_add, e]
theorem cA_le (hK : eK D n W R G) {s m g : Nat} (hg : g ≤ G) : cA D (cbs D s m g) ≤ 24 := by
  obtain ⟨kG, hn, hW, hR, hG40, _, k5⟩ := hK
  cases h : cbs D s m g with
  | zero => exact Nat.zero_le _
  | succ b =>
    obtain ⟨b1, _⟩ := cbs_p _ _ h
    obtain ⟨v0, v0', v1, v1', v2, v2', _⟩ := gv kG hn hW hR (show b < G by omega)
    show ga D b ≤ 24
    omega
theorem cC_lt (hK : eK D n W R G) {s m g : Nat} (hg : g ≤ G) (hs1 : s < R) : cC D s (cbs D s m g) < R := by
  obtain ⟨kG, hn, hW, hR, hG40, _, k5⟩ := hK
  cases h : cbs D s m g with
  | zero => exact hs1
  | succ b =>
    obtain ⟨b1, b2⟩ := cbs_p _ _ h
    obtain ⟨q1, q2, q3⟩ := of_decide_eq_true b2
    obtain ⟨v0, v0', v1, v1', v2, v2', v3, v3', v4, v5, v6⟩ := gv kG hn hW hR (show b < G by omega)
    exact (v6 (by omega)).2.2.2.2 (Or.inl q1)
theorem m_ca1 (h : eG M D G) (hK : eK D n W R G) {s m : Nat} (hs1 : s < R) (hm : m < 25) : ∀ c g, g + c = G → tm_ev (d + 1) (tm_blk (Int.toNat 70008)) [.ref 20, .int (nI s), .int (nI m), .int (nI (cC D s (cbs D s m g))), .int (nI (cA D (cbs D s m g))), .int (nI g)] [] (tm_GG l x) M = some (some (.int (nI (cC D s (cbs D s m G)))), tm_GG l x, M) := by
  obtain ⟨kG, hn, hW, hR, hG40, _, _⟩ := id hK
  obtain ⟨h20, he⟩ := h
  intro c
  induction c with
  | zero =>
    intro g hg
    obtain rfl : g = G := by omega
    have := cC_lt hK (m := m) (Nat.le_refl _) hs1
    rw [b_X1_carrierOf_8]
    simp (disch := first | exact tm_inb_i (by omega) (by omega) | exact tm_cc rfl | exact tm_cat rfl | omega | exact nI_ne0 (by omega) (by omega) | exact nI_ne (by omega) (by omega) (by omega) | exact tm_cS (by omega) | assumption) only [e_il1, e_is3i, e_is3r, e_is3u, e_iconst, e_is4i, e_is4r, e_is4u, e_is5i, e_is5r, e_is5u, e_gotow, e_il5, e_al0, g_20_0, g_54_0, e_ic_ge, g_20_1, g_54_1, e_ic_ne, g_20_2, g_54_2, g_20_3, g_54_3, e_il4, e_il2, r_X11_within, e_if_eq, g_20_5, g_54_5, e_ii5i, e_ii5r, e_ii5u, e_goto, e_il3, e_iret, al_21, al_22, al_23, al_25, al_55, al_56, al_57, al_59, kn_0, kn_1, kn_5, b_X1_carrierOf_72, b_X1_carrierOf_78, Option.bind_some, Option.toList_some, Option.toList_none, List.cons_append, List.nil_append, z_0, nI_add, pk_mul, pk_sub, pk_div, n_mod, nI_clamp, nI_leI, nI_ltI, nI_eq, le_T, le_F, lt_T, lt_F, eq_T, eq_F, n_i0, n_i1, eq_self, not_true_eq_false, not_false_eq_true, Bool.false_eq_true, ↓reduceIte, if_true, if_false, tm_up_n, tm_up_s, tm_up_i, ite_self, true_and, and_true, false_and, and_false, n_ofN, Nat.reduceAdd, Nat.reduceMul, Nat.reduceSub, Nat.zero_add, h20]
  | succ c ih =>
    intro g hg
    obtain ⟨f0, f1, f2, f3, f4⟩ := he g (by omega)
    obtain ⟨v0, v0', v1, v1', v2, v2', v3, v3', v4, v5, v6⟩ := gv kG hn hW hR (show g < G by omega)
    rw [v0] at f0
    rw [v1] at f1
    rw [v2] at f2
    have i1 := ih (g + 1) (by omega)
    have ha := cA_le hK (s := s) (m := m) (show g ≤ G by omega)
    rw [b_X1_carrierOf_8]
    by_cases q : cok D s m g = true ∧ cA D (cbs D s m g) ≤ ga D g
    · rw [cbs_t q, show cC D s (g + 1) = gn D g from rfl, show cA D (g + 1) = ga D g from rfl] at i1
      obtain ⟨q0, qa⟩ := q
      obtain ⟨q1, q2, q3⟩ := of_decide_eq_true q0
      rw [(v6 (by omega)).1] at f4
      simp (disch := first | exact tm_inb_i (by omega) (by omega) | exact tm_cc rfl | exact tm_cat rfl | omega | exact nI_ne0 (by omega) (by omega) | exact nI_ne (by omega) (by omega) (by omega) | exact tm_cS (by omega) | assumption) only [e_il1, e_is3i, e_is3r, e_is3u, e_iconst, e_is4i, e_is4r, e_is4u, e_is5i, e_is5r, e_is5u, e_gotow, e_il5, e_al0, g_20_0, g_54_0, e_ic_ge, g_20_1, g_54_1, e_ic_ne, g_20_2, g_54_2, g_20_3, g_54_3, e_il4, e_il2, r_X11_within, e_if_eq, g_20_5, g_54_5, e_ii5i, e_ii5r, e_ii5u, e_goto, e_il3, e_iret, al_21, al_22, al_23, al_25, al_55, al_56, al_57, al_59, kn_0, kn_1, kn_5, b_X1_carrierOf_72, b_X1_carrierOf_78, Option.bind_some, Option.toList_some, Option.toList_none, List.cons_append, List.nil_append, z_0, nI_add, pk_mul, pk_sub, pk_div, n_mod, nI_clamp, nI_leI, nI_ltI, nI_eq, le_T, le_F, lt_T, lt_F, eq_T, eq_F, n_i0, n_i1, eq_self, not_true_eq_false, not_false_eq_true, Bool.false_eq_true, ↓reduceIte, if_true, if_false, tm_up_n, tm_up_s, tm_up_i, ite_self, true_and, and_true, false_and, and_false, n_ofN, Nat.reduceAdd, Nat.reduceMul, Nat.reduceSub, Nat.zero_add, m_within, h20, f0, f1, f2, f4, i1]
    · rw [cbs_f q] at i1
      by_cases q1 : gk D g = 5
      · by_cases q2 : gw D g = s
        · by_cases q3 : ga D g ≤ m
          · have qa : ¬ cA D (cbs D s m g) ≤ ga D g := fun z => q ⟨decide_eq_true ⟨q1, q2, q3⟩, z⟩
            simp (disch := first | exact tm_inb_i (by omega) (by omega) | exact tm_cc rfl | exact tm_cat rfl | omega | exact nI_ne0 (by omega) (by omega) | exact nI_ne (by omega) (by omega) (by omega) | exact tm_cS (by omega) | assumption) only [e_il1, e_is3i, e_is3r, e_is3u, e_iconst, e_is4i, e_is4r, e_is4u, e_is5i, e_is5r, e_is5u, e_gotow, e_il5, e_al0, g_20_0, g_54_0, e_ic_ge, g_20_1, g_54_1, e_ic_ne, g_20_2, g_54_2, g_20_3, g_54_3, e_il4, e_il2, r_X11_within, e_if_eq, g_20_5, g_54_5, e_ii5i, e_ii5r, e_ii5u, e_goto, e_il3, e_iret, al_21, al_22, al_23, al_25, al_55, al_56, al_57, al_59, kn_0, kn_1, kn_5, b_X1_carrierOf_72, b_X1_carrierOf_78, Option.bind_some, Option.toList_some, Option.toList_none, List.cons_append, List.nil_append, z_0, nI_add, pk_mul, pk_sub, pk_div, n_mod, nI_clamp, nI_leI, nI_ltI, nI_eq, le_T, le_F, lt_T, lt_F, eq_T, eq_F, n_i0, n_i1, eq_self, not_true_eq_false, not_false_eq_true, Bool.false_eq_true, ↓reduceIte, if_true, if_false, tm_up_n, tm_up_s, tm_up_i, ite_self, true_and, and_true, false_and, and_false, n_ofN, Nat.reduceAdd, Nat.reduceMul, Nat.reduceSub, Nat.zero_add, m_within, h20, f0, f1, f2, i1]
          · simp (disch := first | exact tm_inb_i (by omega) (by omega) | exact tm_cc rfl | exact tm_cat rfl | omega | exact nI_ne0 (by omega) (by omega) | exact nI_ne (by omega) (by omega) (by omega) | exact tm_cS (by omega) | assumption) only [e_il1, e_is3i, e_is3r, e_is3u, e_iconst, e_is4i, e_is4r, e_is4u, e_is5i, e_is5r, e_is5u, e_gotow, e_il5, e_al0, g_20_0, g_54_0, e_ic_ge, g_20_1, g_54_1, e_ic_ne, g_20_2, g_54_2, g_20_3, g_54_3, e_il4, e_il2, r_X11_within, e_if_eq, g_20_5, g_54_5, e_ii5i, e_ii5r, e_ii5u, e_goto, e_il3, e_iret, al_21, al_22, al_23, al_25, al_55, al_56, al_57, al_59, kn_0, kn_1, kn_5, b_X1_carrierOf_72, b_X1_carrierOf_78, Option.bind_some, Option.toList_some, Option.toList_none, List.cons_append, List.nil_append, z_0, nI_add, pk_mul, pk_sub, pk_div, n_mod, nI_clamp, nI_leI, nI_ltI, nI_eq, le_T, le_F, lt_T, lt_F, eq_T, eq_F, n_i0, n_i1, eq_self, not_true_eq_false, not_false_eq_true, Bool.false_eq_true, ↓reduceIte, if_true, if_false, tm_up_n, tm_up_s, tm_up_i, ite_self, true_and, and_true, false_and, and_false, n_ofN, Nat.reduceAdd, Nat.reduceMul, Nat.reduceSub, Nat.zero_add, m_within, h20, f0, f1, f2, i1]
        · simp (disch := first | exact tm_inb_i (by omega) (by omega) | exact tm_cc rfl | exact tm_cat rfl | omega | exact nI_ne0 (by omega) (by omega) | exact nI_ne (by omega) (by omega) (by omega) | exact tm_cS (by omega) | assumption) only [e_il1, e_is3i, e_is3r, e_is3u, e_iconst, e_is4i, e_is4r, e_is4u, e_is5i, e_is5r, e_is5u, e_gotow, e_il5, e_al0, g_20_0, g_54_0, e_ic_ge, g_20_1, g_54_1, e_ic_ne, g_20_2, g_54_2, g_20_3, g_54_3, e_il4, e_il2, r_X11_within, e_if_eq, g_20_5, g_54_5, e_ii5i, e_ii5r, e_ii5u, e_goto, e_il3, e_iret, al_21, al_22, al_23, al_25, al_55, al_56, al_57, al_59, kn_0, kn_1, kn_5, b_X1_carrierOf_72, b_X1_carrierOf_78, Option.bind_some, Option.toList_some, Option.toList_none, List.cons_append, List.nil_append, z_0, nI_add, pk_mul, pk_sub, pk_div, n_mod, nI_clamp, nI_leI, nI_ltI, nI_eq, le_T, le_F, lt_T, lt_F, eq_T, eq_F, n_i0, n_i1, eq_self, not_true_eq_false, not_false_eq_true, Bool.false_eq_true, ↓reduceIte, if_true, if_false, tm_up_n, tm_up_s, tm_up_i, ite_self, true_and, and_true, false_and, and_false, n_ofN, Nat.reduceAdd, Nat.reduceMul, Nat.reduceSub, Nat.zero_add, m_within, h20, f0, f1, f2, i1]
      · simp (disch := first | exact tm_inb_i (by omega) (by omega) | exact tm_cc rfl | exact tm_cat rfl | omega | exact nI_ne0 (by omega) (by omega) | exact nI_ne (by omega) (by omega) (by omega) | exact tm_cS (by omega) | assumption) only [e_il1, e_is3i, e_is3r, e_is3u, e_iconst, e_is4i, e_is4r, e_is4u, e_is5i, e_is5r, e_is5u, e_gotow, e_il5, e_al0, g_20_0, g_54_0, e_ic_ge, g_20_1, g_54_1, e_ic_ne, g_20_2, g_54_2, g_20_3, g_54_3, e_il4, e_il2, r_X11_within, e_if_eq, g_20_5, g_54_5, e_ii5i, e_ii5r, e_ii5u, e_goto, e_il3, e_iret, al_21, al_22, al_23, al_25, al_55, al_56, al_57, al_59, kn_0, kn_1, kn_5, b_X1_carrierOf_72, b_X1_carrierOf_78, Option.bind_some, Option.toList_some, Option.toList_none, List.cons_append, List.nil_append, z_0, nI_add, pk_mul, pk_sub, pk_div, n_mod, nI_clamp, nI_leI, nI_ltI, nI_eq, le_T, le_F, lt_T, lt_F, eq_T, eq_F, n_i0, n_i1, eq_self, not_true_eq_false, not_false_eq_true, Bool.false_eq_true, ↓reduceIte, if_true, if_false, tm_up_n, tm_up_s, tm_up_i, ite_self, true_and, and_true, false_and, and_false, n_ofN, Nat.reduceAdd, Nat.reduceMul, Nat.reduceSub, Nat.zero_add, m_within, h20, f0, f1, f2, i1]
theorem m_ca (h : eG M D G) (hK : eK D n W R G) {s m : Nat} (hs1 : s < R) (hm : m < 25) : tm_call (d + 1) 7 [.ref 20, .int (nI s), .int (nI m)] (tm_GG l x) M = some (some (.int (nI (cC D s (cbs D s m G)))), tm_GG l x, M) := by
  have e := m_ca1 (d := d) (l := l) (x := x) h hK hs1 hm G 0 (by omega)
  rw [show cbs D s m 0 = 0 from rfl, show cC D s 0 = s from rfl, show cA D 0 = 0 from rfl] at e
  simp (disch := first | exact tm_inb_i (by omega) (by omega) | exact tm_cc rfl | exact tm_cat rfl | omega | exact nI_ne0 (by omega) (by omega) | exact nI_ne (by omega) (by omega) (by omega) | exact tm_cS (by omega) | assumption) only [n_X1_carrierOf, e_il1, e_is3i, e_is3r, e_is3u, e_iconst, e_is4i, e_is4r, e_is4u, e_is5i, e_is5r, e_is5u, e_gotow, e_il5, e_al0, g_20_0, g_54_0, e_ic_ge, g_20_1, g_54_1, e_ic_ne, g_20_2, g_54_2, g_20_3, g_54_3, e_il4, e_il2, r_X11_within, e_if_eq, g_20_5, g_54_5, e_ii5i, e_ii5r, e_ii5u, e_goto, e_il3, e_iret, al_21, al_22, al_23, al_25, al_55, al_56, al_57, al_59, kn_0, kn_1, kn_5, b_X1_carrierOf_72, b_X1_carrierOf_78, Option.bind_some, Option.toList_some, Option.toList_none, List.cons_append, List.nil_append, z_0, nI_add, pk_mul, pk_sub, pk_div, n_mod, nI_clamp, nI_leI, nI_ltI, nI_eq, le_T, le_F, lt_T, lt_F, eq_T, eq_F, n_i0, n_i1, eq_self, not_true_eq_false, not_false_eq_true, Bool.false_eq_true, ↓reduceIte, if_true, if_false, tm_up_n, tm_up_s, tm_up_i, ite_self, true_and, and_true, false_and, and_false, n_ofN, Nat.reduceAdd, Nat.reduceMul, Nat.reduceSub, Nat.zero_add, e]
theorem q_ca1 (h96 : M 96 = D) (hK : eK D n W R G) {s m : Nat} (hs1 : s < R) (hm : m < 25) : ∀ c g (v5 : Value), g + c = G → tm_ev (d + 1) (tm_blk (Int.toNat 2000005)) [.ref 95, .int (nI s), .int (nI m), .int (im (cbs D s m g)), .int (nI g), v5] [] (tm_GG l x) M = some (some (.int (nI (cC D s (cbs D s m G)))), tm_GG l x, M) := by
  obtain ⟨kG, hn, hW, hR, hG40, _, k5⟩ := id hK
  have m5 : M 96 5 = nI G := by rw [h96]; exact k5
  intro c
  induction c with
  | zero =>
    intro g v5 hg
    obtain rfl : g = G := by omega
    rw [b_X12_carrier_5]
    cases h : cbs D s m g with
    | zero => simp (disch := first | exact tm_inb_i (by omega) (by omega) | exact tm_cc rfl | exact tm_cat rfl | omega | exact nI_ne0 (by omega) (by omega) | exact nI_ne (by omega) (by omega) (by omega) | exact tm_cS (by omega) | assumption) only [e_iconst, e_is3i, e_is3r, e_is3u, e_is4i, e_is4r, e_is4u, e_gotow, e_il4, e_al0, g_95_0, e_ic_ge, r_X12_go, e_ic_ne, e_il1, e_il2, e_ic_gt, e_goto, e_is5i, e_is5r, e_is5u, e_il5, e_if_eq, e_il3, e_if_lt, e_ic_lt, e_ii4i, e_ii4r, e_ii4u, e_if_ge, e_iret, al_96, k_m1, kn_0, kn_1, kn_2, kn_4, kn_5, b_X12_carrier_53, b_X12_carrier_54, b_X12_carrier_81, b_X12_carrier_86, b_X12_carrier_87, b_X12_carrier_94, b_X12_carrier_102, b_X12_carrier_108, Option.bind_some, Option.toList_some, Option.toList_none, List.cons_append, List.nil_append, z_0, nI_add, pk_mul, pk_sub, pk_div, n_mod, nI_clamp, nI_leI, nI_ltI, nI_eq, le_T, le_F, lt_T, lt_F, eq_T, eq_F, n_i0, n_i1, eq_self, not_true_eq_false, not_false_eq_true, Bool.false_eq_true, ↓reduceIte, if_true, if_false, tm_up_n, tm_up_s, tm_up_i, ite_self, true_and, and_true, false_and, and_false, n_ofN, Nat.reduceAdd, Nat.reduceMul, Nat.reduceSub, Nat.zero_add, m5, im, m1_lt, m1_le, cC]
    | succ b =>
      obtain ⟨b1, b2⟩ := cbs_p _ _ h
      obtain ⟨q1, q2, q3⟩ := of_decide_eq_true b2
      obtain ⟨v0, v0', v1, v1', v2, v2', v3, v3', v4, v5, v6⟩ := gv kG hn hW hR (show b < g by omega)
      have f4 : M 96 (168 + 5 * b + 4) = nI (gn D b) := by rw [h96, ← (v6 (by omega)).1]; congr 1; omega
      simp (disch := first | exact tm_inb_i (by omega) (by omega) | exact tm_cc rfl | exact tm_cat rfl | omega | exact nI_ne0 (by omega) (by omega) | exact nI_ne (by omega) (by omega) (by omega) | exact tm_cS (by omega) | assumption) only [e_iconst, e_is3i, e_is3r, e_is3u, e_is4i, e_is4r, e_is4u, e_gotow, e_il4, e_al0, g_95_0, e_ic_ge, r_X12_go, e_ic_ne, e_il1, e_il2, e_ic_gt, e_goto, e_is5i, e_is5r, e_is5u, e_il5, e_if_eq, e_il3, e_if_lt, e_ic_lt, e_ii4i, e_ii4r, e_ii4u, e_if_ge, e_iret, al_96, k_m1, kn_0, kn_1, kn_2, kn_4, kn_5, b_X12_carrier_53, b_X12_carrier_54, b_X12_carrier_81, b_X12_carrier_86, b_X12_carrier_87, b_X12_carrier_94, b_X12_carrier_102, b_X12_carrier_108, Option.bind_some, Option.toList_some, Option.toList_none, List.cons_append, List.nil_append, z_0, nI_add, pk_mul, pk_sub, pk_div, n_mod, nI_clamp, nI_leI, nI_ltI, nI_eq, le_T, le_F, lt_T, lt_F, eq_T, eq_F, n_i0, n_i1, eq_self, not_true_eq_false, not_false_eq_true, Bool.false_eq_true, ↓reduceIte, if_true, if_false, tm_up_n, tm_up_s, tm_up_i, ite_self, true_and, and_true, false_and, and_false, n_ofN, Nat.reduceAdd, Nat.reduceMul, Nat.reduceSub, Nat.zero_add, m5, im_s, q_go, f4, cC]
  | succ c ih =>
    intro g v5 hg
    obtain ⟨v0, v0', v1, v1', v2, v2', _⟩ := gv kG hn hW hR (show g < G by omega)
    have f0 : M 96 (168 + 5 * g) = nI (gk D g) := by rw [h96]; exact v0
    have f1 : M 96 (168 + 5 * g + 1) = nI (gw D g) := by rw [h96, ← v1]; congr 1; omega
    have f2 : M 96 (168 + 5 * g + 2) = nI (ga D g) := by rw [h96, ← v2]; congr 1; omega
    have i1 := ih (g + 1) (.int (nI 1)) (by omega)
    have i2 := ih (g + 1) (.int (nI 0)) (by omega)
    rw [b_X12_carrier_5]
    by_cases q : cok D s m g = true
    · obtain ⟨q1, q2, q3⟩ := of_decide_eq_true q
      cases h : cbs D s m g with
      | zero =>
        have e : cbs D s m (g + 1) = g + 1 := cbs_t ⟨q, by rw [h]; exact Nat.zero_le _⟩
        rw [e, im_s] at i1
        simp (disch := first | exact tm_inb_i (by omega) (by omega) | exact tm_cc rfl | exact tm_cat rfl | omega | exact nI_ne0 (by omega) (by omega) | exact nI_ne (by omega) (by omega) (by omega) | exact tm_cS (by omega) | assumption) only [e_iconst, e_is3i, e_is3r, e_is3u, e_is4i, e_is4r, e_is4u, e_gotow, e_il4, e_al0, g_95_0, e_ic_ge, r_X12_go, e_ic_ne, e_il1, e_il2, e_ic_gt, e_goto, e_is5i, e_is5r, e_is5u, e_il5, e_if_eq, e_il3, e_if_lt, e_ic_lt, e_ii4i, e_ii4r, e_ii4u, e_if_ge, e_iret, al_96, k_m1, kn_0, kn_1, kn_2, kn_4, kn_5, b_X12_carrier_53, b_X12_carrier_54, b_X12_carrier_81, b_X12_carrier_86, b_X12_carrier_87, b_X12_carrier_94, b_X12_carrier_102, b_X12_carrier_108, Option.bind_some, Option.toList_some, Option.toList_none, List.cons_append, List.nil_append, z_0, nI_add, pk_mul, pk_sub, pk_div, n_mod, nI_clamp, nI_leI, nI_ltI, nI_eq, le_T, le_F, lt_T, lt_F, eq_T, eq_F, n_i0, n_i1, eq_self, not_true_eq_false, not_false_eq_true, Bool.false_eq_true, ↓reduceIte, if_true, if_false, tm_up_n, tm_up_s, tm_up_i, ite_self, true_and, and_true, false_and, and_false, n_ofN, Nat.reduceAdd, Nat.reduceMul, Nat.reduceSub, Nat.zero_add, m5, im, m1_lt, m1_le, q_go, Nat.add_zero, f0, f1, f2, i1]
      | succ b =>
        obtain ⟨b1, b2⟩ := cbs_p _ _ h
        obtain ⟨w0, w0', w1, w1', w2, w2', _⟩ := gv kG hn hW hR (show b < G by omega)
        have fb : M 96 (168 + 5 * b + 2) = nI (ga D b) := by rw [h96, ← w2]; congr 1; omega
        by_cases qa : ga D b ≤ ga D g
        · have e : cbs D s m (g + 1) = g + 1 := cbs_t ⟨q, by rw [h]; exact qa⟩
          rw [e, im_s] at i1
          simp (disch := first | exact tm_inb_i (by omega) (by omega) | exact tm_cc rfl | exact tm_cat rfl | omega | exact nI_ne0 (by omega) (by omega) | exact nI_ne (by omega) (by omega) (by omega) | exact tm_cS (by omega) | assumption) only [e_iconst, e_is3i, e_is3r, e_is3u, e_is4i, e_is4r, e_is4u, e_gotow, e_il4, e_al0, g_95_0, e_ic_ge, r_X12_go, e_ic_ne, e_il1, e_il2, e_ic_gt, e_goto, e_is5i, e_is5r, e_is5u, e_il5, e_if_eq, e_il3, e_if_lt, e_ic_lt, e_ii4i, e_ii4r, e_ii4u, e_if_ge, e_iret, al_96, k_m1, kn_0, kn_1, kn_2, kn_4, kn_5, b_X12_carrier_53, b_X12_carrier_54, b_X12_carrier_81, b_X12_carrier_86, b_X12_carrier_87, b_X12_carrier_94, b_X12_carrier_102, b_X12_carrier_108, Option.bind_some, Option.toList_some, Option.toList_none, List.cons_append, List.nil_append, z_0, nI_add, pk_mul, pk_sub, pk_div, n_mod, nI_clamp, nI_leI, nI_ltI, nI_eq, le_T, le_F, lt_T, lt_F, eq_T, eq_F, n_i0, n_i1, eq_self, not_true_eq_false, not_false_eq_true, Bool.false_eq_true, ↓reduceIte, if_true, if_false, tm_up_n, tm_up_s, tm_up_i, ite_self, true_and, and_true, false_and, and_false, n_ofN, Nat.reduceAdd, Nat.reduceMul, Nat.reduceSub, Nat.zero_add, m5, im_s, q_go, Nat.add_zero, f0, f1, f2, fb, i1]
        · have e : cbs D s m (g + 1) = b + 1 := (cbs_f (fun z => qa (by have := z.2; rw [h] at this; exact this))).trans h
          rw [e, im_s] at i1
          simp (disch := first | exact tm_inb_i (by omega) (by omega) | exact tm_cc rfl | exact tm_cat rfl | omega | exact nI_ne0 (by omega) (by omega) | exact nI_ne (by omega) (by omega) (by omega) | exact tm_cS (by omega) | assumption) only [e_iconst, e_is3i, e_is3r, e_is3u, e_is4i, e_is4r, e_is4u, e_gotow, e_il4, e_al0, g_95_0, e_ic_ge, r_X12_go, e_ic_ne, e_il1, e_il2, e_ic_gt, e_goto, e_is5i, e_is5r, e_is5u, e_il5, e_if_eq, e_il3, e_if_lt, e_ic_lt, e_ii4i, e_ii4r, e_ii4u, e_if_ge, e_iret, al_96, k_m1, kn_0, kn_1, kn_2, kn_4, kn_5, b_X12_carrier_53, b_X12_carrier_54, b_X12_carrier_81, b_X12_carrier_86, b_X12_carrier_87, b_X12_carrier_94, b_X12_carrier_102, b_X12_carrier_108, Option.bind_some, Option.toList_some, Option.toList_none, List.cons_append, List.nil_append, z_0, nI_add, pk_mul, pk_sub, pk_div, n_mod, nI_clamp, nI_leI, nI_ltI, nI_eq, le_T, le_F, lt_T, lt_F, eq_T, eq_F, n_i0, n_i1, eq_self, not_true_eq_false, not_false_eq_true, Bool.false_eq_true, ↓reduceIte, if_true, if_false, tm_up_n, tm_up_s, tm_up_i, ite_self, true_and, and_true, false_and, and_false, n_ofN, Nat.reduceAdd, Nat.reduceMul, Nat.reduceSub, Nat.zero_add, m5, im_s, q_go, Nat.add_zero, f0, f1, f2, fb, i1]
    · have e : cbs D s m (g + 1) = cbs D s m g := cbs_f (fun z => q z.1)
      rw [e] at i2
      by_cases q1 : gk D g = 5
      · by_cases q2 : gw D g = s
        · by_cases q3 : ga D g ≤ m
          · exact absurd (decide_eq_true ⟨q1, q2, q3⟩) q
          · simp (disch := first | exact tm_inb_i (by omega) (by omega) | exact tm_cc rfl | exact tm_cat rfl | omega | exact nI_ne0 (by omega) (by omega) | exact nI_ne (by omega) (by omega) (by omega) | exact tm_cS (by omega) | assumption) only [e_iconst, e_is3i, e_is3r, e_is3u, e_is4i, e_is4r, e_is4u, e_gotow, e_il4, e_al0, g_95_0, e_ic_ge, r_X12_go, e_ic_ne, e_il1, e_il2, e_ic_gt, e_goto, e_is5i, e_is5r, e_is5u, e_il5, e_if_eq, e_il3, e_if_lt, e_ic_lt, e_ii4i, e_ii4r, e_ii4u, e_if_ge, e_iret, al_96, k_m1, kn_0, kn_1, kn_2, kn_4, kn_5, b_X12_carrier_53, b_X12_carrier_54, b_X12_carrier_81, b_X12_carrier_86, b_X12_carrier_87, b_X12_carrier_94, b_X12_carrier_102, b_X12_carrier_108, Option.bind_some, Option.toList_some, Option.toList_none, List.cons_append, List.nil_append, z_0, nI_add, pk_mul, pk_sub, pk_div, n_mod, nI_clamp, nI_leI, nI_ltI, nI_eq, le_T, le_F, lt_T, lt_F, eq_T, eq_F, n_i0, n_i1, eq_self, not_true_eq_false, not_false_eq_true, Bool.false_eq_true, ↓reduceIte, if_true, if_false, tm_up_n, tm_up_s, tm_up_i, ite_self, true_and, and_true, false_and, and_false, n_ofN, Nat.reduceAdd, Nat.reduceMul, Nat.reduceSub, Nat.zero_add, m5, q_go, Nat.add_zero, f0, f1, f2, i2]
        · simp (disch := first | exact tm_inb_i (by omega) (by omega) | exact tm_cc rfl | exact tm_cat rfl | omega | exact nI_ne0 (by omega) (by omega) | exact nI_ne (by omega) (by omega) (by omega) | exact tm_cS (by omega) | assumption) only [e_iconst, e_is3i, e_is3r, e_is3u, e_is4i, e_is4r, e_is4u, e_gotow, e_il4, e_al0, g_95_0, e_ic_ge, r_X12_go, e_ic_ne, e_il1, e_il2, e_ic_gt, e_goto, e_is5i, e_is5r, e_is5u, e_il5, e_if_eq, e_il3, e_if_lt, e_ic_lt, e_ii4i, e_ii4r, e_ii4u, e_if_ge, e_iret, al_96, k_m1, kn_0, kn_1, kn_2, kn_4, kn_5, b_X12_carrier_53, b_X12_carrier_54, b_X12_carrier_81, b_X12_carrier_86, b_X12_carrier_87, b_X12_carrier_94, b_X12_carrier_102, b_X12_carrier_108, Option.bind_some, Option.toList_some, Option.toList_none, List.cons_append, List.nil_append, z_0, nI_add, pk_mul, pk_sub, pk_div, n_mod, nI_clamp, nI_leI, nI_ltI, nI_eq, le_T, le_F, lt_T, lt_F, eq_T, eq_F, n_i0, n_i1, eq_self, not_true_eq_false, not_false_eq_true, Bool.false_eq_true, ↓reduceIte, if_true, if_false, tm_up_n, tm_up_s, tm_up_i, ite_self, true_and, and_true, false_and, and_false, n_ofN, Nat.reduceAdd, Nat.reduceMul, Nat.reduceSub, Nat.zero_add, m5, q_go, Nat.add_zero, f0, f1, f2, i2]
      · simp (disch := first | exact tm_inb_i (by omega) (by omega) | exact tm_cc rfl | exact tm_cat rfl | omega | exact nI_ne0 (by omega) (by omega) | exact nI_ne (by omega) (by omega) (by omega) | exact tm_cS (by omega) | assumption) only [e_iconst, e_is3i, e_is3r, e_is3u, e_is4i, e_is4r, e_is4u, e_gotow, e_il4, e_al0, g_95_0, e_ic_ge, r_X12_go, e_ic_ne, e_il1, e_il2, e_ic_gt, e_goto, e_is5i, e_is5r, e_is5u, e_il5, e_if_eq, e_il3, e_if_lt, e_ic_lt, e_ii4i, e_ii4r, e_ii4u, e_if_ge, e_iret, al_96, k_m1, kn_0, kn_1, kn_2, kn_4, kn_5, b_X12_carrier_53, b_X12_carrier_54, b_X12_carrier_81, b_X12_carrier_86, b_X12_carrier_87, b_X12_carrier_94, b_X12_carrier_102, b_X12_carrier_108, Option.bind_some, Option.toList_some, Option.toList_none, List.cons_append, List.nil_append, z_0, nI_add, pk_mul, pk_sub, pk_div, n_mod, nI_clamp, nI_leI, nI_ltI, nI_eq, le_T, le_F, lt_T, lt_F, eq_T, eq_F, n_i0, n_i1, eq_self, not_true_eq_false, not_false_eq_true, Bool.false_eq_true, ↓reduceIte, if_true, if_false, tm_up_n, tm_up_s, tm_up_i, ite_self, true_and, and_true, false_and, and_false, n_ofN, Nat.reduceAdd, Nat.reduceMul, Nat.reduceSub, Nat.zero_add, m5, q_go, Nat.add_zero, f0, f1, f2, i2]
theorem q_ca (h96 : M 96 = D) (hK : eK D n W R G) {s m : Nat} (hs1 : s < R) (hm : m < 25) : tm_call (d + 1) 200 [.ref 95, .int (nI s), .int (nI m)] (tm_GG l x) M = some (some (.int (nI (cC D s (cbs D s m G)))), tm_GG l x, M) := by
  have e := q_ca1 (d := d) (l := l) (x := x) h96 hK hs1 hm G 0 tm_un (by omega)
  rw [show cbs D s m 0 = 0 from rfl, show im 0 = -1 from rfl] at e
  simp (disch := first | exact tm_inb_i (by omega) (by omega) | exact tm_cc rfl | exact tm_cat rfl | omega | exact nI_ne0 (by omega) (by omega) | exact nI_ne (by omega) (by omega) (by omega) | exact tm_cS (by omega) | assumption) only [n_X12_carrier, e_iconst, e_is3i, e_is3r, e_is3u, e_is4i, e_is4r, e_is4u, e_gotow, e_il4, e_al0, g_95_0, e_ic_ge, r_X12_go, e_ic_ne, e_il1, e_il2, e_ic_gt, e_goto, e_is5i, e_is5r, e_is5u, e_il5, e_if_eq, e_il3, e_if_lt, e_ic_lt, e_ii4i, e_ii4r, e_ii4u, e_if_ge, e_iret, al_96, k_m1, kn_0, kn_1, kn_2, kn_4, kn_5, b_X12_carrier_53, b_X12_carrier_54, b_X12_carrier_81, b_X12_carrier_86, b_X12_carrier_87, b_X12_carrier_94, b_X12_carrier_102, b_X12_carrier_108, Option.bind_some, Option.toList_some, Option.toList_none, List.cons_append, List.nil_append, z_0, nI_add, pk_mul, pk_sub, pk_div, n_mod, nI_clamp, nI_leI, nI_ltI, nI_eq, le_T, le_F, lt_T, lt_F, eq_T, eq_F, n_i0, n_i1, eq_self, not_true_eq_false, not_false_eq_true, Bool.false_eq_true, ↓reduceIte, if_true, if_false, tm_up_n, tm_up_s, tm_up_i, ite_self, true_and, and_true, false_and, and_false, n_ofN, Nat.reduceAdd, Nat.reduceMul, Nat.reduceSub, Nat.zero_add, e]
end TLK
