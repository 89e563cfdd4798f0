/-! part 53: pairs of calls: earliest, gap -/
def smn (T : Nat → Int32) : Nat → Nat → Int32 → Int32
  | 0, _, s => s
  | c + 1, g, s => smn T c (g + 1) (mnI s (T g))
theorem smn_spec (T : Nat → Int32) : ∀ c g s, (∀ j, g ≤ j → j < g + c → ¬ T j < smn T c g s) ∧ ¬ s < smn T c g s ∧ (smn T c g s = s ∨ ∃ j, g ≤ j ∧ j < g + c ∧ smn T c g s = T j) := by
  intro c
  induction c with
  | zero => intro g s; exact ⟨fun j a b => by omega, Int32.lt_irrefl, Or.inl rfl⟩
  | succ c ih =>
    intro g s
    unfold smn
    obtain ⟨h1, h2, h3⟩ := ih (g + 1) (mnI s (T g))
    have m1 : ¬ s < mnI s (T g) := by
      unfold mnI
      split
      · rename_i q; exact fun z => Int32.lt_irrefl (Int32.lt_trans z q)
      · exact Int32.lt_irrefl
    have m2 : ¬ T g < mnI s (T g) := by
      unfold mnI
      split
      · exact Int32.lt_irrefl
      · assumption
    have tr : ∀ {a b e : Int32}, ¬ a < b → ¬ b < e → ¬ a < e := fun p q => Int32.not_lt.mpr (Int32.le_trans (Int32.not_lt.mp q) (Int32.not_lt.mp p))
    refine ⟨fun j a b => ?_, tr m1 h2, ?_⟩
    · by_cases e : j = g
      · subst e; exact tr m2 h2
      · exact h1 j (by omega) (by omega)
    · rcases h3 with h | ⟨j, a, b, h⟩
      · rw [h]
        unfold mnI
        split
        · exact Or.inr ⟨g, by omega, by omega, rfl⟩
        · exact Or.inl rfl
      · exact Or.inr ⟨j, by omega, by omega, h⟩
/-- the first of the least -/
def bst (T : Nat → Int32) : Nat → Nat → Nat → Nat
  | 0, _, b => b
  | c + 1, k, b => bst T c (k + 1) (if T k < T b then k else b)
theorem bst_spec (T : Nat → Int32) : ∀ c k b, b < k → (∀ j, j < k → ¬ T j < T b) → (∀ j, j < b → T b < T j) → bst T c k b < k + c ∧ (∀ j, j < k + c → ¬ T j < T (bst T c k b)) ∧ (∀ j, j < bst T c k b → T (bst T c k b) < T j) := by
  intro c
  induction c with
  | zero => intro k b h1 h2 h3; exact ⟨h1, h2, h3⟩
  | succ c ih =>
    intro k b h1 h2 h3
    unfold bst
    rw [show k + (c + 1) = k + 1 + c by omega]
    by_cases q : T k < T b
    · rw [if_pos q]
      refine ih (k + 1) k (by omega) (fun j hj => ?_) (fun j hj => ?_)
      · by_cases e : j = k
        · subst e; exact Int32.lt_irrefl
        · exact fun z => h2 j (by omega) (Int32.lt_trans z q)
      · exact Int32.lt_of_lt_of_le q (Int32.not_lt.mp (h2 j hj))
    · rw [if_neg q]
      refine ih (k + 1) b (by omega) (fun j hj => ?_) h3
      by_cases e : j = k
      · subst e; exact q
      · exact h2 j (by omega)
def wfr (T : Nat → Int32) (s : Int32) : Nat → Nat → Nat
  | 0, g => g
  | c + 1, g => if T g = s then g else wfr T s c (g + 1)
theorem wfr_spec (T : Nat → Int32) (s : Int32) : ∀ c g, g ≤ wfr T s c g ∧ wfr T s c g ≤ g + c ∧ (∀ j, g ≤ j → j < wfr T s c g → ¬ T j = s) ∧ (wfr T s c g = g + c ∨ T (wfr T s c g) = s) := by
  intro c
  induction c with
  | zero => intro g; exact ⟨Nat.le_refl _, Nat.le_refl _, fun j a b => by unfold wfr at b; omega, Or.inl rfl⟩
  | succ c ih =>
    intro g
    unfold wfr
    by_cases q : T g = s
    · rw [if_pos q]
      exact ⟨by omega, by omega, fun j a b => by omega, Or.inr q⟩
    · rw [if_neg q]
      obtain ⟨h1, h2, h3, h4⟩ := ih (g + 1)
      refine ⟨by omega, by omega, fun j a b => ?_, ?_⟩
      · by_cases e : j = g
        · subst e; exact q
        · exact h3 j (by omega) b
      · rcases h4 with h | h
        · exact Or.inl (by omega)
        · exact Or.inr h
theorem i_le_anti {a b : Int32} (h1 : ¬ a < b) (h2 : ¬ b < a) : a = b := Int32.le_antisymm (Int32.not_lt.mp h2) (Int32.not_lt.mp h1)
/-- entries at one mark -/
def okR (W : Nat) (T : Nat → Int32) : Prop := ∀ k, k ≤ 12 → T k = LG ∨ (k ≤ W ∧ ∃ t, T k = nI t ∧ t ≤ 200000)
theorem LG_lt {t : Nat} (h : t ≤ 200000) : nI t < LG := (nI_ltI (by omega) (by decide)).mpr (by omega)
theorem okR_le {W : Nat} {T : Nat → Int32} (h : okR W T) {k : Nat} (hk : k ≤ 12) : ¬ LG < T k := by
  rcases h k hk with e | ⟨_, t, e, ht⟩
  · rw [e]; exact Int32.lt_irrefl
  · rw [e]; exact fun z => Int32.lt_irrefl (Int32.lt_trans z (LG_lt ht))
theorem least_eq {W : Nat} {T : Nat → Int32} (hW : W ≤ 12) (h : okR W T) : smn T (W + 1) 0 LG = T (bst T 12 1 0) := by
  obtain ⟨b1, b2, b3⟩ := bst_spec T 12 1 0 (by omega) (fun j hj => by rw [show j = 0 by omega]; exact Int32.lt_irrefl) (fun j hj => by omega)
  obtain ⟨s1, s2, s3⟩ := smn_spec T (W + 1) 0 LG
  have hb : bst T 12 1 0 ≤ 12 := by omega
  refine i_le_anti ?_ ?_
  · rcases s3 with e | ⟨j, _, hj, e⟩
    · rw [e]; exact okR_le h hb
    · rw [e]; exact b2 j (by omega)
  · rcases h _ hb with e | ⟨hbW, _⟩
    · rw [e]; exact s2
    · exact s1 _ (by omega) (by omega)
theorem ways_eq {W : Nat} {T : Nat → Int32} (hW : W ≤ 12) (h : okR W T) (hl : ¬ T (bst T 12 1 0) = LG) : wfr T (T (bst T 12 1 0)) W 0 = bst T 12 1 0 := by
  obtain ⟨b1, b2, b3⟩ := bst_spec T 12 1 0 (by omega) (fun j hj => by rw [show j = 0 by omega]; exact Int32.lt_irrefl) (fun j hj => by omega)
  obtain ⟨w1, w2, w3, w4⟩ := wfr_spec T (T (bst T 12 1 0)) W 0
  obtain ⟨hbW, _⟩ := (h _ (by omega : bst T 12 1 0 ≤ 12)).resolve_left hl
  have h1 : ¬ bst T 12 1 0 < wfr T (T (bst T 12 1 0)) W 0 := fun z => w3 _ (by omega) z rfl
  refine Nat.le_antisymm (by omega) (Classical.byContradiction fun z => ?_)
  have h2 : wfr T (T (bst T 12 1 0)) W 0 < bst T 12 1 0 := by omega
  have h3 := b3 _ h2
  rcases w4 with e | e
  · omega
  · rw [e] at h3; exact Int32.lt_irrefl h3
theorem ride_eq {W u : Nat} {T : Nat → Int32} (hW : W ≤ 12) (h : okR W T) (hu : u ≤ 200000) : (smn T W 1 LG ≤ nI u) ↔ exf (fun k => decide (T k ≤ nI u)) 12 1 = true := by
  obtain ⟨s1, s2, s3⟩ := smn_spec T W 1 LG
  rw [exf_iff]
  constructor
  · intro z
    rcases s3 with e | ⟨j, a, b, e⟩
    · rw [e, LG_le hu] at z; exact z.elim
    · exact ⟨j, a, by omega, decide_eq_true (by rw [← e]; exact z)⟩
  · rintro ⟨k, a, b, e⟩
    have e := of_decide_eq_true e
    have hk : T k ≠ LG := fun z => by rw [z, LG_le hu] at e; exact e
    obtain ⟨hkW, _⟩ := (h k (by omega)).resolve_left hk
    exact Int32.le_trans (Int32.not_lt.mp (s1 k a (by omega))) e
theorem tm_I_fr0 {k : Nat} {M M' : tm_M} (hI : tm_I k M) (h : tm_fr M M') : tm_I k M' := by
  obtain ⟨a1, a2, a3, a4, a5, _, a7⟩ := tm_I_fr hI h
  refine ⟨a1, a2, a3, a4, a5, ?_, a7⟩
  exact tm_rK_cg (by rintro c (rfl | rfl) <;> exact h.1 _ (by decide)) (fun c q => h.1 _ (tm_wc_scr c q).2) h.2.2.1 h.2.2.2.1 hI.2.2.2.2.2.1
theorem tm_I_fdx {k j : Nat} {M Ms Mt : tm_M} (hI : tm_I k M) (hj : j < 6) (h1 : tm_fr M Ms) (h2 : tm_fr (tm_up Ms 94 j (M 94 j + nI 1)) Mt) : tm_I (k + 1) (tm_up Mt 98 j (M 98 j + nI 1)) := by
  refine tm_I_fr0 (tm_I_fd hI hj rfl rfl) ⟨fun c hc => ?_, ?_, ?_, ?_, ?_⟩
  · by_cases c98 : c = 98
    · subst c98
      rw [tm_up_at, tm_up_at, h2.1 98 hc, tm_up_n (by decide), tm_up_n (by decide), h1.1 98 hc]
    · rw [tm_up_n c98, tm_up_n c98, h2.1 c hc]
      by_cases c94 : c = 94
      · subst c94
        rw [tm_up_at, tm_up_at, h1.1 94 hc]
      · rw [tm_up_n c94, tm_up_n c94, h1.1 c hc]
  · rw [tm_up_n (by decide), tm_up_n (by decide), tm_up_n (by decide), h2.2.1, tm_up_n (by decide), h1.2.1]
  · rw [tm_up_n (by decide), tm_up_n (by decide), tm_up_n (by decide), h2.2.2.1, tm_up_n (by decide), h1.2.2.1]
  · rw [tm_up_n (by decide), tm_up_n (by decide), tm_up_n (by decide), h2.2.2.2.1, tm_up_n (by decide), h1.2.2.2.1]
  · rw [tm_up_n (by decide), tm_up_n (by decide), tm_up_n (by decide), h2.2.2.2.2, tm_up_n (by decide), h1.2.2.2.2]
section TME
variable {d l : Nat} {x : Nat → Int32} {D : Nat → Int32} {n W v : Nat} {M : tm_M}
theorem m_so (hW12 : W ≤ 12) (c3 : M 2 3 = nI W) {to : Nat} (hto : to ≤ 24) {a2 : Int32} : ∀ (c g : Nat) (s : Int32), g + c = W + 1 → tm_ev d (tm_blk (Int.toNat 540006)) [.ref 2, .int (nI to), .int a2, .int s, .int (nI g)] [] (tm_GG l x) M = some (some (.int (smn (fun k => M 10 (ixc k to)) c g s)), tm_GG l x, M) := by
  intro c
  induction c with
  | zero =>
    intro g s h
    rw [b_X5_soonest_6]
    unfold smn
    simp (disch := first | exact tm_inb_i (by omega) (by omega) | exact tm_cc rfl | exact tm_cat rfl | omega | exact nI_ne0 (by omega) (by omega) | exact nI_ne (by omega) (by omega) (by omega) | assumption) only [e_iconst, e_is3i, e_is3r, e_is3u, e_il2, e_is4i, e_is4r, e_is4u, e_gotow, e_il4, e_al0, g_2_3, g_36_3, e_ic_gt, e_il3, g_2_11, g_36_11, e_imul, e_il1, e_iadd, e_mmin, e_ii4i, e_ii4r, e_ii4u, e_goto, e_iret, al_10, al_44, kn_1, kn_25, kn_1000000000, b_X5_soonest_38, Option.bind_some, Option.toList_some, Option.toList_none, List.cons_append, List.nil_append, z_0, nI_add, pk_mul, pk_sub, pk_div, n_mod, nI_clamp, nI_leI, nI_ltI, nI_eq, le_T, le_F, lt_T, lt_F, eq_T, eq_F, n_i0, n_i1, eq_self, not_true_eq_false, not_false_eq_true, Bool.false_eq_true, ↓reduceIte, if_true, if_false, tm_up_n, tm_up_s, tm_up_i, ite_self, true_and, and_true, false_and, and_false, n_ofN, Nat.reduceAdd, Nat.reduceMul, Nat.reduceSub, Nat.zero_add, c3]
  | succ c ih =>
    intro g s h
    have hg : g * 25 + to < 325 := by omega
    rw [b_X5_soonest_6]
    unfold smn
    have := ih (g + 1) (mnI s (M 10 (g * 25 + to))) (by omega)
    unfold mnI at this ⊢
    simp (disch := first | exact tm_inb_i (by omega) (by omega) | exact tm_cc rfl | exact tm_cat rfl | omega | exact nI_ne0 (by omega) (by omega) | exact nI_ne (by omega) (by omega) (by omega) | assumption) only [e_iconst, e_is3i, e_is3r, e_is3u, e_il2, e_is4i, e_is4r, e_is4u, e_gotow, e_il4, e_al0, g_2_3, g_36_3, e_ic_gt, e_il3, g_2_11, g_36_11, e_imul, e_il1, e_iadd, e_mmin, e_ii4i, e_ii4r, e_ii4u, e_goto, e_iret, al_10, al_44, kn_1, kn_25, kn_1000000000, b_X5_soonest_38, Option.bind_some, Option.toList_some, Option.toList_none, List.cons_append, List.nil_append, z_0, nI_add, pk_mul, pk_sub, pk_div, n_mod, nI_clamp, nI_leI, nI_ltI, nI_eq, le_T, le_F, lt_T, lt_F, eq_T, eq_F, n_i0, n_i1, eq_self, not_true_eq_false, not_false_eq_true, Bool.false_eq_true, ↓reduceIte, if_true, if_false, tm_up_n, tm_up_s, tm_up_i, ite_self, true_and, and_true, false_and, and_false, n_ofN, Nat.reduceAdd, Nat.reduceMul, Nat.reduceSub, Nat.zero_add, c3, this]
    rfl
theorem m_soonest (hW12 : W ≤ 12) (c3 : M 2 3 = nI W) {to lo : Nat} (hto : to ≤ 24) (hlo : lo ≤ W + 1) : tm_call d 54 [.ref 2, .int (nI to), .int (nI lo)] (tm_GG l x) M = some (some (.int (smn (fun k => M 10 (ixc k to)) (W + 1 - lo) lo LG)), tm_GG l x, M) := by
  have := m_so (d := d) (l := l) (x := x) hW12 c3 hto (a2 := nI lo) (W + 1 - lo) lo LG (by omega)
  simp (disch := first | exact tm_inb_i (by omega) (by omega) | exact tm_cc rfl | exact tm_cat rfl | omega | exact nI_ne0 (by omega) (by omega) | exact nI_ne (by omega) (by omega) (by omega) | assumption) only [n_X5_soonest, e_iconst, e_is3i, e_is3r, e_is3u, e_il2, e_is4i, e_is4r, e_is4u, e_gotow, e_il4, e_al0, g_2_3, g_36_3, e_ic_gt, e_il3, g_2_11, g_36_11, e_imul, e_il1, e_iadd, e_mmin, e_ii4i, e_ii4r, e_ii4u, e_goto, e_iret, al_10, al_44, kn_1, kn_25, kn_1000000000, b_X5_soonest_38, Option.bind_some, Option.toList_some, Option.toList_none, List.cons_append, List.nil_append, z_0, nI_add, pk_mul, pk_sub, pk_div, n_mod, nI_clamp, nI_leI, nI_ltI, nI_eq, le_T, le_F, lt_T, lt_F, eq_T, eq_F, n_i0, n_i1, eq_self, not_true_eq_false, not_false_eq_true, Bool.false_eq_true, ↓reduceIte, if_true, if_false, tm_up_n, tm_up_s, tm_up_i, ite_self, true_and, and_true, false_and, and_false, n_ofN, Nat.reduceAdd, Nat.reduceMul, Nat.reduceSub, Nat.zero_add, kn_LG, this]
theorem m_wf (hW12 : W ≤ 12) (c3 : M 2 3 = nI W) {to : Nat} (hto : to ≤ 24) {s : Int32} : ∀ (c g : Nat), g + c = W → tm_ev d (tm_blk (Int.toNat 550002)) [.ref 2, .int (nI to), .int s, .int (nI g)] [] (tm_GG l x) M = some (some (.int (nI (wfr (fun k => M 10 (ixc k to)) s c g))), tm_GG l x, M) := by
  intro c
  induction c with
  | zero =>
    intro g h
    rw [b_X5_waysFor_2]
    unfold wfr
    simp (disch := first | exact tm_inb_i (by omega) (by omega) | exact tm_cc rfl | exact tm_cat rfl | omega | exact nI_ne0 (by omega) (by omega) | exact nI_ne (by omega) (by omega) (by omega) | assumption) only [e_iconst, e_is3i, e_is3r, e_is3u, e_gotow, e_il3, e_al0, g_2_3, g_36_3, e_ic_ge, g_2_11, g_36_11, e_imul, e_il1, e_iadd, e_il2, e_ic_eq, e_ii3i, e_ii3r, e_ii3u, e_goto, e_iret, al_10, al_44, kn_0, kn_1, kn_25, b_X5_waysFor_31, Option.bind_some, Option.toList_some, Option.toList_none, List.cons_append, List.nil_append, z_0, nI_add, pk_mul, pk_sub, pk_div, n_mod, nI_clamp, nI_leI, nI_ltI, nI_eq, le_T, le_F, lt_T, lt_F, eq_T, eq_F, n_i0, n_i1, eq_self, not_true_eq_false, not_false_eq_true, Bool.false_eq_true, ↓reduceIte, if_true, if_false, tm_up_n, tm_up_s, tm_up_i, ite_self, true_and, and_true, false_and, and_false, n_ofN, Nat.reduceAdd, Nat.reduceMul, Nat.reduceSub, Nat.zero_add, c3]
  | succ c ih =>
    intro g h
    have hg : g * 25 + to < 325 := by omega
    rw [b_X5_waysFor_2]
    unfold wfr
    have e0 : M 10 (ixc g to) = M 10 (g * 25 + to) := rfl
    by_cases q : M 10 (g * 25 + to) = s
    · simp (disch := first | exact tm_inb_i (by omega) (by omega) | exact tm_cc rfl | exact tm_cat rfl | omega | exact nI_ne0 (by omega) (by omega) | exact nI_ne (by omega) (by omega) (by omega) | assumption) only [e_iconst, e_is3i, e_is3r, e_is3u, e_gotow, e_il3, e_al0, g_2_3, g_36_3, e_ic_ge, g_2_11, g_36_11, e_imul, e_il1, e_iadd, e_il2, e_ic_eq, e_ii3i, e_ii3r, e_ii3u, e_goto, e_iret, al_10, al_44, kn_0, kn_1, kn_25, b_X5_waysFor_31, Option.bind_some, Option.toList_some, Option.toList_none, List.cons_append, List.nil_append, z_0, nI_add, pk_mul, pk_sub, pk_div, n_mod, nI_clamp, nI_leI, nI_ltI, nI_eq, le_T, le_F, lt_T, lt_F, eq_T, eq_F, n_i0, n_i1, eq_self, not_true_eq_false, not_false_eq_true, Bool.false_eq_true, ↓reduceIte, if_true, if_false, tm_up_n, tm_up_s, tm_up_i, ite_self, true_and, and_true, false_and, and_false, n_ofN, Nat.reduceAdd, Nat.reduceMul, Nat.reduceSub, Nat.zero_add, c3, e0, q]
    · simp (disch := first | exact tm_inb_i (by omega) (by omega) | exact tm_cc rfl | exact tm_cat rfl | omega | exact nI_ne0 (by omega) (by omega) | exact nI_ne (by omega) (by omega) (by omega) | assumption) only [e_iconst, e_is3i, e_is3r, e_is3u, e_gotow, e_il3, e_al0, g_2_3, g_36_3, e_ic_ge, g_2_11, g_36_11, e_imul, e_il1, e_iadd, e_il2, e_ic_eq, e_ii3i, e_ii3r, e_ii3u, e_goto, e_iret, al_10, al_44, kn_0, kn_1, kn_25, b_X5_waysFor_31, Option.bind_some, Option.toList_some, Option.toList_none, List.cons_append, List.nil_append, z_0, nI_add, pk_mul, pk_sub, pk_div, n_mod, nI_clamp, nI_leI, nI_ltI, nI_eq, le_T, le_F, lt_T, lt_F, eq_T, eq_F, n_i0, n_i1, eq_self, not_true_eq_false, not_false_eq_true, Bool.false_eq_true, ↓reduceIte, if_true, if_false, tm_up_n, tm_up_s, tm_up_i, ite_self, true_and, and_true, false_and, and_false, n_ofN, Nat.reduceAdd, Nat.reduceMul, Nat.reduceSub, Nat.zero_add, c3, e0, q, ih (g + 1) (by omega)]
theorem m_waysFor (hW12 : W ≤ 12) (c3 : M 2 3 = nI W) {to : Nat} (hto : to ≤ 24) {s : Int32} : tm_call d 55 [.ref 2, .int (nI to), .int s] (tm_GG l x) M = some (some (.int (nI (wfr (fun k => M 10 (ixc k to)) s W 0))), tm_GG l x, M) := by
  have := m_wf (d := d) (l := l) (x := x) hW12 c3 hto (s := s) W 0 (by omega)
  simp (disch := first | exact tm_inb_i (by omega) (by omega) | exact tm_cc rfl | exact tm_cat rfl | omega | exact nI_ne0 (by omega) (by omega) | exact nI_ne (by omega) (by omega) (by omega) | assumption) only [n_X5_waysFor, e_iconst, e_is3i, e_is3r, e_is3u, e_gotow, e_il3, e_al0, g_2_3, g_36_3, e_ic_ge, g_2_11, g_36_11, e_imul, e_il1, e_iadd, e_il2, e_ic_eq, e_ii3i, e_ii3r, e_ii3u, e_goto, e_iret, al_10, al_44, kn_0, kn_1, kn_25, b_X5_waysFor_31, Option.bind_some, Option.toList_some, Option.toList_none, List.cons_append, List.nil_append, z_0, nI_add, pk_mul, pk_sub, pk_div, n_mod, nI_clamp, nI_leI, nI_ltI, nI_eq, le_T, le_F, lt_T, lt_F, eq_T, eq_F, n_i0, n_i1, eq_self, not_true_eq_false, not_false_eq_true, Bool.false_eq_true, ↓reduceIte, if_true, if_false, tm_up_n, tm_up_s, tm_up_i, ite_self, true_and, and_true, false_and, and_false, n_ofN, Nat.reduceAdd, Nat.reduceMul, Nat.reduceSub, Nat.zero_add, this]
theorem q_bs {to w : Nat} (hto : to ≤ 24) {a1 a2 a4 : Int32} : ∀ (c k b : Nat), k + c = 13 → b ≤ 12 → tm_ev d (tm_blk (Int.toNat 1850074)) [.ref 95, .int a1, .int a2, .int (nI to), .int a4, .int (nI w), .int (nI b), .int (nI k)] [] (tm_GG l x) M = tm_ev d (tm_blk (Int.toNat 1850123)) [.ref 95, .int a1, .int a2, .int (nI to), .int a4, .int (nI w), .int (nI (bst (fun k => M 101 (ixr k to)) c k b)), .int (nI 13)] [] (tm_GG l x) M := by
  intro c
  induction c with
  | zero =>
    intro k b h hb
    obtain rfl : k = 13 := by omega
    rw [b_X12_earliest_74]
    unfold bst
    simp (disch := first | exact tm_inb_i (by omega) (by omega) | exact tm_cc rfl | exact tm_cat rfl | omega | exact nI_ne0 (by omega) (by omega) | exact nI_ne (by omega) (by omega) (by omega) | assumption) only [e_al0, e_il1, r_X12_isMark, e_if_eq, e_il3, e_ic_ge, e_il2, e_iconst, r_X12_in, e_il4, e_il5, e_if_ne, e_gotow, r_X12_finding, e_iret, r_X12_findThere, e_is6i, e_is6r, e_is6u, e_is7i, e_is7r, e_is7u, e_il7, e_ic_gt, g_95_12, e_imul, e_iadd, e_il6, e_goto, e_ii7i, e_ii7r, e_ii7u, e_ic_ne, al_101, kn_0, kn_1, kn_2, kn_12, kn_13, kn_60, kn_2000, kn_1000000000, b_X12_earliest_53, b_X12_earliest_59, b_X12_earliest_113, b_X12_earliest_115, b_X12_earliest_146, b_X12_earliest_166, b_X12_earliest_168, Option.bind_some, Option.toList_some, Option.toList_none, List.cons_append, List.nil_append, z_0, nI_add, pk_mul, pk_sub, pk_div, n_mod, nI_clamp, nI_leI, nI_ltI, nI_eq, le_T, le_F, lt_T, lt_F, eq_T, eq_F, n_i0, n_i1, eq_self, not_true_eq_false, not_false_eq_true, Bool.false_eq_true, ↓reduceIte, if_true, if_false, tm_up_n, tm_up_s, tm_up_i, ite_self, true_and, and_true, false_and, and_false, n_ofN, Nat.reduceAdd, Nat.reduceMul, Nat.reduceSub, Nat.zero_add]
  | succ c ih =>
    intro k b h hb
    have h1 : 13 * to + k < 325 := by omega
    have h2 : 13 * to + b < 325 := by omega
    rw [b_X12_earliest_74]
    unfold bst
    show _ = tm_ev d _ [_, _, _, _, _, _, .int (nI (bst (fun k => M 101 (ixr k to)) c (k + 1) (if M 101 (13 * to + k) < M 101 (13 * to + b) then k else b))), _] _ _ _
    by_cases q : M 101 (13 * to + k) < M 101 (13 * to + b)
    · simp (disch := first | exact tm_inb_i (by omega) (by omega) | exact tm_cc rfl | exact tm_cat rfl | omega | exact nI_ne0 (by omega) (by omega) | exact nI_ne (by omega) (by omega) (by omega) | assumption) only [e_al0, e_il1, r_X12_isMark, e_if_eq, e_il3, e_ic_ge, e_il2, e_iconst, r_X12_in, e_il4, e_il5, e_if_ne, e_gotow, r_X12_finding, e_iret, r_X12_findThere, e_is6i, e_is6r, e_is6u, e_is7i, e_is7r, e_is7u, e_il7, e_ic_gt, g_95_12, e_imul, e_iadd, e_il6, e_goto, e_ii7i, e_ii7r, e_ii7u, e_ic_ne, al_101, kn_0, kn_1, kn_2, kn_12, kn_13, kn_60, kn_2000, kn_1000000000, b_X12_earliest_53, b_X12_earliest_59, b_X12_earliest_113, b_X12_earliest_115, b_X12_earliest_146, b_X12_earliest_166, b_X12_earliest_168, Option.bind_some, Option.toList_some, Option.toList_none, List.cons_append, List.nil_append, z_0, nI_add, pk_mul, pk_sub, pk_div, n_mod, nI_clamp, nI_leI, nI_ltI, nI_eq, le_T, le_F, lt_T, lt_F, eq_T, eq_F, n_i0, n_i1, eq_self, not_true_eq_false, not_false_eq_true, Bool.false_eq_true, ↓reduceIte, if_true, if_false, tm_up_n, tm_up_s, tm_up_i, ite_self, true_and, and_true, false_and, and_false, n_ofN, Nat.reduceAdd, Nat.reduceMul, Nat.reduceSub, Nat.zero_add, q, Int32.not_le.mpr q, ih (k + 1) k (by omega) (by omega)]
    · simp (disch := first | exact tm_inb_i (by omega) (by omega) | exact tm_cc rfl | exact tm_cat rfl | omega | exact nI_ne0 (by omega) (by omega) | exact nI_ne (by omega) (by omega) (by omega) | assumption) only [e_al0, e_il1, r_X12_isMark, e_if_eq, e_il3, e_ic_ge, e_il2, e_iconst, r_X12_in, e_il4, e_il5, e_if_ne, e_gotow, r_X12_finding, e_iret, r_X12_findThere, e_is6i, e_is6r, e_is6u, e_is7i, e_is7r, e_is7u, e_il7, e_ic_gt, g_95_12, e_imul, e_iadd, e_il6, e_goto, e_ii7i, e_ii7r, e_ii7u, e_ic_ne, al_101, kn_0, kn_1, kn_2, kn_12, kn_13, kn_60, kn_2000, kn_1000000000, b_X12_earliest_53, b_X12_earliest_59, b_X12_earliest_113, b_X12_earliest_115, b_X12_earliest_146, b_X12_earliest_166, b_X12_earliest_168, Option.bind_some, Option.toList_some, Option.toList_none, List.cons_append, List.nil_append, z_0, nI_add, pk_mul, pk_sub, pk_div, n_mod, nI_clamp, nI_leI, nI_ltI, nI_eq, le_T, le_F, lt_T, lt_F, eq_T, eq_F, n_i0, n_i1, eq_self, not_true_eq_false, not_false_eq_true, Bool.false_eq_true, ↓reduceIte, if_true, if_false, tm_up_n, tm_up_s, tm_up_i, ite_self, true_and, and_true, false_and, and_false, n_ofN, Nat.reduceAdd, Nat.reduceMul, Nat.reduceSub, Nat.zero_add, q, Int32.not_lt.mp q, ih (k + 1) b (by omega) hb]
theorem okR_of {W m : Nat} {f : Nat → Int32} (hm : m ≤ 24) (h : okT ixr D W f) : okR W (fun k => f (ixr k m)) := fun k hk => by
  rcases h k m hk hm with e | ⟨t, e, ht, hc⟩
  · exact Or.inl e
  · have := cn_le D m W 0
    exact Or.inr ⟨by omega, t, e, by omega⟩
theorem pr_earliest (a0 a1 a2 a3 a4 : Int32) : tm_Pi tm_I l x 102 185 [.int a0, .int a1, .int a2, .int a3, .int a4] := by
  intro k M hk hI
  obtain ⟨n, X, W, R, G, T, L, ⟨⟨k0, k01, k02⟩, -, ⟨k3, k32⟩, -, -, -, -, kW, -⟩, c0, -, c3, -⟩ := tm_I_n hI
  rcases rng a0 0 n (by decide) (by omega) with h | ⟨fr, _, hfr, rfl⟩
  · exact tm_fdp hI (by decide : 1 < 6) (by simp (disch := first | exact tm_inb_i (by omega) (by omega) | exact tm_cc rfl | exact tm_cat rfl | omega | exact nI_ne0 (by omega) (by omega) | exact nI_ne (by omega) (by omega) (by omega) | assumption) only [n_X11_earliest, e_al0, e_il1, e_il3, r_X11_areMarks, e_if_eq, e_il2, e_iconst, r_X11_within, e_il4, e_il5, e_if_ne, e_gotow, r_X11_finding, e_iret, g_0_0, g_1_0, g_35_0, r_X5_reach, r_X5_soonest, e_is6i, e_is6r, e_is6u, e_il6, e_ic_ne, e_goto, r_X5_waysFor, kn_0, kn_1, kn_2, kn_60, kn_2000, kn_1000000000, b_X11_earliest_41, b_X11_earliest_47, b_X11_earliest_88, b_X11_earliest_98, b_X11_earliest_111, Option.bind_some, Option.toList_some, Option.toList_none, List.cons_append, List.nil_append, z_0, nI_add, pk_mul, pk_sub, pk_div, n_mod, nI_clamp, nI_leI, nI_ltI, nI_eq, le_T, le_F, lt_T, lt_F, eq_T, eq_F, n_i0, n_i1, eq_self, not_true_eq_false, not_false_eq_true, Bool.false_eq_true, ↓reduceIte, if_true, if_false, tm_up_n, tm_up_s, tm_up_i, ite_self, true_and, and_true, false_and, and_false, n_ofN, Nat.reduceAdd, Nat.reduceMul, Nat.reduceSub, Nat.zero_add, m_within, m_finding, m_areMarks, c0, h]) (by simp (disch := first | exact tm_inb_i (by omega) (by omega) | exact tm_cc rfl | exact tm_cat rfl | omega | exact nI_ne0 (by omega) (by omega) | exact nI_ne (by omega) (by omega) (by omega) | assumption) only [n_X12_earliest, e_al0, e_il1, r_X12_isMark, e_if_eq, e_il3, e_ic_ge, e_il2, e_iconst, r_X12_in, e_il4, e_il5, e_if_ne, e_gotow, r_X12_finding, e_iret, r_X12_findThere, e_is6i, e_is6r, e_is6u, e_is7i, e_is7r, e_is7u, e_il7, e_ic_gt, g_95_12, e_imul, e_iadd, e_il6, e_goto, e_ii7i, e_ii7r, e_ii7u, e_ic_ne, al_101, kn_0, kn_1, kn_2, kn_12, kn_13, kn_60, kn_2000, kn_1000000000, b_X12_earliest_53, b_X12_earliest_59, b_X12_earliest_113, b_X12_earliest_115, b_X12_earliest_123, b_X12_earliest_146, b_X12_earliest_166, b_X12_earliest_168, Option.bind_some, Option.toList_some, Option.toList_none, List.cons_append, List.nil_append, z_0, nI_add, pk_mul, pk_sub, pk_div, n_mod, nI_clamp, nI_leI, nI_ltI, nI_eq, le_T, le_F, lt_T, lt_F, eq_T, eq_F, n_i0, n_i1, eq_self, not_true_eq_false, not_false_eq_true, Bool.false_eq_true, ↓reduceIte, if_true, if_false, tm_up_n, tm_up_s, tm_up_i, ite_self, true_and, and_true, false_and, and_false, n_ofN, Nat.reduceAdd, Nat.reduceMul, Nat.reduceSub, Nat.zero_add, q_in, q_finding, q_isMark, k0, h])
  rcases rng a2 0 n (by decide) (by omega) with h | ⟨to, _, hto, rfl⟩
  · exact tm_fdp hI (by decide : 1 < 6) (by simp (disch := first | exact tm_inb_i (by omega) (by omega) | exact tm_cc rfl | exact tm_cat rfl | omega | exact nI_ne0 (by omega) (by omega) | exact nI_ne (by omega) (by omega) (by omega) | assumption) only [n_X11_earliest, e_al0, e_il1, e_il3, r_X11_areMarks, e_if_eq, e_il2, e_iconst, r_X11_within, e_il4, e_il5, e_if_ne, e_gotow, r_X11_finding, e_iret, g_0_0, g_1_0, g_35_0, r_X5_reach, r_X5_soonest, e_is6i, e_is6r, e_is6u, e_il6, e_ic_ne, e_goto, r_X5_waysFor, kn_0, kn_1, kn_2, kn_60, kn_2000, kn_1000000000, b_X11_earliest_41, b_X11_earliest_47, b_X11_earliest_88, b_X11_earliest_98, b_X11_earliest_111, Option.bind_some, Option.toList_some, Option.toList_none, List.cons_append, List.nil_append, z_0, nI_add, pk_mul, pk_sub, pk_div, n_mod, nI_clamp, nI_leI, nI_ltI, nI_eq, le_T, le_F, lt_T, lt_F, eq_T, eq_F, n_i0, n_i1, eq_self, not_true_eq_false, not_false_eq_true, Bool.false_eq_true, ↓reduceIte, if_true, if_false, tm_up_n, tm_up_s, tm_up_i, ite_self, true_and, and_true, false_and, and_false, n_ofN, Nat.reduceAdd, Nat.reduceMul, Nat.reduceSub, Nat.zero_add, m_within, m_finding, m_areMarks, c0, h]) (by simp (disch := first | exact tm_inb_i (by omega) (by omega) | exact tm_cc rfl | exact tm_cat rfl | omega | exact nI_ne0 (by omega) (by omega) | exact nI_ne (by omega) (by omega) (by omega) | assumption) only [n_X12_earliest, e_al0, e_il1, r_X12_isMark, e_if_eq, e_il3, e_ic_ge, e_il2, e_iconst, r_X12_in, e_il4, e_il5, e_if_ne, e_gotow, r_X12_finding, e_iret, r_X12_findThere, e_is6i, e_is6r, e_is6u, e_is7i, e_is7r, e_is7u, e_il7, e_ic_gt, g_95_12, e_imul, e_iadd, e_il6, e_goto, e_ii7i, e_ii7r, e_ii7u, e_ic_ne, al_101, kn_0, kn_1, kn_2, kn_12, kn_13, kn_60, kn_2000, kn_1000000000, b_X12_earliest_53, b_X12_earliest_59, b_X12_earliest_113, b_X12_earliest_115, b_X12_earliest_123, b_X12_earliest_146, b_X12_earliest_166, b_X12_earliest_168, Option.bind_some, Option.toList_some, Option.toList_none, List.cons_append, List.nil_append, z_0, nI_add, pk_mul, pk_sub, pk_div, n_mod, nI_clamp, nI_leI, nI_ltI, nI_eq, le_T, le_F, lt_T, lt_F, eq_T, eq_F, n_i0, n_i1, eq_self, not_true_eq_false, not_false_eq_true, Bool.false_eq_true, ↓reduceIte, if_true, if_false, tm_up_n, tm_up_s, tm_up_i, ite_self, true_and, and_true, false_and, and_false, n_ofN, Nat.reduceAdd, Nat.reduceMul, Nat.reduceSub, Nat.zero_add, q_in, q_finding, q_isMark, k0, h])
  by_cases hft : fr < to
  case neg => exact tm_fdp hI (by decide : 1 < 6) (by simp (disch := first | exact tm_inb_i (by omega) (by omega) | exact tm_cc rfl | exact tm_cat rfl | omega | exact nI_ne0 (by omega) (by omega) | exact nI_ne (by omega) (by omega) (by omega) | assumption) only [n_X11_earliest, e_al0, e_il1, e_il3, r_X11_areMarks, e_if_eq, e_il2, e_iconst, r_X11_within, e_il4, e_il5, e_if_ne, e_gotow, r_X11_finding, e_iret, g_0_0, g_1_0, g_35_0, r_X5_reach, r_X5_soonest, e_is6i, e_is6r, e_is6u, e_il6, e_ic_ne, e_goto, r_X5_waysFor, kn_0, kn_1, kn_2, kn_60, kn_2000, kn_1000000000, b_X11_earliest_41, b_X11_earliest_47, b_X11_earliest_88, b_X11_earliest_98, b_X11_earliest_111, Option.bind_some, Option.toList_some, Option.toList_none, List.cons_append, List.nil_append, z_0, nI_add, pk_mul, pk_sub, pk_div, n_mod, nI_clamp, nI_leI, nI_ltI, nI_eq, le_T, le_F, lt_T, lt_F, eq_T, eq_F, n_i0, n_i1, eq_self, not_true_eq_false, not_false_eq_true, Bool.false_eq_true, ↓reduceIte, if_true, if_false, tm_up_n, tm_up_s, tm_up_i, ite_self, true_and, and_true, false_and, and_false, n_ofN, Nat.reduceAdd, Nat.reduceMul, Nat.reduceSub, Nat.zero_add, m_within, m_finding, m_areMarks, c0]) (by simp (disch := first | exact tm_inb_i (by omega) (by omega) | exact tm_cc rfl | exact tm_cat rfl | omega | exact nI_ne0 (by omega) (by omega) | exact nI_ne (by omega) (by omega) (by omega) | assumption) only [n_X12_earliest, e_al0, e_il1, r_X12_isMark, e_if_eq, e_il3, e_ic_ge, e_il2, e_iconst, r_X12_in, e_il4, e_il5, e_if_ne, e_gotow, r_X12_finding, e_iret, r_X12_findThere, e_is6i, e_is6r, e_is6u, e_is7i, e_is7r, e_is7u, e_il7, e_ic_gt, g_95_12, e_imul, e_iadd, e_il6, e_goto, e_ii7i, e_ii7r, e_ii7u, e_ic_ne, al_101, kn_0, kn_1, kn_2, kn_12, kn_13, kn_60, kn_2000, kn_1000000000, b_X12_earliest_53, b_X12_earliest_59, b_X12_earliest_113, b_X12_earliest_115, b_X12_earliest_123, b_X12_earliest_146, b_X12_earliest_166, b_X12_earliest_168, Option.bind_some, Option.toList_some, Option.toList_none, List.cons_append, List.nil_append, z_0, nI_add, pk_mul, pk_sub, pk_div, n_mod, nI_clamp, nI_leI, nI_ltI, nI_eq, le_T, le_F, lt_T, lt_F, eq_T, eq_F, n_i0, n_i1, eq_self, not_true_eq_false, not_false_eq_true, Bool.false_eq_true, ↓reduceIte, if_true, if_false, tm_up_n, tm_up_s, tm_up_i, ite_self, true_and, and_true, false_and, and_false, n_ofN, Nat.reduceAdd, Nat.reduceMul, Nat.reduceSub, Nat.zero_add, q_in, q_finding, q_isMark, k0])
  rcases rng a1 0 2000 (by decide) (by omega) with h | ⟨t, _, ht, rfl⟩
  · exact tm_fdp hI (by decide : 1 < 6) (by simp (disch := first | exact tm_inb_i (by omega) (by omega) | exact tm_cc rfl | exact tm_cat rfl | omega | exact nI_ne0 (by omega) (by omega) | exact nI_ne (by omega) (by omega) (by omega) | assumption) only [n_X11_earliest, e_al0, e_il1, e_il3, r_X11_areMarks, e_if_eq, e_il2, e_iconst, r_X11_within, e_il4, e_il5, e_if_ne, e_gotow, r_X11_finding, e_iret, g_0_0, g_1_0, g_35_0, r_X5_reach, r_X5_soonest, e_is6i, e_is6r, e_is6u, e_il6, e_ic_ne, e_goto, r_X5_waysFor, kn_0, kn_1, kn_2, kn_60, kn_2000, kn_1000000000, b_X11_earliest_41, b_X11_earliest_47, b_X11_earliest_88, b_X11_earliest_98, b_X11_earliest_111, Option.bind_some, Option.toList_some, Option.toList_none, List.cons_append, List.nil_append, z_0, nI_add, pk_mul, pk_sub, pk_div, n_mod, nI_clamp, nI_leI, nI_ltI, nI_eq, le_T, le_F, lt_T, lt_F, eq_T, eq_F, n_i0, n_i1, eq_self, not_true_eq_false, not_false_eq_true, Bool.false_eq_true, ↓reduceIte, if_true, if_false, tm_up_n, tm_up_s, tm_up_i, ite_self, true_and, and_true, false_and, and_false, n_ofN, Nat.reduceAdd, Nat.reduceMul, Nat.reduceSub, Nat.zero_add, m_within, m_finding, m_areMarks, c0, h]) (by simp (disch := first | exact tm_inb_i (by omega) (by omega) | exact tm_cc rfl | exact tm_cat rfl | omega | exact nI_ne0 (by omega) (by omega) | exact nI_ne (by omega) (by omega) (by omega) | assumption) only [n_X12_earliest, e_al0, e_il1, r_X12_isMark, e_if_eq, e_il3, e_ic_ge, e_il2, e_iconst, r_X12_in, e_il4, e_il5, e_if_ne, e_gotow, r_X12_finding, e_iret, r_X12_findThere, e_is6i, e_is6r, e_is6u, e_is7i, e_is7r, e_is7u, e_il7, e_ic_gt, g_95_12, e_imul, e_iadd, e_il6, e_goto, e_ii7i, e_ii7r, e_ii7u, e_ic_ne, al_101, kn_0, kn_1, kn_2, kn_12, kn_13, kn_60, kn_2000, kn_1000000000, b_X12_earliest_53, b_X12_earliest_59, b_X12_earliest_113, b_X12_earliest_115, b_X12_earliest_123, b_X12_earliest_146, b_X12_earliest_166, b_X12_earliest_168, Option.bind_some, Option.toList_some, Option.toList_none, List.cons_append, List.nil_append, z_0, nI_add, pk_mul, pk_sub, pk_div, n_mod, nI_clamp, nI_leI, nI_ltI, nI_eq, le_T, le_F, lt_T, lt_F, eq_T, eq_F, n_i0, n_i1, eq_self, not_true_eq_false, not_false_eq_true, Bool.false_eq_true, ↓reduceIte, if_true, if_false, tm_up_n, tm_up_s, tm_up_i, ite_self, true_and, and_true, false_and, and_false, n_ofN, Nat.reduceAdd, Nat.reduceMul, Nat.reduceSub, Nat.zero_add, q_in, q_finding, q_isMark, k0, h])
  rcases rng a3 0 60 (by decide) (by omega) with h | ⟨v, _, hv, rfl⟩
  · exact tm_fdp hI (by decide : 1 < 6) (by simp (disch := first | exact tm_inb_i (by omega) (by omega) | exact tm_cc rfl | exact tm_cat rfl | omega | exact nI_ne0 (by omega) (by omega) | exact nI_ne (by omega) (by omega) (by omega) | assumption) only [n_X11_earliest, e_al0, e_il1, e_il3, r_X11_areMarks, e_if_eq, e_il2, e_iconst, r_X11_within, e_il4, e_il5, e_if_ne, e_gotow, r_X11_finding, e_iret, g_0_0, g_1_0, g_35_0, r_X5_reach, r_X5_soonest, e_is6i, e_is6r, e_is6u, e_il6, e_ic_ne, e_goto, r_X5_waysFor, kn_0, kn_1, kn_2, kn_60, kn_2000, kn_1000000000, b_X11_earliest_41, b_X11_earliest_47, b_X11_earliest_88, b_X11_earliest_98, b_X11_earliest_111, Option.bind_some, Option.toList_some, Option.toList_none, List.cons_append, List.nil_append, z_0, nI_add, pk_mul, pk_sub, pk_div, n_mod, nI_clamp, nI_leI, nI_ltI, nI_eq, le_T, le_F, lt_T, lt_F, eq_T, eq_F, n_i0, n_i1, eq_self, not_true_eq_false, not_false_eq_true, Bool.false_eq_true, ↓reduceIte, if_true, if_false, tm_up_n, tm_up_s, tm_up_i, ite_self, true_and, and_true, false_and, and_false, n_ofN, Nat.reduceAdd, Nat.reduceMul, Nat.reduceSub, Nat.zero_add, m_within, m_finding, m_areMarks, c0, h]) (by simp (disch := first | exact tm_inb_i (by omega) (by omega) | exact tm_cc rfl | exact tm_cat rfl | omega | exact nI_ne0 (by omega) (by omega) | exact nI_ne (by omega) (by omega) (by omega) | assumption) only [n_X12_earliest, e_al0, e_il1, r_X12_isMark, e_if_eq, e_il3, e_ic_ge, e_il2, e_iconst, r_X12_in, e_il4, e_il5, e_if_ne, e_gotow, r_X12_finding, e_iret, r_X12_findThere, e_is6i, e_is6r, e_is6u, e_is7i, e_is7r, e_is7u, e_il7, e_ic_gt, g_95_12, e_imul, e_iadd, e_il6, e_goto, e_ii7i, e_ii7r, e_ii7u, e_ic_ne, al_101, kn_0, kn_1, kn_2, kn_12, kn_13, kn_60, kn_2000, kn_1000000000, b_X12_earliest_53, b_X12_earliest_59, b_X12_earliest_113, b_X12_earliest_115, b_X12_earliest_123, b_X12_earliest_146, b_X12_earliest_166, b_X12_earliest_168, Option.bind_some, Option.toList_some, Option.toList_none, List.cons_append, List.nil_append, z_0, nI_add, pk_mul, pk_sub, pk_div, n_mod, nI_clamp, nI_leI, nI_ltI, nI_eq, le_T, le_F, lt_T, lt_F, eq_T, eq_F, n_i0, n_i1, eq_self, not_true_eq_false, not_false_eq_true, Bool.false_eq_true, ↓reduceIte, if_true, if_false, tm_up_n, tm_up_s, tm_up_i, ite_self, true_and, and_true, false_and, and_false, n_ofN, Nat.reduceAdd, Nat.reduceMul, Nat.reduceSub, Nat.zero_add, q_in, q_finding, q_isMark, k0, h])
  rcases rng a4 0 1 (by decide) (by omega) with h | ⟨w, _, hw, rfl⟩
  · exact tm_fdp hI (by decide : 1 < 6) (by simp (disch := first | exact tm_inb_i (by omega) (by omega) | exact tm_cc rfl | exact tm_cat rfl | omega | exact nI_ne0 (by omega) (by omega) | exact nI_ne (by omega) (by omega) (by omega) | assumption) only [n_X11_earliest, e_al0, e_il1, e_il3, r_X11_areMarks, e_if_eq, e_il2, e_iconst, r_X11_within, e_il4, e_il5, e_if_ne, e_gotow, r_X11_finding, e_iret, g_0_0, g_1_0, g_35_0, r_X5_reach, r_X5_soonest, e_is6i, e_is6r, e_is6u, e_il6, e_ic_ne, e_goto, r_X5_waysFor, kn_0, kn_1, kn_2, kn_60, kn_2000, kn_1000000000, b_X11_earliest_41, b_X11_earliest_47, b_X11_earliest_88, b_X11_earliest_98, b_X11_earliest_111, Option.bind_some, Option.toList_some, Option.toList_none, List.cons_append, List.nil_append, z_0, nI_add, pk_mul, pk_sub, pk_div, n_mod, nI_clamp, nI_leI, nI_ltI, nI_eq, le_T, le_F, lt_T, lt_F, eq_T, eq_F, n_i0, n_i1, eq_self, not_true_eq_false, not_false_eq_true, Bool.false_eq_true, ↓reduceIte, if_true, if_false, tm_up_n, tm_up_s, tm_up_i, ite_self, true_and, and_true, false_and, and_false, n_ofN, Nat.reduceAdd, Nat.reduceMul, Nat.reduceSub, Nat.zero_add, m_within, m_finding, m_areMarks, c0, h]) (by simp (disch := first | exact tm_inb_i (by omega) (by omega) | exact tm_cc rfl | exact tm_cat rfl | omega | exact nI_ne0 (by omega) (by omega) | exact nI_ne (by omega) (by omega) (by omega) | assumption) only [n_X12_earliest, e_al0, e_il1, r_X12_isMark, e_if_eq, e_il3, e_ic_ge, e_il2, e_iconst, r_X12_in, e_il4, e_il5, e_if_ne, e_gotow, r_X12_finding, e_iret, r_X12_findThere, e_is6i, e_is6r, e_is6u, e_is7i, e_is7r, e_is7u, e_il7, e_ic_gt, g_95_12, e_imul, e_iadd, e_il6, e_goto, e_ii7i, e_ii7r, e_ii7u, e_ic_ne, al_101, kn_0, kn_1, kn_2, kn_12, kn_13, kn_60, kn_2000, kn_1000000000, b_X12_earliest_53, b_X12_earliest_59, b_X12_earliest_113, b_X12_earliest_115, b_X12_earliest_123, b_X12_earliest_146, b_X12_earliest_166, b_X12_earliest_168, Option.bind_some, Option.toList_some, Option.toList_none, List.cons_append, List.nil_append, z_0, nI_add, pk_mul, pk_sub, pk_div, n_mod, nI_clamp, nI_leI, nI_ltI, nI_eq, le_T, le_F, lt_T, lt_F, eq_T, eq_F, n_i0, n_i1, eq_self, not_true_eq_false, not_false_eq_true, Bool.false_eq_true, ↓reduceIte, if_true, if_false, tm_up_n, tm_up_s, tm_up_i, ite_self, true_and, and_true, false_and, and_false, n_ofN, Nat.reduceAdd, Nat.reduceMul, Nat.reduceSub, Nat.zero_add, q_in, q_finding, q_isMark, k0, h])
  have hWM := tm_I_hW hI
  generalize hf : gM ixc (M 96) W 24 W v (W + 1) (n - fr) fr (f0c (M 10) fr t) = f
  have e1 := m_reach (d := 995) (l := l) (x := x) kW k02 k32 hv hfr (by omega : t ≤ 100000) hWM c3 c0
  rw [hf] at e1
  have c3' : tm_uc M 10 f 2 3 = nI W := by rw [tm_uc_ne _ _ (by decide)]; exact c3
  have e2 := m_soonest (d := 998) (l := l) (x := x) k32 c3' (to := to) (lo := 0) (by omega) (by omega)
  have e3 := fun s => m_waysFor (d := 998) (l := l) (x := x) k32 c3' (to := to) (s := s) (by omega)
  rw [tm_uc_at] at e2 e3
  have hst : ∀ (M1 : tm_M), M1 96 = M 96 → ∃ g, tm_call 998 184 [.ref 95, .int (nI fr), .int (nI t), .int (nI to), .int (nI v)] (tm_GG l x) M1 = some (none, tm_GG l x, tm_uc M1 101 g) ∧ okR W (fun k => g (ixr k to)) ∧ ∀ k, k ≤ 12 → f (ixc k to) = g (ixr k to) := by
    intro M1 h1
    refine ⟨_, q_findThere (d := 996) kW k02 k32 hv (by omega) (by omega) (by omega) k3 h1, okR_of (by omega) (gM_ok inj_r kW k02 (by decide) hv (by decide) (to - fr) fr _ (by omega) (okT_0r (by omega) (by omega))), fun k hk => ?_⟩
    rw [← hf]
    exact reach_sam kW k02 k32 hv hto (by omega) (by omega) _ _ k to hk (Nat.le_refl _)
  have smE : ∀ {g : Nat → Int32}, (∀ k, k ≤ 12 → f (ixc k to) = g (ixr k to)) → ∀ c b s, b + c ≤ 13 → smn (fun k => f (ixc k to)) c b s = smn (fun k => g (ixr k to)) c b s := by
    intro g hg c
    induction c with
    | zero => intro b s _; rfl
    | succ c ih => intro b s h; unfold smn; rw [hg b (by omega)]; exact ih (b + 1) _ (by omega)
  have wfE : ∀ {g : Nat → Int32}, (∀ k, k ≤ 12 → f (ixc k to) = g (ixr k to)) → ∀ s c b, b + c ≤ 13 → wfr (fun k => f (ixc k to)) s c b = wfr (fun k => g (ixr k to)) s c b := by
    intro g hg s c
    induction c with
    | zero => intro b _; rfl
    | succ c ih => intro b h; unfold wfr; rw [hg b (by omega), ih (b + 1) (by omega)]
  have fr10 : ∀ {M1 : tm_M} {f : Nat → Int32}, tm_fr M1 (tm_uc M1 10 f) := fun {M1 f} => ⟨fun c hc => tm_uc_ne _ _ (fun z => hc (by rw [z]; decide)), rfl, rfl, rfl, rfl⟩
  have fr101 : ∀ {M1 : tm_M} {f : Nat → Int32}, tm_fr M1 (tm_uc M1 101 f) := fun {M1 f} => ⟨fun c hc => tm_uc_ne _ _ (fun z => hc (by rw [z]; decide)), rfl, rfl, rfl, rfl⟩
  obtain ⟨g, g1, g2, g3⟩ := hst (tm_uc M 10 f) (tm_uc_ne _ _ (by decide))
  have hm := least_eq k32 g2
  have bs := bst_spec (fun k => g (ixr k to)) 12 1 0 (by omega) (fun j hj => by rw [show j = 0 by omega]; exact Int32.lt_irrefl) (fun j hj => by omega)
  have hb12 : bst (fun k => g (ixr k to)) 12 1 0 ≤ 12 := by omega
  have hbx : 13 * to + bst (fun k => g (ixr k to)) 12 1 0 < 325 := by omega
  rw [Nat.sub_zero, smE g3 (W + 1) 0 LG (by omega), hm] at e2
  have e3' := e3 (g (ixr (bst (fun k => g (ixr k to)) 12 1 0) to))
  rw [wfE g3 _ W 0 (by omega)] at e3'
  by_cases hl : g (ixr (bst (fun k => g (ixr k to)) 12 1 0) to) = LG
  · -- no way there
    have mC : tm_call 999 102 [.ref 0, .int (nI fr), .int (nI t), .int (nI to), .int (nI v), .int (nI w)] (tm_GG l x) M = some (some (.int (-1000000 - nI 2)), tm_GG l x, tm_up (tm_uc M 10 f) 94 2 (M 94 2 + nI 1)) := by
      simp (disch := first | exact tm_inb_i (by omega) (by omega) | exact tm_cc rfl | exact tm_cat rfl | omega | exact nI_ne0 (by omega) (by omega) | exact nI_ne (by omega) (by omega) (by omega) | assumption) only [n_X11_earliest, e_al0, e_il1, e_il3, r_X11_areMarks, e_if_eq, e_il2, e_iconst, r_X11_within, e_il4, e_il5, e_if_ne, e_gotow, r_X11_finding, e_iret, g_0_0, g_1_0, g_35_0, r_X5_reach, r_X5_soonest, e_is6i, e_is6r, e_is6u, e_il6, e_ic_ne, e_goto, r_X5_waysFor, kn_0, kn_1, kn_2, kn_60, kn_2000, kn_1000000000, b_X11_earliest_41, b_X11_earliest_47, b_X11_earliest_88, b_X11_earliest_98, b_X11_earliest_111, Option.bind_some, Option.toList_some, Option.toList_none, List.cons_append, List.nil_append, z_0, nI_add, pk_mul, pk_sub, pk_div, n_mod, nI_clamp, nI_leI, nI_ltI, nI_eq, le_T, le_F, lt_T, lt_F, eq_T, eq_F, n_i0, n_i1, eq_self, not_true_eq_false, not_false_eq_true, Bool.false_eq_true, ↓reduceIte, if_true, if_false, tm_up_n, tm_up_s, tm_up_i, ite_self, true_and, and_true, false_and, and_false, n_ofN, Nat.reduceAdd, Nat.reduceMul, Nat.reduceSub, Nat.zero_add, kn_LG, m_within, m_areMarks, c0, e1, e2, hl, m_finding, tm_uc_ne]
    obtain ⟨g', g1', g2', g3'⟩ := hst (tm_up (tm_uc M 10 f) 94 2 (M 94 2 + nI 1)) (by rw [tm_up_n (by decide), tm_uc_ne _ _ (by decide)])
    have eg : ∀ k, k ≤ 12 → g' (ixr k to) = g (ixr k to) := fun k hk => (g3' k hk).symm.trans (g3 k hk)
    have bE : ∀ c k b, k + c ≤ 13 → b ≤ 12 → bst (fun k => g' (ixr k to)) c k b = bst (fun k => g (ixr k to)) c k b := by
      intro c
      induction c with
      | zero => intro k b _ _; rfl
      | succ c ih =>
        intro k b h hb
        unfold bst
        rw [eg k (by omega), eg b hb]
        exact ih (k + 1) _ (by omega) (by split <;> omega)
    have qB := q_bs (d := 999) (l := l) (x := x) (M := tm_uc (tm_up (tm_uc M 10 f) 94 2 (M 94 2 + nI 1)) 101 g') (to := to) (w := w) (a1 := nI fr) (a2 := nI t) (a4 := nI v) (by omega) 12 1 0 (by omega) (by omega)
    rw [tm_uc_at, bE 12 1 0 (by omega) (by omega)] at qB
    have hl' : g' (13 * to + bst (fun k => g (ixr k to)) 12 1 0) = LG := (eg _ hb12).trans hl
    have mR : tm_call 999 185 [.ref 95, .int (nI fr), .int (nI t), .int (nI to), .int (nI v), .int (nI w)] (tm_GG l x) (tm_up (tm_uc M 10 f) 94 2 (M 94 2 + nI 1)) = some (some (.int (-1000000 - nI 2)), tm_GG l x, tm_up (tm_uc (tm_up (tm_uc M 10 f) 94 2 (M 94 2 + nI 1)) 101 g') 98 2 (M 98 2 + nI 1)) := by
      simp (disch := first | exact tm_inb_i (by omega) (by omega) | exact tm_cc rfl | exact tm_cat rfl | omega | exact nI_ne0 (by omega) (by omega) | exact nI_ne (by omega) (by omega) (by omega) | assumption) only [n_X12_earliest, e_al0, e_il1, r_X12_isMark, e_if_eq, e_il3, e_ic_ge, e_il2, e_iconst, r_X12_in, e_il4, e_il5, e_if_ne, e_gotow, r_X12_finding, e_iret, r_X12_findThere, e_is6i, e_is6r, e_is6u, e_is7i, e_is7r, e_is7u, e_il7, e_ic_gt, g_95_12, e_imul, e_iadd, e_il6, e_goto, e_ii7i, e_ii7r, e_ii7u, e_ic_ne, al_101, kn_0, kn_1, kn_2, kn_12, kn_13, kn_60, kn_2000, kn_1000000000, b_X12_earliest_53, b_X12_earliest_59, b_X12_earliest_113, b_X12_earliest_115, b_X12_earliest_123, b_X12_earliest_146, b_X12_earliest_166, b_X12_earliest_168, Option.bind_some, Option.toList_some, Option.toList_none, List.cons_append, List.nil_append, z_0, nI_add, pk_mul, pk_sub, pk_div, n_mod, nI_clamp, nI_leI, nI_ltI, nI_eq, le_T, le_F, lt_T, lt_F, eq_T, eq_F, n_i0, n_i1, eq_self, not_true_eq_false, not_false_eq_true, Bool.false_eq_true, ↓reduceIte, if_true, if_false, tm_up_n, tm_up_s, tm_up_i, ite_self, true_and, and_true, false_and, and_false, n_ofN, Nat.reduceAdd, Nat.reduceMul, Nat.reduceSub, Nat.zero_add, kn_LG, q_in, q_isMark, k0, tm_uc_ne, g1', qB, tm_uc_at, hl', q_finding]
    exact ⟨_, _, _, mC, mR, tm_I_fdx hI (by decide) fr10 fr101⟩
  · have mC : tm_call 999 102 [.ref 0, .int (nI fr), .int (nI t), .int (nI to), .int (nI v), .int (nI w)] (tm_GG l x) M = some (some (.int (if w = 0 then g (ixr (bst (fun k => g (ixr k to)) 12 1 0) to) else nI (bst (fun k => g (ixr k to)) 12 1 0))), tm_GG l x, tm_uc M 10 f) := by
      rw [ways_eq k32 g2 hl] at e3'
      by_cases hw0 : w = 0
      · simp (disch := first | exact tm_inb_i (by omega) (by omega) | exact tm_cc rfl | exact tm_cat rfl | omega | exact nI_ne0 (by omega) (by omega) | exact nI_ne (by omega) (by omega) (by omega) | assumption) only [n_X11_earliest, e_al0, e_il1, e_il3, r_X11_areMarks, e_if_eq, e_il2, e_iconst, r_X11_within, e_il4, e_il5, e_if_ne, e_gotow, r_X11_finding, e_iret, g_0_0, g_1_0, g_35_0, r_X5_reach, r_X5_soonest, e_is6i, e_is6r, e_is6u, e_il6, e_ic_ne, e_goto, r_X5_waysFor, kn_0, kn_1, kn_2, kn_60, kn_2000, kn_1000000000, b_X11_earliest_41, b_X11_earliest_47, b_X11_earliest_88, b_X11_earliest_98, b_X11_earliest_111, Option.bind_some, Option.toList_some, Option.toList_none, List.cons_append, List.nil_append, z_0, nI_add, pk_mul, pk_sub, pk_div, n_mod, nI_clamp, nI_leI, nI_ltI, nI_eq, le_T, le_F, lt_T, lt_F, eq_T, eq_F, n_i0, n_i1, eq_self, not_true_eq_false, not_false_eq_true, Bool.false_eq_true, ↓reduceIte, if_true, if_false, tm_up_n, tm_up_s, tm_up_i, ite_self, true_and, and_true, false_and, and_false, n_ofN, Nat.reduceAdd, Nat.reduceMul, Nat.reduceSub, Nat.zero_add, kn_LG, m_within, m_areMarks, c0, e1, e2, hl]
      · simp (disch := first | exact tm_inb_i (by omega) (by omega) | exact tm_cc rfl | exact tm_cat rfl | omega | exact nI_ne0 (by omega) (by omega) | exact nI_ne (by omega) (by omega) (by omega) | assumption) only [n_X11_earliest, e_al0, e_il1, e_il3, r_X11_areMarks, e_if_eq, e_il2, e_iconst, r_X11_within, e_il4, e_il5, e_if_ne, e_gotow, r_X11_finding, e_iret, g_0_0, g_1_0, g_35_0, r_X5_reach, r_X5_soonest, e_is6i, e_is6r, e_is6u, e_il6, e_ic_ne, e_goto, r_X5_waysFor, kn_0, kn_1, kn_2, kn_60, kn_2000, kn_1000000000, b_X11_earliest_41, b_X11_earliest_47, b_X11_earliest_88, b_X11_earliest_98, b_X11_earliest_111, Option.bind_some, Option.toList_some, Option.toList_none, List.cons_append, List.nil_append, z_0, nI_add, pk_mul, pk_sub, pk_div, n_mod, nI_clamp, nI_leI, nI_ltI, nI_eq, le_T, le_F, lt_T, lt_F, eq_T, eq_F, n_i0, n_i1, eq_self, not_true_eq_false, not_false_eq_true, Bool.false_eq_true, ↓reduceIte, if_true, if_false, tm_up_n, tm_up_s, tm_up_i, ite_self, true_and, and_true, false_and, and_false, n_ofN, Nat.reduceAdd, Nat.reduceMul, Nat.reduceSub, Nat.zero_add, kn_LG, m_within, m_areMarks, c0, e1, e2, e3', hl]
    have qB := q_bs (d := 999) (l := l) (x := x) (M := tm_uc (tm_uc M 10 f) 101 g) (to := to) (w := w) (a1 := nI fr) (a2 := nI t) (a4 := nI v) (by omega) 12 1 0 (by omega) (by omega)
    rw [tm_uc_at] at qB
    have hl' : ¬ g (13 * to + bst (fun k => g (ixr k to)) 12 1 0) = LG := hl
    have mR : tm_call 999 185 [.ref 95, .int (nI fr), .int (nI t), .int (nI to), .int (nI v), .int (nI w)] (tm_GG l x) (tm_uc M 10 f) = some (some (.int (if w = 0 then g (ixr (bst (fun k => g (ixr k to)) 12 1 0) to) else nI (bst (fun k => g (ixr k to)) 12 1 0))), tm_GG l x, tm_uc (tm_uc M 10 f) 101 g) := by
      have e0 : g (ixr (bst (fun k => g (ixr k to)) 12 1 0) to) = g (13 * to + bst (fun k => g (ixr k to)) 12 1 0) := rfl
      rw [e0]
      by_cases hw0 : w = 0
      · simp (disch := first | exact tm_inb_i (by omega) (by omega) | exact tm_cc rfl | exact tm_cat rfl | omega | exact nI_ne0 (by omega) (by omega) | exact nI_ne (by omega) (by omega) (by omega) | assumption) only [n_X12_earliest, e_al0, e_il1, r_X12_isMark, e_if_eq, e_il3, e_ic_ge, e_il2, e_iconst, r_X12_in, e_il4, e_il5, e_if_ne, e_gotow, r_X12_finding, e_iret, r_X12_findThere, e_is6i, e_is6r, e_is6u, e_is7i, e_is7r, e_is7u, e_il7, e_ic_gt, g_95_12, e_imul, e_iadd, e_il6, e_goto, e_ii7i, e_ii7r, e_ii7u, e_ic_ne, al_101, kn_0, kn_1, kn_2, kn_12, kn_13, kn_60, kn_2000, kn_1000000000, b_X12_earliest_53, b_X12_earliest_59, b_X12_earliest_113, b_X12_earliest_115, b_X12_earliest_123, b_X12_earliest_146, b_X12_earliest_166, b_X12_earliest_168, Option.bind_some, Option.toList_some, Option.toList_none, List.cons_append, List.nil_append, z_0, nI_add, pk_mul, pk_sub, pk_div, n_mod, nI_clamp, nI_leI, nI_ltI, nI_eq, le_T, le_F, lt_T, lt_F, eq_T, eq_F, n_i0, n_i1, eq_self, not_true_eq_false, not_false_eq_true, Bool.false_eq_true, ↓reduceIte, if_true, if_false, tm_up_n, tm_up_s, tm_up_i, ite_self, true_and, and_true, false_and, and_false, n_ofN, Nat.reduceAdd, Nat.reduceMul, Nat.reduceSub, Nat.zero_add, kn_LG, q_in, q_isMark, k0, tm_uc_ne, g1, qB, tm_uc_at, hl']
      · simp (disch := first | exact tm_inb_i (by omega) (by omega) | exact tm_cc rfl | exact tm_cat rfl | omega | exact nI_ne0 (by omega) (by omega) | exact nI_ne (by omega) (by omega) (by omega) | assumption) only [n_X12_earliest, e_al0, e_il1, r_X12_isMark, e_if_eq, e_il3, e_ic_ge, e_il2, e_iconst, r_X12_in, e_il4, e_il5, e_if_ne, e_gotow, r_X12_finding, e_iret, r_X12_findThere, e_is6i, e_is6r, e_is6u, e_is7i, e_is7r, e_is7u, e_il7, e_ic_gt, g_95_12, e_imul, e_iadd, e_il6, e_goto, e_ii7i, e_ii7r, e_ii7u, e_ic_ne, al_101, kn_0, kn_1, kn_2, kn_12, kn_13, kn_60, kn_2000, kn_1000000000, b_X12_earliest_53, b_X12_earliest_59, b_X12_earliest_113, b_X12_earliest_115, b_X12_earliest_123, b_X12_earliest_146, b_X12_earliest_166, b_X12_earliest_168, Option.bind_some, Option.toList_some, Option.toList_none, List.cons_append, List.nil_append, z_0, nI_add, pk_mul, pk_sub, pk_div, n_mod, nI_clamp, nI_leI, nI_ltI, nI_eq, le_T, le_F, lt_T, lt_F, eq_T, eq_F, n_i0, n_i1, eq_self, not_true_eq_false, not_false_eq_true, Bool.false_eq_true, ↓reduceIte, if_true, if_false, tm_up_n, tm_up_s, tm_up_i, ite_self, true_and, and_true, false_and, and_false, n_ofN, Nat.reduceAdd, Nat.reduceMul, Nat.reduceSub, Nat.zero_add, kn_LG, q_in, q_isMark, k0, tm_uc_ne, g1, qB, tm_uc_at, hl']
    exact ⟨_, _, _, mC, mR, tm_I_fr hI (tm_fr_trans fr10 fr101)⟩
end TME
