/-! part 78: a text is taken -/
section TTX
variable {b b' : Nat → Int32} {z : Nat}
theorem cw_lo : ∀ (cs : List Int32) (c : Nat → Int32) (e i : Nat), i < e → cw c e cs i = c i := by
  intro cs
  induction cs with
  | nil => intro c e i _; rfl
  | cons a as ih => intro c e i h; rw [cw, ih _ _ _ (by omega), upd_n (by omega)]
theorem cw_at : ∀ (cs : List Int32) (c : Nat → Int32) (e i : Nat), i < cs.length → cw c e cs (e + i) = cs.getD i 0 := by
  intro cs
  induction cs with
  | nil => intro c e i h; exact absurd h (Nat.not_lt_zero _)
  | cons a as ih =>
    intro c e i h
    rw [cw]
    cases i with
    | zero => exact (cw_lo as (upd c e a) (e + 1) e (Nat.lt_succ_self e)).trans upd_s
    | succ i =>
      rw [show e + (i + 1) = (e + 1) + i by omega, ih _ _ _ (by simpa using h)]
      rfl
theorem tm_W_T {M M' : tm_M} {D D' : Nat → Int32} {u : Nat} (hu : u < 2) (hW : tm_W M 0 D) (hM : ∀ c, c ≤ 34 → c ≠ 27 + 3 * u → c ≠ 28 + 3 * u → M' c = M c) (hD : ∀ q, q < 1258 → q ≠ 1076 + u → ¬ (1078 + 60 * u ≤ q ∧ q < 1138 + 60 * u) → D' q = D q) (hT : tm_wT M' 0 D' u) : tm_W M' 0 D' := by
  obtain ⟨hA, hB, hO, hH, hE, hT0, hT1, hN⟩ := hW
  have hm : ∀ c, c < 27 ∨ 32 < c → c ≤ 34 → M' (c + 0) = M (c + 0) := fun c a b => hM c b (by omega) (by omega)
  refine ⟨fun c i q hq => ?_, ?_, ?_, ?_, ?_, ?_, ?_, ?_⟩
  · obtain ⟨z1, z2, z3, z4⟩ := tm_phq hq
    have hc : c < 27 ∨ 32 < c := by
      rcases (by omega : c < 27 ∨ 32 < c ∨ c = 27 ∨ c = 28 ∨ c = 29 ∨ c = 30 ∨ c = 31 ∨ c = 32) with h | h | h | h | h | h | h | h
      · exact Or.inl h
      · exact Or.inr h
      all_goals (subst h; cases hq)
    have hc4 : c ≤ 34 := by
      rcases (by omega : c ≤ 34 ∨ 34 < c) with h | h
      · exact h
      · exfalso
        unfold tm_ph at hq
        split at hq <;> first | omega | cases hq
    rw [hD q (by omega) (by omega) (by omega), hm c hc hc4]
    exact hA _ _ _ hq
  · unfold tm_wB
    rw [hm 2 (by omega) (by omega)]
    obtain ⟨b, b1, b2, b3⟩ := hB
    exact ⟨b, b1, b2, fun m hm => by rw [hD _ (by omega) (by omega) (by omega)]; exact b3 m hm⟩
  · unfold tm_wO
    rw [hm 1 (by omega) (by omega)]
    obtain ⟨b, b1, b2, b3⟩ := hO
    exact ⟨b, b1, b2, fun m hm => by rw [hD _ (by omega) (by omega) (by omega)]; exact b3 m hm⟩
  · unfold tm_wH
    rw [hm 18 (by omega) (by omega)]
    intro j hj
    rw [hD _ (by omega) (by omega) (by omega), hD _ (by omega) (by omega) (by omega)]
    exact hH j hj
  · intro j hj
    rw [hD _ (by omega) (by omega) (by omega), hm 33 (by omega) (by omega)]
    exact hE j hj
  · rcases (by omega : u = 0 ∨ u = 1) with rfl | rfl
    · exact hT
    · exact tm_wT_D (hD _ (by omega) (by omega) (by omega)) (fun k hk => hD _ (by omega) (by omega) (by omega)) (tm_wT_cg (hM _ (by omega) (by omega) (by omega)) (hM _ (by omega) (by omega) (by omega)) hT0)
  · rcases (by omega : u = 0 ∨ u = 1) with rfl | rfl
    · exact tm_wT_D (hD _ (by omega) (by omega) (by omega)) (fun k hk => hD _ (by omega) (by omega) (by omega)) (tm_wT_cg (hM _ (by omega) (by omega) (by omega)) (hM _ (by omega) (by omega) (by omega)) hT1)
    · exact hT
  · obtain ⟨n, n1, n2, n3⟩ := hN
    exact ⟨n, by rw [hD _ (by omega) (by omega) (by omega)]; exact n1, n2, fun m a b => by rw [hD _ (by omega) (by omega) (by omega)]; exact n3 m a b⟩
/-- the reference keeps the bytes -/
theorem q_tx {d l u : Nat} {x : Nat → Int32} {g : Nat → Int32} {v3 : Int32} (hu : u < 2) (hz : z ≤ 60) : ∀ (c j : Nat) (M : tm_M), j + c = z → (∀ k, k < z → M 96 (1198 + k) = g k) → tm_ev d (tm_blk (Int.toNat 2110069)) [.ref 95, .int (nI u), .int (nI z), .int v3, .int (nI j)] [] (tm_GG l x) M = some (some (.int (nI 1)), tm_GG l x, tm_uc M 96 (tm_tp g (1078 + 60 * u) j z (M 96))) := by
  intro c
  induction c with
  | zero =>
    intro j M h e
    obtain rfl : j = z := by omega
    rw [b_X12_text_69, tm_uc_same _ _ _ (by rw [tm_tp_e])]
    simp (disch := first | exact tm_inb_i (by omega) (by omega) | exact tm_cc rfl | exact tm_cat rfl | omega | exact nI_ne0 (by omega) (by omega) | exact nI_ne (by omega) (by omega) (by omega) | exact tm_cS (by omega) | assumption) only [e_il1, e_iconst, r_X12_in, e_if_ne, e_al0, r_X12_finding, e_iret, g_95_0, e_is2i, e_is2r, e_is2u, e_il2, r_X12_reads, e_is3i, e_is3r, e_is3u, g_95_9, e_if_eq, g_95_7, e_isub, e_iadd, e_is4i, e_is4r, e_is4u, e_gotow, e_il4, e_ic_ge, e_imul, e_ii4i, e_ii4r, e_ii4u, e_goto, al_96, as_96, k_m10, kn_0, kn_1, kn_6, kn_60, kn_1076, kn_1078, kn_1198, b_X12_text_15, b_X12_text_55, b_X12_text_108, Option.bind_some, Option.toList_some, Option.toList_none, List.cons_append, List.nil_append, z_0, nI_add, pk_mul, pk_sub, pk_div, n_mod, nI_clamp, nI_leI, nI_ltI, nI_eq, le_T, le_F, lt_T, lt_F, eq_T, eq_F, n_i0, n_i1, eq_self, not_true_eq_false, not_false_eq_true, Bool.false_eq_true, ↓reduceIte, if_true, if_false, tm_up_n, tm_up_s, tm_up_i, ite_self, true_and, and_true, false_and, and_false, n_ofN, Nat.reduceAdd, Nat.reduceMul, Nat.reduceSub, Nat.zero_add]
  | succ c ih =>
    intro j M h e
    have hj : j < z := by omega
    have ej := e j hj
    rw [b_X12_text_69]
    simp (disch := first | exact tm_inb_i (by omega) (by omega) | exact tm_cc rfl | exact tm_cat rfl | omega | exact nI_ne0 (by omega) (by omega) | exact nI_ne (by omega) (by omega) (by omega) | exact tm_cS (by omega) | assumption) only [e_il1, e_iconst, r_X12_in, e_if_ne, e_al0, r_X12_finding, e_iret, g_95_0, e_is2i, e_is2r, e_is2u, e_il2, r_X12_reads, e_is3i, e_is3r, e_is3u, g_95_9, e_if_eq, g_95_7, e_isub, e_iadd, e_is4i, e_is4r, e_is4u, e_gotow, e_il4, e_ic_ge, e_imul, e_ii4i, e_ii4r, e_ii4u, e_goto, al_96, as_96, k_m10, kn_0, kn_1, kn_6, kn_60, kn_1076, kn_1078, kn_1198, b_X12_text_15, b_X12_text_55, b_X12_text_108, Option.bind_some, Option.toList_some, Option.toList_none, List.cons_append, List.nil_append, z_0, nI_add, pk_mul, pk_sub, pk_div, n_mod, nI_clamp, nI_leI, nI_ltI, nI_eq, le_T, le_F, lt_T, lt_F, eq_T, eq_F, n_i0, n_i1, eq_self, not_true_eq_false, not_false_eq_true, Bool.false_eq_true, ↓reduceIte, if_true, if_false, tm_up_n, tm_up_s, tm_up_i, ite_self, true_and, and_true, false_and, and_false, n_ofN, Nat.reduceAdd, Nat.reduceMul, Nat.reduceSub, Nat.zero_add, ej]
    rw [ih (j + 1) _ (by omega) (fun k hk => by rw [tm_up_i (by omega)]; exact e k hk)]
    simp only [tm_up_uc, tm_uc_uc, tm_uc_at]
    rw [tm_tp_s hj]
end TTX
