/-! part 17: trial -/
section TMT
variable {d l : Nat} {G : tm_G} {M : tm_M} {x : Nat → Int32}
theorem m_within {v lo hi : Int32} : tm_call d 140 [.int v, .int lo, .int hi] G M = some (some (.int (if ¬ v < lo ∧ ¬ hi < v then 1 else 0)), G, M) := by
  simp only [n_X11_within, e_il0, e_il1, e_ic_lt, e_il2, e_ic_gt, e_iconst, e_goto, e_gotow, e_zret0, e_zret1, e_zretb, k_0, k_1, b_X11_within_14, b_X11_within_15, Option.bind_some, Option.toList_some, Option.toList_none, List.cons_append, List.nil_append, List.map_cons, List.map_nil, List.sum_cons, List.sum_nil, Value.category, Nat.reduceAdd, Nat.reduceLeDiff, Nat.reduceMul]
  by_cases h1 : v < lo
  · simp [h1]
  · by_cases h2 : hi < v <;> simp [h1, h2]
theorem m_isPiece {v : Int32} : tm_call (d + 1) 141 [.ref 0, .int v] (tm_GG l x) M = some (some (.int (if ¬ v < 0 ∧ ¬ M 2 0 - 1 < v then 1 else 0)), tm_GG l x, M) := by
  simp only [n_X11_isPiece, m_within, e_il1, e_iconst, e_al0, g_0_0, g_1_0, g_35_0, g_2_0, g_36_0, e_isub, r_X11_within, e_zret0, e_zret1, e_zretb, k_0, k_1, Option.bind_some, Option.toList_some, Option.toList_none, List.cons_append, List.nil_append, List.map_cons, List.map_nil, List.sum_cons, List.sum_nil, Value.category, Nat.reduceAdd, Nat.reduceLeDiff, Nat.reduceMul]
theorem m_finding {v : Int32} (h : tm_inb v 6 = true) : tm_call d 139 [.ref 0, .int v] (tm_GG l x) M = some (some (.int (-1000000 - v)), tm_GG l x, tm_up M 94 v.toNatClampNeg (M 94 v.toNatClampNeg + 1)) := by
  simp only [n_X11_finding, h, e_al0, g_0_7, e_il1, e_dup2, e_dup2i, e_iconst, e_iadd, e_isub, e_iret, al_94, as_94, k_m1000000, k_1, Option.bind_some, Option.toList_some, Option.toList_none, List.cons_append, List.nil_append, List.map_cons, List.map_nil, List.sum_cons, List.sum_nil, Value.category, Nat.reduceAdd, Nat.reduceLeDiff, Nat.reduceMul]
theorem m_climb {v w : Int32} (h : ¬ v < 0 ∧ ¬ M 2 0 - 1 < v → tm_inb v 24 = true) : tm_call (d + 2) 97 [.ref 0, .int v, .int w] (tm_GG l x) M = some (if (¬ v < 0 ∧ ¬ M 2 0 - 1 < v) ∧ (¬ w < -4 ∧ ¬ 9 < w) then (some (.int (M 3 v.toNatClampNeg)), tm_GG l x, tm_up M 3 v.toNatClampNeg w) else (some (.int (-1000001)), tm_GG l x, tm_up M 94 1 (M 94 1 + 1))) := by
  simp only [n_X11_climb, m_within, m_isPiece, e_al0, e_il1, r_X11_isPiece, c_0, e_if_eq, e_il2, e_iconst, r_X11_within, e_if_ne, e_gotow, r_X11_finding, e_iret, g_0_0, g_1_0, g_35_0, g_2_4, g_36_4, e_is3i, e_is3r, e_is3u, e_il3, al_3, as_3, al_37, as_37, k_m4, k_1, k_9, b_X11_climb_19, b_X11_climb_25, Option.bind_some, Option.toList_some, Option.toList_none, List.cons_append, List.nil_append, List.map_cons, List.map_nil, List.sum_cons, List.sum_nil, Value.category, Nat.reduceAdd, Nat.reduceLeDiff, Nat.reduceMul]
  exact rfl
end TMT
