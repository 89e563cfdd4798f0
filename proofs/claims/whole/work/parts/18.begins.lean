/-! part 18: the reference's begins(n), as its constructor and road() call it -/
theorem nI_lit {a : Int32} (n : Nat) (h : a = nI n) (j : Nat) : a + nI j = nI (n + j) := by rw [h, nI_add]
def tm_mt9 (v : Int32) (j : Nat) (f : Nat → Int32) : Nat → Int32 := fun i => if 34 + j ≤ i ∧ i < 59 then (if i = 34 ∨ nI (i - 34) = v then 1 else 0) else f i
theorem tm_fil_step {v : Int32} {j n : Nat} {f : Nat → Int32} (h : j < n) : tm_fil v (j + 1) n (upd f j v) = tm_fil v j n f := by
  funext i
  unfold tm_fil upd
  by_cases h2 : i = j
  · subst h2
    rw [if_neg (by omega), if_pos rfl, if_pos (by omega)]
  · by_cases h3 : j ≤ i ∧ i < n
    · rw [if_pos (by omega), if_pos h3]
    · rw [if_neg (by omega), if_neg h2, if_neg h3]
theorem tm_fil_end {v : Int32} {n : Nat} {f : Nat → Int32} : tm_fil v n n f = f := by
  funext i
  unfold tm_fil
  rw [if_neg (by omega)]
theorem tm_uc_up (M : tm_M) (k j : Nat) (v : Int32) (g : Nat → Int32) : tm_uc (tm_up M k j v) k g = tm_uc M k g := tm_uc_uc M k _ g
section TMBG
variable {d l : Nat} {x : Nat → Int32} {v : Int32}
theorem bg1 : ∀ (c j : Nat) (M : tm_M), j + c = 24 → tm_ev d (tm_blk (Int.toNat 1560023)) [.ref 95, .int v, .int (nI j)] [] (tm_GG l x) M = tm_ev d (tm_blk (Int.toNat 1560045)) [.ref 95, .int v, .int (nI 24)] [] (tm_GG l x) (tm_uc M 96 (tm_fil 0 (10 + j) 34 (M 96))) := by
  have k24 : (24 : Int32) = nI 24 := by decide +kernel
  intro c
  induction c with
  | zero =>
    intro j M h
    obtain rfl : j = 24 := by omega
    rw [b_X12_begins_23]
    simp only [e_al0, g_95_0, e_iconst, e_il1, e_is2i, e_is2r, e_is2u, e_gotow, e_il2, e_ic_ge, e_iadd, e_ii2i, e_ii2r, e_ii2u, e_goto, e_ic_gt, e_if_eq, e_ic_ne, e_vret, as_96, k_m1, k_0, k_1, k_3, k_5, k_10, k_12, k_24, k_34, k_300, k_368, k_668, b_X12_begins_47, b_X12_begins_70, b_X12_begins_74, b_X12_begins_75, b_X12_begins_82, b_X12_begins_84, b_X12_begins_108, b_X12_begins_110, b_X12_begins_133, Option.bind_some, Option.toList_some, Option.toList_none, List.cons_append, List.nil_append, List.map_cons, List.map_nil, List.sum_cons, List.sum_nil, Value.category, Nat.reduceAdd, Nat.reduceLeDiff, Nat.reduceMul, k24, if_pos (Int32.le_refl (nI 24))]
    rw [tm_uc_same _ _ _ (by rw [tm_fil_end])]
  | succ c ih =>
    intro j M h
    have h1 : ¬ nI 24 ≤ nI j := nI_ge (by omega) (by decide)
    have e1 : (10 : Int32) + nI j = nI (10 + j) := nI_lit 10 (by decide +kernel) j
    rw [b_X12_begins_23]
    simp only [e_al0, g_95_0, e_iconst, e_il1, e_is2i, e_is2r, e_is2u, e_gotow, e_il2, e_ic_ge, e_iadd, e_ii2i, e_ii2r, e_ii2u, e_goto, e_ic_gt, e_if_eq, e_ic_ne, e_vret, as_96, k_m1, k_0, k_1, k_3, k_5, k_10, k_12, k_24, k_34, k_300, k_368, k_668, b_X12_begins_47, b_X12_begins_70, b_X12_begins_74, b_X12_begins_75, b_X12_begins_82, b_X12_begins_84, b_X12_begins_108, b_X12_begins_110, b_X12_begins_133, Option.bind_some, Option.toList_some, Option.toList_none, List.cons_append, List.nil_append, List.map_cons, List.map_nil, List.sum_cons, List.sum_nil, Value.category, Nat.reduceAdd, Nat.reduceLeDiff, Nat.reduceMul, k24, if_neg h1, e1, tm_inb_i (by omega : 10 + j < 1258) (by decide), nI_clamp (by omega : 10 + j < 2 ^ 31), nI_1, ih (j + 1) _ (by omega)]
    rw [tm_up_at, tm_uc_up, show 10 + (j + 1) = 10 + j + 1 by omega, tm_fil_step (by omega)]
theorem bg2 : ∀ (c j : Nat) (M : tm_M), j + c = 25 → tm_ev d (tm_blk (Int.toNat 1560047)) [.ref 95, .int v, .int (nI j)] [] (tm_GG l x) M = tm_ev d (tm_blk (Int.toNat 1560082)) [.ref 95, .int v, .int (nI 25)] [] (tm_GG l x) (tm_uc M 96 (tm_mt9 v j (M 96))) := by
  have k24 : (24 : Int32) = nI 24 := by decide +kernel
  intro c
  induction c with
  | zero =>
    intro j M h
    obtain rfl : j = 25 := by omega
    rw [b_X12_begins_47]
    simp only [e_al0, g_95_0, e_iconst, e_il1, e_is2i, e_is2r, e_is2u, e_gotow, e_il2, e_ic_ge, e_iadd, e_ii2i, e_ii2r, e_ii2u, e_goto, e_ic_gt, e_if_eq, e_ic_ne, e_vret, as_96, k_m1, k_0, k_1, k_3, k_5, k_10, k_12, k_24, k_34, k_300, k_368, k_668, b_X12_begins_23, b_X12_begins_45, b_X12_begins_70, b_X12_begins_74, b_X12_begins_75, b_X12_begins_84, b_X12_begins_108, b_X12_begins_110, b_X12_begins_133, Option.bind_some, Option.toList_some, Option.toList_none, List.cons_append, List.nil_append, List.map_cons, List.map_nil, List.sum_cons, List.sum_nil, Value.category, Nat.reduceAdd, Nat.reduceLeDiff, Nat.reduceMul, k24, if_pos (nI_lt (by decide : 24 < 25) (by decide))]
    rw [tm_uc_same]
    funext i
    unfold tm_mt9
    rw [if_neg (by omega)]
  | succ c ih =>
    intro j M h
    have h1 : ¬ nI 24 < nI j := nI_nlt (by omega) (by decide)
    have e1 : (34 : Int32) + nI j = nI (34 + j) := nI_lit 34 (by decide +kernel) j
    have fin : ∀ w : Int32, w = (if 34 + j = 34 ∨ nI j = v then 1 else 0) → tm_uc (tm_up M 96 (34 + j) w) 96 (tm_mt9 v (j + 1) (tm_up M 96 (34 + j) w 96)) = tm_uc M 96 (tm_mt9 v j (M 96)) := by
      intro w hw
      rw [tm_up_at, tm_uc_up]
      congr 1
      funext i
      unfold tm_mt9 upd
      by_cases h2 : i = 34 + j
      · subst h2
        rw [if_neg (by omega), if_pos rfl, if_pos (by omega), hw, Nat.add_sub_cancel_left]
      · by_cases h3 : 34 + j ≤ i ∧ i < 59
        · rw [if_pos (by omega), if_pos h3]
        · rw [if_neg (by omega), if_neg h2, if_neg h3]
    rw [b_X12_begins_47]
    simp only [e_al0, g_95_0, e_iconst, e_il1, e_is2i, e_is2r, e_is2u, e_gotow, e_il2, e_ic_ge, e_iadd, e_ii2i, e_ii2r, e_ii2u, e_goto, e_ic_gt, e_if_eq, e_ic_ne, e_vret, as_96, k_m1, k_0, k_1, k_3, k_5, k_10, k_12, k_24, k_34, k_300, k_368, k_668, b_X12_begins_23, b_X12_begins_45, b_X12_begins_70, b_X12_begins_74, b_X12_begins_75, b_X12_begins_84, b_X12_begins_108, b_X12_begins_110, b_X12_begins_133, Option.bind_some, Option.toList_some, Option.toList_none, List.cons_append, List.nil_append, List.map_cons, List.map_nil, List.sum_cons, List.sum_nil, Value.category, Nat.reduceAdd, Nat.reduceLeDiff, Nat.reduceMul, k24, if_neg h1, e1, tm_inb_i (by omega : 34 + j < 1258) (by decide), nI_clamp (by omega : 34 + j < 2 ^ 31), nI_1, ih (j + 1) _ (by omega)]
    by_cases h2 : nI j = 0
    · have hj : j = 0 := by
        rw [← nI_0] at h2
        exact (nI_eq (by omega) (by decide)).mp h2
      rw [if_pos h2, fin 1 (by rw [if_pos (Or.inl (by omega))])]
    · have hj : ¬ 34 + j = 34 := fun q => h2 (by rw [show j = 0 by omega]; exact nI_0)
      by_cases h3 : nI j = v
      · rw [if_neg h2, if_neg (fun q => q h3), fin 1 (by rw [if_pos (Or.inr h3)])]
      · rw [if_neg h2, if_pos h3, fin 0 (by rw [if_neg (fun q => q.elim hj h3)])]
theorem bg3 : ∀ (c j : Nat) (M : tm_M), j + c = 300 → tm_ev d (tm_blk (Int.toNat 1560084)) [.ref 95, .int v, .int (nI j)] [] (tm_GG l x) M = tm_ev d (tm_blk (Int.toNat 1560108)) [.ref 95, .int v, .int (nI 300)] [] (tm_GG l x) (tm_uc M 96 (tm_fil (-1) (368 + j) 668 (M 96))) := by
  have k24 : (300 : Int32) = nI 300 := by decide +kernel
  intro c
  induction c with
  | zero =>
    intro j M h
    obtain rfl : j = 300 := by omega
    rw [b_X12_begins_84]
    simp only [e_al0, g_95_0, e_iconst, e_il1, e_is2i, e_is2r, e_is2u, e_gotow, e_il2, e_ic_ge, e_iadd, e_ii2i, e_ii2r, e_ii2u, e_goto, e_ic_gt, e_if_eq, e_ic_ne, e_vret, as_96, k_m1, k_0, k_1, k_3, k_5, k_10, k_12, k_24, k_34, k_300, k_368, k_668, b_X12_begins_23, b_X12_begins_45, b_X12_begins_47, b_X12_begins_70, b_X12_begins_74, b_X12_begins_75, b_X12_begins_82, b_X12_begins_110, b_X12_begins_133, Option.bind_some, Option.toList_some, Option.toList_none, List.cons_append, List.nil_append, List.map_cons, List.map_nil, List.sum_cons, List.sum_nil, Value.category, Nat.reduceAdd, Nat.reduceLeDiff, Nat.reduceMul, k24, if_pos (Int32.le_refl (nI 300))]
    rw [tm_uc_same _ _ _ (by rw [tm_fil_end])]
  | succ c ih =>
    intro j M h
    have h1 : ¬ nI 300 ≤ nI j := nI_ge (by omega) (by decide)
    have e1 : (368 : Int32) + nI j = nI (368 + j) := nI_lit 368 (by decide +kernel) j
    rw [b_X12_begins_84]
    simp only [e_al0, g_95_0, e_iconst, e_il1, e_is2i, e_is2r, e_is2u, e_gotow, e_il2, e_ic_ge, e_iadd, e_ii2i, e_ii2r, e_ii2u, e_goto, e_ic_gt, e_if_eq, e_ic_ne, e_vret, as_96, k_m1, k_0, k_1, k_3, k_5, k_10, k_12, k_24, k_34, k_300, k_368, k_668, b_X12_begins_23, b_X12_begins_45, b_X12_begins_47, b_X12_begins_70, b_X12_begins_74, b_X12_begins_75, b_X12_begins_82, b_X12_begins_110, b_X12_begins_133, Option.bind_some, Option.toList_some, Option.toList_none, List.cons_append, List.nil_append, List.map_cons, List.map_nil, List.sum_cons, List.sum_nil, Value.category, Nat.reduceAdd, Nat.reduceLeDiff, Nat.reduceMul, k24, if_neg h1, e1, tm_inb_i (by omega : 368 + j < 1258) (by decide), nI_clamp (by omega : 368 + j < 2 ^ 31), nI_1, ih (j + 1) _ (by omega)]
    rw [tm_up_at, tm_uc_up, show 368 + (j + 1) = 368 + j + 1 by omega, tm_fil_step (by omega)]
theorem bg4 : ∀ (c j : Nat) (M : tm_M), j + c = 12 → tm_ev d (tm_blk (Int.toNat 1560110)) [.ref 95, .int v, .int (nI j)] [] (tm_GG l x) M = some (none, tm_GG l x, tm_uc M 96 (tm_fil 0 (668 + j) 680 (M 96))) := by
  have k24 : (12 : Int32) = nI 12 := by decide +kernel
  intro c
  induction c with
  | zero =>
    intro j M h
    obtain rfl : j = 12 := by omega
    rw [b_X12_begins_110]
    simp only [e_al0, g_95_0, e_iconst, e_il1, e_is2i, e_is2r, e_is2u, e_gotow, e_il2, e_ic_ge, e_iadd, e_ii2i, e_ii2r, e_ii2u, e_goto, e_ic_gt, e_if_eq, e_ic_ne, e_vret, as_96, k_m1, k_0, k_1, k_3, k_5, k_10, k_12, k_24, k_34, k_300, k_368, k_668, b_X12_begins_23, b_X12_begins_45, b_X12_begins_47, b_X12_begins_70, b_X12_begins_74, b_X12_begins_75, b_X12_begins_82, b_X12_begins_84, b_X12_begins_108, b_X12_begins_133, Option.bind_some, Option.toList_some, Option.toList_none, List.cons_append, List.nil_append, List.map_cons, List.map_nil, List.sum_cons, List.sum_nil, Value.category, Nat.reduceAdd, Nat.reduceLeDiff, Nat.reduceMul, k24, if_pos (Int32.le_refl (nI 12))]
    rw [tm_uc_same _ _ _ (by rw [tm_fil_end])]
  | succ c ih =>
    intro j M h
    have h1 : ¬ nI 12 ≤ nI j := nI_ge (by omega) (by decide)
    have e1 : (668 : Int32) + nI j = nI (668 + j) := nI_lit 668 (by decide +kernel) j
    rw [b_X12_begins_110]
    simp only [e_al0, g_95_0, e_iconst, e_il1, e_is2i, e_is2r, e_is2u, e_gotow, e_il2, e_ic_ge, e_iadd, e_ii2i, e_ii2r, e_ii2u, e_goto, e_ic_gt, e_if_eq, e_ic_ne, e_vret, as_96, k_m1, k_0, k_1, k_3, k_5, k_10, k_12, k_24, k_34, k_300, k_368, k_668, b_X12_begins_23, b_X12_begins_45, b_X12_begins_47, b_X12_begins_70, b_X12_begins_74, b_X12_begins_75, b_X12_begins_82, b_X12_begins_84, b_X12_begins_108, b_X12_begins_133, Option.bind_some, Option.toList_some, Option.toList_none, List.cons_append, List.nil_append, List.map_cons, List.map_nil, List.sum_cons, List.sum_nil, Value.category, Nat.reduceAdd, Nat.reduceLeDiff, Nat.reduceMul, k24, if_neg h1, e1, tm_inb_i (by omega : 668 + j < 1258) (by decide), nI_clamp (by omega : 668 + j < 2 ^ 31), nI_1, ih (j + 1) _ (by omega)]
    rw [tm_up_at, tm_uc_up, show 668 + (j + 1) = 668 + j + 1 by omega, tm_fil_step (by omega)]
/-- what begins(v) makes of the row -/
def tm_bg (v : Int32) (f : Nat → Int32) : Nat → Int32 := tm_fil 0 668 680 (tm_fil (-1) 368 668 (tm_mt9 v 0 (tm_fil 0 10 34 (upd (upd (upd f 0 v) 3 0) 5 0))))
def tm_beg (M : tm_M) (v : Int32) : tm_M := tm_uc M 96 (tm_bg v (M 96))
theorem m_begins {M : tm_M} : tm_call d 156 [.ref 95, .int v] (tm_GG l x) M = some (none, tm_GG l x, tm_beg M v) := by
  have z0 : tm_inb (0 : Int32) 1258 = true := by decide
  have z3 : tm_inb (3 : Int32) 1258 = true := by decide
  have z5 : tm_inb (5 : Int32) 1258 = true := by decide
  have c0 : (0 : Int32).toNatClampNeg = 0 := by decide
  have c3 : (3 : Int32).toNatClampNeg = 3 := by decide
  have c5 : (5 : Int32).toNatClampNeg = 5 := by decide
  have h1 := fun M => bg1 (d := d) (l := l) (x := x) (v := v) 24 0 M rfl
  have h2 := fun M => bg2 (d := d) (l := l) (x := x) (v := v) 25 0 M rfl
  have h3 := fun M => bg3 (d := d) (l := l) (x := x) (v := v) 300 0 M rfl
  have h4 := fun M => bg4 (d := d) (l := l) (x := x) (v := v) 12 0 M rfl
  rw [nI_0] at h1 h2 h3 h4
  simp only [n_X12_begins, e_al0, g_95_0, e_iconst, e_il1, e_is2i, e_is2r, e_is2u, e_gotow, e_il2, e_ic_ge, e_iadd, e_ii2i, e_ii2r, e_ii2u, e_goto, e_ic_gt, e_if_eq, e_ic_ne, e_vret, as_96, k_m1, k_0, k_1, k_3, k_5, k_10, k_12, k_24, k_34, k_300, k_368, k_668, b_X12_begins_45, b_X12_begins_70, b_X12_begins_74, b_X12_begins_75, b_X12_begins_82, b_X12_begins_108, b_X12_begins_133, Option.bind_some, Option.toList_some, Option.toList_none, List.cons_append, List.nil_append, List.map_cons, List.map_nil, List.sum_cons, List.sum_nil, Value.category, Nat.reduceAdd, Nat.reduceLeDiff, Nat.reduceMul, z0, z3, z5, c0, c3, c5, h1, h2, h3, h4]
  congr 3
  unfold tm_beg tm_bg
  simp only [tm_uc_at, tm_uc_uc, tm_uc_up, tm_up_at]
end TMBG
theorem tm_Gfull (l : Nat) (x : Nat → Int32) : (tm_SH.take 110, tm_fnd (tm_RL.take 111), l, x) = tm_GG l x := by
  have e1 : tm_SH.take 110 = tm_SH := by decide +kernel
  have e2 : tm_RL.take 111 = tm_RL := by decide +kernel
  rw [e1, e2]
  rfl
