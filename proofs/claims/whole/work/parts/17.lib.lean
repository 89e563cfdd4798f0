/-! part 17: the library's methods and those of all classes: Arrays.fill, copy; updates -/
theorem tm_uc_same {α : Type} (M : Nat → α) (k : Nat) (f : α) (h : M k = f) : tm_uc M k f = M := by
  funext a
  unfold tm_uc
  split
  · rename_i q; rw [q, h]
  · rfl
theorem tm_uc_at {α : Type} (M : Nat → α) (k : Nat) (f : α) : tm_uc M k f k = f := if_pos rfl
theorem tm_uc_ne {α : Type} (M : Nat → α) {k a : Nat} (f : α) (h : a ≠ k) : tm_uc M k f a = M a := if_neg h
theorem tm_uc_uc {α : Type} (M : Nat → α) (k : Nat) (f g : α) : tm_uc (tm_uc M k f) k g = tm_uc M k g := by
  funext a
  unfold tm_uc
  split <;> rfl
theorem tm_up_at (M : tm_M) (k j : Nat) (v : Int32) : tm_up M k j v k = upd (M k) j v := if_pos rfl
theorem tm_up_ne (M : tm_M) {k a : Nat} (j : Nat) (v : Int32) (h : a ≠ k) : tm_up M k j v a = M a := if_neg h
theorem tm_ev_aln {d n k kd : Nat} {is : List Instr} {L st : List Value} {G : tm_G} {M : tm_M} (h9 : k < 1000) (h4 : kd ≤ 4) (hk : G.1[k]? = some (kd, n)) : tm_ev d (.arraylength :: is) L (.ref k :: st) G M = tm_ev d is L (.int (nI n) :: st) G M :=
  tm_ev_stp rfl (by simp [tm_stp, tm_stk, tm_loc, tm_rdg, tm_al, h9, hk, h4, nI])
def tm_fil (v : Int32) (j n : Nat) (f : Nat → Int32) : Nat → Int32 := fun i => if j ≤ i ∧ i < n then v else f i
theorem tm_inb_i {j n : Nat} (h : j < n) (hn : n < 2 ^ 31) : tm_inb (nI j) n = true := by
  simp only [tm_inb, Bool.and_eq_true, decide_eq_true_eq]
  rw [nI_clamp (by omega)]
  exact ⟨nI_pos (by omega), h⟩
section TMLB
variable {d k n : Nat} {G : tm_G} {M : tm_M} {v : Int32}
theorem fill_loop (h9 : k < 1000) (hk : G.1[k]? = some (0, n)) (hn : n < 2 ^ 31) : ∀ (c j : Nat) (M : tm_M), j + c = n → tm_ev d (tm_blk (Int.toNat 2570005)) [.ref k, .int v, .int (nI j), .int (nI n)] [] G M = some (none, G, tm_uc M k (tm_fil v j n (M k))) := by
  intro c
  induction c with
  | zero =>
    intro j M h
    have : j = n := by omega
    subst this
    simp only [e_iconst, e_is2i, e_is2r, e_is2u, e_al0, e_is3i, e_is3r, e_is3u, e_gotow, e_il2, e_il3, e_ic_ge, e_il1, e_ii2i, e_ii2r, e_ii2u, e_goto, e_vret, k_0, k_1, b_J7_fill_53178_5, b_J7_fill_53178_20, Option.bind_some, Option.toList_some, Option.toList_none, List.cons_append, List.nil_append, List.map_cons, List.map_nil, List.sum_cons, List.sum_nil, Value.category, Nat.reduceAdd, Nat.reduceLeDiff, Nat.reduceMul, if_pos (Int32.le_refl (nI j))]
    rw [tm_uc_same]
    funext i
    unfold tm_fil
    rw [if_neg (by omega)]
  | succ c ih =>
    intro j M h
    have h1 : ¬ nI n ≤ nI j := nI_ge (by omega) hn
    have e1 : nI j + 1 = nI (j + 1) := nI_1 j
    rw [b_J7_fill_53178_5]
    simp only [e_iconst, e_is2i, e_is2r, e_is2u, e_al0, e_is3i, e_is3r, e_is3u, e_gotow, e_il2, e_il3, e_ic_ge, e_il1, e_ii2i, e_ii2r, e_ii2u, e_goto, e_vret, k_0, k_1, b_J7_fill_53178_20, Option.bind_some, Option.toList_some, Option.toList_none, List.cons_append, List.nil_append, List.map_cons, List.map_nil, List.sum_cons, List.sum_nil, Value.category, Nat.reduceAdd, Nat.reduceLeDiff, Nat.reduceMul, if_neg h1, tm_ev_ast (tm_inb_i (by omega : j < n) hn) hk, e1, ih (j + 1) _ (by omega), nI_clamp (by omega : j < 2 ^ 31)]
    congr 3
    rw [tm_up_at]
    unfold tm_up
    rw [tm_uc_uc]
    congr 1
    funext i
    unfold tm_fil upd
    by_cases h2 : i = j
    · subst h2
      rw [if_neg (by omega), if_pos rfl, if_pos (by omega)]
    · by_cases h3 : j ≤ i ∧ i < n
      · rw [if_pos (by omega), if_pos h3]
      · rw [if_neg (by omega), if_neg h2, if_neg h3]
theorem m_fill (h9 : k < 1000) (hk : G.1[k]? = some (0, n)) (hn : n < 2 ^ 31) : tm_call d 257 [.ref k, .int v] G M = some (none, G, tm_uc M k (tm_fil v 0 n (M k))) := by
  simp only [n_J7_fill_53178, e_iconst, e_is2i, e_is2r, e_is2u, e_al0, e_is3i, e_is3r, e_is3u, e_gotow, e_il2, e_il3, e_ic_ge, e_il1, e_ii2i, e_ii2r, e_ii2u, e_goto, e_vret, k_0, k_1, b_J7_fill_53178_20, Option.bind_some, Option.toList_some, Option.toList_none, List.cons_append, List.nil_append, List.map_cons, List.map_nil, List.sum_cons, List.sum_nil, Value.category, Nat.reduceAdd, Nat.reduceLeDiff, Nat.reduceMul, tm_ev_aln h9 (by decide : 0 ≤ 4) hk]
  exact fill_loop h9 hk hn n 0 M (by omega)
end TMLB
