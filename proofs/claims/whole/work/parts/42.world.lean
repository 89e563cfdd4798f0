/-! part 42: copies of a world (laid by program) -/
/-- the slots of a world that are looked at -/
def tm_wi (c i : Nat) : Bool := match c with
  | 1 => decide (i = 5 ∨ i = 7 ∨ i = 8 ∨ i = 9 ∨ i = 10)
  | 2 => decide (i = 0 ∨ i = 1 ∨ i = 2 ∨ i = 3)
  | 12 => decide (i = 0)
  | 20 => decide (i = 0)
  | 27 => decide (i = 1)
  | 30 => decide (i = 1)
  | 3 => decide (i < 24)
  | 4 => decide (i < 25)
  | 5 => decide (i < 12)
  | 6 => decide (i < 12)
  | 7 => decide (i < 12)
  | 8 => decide (i < 12)
  | 9 => decide (i < 12)
  | 13 => decide (i < 12)
  | 14 => decide (i < 12)
  | 15 => decide (i < 12)
  | 16 => decide (i < 96)
  | 17 => decide (i < 96)
  | 18 => decide (i < 96)
  | 21 => decide (i < 40)
  | 22 => decide (i < 40)
  | 23 => decide (i < 40)
  | 24 => decide (i < 40)
  | 25 => decide (i < 40)
  | 28 => decide (i < 60)
  | 31 => decide (i < 60)
  | 33 => decide (i < 60)
  | 34 => decide (i < 300)
  | _ => false
theorem tm_wi_c {c i : Nat} (h : tm_wi c i = true) : (c = 3 ∧ i < 24) ∨ (c = 4 ∧ i < 25) ∨ (c = 5 ∧ i < 12) ∨ (c = 6 ∧ i < 12) ∨ (c = 7 ∧ i < 12) ∨ (c = 8 ∧ i < 12) ∨ (c = 9 ∧ i < 12) ∨ (c = 13 ∧ i < 12) ∨ (c = 14 ∧ i < 12) ∨ (c = 15 ∧ i < 12) ∨ (c = 16 ∧ i < 96) ∨ (c = 17 ∧ i < 96) ∨ (c = 18 ∧ i < 96) ∨ (c = 21 ∧ i < 40) ∨ (c = 22 ∧ i < 40) ∨ (c = 23 ∧ i < 40) ∨ (c = 24 ∧ i < 40) ∨ (c = 25 ∧ i < 40) ∨ (c = 28 ∧ i < 60) ∨ (c = 31 ∧ i < 60) ∨ (c = 33 ∧ i < 60) ∨ (c = 34 ∧ i < 300) ∨ (c = 1 ∧ (i = 5 ∨ i = 7 ∨ i = 8 ∨ i = 9 ∨ i = 10)) ∨ (c = 2 ∧ (i = 0 ∨ i = 1 ∨ i = 2 ∨ i = 3)) ∨ (c = 12 ∧ i = 0) ∨ (c = 20 ∧ i = 0) ∨ (c = 27 ∧ i = 1) ∨ (c = 30 ∧ i = 1) := by
  unfold tm_wi at h
  split at h
  · exact Or.inr (Or.inr (Or.inr (Or.inr (Or.inr (Or.inr (Or.inr (Or.inr (Or.inr (Or.inr (Or.inr (Or.inr (Or.inr (Or.inr (Or.inr (Or.inr (Or.inr (Or.inr (Or.inr (Or.inr (Or.inr (Or.inr (Or.inl ⟨rfl, of_decide_eq_true h⟩))))))))))))))))))))))
  · exact Or.inr (Or.inr (Or.inr (Or.inr (Or.inr (Or.inr (Or.inr (Or.inr (Or.inr (Or.inr (Or.inr (Or.inr (Or.inr (Or.inr (Or.inr (Or.inr (Or.inr (Or.inr (Or.inr (Or.inr (Or.inr (Or.inr (Or.inr (Or.inl ⟨rfl, of_decide_eq_true h⟩)))))))))))))))))))))))
  · exact Or.inr (Or.inr (Or.inr (Or.inr (Or.inr (Or.inr (Or.inr (Or.inr (Or.inr (Or.inr (Or.inr (Or.inr (Or.inr (Or.inr (Or.inr (Or.inr (Or.inr (Or.inr (Or.inr (Or.inr (Or.inr (Or.inr (Or.inr (Or.inr (Or.inl ⟨rfl, of_decide_eq_true h⟩))))))))))))))))))))))))
  · exact Or.inr (Or.inr (Or.inr (Or.inr (Or.inr (Or.inr (Or.inr (Or.inr (Or.inr (Or.inr (Or.inr (Or.inr (Or.inr (Or.inr (Or.inr (Or.inr (Or.inr (Or.inr (Or.inr (Or.inr (Or.inr (Or.inr (Or.inr (Or.inr (Or.inr (Or.inl ⟨rfl, of_decide_eq_true h⟩)))))))))))))))))))))))))
  · exact Or.inr (Or.inr (Or.inr (Or.inr (Or.inr (Or.inr (Or.inr (Or.inr (Or.inr (Or.inr (Or.inr (Or.inr (Or.inr (Or.inr (Or.inr (Or.inr (Or.inr (Or.inr (Or.inr (Or.inr (Or.inr (Or.inr (Or.inr (Or.inr (Or.inr (Or.inr (Or.inl ⟨rfl, of_decide_eq_true h⟩))))))))))))))))))))))))))
  · exact Or.inr (Or.inr (Or.inr (Or.inr (Or.inr (Or.inr (Or.inr (Or.inr (Or.inr (Or.inr (Or.inr (Or.inr (Or.inr (Or.inr (Or.inr (Or.inr (Or.inr (Or.inr (Or.inr (Or.inr (Or.inr (Or.inr (Or.inr (Or.inr (Or.inr (Or.inr (Or.inr (⟨rfl, of_decide_eq_true h⟩)))))))))))))))))))))))))))
  · exact Or.inl ⟨rfl, of_decide_eq_true h⟩
  · exact Or.inr (Or.inl ⟨rfl, of_decide_eq_true h⟩)
  · exact Or.inr (Or.inr (Or.inl ⟨rfl, of_decide_eq_true h⟩))
  · exact Or.inr (Or.inr (Or.inr (Or.inl ⟨rfl, of_decide_eq_true h⟩)))
  · exact Or.inr (Or.inr (Or.inr (Or.inr (Or.inl ⟨rfl, of_decide_eq_true h⟩))))
  · exact Or.inr (Or.inr (Or.inr (Or.inr (Or.inr (Or.inl ⟨rfl, of_decide_eq_true h⟩)))))
  · exact Or.inr (Or.inr (Or.inr (Or.inr (Or.inr (Or.inr (Or.inl ⟨rfl, of_decide_eq_true h⟩))))))
  · exact Or.inr (Or.inr (Or.inr (Or.inr (Or.inr (Or.inr (Or.inr (Or.inl ⟨rfl, of_decide_eq_true h⟩)))))))
  · exact Or.inr (Or.inr (Or.inr (Or.inr (Or.inr (Or.inr (Or.inr (Or.inr (Or.inl ⟨rfl, of_decide_eq_true h⟩))))))))
  · exact Or.inr (Or.inr (Or.inr (Or.inr (Or.inr (Or.inr (Or.inr (Or.inr (Or.inr (Or.inl ⟨rfl, of_decide_eq_true h⟩)))))))))
  · exact Or.inr (Or.inr (Or.inr (Or.inr (Or.inr (Or.inr (Or.inr (Or.inr (Or.inr (Or.inr (Or.inl ⟨rfl, of_decide_eq_true h⟩))))))))))
  · exact Or.inr (Or.inr (Or.inr (Or.inr (Or.inr (Or.inr (Or.inr (Or.inr (Or.inr (Or.inr (Or.inr (Or.inl ⟨rfl, of_decide_eq_true h⟩)))))))))))
  · exact Or.inr (Or.inr (Or.inr (Or.inr (Or.inr (Or.inr (Or.inr (Or.inr (Or.inr (Or.inr (Or.inr (Or.inr (Or.inl ⟨rfl, of_decide_eq_true h⟩))))))))))))
  · exact Or.inr (Or.inr (Or.inr (Or.inr (Or.inr (Or.inr (Or.inr (Or.inr (Or.inr (Or.inr (Or.inr (Or.inr (Or.inr (Or.inl ⟨rfl, of_decide_eq_true h⟩)))))))))))))
  · exact Or.inr (Or.inr (Or.inr (Or.inr (Or.inr (Or.inr (Or.inr (Or.inr (Or.inr (Or.inr (Or.inr (Or.inr (Or.inr (Or.inr (Or.inl ⟨rfl, of_decide_eq_true h⟩))))))))))))))
  · exact Or.inr (Or.inr (Or.inr (Or.inr (Or.inr (Or.inr (Or.inr (Or.inr (Or.inr (Or.inr (Or.inr (Or.inr (Or.inr (Or.inr (Or.inr (Or.inl ⟨rfl, of_decide_eq_true h⟩)))))))))))))))
  · exact Or.inr (Or.inr (Or.inr (Or.inr (Or.inr (Or.inr (Or.inr (Or.inr (Or.inr (Or.inr (Or.inr (Or.inr (Or.inr (Or.inr (Or.inr (Or.inr (Or.inl ⟨rfl, of_decide_eq_true h⟩))))))))))))))))
  · exact Or.inr (Or.inr (Or.inr (Or.inr (Or.inr (Or.inr (Or.inr (Or.inr (Or.inr (Or.inr (Or.inr (Or.inr (Or.inr (Or.inr (Or.inr (Or.inr (Or.inr (Or.inl ⟨rfl, of_decide_eq_true h⟩)))))))))))))))))
  · exact Or.inr (Or.inr (Or.inr (Or.inr (Or.inr (Or.inr (Or.inr (Or.inr (Or.inr (Or.inr (Or.inr (Or.inr (Or.inr (Or.inr (Or.inr (Or.inr (Or.inr (Or.inr (Or.inl ⟨rfl, of_decide_eq_true h⟩))))))))))))))))))
  · exact Or.inr (Or.inr (Or.inr (Or.inr (Or.inr (Or.inr (Or.inr (Or.inr (Or.inr (Or.inr (Or.inr (Or.inr (Or.inr (Or.inr (Or.inr (Or.inr (Or.inr (Or.inr (Or.inr (Or.inl ⟨rfl, of_decide_eq_true h⟩)))))))))))))))))))
  · exact Or.inr (Or.inr (Or.inr (Or.inr (Or.inr (Or.inr (Or.inr (Or.inr (Or.inr (Or.inr (Or.inr (Or.inr (Or.inr (Or.inr (Or.inr (Or.inr (Or.inr (Or.inr (Or.inr (Or.inr (Or.inl ⟨rfl, of_decide_eq_true h⟩))))))))))))))))))))
  · exact Or.inr (Or.inr (Or.inr (Or.inr (Or.inr (Or.inr (Or.inr (Or.inr (Or.inr (Or.inr (Or.inr (Or.inr (Or.inr (Or.inr (Or.inr (Or.inr (Or.inr (Or.inr (Or.inr (Or.inr (Or.inr (Or.inl ⟨rfl, of_decide_eq_true h⟩)))))))))))))))))))))
  · cases h
theorem tm_wi_A {c i q : Nat} (h : tm_ph c i = some q) : tm_wi c i = true := by
  unfold tm_ph at h
  unfold tm_wi
  split at h
  all_goals first
    | cases h; done
    | (simp only [decide_eq_true_eq]; (repeat' split at h) <;> first | (exfalso; cases h; done) | omega)
theorem px_TX_cg {cd cd' : Nat → Int32} {e z : Nat} {b : Nat → Int32} (h : ∀ i, i < e → cd' i = cd i) (k : px_TX cd e b z) : px_TX cd' e b z := by
  obtain ⟨code, k1, k2, k3⟩ := k
  exact ⟨code, k1, k2, fun i hi => (h i hi).trans (k3 i hi)⟩
theorem tm_wT_cp {M M' : tm_M} {o o' u : Nat} {D : Nat → Int32} (h1 : M' (27 + 3 * u + o') 1 = M (27 + 3 * u + o) 1) (h2 : ∀ i, i < 60 → M' (28 + 3 * u + o') i = M (28 + 3 * u + o) i) (k : tm_wT M o D u) : tm_wT M' o' D u := by
  obtain ⟨z, y1, y2, y3, y4, y5⟩ := k
  refine ⟨z, y1, y2, fun q => h1.trans (y3 q), fun q => ?_, y5⟩
  obtain ⟨e, e1, e2, e3, e4⟩ := y4 q
  exact ⟨e, e1, e2, h1.trans e3, px_TX_cg (fun i hi => h2 i (by omega)) e4⟩
theorem tm_W_cp {M M' : tm_M} {o o' : Nat} {D : Nat → Int32} (h : ∀ c i, tm_wi c i = true → M' (c + o') i = M (c + o) i) (hW : tm_W M o D) : tm_W M' o' D := by
  obtain ⟨hA, hB, hO, hH, hE, hT0, hT1, hN⟩ := hW
  refine ⟨fun c i q hq => (h c i (tm_wi_A hq)).trans (hA c i q hq), ?_, ?_, fun i hi => ?_, fun i hi => ?_, ?_, ?_, hN⟩
  · unfold tm_wB
    rw [h 2 2 rfl]
    exact hB
  · unfold tm_wO
    rw [h 1 7 rfl]
    exact hO
  · rw [h 18 i (decide_eq_true hi)]
    exact hH i hi
  · rw [h 33 i (decide_eq_true hi)]
    exact hE i hi
  · exact tm_wT_cp (h (27 + 3 * 0) 1 rfl) (fun i hi => h (28 + 3 * 0) i (decide_eq_true hi)) hT0
  · exact tm_wT_cp (h (27 + 3 * 1) 1 rfl) (fun i hi => h (28 + 3 * 1) i (decide_eq_true hi)) hT1
theorem n_ofN (n : Nat) : Int32.ofNat n = nI n := rfl
def tm_yc (M : tm_M) (a0 a n : Nat) : tm_M := tm_uc M a (va_cpy (M a0) (M a) 0 0 n)
theorem tm_yc_n {M : tm_M} {a0 a n c : Nat} (h : c ≠ a) : tm_yc M a0 a n c = M c := tm_uc_ne _ _ h
theorem tm_yc_s {M : tm_M} {a0 a n i : Nat} (h : i < n) : tm_yc M a0 a n a i = M a0 i := by
  unfold tm_yc
  rw [tm_uc_at, pk_cpy_in (by omega) (by omega)]
  congr 1
  omega
theorem e_cpy {d a0 a n k0 : Nat} {is : List Instr} {L st : List Value} {G : tm_G} {M : tm_M} (h0 : G.1[a0]? = some (k0, n)) (h1 : G.1[a]? = some (k0, n)) (hk : k0 ≤ 1) (hn : n < 2 ^ 31) (hs : (st.map fun v => v.category).sum ≤ 8) : tm_ev d (.invokestatic 998 :: is) L (.int (nI n) :: .int (nI 0) :: .ref a :: .int (nI 0) :: .ref a0 :: st) G M = tm_ev d is L st G (tm_yc M a0 a n) := by
  have e : tm_cpy G M a0 (nI 0) a (nI 0) (nI n) = some (tm_yc M a0 a n) := by
    unfold tm_cpy
    rw [h0, h1]
    simp only [nI_clamp hn, nI_clamp (show 0 < 2 ^ 31 by decide)]
    rw [if_pos ⟨hk, trivial, by decide, by decide, nI_pos hn, by omega, by omega⟩]
    rfl
  exact tm_ev_stp rfl (by simp [tm_stp, tm_stk, tm_loc, tm_rdg, tm_wrg, hs, e])
theorem m_copy {d l a0 a n : Nat} {x : Nat → Int32} {M : tm_M} (g0 : a0 < 1000) (g1 : a < 1000) (h0 : tm_SH[a0]? = some (0, n)) (h1 : tm_SH[a]? = some (0, n)) (hn : n < 2 ^ 31) : tm_call d 152 [.ref a0, .ref a] (tm_GG l x) M = some (none, tm_GG l x, tm_yc M a0 a n) := by
  have e1 : ∀ {is : List Instr} {L st : List Value}, tm_ev d (.arraylength :: is) L (.ref a0 :: st) (tm_GG l x) M = tm_ev d is L (.int (nI n) :: st) (tm_GG l x) M := tm_ev_aln g0 (by decide : 0 ≤ 4) h0
  have e2 : ∀ {is : List Instr} {L st : List Value}, tm_ev d (.arraylength :: is) L (.ref a :: st) (tm_GG l x) M = tm_ev d is L (.int (nI n) :: st) (tm_GG l x) M := tm_ev_aln g1 (by decide : 0 ≤ 4) h1
  simp (disch := first | exact tm_inb_i (by omega) (by omega) | exact tm_cc rfl | exact tm_cat rfl | omega | exact nI_ne0 (by omega) (by omega) | exact nI_ne (by omega) (by omega) (by omega) | assumption) only [n_X11_copy, e_al0, e_iconst, e_al1, e_mmin, e_vret, kn_0, Option.bind_some, Option.toList_some, Option.toList_none, List.cons_append, List.nil_append, z_0, nI_add, pk_mul, pk_sub, pk_div, n_mod, nI_clamp, nI_leI, nI_ltI, nI_eq, le_T, le_F, lt_T, lt_F, eq_T, eq_F, n_i0, n_i1, eq_self, not_true_eq_false, not_false_eq_true, Bool.false_eq_true, ↓reduceIte, if_true, if_false, tm_up_n, tm_up_s, tm_up_i, ite_self, true_and, and_true, false_and, and_false, n_ofN, Nat.reduceAdd, Nat.reduceMul, Nat.reduceSub, Nat.zero_add, e1, e2, e_cpy (G := tm_GG l x) h0 h1 (by decide : 0 ≤ 1) hn]
theorem m_cp_37 {d l : Nat} {x : Nat → Int32} {M : tm_M} : tm_call d 152 [.ref 3, .ref 37] (tm_GG l x) M = some (none, tm_GG l x, tm_yc M 3 37 24) := m_copy (by decide) (by decide) rfl rfl (by decide)
theorem m_cp_38 {d l : Nat} {x : Nat → Int32} {M : tm_M} : tm_call d 152 [.ref 4, .ref 38] (tm_GG l x) M = some (none, tm_GG l x, tm_yc M 4 38 25) := m_copy (by decide) (by decide) rfl rfl (by decide)
theorem m_cp_39 {d l : Nat} {x : Nat → Int32} {M : tm_M} : tm_call d 152 [.ref 5, .ref 39] (tm_GG l x) M = some (none, tm_GG l x, tm_yc M 5 39 12) := m_copy (by decide) (by decide) rfl rfl (by decide)
theorem m_cp_40 {d l : Nat} {x : Nat → Int32} {M : tm_M} : tm_call d 152 [.ref 6, .ref 40] (tm_GG l x) M = some (none, tm_GG l x, tm_yc M 6 40 12) := m_copy (by decide) (by decide) rfl rfl (by decide)
theorem m_cp_41 {d l : Nat} {x : Nat → Int32} {M : tm_M} : tm_call d 152 [.ref 7, .ref 41] (tm_GG l x) M = some (none, tm_GG l x, tm_yc M 7 41 12) := m_copy (by decide) (by decide) rfl rfl (by decide)
theorem m_cp_42 {d l : Nat} {x : Nat → Int32} {M : tm_M} : tm_call d 152 [.ref 8, .ref 42] (tm_GG l x) M = some (none, tm_GG l x, tm_yc M 8 42 12) := m_copy (by decide) (by decide) rfl rfl (by decide)
theorem m_cp_43 {d l : Nat} {x : Nat → Int32} {M : tm_M} : tm_call d 152 [.ref 9, .ref 43] (tm_GG l x) M = some (none, tm_GG l x, tm_yc M 9 43 12) := m_copy (by decide) (by decide) rfl rfl (by decide)
theorem m_cp_47 {d l : Nat} {x : Nat → Int32} {M : tm_M} : tm_call d 152 [.ref 13, .ref 47] (tm_GG l x) M = some (none, tm_GG l x, tm_yc M 13 47 12) := m_copy (by decide) (by decide) rfl rfl (by decide)
theorem m_cp_48 {d l : Nat} {x : Nat → Int32} {M : tm_M} : tm_call d 152 [.ref 14, .ref 48] (tm_GG l x) M = some (none, tm_GG l x, tm_yc M 14 48 12) := m_copy (by decide) (by decide) rfl rfl (by decide)
theorem m_cp_49 {d l : Nat} {x : Nat → Int32} {M : tm_M} : tm_call d 152 [.ref 15, .ref 49] (tm_GG l x) M = some (none, tm_GG l x, tm_yc M 15 49 12) := m_copy (by decide) (by decide) rfl rfl (by decide)
theorem m_cp_50 {d l : Nat} {x : Nat → Int32} {M : tm_M} : tm_call d 152 [.ref 16, .ref 50] (tm_GG l x) M = some (none, tm_GG l x, tm_yc M 16 50 96) := m_copy (by decide) (by decide) rfl rfl (by decide)
theorem m_cp_51 {d l : Nat} {x : Nat → Int32} {M : tm_M} : tm_call d 152 [.ref 17, .ref 51] (tm_GG l x) M = some (none, tm_GG l x, tm_yc M 17 51 96) := m_copy (by decide) (by decide) rfl rfl (by decide)
theorem m_cp_52 {d l : Nat} {x : Nat → Int32} {M : tm_M} : tm_call d 152 [.ref 18, .ref 52] (tm_GG l x) M = some (none, tm_GG l x, tm_yc M 18 52 96) := m_copy (by decide) (by decide) rfl rfl (by decide)
theorem m_cp_55 {d l : Nat} {x : Nat → Int32} {M : tm_M} : tm_call d 152 [.ref 21, .ref 55] (tm_GG l x) M = some (none, tm_GG l x, tm_yc M 21 55 40) := m_copy (by decide) (by decide) rfl rfl (by decide)
theorem m_cp_56 {d l : Nat} {x : Nat → Int32} {M : tm_M} : tm_call d 152 [.ref 22, .ref 56] (tm_GG l x) M = some (none, tm_GG l x, tm_yc M 22 56 40) := m_copy (by decide) (by decide) rfl rfl (by decide)
theorem m_cp_57 {d l : Nat} {x : Nat → Int32} {M : tm_M} : tm_call d 152 [.ref 23, .ref 57] (tm_GG l x) M = some (none, tm_GG l x, tm_yc M 23 57 40) := m_copy (by decide) (by decide) rfl rfl (by decide)
theorem m_cp_58 {d l : Nat} {x : Nat → Int32} {M : tm_M} : tm_call d 152 [.ref 24, .ref 58] (tm_GG l x) M = some (none, tm_GG l x, tm_yc M 24 58 40) := m_copy (by decide) (by decide) rfl rfl (by decide)
theorem m_cp_59 {d l : Nat} {x : Nat → Int32} {M : tm_M} : tm_call d 152 [.ref 25, .ref 59] (tm_GG l x) M = some (none, tm_GG l x, tm_yc M 25 59 40) := m_copy (by decide) (by decide) rfl rfl (by decide)
theorem m_cp_62 {d l : Nat} {x : Nat → Int32} {M : tm_M} : tm_call d 152 [.ref 28, .ref 62] (tm_GG l x) M = some (none, tm_GG l x, tm_yc M 28 62 60) := m_copy (by decide) (by decide) rfl rfl (by decide)
theorem m_cp_65 {d l : Nat} {x : Nat → Int32} {M : tm_M} : tm_call d 152 [.ref 31, .ref 65] (tm_GG l x) M = some (none, tm_GG l x, tm_yc M 31 65 60) := m_copy (by decide) (by decide) rfl rfl (by decide)
theorem m_cp_68 {d l : Nat} {x : Nat → Int32} {M : tm_M} : tm_call d 152 [.ref 34, .ref 68] (tm_GG l x) M = some (none, tm_GG l x, tm_yc M 34 68 300) := m_copy (by decide) (by decide) rfl rfl (by decide)
theorem e_cp_67 {d l : Nat} {is : List Instr} {L st : List Value} {x : Nat → Int32} {M : tm_M} (hs : (st.map fun v => v.category).sum ≤ 8) : tm_ev d (.invokestatic 998 :: is) L (.int (nI 60) :: .int (nI 0) :: .ref 67 :: .int (nI 0) :: .ref 33 :: st) (tm_GG l x) M = tm_ev d is L st (tm_GG l x) (tm_yc M 33 67 60) := e_cpy (k0 := 1) rfl rfl (by decide) (by decide) hs
theorem m_cp_3 {d l : Nat} {x : Nat → Int32} {M : tm_M} : tm_call d 152 [.ref 37, .ref 3] (tm_GG l x) M = some (none, tm_GG l x, tm_yc M 37 3 24) := m_copy (by decide) (by decide) rfl rfl (by decide)
theorem m_cp_4 {d l : Nat} {x : Nat → Int32} {M : tm_M} : tm_call d 152 [.ref 38, .ref 4] (tm_GG l x) M = some (none, tm_GG l x, tm_yc M 38 4 25) := m_copy (by decide) (by decide) rfl rfl (by decide)
theorem m_cp_5 {d l : Nat} {x : Nat → Int32} {M : tm_M} : tm_call d 152 [.ref 39, .ref 5] (tm_GG l x) M = some (none, tm_GG l x, tm_yc M 39 5 12) := m_copy (by decide) (by decide) rfl rfl (by decide)
theorem m_cp_6 {d l : Nat} {x : Nat → Int32} {M : tm_M} : tm_call d 152 [.ref 40, .ref 6] (tm_GG l x) M = some (none, tm_GG l x, tm_yc M 40 6 12) := m_copy (by decide) (by decide) rfl rfl (by decide)
theorem m_cp_7 {d l : Nat} {x : Nat → Int32} {M : tm_M} : tm_call d 152 [.ref 41, .ref 7] (tm_GG l x) M = some (none, tm_GG l x, tm_yc M 41 7 12) := m_copy (by decide) (by decide) rfl rfl (by decide)
theorem m_cp_8 {d l : Nat} {x : Nat → Int32} {M : tm_M} : tm_call d 152 [.ref 42, .ref 8] (tm_GG l x) M = some (none, tm_GG l x, tm_yc M 42 8 12) := m_copy (by decide) (by decide) rfl rfl (by decide)
theorem m_cp_9 {d l : Nat} {x : Nat → Int32} {M : tm_M} : tm_call d 152 [.ref 43, .ref 9] (tm_GG l x) M = some (none, tm_GG l x, tm_yc M 43 9 12) := m_copy (by decide) (by decide) rfl rfl (by decide)
theorem m_cp_13 {d l : Nat} {x : Nat → Int32} {M : tm_M} : tm_call d 152 [.ref 47, .ref 13] (tm_GG l x) M = some (none, tm_GG l x, tm_yc M 47 13 12) := m_copy (by decide) (by decide) rfl rfl (by decide)
theorem m_cp_14 {d l : Nat} {x : Nat → Int32} {M : tm_M} : tm_call d 152 [.ref 48, .ref 14] (tm_GG l x) M = some (none, tm_GG l x, tm_yc M 48 14 12) := m_copy (by decide) (by decide) rfl rfl (by decide)
theorem m_cp_15 {d l : Nat} {x : Nat → Int32} {M : tm_M} : tm_call d 152 [.ref 49, .ref 15] (tm_GG l x) M = some (none, tm_GG l x, tm_yc M 49 15 12) := m_copy (by decide) (by decide) rfl rfl (by decide)
theorem m_cp_16 {d l : Nat} {x : Nat → Int32} {M : tm_M} : tm_call d 152 [.ref 50, .ref 16] (tm_GG l x) M = some (none, tm_GG l x, tm_yc M 50 16 96) := m_copy (by decide) (by decide) rfl rfl (by decide)
theorem m_cp_17 {d l : Nat} {x : Nat → Int32} {M : tm_M} : tm_call d 152 [.ref 51, .ref 17] (tm_GG l x) M = some (none, tm_GG l x, tm_yc M 51 17 96) := m_copy (by decide) (by decide) rfl rfl (by decide)
theorem m_cp_18 {d l : Nat} {x : Nat → Int32} {M : tm_M} : tm_call d 152 [.ref 52, .ref 18] (tm_GG l x) M = some (none, tm_GG l x, tm_yc M 52 18 96) := m_copy (by decide) (by decide) rfl rfl (by decide)
theorem m_cp_21 {d l : Nat} {x : Nat → Int32} {M : tm_M} : tm_call d 152 [.ref 55, .ref 21] (tm_GG l x) M = some (none, tm_GG l x, tm_yc M 55 21 40) := m_copy (by decide) (by decide) rfl rfl (by decide)
theorem m_cp_22 {d l : Nat} {x : Nat → Int32} {M : tm_M} : tm_call d 152 [.ref 56, .ref 22] (tm_GG l x) M = some (none, tm_GG l x, tm_yc M 56 22 40) := m_copy (by decide) (by decide) rfl rfl (by decide)
theorem m_cp_23 {d l : Nat} {x : Nat → Int32} {M : tm_M} : tm_call d 152 [.ref 57, .ref 23] (tm_GG l x) M = some (none, tm_GG l x, tm_yc M 57 23 40) := m_copy (by decide) (by decide) rfl rfl (by decide)
theorem m_cp_24 {d l : Nat} {x : Nat → Int32} {M : tm_M} : tm_call d 152 [.ref 58, .ref 24] (tm_GG l x) M = some (none, tm_GG l x, tm_yc M 58 24 40) := m_copy (by decide) (by decide) rfl rfl (by decide)
theorem m_cp_25 {d l : Nat} {x : Nat → Int32} {M : tm_M} : tm_call d 152 [.ref 59, .ref 25] (tm_GG l x) M = some (none, tm_GG l x, tm_yc M 59 25 40) := m_copy (by decide) (by decide) rfl rfl (by decide)
theorem m_cp_28 {d l : Nat} {x : Nat → Int32} {M : tm_M} : tm_call d 152 [.ref 62, .ref 28] (tm_GG l x) M = some (none, tm_GG l x, tm_yc M 62 28 60) := m_copy (by decide) (by decide) rfl rfl (by decide)
theorem m_cp_31 {d l : Nat} {x : Nat → Int32} {M : tm_M} : tm_call d 152 [.ref 65, .ref 31] (tm_GG l x) M = some (none, tm_GG l x, tm_yc M 65 31 60) := m_copy (by decide) (by decide) rfl rfl (by decide)
theorem m_cp_34 {d l : Nat} {x : Nat → Int32} {M : tm_M} : tm_call d 152 [.ref 68, .ref 34] (tm_GG l x) M = some (none, tm_GG l x, tm_yc M 68 34 300) := m_copy (by decide) (by decide) rfl rfl (by decide)
theorem e_cp_33 {d l : Nat} {is : List Instr} {L st : List Value} {x : Nat → Int32} {M : tm_M} (hs : (st.map fun v => v.category).sum ≤ 8) : tm_ev d (.invokestatic 998 :: is) L (.int (nI 60) :: .int (nI 0) :: .ref 33 :: .int (nI 0) :: .ref 67 :: st) (tm_GG l x) M = tm_ev d is L st (tm_GG l x) (tm_yc M 67 33 60) := e_cpy (k0 := 1) rfl rfl (by decide) (by decide) hs
def tm_tRk (M : tm_M) : tm_M := (tm_yc (tm_yc (tm_yc (tm_yc (tm_yc (tm_yc (tm_yc (tm_up (tm_up (tm_up (tm_up M 36 0 (M 2 0)) 36 1 (M 2 1)) 36 2 (M 2 2)) 36 3 (M 2 3)) 3 37 24) 4 38 25) 5 39 12) 6 40 12) 7 41 12) 8 42 12) 9 43 12)
theorem m_tRk {d l : Nat} {x : Nat → Int32} {M : tm_M} : tm_call (d + 1) 59 [.ref 36, .ref 2] (tm_GG l x) M = some (none, tm_GG l x, tm_tRk M) := by
  simp (disch := first | exact tm_inb_i (by omega) (by omega) | exact tm_cc rfl | exact tm_cat rfl | omega | exact nI_ne0 (by omega) (by omega) | exact nI_ne (by omega) (by omega) (by omega) | assumption) only [n_X5_takeAll, e_al0, e_al1, g_2_0, g_36_0, p_2_0, p_36_0, g_2_1, g_36_1, p_2_1, p_36_1, g_2_2, g_36_2, p_2_2, p_36_2, g_2_3, g_36_3, p_2_3, p_36_3, g_2_4, g_36_4, r_X11_copy, g_2_5, g_36_5, g_2_6, g_36_6, g_2_7, g_36_7, g_2_8, g_36_8, g_2_9, g_36_9, g_2_10, g_36_10, e_vret, Option.bind_some, Option.toList_some, Option.toList_none, List.cons_append, List.nil_append, z_0, nI_add, pk_mul, pk_sub, pk_div, n_mod, nI_clamp, nI_leI, nI_ltI, nI_eq, le_T, le_F, lt_T, lt_F, eq_T, eq_F, n_i0, n_i1, eq_self, not_true_eq_false, not_false_eq_true, Bool.false_eq_true, ↓reduceIte, if_true, if_false, tm_up_n, tm_up_s, tm_up_i, ite_self, true_and, and_true, false_and, and_false, n_ofN, Nat.reduceAdd, Nat.reduceMul, Nat.reduceSub, Nat.zero_add, m_cp_37, m_cp_38, m_cp_39, m_cp_40, m_cp_41, m_cp_42, m_cp_43, tm_tRk]
def tm_tUk (M : tm_M) : tm_M := (tm_yc (tm_yc (tm_yc (tm_yc (tm_yc (tm_yc (tm_up M 46 0 (M 12 0)) 13 47 12) 14 48 12) 15 49 12) 16 50 96) 17 51 96) 18 52 96)
theorem m_tUk {d l : Nat} {x : Nat → Int32} {M : tm_M} : tm_call (d + 1) 69 [.ref 46, .ref 12] (tm_GG l x) M = some (none, tm_GG l x, tm_tUk M) := by
  simp (disch := first | exact tm_inb_i (by omega) (by omega) | exact tm_cc rfl | exact tm_cat rfl | omega | exact nI_ne0 (by omega) (by omega) | exact nI_ne (by omega) (by omega) (by omega) | assumption) only [n_X6_takeAll, e_al0, e_al1, g_12_0, g_46_0, p_12_0, p_46_0, g_12_1, g_46_1, r_X11_copy, g_12_2, g_46_2, g_12_3, g_46_3, g_12_4, g_46_4, g_12_5, g_46_5, g_12_6, g_46_6, e_vret, Option.bind_some, Option.toList_some, Option.toList_none, List.cons_append, List.nil_append, z_0, nI_add, pk_mul, pk_sub, pk_div, n_mod, nI_clamp, nI_leI, nI_ltI, nI_eq, le_T, le_F, lt_T, lt_F, eq_T, eq_F, n_i0, n_i1, eq_self, not_true_eq_false, not_false_eq_true, Bool.false_eq_true, ↓reduceIte, if_true, if_false, tm_up_n, tm_up_s, tm_up_i, ite_self, true_and, and_true, false_and, and_false, n_ofN, Nat.reduceAdd, Nat.reduceMul, Nat.reduceSub, Nat.zero_add, m_cp_47, m_cp_48, m_cp_49, m_cp_50, m_cp_51, m_cp_52, tm_tUk]
def tm_tGk (M : tm_M) : tm_M := (tm_yc (tm_yc (tm_yc (tm_yc (tm_yc (tm_up M 54 0 (M 20 0)) 21 55 40) 22 56 40) 23 57 40) 24 58 40) 25 59 40)
theorem m_tGk {d l : Nat} {x : Nat → Int32} {M : tm_M} : tm_call (d + 1) 8 [.ref 54, .ref 20] (tm_GG l x) M = some (none, tm_GG l x, tm_tGk M) := by
  simp (disch := first | exact tm_inb_i (by omega) (by omega) | exact tm_cc rfl | exact tm_cat rfl | omega | exact nI_ne0 (by omega) (by omega) | exact nI_ne (by omega) (by omega) (by omega) | assumption) only [n_X1_takeAll, e_al0, e_al1, g_20_0, g_54_0, p_20_0, p_54_0, g_20_1, g_54_1, r_X11_copy, g_20_2, g_54_2, g_20_3, g_54_3, g_20_4, g_54_4, g_20_5, g_54_5, e_vret, Option.bind_some, Option.toList_some, Option.toList_none, List.cons_append, List.nil_append, z_0, nI_add, pk_mul, pk_sub, pk_div, n_mod, nI_clamp, nI_leI, nI_ltI, nI_eq, le_T, le_F, lt_T, lt_F, eq_T, eq_F, n_i0, n_i1, eq_self, not_true_eq_false, not_false_eq_true, Bool.false_eq_true, ↓reduceIte, if_true, if_false, tm_up_n, tm_up_s, tm_up_i, ite_self, true_and, and_true, false_and, and_false, n_ofN, Nat.reduceAdd, Nat.reduceMul, Nat.reduceSub, Nat.zero_add, m_cp_55, m_cp_56, m_cp_57, m_cp_58, m_cp_59, tm_tGk]
theorem m_tCk0 {d l : Nat} {x : Nat → Int32} {M : tm_M} {v : Int32} : tm_call (d + 1) 79 [.ref 61, .ref 28, .int v] (tm_GG l x) M = some (none, tm_GG l x, tm_up (tm_yc M 28 62 60) 61 1 v) := by
  simp (disch := first | exact tm_inb_i (by omega) (by omega) | exact tm_cc rfl | exact tm_cat rfl | omega | exact nI_ne0 (by omega) (by omega) | exact nI_ne (by omega) (by omega) (by omega) | assumption) only [n_X8_takeCode, e_al1, e_al0, g_27_0, g_30_0, g_61_0, g_64_0, r_X11_copy, e_il2, p_27_1, p_30_1, p_61_1, p_64_1, e_vret, Option.bind_some, Option.toList_some, Option.toList_none, List.cons_append, List.nil_append, z_0, nI_add, pk_mul, pk_sub, pk_div, n_mod, nI_clamp, nI_leI, nI_ltI, nI_eq, le_T, le_F, lt_T, lt_F, eq_T, eq_F, n_i0, n_i1, eq_self, not_true_eq_false, not_false_eq_true, Bool.false_eq_true, ↓reduceIte, if_true, if_false, tm_up_n, tm_up_s, tm_up_i, ite_self, true_and, and_true, false_and, and_false, n_ofN, Nat.reduceAdd, Nat.reduceMul, Nat.reduceSub, Nat.zero_add, m_cp_62]
theorem m_tCk1 {d l : Nat} {x : Nat → Int32} {M : tm_M} {v : Int32} : tm_call (d + 1) 79 [.ref 64, .ref 31, .int v] (tm_GG l x) M = some (none, tm_GG l x, tm_up (tm_yc M 31 65 60) 64 1 v) := by
  simp (disch := first | exact tm_inb_i (by omega) (by omega) | exact tm_cc rfl | exact tm_cat rfl | omega | exact nI_ne0 (by omega) (by omega) | exact nI_ne (by omega) (by omega) (by omega) | assumption) only [n_X8_takeCode, e_al1, e_al0, g_27_0, g_30_0, g_61_0, g_64_0, r_X11_copy, e_il2, p_27_1, p_30_1, p_61_1, p_64_1, e_vret, Option.bind_some, Option.toList_some, Option.toList_none, List.cons_append, List.nil_append, z_0, nI_add, pk_mul, pk_sub, pk_div, n_mod, nI_clamp, nI_leI, nI_ltI, nI_eq, le_T, le_F, lt_T, lt_F, eq_T, eq_F, n_i0, n_i1, eq_self, not_true_eq_false, not_false_eq_true, Bool.false_eq_true, ↓reduceIte, if_true, if_false, tm_up_n, tm_up_s, tm_up_i, ite_self, true_and, and_true, false_and, and_false, n_ofN, Nat.reduceAdd, Nat.reduceMul, Nat.reduceSub, Nat.zero_add, m_cp_65]
def tm_tXk (M : tm_M) : tm_M := (tm_up (tm_up (tm_up (tm_up (tm_up (tm_yc (tm_yc (tm_up (tm_yc (tm_up (tm_yc M 28 62 60) 61 1 (M 27 1)) 31 65 60) 64 1 (M 30 1)) 34 68 300) 33 67 60) 35 5 (M 1 5)) 35 7 (M 1 7)) 35 8 (M 1 8)) 35 9 (M 1 9)) 35 10 (M 1 10))
def tm_tWk (M : tm_M) : tm_M := tm_tXk (tm_tGk (tm_tUk (tm_tRk M)))
theorem m_tWk {d l : Nat} {x : Nat → Int32} {M : tm_M} : tm_call (d + 2) 94 [.ref 35, .ref 1] (tm_GG l x) M = some (none, tm_GG l x, tm_tWk M) := by
  simp (disch := first | exact tm_inb_i (by omega) (by omega) | exact tm_cc rfl | exact tm_cat rfl | omega | exact nI_ne0 (by omega) (by omega) | exact nI_ne (by omega) (by omega) (by omega) | assumption) only [n_X10_takeAll, e_al0, g_1_0, g_35_0, e_al1, r_X5_takeAll, g_1_1, g_35_1, r_X6_takeAll, g_1_2, g_35_2, r_X1_takeAll, e_iconst, e_is2i, e_is2r, e_is2u, e_gotow, e_il2, g_1_3, g_35_3, e_ic_ge, g_27_0, g_30_0, g_61_0, g_64_0, g_27_1, g_30_1, g_61_1, g_64_1, r_X8_takeCode, e_ii2i, e_ii2r, e_ii2u, e_goto, g_1_6, g_35_6, r_X11_copy, g_1_4, g_35_4, g_1_5, g_35_5, p_1_5, p_35_5, g_1_7, g_35_7, p_1_7, p_35_7, g_1_8, g_35_8, p_1_8, p_35_8, g_1_9, g_35_9, p_1_9, p_35_9, g_1_10, g_35_10, p_1_10, p_35_10, e_vret, arn_26_0, arn_26_1, an_26, an_28, an_31, an_33, an_34, arn_60_0, arn_60_1, an_60, an_62, an_65, an_67, an_68, kn_0, kn_1, kn_60, b_X10_takeAll_35, b_X10_takeAll_77, Option.bind_some, Option.toList_some, Option.toList_none, List.cons_append, List.nil_append, z_0, nI_add, pk_mul, pk_sub, pk_div, n_mod, nI_clamp, nI_leI, nI_ltI, nI_eq, le_T, le_F, lt_T, lt_F, eq_T, eq_F, n_i0, n_i1, eq_self, not_true_eq_false, not_false_eq_true, Bool.false_eq_true, ↓reduceIte, if_true, if_false, tm_up_n, tm_up_s, tm_up_i, ite_self, true_and, and_true, false_and, and_false, n_ofN, Nat.reduceAdd, Nat.reduceMul, Nat.reduceSub, Nat.zero_add, m_tRk, m_tUk, m_tGk, m_tCk0, m_tCk1, m_cp_68, e_cp_67, tm_yc_n, tm_tXk, tm_tWk]
theorem tm_tWk_o {M : tm_M} {c : Nat} (h : c < 35 ∨ 68 < c) : tm_tWk M c = M c := by
  have hh : ∀ k, 35 ≤ k → k ≤ 68 → c ≠ k := fun k a b => by omega
  unfold tm_tWk tm_tXk tm_tGk tm_tUk tm_tRk
  rw [tm_up_n (hh _ (by decide) (by decide)), tm_up_n (hh _ (by decide) (by decide)), tm_up_n (hh _ (by decide) (by decide)), tm_up_n (hh _ (by decide) (by decide)), tm_up_n (hh _ (by decide) (by decide)), tm_yc_n (hh _ (by decide) (by decide)), tm_yc_n (hh _ (by decide) (by decide)), tm_up_n (hh _ (by decide) (by decide)), tm_yc_n (hh _ (by decide) (by decide)), tm_up_n (hh _ (by decide) (by decide)), tm_yc_n (hh _ (by decide) (by decide)), tm_yc_n (hh _ (by decide) (by decide)), tm_yc_n (hh _ (by decide) (by decide)), tm_yc_n (hh _ (by decide) (by decide)), tm_yc_n (hh _ (by decide) (by decide)), tm_yc_n (hh _ (by decide) (by decide)), tm_up_n (hh _ (by decide) (by decide)), tm_yc_n (hh _ (by decide) (by decide)), tm_yc_n (hh _ (by decide) (by decide)), tm_yc_n (hh _ (by decide) (by decide)), tm_yc_n (hh _ (by decide) (by decide)), tm_yc_n (hh _ (by decide) (by decide)), tm_yc_n (hh _ (by decide) (by decide)), tm_up_n (hh _ (by decide) (by decide)), tm_yc_n (hh _ (by decide) (by decide)), tm_yc_n (hh _ (by decide) (by decide)), tm_yc_n (hh _ (by decide) (by decide)), tm_yc_n (hh _ (by decide) (by decide)), tm_yc_n (hh _ (by decide) (by decide)), tm_yc_n (hh _ (by decide) (by decide)), tm_yc_n (hh _ (by decide) (by decide)), tm_up_n (hh _ (by decide) (by decide)), tm_up_n (hh _ (by decide) (by decide)), tm_up_n (hh _ (by decide) (by decide)), tm_up_n (hh _ (by decide) (by decide))]
theorem tm_tWk_i {M : tm_M} : ∀ c i, tm_wi c i = true → tm_tWk M (c + 34) i = M (c + 0) i := by
  intro c i h
  have hc := tm_wi_c h
  unfold tm_tWk tm_tXk tm_tGk tm_tUk tm_tRk
  rcases hc with ⟨rfl, q⟩ | ⟨rfl, q⟩ | ⟨rfl, q⟩ | ⟨rfl, q⟩ | ⟨rfl, q⟩ | ⟨rfl, q⟩ | ⟨rfl, q⟩ | ⟨rfl, q⟩ | ⟨rfl, q⟩ | ⟨rfl, q⟩ | ⟨rfl, q⟩ | ⟨rfl, q⟩ | ⟨rfl, q⟩ | ⟨rfl, q⟩ | ⟨rfl, q⟩ | ⟨rfl, q⟩ | ⟨rfl, q⟩ | ⟨rfl, q⟩ | ⟨rfl, q⟩ | ⟨rfl, q⟩ | ⟨rfl, q⟩ | ⟨rfl, q⟩ | ⟨rfl, q⟩ | ⟨rfl, q⟩ | ⟨rfl, q⟩ | ⟨rfl, q⟩ | ⟨rfl, q⟩ | ⟨rfl, q⟩
  · simp (disch := omega) only [Nat.reduceAdd, tm_up_n, tm_yc_n, tm_yc_s]
  · simp (disch := omega) only [Nat.reduceAdd, tm_up_n, tm_yc_n, tm_yc_s]
  · simp (disch := omega) only [Nat.reduceAdd, tm_up_n, tm_yc_n, tm_yc_s]
  · simp (disch := omega) only [Nat.reduceAdd, tm_up_n, tm_yc_n, tm_yc_s]
  · simp (disch := omega) only [Nat.reduceAdd, tm_up_n, tm_yc_n, tm_yc_s]
  · simp (disch := omega) only [Nat.reduceAdd, tm_up_n, tm_yc_n, tm_yc_s]
  · simp (disch := omega) only [Nat.reduceAdd, tm_up_n, tm_yc_n, tm_yc_s]
  · simp (disch := omega) only [Nat.reduceAdd, tm_up_n, tm_yc_n, tm_yc_s]
  · simp (disch := omega) only [Nat.reduceAdd, tm_up_n, tm_yc_n, tm_yc_s]
  · simp (disch := omega) only [Nat.reduceAdd, tm_up_n, tm_yc_n, tm_yc_s]
  · simp (disch := omega) only [Nat.reduceAdd, tm_up_n, tm_yc_n, tm_yc_s]
  · simp (disch := omega) only [Nat.reduceAdd, tm_up_n, tm_yc_n, tm_yc_s]
  · simp (disch := omega) only [Nat.reduceAdd, tm_up_n, tm_yc_n, tm_yc_s]
  · simp (disch := omega) only [Nat.reduceAdd, tm_up_n, tm_yc_n, tm_yc_s]
  · simp (disch := omega) only [Nat.reduceAdd, tm_up_n, tm_yc_n, tm_yc_s]
  · simp (disch := omega) only [Nat.reduceAdd, tm_up_n, tm_yc_n, tm_yc_s]
  · simp (disch := omega) only [Nat.reduceAdd, tm_up_n, tm_yc_n, tm_yc_s]
  · simp (disch := omega) only [Nat.reduceAdd, tm_up_n, tm_yc_n, tm_yc_s]
  · simp (disch := omega) only [Nat.reduceAdd, tm_up_n, tm_yc_n, tm_yc_s]
  · simp (disch := omega) only [Nat.reduceAdd, tm_up_n, tm_yc_n, tm_yc_s]
  · simp (disch := omega) only [Nat.reduceAdd, tm_up_n, tm_yc_n, tm_yc_s]
  · simp (disch := omega) only [Nat.reduceAdd, tm_up_n, tm_yc_n, tm_yc_s]
  · rcases q with rfl | rfl | rfl | rfl | rfl <;> simp (disch := omega) only [Nat.reduceAdd, tm_up_n, tm_yc_n, tm_up_i, tm_up_s]
  · rcases q with rfl | rfl | rfl | rfl <;> simp (disch := omega) only [Nat.reduceAdd, tm_up_n, tm_yc_n, tm_up_i, tm_up_s]
  · subst q; simp (disch := omega) only [Nat.reduceAdd, tm_up_n, tm_yc_n, tm_up_i, tm_up_s]
  · subst q; simp (disch := omega) only [Nat.reduceAdd, tm_up_n, tm_yc_n, tm_up_i, tm_up_s]
  · subst q; simp (disch := omega) only [Nat.reduceAdd, tm_up_n, tm_yc_n, tm_up_i, tm_up_s]
  · subst q; simp (disch := omega) only [Nat.reduceAdd, tm_up_n, tm_yc_n, tm_up_i, tm_up_s]
def tm_tRn (M : tm_M) : tm_M := (tm_yc (tm_yc (tm_yc (tm_yc (tm_yc (tm_yc (tm_yc (tm_up (tm_up (tm_up (tm_up M 2 0 (M 36 0)) 2 1 (M 36 1)) 2 2 (M 36 2)) 2 3 (M 36 3)) 37 3 24) 38 4 25) 39 5 12) 40 6 12) 41 7 12) 42 8 12) 43 9 12)
theorem m_tRn {d l : Nat} {x : Nat → Int32} {M : tm_M} : tm_call (d + 1) 59 [.ref 2, .ref 36] (tm_GG l x) M = some (none, tm_GG l x, tm_tRn M) := by
  simp (disch := first | exact tm_inb_i (by omega) (by omega) | exact tm_cc rfl | exact tm_cat rfl | omega | exact nI_ne0 (by omega) (by omega) | exact nI_ne (by omega) (by omega) (by omega) | assumption) only [n_X5_takeAll, e_al0, e_al1, g_2_0, g_36_0, p_2_0, p_36_0, g_2_1, g_36_1, p_2_1, p_36_1, g_2_2, g_36_2, p_2_2, p_36_2, g_2_3, g_36_3, p_2_3, p_36_3, g_2_4, g_36_4, r_X11_copy, g_2_5, g_36_5, g_2_6, g_36_6, g_2_7, g_36_7, g_2_8, g_36_8, g_2_9, g_36_9, g_2_10, g_36_10, e_vret, Option.bind_some, Option.toList_some, Option.toList_none, List.cons_append, List.nil_append, z_0, nI_add, pk_mul, pk_sub, pk_div, n_mod, nI_clamp, nI_leI, nI_ltI, nI_eq, le_T, le_F, lt_T, lt_F, eq_T, eq_F, n_i0, n_i1, eq_self, not_true_eq_false, not_false_eq_true, Bool.false_eq_true, ↓reduceIte, if_true, if_false, tm_up_n, tm_up_s, tm_up_i, ite_self, true_and, and_true, false_and, and_false, n_ofN, Nat.reduceAdd, Nat.reduceMul, Nat.reduceSub, Nat.zero_add, m_cp_3, m_cp_4, m_cp_5, m_cp_6, m_cp_7, m_cp_8, m_cp_9, tm_tRn]
def tm_tUn (M : tm_M) : tm_M := (tm_yc (tm_yc (tm_yc (tm_yc (tm_yc (tm_yc (tm_up M 12 0 (M 46 0)) 47 13 12) 48 14 12) 49 15 12) 50 16 96) 51 17 96) 52 18 96)
theorem m_tUn {d l : Nat} {x : Nat → Int32} {M : tm_M} : tm_call (d + 1) 69 [.ref 12, .ref 46] (tm_GG l x) M = some (none, tm_GG l x, tm_tUn M) := by
  simp (disch := first | exact tm_inb_i (by omega) (by omega) | exact tm_cc rfl | exact tm_cat rfl | omega | exact nI_ne0 (by omega) (by omega) | exact nI_ne (by omega) (by omega) (by omega) | assumption) only [n_X6_takeAll, e_al0, e_al1, g_12_0, g_46_0, p_12_0, p_46_0, g_12_1, g_46_1, r_X11_copy, g_12_2, g_46_2, g_12_3, g_46_3, g_12_4, g_46_4, g_12_5, g_46_5, g_12_6, g_46_6, e_vret, Option.bind_some, Option.toList_some, Option.toList_none, List.cons_append, List.nil_append, z_0, nI_add, pk_mul, pk_sub, pk_div, n_mod, nI_clamp, nI_leI, nI_ltI, nI_eq, le_T, le_F, lt_T, lt_F, eq_T, eq_F, n_i0, n_i1, eq_self, not_true_eq_false, not_false_eq_true, Bool.false_eq_true, ↓reduceIte, if_true, if_false, tm_up_n, tm_up_s, tm_up_i, ite_self, true_and, and_true, false_and, and_false, n_ofN, Nat.reduceAdd, Nat.reduceMul, Nat.reduceSub, Nat.zero_add, m_cp_13, m_cp_14, m_cp_15, m_cp_16, m_cp_17, m_cp_18, tm_tUn]
def tm_tGn (M : tm_M) : tm_M := (tm_yc (tm_yc (tm_yc (tm_yc (tm_yc (tm_up M 20 0 (M 54 0)) 55 21 40) 56 22 40) 57 23 40) 58 24 40) 59 25 40)
theorem m_tGn {d l : Nat} {x : Nat → Int32} {M : tm_M} : tm_call (d + 1) 8 [.ref 20, .ref 54] (tm_GG l x) M = some (none, tm_GG l x, tm_tGn M) := by
  simp (disch := first | exact tm_inb_i (by omega) (by omega) | exact tm_cc rfl | exact tm_cat rfl | omega | exact nI_ne0 (by omega) (by omega) | exact nI_ne (by omega) (by omega) (by omega) | assumption) only [n_X1_takeAll, e_al0, e_al1, g_20_0, g_54_0, p_20_0, p_54_0, g_20_1, g_54_1, r_X11_copy, g_20_2, g_54_2, g_20_3, g_54_3, g_20_4, g_54_4, g_20_5, g_54_5, e_vret, Option.bind_some, Option.toList_some, Option.toList_none, List.cons_append, List.nil_append, z_0, nI_add, pk_mul, pk_sub, pk_div, n_mod, nI_clamp, nI_leI, nI_ltI, nI_eq, le_T, le_F, lt_T, lt_F, eq_T, eq_F, n_i0, n_i1, eq_self, not_true_eq_false, not_false_eq_true, Bool.false_eq_true, ↓reduceIte, if_true, if_false, tm_up_n, tm_up_s, tm_up_i, ite_self, true_and, and_true, false_and, and_false, n_ofN, Nat.reduceAdd, Nat.reduceMul, Nat.reduceSub, Nat.zero_add, m_cp_21, m_cp_22, m_cp_23, m_cp_24, m_cp_25, tm_tGn]
theorem m_tCn0 {d l : Nat} {x : Nat → Int32} {M : tm_M} {v : Int32} : tm_call (d + 1) 79 [.ref 27, .ref 62, .int v] (tm_GG l x) M = some (none, tm_GG l x, tm_up (tm_yc M 62 28 60) 27 1 v) := by
  simp (disch := first | exact tm_inb_i (by omega) (by omega) | exact tm_cc rfl | exact tm_cat rfl | omega | exact nI_ne0 (by omega) (by omega) | exact nI_ne (by omega) (by omega) (by omega) | assumption) only [n_X8_takeCode, e_al1, e_al0, g_27_0, g_30_0, g_61_0, g_64_0, r_X11_copy, e_il2, p_27_1, p_30_1, p_61_1, p_64_1, e_vret, Option.bind_some, Option.toList_some, Option.toList_none, List.cons_append, List.nil_append, z_0, nI_add, pk_mul, pk_sub, pk_div, n_mod, nI_clamp, nI_leI, nI_ltI, nI_eq, le_T, le_F, lt_T, lt_F, eq_T, eq_F, n_i0, n_i1, eq_self, not_true_eq_false, not_false_eq_true, Bool.false_eq_true, ↓reduceIte, if_true, if_false, tm_up_n, tm_up_s, tm_up_i, ite_self, true_and, and_true, false_and, and_false, n_ofN, Nat.reduceAdd, Nat.reduceMul, Nat.reduceSub, Nat.zero_add, m_cp_28]
theorem m_tCn1 {d l : Nat} {x : Nat → Int32} {M : tm_M} {v : Int32} : tm_call (d + 1) 79 [.ref 30, .ref 65, .int v] (tm_GG l x) M = some (none, tm_GG l x, tm_up (tm_yc M 65 31 60) 30 1 v) := by
  simp (disch := first | exact tm_inb_i (by omega) (by omega) | exact tm_cc rfl | exact tm_cat rfl | omega | exact nI_ne0 (by omega) (by omega) | exact nI_ne (by omega) (by omega) (by omega) | assumption) only [n_X8_takeCode, e_al1, e_al0, g_27_0, g_30_0, g_61_0, g_64_0, r_X11_copy, e_il2, p_27_1, p_30_1, p_61_1, p_64_1, e_vret, Option.bind_some, Option.toList_some, Option.toList_none, List.cons_append, List.nil_append, z_0, nI_add, pk_mul, pk_sub, pk_div, n_mod, nI_clamp, nI_leI, nI_ltI, nI_eq, le_T, le_F, lt_T, lt_F, eq_T, eq_F, n_i0, n_i1, eq_self, not_true_eq_false, not_false_eq_true, Bool.false_eq_true, ↓reduceIte, if_true, if_false, tm_up_n, tm_up_s, tm_up_i, ite_self, true_and, and_true, false_and, and_false, n_ofN, Nat.reduceAdd, Nat.reduceMul, Nat.reduceSub, Nat.zero_add, m_cp_31]
def tm_tXn (M : tm_M) : tm_M := (tm_up (tm_up (tm_up (tm_up (tm_up (tm_yc (tm_yc (tm_up (tm_yc (tm_up (tm_yc M 62 28 60) 27 1 (M 61 1)) 65 31 60) 30 1 (M 64 1)) 68 34 300) 67 33 60) 1 5 (M 35 5)) 1 7 (M 35 7)) 1 8 (M 35 8)) 1 9 (M 35 9)) 1 10 (M 35 10))
def tm_tWn (M : tm_M) : tm_M := tm_tXn (tm_tGn (tm_tUn (tm_tRn M)))
theorem m_tWn {d l : Nat} {x : Nat → Int32} {M : tm_M} : tm_call (d + 2) 94 [.ref 1, .ref 35] (tm_GG l x) M = some (none, tm_GG l x, tm_tWn M) := by
  simp (disch := first | exact tm_inb_i (by omega) (by omega) | exact tm_cc rfl | exact tm_cat rfl | omega | exact nI_ne0 (by omega) (by omega) | exact nI_ne (by omega) (by omega) (by omega) | assumption) only [n_X10_takeAll, e_al0, g_1_0, g_35_0, e_al1, r_X5_takeAll, g_1_1, g_35_1, r_X6_takeAll, g_1_2, g_35_2, r_X1_takeAll, e_iconst, e_is2i, e_is2r, e_is2u, e_gotow, e_il2, g_1_3, g_35_3, e_ic_ge, g_27_0, g_30_0, g_61_0, g_64_0, g_27_1, g_30_1, g_61_1, g_64_1, r_X8_takeCode, e_ii2i, e_ii2r, e_ii2u, e_goto, g_1_6, g_35_6, r_X11_copy, g_1_4, g_35_4, g_1_5, g_35_5, p_1_5, p_35_5, g_1_7, g_35_7, p_1_7, p_35_7, g_1_8, g_35_8, p_1_8, p_35_8, g_1_9, g_35_9, p_1_9, p_35_9, g_1_10, g_35_10, p_1_10, p_35_10, e_vret, arn_26_0, arn_26_1, an_26, an_28, an_31, an_33, an_34, arn_60_0, arn_60_1, an_60, an_62, an_65, an_67, an_68, kn_0, kn_1, kn_60, b_X10_takeAll_35, b_X10_takeAll_77, Option.bind_some, Option.toList_some, Option.toList_none, List.cons_append, List.nil_append, z_0, nI_add, pk_mul, pk_sub, pk_div, n_mod, nI_clamp, nI_leI, nI_ltI, nI_eq, le_T, le_F, lt_T, lt_F, eq_T, eq_F, n_i0, n_i1, eq_self, not_true_eq_false, not_false_eq_true, Bool.false_eq_true, ↓reduceIte, if_true, if_false, tm_up_n, tm_up_s, tm_up_i, ite_self, true_and, and_true, false_and, and_false, n_ofN, Nat.reduceAdd, Nat.reduceMul, Nat.reduceSub, Nat.zero_add, m_tRn, m_tUn, m_tGn, m_tCn0, m_tCn1, m_cp_34, e_cp_33, tm_yc_n, tm_tXn, tm_tWn]
theorem tm_tWn_o {M : tm_M} {c : Nat} (h : c < 1 ∨ 34 < c) : tm_tWn M c = M c := by
  have hh : ∀ k, 1 ≤ k → k ≤ 34 → c ≠ k := fun k a b => by omega
  unfold tm_tWn tm_tXn tm_tGn tm_tUn tm_tRn
  rw [tm_up_n (hh _ (by decide) (by decide)), tm_up_n (hh _ (by decide) (by decide)), tm_up_n (hh _ (by decide) (by decide)), tm_up_n (hh _ (by decide) (by decide)), tm_up_n (hh _ (by decide) (by decide)), tm_yc_n (hh _ (by decide) (by decide)), tm_yc_n (hh _ (by decide) (by decide)), tm_up_n (hh _ (by decide) (by decide)), tm_yc_n (hh _ (by decide) (by decide)), tm_up_n (hh _ (by decide) (by decide)), tm_yc_n (hh _ (by decide) (by decide)), tm_yc_n (hh _ (by decide) (by decide)), tm_yc_n (hh _ (by decide) (by decide)), tm_yc_n (hh _ (by decide) (by decide)), tm_yc_n (hh _ (by decide) (by decide)), tm_yc_n (hh _ (by decide) (by decide)), tm_up_n (hh _ (by decide) (by decide)), tm_yc_n (hh _ (by decide) (by decide)), tm_yc_n (hh _ (by decide) (by decide)), tm_yc_n (hh _ (by decide) (by decide)), tm_yc_n (hh _ (by decide) (by decide)), tm_yc_n (hh _ (by decide) (by decide)), tm_yc_n (hh _ (by decide) (by decide)), tm_up_n (hh _ (by decide) (by decide)), tm_yc_n (hh _ (by decide) (by decide)), tm_yc_n (hh _ (by decide) (by decide)), tm_yc_n (hh _ (by decide) (by decide)), tm_yc_n (hh _ (by decide) (by decide)), tm_yc_n (hh _ (by decide) (by decide)), tm_yc_n (hh _ (by decide) (by decide)), tm_yc_n (hh _ (by decide) (by decide)), tm_up_n (hh _ (by decide) (by decide)), tm_up_n (hh _ (by decide) (by decide)), tm_up_n (hh _ (by decide) (by decide)), tm_up_n (hh _ (by decide) (by decide))]
theorem tm_tWn_i {M : tm_M} : ∀ c i, tm_wi c i = true → tm_tWn M (c + 0) i = M (c + 34) i := by
  intro c i h
  have hc := tm_wi_c h
  unfold tm_tWn tm_tXn tm_tGn tm_tUn tm_tRn
  rcases hc with ⟨rfl, q⟩ | ⟨rfl, q⟩ | ⟨rfl, q⟩ | ⟨rfl, q⟩ | ⟨rfl, q⟩ | ⟨rfl, q⟩ | ⟨rfl, q⟩ | ⟨rfl, q⟩ | ⟨rfl, q⟩ | ⟨rfl, q⟩ | ⟨rfl, q⟩ | ⟨rfl, q⟩ | ⟨rfl, q⟩ | ⟨rfl, q⟩ | ⟨rfl, q⟩ | ⟨rfl, q⟩ | ⟨rfl, q⟩ | ⟨rfl, q⟩ | ⟨rfl, q⟩ | ⟨rfl, q⟩ | ⟨rfl, q⟩ | ⟨rfl, q⟩ | ⟨rfl, q⟩ | ⟨rfl, q⟩ | ⟨rfl, q⟩ | ⟨rfl, q⟩ | ⟨rfl, q⟩ | ⟨rfl, q⟩
  · simp (disch := omega) only [Nat.reduceAdd, tm_up_n, tm_yc_n, tm_yc_s]
  · simp (disch := omega) only [Nat.reduceAdd, tm_up_n, tm_yc_n, tm_yc_s]
  · simp (disch := omega) only [Nat.reduceAdd, tm_up_n, tm_yc_n, tm_yc_s]
  · simp (disch := omega) only [Nat.reduceAdd, tm_up_n, tm_yc_n, tm_yc_s]
  · simp (disch := omega) only [Nat.reduceAdd, tm_up_n, tm_yc_n, tm_yc_s]
  · simp (disch := omega) only [Nat.reduceAdd, tm_up_n, tm_yc_n, tm_yc_s]
  · simp (disch := omega) only [Nat.reduceAdd, tm_up_n, tm_yc_n, tm_yc_s]
  · simp (disch := omega) only [Nat.reduceAdd, tm_up_n, tm_yc_n, tm_yc_s]
  · simp (disch := omega) only [Nat.reduceAdd, tm_up_n, tm_yc_n, tm_yc_s]
  · simp (disch := omega) only [Nat.reduceAdd, tm_up_n, tm_yc_n, tm_yc_s]
  · simp (disch := omega) only [Nat.reduceAdd, tm_up_n, tm_yc_n, tm_yc_s]
  · simp (disch := omega) only [Nat.reduceAdd, tm_up_n, tm_yc_n, tm_yc_s]
  · simp (disch := omega) only [Nat.reduceAdd, tm_up_n, tm_yc_n, tm_yc_s]
  · simp (disch := omega) only [Nat.reduceAdd, tm_up_n, tm_yc_n, tm_yc_s]
  · simp (disch := omega) only [Nat.reduceAdd, tm_up_n, tm_yc_n, tm_yc_s]
  · simp (disch := omega) only [Nat.reduceAdd, tm_up_n, tm_yc_n, tm_yc_s]
  · simp (disch := omega) only [Nat.reduceAdd, tm_up_n, tm_yc_n, tm_yc_s]
  · simp (disch := omega) only [Nat.reduceAdd, tm_up_n, tm_yc_n, tm_yc_s]
  · simp (disch := omega) only [Nat.reduceAdd, tm_up_n, tm_yc_n, tm_yc_s]
  · simp (disch := omega) only [Nat.reduceAdd, tm_up_n, tm_yc_n, tm_yc_s]
  · simp (disch := omega) only [Nat.reduceAdd, tm_up_n, tm_yc_n, tm_yc_s]
  · simp (disch := omega) only [Nat.reduceAdd, tm_up_n, tm_yc_n, tm_yc_s]
  · rcases q with rfl | rfl | rfl | rfl | rfl <;> simp (disch := omega) only [Nat.reduceAdd, tm_up_n, tm_yc_n, tm_up_i, tm_up_s]
  · rcases q with rfl | rfl | rfl | rfl <;> simp (disch := omega) only [Nat.reduceAdd, tm_up_n, tm_yc_n, tm_up_i, tm_up_s]
  · subst q; simp (disch := omega) only [Nat.reduceAdd, tm_up_n, tm_yc_n, tm_up_i, tm_up_s]
  · subst q; simp (disch := omega) only [Nat.reduceAdd, tm_up_n, tm_yc_n, tm_up_i, tm_up_s]
  · subst q; simp (disch := omega) only [Nat.reduceAdd, tm_up_n, tm_yc_n, tm_up_i, tm_up_s]
  · subst q; simp (disch := omega) only [Nat.reduceAdd, tm_up_n, tm_yc_n, tm_up_i, tm_up_s]
