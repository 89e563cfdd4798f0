/-! part 81: the law's blocks (by program: wip/whole/gen4.py) -/
set_option maxRecDepth 100000 in
theorem tm_ckL0 : ((tm_B_L_law.drop 0).take 6).all (fun b => tm_chk 259 b.1 b.2) = true := by decide +kernel
set_option maxRecDepth 100000 in
theorem tm_ckL1 : ((tm_B_L_law.drop 6).take 6).all (fun b => tm_chk 259 b.1 b.2) = true := by decide +kernel
set_option maxRecDepth 100000 in
theorem tm_ckL2 : ((tm_B_L_law.drop 12).take 6).all (fun b => tm_chk 259 b.1 b.2) = true := by decide +kernel
set_option maxRecDepth 100000 in
theorem tm_ckL3 : ((tm_B_L_law.drop 18).take 6).all (fun b => tm_chk 259 b.1 b.2) = true := by decide +kernel
set_option maxRecDepth 100000 in
theorem tm_ckL4 : ((tm_B_L_law.drop 24).take 6).all (fun b => tm_chk 259 b.1 b.2) = true := by decide +kernel
set_option maxRecDepth 100000 in
theorem tm_ckL5 : ((tm_B_L_law.drop 30).take 6).all (fun b => tm_chk 259 b.1 b.2) = true := by decide +kernel
set_option maxRecDepth 100000 in
theorem tm_ckL6 : ((tm_B_L_law.drop 36).take 6).all (fun b => tm_chk 259 b.1 b.2) = true := by decide +kernel
set_option maxRecDepth 100000 in
theorem tm_ckL7 : ((tm_B_L_law.drop 42).take 6).all (fun b => tm_chk 259 b.1 b.2) = true := by decide +kernel
set_option maxRecDepth 100000 in
theorem tm_ckL8 : ((tm_B_L_law.drop 48).take 6).all (fun b => tm_chk 259 b.1 b.2) = true := by decide +kernel
set_option maxRecDepth 100000 in
theorem tm_entB : (List.range 260).all (fun y => tm_hasB y ((y : Int) * 10000)) = true := by decide +kernel
theorem tm_lawB : tm_chkB 259 = true := by
  show tm_B_L_law.all (fun b => tm_chk 259 b.1 b.2) = true
  refine List.all_eq_true.mpr fun b hb => ?_
  obtain ⟨j, hj⟩ := List.getElem?_of_mem hb
  have hl : j < 51 := by
    have h1 := (List.getElem?_eq_some_iff.mp hj).1
    have h2 : tm_B_L_law.length = 51 := rfl
    omega
  have key : ∀ a : Nat, a ≤ j → j < a + 6 → ((tm_B_L_law.drop a).take 6).all (fun b => tm_chk 259 b.1 b.2) = true → tm_chk 259 b.1 b.2 = true := by
    intro a h1 h2 h
    refine List.all_eq_true.mp h b (List.mem_of_getElem? (i := j - a) ?_)
    rw [List.getElem?_take_of_lt (by omega), List.getElem?_drop, show a + (j - a) = j by omega]
    exact hj
  rcases (by omega : (0 ≤ j ∧ j < 6) ∨ (6 ≤ j ∧ j < 12) ∨ (12 ≤ j ∧ j < 18) ∨ (18 ≤ j ∧ j < 24) ∨ (24 ≤ j ∧ j < 30) ∨ (30 ≤ j ∧ j < 36) ∨ (36 ≤ j ∧ j < 42) ∨ (42 ≤ j ∧ j < 48) ∨ (48 ≤ j ∧ j < 54)) with h | h | h | h | h | h | h | h | h
  · exact key 0 h.1 h.2 tm_ckL0
  · exact key 6 h.1 h.2 tm_ckL1
  · exact key 12 h.1 h.2 tm_ckL2
  · exact key 18 h.1 h.2 tm_ckL3
  · exact key 24 h.1 h.2 tm_ckL4
  · exact key 30 h.1 h.2 tm_ckL5
  · exact key 36 h.1 h.2 tm_ckL6
  · exact key 42 h.1 h.2 tm_ckL7
  · exact key 48 h.1 h.2 tm_ckL8
theorem tm_hBall : ∀ y, y < 260 → tm_chkB y = true ∧ tm_hasB y ((y : Int) * 10000) = true := by
  intro y hy
  refine ⟨?_, tm_all_get tm_entB hy⟩
  by_cases h : y < 259
  · exact tm_ck_all y h
  · have : y = 259 := by omega
    subst this
    exact tm_lawB
