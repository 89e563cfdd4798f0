/-! part 15: the cells of the two objects, and the rows that read and write them (by program: wip/whole/gen15.py) -/
theorem tm_ev_ald {d n k : Nat} {is : List Instr} {L st : List Value} {G : tm_G} {M : tm_M} {i : Int32} (h : tm_inb i n = true) (hk : (if k < 1000 then G.1[k]? else none) = some (0, n)) : tm_ev d (.iaload :: is) L (.int i :: .ref k :: st) G M = tm_ev d is L (.int (M k i.toNatClampNeg) :: st) G M := by
  by_cases h0 : k < 1000
  · rw [if_pos h0] at hk
    exact tm_ev_stp rfl (by simp [tm_stp, tm_stk, tm_loc, tm_rdg, tm_rd, h0, hk, h])
  · rw [if_neg h0] at hk; cases hk
theorem tm_ev_ast {d n k : Nat} {is : List Instr} {L st : List Value} {G : tm_G} {M : tm_M} {i v : Int32} (h : tm_inb i n = true) (hk : G.1[k]? = some (0, n)) : tm_ev d (.iastore :: is) L (.int v :: .int i :: .ref k :: st) G M = tm_ev d is L st G (tm_up M k i.toNatClampNeg v) :=
  tm_ev_stp rfl (by simp [tm_stp, tm_stk, tm_loc, tm_rdg, tm_wrg, tm_wr, hk, h])
theorem tm_ev_bld {d n k : Nat} {is : List Instr} {L st : List Value} {G : tm_G} {M : tm_M} {i : Int32} (h : tm_inb i n = true) (hk : G.1[k]? = some (1, n)) : tm_ev d (.baload :: is) L (.int i :: .ref k :: st) G M = tm_ev d is L (.int (M k i.toNatClampNeg).toInt8.toInt32 :: st) G M :=
  tm_ev_stp rfl (by simp [tm_stp, tm_stk, tm_loc, tm_rdg, tm_rb, hk, h])
theorem tm_ev_bst {d n k : Nat} {is : List Instr} {L st : List Value} {G : tm_G} {M : tm_M} {i v : Int32} (h : tm_inb i n = true) (hk : G.1[k]? = some (1, n)) : tm_ev d (.bastore :: is) L (.int v :: .int i :: .ref k :: st) G M = tm_ev d is L st G (tm_up M k i.toNatClampNeg v.toInt8.toInt32) :=
  tm_ev_stp rfl (by simp [tm_stp, tm_stk, tm_loc, tm_rdg, tm_wrg, tm_wb, hk, h])
theorem tm_ev_zld {d n k : Nat} {is : List Instr} {L st : List Value} {G : tm_G} {M : tm_M} {i : Int32} (h : tm_inb i n = true) (hk : G.1[k]? = some (2, n)) : tm_ev d (.baload :: is) L (.int i :: .ref k :: st) G M = tm_ev d is L (.int (M k i.toNatClampNeg) :: st) G M :=
  tm_ev_stp rfl (by simp [tm_stp, tm_stk, tm_loc, tm_rdg, tm_rb, hk, h])
theorem tm_ev_zst {d n k : Nat} {is : List Instr} {L st : List Value} {G : tm_G} {M : tm_M} {i v : Int32} (h : tm_inb i n = true) (hk : G.1[k]? = some (2, n)) : tm_ev d (.bastore :: is) L (.int v :: .int i :: .ref k :: st) G M = tm_ev d is L st G (tm_up M k i.toNatClampNeg (vp_nar .boolean v)) :=
  tm_ev_stp rfl (by simp [tm_stp, tm_stk, tm_loc, tm_rdg, tm_wrg, tm_wb, hk, h])
theorem tm_inv_ok {y k : Nat} {st as rest : List Value} {G : tm_G} (hp : tm_pop (tm_np y) st [] = some (as, .ref k :: rest)) (hy : y < 259) (hs : tm_st y = false) (hk : tm_isC G k (tm_ci y) = true) (hr : (rest.map fun v => v.category).sum ≤ 8) (hl : (tm_ent y (.ref k :: as)).length ≤ tm_mx y) : tm_inv y st G = some (.inr (.inr (y, .ref k :: as, rest))) := by
  unfold tm_inv
  rw [hp]
  exact if_pos ⟨hy, hs, hk, hr, hl⟩
theorem tm_ins_ok {y : Nat} {st as rest : List Value} (hp : tm_pop (tm_np y) st [] = some (as, rest)) (hy : y < 259) (hs : tm_st y = true) (hr : (rest.map fun v => v.category).sum ≤ 8) (hl : (tm_ent y as).length ≤ tm_mx y) : tm_ins y st = some (.inr (.inr (y, as, rest))) := by
  unfold tm_ins
  rw [hp]
  exact if_pos ⟨hy, hs, hr, hl⟩
def tm_SH : List (Nat × Nat) := [(111, 9), (110, 11), (105, 13), (0, 24), (0, 25), (0, 12), (0, 12), (0, 12), (0, 12), (0, 12), (0, 325), (0, 25), (106, 8), (0, 12), (0, 12), (0, 12), (0, 96), (0, 96), (0, 96), (0, 8), (101, 6), (0, 40), (0, 40), (0, 40), (0, 40), (0, 40), (3, 2), (108, 3), (0, 60), (0, 60), (108, 3), (0, 60), (0, 60), (1, 60), (0, 300), (110, 11), (105, 13), (0, 24), (0, 25), (0, 12), (0, 12), (0, 12), (0, 12), (0, 12), (0, 325), (0, 25), (106, 8), (0, 12), (0, 12), (0, 12), (0, 96), (0, 96), (0, 96), (0, 8), (101, 6), (0, 40), (0, 40), (0, 40), (0, 40), (0, 40), (3, 2), (108, 3), (0, 60), (0, 60), (108, 3), (0, 60), (0, 60), (1, 60), (0, 300), (103, 13), (0, 300), (100, 4), (100, 4), (0, 6), (0, 808), (102, 5), (0, 6), (104, 6), (0, 60), (109, 5), (0, 40), (4, 4), (107, 4), (0, 24), (0, 24), (107, 4), (0, 24), (0, 24), (107, 4), (0, 24), (0, 24), (107, 4), (0, 24), (0, 24), (0, 6), (112, 31), (0, 1258), (0, 1258), (0, 6), (0, 6), (0, 6), (0, 325), (0, 300), (2, 12), (0, 24), (0, 40), (0, 4), (0, 4), (0, 96), (0, 24)]
def tm_fnd (r : List (Nat × Nat × Nat)) (k j : Nat) : Option Nat := match r with
  | [] => none
  | q :: r => if q.1 = k ∧ q.2.1 = j then some q.2.2 else tm_fnd r k j
def tm_RL : List (Nat × Nat × Nat) := [(2, 4, 3), (2, 5, 4), (2, 6, 5), (2, 7, 6), (2, 8, 7), (2, 9, 8), (2, 10, 9), (2, 11, 10), (2, 12, 11), (1, 0, 2), (12, 1, 13), (12, 2, 14), (12, 3, 15), (12, 4, 16), (12, 5, 17), (12, 6, 18), (12, 7, 19), (1, 1, 12), (20, 1, 21), (20, 2, 22), (20, 3, 23), (20, 4, 24), (20, 5, 25), (1, 2, 20), (27, 0, 28), (27, 2, 29), (26, 0, 27), (30, 0, 31), (30, 2, 32), (26, 1, 30), (1, 3, 26), (1, 4, 33), (1, 6, 34), (0, 0, 1), (36, 4, 37), (36, 5, 38), (36, 6, 39), (36, 7, 40), (36, 8, 41), (36, 9, 42), (36, 10, 43), (36, 11, 44), (36, 12, 45), (35, 0, 36), (46, 1, 47), (46, 2, 48), (46, 3, 49), (46, 4, 50), (46, 5, 51), (46, 6, 52), (46, 7, 53), (35, 1, 46), (54, 1, 55), (54, 2, 56), (54, 3, 57), (54, 4, 58), (54, 5, 59), (35, 2, 54), (61, 0, 62), (61, 2, 63), (60, 0, 61), (64, 0, 65), (64, 2, 66), (60, 1, 64), (35, 3, 60), (35, 4, 67), (35, 6, 68), (0, 1, 35), (69, 2, 70), (69, 3, 71), (69, 4, 72), (69, 5, 73), (69, 9, 74), (69, 1, 1), (0, 2, 69), (75, 4, 76), (75, 3, 1), (0, 3, 75), (77, 0, 78), (77, 3, 33), (0, 4, 77), (79, 0, 80), (0, 5, 79), (82, 2, 83), (82, 3, 84), (81, 0, 82), (85, 2, 86), (85, 3, 87), (81, 1, 85), (88, 2, 89), (88, 3, 90), (81, 2, 88), (91, 2, 92), (91, 3, 93), (81, 3, 91), (0, 6, 81), (0, 7, 94), (95, 0, 96), (95, 1, 97), (95, 4, 98), (95, 10, 99), (95, 11, 100), (95, 12, 101), (95, 13, 102), (95, 14, 103), (95, 21, 104), (95, 22, 105), (95, 27, 106), (95, 28, 107), (95, 29, 108), (95, 30, 109)]
def tm_FF : tm_F := tm_fnd tm_RL
def tm_GG (l : Nat) (x : Nat → Int32) : tm_G := (tm_SH, tm_FF, l, x)
section TMC
variable {d l : Nat} {is : List Instr} {L st : List Value} {M : tm_M} {x : Nat → Int32}
theorem c_0 : tm_isC (tm_GG l x) (0 : Addr) 11 = true := congrArg (fun b : Bool => b) rfl
theorem g_0_0 : tm_ev d (.getfield 1100 :: is) L (.ref 0 :: st) (tm_GG l x) M = tm_ev d is L (.ref 1 :: st) (tm_GG l x) M := tm_ev_stp rfl rfl
theorem g_0_1 : tm_ev d (.getfield 1101 :: is) L (.ref 0 :: st) (tm_GG l x) M = tm_ev d is L (.ref 35 :: st) (tm_GG l x) M := tm_ev_stp rfl rfl
theorem g_0_2 : tm_ev d (.getfield 1102 :: is) L (.ref 0 :: st) (tm_GG l x) M = tm_ev d is L (.ref 69 :: st) (tm_GG l x) M := tm_ev_stp rfl rfl
theorem g_0_3 : tm_ev d (.getfield 1103 :: is) L (.ref 0 :: st) (tm_GG l x) M = tm_ev d is L (.ref 75 :: st) (tm_GG l x) M := tm_ev_stp rfl rfl
theorem g_0_4 : tm_ev d (.getfield 1104 :: is) L (.ref 0 :: st) (tm_GG l x) M = tm_ev d is L (.ref 77 :: st) (tm_GG l x) M := tm_ev_stp rfl rfl
theorem g_0_5 : tm_ev d (.getfield 1105 :: is) L (.ref 0 :: st) (tm_GG l x) M = tm_ev d is L (.ref 79 :: st) (tm_GG l x) M := tm_ev_stp rfl rfl
theorem g_0_6 : tm_ev d (.getfield 1106 :: is) L (.ref 0 :: st) (tm_GG l x) M = tm_ev d is L (.ref 81 :: st) (tm_GG l x) M := tm_ev_stp rfl rfl
theorem g_0_7 : tm_ev d (.getfield 1107 :: is) L (.ref 0 :: st) (tm_GG l x) M = tm_ev d is L (.ref 94 :: st) (tm_GG l x) M := tm_ev_stp rfl rfl
theorem g_0_8 : tm_ev d (.getfield 1108 :: is) L (.ref 0 :: st) (tm_GG l x) M = tm_ev d is L (.int (M 0 8) :: st) (tm_GG l x) M := tm_ev_stp rfl rfl
theorem p_0_8 {v : Int32} : tm_ev d (.putfield 1108 :: is) L (.int v :: .ref 0 :: st) (tm_GG l x) M = tm_ev d is L st (tm_GG l x) (tm_up M 0 8 v) := tm_ev_stp rfl rfl
theorem c_1 : tm_isC (tm_GG l x) (1 : Addr) 10 = true := congrArg (fun b : Bool => b) rfl
theorem g_1_0 : tm_ev d (.getfield 1000 :: is) L (.ref 1 :: st) (tm_GG l x) M = tm_ev d is L (.ref 2 :: st) (tm_GG l x) M := tm_ev_stp rfl rfl
theorem g_1_1 : tm_ev d (.getfield 1001 :: is) L (.ref 1 :: st) (tm_GG l x) M = tm_ev d is L (.ref 12 :: st) (tm_GG l x) M := tm_ev_stp rfl rfl
theorem g_1_2 : tm_ev d (.getfield 1002 :: is) L (.ref 1 :: st) (tm_GG l x) M = tm_ev d is L (.ref 20 :: st) (tm_GG l x) M := tm_ev_stp rfl rfl
theorem g_1_3 : tm_ev d (.getfield 1003 :: is) L (.ref 1 :: st) (tm_GG l x) M = tm_ev d is L (.ref 26 :: st) (tm_GG l x) M := tm_ev_stp rfl rfl
theorem g_1_4 : tm_ev d (.getfield 1004 :: is) L (.ref 1 :: st) (tm_GG l x) M = tm_ev d is L (.ref 33 :: st) (tm_GG l x) M := tm_ev_stp rfl rfl
theorem g_1_5 : tm_ev d (.getfield 1005 :: is) L (.ref 1 :: st) (tm_GG l x) M = tm_ev d is L (.int (M 1 5) :: st) (tm_GG l x) M := tm_ev_stp rfl rfl
theorem p_1_5 {v : Int32} : tm_ev d (.putfield 1005 :: is) L (.int v :: .ref 1 :: st) (tm_GG l x) M = tm_ev d is L st (tm_GG l x) (tm_up M 1 5 v) := tm_ev_stp rfl rfl
theorem g_1_6 : tm_ev d (.getfield 1006 :: is) L (.ref 1 :: st) (tm_GG l x) M = tm_ev d is L (.ref 34 :: st) (tm_GG l x) M := tm_ev_stp rfl rfl
theorem g_1_7 : tm_ev d (.getfield 1007 :: is) L (.ref 1 :: st) (tm_GG l x) M = tm_ev d is L (.int (M 1 7) :: st) (tm_GG l x) M := tm_ev_stp rfl rfl
theorem p_1_7 {v : Int32} : tm_ev d (.putfield 1007 :: is) L (.int v :: .ref 1 :: st) (tm_GG l x) M = tm_ev d is L st (tm_GG l x) (tm_up M 1 7 v) := tm_ev_stp rfl rfl
theorem g_1_8 : tm_ev d (.getfield 1008 :: is) L (.ref 1 :: st) (tm_GG l x) M = tm_ev d is L (.int (M 1 8) :: st) (tm_GG l x) M := tm_ev_stp rfl rfl
theorem p_1_8 {v : Int32} : tm_ev d (.putfield 1008 :: is) L (.int v :: .ref 1 :: st) (tm_GG l x) M = tm_ev d is L st (tm_GG l x) (tm_up M 1 8 v) := tm_ev_stp rfl rfl
theorem g_1_9 : tm_ev d (.getfield 1009 :: is) L (.ref 1 :: st) (tm_GG l x) M = tm_ev d is L (.int (M 1 9) :: st) (tm_GG l x) M := tm_ev_stp rfl rfl
theorem p_1_9 {v : Int32} : tm_ev d (.putfield 1009 :: is) L (.int v :: .ref 1 :: st) (tm_GG l x) M = tm_ev d is L st (tm_GG l x) (tm_up M 1 9 v) := tm_ev_stp rfl rfl
theorem g_1_10 : tm_ev d (.getfield 1010 :: is) L (.ref 1 :: st) (tm_GG l x) M = tm_ev d is L (.int (M 1 10) :: st) (tm_GG l x) M := tm_ev_stp rfl rfl
theorem p_1_10 {v : Int32} : tm_ev d (.putfield 1010 :: is) L (.int v :: .ref 1 :: st) (tm_GG l x) M = tm_ev d is L st (tm_GG l x) (tm_up M 1 10 v) := tm_ev_stp rfl rfl
theorem c_2 : tm_isC (tm_GG l x) (2 : Addr) 5 = true := congrArg (fun b : Bool => b) rfl
theorem g_2_0 : tm_ev d (.getfield 500 :: is) L (.ref 2 :: st) (tm_GG l x) M = tm_ev d is L (.int (M 2 0) :: st) (tm_GG l x) M := tm_ev_stp rfl rfl
theorem p_2_0 {v : Int32} : tm_ev d (.putfield 500 :: is) L (.int v :: .ref 2 :: st) (tm_GG l x) M = tm_ev d is L st (tm_GG l x) (tm_up M 2 0 v) := tm_ev_stp rfl rfl
theorem g_2_1 : tm_ev d (.getfield 501 :: is) L (.ref 2 :: st) (tm_GG l x) M = tm_ev d is L (.int (M 2 1) :: st) (tm_GG l x) M := tm_ev_stp rfl rfl
theorem p_2_1 {v : Int32} : tm_ev d (.putfield 501 :: is) L (.int v :: .ref 2 :: st) (tm_GG l x) M = tm_ev d is L st (tm_GG l x) (tm_up M 2 1 v) := tm_ev_stp rfl rfl
theorem g_2_2 : tm_ev d (.getfield 502 :: is) L (.ref 2 :: st) (tm_GG l x) M = tm_ev d is L (.int (M 2 2) :: st) (tm_GG l x) M := tm_ev_stp rfl rfl
theorem p_2_2 {v : Int32} : tm_ev d (.putfield 502 :: is) L (.int v :: .ref 2 :: st) (tm_GG l x) M = tm_ev d is L st (tm_GG l x) (tm_up M 2 2 v) := tm_ev_stp rfl rfl
theorem g_2_3 : tm_ev d (.getfield 503 :: is) L (.ref 2 :: st) (tm_GG l x) M = tm_ev d is L (.int (M 2 3) :: st) (tm_GG l x) M := tm_ev_stp rfl rfl
theorem p_2_3 {v : Int32} : tm_ev d (.putfield 503 :: is) L (.int v :: .ref 2 :: st) (tm_GG l x) M = tm_ev d is L st (tm_GG l x) (tm_up M 2 3 v) := tm_ev_stp rfl rfl
theorem g_2_4 : tm_ev d (.getfield 504 :: is) L (.ref 2 :: st) (tm_GG l x) M = tm_ev d is L (.ref 3 :: st) (tm_GG l x) M := tm_ev_stp rfl rfl
theorem g_2_5 : tm_ev d (.getfield 505 :: is) L (.ref 2 :: st) (tm_GG l x) M = tm_ev d is L (.ref 4 :: st) (tm_GG l x) M := tm_ev_stp rfl rfl
theorem g_2_6 : tm_ev d (.getfield 506 :: is) L (.ref 2 :: st) (tm_GG l x) M = tm_ev d is L (.ref 5 :: st) (tm_GG l x) M := tm_ev_stp rfl rfl
theorem g_2_7 : tm_ev d (.getfield 507 :: is) L (.ref 2 :: st) (tm_GG l x) M = tm_ev d is L (.ref 6 :: st) (tm_GG l x) M := tm_ev_stp rfl rfl
theorem g_2_8 : tm_ev d (.getfield 508 :: is) L (.ref 2 :: st) (tm_GG l x) M = tm_ev d is L (.ref 7 :: st) (tm_GG l x) M := tm_ev_stp rfl rfl
theorem g_2_9 : tm_ev d (.getfield 509 :: is) L (.ref 2 :: st) (tm_GG l x) M = tm_ev d is L (.ref 8 :: st) (tm_GG l x) M := tm_ev_stp rfl rfl
theorem g_2_10 : tm_ev d (.getfield 510 :: is) L (.ref 2 :: st) (tm_GG l x) M = tm_ev d is L (.ref 9 :: st) (tm_GG l x) M := tm_ev_stp rfl rfl
theorem g_2_11 : tm_ev d (.getfield 511 :: is) L (.ref 2 :: st) (tm_GG l x) M = tm_ev d is L (.ref 10 :: st) (tm_GG l x) M := tm_ev_stp rfl rfl
theorem g_2_12 : tm_ev d (.getfield 512 :: is) L (.ref 2 :: st) (tm_GG l x) M = tm_ev d is L (.ref 11 :: st) (tm_GG l x) M := tm_ev_stp rfl rfl
theorem al_3 {i : Int32} (h : tm_inb i 24 = true) : tm_ev d (.iaload :: is) L (.int i :: .ref 3 :: st) (tm_GG l x) M = tm_ev d is L (.int (M 3 i.toNatClampNeg) :: st) (tm_GG l x) M := tm_ev_ald h rfl
theorem as_3 {i v : Int32} (h : tm_inb i 24 = true) : tm_ev d (.iastore :: is) L (.int v :: .int i :: .ref 3 :: st) (tm_GG l x) M = tm_ev d is L st (tm_GG l x) (tm_up M 3 i.toNatClampNeg v) := tm_ev_ast h rfl
theorem an_3 : tm_ev d (.arraylength :: is) L (.ref 3 :: st) (tm_GG l x) M = tm_ev d is L (.int (Int32.ofNat 24) :: st) (tm_GG l x) M := tm_ev_stp rfl rfl
theorem al_4 {i : Int32} (h : tm_inb i 25 = true) : tm_ev d (.iaload :: is) L (.int i :: .ref 4 :: st) (tm_GG l x) M = tm_ev d is L (.int (M 4 i.toNatClampNeg) :: st) (tm_GG l x) M := tm_ev_ald h rfl
theorem as_4 {i v : Int32} (h : tm_inb i 25 = true) : tm_ev d (.iastore :: is) L (.int v :: .int i :: .ref 4 :: st) (tm_GG l x) M = tm_ev d is L st (tm_GG l x) (tm_up M 4 i.toNatClampNeg v) := tm_ev_ast h rfl
theorem an_4 : tm_ev d (.arraylength :: is) L (.ref 4 :: st) (tm_GG l x) M = tm_ev d is L (.int (Int32.ofNat 25) :: st) (tm_GG l x) M := tm_ev_stp rfl rfl
theorem al_5 {i : Int32} (h : tm_inb i 12 = true) : tm_ev d (.iaload :: is) L (.int i :: .ref 5 :: st) (tm_GG l x) M = tm_ev d is L (.int (M 5 i.toNatClampNeg) :: st) (tm_GG l x) M := tm_ev_ald h rfl
theorem as_5 {i v : Int32} (h : tm_inb i 12 = true) : tm_ev d (.iastore :: is) L (.int v :: .int i :: .ref 5 :: st) (tm_GG l x) M = tm_ev d is L st (tm_GG l x) (tm_up M 5 i.toNatClampNeg v) := tm_ev_ast h rfl
theorem an_5 : tm_ev d (.arraylength :: is) L (.ref 5 :: st) (tm_GG l x) M = tm_ev d is L (.int (Int32.ofNat 12) :: st) (tm_GG l x) M := tm_ev_stp rfl rfl
theorem al_6 {i : Int32} (h : tm_inb i 12 = true) : tm_ev d (.iaload :: is) L (.int i :: .ref 6 :: st) (tm_GG l x) M = tm_ev d is L (.int (M 6 i.toNatClampNeg) :: st) (tm_GG l x) M := tm_ev_ald h rfl
theorem as_6 {i v : Int32} (h : tm_inb i 12 = true) : tm_ev d (.iastore :: is) L (.int v :: .int i :: .ref 6 :: st) (tm_GG l x) M = tm_ev d is L st (tm_GG l x) (tm_up M 6 i.toNatClampNeg v) := tm_ev_ast h rfl
theorem an_6 : tm_ev d (.arraylength :: is) L (.ref 6 :: st) (tm_GG l x) M = tm_ev d is L (.int (Int32.ofNat 12) :: st) (tm_GG l x) M := tm_ev_stp rfl rfl
theorem al_7 {i : Int32} (h : tm_inb i 12 = true) : tm_ev d (.iaload :: is) L (.int i :: .ref 7 :: st) (tm_GG l x) M = tm_ev d is L (.int (M 7 i.toNatClampNeg) :: st) (tm_GG l x) M := tm_ev_ald h rfl
theorem as_7 {i v : Int32} (h : tm_inb i 12 = true) : tm_ev d (.iastore :: is) L (.int v :: .int i :: .ref 7 :: st) (tm_GG l x) M = tm_ev d is L st (tm_GG l x) (tm_up M 7 i.toNatClampNeg v) := tm_ev_ast h rfl
theorem an_7 : tm_ev d (.arraylength :: is) L (.ref 7 :: st) (tm_GG l x) M = tm_ev d is L (.int (Int32.ofNat 12) :: st) (tm_GG l x) M := tm_ev_stp rfl rfl
theorem al_8 {i : Int32} (h : tm_inb i 12 = true) : tm_ev d (.iaload :: is) L (.int i :: .ref 8 :: st) (tm_GG l x) M = tm_ev d is L (.int (M 8 i.toNatClampNeg) :: st) (tm_GG l x) M := tm_ev_ald h rfl
theorem as_8 {i v : Int32} (h : tm_inb i 12 = true) : tm_ev d (.iastore :: is) L (.int v :: .int i :: .ref 8 :: st) (tm_GG l x) M = tm_ev d is L st (tm_GG l x) (tm_up M 8 i.toNatClampNeg v) := tm_ev_ast h rfl
theorem an_8 : tm_ev d (.arraylength :: is) L (.ref 8 :: st) (tm_GG l x) M = tm_ev d is L (.int (Int32.ofNat 12) :: st) (tm_GG l x) M := tm_ev_stp rfl rfl
theorem al_9 {i : Int32} (h : tm_inb i 12 = true) : tm_ev d (.iaload :: is) L (.int i :: .ref 9 :: st) (tm_GG l x) M = tm_ev d is L (.int (M 9 i.toNatClampNeg) :: st) (tm_GG l x) M := tm_ev_ald h rfl
theorem as_9 {i v : Int32} (h : tm_inb i 12 = true) : tm_ev d (.iastore :: is) L (.int v :: .int i :: .ref 9 :: st) (tm_GG l x) M = tm_ev d is L st (tm_GG l x) (tm_up M 9 i.toNatClampNeg v) := tm_ev_ast h rfl
theorem an_9 : tm_ev d (.arraylength :: is) L (.ref 9 :: st) (tm_GG l x) M = tm_ev d is L (.int (Int32.ofNat 12) :: st) (tm_GG l x) M := tm_ev_stp rfl rfl
theorem al_10 {i : Int32} (h : tm_inb i 325 = true) : tm_ev d (.iaload :: is) L (.int i :: .ref 10 :: st) (tm_GG l x) M = tm_ev d is L (.int (M 10 i.toNatClampNeg) :: st) (tm_GG l x) M := tm_ev_ald h rfl
theorem as_10 {i v : Int32} (h : tm_inb i 325 = true) : tm_ev d (.iastore :: is) L (.int v :: .int i :: .ref 10 :: st) (tm_GG l x) M = tm_ev d is L st (tm_GG l x) (tm_up M 10 i.toNatClampNeg v) := tm_ev_ast h rfl
theorem an_10 : tm_ev d (.arraylength :: is) L (.ref 10 :: st) (tm_GG l x) M = tm_ev d is L (.int (Int32.ofNat 325) :: st) (tm_GG l x) M := tm_ev_stp rfl rfl
theorem al_11 {i : Int32} (h : tm_inb i 25 = true) : tm_ev d (.iaload :: is) L (.int i :: .ref 11 :: st) (tm_GG l x) M = tm_ev d is L (.int (M 11 i.toNatClampNeg) :: st) (tm_GG l x) M := tm_ev_ald h rfl
theorem as_11 {i v : Int32} (h : tm_inb i 25 = true) : tm_ev d (.iastore :: is) L (.int v :: .int i :: .ref 11 :: st) (tm_GG l x) M = tm_ev d is L st (tm_GG l x) (tm_up M 11 i.toNatClampNeg v) := tm_ev_ast h rfl
theorem an_11 : tm_ev d (.arraylength :: is) L (.ref 11 :: st) (tm_GG l x) M = tm_ev d is L (.int (Int32.ofNat 25) :: st) (tm_GG l x) M := tm_ev_stp rfl rfl
theorem c_12 : tm_isC (tm_GG l x) (12 : Addr) 6 = true := congrArg (fun b : Bool => b) rfl
theorem g_12_0 : tm_ev d (.getfield 600 :: is) L (.ref 12 :: st) (tm_GG l x) M = tm_ev d is L (.int (M 12 0) :: st) (tm_GG l x) M := tm_ev_stp rfl rfl
theorem p_12_0 {v : Int32} : tm_ev d (.putfield 600 :: is) L (.int v :: .ref 12 :: st) (tm_GG l x) M = tm_ev d is L st (tm_GG l x) (tm_up M 12 0 v) := tm_ev_stp rfl rfl
theorem g_12_1 : tm_ev d (.getfield 601 :: is) L (.ref 12 :: st) (tm_GG l x) M = tm_ev d is L (.ref 13 :: st) (tm_GG l x) M := tm_ev_stp rfl rfl
theorem g_12_2 : tm_ev d (.getfield 602 :: is) L (.ref 12 :: st) (tm_GG l x) M = tm_ev d is L (.ref 14 :: st) (tm_GG l x) M := tm_ev_stp rfl rfl
theorem g_12_3 : tm_ev d (.getfield 603 :: is) L (.ref 12 :: st) (tm_GG l x) M = tm_ev d is L (.ref 15 :: st) (tm_GG l x) M := tm_ev_stp rfl rfl
theorem g_12_4 : tm_ev d (.getfield 604 :: is) L (.ref 12 :: st) (tm_GG l x) M = tm_ev d is L (.ref 16 :: st) (tm_GG l x) M := tm_ev_stp rfl rfl
theorem g_12_5 : tm_ev d (.getfield 605 :: is) L (.ref 12 :: st) (tm_GG l x) M = tm_ev d is L (.ref 17 :: st) (tm_GG l x) M := tm_ev_stp rfl rfl
theorem g_12_6 : tm_ev d (.getfield 606 :: is) L (.ref 12 :: st) (tm_GG l x) M = tm_ev d is L (.ref 18 :: st) (tm_GG l x) M := tm_ev_stp rfl rfl
theorem g_12_7 : tm_ev d (.getfield 607 :: is) L (.ref 12 :: st) (tm_GG l x) M = tm_ev d is L (.ref 19 :: st) (tm_GG l x) M := tm_ev_stp rfl rfl
theorem al_13 {i : Int32} (h : tm_inb i 12 = true) : tm_ev d (.iaload :: is) L (.int i :: .ref 13 :: st) (tm_GG l x) M = tm_ev d is L (.int (M 13 i.toNatClampNeg) :: st) (tm_GG l x) M := tm_ev_ald h rfl
theorem as_13 {i v : Int32} (h : tm_inb i 12 = true) : tm_ev d (.iastore :: is) L (.int v :: .int i :: .ref 13 :: st) (tm_GG l x) M = tm_ev d is L st (tm_GG l x) (tm_up M 13 i.toNatClampNeg v) := tm_ev_ast h rfl
theorem an_13 : tm_ev d (.arraylength :: is) L (.ref 13 :: st) (tm_GG l x) M = tm_ev d is L (.int (Int32.ofNat 12) :: st) (tm_GG l x) M := tm_ev_stp rfl rfl
theorem al_14 {i : Int32} (h : tm_inb i 12 = true) : tm_ev d (.iaload :: is) L (.int i :: .ref 14 :: st) (tm_GG l x) M = tm_ev d is L (.int (M 14 i.toNatClampNeg) :: st) (tm_GG l x) M := tm_ev_ald h rfl
theorem as_14 {i v : Int32} (h : tm_inb i 12 = true) : tm_ev d (.iastore :: is) L (.int v :: .int i :: .ref 14 :: st) (tm_GG l x) M = tm_ev d is L st (tm_GG l x) (tm_up M 14 i.toNatClampNeg v) := tm_ev_ast h rfl
theorem an_14 : tm_ev d (.arraylength :: is) L (.ref 14 :: st) (tm_GG l x) M = tm_ev d is L (.int (Int32.ofNat 12) :: st) (tm_GG l x) M := tm_ev_stp rfl rfl
theorem al_15 {i : Int32} (h : tm_inb i 12 = true) : tm_ev d (.iaload :: is) L (.int i :: .ref 15 :: st) (tm_GG l x) M = tm_ev d is L (.int (M 15 i.toNatClampNeg) :: st) (tm_GG l x) M := tm_ev_ald h rfl
theorem as_15 {i v : Int32} (h : tm_inb i 12 = true) : tm_ev d (.iastore :: is) L (.int v :: .int i :: .ref 15 :: st) (tm_GG l x) M = tm_ev d is L st (tm_GG l x) (tm_up M 15 i.toNatClampNeg v) := tm_ev_ast h rfl
theorem an_15 : tm_ev d (.arraylength :: is) L (.ref 15 :: st) (tm_GG l x) M = tm_ev d is L (.int (Int32.ofNat 12) :: st) (tm_GG l x) M := tm_ev_stp rfl rfl
theorem al_16 {i : Int32} (h : tm_inb i 96 = true) : tm_ev d (.iaload :: is) L (.int i :: .ref 16 :: st) (tm_GG l x) M = tm_ev d is L (.int (M 16 i.toNatClampNeg) :: st) (tm_GG l x) M := tm_ev_ald h rfl
theorem as_16 {i v : Int32} (h : tm_inb i 96 = true) : tm_ev d (.iastore :: is) L (.int v :: .int i :: .ref 16 :: st) (tm_GG l x) M = tm_ev d is L st (tm_GG l x) (tm_up M 16 i.toNatClampNeg v) := tm_ev_ast h rfl
theorem an_16 : tm_ev d (.arraylength :: is) L (.ref 16 :: st) (tm_GG l x) M = tm_ev d is L (.int (Int32.ofNat 96) :: st) (tm_GG l x) M := tm_ev_stp rfl rfl
theorem al_17 {i : Int32} (h : tm_inb i 96 = true) : tm_ev d (.iaload :: is) L (.int i :: .ref 17 :: st) (tm_GG l x) M = tm_ev d is L (.int (M 17 i.toNatClampNeg) :: st) (tm_GG l x) M := tm_ev_ald h rfl
theorem as_17 {i v : Int32} (h : tm_inb i 96 = true) : tm_ev d (.iastore :: is) L (.int v :: .int i :: .ref 17 :: st) (tm_GG l x) M = tm_ev d is L st (tm_GG l x) (tm_up M 17 i.toNatClampNeg v) := tm_ev_ast h rfl
theorem an_17 : tm_ev d (.arraylength :: is) L (.ref 17 :: st) (tm_GG l x) M = tm_ev d is L (.int (Int32.ofNat 96) :: st) (tm_GG l x) M := tm_ev_stp rfl rfl
theorem al_18 {i : Int32} (h : tm_inb i 96 = true) : tm_ev d (.iaload :: is) L (.int i :: .ref 18 :: st) (tm_GG l x) M = tm_ev d is L (.int (M 18 i.toNatClampNeg) :: st) (tm_GG l x) M := tm_ev_ald h rfl
theorem as_18 {i v : Int32} (h : tm_inb i 96 = true) : tm_ev d (.iastore :: is) L (.int v :: .int i :: .ref 18 :: st) (tm_GG l x) M = tm_ev d is L st (tm_GG l x) (tm_up M 18 i.toNatClampNeg v) := tm_ev_ast h rfl
theorem an_18 : tm_ev d (.arraylength :: is) L (.ref 18 :: st) (tm_GG l x) M = tm_ev d is L (.int (Int32.ofNat 96) :: st) (tm_GG l x) M := tm_ev_stp rfl rfl
theorem al_19 {i : Int32} (h : tm_inb i 8 = true) : tm_ev d (.iaload :: is) L (.int i :: .ref 19 :: st) (tm_GG l x) M = tm_ev d is L (.int (M 19 i.toNatClampNeg) :: st) (tm_GG l x) M := tm_ev_ald h rfl
theorem as_19 {i v : Int32} (h : tm_inb i 8 = true) : tm_ev d (.iastore :: is) L (.int v :: .int i :: .ref 19 :: st) (tm_GG l x) M = tm_ev d is L st (tm_GG l x) (tm_up M 19 i.toNatClampNeg v) := tm_ev_ast h rfl
theorem an_19 : tm_ev d (.arraylength :: is) L (.ref 19 :: st) (tm_GG l x) M = tm_ev d is L (.int (Int32.ofNat 8) :: st) (tm_GG l x) M := tm_ev_stp rfl rfl
theorem c_20 : tm_isC (tm_GG l x) (20 : Addr) 1 = true := congrArg (fun b : Bool => b) rfl
theorem g_20_0 : tm_ev d (.getfield 100 :: is) L (.ref 20 :: st) (tm_GG l x) M = tm_ev d is L (.int (M 20 0) :: st) (tm_GG l x) M := tm_ev_stp rfl rfl
theorem p_20_0 {v : Int32} : tm_ev d (.putfield 100 :: is) L (.int v :: .ref 20 :: st) (tm_GG l x) M = tm_ev d is L st (tm_GG l x) (tm_up M 20 0 v) := tm_ev_stp rfl rfl
theorem g_20_1 : tm_ev d (.getfield 101 :: is) L (.ref 20 :: st) (tm_GG l x) M = tm_ev d is L (.ref 21 :: st) (tm_GG l x) M := tm_ev_stp rfl rfl
theorem g_20_2 : tm_ev d (.getfield 102 :: is) L (.ref 20 :: st) (tm_GG l x) M = tm_ev d is L (.ref 22 :: st) (tm_GG l x) M := tm_ev_stp rfl rfl
theorem g_20_3 : tm_ev d (.getfield 103 :: is) L (.ref 20 :: st) (tm_GG l x) M = tm_ev d is L (.ref 23 :: st) (tm_GG l x) M := tm_ev_stp rfl rfl
theorem g_20_4 : tm_ev d (.getfield 104 :: is) L (.ref 20 :: st) (tm_GG l x) M = tm_ev d is L (.ref 24 :: st) (tm_GG l x) M := tm_ev_stp rfl rfl
theorem g_20_5 : tm_ev d (.getfield 105 :: is) L (.ref 20 :: st) (tm_GG l x) M = tm_ev d is L (.ref 25 :: st) (tm_GG l x) M := tm_ev_stp rfl rfl
theorem al_21 {i : Int32} (h : tm_inb i 40 = true) : tm_ev d (.iaload :: is) L (.int i :: .ref 21 :: st) (tm_GG l x) M = tm_ev d is L (.int (M 21 i.toNatClampNeg) :: st) (tm_GG l x) M := tm_ev_ald h rfl
theorem as_21 {i v : Int32} (h : tm_inb i 40 = true) : tm_ev d (.iastore :: is) L (.int v :: .int i :: .ref 21 :: st) (tm_GG l x) M = tm_ev d is L st (tm_GG l x) (tm_up M 21 i.toNatClampNeg v) := tm_ev_ast h rfl
theorem an_21 : tm_ev d (.arraylength :: is) L (.ref 21 :: st) (tm_GG l x) M = tm_ev d is L (.int (Int32.ofNat 40) :: st) (tm_GG l x) M := tm_ev_stp rfl rfl
theorem al_22 {i : Int32} (h : tm_inb i 40 = true) : tm_ev d (.iaload :: is) L (.int i :: .ref 22 :: st) (tm_GG l x) M = tm_ev d is L (.int (M 22 i.toNatClampNeg) :: st) (tm_GG l x) M := tm_ev_ald h rfl
theorem as_22 {i v : Int32} (h : tm_inb i 40 = true) : tm_ev d (.iastore :: is) L (.int v :: .int i :: .ref 22 :: st) (tm_GG l x) M = tm_ev d is L st (tm_GG l x) (tm_up M 22 i.toNatClampNeg v) := tm_ev_ast h rfl
theorem an_22 : tm_ev d (.arraylength :: is) L (.ref 22 :: st) (tm_GG l x) M = tm_ev d is L (.int (Int32.ofNat 40) :: st) (tm_GG l x) M := tm_ev_stp rfl rfl
theorem al_23 {i : Int32} (h : tm_inb i 40 = true) : tm_ev d (.iaload :: is) L (.int i :: .ref 23 :: st) (tm_GG l x) M = tm_ev d is L (.int (M 23 i.toNatClampNeg) :: st) (tm_GG l x) M := tm_ev_ald h rfl
theorem as_23 {i v : Int32} (h : tm_inb i 40 = true) : tm_ev d (.iastore :: is) L (.int v :: .int i :: .ref 23 :: st) (tm_GG l x) M = tm_ev d is L st (tm_GG l x) (tm_up M 23 i.toNatClampNeg v) := tm_ev_ast h rfl
theorem an_23 : tm_ev d (.arraylength :: is) L (.ref 23 :: st) (tm_GG l x) M = tm_ev d is L (.int (Int32.ofNat 40) :: st) (tm_GG l x) M := tm_ev_stp rfl rfl
theorem al_24 {i : Int32} (h : tm_inb i 40 = true) : tm_ev d (.iaload :: is) L (.int i :: .ref 24 :: st) (tm_GG l x) M = tm_ev d is L (.int (M 24 i.toNatClampNeg) :: st) (tm_GG l x) M := tm_ev_ald h rfl
theorem as_24 {i v : Int32} (h : tm_inb i 40 = true) : tm_ev d (.iastore :: is) L (.int v :: .int i :: .ref 24 :: st) (tm_GG l x) M = tm_ev d is L st (tm_GG l x) (tm_up M 24 i.toNatClampNeg v) := tm_ev_ast h rfl
theorem an_24 : tm_ev d (.arraylength :: is) L (.ref 24 :: st) (tm_GG l x) M = tm_ev d is L (.int (Int32.ofNat 40) :: st) (tm_GG l x) M := tm_ev_stp rfl rfl
theorem al_25 {i : Int32} (h : tm_inb i 40 = true) : tm_ev d (.iaload :: is) L (.int i :: .ref 25 :: st) (tm_GG l x) M = tm_ev d is L (.int (M 25 i.toNatClampNeg) :: st) (tm_GG l x) M := tm_ev_ald h rfl
theorem as_25 {i v : Int32} (h : tm_inb i 40 = true) : tm_ev d (.iastore :: is) L (.int v :: .int i :: .ref 25 :: st) (tm_GG l x) M = tm_ev d is L st (tm_GG l x) (tm_up M 25 i.toNatClampNeg v) := tm_ev_ast h rfl
theorem an_25 : tm_ev d (.arraylength :: is) L (.ref 25 :: st) (tm_GG l x) M = tm_ev d is L (.int (Int32.ofNat 40) :: st) (tm_GG l x) M := tm_ev_stp rfl rfl
theorem ar_26_0 : tm_ev d (.aaload :: is) L (.int (Int32.ofInt 0) :: .ref 26 :: st) (tm_GG l x) M = tm_ev d is L (.ref 27 :: st) (tm_GG l x) M := tm_ev_stp rfl rfl
theorem ar_26_1 : tm_ev d (.aaload :: is) L (.int (Int32.ofInt 1) :: .ref 26 :: st) (tm_GG l x) M = tm_ev d is L (.ref 30 :: st) (tm_GG l x) M := tm_ev_stp rfl rfl
theorem an_26 : tm_ev d (.arraylength :: is) L (.ref 26 :: st) (tm_GG l x) M = tm_ev d is L (.int (Int32.ofNat 2) :: st) (tm_GG l x) M := tm_ev_stp rfl rfl
theorem c_27 : tm_isC (tm_GG l x) (27 : Addr) 8 = true := congrArg (fun b : Bool => b) rfl
theorem g_27_0 : tm_ev d (.getfield 800 :: is) L (.ref 27 :: st) (tm_GG l x) M = tm_ev d is L (.ref 28 :: st) (tm_GG l x) M := tm_ev_stp rfl rfl
theorem g_27_1 : tm_ev d (.getfield 801 :: is) L (.ref 27 :: st) (tm_GG l x) M = tm_ev d is L (.int (M 27 1) :: st) (tm_GG l x) M := tm_ev_stp rfl rfl
theorem p_27_1 {v : Int32} : tm_ev d (.putfield 801 :: is) L (.int v :: .ref 27 :: st) (tm_GG l x) M = tm_ev d is L st (tm_GG l x) (tm_up M 27 1 v) := tm_ev_stp rfl rfl
theorem g_27_2 : tm_ev d (.getfield 802 :: is) L (.ref 27 :: st) (tm_GG l x) M = tm_ev d is L (.ref 29 :: st) (tm_GG l x) M := tm_ev_stp rfl rfl
theorem al_28 {i : Int32} (h : tm_inb i 60 = true) : tm_ev d (.iaload :: is) L (.int i :: .ref 28 :: st) (tm_GG l x) M = tm_ev d is L (.int (M 28 i.toNatClampNeg) :: st) (tm_GG l x) M := tm_ev_ald h rfl
theorem as_28 {i v : Int32} (h : tm_inb i 60 = true) : tm_ev d (.iastore :: is) L (.int v :: .int i :: .ref 28 :: st) (tm_GG l x) M = tm_ev d is L st (tm_GG l x) (tm_up M 28 i.toNatClampNeg v) := tm_ev_ast h rfl
theorem an_28 : tm_ev d (.arraylength :: is) L (.ref 28 :: st) (tm_GG l x) M = tm_ev d is L (.int (Int32.ofNat 60) :: st) (tm_GG l x) M := tm_ev_stp rfl rfl
theorem al_29 {i : Int32} (h : tm_inb i 60 = true) : tm_ev d (.iaload :: is) L (.int i :: .ref 29 :: st) (tm_GG l x) M = tm_ev d is L (.int (M 29 i.toNatClampNeg) :: st) (tm_GG l x) M := tm_ev_ald h rfl
theorem as_29 {i v : Int32} (h : tm_inb i 60 = true) : tm_ev d (.iastore :: is) L (.int v :: .int i :: .ref 29 :: st) (tm_GG l x) M = tm_ev d is L st (tm_GG l x) (tm_up M 29 i.toNatClampNeg v) := tm_ev_ast h rfl
theorem an_29 : tm_ev d (.arraylength :: is) L (.ref 29 :: st) (tm_GG l x) M = tm_ev d is L (.int (Int32.ofNat 60) :: st) (tm_GG l x) M := tm_ev_stp rfl rfl
theorem c_30 : tm_isC (tm_GG l x) (30 : Addr) 8 = true := congrArg (fun b : Bool => b) rfl
theorem g_30_0 : tm_ev d (.getfield 800 :: is) L (.ref 30 :: st) (tm_GG l x) M = tm_ev d is L (.ref 31 :: st) (tm_GG l x) M := tm_ev_stp rfl rfl
theorem g_30_1 : tm_ev d (.getfield 801 :: is) L (.ref 30 :: st) (tm_GG l x) M = tm_ev d is L (.int (M 30 1) :: st) (tm_GG l x) M := tm_ev_stp rfl rfl
theorem p_30_1 {v : Int32} : tm_ev d (.putfield 801 :: is) L (.int v :: .ref 30 :: st) (tm_GG l x) M = tm_ev d is L st (tm_GG l x) (tm_up M 30 1 v) := tm_ev_stp rfl rfl
theorem g_30_2 : tm_ev d (.getfield 802 :: is) L (.ref 30 :: st) (tm_GG l x) M = tm_ev d is L (.ref 32 :: st) (tm_GG l x) M := tm_ev_stp rfl rfl
theorem al_31 {i : Int32} (h : tm_inb i 60 = true) : tm_ev d (.iaload :: is) L (.int i :: .ref 31 :: st) (tm_GG l x) M = tm_ev d is L (.int (M 31 i.toNatClampNeg) :: st) (tm_GG l x) M := tm_ev_ald h rfl
theorem as_31 {i v : Int32} (h : tm_inb i 60 = true) : tm_ev d (.iastore :: is) L (.int v :: .int i :: .ref 31 :: st) (tm_GG l x) M = tm_ev d is L st (tm_GG l x) (tm_up M 31 i.toNatClampNeg v) := tm_ev_ast h rfl
theorem an_31 : tm_ev d (.arraylength :: is) L (.ref 31 :: st) (tm_GG l x) M = tm_ev d is L (.int (Int32.ofNat 60) :: st) (tm_GG l x) M := tm_ev_stp rfl rfl
theorem al_32 {i : Int32} (h : tm_inb i 60 = true) : tm_ev d (.iaload :: is) L (.int i :: .ref 32 :: st) (tm_GG l x) M = tm_ev d is L (.int (M 32 i.toNatClampNeg) :: st) (tm_GG l x) M := tm_ev_ald h rfl
theorem as_32 {i v : Int32} (h : tm_inb i 60 = true) : tm_ev d (.iastore :: is) L (.int v :: .int i :: .ref 32 :: st) (tm_GG l x) M = tm_ev d is L st (tm_GG l x) (tm_up M 32 i.toNatClampNeg v) := tm_ev_ast h rfl
theorem an_32 : tm_ev d (.arraylength :: is) L (.ref 32 :: st) (tm_GG l x) M = tm_ev d is L (.int (Int32.ofNat 60) :: st) (tm_GG l x) M := tm_ev_stp rfl rfl
theorem al_33 {i : Int32} (h : tm_inb i 60 = true) : tm_ev d (.baload :: is) L (.int i :: .ref 33 :: st) (tm_GG l x) M = tm_ev d is L (.int (M 33 i.toNatClampNeg).toInt8.toInt32 :: st) (tm_GG l x) M := tm_ev_bld h rfl
theorem as_33 {i v : Int32} (h : tm_inb i 60 = true) : tm_ev d (.bastore :: is) L (.int v :: .int i :: .ref 33 :: st) (tm_GG l x) M = tm_ev d is L st (tm_GG l x) (tm_up M 33 i.toNatClampNeg v.toInt8.toInt32) := tm_ev_bst h rfl
theorem an_33 : tm_ev d (.arraylength :: is) L (.ref 33 :: st) (tm_GG l x) M = tm_ev d is L (.int (Int32.ofNat 60) :: st) (tm_GG l x) M := tm_ev_stp rfl rfl
theorem al_34 {i : Int32} (h : tm_inb i 300 = true) : tm_ev d (.iaload :: is) L (.int i :: .ref 34 :: st) (tm_GG l x) M = tm_ev d is L (.int (M 34 i.toNatClampNeg) :: st) (tm_GG l x) M := tm_ev_ald h rfl
theorem as_34 {i v : Int32} (h : tm_inb i 300 = true) : tm_ev d (.iastore :: is) L (.int v :: .int i :: .ref 34 :: st) (tm_GG l x) M = tm_ev d is L st (tm_GG l x) (tm_up M 34 i.toNatClampNeg v) := tm_ev_ast h rfl
theorem an_34 : tm_ev d (.arraylength :: is) L (.ref 34 :: st) (tm_GG l x) M = tm_ev d is L (.int (Int32.ofNat 300) :: st) (tm_GG l x) M := tm_ev_stp rfl rfl
theorem c_35 : tm_isC (tm_GG l x) (35 : Addr) 10 = true := congrArg (fun b : Bool => b) rfl
theorem g_35_0 : tm_ev d (.getfield 1000 :: is) L (.ref 35 :: st) (tm_GG l x) M = tm_ev d is L (.ref 36 :: st) (tm_GG l x) M := tm_ev_stp rfl rfl
theorem g_35_1 : tm_ev d (.getfield 1001 :: is) L (.ref 35 :: st) (tm_GG l x) M = tm_ev d is L (.ref 46 :: st) (tm_GG l x) M := tm_ev_stp rfl rfl
theorem g_35_2 : tm_ev d (.getfield 1002 :: is) L (.ref 35 :: st) (tm_GG l x) M = tm_ev d is L (.ref 54 :: st) (tm_GG l x) M := tm_ev_stp rfl rfl
theorem g_35_3 : tm_ev d (.getfield 1003 :: is) L (.ref 35 :: st) (tm_GG l x) M = tm_ev d is L (.ref 60 :: st) (tm_GG l x) M := tm_ev_stp rfl rfl
theorem g_35_4 : tm_ev d (.getfield 1004 :: is) L (.ref 35 :: st) (tm_GG l x) M = tm_ev d is L (.ref 67 :: st) (tm_GG l x) M := tm_ev_stp rfl rfl
theorem g_35_5 : tm_ev d (.getfield 1005 :: is) L (.ref 35 :: st) (tm_GG l x) M = tm_ev d is L (.int (M 35 5) :: st) (tm_GG l x) M := tm_ev_stp rfl rfl
theorem p_35_5 {v : Int32} : tm_ev d (.putfield 1005 :: is) L (.int v :: .ref 35 :: st) (tm_GG l x) M = tm_ev d is L st (tm_GG l x) (tm_up M 35 5 v) := tm_ev_stp rfl rfl
theorem g_35_6 : tm_ev d (.getfield 1006 :: is) L (.ref 35 :: st) (tm_GG l x) M = tm_ev d is L (.ref 68 :: st) (tm_GG l x) M := tm_ev_stp rfl rfl
theorem g_35_7 : tm_ev d (.getfield 1007 :: is) L (.ref 35 :: st) (tm_GG l x) M = tm_ev d is L (.int (M 35 7) :: st) (tm_GG l x) M := tm_ev_stp rfl rfl
theorem p_35_7 {v : Int32} : tm_ev d (.putfield 1007 :: is) L (.int v :: .ref 35 :: st) (tm_GG l x) M = tm_ev d is L st (tm_GG l x) (tm_up M 35 7 v) := tm_ev_stp rfl rfl
theorem g_35_8 : tm_ev d (.getfield 1008 :: is) L (.ref 35 :: st) (tm_GG l x) M = tm_ev d is L (.int (M 35 8) :: st) (tm_GG l x) M := tm_ev_stp rfl rfl
theorem p_35_8 {v : Int32} : tm_ev d (.putfield 1008 :: is) L (.int v :: .ref 35 :: st) (tm_GG l x) M = tm_ev d is L st (tm_GG l x) (tm_up M 35 8 v) := tm_ev_stp rfl rfl
theorem g_35_9 : tm_ev d (.getfield 1009 :: is) L (.ref 35 :: st) (tm_GG l x) M = tm_ev d is L (.int (M 35 9) :: st) (tm_GG l x) M := tm_ev_stp rfl rfl
theorem p_35_9 {v : Int32} : tm_ev d (.putfield 1009 :: is) L (.int v :: .ref 35 :: st) (tm_GG l x) M = tm_ev d is L st (tm_GG l x) (tm_up M 35 9 v) := tm_ev_stp rfl rfl
theorem g_35_10 : tm_ev d (.getfield 1010 :: is) L (.ref 35 :: st) (tm_GG l x) M = tm_ev d is L (.int (M 35 10) :: st) (tm_GG l x) M := tm_ev_stp rfl rfl
theorem p_35_10 {v : Int32} : tm_ev d (.putfield 1010 :: is) L (.int v :: .ref 35 :: st) (tm_GG l x) M = tm_ev d is L st (tm_GG l x) (tm_up M 35 10 v) := tm_ev_stp rfl rfl
theorem c_36 : tm_isC (tm_GG l x) (36 : Addr) 5 = true := congrArg (fun b : Bool => b) rfl
theorem g_36_0 : tm_ev d (.getfield 500 :: is) L (.ref 36 :: st) (tm_GG l x) M = tm_ev d is L (.int (M 36 0) :: st) (tm_GG l x) M := tm_ev_stp rfl rfl
theorem p_36_0 {v : Int32} : tm_ev d (.putfield 500 :: is) L (.int v :: .ref 36 :: st) (tm_GG l x) M = tm_ev d is L st (tm_GG l x) (tm_up M 36 0 v) := tm_ev_stp rfl rfl
theorem g_36_1 : tm_ev d (.getfield 501 :: is) L (.ref 36 :: st) (tm_GG l x) M = tm_ev d is L (.int (M 36 1) :: st) (tm_GG l x) M := tm_ev_stp rfl rfl
theorem p_36_1 {v : Int32} : tm_ev d (.putfield 501 :: is) L (.int v :: .ref 36 :: st) (tm_GG l x) M = tm_ev d is L st (tm_GG l x) (tm_up M 36 1 v) := tm_ev_stp rfl rfl
theorem g_36_2 : tm_ev d (.getfield 502 :: is) L (.ref 36 :: st) (tm_GG l x) M = tm_ev d is L (.int (M 36 2) :: st) (tm_GG l x) M := tm_ev_stp rfl rfl
theorem p_36_2 {v : Int32} : tm_ev d (.putfield 502 :: is) L (.int v :: .ref 36 :: st) (tm_GG l x) M = tm_ev d is L st (tm_GG l x) (tm_up M 36 2 v) := tm_ev_stp rfl rfl
theorem g_36_3 : tm_ev d (.getfield 503 :: is) L (.ref 36 :: st) (tm_GG l x) M = tm_ev d is L (.int (M 36 3) :: st) (tm_GG l x) M := tm_ev_stp rfl rfl
theorem p_36_3 {v : Int32} : tm_ev d (.putfield 503 :: is) L (.int v :: .ref 36 :: st) (tm_GG l x) M = tm_ev d is L st (tm_GG l x) (tm_up M 36 3 v) := tm_ev_stp rfl rfl
theorem g_36_4 : tm_ev d (.getfield 504 :: is) L (.ref 36 :: st) (tm_GG l x) M = tm_ev d is L (.ref 37 :: st) (tm_GG l x) M := tm_ev_stp rfl rfl
theorem g_36_5 : tm_ev d (.getfield 505 :: is) L (.ref 36 :: st) (tm_GG l x) M = tm_ev d is L (.ref 38 :: st) (tm_GG l x) M := tm_ev_stp rfl rfl
theorem g_36_6 : tm_ev d (.getfield 506 :: is) L (.ref 36 :: st) (tm_GG l x) M = tm_ev d is L (.ref 39 :: st) (tm_GG l x) M := tm_ev_stp rfl rfl
theorem g_36_7 : tm_ev d (.getfield 507 :: is) L (.ref 36 :: st) (tm_GG l x) M = tm_ev d is L (.ref 40 :: st) (tm_GG l x) M := tm_ev_stp rfl rfl
theorem g_36_8 : tm_ev d (.getfield 508 :: is) L (.ref 36 :: st) (tm_GG l x) M = tm_ev d is L (.ref 41 :: st) (tm_GG l x) M := tm_ev_stp rfl rfl
theorem g_36_9 : tm_ev d (.getfield 509 :: is) L (.ref 36 :: st) (tm_GG l x) M = tm_ev d is L (.ref 42 :: st) (tm_GG l x) M := tm_ev_stp rfl rfl
theorem g_36_10 : tm_ev d (.getfield 510 :: is) L (.ref 36 :: st) (tm_GG l x) M = tm_ev d is L (.ref 43 :: st) (tm_GG l x) M := tm_ev_stp rfl rfl
theorem g_36_11 : tm_ev d (.getfield 511 :: is) L (.ref 36 :: st) (tm_GG l x) M = tm_ev d is L (.ref 44 :: st) (tm_GG l x) M := tm_ev_stp rfl rfl
theorem g_36_12 : tm_ev d (.getfield 512 :: is) L (.ref 36 :: st) (tm_GG l x) M = tm_ev d is L (.ref 45 :: st) (tm_GG l x) M := tm_ev_stp rfl rfl
theorem al_37 {i : Int32} (h : tm_inb i 24 = true) : tm_ev d (.iaload :: is) L (.int i :: .ref 37 :: st) (tm_GG l x) M = tm_ev d is L (.int (M 37 i.toNatClampNeg) :: st) (tm_GG l x) M := tm_ev_ald h rfl
theorem as_37 {i v : Int32} (h : tm_inb i 24 = true) : tm_ev d (.iastore :: is) L (.int v :: .int i :: .ref 37 :: st) (tm_GG l x) M = tm_ev d is L st (tm_GG l x) (tm_up M 37 i.toNatClampNeg v) := tm_ev_ast h rfl
theorem an_37 : tm_ev d (.arraylength :: is) L (.ref 37 :: st) (tm_GG l x) M = tm_ev d is L (.int (Int32.ofNat 24) :: st) (tm_GG l x) M := tm_ev_stp rfl rfl
theorem al_38 {i : Int32} (h : tm_inb i 25 = true) : tm_ev d (.iaload :: is) L (.int i :: .ref 38 :: st) (tm_GG l x) M = tm_ev d is L (.int (M 38 i.toNatClampNeg) :: st) (tm_GG l x) M := tm_ev_ald h rfl
theorem as_38 {i v : Int32} (h : tm_inb i 25 = true) : tm_ev d (.iastore :: is) L (.int v :: .int i :: .ref 38 :: st) (tm_GG l x) M = tm_ev d is L st (tm_GG l x) (tm_up M 38 i.toNatClampNeg v) := tm_ev_ast h rfl
theorem an_38 : tm_ev d (.arraylength :: is) L (.ref 38 :: st) (tm_GG l x) M = tm_ev d is L (.int (Int32.ofNat 25) :: st) (tm_GG l x) M := tm_ev_stp rfl rfl
theorem al_39 {i : Int32} (h : tm_inb i 12 = true) : tm_ev d (.iaload :: is) L (.int i :: .ref 39 :: st) (tm_GG l x) M = tm_ev d is L (.int (M 39 i.toNatClampNeg) :: st) (tm_GG l x) M := tm_ev_ald h rfl
theorem as_39 {i v : Int32} (h : tm_inb i 12 = true) : tm_ev d (.iastore :: is) L (.int v :: .int i :: .ref 39 :: st) (tm_GG l x) M = tm_ev d is L st (tm_GG l x) (tm_up M 39 i.toNatClampNeg v) := tm_ev_ast h rfl
theorem an_39 : tm_ev d (.arraylength :: is) L (.ref 39 :: st) (tm_GG l x) M = tm_ev d is L (.int (Int32.ofNat 12) :: st) (tm_GG l x) M := tm_ev_stp rfl rfl
theorem al_40 {i : Int32} (h : tm_inb i 12 = true) : tm_ev d (.iaload :: is) L (.int i :: .ref 40 :: st) (tm_GG l x) M = tm_ev d is L (.int (M 40 i.toNatClampNeg) :: st) (tm_GG l x) M := tm_ev_ald h rfl
theorem as_40 {i v : Int32} (h : tm_inb i 12 = true) : tm_ev d (.iastore :: is) L (.int v :: .int i :: .ref 40 :: st) (tm_GG l x) M = tm_ev d is L st (tm_GG l x) (tm_up M 40 i.toNatClampNeg v) := tm_ev_ast h rfl
theorem an_40 : tm_ev d (.arraylength :: is) L (.ref 40 :: st) (tm_GG l x) M = tm_ev d is L (.int (Int32.ofNat 12) :: st) (tm_GG l x) M := tm_ev_stp rfl rfl
theorem al_41 {i : Int32} (h : tm_inb i 12 = true) : tm_ev d (.iaload :: is) L (.int i :: .ref 41 :: st) (tm_GG l x) M = tm_ev d is L (.int (M 41 i.toNatClampNeg) :: st) (tm_GG l x) M := tm_ev_ald h rfl
theorem as_41 {i v : Int32} (h : tm_inb i 12 = true) : tm_ev d (.iastore :: is) L (.int v :: .int i :: .ref 41 :: st) (tm_GG l x) M = tm_ev d is L st (tm_GG l x) (tm_up M 41 i.toNatClampNeg v) := tm_ev_ast h rfl
theorem an_41 : tm_ev d (.arraylength :: is) L (.ref 41 :: st) (tm_GG l x) M = tm_ev d is L (.int (Int32.ofNat 12) :: st) (tm_GG l x) M := tm_ev_stp rfl rfl
theorem al_42 {i : Int32} (h : tm_inb i 12 = true) : tm_ev d (.iaload :: is) L (.int i :: .ref 42 :: st) (tm_GG l x) M = tm_ev d is L (.int (M 42 i.toNatClampNeg) :: st) (tm_GG l x) M := tm_ev_ald h rfl
theorem as_42 {i v : Int32} (h : tm_inb i 12 = true) : tm_ev d (.iastore :: is) L (.int v :: .int i :: .ref 42 :: st) (tm_GG l x) M = tm_ev d is L st (tm_GG l x) (tm_up M 42 i.toNatClampNeg v) := tm_ev_ast h rfl
theorem an_42 : tm_ev d (.arraylength :: is) L (.ref 42 :: st) (tm_GG l x) M = tm_ev d is L (.int (Int32.ofNat 12) :: st) (tm_GG l x) M := tm_ev_stp rfl rfl
theorem al_43 {i : Int32} (h : tm_inb i 12 = true) : tm_ev d (.iaload :: is) L (.int i :: .ref 43 :: st) (tm_GG l x) M = tm_ev d is L (.int (M 43 i.toNatClampNeg) :: st) (tm_GG l x) M := tm_ev_ald h rfl
theorem as_43 {i v : Int32} (h : tm_inb i 12 = true) : tm_ev d (.iastore :: is) L (.int v :: .int i :: .ref 43 :: st) (tm_GG l x) M = tm_ev d is L st (tm_GG l x) (tm_up M 43 i.toNatClampNeg v) := tm_ev_ast h rfl
theorem an_43 : tm_ev d (.arraylength :: is) L (.ref 43 :: st) (tm_GG l x) M = tm_ev d is L (.int (Int32.ofNat 12) :: st) (tm_GG l x) M := tm_ev_stp rfl rfl
theorem al_44 {i : Int32} (h : tm_inb i 325 = true) : tm_ev d (.iaload :: is) L (.int i :: .ref 44 :: st) (tm_GG l x) M = tm_ev d is L (.int (M 44 i.toNatClampNeg) :: st) (tm_GG l x) M := tm_ev_ald h rfl
theorem as_44 {i v : Int32} (h : tm_inb i 325 = true) : tm_ev d (.iastore :: is) L (.int v :: .int i :: .ref 44 :: st) (tm_GG l x) M = tm_ev d is L st (tm_GG l x) (tm_up M 44 i.toNatClampNeg v) := tm_ev_ast h rfl
theorem an_44 : tm_ev d (.arraylength :: is) L (.ref 44 :: st) (tm_GG l x) M = tm_ev d is L (.int (Int32.ofNat 325) :: st) (tm_GG l x) M := tm_ev_stp rfl rfl
theorem al_45 {i : Int32} (h : tm_inb i 25 = true) : tm_ev d (.iaload :: is) L (.int i :: .ref 45 :: st) (tm_GG l x) M = tm_ev d is L (.int (M 45 i.toNatClampNeg) :: st) (tm_GG l x) M := tm_ev_ald h rfl
theorem as_45 {i v : Int32} (h : tm_inb i 25 = true) : tm_ev d (.iastore :: is) L (.int v :: .int i :: .ref 45 :: st) (tm_GG l x) M = tm_ev d is L st (tm_GG l x) (tm_up M 45 i.toNatClampNeg v) := tm_ev_ast h rfl
theorem an_45 : tm_ev d (.arraylength :: is) L (.ref 45 :: st) (tm_GG l x) M = tm_ev d is L (.int (Int32.ofNat 25) :: st) (tm_GG l x) M := tm_ev_stp rfl rfl
theorem c_46 : tm_isC (tm_GG l x) (46 : Addr) 6 = true := congrArg (fun b : Bool => b) rfl
theorem g_46_0 : tm_ev d (.getfield 600 :: is) L (.ref 46 :: st) (tm_GG l x) M = tm_ev d is L (.int (M 46 0) :: st) (tm_GG l x) M := tm_ev_stp rfl rfl
theorem p_46_0 {v : Int32} : tm_ev d (.putfield 600 :: is) L (.int v :: .ref 46 :: st) (tm_GG l x) M = tm_ev d is L st (tm_GG l x) (tm_up M 46 0 v) := tm_ev_stp rfl rfl
theorem g_46_1 : tm_ev d (.getfield 601 :: is) L (.ref 46 :: st) (tm_GG l x) M = tm_ev d is L (.ref 47 :: st) (tm_GG l x) M := tm_ev_stp rfl rfl
theorem g_46_2 : tm_ev d (.getfield 602 :: is) L (.ref 46 :: st) (tm_GG l x) M = tm_ev d is L (.ref 48 :: st) (tm_GG l x) M := tm_ev_stp rfl rfl
theorem g_46_3 : tm_ev d (.getfield 603 :: is) L (.ref 46 :: st) (tm_GG l x) M = tm_ev d is L (.ref 49 :: st) (tm_GG l x) M := tm_ev_stp rfl rfl
theorem g_46_4 : tm_ev d (.getfield 604 :: is) L (.ref 46 :: st) (tm_GG l x) M = tm_ev d is L (.ref 50 :: st) (tm_GG l x) M := tm_ev_stp rfl rfl
theorem g_46_5 : tm_ev d (.getfield 605 :: is) L (.ref 46 :: st) (tm_GG l x) M = tm_ev d is L (.ref 51 :: st) (tm_GG l x) M := tm_ev_stp rfl rfl
theorem g_46_6 : tm_ev d (.getfield 606 :: is) L (.ref 46 :: st) (tm_GG l x) M = tm_ev d is L (.ref 52 :: st) (tm_GG l x) M := tm_ev_stp rfl rfl
theorem g_46_7 : tm_ev d (.getfield 607 :: is) L (.ref 46 :: st) (tm_GG l x) M = tm_ev d is L (.ref 53 :: st) (tm_GG l x) M := tm_ev_stp rfl rfl
theorem al_47 {i : Int32} (h : tm_inb i 12 = true) : tm_ev d (.iaload :: is) L (.int i :: .ref 47 :: st) (tm_GG l x) M = tm_ev d is L (.int (M 47 i.toNatClampNeg) :: st) (tm_GG l x) M := tm_ev_ald h rfl
theorem as_47 {i v : Int32} (h : tm_inb i 12 = true) : tm_ev d (.iastore :: is) L (.int v :: .int i :: .ref 47 :: st) (tm_GG l x) M = tm_ev d is L st (tm_GG l x) (tm_up M 47 i.toNatClampNeg v) := tm_ev_ast h rfl
theorem an_47 : tm_ev d (.arraylength :: is) L (.ref 47 :: st) (tm_GG l x) M = tm_ev d is L (.int (Int32.ofNat 12) :: st) (tm_GG l x) M := tm_ev_stp rfl rfl
theorem al_48 {i : Int32} (h : tm_inb i 12 = true) : tm_ev d (.iaload :: is) L (.int i :: .ref 48 :: st) (tm_GG l x) M = tm_ev d is L (.int (M 48 i.toNatClampNeg) :: st) (tm_GG l x) M := tm_ev_ald h rfl
theorem as_48 {i v : Int32} (h : tm_inb i 12 = true) : tm_ev d (.iastore :: is) L (.int v :: .int i :: .ref 48 :: st) (tm_GG l x) M = tm_ev d is L st (tm_GG l x) (tm_up M 48 i.toNatClampNeg v) := tm_ev_ast h rfl
theorem an_48 : tm_ev d (.arraylength :: is) L (.ref 48 :: st) (tm_GG l x) M = tm_ev d is L (.int (Int32.ofNat 12) :: st) (tm_GG l x) M := tm_ev_stp rfl rfl
theorem al_49 {i : Int32} (h : tm_inb i 12 = true) : tm_ev d (.iaload :: is) L (.int i :: .ref 49 :: st) (tm_GG l x) M = tm_ev d is L (.int (M 49 i.toNatClampNeg) :: st) (tm_GG l x) M := tm_ev_ald h rfl
theorem as_49 {i v : Int32} (h : tm_inb i 12 = true) : tm_ev d (.iastore :: is) L (.int v :: .int i :: .ref 49 :: st) (tm_GG l x) M = tm_ev d is L st (tm_GG l x) (tm_up M 49 i.toNatClampNeg v) := tm_ev_ast h rfl
theorem an_49 : tm_ev d (.arraylength :: is) L (.ref 49 :: st) (tm_GG l x) M = tm_ev d is L (.int (Int32.ofNat 12) :: st) (tm_GG l x) M := tm_ev_stp rfl rfl
theorem al_50 {i : Int32} (h : tm_inb i 96 = true) : tm_ev d (.iaload :: is) L (.int i :: .ref 50 :: st) (tm_GG l x) M = tm_ev d is L (.int (M 50 i.toNatClampNeg) :: st) (tm_GG l x) M := tm_ev_ald h rfl
theorem as_50 {i v : Int32} (h : tm_inb i 96 = true) : tm_ev d (.iastore :: is) L (.int v :: .int i :: .ref 50 :: st) (tm_GG l x) M = tm_ev d is L st (tm_GG l x) (tm_up M 50 i.toNatClampNeg v) := tm_ev_ast h rfl
theorem an_50 : tm_ev d (.arraylength :: is) L (.ref 50 :: st) (tm_GG l x) M = tm_ev d is L (.int (Int32.ofNat 96) :: st) (tm_GG l x) M := tm_ev_stp rfl rfl
theorem al_51 {i : Int32} (h : tm_inb i 96 = true) : tm_ev d (.iaload :: is) L (.int i :: .ref 51 :: st) (tm_GG l x) M = tm_ev d is L (.int (M 51 i.toNatClampNeg) :: st) (tm_GG l x) M := tm_ev_ald h rfl
theorem as_51 {i v : Int32} (h : tm_inb i 96 = true) : tm_ev d (.iastore :: is) L (.int v :: .int i :: .ref 51 :: st) (tm_GG l x) M = tm_ev d is L st (tm_GG l x) (tm_up M 51 i.toNatClampNeg v) := tm_ev_ast h rfl
theorem an_51 : tm_ev d (.arraylength :: is) L (.ref 51 :: st) (tm_GG l x) M = tm_ev d is L (.int (Int32.ofNat 96) :: st) (tm_GG l x) M := tm_ev_stp rfl rfl
theorem al_52 {i : Int32} (h : tm_inb i 96 = true) : tm_ev d (.iaload :: is) L (.int i :: .ref 52 :: st) (tm_GG l x) M = tm_ev d is L (.int (M 52 i.toNatClampNeg) :: st) (tm_GG l x) M := tm_ev_ald h rfl
theorem as_52 {i v : Int32} (h : tm_inb i 96 = true) : tm_ev d (.iastore :: is) L (.int v :: .int i :: .ref 52 :: st) (tm_GG l x) M = tm_ev d is L st (tm_GG l x) (tm_up M 52 i.toNatClampNeg v) := tm_ev_ast h rfl
theorem an_52 : tm_ev d (.arraylength :: is) L (.ref 52 :: st) (tm_GG l x) M = tm_ev d is L (.int (Int32.ofNat 96) :: st) (tm_GG l x) M := tm_ev_stp rfl rfl
theorem al_53 {i : Int32} (h : tm_inb i 8 = true) : tm_ev d (.iaload :: is) L (.int i :: .ref 53 :: st) (tm_GG l x) M = tm_ev d is L (.int (M 53 i.toNatClampNeg) :: st) (tm_GG l x) M := tm_ev_ald h rfl
theorem as_53 {i v : Int32} (h : tm_inb i 8 = true) : tm_ev d (.iastore :: is) L (.int v :: .int i :: .ref 53 :: st) (tm_GG l x) M = tm_ev d is L st (tm_GG l x) (tm_up M 53 i.toNatClampNeg v) := tm_ev_ast h rfl
theorem an_53 : tm_ev d (.arraylength :: is) L (.ref 53 :: st) (tm_GG l x) M = tm_ev d is L (.int (Int32.ofNat 8) :: st) (tm_GG l x) M := tm_ev_stp rfl rfl
theorem c_54 : tm_isC (tm_GG l x) (54 : Addr) 1 = true := congrArg (fun b : Bool => b) rfl
theorem g_54_0 : tm_ev d (.getfield 100 :: is) L (.ref 54 :: st) (tm_GG l x) M = tm_ev d is L (.int (M 54 0) :: st) (tm_GG l x) M := tm_ev_stp rfl rfl
theorem p_54_0 {v : Int32} : tm_ev d (.putfield 100 :: is) L (.int v :: .ref 54 :: st) (tm_GG l x) M = tm_ev d is L st (tm_GG l x) (tm_up M 54 0 v) := tm_ev_stp rfl rfl
theorem g_54_1 : tm_ev d (.getfield 101 :: is) L (.ref 54 :: st) (tm_GG l x) M = tm_ev d is L (.ref 55 :: st) (tm_GG l x) M := tm_ev_stp rfl rfl
theorem g_54_2 : tm_ev d (.getfield 102 :: is) L (.ref 54 :: st) (tm_GG l x) M = tm_ev d is L (.ref 56 :: st) (tm_GG l x) M := tm_ev_stp rfl rfl
theorem g_54_3 : tm_ev d (.getfield 103 :: is) L (.ref 54 :: st) (tm_GG l x) M = tm_ev d is L (.ref 57 :: st) (tm_GG l x) M := tm_ev_stp rfl rfl
theorem g_54_4 : tm_ev d (.getfield 104 :: is) L (.ref 54 :: st) (tm_GG l x) M = tm_ev d is L (.ref 58 :: st) (tm_GG l x) M := tm_ev_stp rfl rfl
theorem g_54_5 : tm_ev d (.getfield 105 :: is) L (.ref 54 :: st) (tm_GG l x) M = tm_ev d is L (.ref 59 :: st) (tm_GG l x) M := tm_ev_stp rfl rfl
theorem al_55 {i : Int32} (h : tm_inb i 40 = true) : tm_ev d (.iaload :: is) L (.int i :: .ref 55 :: st) (tm_GG l x) M = tm_ev d is L (.int (M 55 i.toNatClampNeg) :: st) (tm_GG l x) M := tm_ev_ald h rfl
theorem as_55 {i v : Int32} (h : tm_inb i 40 = true) : tm_ev d (.iastore :: is) L (.int v :: .int i :: .ref 55 :: st) (tm_GG l x) M = tm_ev d is L st (tm_GG l x) (tm_up M 55 i.toNatClampNeg v) := tm_ev_ast h rfl
theorem an_55 : tm_ev d (.arraylength :: is) L (.ref 55 :: st) (tm_GG l x) M = tm_ev d is L (.int (Int32.ofNat 40) :: st) (tm_GG l x) M := tm_ev_stp rfl rfl
theorem al_56 {i : Int32} (h : tm_inb i 40 = true) : tm_ev d (.iaload :: is) L (.int i :: .ref 56 :: st) (tm_GG l x) M = tm_ev d is L (.int (M 56 i.toNatClampNeg) :: st) (tm_GG l x) M := tm_ev_ald h rfl
theorem as_56 {i v : Int32} (h : tm_inb i 40 = true) : tm_ev d (.iastore :: is) L (.int v :: .int i :: .ref 56 :: st) (tm_GG l x) M = tm_ev d is L st (tm_GG l x) (tm_up M 56 i.toNatClampNeg v) := tm_ev_ast h rfl
theorem an_56 : tm_ev d (.arraylength :: is) L (.ref 56 :: st) (tm_GG l x) M = tm_ev d is L (.int (Int32.ofNat 40) :: st) (tm_GG l x) M := tm_ev_stp rfl rfl
theorem al_57 {i : Int32} (h : tm_inb i 40 = true) : tm_ev d (.iaload :: is) L (.int i :: .ref 57 :: st) (tm_GG l x) M = tm_ev d is L (.int (M 57 i.toNatClampNeg) :: st) (tm_GG l x) M := tm_ev_ald h rfl
theorem as_57 {i v : Int32} (h : tm_inb i 40 = true) : tm_ev d (.iastore :: is) L (.int v :: .int i :: .ref 57 :: st) (tm_GG l x) M = tm_ev d is L st (tm_GG l x) (tm_up M 57 i.toNatClampNeg v) := tm_ev_ast h rfl
theorem an_57 : tm_ev d (.arraylength :: is) L (.ref 57 :: st) (tm_GG l x) M = tm_ev d is L (.int (Int32.ofNat 40) :: st) (tm_GG l x) M := tm_ev_stp rfl rfl
theorem al_58 {i : Int32} (h : tm_inb i 40 = true) : tm_ev d (.iaload :: is) L (.int i :: .ref 58 :: st) (tm_GG l x) M = tm_ev d is L (.int (M 58 i.toNatClampNeg) :: st) (tm_GG l x) M := tm_ev_ald h rfl
theorem as_58 {i v : Int32} (h : tm_inb i 40 = true) : tm_ev d (.iastore :: is) L (.int v :: .int i :: .ref 58 :: st) (tm_GG l x) M = tm_ev d is L st (tm_GG l x) (tm_up M 58 i.toNatClampNeg v) := tm_ev_ast h rfl
theorem an_58 : tm_ev d (.arraylength :: is) L (.ref 58 :: st) (tm_GG l x) M = tm_ev d is L (.int (Int32.ofNat 40) :: st) (tm_GG l x) M := tm_ev_stp rfl rfl
theorem al_59 {i : Int32} (h : tm_inb i 40 = true) : tm_ev d (.iaload :: is) L (.int i :: .ref 59 :: st) (tm_GG l x) M = tm_ev d is L (.int (M 59 i.toNatClampNeg) :: st) (tm_GG l x) M := tm_ev_ald h rfl
theorem as_59 {i v : Int32} (h : tm_inb i 40 = true) : tm_ev d (.iastore :: is) L (.int v :: .int i :: .ref 59 :: st) (tm_GG l x) M = tm_ev d is L st (tm_GG l x) (tm_up M 59 i.toNatClampNeg v) := tm_ev_ast h rfl
theorem an_59 : tm_ev d (.arraylength :: is) L (.ref 59 :: st) (tm_GG l x) M = tm_ev d is L (.int (Int32.ofNat 40) :: st) (tm_GG l x) M := tm_ev_stp rfl rfl
theorem ar_60_0 : tm_ev d (.aaload :: is) L (.int (Int32.ofInt 0) :: .ref 60 :: st) (tm_GG l x) M = tm_ev d is L (.ref 61 :: st) (tm_GG l x) M := tm_ev_stp rfl rfl
theorem ar_60_1 : tm_ev d (.aaload :: is) L (.int (Int32.ofInt 1) :: .ref 60 :: st) (tm_GG l x) M = tm_ev d is L (.ref 64 :: st) (tm_GG l x) M := tm_ev_stp rfl rfl
theorem an_60 : tm_ev d (.arraylength :: is) L (.ref 60 :: st) (tm_GG l x) M = tm_ev d is L (.int (Int32.ofNat 2) :: st) (tm_GG l x) M := tm_ev_stp rfl rfl
theorem c_61 : tm_isC (tm_GG l x) (61 : Addr) 8 = true := congrArg (fun b : Bool => b) rfl
theorem g_61_0 : tm_ev d (.getfield 800 :: is) L (.ref 61 :: st) (tm_GG l x) M = tm_ev d is L (.ref 62 :: st) (tm_GG l x) M := tm_ev_stp rfl rfl
theorem g_61_1 : tm_ev d (.getfield 801 :: is) L (.ref 61 :: st) (tm_GG l x) M = tm_ev d is L (.int (M 61 1) :: st) (tm_GG l x) M := tm_ev_stp rfl rfl
theorem p_61_1 {v : Int32} : tm_ev d (.putfield 801 :: is) L (.int v :: .ref 61 :: st) (tm_GG l x) M = tm_ev d is L st (tm_GG l x) (tm_up M 61 1 v) := tm_ev_stp rfl rfl
theorem g_61_2 : tm_ev d (.getfield 802 :: is) L (.ref 61 :: st) (tm_GG l x) M = tm_ev d is L (.ref 63 :: st) (tm_GG l x) M := tm_ev_stp rfl rfl
theorem al_62 {i : Int32} (h : tm_inb i 60 = true) : tm_ev d (.iaload :: is) L (.int i :: .ref 62 :: st) (tm_GG l x) M = tm_ev d is L (.int (M 62 i.toNatClampNeg) :: st) (tm_GG l x) M := tm_ev_ald h rfl
theorem as_62 {i v : Int32} (h : tm_inb i 60 = true) : tm_ev d (.iastore :: is) L (.int v :: .int i :: .ref 62 :: st) (tm_GG l x) M = tm_ev d is L st (tm_GG l x) (tm_up M 62 i.toNatClampNeg v) := tm_ev_ast h rfl
theorem an_62 : tm_ev d (.arraylength :: is) L (.ref 62 :: st) (tm_GG l x) M = tm_ev d is L (.int (Int32.ofNat 60) :: st) (tm_GG l x) M := tm_ev_stp rfl rfl
theorem al_63 {i : Int32} (h : tm_inb i 60 = true) : tm_ev d (.iaload :: is) L (.int i :: .ref 63 :: st) (tm_GG l x) M = tm_ev d is L (.int (M 63 i.toNatClampNeg) :: st) (tm_GG l x) M := tm_ev_ald h rfl
theorem as_63 {i v : Int32} (h : tm_inb i 60 = true) : tm_ev d (.iastore :: is) L (.int v :: .int i :: .ref 63 :: st) (tm_GG l x) M = tm_ev d is L st (tm_GG l x) (tm_up M 63 i.toNatClampNeg v) := tm_ev_ast h rfl
theorem an_63 : tm_ev d (.arraylength :: is) L (.ref 63 :: st) (tm_GG l x) M = tm_ev d is L (.int (Int32.ofNat 60) :: st) (tm_GG l x) M := tm_ev_stp rfl rfl
theorem c_64 : tm_isC (tm_GG l x) (64 : Addr) 8 = true := congrArg (fun b : Bool => b) rfl
theorem g_64_0 : tm_ev d (.getfield 800 :: is) L (.ref 64 :: st) (tm_GG l x) M = tm_ev d is L (.ref 65 :: st) (tm_GG l x) M := tm_ev_stp rfl rfl
theorem g_64_1 : tm_ev d (.getfield 801 :: is) L (.ref 64 :: st) (tm_GG l x) M = tm_ev d is L (.int (M 64 1) :: st) (tm_GG l x) M := tm_ev_stp rfl rfl
theorem p_64_1 {v : Int32} : tm_ev d (.putfield 801 :: is) L (.int v :: .ref 64 :: st) (tm_GG l x) M = tm_ev d is L st (tm_GG l x) (tm_up M 64 1 v) := tm_ev_stp rfl rfl
theorem g_64_2 : tm_ev d (.getfield 802 :: is) L (.ref 64 :: st) (tm_GG l x) M = tm_ev d is L (.ref 66 :: st) (tm_GG l x) M := tm_ev_stp rfl rfl
theorem al_65 {i : Int32} (h : tm_inb i 60 = true) : tm_ev d (.iaload :: is) L (.int i :: .ref 65 :: st) (tm_GG l x) M = tm_ev d is L (.int (M 65 i.toNatClampNeg) :: st) (tm_GG l x) M := tm_ev_ald h rfl
theorem as_65 {i v : Int32} (h : tm_inb i 60 = true) : tm_ev d (.iastore :: is) L (.int v :: .int i :: .ref 65 :: st) (tm_GG l x) M = tm_ev d is L st (tm_GG l x) (tm_up M 65 i.toNatClampNeg v) := tm_ev_ast h rfl
theorem an_65 : tm_ev d (.arraylength :: is) L (.ref 65 :: st) (tm_GG l x) M = tm_ev d is L (.int (Int32.ofNat 60) :: st) (tm_GG l x) M := tm_ev_stp rfl rfl
theorem al_66 {i : Int32} (h : tm_inb i 60 = true) : tm_ev d (.iaload :: is) L (.int i :: .ref 66 :: st) (tm_GG l x) M = tm_ev d is L (.int (M 66 i.toNatClampNeg) :: st) (tm_GG l x) M := tm_ev_ald h rfl
theorem as_66 {i v : Int32} (h : tm_inb i 60 = true) : tm_ev d (.iastore :: is) L (.int v :: .int i :: .ref 66 :: st) (tm_GG l x) M = tm_ev d is L st (tm_GG l x) (tm_up M 66 i.toNatClampNeg v) := tm_ev_ast h rfl
theorem an_66 : tm_ev d (.arraylength :: is) L (.ref 66 :: st) (tm_GG l x) M = tm_ev d is L (.int (Int32.ofNat 60) :: st) (tm_GG l x) M := tm_ev_stp rfl rfl
theorem al_67 {i : Int32} (h : tm_inb i 60 = true) : tm_ev d (.baload :: is) L (.int i :: .ref 67 :: st) (tm_GG l x) M = tm_ev d is L (.int (M 67 i.toNatClampNeg).toInt8.toInt32 :: st) (tm_GG l x) M := tm_ev_bld h rfl
theorem as_67 {i v : Int32} (h : tm_inb i 60 = true) : tm_ev d (.bastore :: is) L (.int v :: .int i :: .ref 67 :: st) (tm_GG l x) M = tm_ev d is L st (tm_GG l x) (tm_up M 67 i.toNatClampNeg v.toInt8.toInt32) := tm_ev_bst h rfl
theorem an_67 : tm_ev d (.arraylength :: is) L (.ref 67 :: st) (tm_GG l x) M = tm_ev d is L (.int (Int32.ofNat 60) :: st) (tm_GG l x) M := tm_ev_stp rfl rfl
theorem al_68 {i : Int32} (h : tm_inb i 300 = true) : tm_ev d (.iaload :: is) L (.int i :: .ref 68 :: st) (tm_GG l x) M = tm_ev d is L (.int (M 68 i.toNatClampNeg) :: st) (tm_GG l x) M := tm_ev_ald h rfl
theorem as_68 {i v : Int32} (h : tm_inb i 300 = true) : tm_ev d (.iastore :: is) L (.int v :: .int i :: .ref 68 :: st) (tm_GG l x) M = tm_ev d is L st (tm_GG l x) (tm_up M 68 i.toNatClampNeg v) := tm_ev_ast h rfl
theorem an_68 : tm_ev d (.arraylength :: is) L (.ref 68 :: st) (tm_GG l x) M = tm_ev d is L (.int (Int32.ofNat 300) :: st) (tm_GG l x) M := tm_ev_stp rfl rfl
theorem c_69 : tm_isC (tm_GG l x) (69 : Addr) 3 = true := congrArg (fun b : Bool => b) rfl
theorem g_69_0 : tm_ev d (.getfield 300 :: is) L (.ref 69 :: st) (tm_GG l x) M = tm_ev d is L (.int (M 69 0) :: st) (tm_GG l x) M := tm_ev_stp rfl rfl
theorem p_69_0 {v : Int32} (h : v = 0 ∨ v = 1) : tm_ev d (.putfield 300 :: is) L (.int v :: .ref 69 :: st) (tm_GG l x) M = tm_ev d is L st (tm_GG l x) (tm_up M 69 0 v) := tm_ev_stp rfl (by rcases h with rfl | rfl <;> rfl)
theorem g_69_1 : tm_ev d (.getfield 301 :: is) L (.ref 69 :: st) (tm_GG l x) M = tm_ev d is L (.ref 1 :: st) (tm_GG l x) M := tm_ev_stp rfl rfl
theorem g_69_2 : tm_ev d (.getfield 302 :: is) L (.ref 69 :: st) (tm_GG l x) M = tm_ev d is L (.ref 70 :: st) (tm_GG l x) M := tm_ev_stp rfl rfl
theorem g_69_3 : tm_ev d (.getfield 303 :: is) L (.ref 69 :: st) (tm_GG l x) M = tm_ev d is L (.ref 71 :: st) (tm_GG l x) M := tm_ev_stp rfl rfl
theorem g_69_4 : tm_ev d (.getfield 304 :: is) L (.ref 69 :: st) (tm_GG l x) M = tm_ev d is L (.ref 72 :: st) (tm_GG l x) M := tm_ev_stp rfl rfl
theorem g_69_5 : tm_ev d (.getfield 305 :: is) L (.ref 69 :: st) (tm_GG l x) M = tm_ev d is L (.ref 73 :: st) (tm_GG l x) M := tm_ev_stp rfl rfl
theorem g_69_6 : tm_ev d (.getfield 306 :: is) L (.ref 69 :: st) (tm_GG l x) M = tm_ev d is L (.int (M 69 6) :: st) (tm_GG l x) M := tm_ev_stp rfl rfl
theorem p_69_6 {v : Int32} : tm_ev d (.putfield 306 :: is) L (.int v :: .ref 69 :: st) (tm_GG l x) M = tm_ev d is L st (tm_GG l x) (tm_up M 69 6 v) := tm_ev_stp rfl rfl
theorem g_69_7 : tm_ev d (.getfield 307 :: is) L (.ref 69 :: st) (tm_GG l x) M = tm_ev d is L (.int (M 69 7) :: st) (tm_GG l x) M := tm_ev_stp rfl rfl
theorem p_69_7 {v : Int32} : tm_ev d (.putfield 307 :: is) L (.int v :: .ref 69 :: st) (tm_GG l x) M = tm_ev d is L st (tm_GG l x) (tm_up M 69 7 v) := tm_ev_stp rfl rfl
theorem g_69_8 : tm_ev d (.getfield 308 :: is) L (.ref 69 :: st) (tm_GG l x) M = tm_ev d is L (.int (M 69 8) :: st) (tm_GG l x) M := tm_ev_stp rfl rfl
theorem p_69_8 {v : Int32} : tm_ev d (.putfield 308 :: is) L (.int v :: .ref 69 :: st) (tm_GG l x) M = tm_ev d is L st (tm_GG l x) (tm_up M 69 8 v) := tm_ev_stp rfl rfl
theorem g_69_9 : tm_ev d (.getfield 309 :: is) L (.ref 69 :: st) (tm_GG l x) M = tm_ev d is L (.ref 74 :: st) (tm_GG l x) M := tm_ev_stp rfl rfl
theorem g_69_10 : tm_ev d (.getfield 310 :: is) L (.ref 69 :: st) (tm_GG l x) M = tm_ev d is L (.int (M 69 10) :: st) (tm_GG l x) M := tm_ev_stp rfl rfl
theorem p_69_10 {v : Int32} : tm_ev d (.putfield 310 :: is) L (.int v :: .ref 69 :: st) (tm_GG l x) M = tm_ev d is L st (tm_GG l x) (tm_up M 69 10 v) := tm_ev_stp rfl rfl
theorem g_69_11 : tm_ev d (.getfield 311 :: is) L (.ref 69 :: st) (tm_GG l x) M = tm_ev d is L (.int (M 69 11) :: st) (tm_GG l x) M := tm_ev_stp rfl rfl
theorem p_69_11 {v : Int32} : tm_ev d (.putfield 311 :: is) L (.int v :: .ref 69 :: st) (tm_GG l x) M = tm_ev d is L st (tm_GG l x) (tm_up M 69 11 v) := tm_ev_stp rfl rfl
theorem g_69_12 : tm_ev d (.getfield 312 :: is) L (.ref 69 :: st) (tm_GG l x) M = tm_ev d is L (.int (M 69 12) :: st) (tm_GG l x) M := tm_ev_stp rfl rfl
theorem p_69_12 {v : Int32} (h : v = 0 ∨ v = 1) : tm_ev d (.putfield 312 :: is) L (.int v :: .ref 69 :: st) (tm_GG l x) M = tm_ev d is L st (tm_GG l x) (tm_up M 69 12 v) := tm_ev_stp rfl (by rcases h with rfl | rfl <;> rfl)
theorem al_70 {i : Int32} (h : tm_inb i 300 = true) : tm_ev d (.iaload :: is) L (.int i :: .ref 70 :: st) (tm_GG l x) M = tm_ev d is L (.int (M 70 i.toNatClampNeg) :: st) (tm_GG l x) M := tm_ev_ald h rfl
theorem as_70 {i v : Int32} (h : tm_inb i 300 = true) : tm_ev d (.iastore :: is) L (.int v :: .int i :: .ref 70 :: st) (tm_GG l x) M = tm_ev d is L st (tm_GG l x) (tm_up M 70 i.toNatClampNeg v) := tm_ev_ast h rfl
theorem an_70 : tm_ev d (.arraylength :: is) L (.ref 70 :: st) (tm_GG l x) M = tm_ev d is L (.int (Int32.ofNat 300) :: st) (tm_GG l x) M := tm_ev_stp rfl rfl
theorem c_71 : tm_isC (tm_GG l x) (71 : Addr) 0 = true := congrArg (fun b : Bool => b) rfl
theorem g_71_0 : tm_ev d (.getfield 0 :: is) L (.ref 71 :: st) (tm_GG l x) M = tm_ev d is L (.int (M 71 0) :: st) (tm_GG l x) M := tm_ev_stp rfl rfl
theorem p_71_0 {v : Int32} : tm_ev d (.putfield 0 :: is) L (.int v :: .ref 71 :: st) (tm_GG l x) M = tm_ev d is L st (tm_GG l x) (tm_up M 71 0 v) := tm_ev_stp rfl rfl
theorem g_71_1 : tm_ev d (.getfield 1 :: is) L (.ref 71 :: st) (tm_GG l x) M = tm_ev d is L (.int (M 71 1) :: st) (tm_GG l x) M := tm_ev_stp rfl rfl
theorem p_71_1 {v : Int32} : tm_ev d (.putfield 1 :: is) L (.int v :: .ref 71 :: st) (tm_GG l x) M = tm_ev d is L st (tm_GG l x) (tm_up M 71 1 v) := tm_ev_stp rfl rfl
theorem g_71_2 : tm_ev d (.getfield 2 :: is) L (.ref 71 :: st) (tm_GG l x) M = tm_ev d is L (.int (M 71 2) :: st) (tm_GG l x) M := tm_ev_stp rfl rfl
theorem p_71_2 {v : Int32} : tm_ev d (.putfield 2 :: is) L (.int v :: .ref 71 :: st) (tm_GG l x) M = tm_ev d is L st (tm_GG l x) (tm_up M 71 2 v) := tm_ev_stp rfl rfl
theorem g_71_3 : tm_ev d (.getfield 3 :: is) L (.ref 71 :: st) (tm_GG l x) M = tm_ev d is L (.int (M 71 3) :: st) (tm_GG l x) M := tm_ev_stp rfl rfl
theorem p_71_3 {v : Int32} : tm_ev d (.putfield 3 :: is) L (.int v :: .ref 71 :: st) (tm_GG l x) M = tm_ev d is L st (tm_GG l x) (tm_up M 71 3 v) := tm_ev_stp rfl rfl
theorem c_72 : tm_isC (tm_GG l x) (72 : Addr) 0 = true := congrArg (fun b : Bool => b) rfl
theorem g_72_0 : tm_ev d (.getfield 0 :: is) L (.ref 72 :: st) (tm_GG l x) M = tm_ev d is L (.int (M 72 0) :: st) (tm_GG l x) M := tm_ev_stp rfl rfl
theorem p_72_0 {v : Int32} : tm_ev d (.putfield 0 :: is) L (.int v :: .ref 72 :: st) (tm_GG l x) M = tm_ev d is L st (tm_GG l x) (tm_up M 72 0 v) := tm_ev_stp rfl rfl
theorem g_72_1 : tm_ev d (.getfield 1 :: is) L (.ref 72 :: st) (tm_GG l x) M = tm_ev d is L (.int (M 72 1) :: st) (tm_GG l x) M := tm_ev_stp rfl rfl
theorem p_72_1 {v : Int32} : tm_ev d (.putfield 1 :: is) L (.int v :: .ref 72 :: st) (tm_GG l x) M = tm_ev d is L st (tm_GG l x) (tm_up M 72 1 v) := tm_ev_stp rfl rfl
theorem g_72_2 : tm_ev d (.getfield 2 :: is) L (.ref 72 :: st) (tm_GG l x) M = tm_ev d is L (.int (M 72 2) :: st) (tm_GG l x) M := tm_ev_stp rfl rfl
theorem p_72_2 {v : Int32} : tm_ev d (.putfield 2 :: is) L (.int v :: .ref 72 :: st) (tm_GG l x) M = tm_ev d is L st (tm_GG l x) (tm_up M 72 2 v) := tm_ev_stp rfl rfl
theorem g_72_3 : tm_ev d (.getfield 3 :: is) L (.ref 72 :: st) (tm_GG l x) M = tm_ev d is L (.int (M 72 3) :: st) (tm_GG l x) M := tm_ev_stp rfl rfl
theorem p_72_3 {v : Int32} : tm_ev d (.putfield 3 :: is) L (.int v :: .ref 72 :: st) (tm_GG l x) M = tm_ev d is L st (tm_GG l x) (tm_up M 72 3 v) := tm_ev_stp rfl rfl
theorem al_73 {i : Int32} (h : tm_inb i 6 = true) : tm_ev d (.iaload :: is) L (.int i :: .ref 73 :: st) (tm_GG l x) M = tm_ev d is L (.int (M 73 i.toNatClampNeg) :: st) (tm_GG l x) M := tm_ev_ald h rfl
theorem as_73 {i v : Int32} (h : tm_inb i 6 = true) : tm_ev d (.iastore :: is) L (.int v :: .int i :: .ref 73 :: st) (tm_GG l x) M = tm_ev d is L st (tm_GG l x) (tm_up M 73 i.toNatClampNeg v) := tm_ev_ast h rfl
theorem an_73 : tm_ev d (.arraylength :: is) L (.ref 73 :: st) (tm_GG l x) M = tm_ev d is L (.int (Int32.ofNat 6) :: st) (tm_GG l x) M := tm_ev_stp rfl rfl
theorem al_74 {i : Int32} (h : tm_inb i 808 = true) : tm_ev d (.iaload :: is) L (.int i :: .ref 74 :: st) (tm_GG l x) M = tm_ev d is L (.int (M 74 i.toNatClampNeg) :: st) (tm_GG l x) M := tm_ev_ald h rfl
theorem as_74 {i v : Int32} (h : tm_inb i 808 = true) : tm_ev d (.iastore :: is) L (.int v :: .int i :: .ref 74 :: st) (tm_GG l x) M = tm_ev d is L st (tm_GG l x) (tm_up M 74 i.toNatClampNeg v) := tm_ev_ast h rfl
theorem an_74 : tm_ev d (.arraylength :: is) L (.ref 74 :: st) (tm_GG l x) M = tm_ev d is L (.int (Int32.ofNat 808) :: st) (tm_GG l x) M := tm_ev_stp rfl rfl
theorem c_75 : tm_isC (tm_GG l x) (75 : Addr) 2 = true := congrArg (fun b : Bool => b) rfl
theorem g_75_0 : tm_ev d (.getfield 200 :: is) L (.ref 75 :: st) (tm_GG l x) M = tm_ev d is L (.int (M 75 0) :: st) (tm_GG l x) M := tm_ev_stp rfl rfl
theorem p_75_0 {v : Int32} : tm_ev d (.putfield 200 :: is) L (.int v :: .ref 75 :: st) (tm_GG l x) M = tm_ev d is L st (tm_GG l x) (tm_up M 75 0 v) := tm_ev_stp rfl rfl
theorem g_75_1 : tm_ev d (.getfield 201 :: is) L (.ref 75 :: st) (tm_GG l x) M = tm_ev d is L (.int (M 75 1) :: st) (tm_GG l x) M := tm_ev_stp rfl rfl
theorem p_75_1 {v : Int32} : tm_ev d (.putfield 201 :: is) L (.int v :: .ref 75 :: st) (tm_GG l x) M = tm_ev d is L st (tm_GG l x) (tm_up M 75 1 v) := tm_ev_stp rfl rfl
theorem g_75_2 : tm_ev d (.getfield 202 :: is) L (.ref 75 :: st) (tm_GG l x) M = tm_ev d is L (.int (M 75 2) :: st) (tm_GG l x) M := tm_ev_stp rfl rfl
theorem p_75_2 {v : Int32} : tm_ev d (.putfield 202 :: is) L (.int v :: .ref 75 :: st) (tm_GG l x) M = tm_ev d is L st (tm_GG l x) (tm_up M 75 2 v) := tm_ev_stp rfl rfl
theorem g_75_3 : tm_ev d (.getfield 203 :: is) L (.ref 75 :: st) (tm_GG l x) M = tm_ev d is L (.ref 1 :: st) (tm_GG l x) M := tm_ev_stp rfl rfl
theorem g_75_4 : tm_ev d (.getfield 204 :: is) L (.ref 75 :: st) (tm_GG l x) M = tm_ev d is L (.ref 76 :: st) (tm_GG l x) M := tm_ev_stp rfl rfl
theorem al_76 {i : Int32} (h : tm_inb i 6 = true) : tm_ev d (.iaload :: is) L (.int i :: .ref 76 :: st) (tm_GG l x) M = tm_ev d is L (.int (M 76 i.toNatClampNeg) :: st) (tm_GG l x) M := tm_ev_ald h rfl
theorem as_76 {i v : Int32} (h : tm_inb i 6 = true) : tm_ev d (.iastore :: is) L (.int v :: .int i :: .ref 76 :: st) (tm_GG l x) M = tm_ev d is L st (tm_GG l x) (tm_up M 76 i.toNatClampNeg v) := tm_ev_ast h rfl
theorem an_76 : tm_ev d (.arraylength :: is) L (.ref 76 :: st) (tm_GG l x) M = tm_ev d is L (.int (Int32.ofNat 6) :: st) (tm_GG l x) M := tm_ev_stp rfl rfl
theorem c_77 : tm_isC (tm_GG l x) (77 : Addr) 4 = true := congrArg (fun b : Bool => b) rfl
theorem g_77_0 : tm_ev d (.getfield 400 :: is) L (.ref 77 :: st) (tm_GG l x) M = tm_ev d is L (.ref 78 :: st) (tm_GG l x) M := tm_ev_stp rfl rfl
theorem g_77_1 : tm_ev d (.getfield 401 :: is) L (.ref 77 :: st) (tm_GG l x) M = tm_ev d is L (.int (M 77 1) :: st) (tm_GG l x) M := tm_ev_stp rfl rfl
theorem p_77_1 {v : Int32} : tm_ev d (.putfield 401 :: is) L (.int v :: .ref 77 :: st) (tm_GG l x) M = tm_ev d is L st (tm_GG l x) (tm_up M 77 1 v) := tm_ev_stp rfl rfl
theorem g_77_2 : tm_ev d (.getfield 402 :: is) L (.ref 77 :: st) (tm_GG l x) M = tm_ev d is L (.int (M 77 2) :: st) (tm_GG l x) M := tm_ev_stp rfl rfl
theorem p_77_2 {v : Int32} : tm_ev d (.putfield 402 :: is) L (.int v :: .ref 77 :: st) (tm_GG l x) M = tm_ev d is L st (tm_GG l x) (tm_up M 77 2 v) := tm_ev_stp rfl rfl
theorem g_77_3 : tm_ev d (.getfield 403 :: is) L (.ref 77 :: st) (tm_GG l x) M = tm_ev d is L (.ref 33 :: st) (tm_GG l x) M := tm_ev_stp rfl rfl
theorem g_77_4 : tm_ev d (.getfield 404 :: is) L (.ref 77 :: st) (tm_GG l x) M = tm_ev d is L (.int (M 77 4) :: st) (tm_GG l x) M := tm_ev_stp rfl rfl
theorem p_77_4 {v : Int32} : tm_ev d (.putfield 404 :: is) L (.int v :: .ref 77 :: st) (tm_GG l x) M = tm_ev d is L st (tm_GG l x) (tm_up M 77 4 v) := tm_ev_stp rfl rfl
theorem g_77_5 : tm_ev d (.getfield 405 :: is) L (.ref 77 :: st) (tm_GG l x) M = tm_ev d is L (.int (M 77 5) :: st) (tm_GG l x) M := tm_ev_stp rfl rfl
theorem p_77_5 {v : Int32} : tm_ev d (.putfield 405 :: is) L (.int v :: .ref 77 :: st) (tm_GG l x) M = tm_ev d is L st (tm_GG l x) (tm_up M 77 5 v) := tm_ev_stp rfl rfl
theorem al_78 {i : Int32} (h : tm_inb i 60 = true) : tm_ev d (.iaload :: is) L (.int i :: .ref 78 :: st) (tm_GG l x) M = tm_ev d is L (.int (M 78 i.toNatClampNeg) :: st) (tm_GG l x) M := tm_ev_ald h rfl
theorem as_78 {i v : Int32} (h : tm_inb i 60 = true) : tm_ev d (.iastore :: is) L (.int v :: .int i :: .ref 78 :: st) (tm_GG l x) M = tm_ev d is L st (tm_GG l x) (tm_up M 78 i.toNatClampNeg v) := tm_ev_ast h rfl
theorem an_78 : tm_ev d (.arraylength :: is) L (.ref 78 :: st) (tm_GG l x) M = tm_ev d is L (.int (Int32.ofNat 60) :: st) (tm_GG l x) M := tm_ev_stp rfl rfl
theorem c_79 : tm_isC (tm_GG l x) (79 : Addr) 9 = true := congrArg (fun b : Bool => b) rfl
theorem g_79_0 : tm_ev d (.getfield 900 :: is) L (.ref 79 :: st) (tm_GG l x) M = tm_ev d is L (.ref 80 :: st) (tm_GG l x) M := tm_ev_stp rfl rfl
theorem g_79_1 : tm_ev d (.getfield 901 :: is) L (.ref 79 :: st) (tm_GG l x) M = tm_ev d is L (.int (M 79 1) :: st) (tm_GG l x) M := tm_ev_stp rfl rfl
theorem p_79_1 {v : Int32} : tm_ev d (.putfield 901 :: is) L (.int v :: .ref 79 :: st) (tm_GG l x) M = tm_ev d is L st (tm_GG l x) (tm_up M 79 1 v) := tm_ev_stp rfl rfl
theorem g_79_2 : tm_ev d (.getfield 902 :: is) L (.ref 79 :: st) (tm_GG l x) M = tm_ev d is L (.int (M 79 2) :: st) (tm_GG l x) M := tm_ev_stp rfl rfl
theorem p_79_2 {v : Int32} : tm_ev d (.putfield 902 :: is) L (.int v :: .ref 79 :: st) (tm_GG l x) M = tm_ev d is L st (tm_GG l x) (tm_up M 79 2 v) := tm_ev_stp rfl rfl
theorem g_79_3 : tm_ev d (.getfield 903 :: is) L (.ref 79 :: st) (tm_GG l x) M = tm_ev d is L (.int (M 79 3) :: st) (tm_GG l x) M := tm_ev_stp rfl rfl
theorem p_79_3 {v : Int32} : tm_ev d (.putfield 903 :: is) L (.int v :: .ref 79 :: st) (tm_GG l x) M = tm_ev d is L st (tm_GG l x) (tm_up M 79 3 v) := tm_ev_stp rfl rfl
theorem g_79_4 : tm_ev d (.getfield 904 :: is) L (.ref 79 :: st) (tm_GG l x) M = tm_ev d is L (.int (M 79 4) :: st) (tm_GG l x) M := tm_ev_stp rfl rfl
theorem p_79_4 {v : Int32} : tm_ev d (.putfield 904 :: is) L (.int v :: .ref 79 :: st) (tm_GG l x) M = tm_ev d is L st (tm_GG l x) (tm_up M 79 4 v) := tm_ev_stp rfl rfl
theorem al_80 {i : Int32} (h : tm_inb i 40 = true) : tm_ev d (.iaload :: is) L (.int i :: .ref 80 :: st) (tm_GG l x) M = tm_ev d is L (.int (M 80 i.toNatClampNeg) :: st) (tm_GG l x) M := tm_ev_ald h rfl
theorem as_80 {i v : Int32} (h : tm_inb i 40 = true) : tm_ev d (.iastore :: is) L (.int v :: .int i :: .ref 80 :: st) (tm_GG l x) M = tm_ev d is L st (tm_GG l x) (tm_up M 80 i.toNatClampNeg v) := tm_ev_ast h rfl
theorem an_80 : tm_ev d (.arraylength :: is) L (.ref 80 :: st) (tm_GG l x) M = tm_ev d is L (.int (Int32.ofNat 40) :: st) (tm_GG l x) M := tm_ev_stp rfl rfl
theorem ar_81_0 : tm_ev d (.aaload :: is) L (.int (Int32.ofInt 0) :: .ref 81 :: st) (tm_GG l x) M = tm_ev d is L (.ref 82 :: st) (tm_GG l x) M := tm_ev_stp rfl rfl
theorem ar_81_1 : tm_ev d (.aaload :: is) L (.int (Int32.ofInt 1) :: .ref 81 :: st) (tm_GG l x) M = tm_ev d is L (.ref 85 :: st) (tm_GG l x) M := tm_ev_stp rfl rfl
theorem ar_81_2 : tm_ev d (.aaload :: is) L (.int (Int32.ofInt 2) :: .ref 81 :: st) (tm_GG l x) M = tm_ev d is L (.ref 88 :: st) (tm_GG l x) M := tm_ev_stp rfl rfl
theorem ar_81_3 : tm_ev d (.aaload :: is) L (.int (Int32.ofInt 3) :: .ref 81 :: st) (tm_GG l x) M = tm_ev d is L (.ref 91 :: st) (tm_GG l x) M := tm_ev_stp rfl rfl
theorem an_81 : tm_ev d (.arraylength :: is) L (.ref 81 :: st) (tm_GG l x) M = tm_ev d is L (.int (Int32.ofNat 4) :: st) (tm_GG l x) M := tm_ev_stp rfl rfl
theorem c_82 : tm_isC (tm_GG l x) (82 : Addr) 7 = true := congrArg (fun b : Bool => b) rfl
theorem g_82_0 : tm_ev d (.getfield 700 :: is) L (.ref 82 :: st) (tm_GG l x) M = tm_ev d is L (.int (M 82 0) :: st) (tm_GG l x) M := tm_ev_stp rfl rfl
theorem p_82_0 {v : Int32} : tm_ev d (.putfield 700 :: is) L (.int v :: .ref 82 :: st) (tm_GG l x) M = tm_ev d is L st (tm_GG l x) (tm_up M 82 0 v) := tm_ev_stp rfl rfl
theorem g_82_1 : tm_ev d (.getfield 701 :: is) L (.ref 82 :: st) (tm_GG l x) M = tm_ev d is L (.int (M 82 1) :: st) (tm_GG l x) M := tm_ev_stp rfl rfl
theorem p_82_1 {v : Int32} : tm_ev d (.putfield 701 :: is) L (.int v :: .ref 82 :: st) (tm_GG l x) M = tm_ev d is L st (tm_GG l x) (tm_up M 82 1 v) := tm_ev_stp rfl rfl
theorem g_82_2 : tm_ev d (.getfield 702 :: is) L (.ref 82 :: st) (tm_GG l x) M = tm_ev d is L (.ref 83 :: st) (tm_GG l x) M := tm_ev_stp rfl rfl
theorem g_82_3 : tm_ev d (.getfield 703 :: is) L (.ref 82 :: st) (tm_GG l x) M = tm_ev d is L (.ref 84 :: st) (tm_GG l x) M := tm_ev_stp rfl rfl
theorem al_83 {i : Int32} (h : tm_inb i 24 = true) : tm_ev d (.iaload :: is) L (.int i :: .ref 83 :: st) (tm_GG l x) M = tm_ev d is L (.int (M 83 i.toNatClampNeg) :: st) (tm_GG l x) M := tm_ev_ald h rfl
theorem as_83 {i v : Int32} (h : tm_inb i 24 = true) : tm_ev d (.iastore :: is) L (.int v :: .int i :: .ref 83 :: st) (tm_GG l x) M = tm_ev d is L st (tm_GG l x) (tm_up M 83 i.toNatClampNeg v) := tm_ev_ast h rfl
theorem an_83 : tm_ev d (.arraylength :: is) L (.ref 83 :: st) (tm_GG l x) M = tm_ev d is L (.int (Int32.ofNat 24) :: st) (tm_GG l x) M := tm_ev_stp rfl rfl
theorem al_84 {i : Int32} (h : tm_inb i 24 = true) : tm_ev d (.iaload :: is) L (.int i :: .ref 84 :: st) (tm_GG l x) M = tm_ev d is L (.int (M 84 i.toNatClampNeg) :: st) (tm_GG l x) M := tm_ev_ald h rfl
theorem as_84 {i v : Int32} (h : tm_inb i 24 = true) : tm_ev d (.iastore :: is) L (.int v :: .int i :: .ref 84 :: st) (tm_GG l x) M = tm_ev d is L st (tm_GG l x) (tm_up M 84 i.toNatClampNeg v) := tm_ev_ast h rfl
theorem an_84 : tm_ev d (.arraylength :: is) L (.ref 84 :: st) (tm_GG l x) M = tm_ev d is L (.int (Int32.ofNat 24) :: st) (tm_GG l x) M := tm_ev_stp rfl rfl
theorem c_85 : tm_isC (tm_GG l x) (85 : Addr) 7 = true := congrArg (fun b : Bool => b) rfl
theorem g_85_0 : tm_ev d (.getfield 700 :: is) L (.ref 85 :: st) (tm_GG l x) M = tm_ev d is L (.int (M 85 0) :: st) (tm_GG l x) M := tm_ev_stp rfl rfl
theorem p_85_0 {v : Int32} : tm_ev d (.putfield 700 :: is) L (.int v :: .ref 85 :: st) (tm_GG l x) M = tm_ev d is L st (tm_GG l x) (tm_up M 85 0 v) := tm_ev_stp rfl rfl
theorem g_85_1 : tm_ev d (.getfield 701 :: is) L (.ref 85 :: st) (tm_GG l x) M = tm_ev d is L (.int (M 85 1) :: st) (tm_GG l x) M := tm_ev_stp rfl rfl
theorem p_85_1 {v : Int32} : tm_ev d (.putfield 701 :: is) L (.int v :: .ref 85 :: st) (tm_GG l x) M = tm_ev d is L st (tm_GG l x) (tm_up M 85 1 v) := tm_ev_stp rfl rfl
theorem g_85_2 : tm_ev d (.getfield 702 :: is) L (.ref 85 :: st) (tm_GG l x) M = tm_ev d is L (.ref 86 :: st) (tm_GG l x) M := tm_ev_stp rfl rfl
theorem g_85_3 : tm_ev d (.getfield 703 :: is) L (.ref 85 :: st) (tm_GG l x) M = tm_ev d is L (.ref 87 :: st) (tm_GG l x) M := tm_ev_stp rfl rfl
theorem al_86 {i : Int32} (h : tm_inb i 24 = true) : tm_ev d (.iaload :: is) L (.int i :: .ref 86 :: st) (tm_GG l x) M = tm_ev d is L (.int (M 86 i.toNatClampNeg) :: st) (tm_GG l x) M := tm_ev_ald h rfl
theorem as_86 {i v : Int32} (h : tm_inb i 24 = true) : tm_ev d (.iastore :: is) L (.int v :: .int i :: .ref 86 :: st) (tm_GG l x) M = tm_ev d is L st (tm_GG l x) (tm_up M 86 i.toNatClampNeg v) := tm_ev_ast h rfl
theorem an_86 : tm_ev d (.arraylength :: is) L (.ref 86 :: st) (tm_GG l x) M = tm_ev d is L (.int (Int32.ofNat 24) :: st) (tm_GG l x) M := tm_ev_stp rfl rfl
theorem al_87 {i : Int32} (h : tm_inb i 24 = true) : tm_ev d (.iaload :: is) L (.int i :: .ref 87 :: st) (tm_GG l x) M = tm_ev d is L (.int (M 87 i.toNatClampNeg) :: st) (tm_GG l x) M := tm_ev_ald h rfl
theorem as_87 {i v : Int32} (h : tm_inb i 24 = true) : tm_ev d (.iastore :: is) L (.int v :: .int i :: .ref 87 :: st) (tm_GG l x) M = tm_ev d is L st (tm_GG l x) (tm_up M 87 i.toNatClampNeg v) := tm_ev_ast h rfl
theorem an_87 : tm_ev d (.arraylength :: is) L (.ref 87 :: st) (tm_GG l x) M = tm_ev d is L (.int (Int32.ofNat 24) :: st) (tm_GG l x) M := tm_ev_stp rfl rfl
theorem c_88 : tm_isC (tm_GG l x) (88 : Addr) 7 = true := congrArg (fun b : Bool => b) rfl
theorem g_88_0 : tm_ev d (.getfield 700 :: is) L (.ref 88 :: st) (tm_GG l x) M = tm_ev d is L (.int (M 88 0) :: st) (tm_GG l x) M := tm_ev_stp rfl rfl
theorem p_88_0 {v : Int32} : tm_ev d (.putfield 700 :: is) L (.int v :: .ref 88 :: st) (tm_GG l x) M = tm_ev d is L st (tm_GG l x) (tm_up M 88 0 v) := tm_ev_stp rfl rfl
theorem g_88_1 : tm_ev d (.getfield 701 :: is) L (.ref 88 :: st) (tm_GG l x) M = tm_ev d is L (.int (M 88 1) :: st) (tm_GG l x) M := tm_ev_stp rfl rfl
theorem p_88_1 {v : Int32} : tm_ev d (.putfield 701 :: is) L (.int v :: .ref 88 :: st) (tm_GG l x) M = tm_ev d is L st (tm_GG l x) (tm_up M 88 1 v) := tm_ev_stp rfl rfl
theorem g_88_2 : tm_ev d (.getfield 702 :: is) L (.ref 88 :: st) (tm_GG l x) M = tm_ev d is L (.ref 89 :: st) (tm_GG l x) M := tm_ev_stp rfl rfl
theorem g_88_3 : tm_ev d (.getfield 703 :: is) L (.ref 88 :: st) (tm_GG l x) M = tm_ev d is L (.ref 90 :: st) (tm_GG l x) M := tm_ev_stp rfl rfl
theorem al_89 {i : Int32} (h : tm_inb i 24 = true) : tm_ev d (.iaload :: is) L (.int i :: .ref 89 :: st) (tm_GG l x) M = tm_ev d is L (.int (M 89 i.toNatClampNeg) :: st) (tm_GG l x) M := tm_ev_ald h rfl
theorem as_89 {i v : Int32} (h : tm_inb i 24 = true) : tm_ev d (.iastore :: is) L (.int v :: .int i :: .ref 89 :: st) (tm_GG l x) M = tm_ev d is L st (tm_GG l x) (tm_up M 89 i.toNatClampNeg v) := tm_ev_ast h rfl
theorem an_89 : tm_ev d (.arraylength :: is) L (.ref 89 :: st) (tm_GG l x) M = tm_ev d is L (.int (Int32.ofNat 24) :: st) (tm_GG l x) M := tm_ev_stp rfl rfl
theorem al_90 {i : Int32} (h : tm_inb i 24 = true) : tm_ev d (.iaload :: is) L (.int i :: .ref 90 :: st) (tm_GG l x) M = tm_ev d is L (.int (M 90 i.toNatClampNeg) :: st) (tm_GG l x) M := tm_ev_ald h rfl
theorem as_90 {i v : Int32} (h : tm_inb i 24 = true) : tm_ev d (.iastore :: is) L (.int v :: .int i :: .ref 90 :: st) (tm_GG l x) M = tm_ev d is L st (tm_GG l x) (tm_up M 90 i.toNatClampNeg v) := tm_ev_ast h rfl
theorem an_90 : tm_ev d (.arraylength :: is) L (.ref 90 :: st) (tm_GG l x) M = tm_ev d is L (.int (Int32.ofNat 24) :: st) (tm_GG l x) M := tm_ev_stp rfl rfl
theorem c_91 : tm_isC (tm_GG l x) (91 : Addr) 7 = true := congrArg (fun b : Bool => b) rfl
theorem g_91_0 : tm_ev d (.getfield 700 :: is) L (.ref 91 :: st) (tm_GG l x) M = tm_ev d is L (.int (M 91 0) :: st) (tm_GG l x) M := tm_ev_stp rfl rfl
theorem p_91_0 {v : Int32} : tm_ev d (.putfield 700 :: is) L (.int v :: .ref 91 :: st) (tm_GG l x) M = tm_ev d is L st (tm_GG l x) (tm_up M 91 0 v) := tm_ev_stp rfl rfl
theorem g_91_1 : tm_ev d (.getfield 701 :: is) L (.ref 91 :: st) (tm_GG l x) M = tm_ev d is L (.int (M 91 1) :: st) (tm_GG l x) M := tm_ev_stp rfl rfl
theorem p_91_1 {v : Int32} : tm_ev d (.putfield 701 :: is) L (.int v :: .ref 91 :: st) (tm_GG l x) M = tm_ev d is L st (tm_GG l x) (tm_up M 91 1 v) := tm_ev_stp rfl rfl
theorem g_91_2 : tm_ev d (.getfield 702 :: is) L (.ref 91 :: st) (tm_GG l x) M = tm_ev d is L (.ref 92 :: st) (tm_GG l x) M := tm_ev_stp rfl rfl
theorem g_91_3 : tm_ev d (.getfield 703 :: is) L (.ref 91 :: st) (tm_GG l x) M = tm_ev d is L (.ref 93 :: st) (tm_GG l x) M := tm_ev_stp rfl rfl
theorem al_92 {i : Int32} (h : tm_inb i 24 = true) : tm_ev d (.iaload :: is) L (.int i :: .ref 92 :: st) (tm_GG l x) M = tm_ev d is L (.int (M 92 i.toNatClampNeg) :: st) (tm_GG l x) M := tm_ev_ald h rfl
theorem as_92 {i v : Int32} (h : tm_inb i 24 = true) : tm_ev d (.iastore :: is) L (.int v :: .int i :: .ref 92 :: st) (tm_GG l x) M = tm_ev d is L st (tm_GG l x) (tm_up M 92 i.toNatClampNeg v) := tm_ev_ast h rfl
theorem an_92 : tm_ev d (.arraylength :: is) L (.ref 92 :: st) (tm_GG l x) M = tm_ev d is L (.int (Int32.ofNat 24) :: st) (tm_GG l x) M := tm_ev_stp rfl rfl
theorem al_93 {i : Int32} (h : tm_inb i 24 = true) : tm_ev d (.iaload :: is) L (.int i :: .ref 93 :: st) (tm_GG l x) M = tm_ev d is L (.int (M 93 i.toNatClampNeg) :: st) (tm_GG l x) M := tm_ev_ald h rfl
theorem as_93 {i v : Int32} (h : tm_inb i 24 = true) : tm_ev d (.iastore :: is) L (.int v :: .int i :: .ref 93 :: st) (tm_GG l x) M = tm_ev d is L st (tm_GG l x) (tm_up M 93 i.toNatClampNeg v) := tm_ev_ast h rfl
theorem an_93 : tm_ev d (.arraylength :: is) L (.ref 93 :: st) (tm_GG l x) M = tm_ev d is L (.int (Int32.ofNat 24) :: st) (tm_GG l x) M := tm_ev_stp rfl rfl
theorem al_94 {i : Int32} (h : tm_inb i 6 = true) : tm_ev d (.iaload :: is) L (.int i :: .ref 94 :: st) (tm_GG l x) M = tm_ev d is L (.int (M 94 i.toNatClampNeg) :: st) (tm_GG l x) M := tm_ev_ald h rfl
theorem as_94 {i v : Int32} (h : tm_inb i 6 = true) : tm_ev d (.iastore :: is) L (.int v :: .int i :: .ref 94 :: st) (tm_GG l x) M = tm_ev d is L st (tm_GG l x) (tm_up M 94 i.toNatClampNeg v) := tm_ev_ast h rfl
theorem an_94 : tm_ev d (.arraylength :: is) L (.ref 94 :: st) (tm_GG l x) M = tm_ev d is L (.int (Int32.ofNat 6) :: st) (tm_GG l x) M := tm_ev_stp rfl rfl
theorem c_95 : tm_isC (tm_GG l x) (95 : Addr) 12 = true := congrArg (fun b : Bool => b) rfl
theorem g_95_0 : tm_ev d (.getfield 1200 :: is) L (.ref 95 :: st) (tm_GG l x) M = tm_ev d is L (.ref 96 :: st) (tm_GG l x) M := tm_ev_stp rfl rfl
theorem g_95_1 : tm_ev d (.getfield 1201 :: is) L (.ref 95 :: st) (tm_GG l x) M = tm_ev d is L (.ref 97 :: st) (tm_GG l x) M := tm_ev_stp rfl rfl
theorem g_95_2 : tm_ev d (.getfield 1202 :: is) L (.ref 95 :: st) (tm_GG l x) M = tm_ev d is L (.int (M 95 2) :: st) (tm_GG l x) M := tm_ev_stp rfl rfl
theorem p_95_2 {v : Int32} (h : v = 0 ∨ v = 1) : tm_ev d (.putfield 1202 :: is) L (.int v :: .ref 95 :: st) (tm_GG l x) M = tm_ev d is L st (tm_GG l x) (tm_up M 95 2 v) := tm_ev_stp rfl (by rcases h with rfl | rfl <;> rfl)
theorem g_95_3 : tm_ev d (.getfield 1203 :: is) L (.ref 95 :: st) (tm_GG l x) M = tm_ev d is L (.int (M 95 3) :: st) (tm_GG l x) M := tm_ev_stp rfl rfl
theorem p_95_3 {v : Int32} : tm_ev d (.putfield 1203 :: is) L (.int v :: .ref 95 :: st) (tm_GG l x) M = tm_ev d is L st (tm_GG l x) (tm_up M 95 3 v) := tm_ev_stp rfl rfl
theorem g_95_4 : tm_ev d (.getfield 1204 :: is) L (.ref 95 :: st) (tm_GG l x) M = tm_ev d is L (.ref 98 :: st) (tm_GG l x) M := tm_ev_stp rfl rfl
theorem g_95_5 : tm_ev d (.getfield 1205 :: is) L (.ref 95 :: st) (tm_GG l x) M = tm_ev d is L (.int (M 95 5) :: st) (tm_GG l x) M := tm_ev_stp rfl rfl
theorem p_95_5 {v : Int32} : tm_ev d (.putfield 1205 :: is) L (.int v :: .ref 95 :: st) (tm_GG l x) M = tm_ev d is L st (tm_GG l x) (tm_up M 95 5 v) := tm_ev_stp rfl rfl
theorem g_95_6 : tm_ev d (.getfield 1206 :: is) L (.ref 95 :: st) (tm_GG l x) M = tm_ev d is L (.int (M 95 6) :: st) (tm_GG l x) M := tm_ev_stp rfl rfl
theorem p_95_6 {v : Int32} : tm_ev d (.putfield 1206 :: is) L (.int v :: .ref 95 :: st) (tm_GG l x) M = tm_ev d is L st (tm_GG l x) (tm_up M 95 6 v) := tm_ev_stp rfl rfl
theorem g_95_7 : tm_ev d (.getfield 1207 :: is) L (.ref 95 :: st) (tm_GG l x) M = tm_ev d is L (.int (M 95 7) :: st) (tm_GG l x) M := tm_ev_stp rfl rfl
theorem p_95_7 {v : Int32} : tm_ev d (.putfield 1207 :: is) L (.int v :: .ref 95 :: st) (tm_GG l x) M = tm_ev d is L st (tm_GG l x) (tm_up M 95 7 v) := tm_ev_stp rfl rfl
theorem g_95_8 : tm_ev d (.getfield 1208 :: is) L (.ref 95 :: st) (tm_GG l x) M = tm_ev d is L (.int (M 95 8) :: st) (tm_GG l x) M := tm_ev_stp rfl rfl
theorem p_95_8 {v : Int32} : tm_ev d (.putfield 1208 :: is) L (.int v :: .ref 95 :: st) (tm_GG l x) M = tm_ev d is L st (tm_GG l x) (tm_up M 95 8 v) := tm_ev_stp rfl rfl
theorem g_95_9 : tm_ev d (.getfield 1209 :: is) L (.ref 95 :: st) (tm_GG l x) M = tm_ev d is L (.int (M 95 9) :: st) (tm_GG l x) M := tm_ev_stp rfl rfl
theorem p_95_9 {v : Int32} (h : v = 0 ∨ v = 1) : tm_ev d (.putfield 1209 :: is) L (.int v :: .ref 95 :: st) (tm_GG l x) M = tm_ev d is L st (tm_GG l x) (tm_up M 95 9 v) := tm_ev_stp rfl (by rcases h with rfl | rfl <;> rfl)
theorem g_95_10 : tm_ev d (.getfield 1210 :: is) L (.ref 95 :: st) (tm_GG l x) M = tm_ev d is L (.ref 99 :: st) (tm_GG l x) M := tm_ev_stp rfl rfl
theorem g_95_11 : tm_ev d (.getfield 1211 :: is) L (.ref 95 :: st) (tm_GG l x) M = tm_ev d is L (.ref 100 :: st) (tm_GG l x) M := tm_ev_stp rfl rfl
theorem g_95_12 : tm_ev d (.getfield 1212 :: is) L (.ref 95 :: st) (tm_GG l x) M = tm_ev d is L (.ref 101 :: st) (tm_GG l x) M := tm_ev_stp rfl rfl
theorem g_95_13 : tm_ev d (.getfield 1213 :: is) L (.ref 95 :: st) (tm_GG l x) M = tm_ev d is L (.ref 102 :: st) (tm_GG l x) M := tm_ev_stp rfl rfl
theorem g_95_14 : tm_ev d (.getfield 1214 :: is) L (.ref 95 :: st) (tm_GG l x) M = tm_ev d is L (.ref 103 :: st) (tm_GG l x) M := tm_ev_stp rfl rfl
theorem g_95_15 : tm_ev d (.getfield 1215 :: is) L (.ref 95 :: st) (tm_GG l x) M = tm_ev d is L (.int (M 95 15) :: st) (tm_GG l x) M := tm_ev_stp rfl rfl
theorem p_95_15 {v : Int32} : tm_ev d (.putfield 1215 :: is) L (.int v :: .ref 95 :: st) (tm_GG l x) M = tm_ev d is L st (tm_GG l x) (tm_up M 95 15 v) := tm_ev_stp rfl rfl
theorem g_95_16 : tm_ev d (.getfield 1216 :: is) L (.ref 95 :: st) (tm_GG l x) M = tm_ev d is L (.int (M 95 16) :: st) (tm_GG l x) M := tm_ev_stp rfl rfl
theorem p_95_16 {v : Int32} : tm_ev d (.putfield 1216 :: is) L (.int v :: .ref 95 :: st) (tm_GG l x) M = tm_ev d is L st (tm_GG l x) (tm_up M 95 16 v) := tm_ev_stp rfl rfl
theorem g_95_17 : tm_ev d (.getfield 1217 :: is) L (.ref 95 :: st) (tm_GG l x) M = tm_ev d is L (.int (M 95 17) :: st) (tm_GG l x) M := tm_ev_stp rfl rfl
theorem p_95_17 {v : Int32} : tm_ev d (.putfield 1217 :: is) L (.int v :: .ref 95 :: st) (tm_GG l x) M = tm_ev d is L st (tm_GG l x) (tm_up M 95 17 v) := tm_ev_stp rfl rfl
theorem g_95_18 : tm_ev d (.getfield 1218 :: is) L (.ref 95 :: st) (tm_GG l x) M = tm_ev d is L (.int (M 95 18) :: st) (tm_GG l x) M := tm_ev_stp rfl rfl
theorem p_95_18 {v : Int32} : tm_ev d (.putfield 1218 :: is) L (.int v :: .ref 95 :: st) (tm_GG l x) M = tm_ev d is L st (tm_GG l x) (tm_up M 95 18 v) := tm_ev_stp rfl rfl
theorem g_95_19 : tm_ev d (.getfield 1219 :: is) L (.ref 95 :: st) (tm_GG l x) M = tm_ev d is L (.int (M 95 19) :: st) (tm_GG l x) M := tm_ev_stp rfl rfl
theorem p_95_19 {v : Int32} : tm_ev d (.putfield 1219 :: is) L (.int v :: .ref 95 :: st) (tm_GG l x) M = tm_ev d is L st (tm_GG l x) (tm_up M 95 19 v) := tm_ev_stp rfl rfl
theorem g_95_20 : tm_ev d (.getfield 1220 :: is) L (.ref 95 :: st) (tm_GG l x) M = tm_ev d is L (.int (M 95 20) :: st) (tm_GG l x) M := tm_ev_stp rfl rfl
theorem p_95_20 {v : Int32} : tm_ev d (.putfield 1220 :: is) L (.int v :: .ref 95 :: st) (tm_GG l x) M = tm_ev d is L st (tm_GG l x) (tm_up M 95 20 v) := tm_ev_stp rfl rfl
theorem g_95_21 : tm_ev d (.getfield 1221 :: is) L (.ref 95 :: st) (tm_GG l x) M = tm_ev d is L (.ref 104 :: st) (tm_GG l x) M := tm_ev_stp rfl rfl
theorem g_95_22 : tm_ev d (.getfield 1222 :: is) L (.ref 95 :: st) (tm_GG l x) M = tm_ev d is L (.ref 105 :: st) (tm_GG l x) M := tm_ev_stp rfl rfl
theorem g_95_23 : tm_ev d (.getfield 1223 :: is) L (.ref 95 :: st) (tm_GG l x) M = tm_ev d is L (.int (M 95 23) :: st) (tm_GG l x) M := tm_ev_stp rfl rfl
theorem p_95_23 {v : Int32} : tm_ev d (.putfield 1223 :: is) L (.int v :: .ref 95 :: st) (tm_GG l x) M = tm_ev d is L st (tm_GG l x) (tm_up M 95 23 v) := tm_ev_stp rfl rfl
theorem g_95_24 : tm_ev d (.getfield 1224 :: is) L (.ref 95 :: st) (tm_GG l x) M = tm_ev d is L (.int (M 95 24) :: st) (tm_GG l x) M := tm_ev_stp rfl rfl
theorem p_95_24 {v : Int32} : tm_ev d (.putfield 1224 :: is) L (.int v :: .ref 95 :: st) (tm_GG l x) M = tm_ev d is L st (tm_GG l x) (tm_up M 95 24 v) := tm_ev_stp rfl rfl
theorem g_95_25 : tm_ev d (.getfield 1225 :: is) L (.ref 95 :: st) (tm_GG l x) M = tm_ev d is L (.int (M 95 25) :: st) (tm_GG l x) M := tm_ev_stp rfl rfl
theorem p_95_25 {v : Int32} : tm_ev d (.putfield 1225 :: is) L (.int v :: .ref 95 :: st) (tm_GG l x) M = tm_ev d is L st (tm_GG l x) (tm_up M 95 25 v) := tm_ev_stp rfl rfl
theorem g_95_26 : tm_ev d (.getfield 1226 :: is) L (.ref 95 :: st) (tm_GG l x) M = tm_ev d is L (.int (M 95 26) :: st) (tm_GG l x) M := tm_ev_stp rfl rfl
theorem p_95_26 {v : Int32} : tm_ev d (.putfield 1226 :: is) L (.int v :: .ref 95 :: st) (tm_GG l x) M = tm_ev d is L st (tm_GG l x) (tm_up M 95 26 v) := tm_ev_stp rfl rfl
theorem g_95_27 : tm_ev d (.getfield 1227 :: is) L (.ref 95 :: st) (tm_GG l x) M = tm_ev d is L (.ref 106 :: st) (tm_GG l x) M := tm_ev_stp rfl rfl
theorem g_95_28 : tm_ev d (.getfield 1228 :: is) L (.ref 95 :: st) (tm_GG l x) M = tm_ev d is L (.ref 107 :: st) (tm_GG l x) M := tm_ev_stp rfl rfl
theorem g_95_29 : tm_ev d (.getfield 1229 :: is) L (.ref 95 :: st) (tm_GG l x) M = tm_ev d is L (.ref 108 :: st) (tm_GG l x) M := tm_ev_stp rfl rfl
theorem g_95_30 : tm_ev d (.getfield 1230 :: is) L (.ref 95 :: st) (tm_GG l x) M = tm_ev d is L (.ref 109 :: st) (tm_GG l x) M := tm_ev_stp rfl rfl
theorem al_96 {i : Int32} (h : tm_inb i 1258 = true) : tm_ev d (.iaload :: is) L (.int i :: .ref 96 :: st) (tm_GG l x) M = tm_ev d is L (.int (M 96 i.toNatClampNeg) :: st) (tm_GG l x) M := tm_ev_ald h rfl
theorem as_96 {i v : Int32} (h : tm_inb i 1258 = true) : tm_ev d (.iastore :: is) L (.int v :: .int i :: .ref 96 :: st) (tm_GG l x) M = tm_ev d is L st (tm_GG l x) (tm_up M 96 i.toNatClampNeg v) := tm_ev_ast h rfl
theorem an_96 : tm_ev d (.arraylength :: is) L (.ref 96 :: st) (tm_GG l x) M = tm_ev d is L (.int (Int32.ofNat 1258) :: st) (tm_GG l x) M := tm_ev_stp rfl rfl
theorem al_97 {i : Int32} (h : tm_inb i 1258 = true) : tm_ev d (.iaload :: is) L (.int i :: .ref 97 :: st) (tm_GG l x) M = tm_ev d is L (.int (M 97 i.toNatClampNeg) :: st) (tm_GG l x) M := tm_ev_ald h rfl
theorem as_97 {i v : Int32} (h : tm_inb i 1258 = true) : tm_ev d (.iastore :: is) L (.int v :: .int i :: .ref 97 :: st) (tm_GG l x) M = tm_ev d is L st (tm_GG l x) (tm_up M 97 i.toNatClampNeg v) := tm_ev_ast h rfl
theorem an_97 : tm_ev d (.arraylength :: is) L (.ref 97 :: st) (tm_GG l x) M = tm_ev d is L (.int (Int32.ofNat 1258) :: st) (tm_GG l x) M := tm_ev_stp rfl rfl
theorem al_98 {i : Int32} (h : tm_inb i 6 = true) : tm_ev d (.iaload :: is) L (.int i :: .ref 98 :: st) (tm_GG l x) M = tm_ev d is L (.int (M 98 i.toNatClampNeg) :: st) (tm_GG l x) M := tm_ev_ald h rfl
theorem as_98 {i v : Int32} (h : tm_inb i 6 = true) : tm_ev d (.iastore :: is) L (.int v :: .int i :: .ref 98 :: st) (tm_GG l x) M = tm_ev d is L st (tm_GG l x) (tm_up M 98 i.toNatClampNeg v) := tm_ev_ast h rfl
theorem an_98 : tm_ev d (.arraylength :: is) L (.ref 98 :: st) (tm_GG l x) M = tm_ev d is L (.int (Int32.ofNat 6) :: st) (tm_GG l x) M := tm_ev_stp rfl rfl
theorem al_99 {i : Int32} (h : tm_inb i 6 = true) : tm_ev d (.iaload :: is) L (.int i :: .ref 99 :: st) (tm_GG l x) M = tm_ev d is L (.int (M 99 i.toNatClampNeg) :: st) (tm_GG l x) M := tm_ev_ald h rfl
theorem as_99 {i v : Int32} (h : tm_inb i 6 = true) : tm_ev d (.iastore :: is) L (.int v :: .int i :: .ref 99 :: st) (tm_GG l x) M = tm_ev d is L st (tm_GG l x) (tm_up M 99 i.toNatClampNeg v) := tm_ev_ast h rfl
theorem an_99 : tm_ev d (.arraylength :: is) L (.ref 99 :: st) (tm_GG l x) M = tm_ev d is L (.int (Int32.ofNat 6) :: st) (tm_GG l x) M := tm_ev_stp rfl rfl
theorem al_100 {i : Int32} (h : tm_inb i 6 = true) : tm_ev d (.iaload :: is) L (.int i :: .ref 100 :: st) (tm_GG l x) M = tm_ev d is L (.int (M 100 i.toNatClampNeg) :: st) (tm_GG l x) M := tm_ev_ald h rfl
theorem as_100 {i v : Int32} (h : tm_inb i 6 = true) : tm_ev d (.iastore :: is) L (.int v :: .int i :: .ref 100 :: st) (tm_GG l x) M = tm_ev d is L st (tm_GG l x) (tm_up M 100 i.toNatClampNeg v) := tm_ev_ast h rfl
theorem an_100 : tm_ev d (.arraylength :: is) L (.ref 100 :: st) (tm_GG l x) M = tm_ev d is L (.int (Int32.ofNat 6) :: st) (tm_GG l x) M := tm_ev_stp rfl rfl
theorem al_101 {i : Int32} (h : tm_inb i 325 = true) : tm_ev d (.iaload :: is) L (.int i :: .ref 101 :: st) (tm_GG l x) M = tm_ev d is L (.int (M 101 i.toNatClampNeg) :: st) (tm_GG l x) M := tm_ev_ald h rfl
theorem as_101 {i v : Int32} (h : tm_inb i 325 = true) : tm_ev d (.iastore :: is) L (.int v :: .int i :: .ref 101 :: st) (tm_GG l x) M = tm_ev d is L st (tm_GG l x) (tm_up M 101 i.toNatClampNeg v) := tm_ev_ast h rfl
theorem an_101 : tm_ev d (.arraylength :: is) L (.ref 101 :: st) (tm_GG l x) M = tm_ev d is L (.int (Int32.ofNat 325) :: st) (tm_GG l x) M := tm_ev_stp rfl rfl
theorem al_102 {i : Int32} (h : tm_inb i 300 = true) : tm_ev d (.iaload :: is) L (.int i :: .ref 102 :: st) (tm_GG l x) M = tm_ev d is L (.int (M 102 i.toNatClampNeg) :: st) (tm_GG l x) M := tm_ev_ald h rfl
theorem as_102 {i v : Int32} (h : tm_inb i 300 = true) : tm_ev d (.iastore :: is) L (.int v :: .int i :: .ref 102 :: st) (tm_GG l x) M = tm_ev d is L st (tm_GG l x) (tm_up M 102 i.toNatClampNeg v) := tm_ev_ast h rfl
theorem an_102 : tm_ev d (.arraylength :: is) L (.ref 102 :: st) (tm_GG l x) M = tm_ev d is L (.int (Int32.ofNat 300) :: st) (tm_GG l x) M := tm_ev_stp rfl rfl
theorem al_103 {i : Int32} (h : tm_inb i 12 = true) : tm_ev d (.baload :: is) L (.int i :: .ref 103 :: st) (tm_GG l x) M = tm_ev d is L (.int (M 103 i.toNatClampNeg) :: st) (tm_GG l x) M := tm_ev_zld h rfl
theorem as_103 {i v : Int32} (h : tm_inb i 12 = true) : tm_ev d (.bastore :: is) L (.int v :: .int i :: .ref 103 :: st) (tm_GG l x) M = tm_ev d is L st (tm_GG l x) (tm_up M 103 i.toNatClampNeg (vp_nar .boolean v)) := tm_ev_zst h rfl
theorem al_104 {i : Int32} (h : tm_inb i 24 = true) : tm_ev d (.iaload :: is) L (.int i :: .ref 104 :: st) (tm_GG l x) M = tm_ev d is L (.int (M 104 i.toNatClampNeg) :: st) (tm_GG l x) M := tm_ev_ald h rfl
theorem as_104 {i v : Int32} (h : tm_inb i 24 = true) : tm_ev d (.iastore :: is) L (.int v :: .int i :: .ref 104 :: st) (tm_GG l x) M = tm_ev d is L st (tm_GG l x) (tm_up M 104 i.toNatClampNeg v) := tm_ev_ast h rfl
theorem an_104 : tm_ev d (.arraylength :: is) L (.ref 104 :: st) (tm_GG l x) M = tm_ev d is L (.int (Int32.ofNat 24) :: st) (tm_GG l x) M := tm_ev_stp rfl rfl
theorem al_105 {i : Int32} (h : tm_inb i 40 = true) : tm_ev d (.iaload :: is) L (.int i :: .ref 105 :: st) (tm_GG l x) M = tm_ev d is L (.int (M 105 i.toNatClampNeg) :: st) (tm_GG l x) M := tm_ev_ald h rfl
theorem as_105 {i v : Int32} (h : tm_inb i 40 = true) : tm_ev d (.iastore :: is) L (.int v :: .int i :: .ref 105 :: st) (tm_GG l x) M = tm_ev d is L st (tm_GG l x) (tm_up M 105 i.toNatClampNeg v) := tm_ev_ast h rfl
theorem an_105 : tm_ev d (.arraylength :: is) L (.ref 105 :: st) (tm_GG l x) M = tm_ev d is L (.int (Int32.ofNat 40) :: st) (tm_GG l x) M := tm_ev_stp rfl rfl
theorem al_106 {i : Int32} (h : tm_inb i 4 = true) : tm_ev d (.iaload :: is) L (.int i :: .ref 106 :: st) (tm_GG l x) M = tm_ev d is L (.int (M 106 i.toNatClampNeg) :: st) (tm_GG l x) M := tm_ev_ald h rfl
theorem as_106 {i v : Int32} (h : tm_inb i 4 = true) : tm_ev d (.iastore :: is) L (.int v :: .int i :: .ref 106 :: st) (tm_GG l x) M = tm_ev d is L st (tm_GG l x) (tm_up M 106 i.toNatClampNeg v) := tm_ev_ast h rfl
theorem an_106 : tm_ev d (.arraylength :: is) L (.ref 106 :: st) (tm_GG l x) M = tm_ev d is L (.int (Int32.ofNat 4) :: st) (tm_GG l x) M := tm_ev_stp rfl rfl
theorem al_107 {i : Int32} (h : tm_inb i 4 = true) : tm_ev d (.iaload :: is) L (.int i :: .ref 107 :: st) (tm_GG l x) M = tm_ev d is L (.int (M 107 i.toNatClampNeg) :: st) (tm_GG l x) M := tm_ev_ald h rfl
theorem as_107 {i v : Int32} (h : tm_inb i 4 = true) : tm_ev d (.iastore :: is) L (.int v :: .int i :: .ref 107 :: st) (tm_GG l x) M = tm_ev d is L st (tm_GG l x) (tm_up M 107 i.toNatClampNeg v) := tm_ev_ast h rfl
theorem an_107 : tm_ev d (.arraylength :: is) L (.ref 107 :: st) (tm_GG l x) M = tm_ev d is L (.int (Int32.ofNat 4) :: st) (tm_GG l x) M := tm_ev_stp rfl rfl
theorem al_108 {i : Int32} (h : tm_inb i 96 = true) : tm_ev d (.iaload :: is) L (.int i :: .ref 108 :: st) (tm_GG l x) M = tm_ev d is L (.int (M 108 i.toNatClampNeg) :: st) (tm_GG l x) M := tm_ev_ald h rfl
theorem as_108 {i v : Int32} (h : tm_inb i 96 = true) : tm_ev d (.iastore :: is) L (.int v :: .int i :: .ref 108 :: st) (tm_GG l x) M = tm_ev d is L st (tm_GG l x) (tm_up M 108 i.toNatClampNeg v) := tm_ev_ast h rfl
theorem an_108 : tm_ev d (.arraylength :: is) L (.ref 108 :: st) (tm_GG l x) M = tm_ev d is L (.int (Int32.ofNat 96) :: st) (tm_GG l x) M := tm_ev_stp rfl rfl
theorem al_109 {i : Int32} (h : tm_inb i 24 = true) : tm_ev d (.iaload :: is) L (.int i :: .ref 109 :: st) (tm_GG l x) M = tm_ev d is L (.int (M 109 i.toNatClampNeg) :: st) (tm_GG l x) M := tm_ev_ald h rfl
theorem as_109 {i v : Int32} (h : tm_inb i 24 = true) : tm_ev d (.iastore :: is) L (.int v :: .int i :: .ref 109 :: st) (tm_GG l x) M = tm_ev d is L st (tm_GG l x) (tm_up M 109 i.toNatClampNeg v) := tm_ev_ast h rfl
theorem an_109 : tm_ev d (.arraylength :: is) L (.ref 109 :: st) (tm_GG l x) M = tm_ev d is L (.int (Int32.ofNat 24) :: st) (tm_GG l x) M := tm_ev_stp rfl rfl
theorem al_1000 {i : Int32} (h : tm_inb i l = true) : tm_ev d (.iaload :: is) L (.int i :: .ref 1000 :: st) (tm_GG l x) M = tm_ev d is L (.int (x i.toNatClampNeg) :: st) (tm_GG l x) M := tm_ev_stp rfl (by simp [tm_stp, tm_stk, tm_loc, tm_rdg, tm_rd, tm_ro, tm_GG, h])
theorem an_1000 : tm_ev d (.arraylength :: is) L (.ref 1000 :: st) (tm_GG l x) M = tm_ev d is L (.int (Int32.ofNat l) :: st) (tm_GG l x) M := tm_ev_stp rfl rfl
theorem al_1001 {i : Int32} (h : tm_inb i 8 = true) : tm_ev d (.iaload :: is) L (.int i :: .ref 1001 :: st) (tm_GG l x) M = tm_ev d is L (.int (tm_KA i.toNatClampNeg) :: st) (tm_GG l x) M := tm_ev_stp rfl (by simp [tm_stp, tm_stk, tm_loc, tm_rdg, tm_rd, tm_ro, h])
theorem an_1001 : tm_ev d (.arraylength :: is) L (.ref 1001 :: st) (tm_GG l x) M = tm_ev d is L (.int (Int32.ofNat 8) :: st) (tm_GG l x) M := tm_ev_stp rfl rfl
theorem al_1002 {i : Int32} (h : tm_inb i 32 = true) : tm_ev d (.iaload :: is) L (.int i :: .ref 1002 :: st) (tm_GG l x) M = tm_ev d is L (.int (tm_BO i.toNatClampNeg) :: st) (tm_GG l x) M := tm_ev_stp rfl (by simp [tm_stp, tm_stk, tm_loc, tm_rdg, tm_rd, tm_ro, h])
end TMC
