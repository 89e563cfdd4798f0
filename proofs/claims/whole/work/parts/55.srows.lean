/-! part 55: rows for a sheet of any number -/
section TSR
variable {d l s : Nat} {is : List Instr} {L st : List Value} {M : tm_M} {x : Nat → Int32} {i v : Int32}
theorem s4 (h : s < 4) : s = 0 ∨ s = 1 ∨ s = 2 ∨ s = 3 := by omega
theorem tm_cS (h : s < 4) : tm_isC (tm_GG l x) (82 + 3 * s) 7 = true := by
  rcases s4 h with rfl | rfl | rfl | rfl
  · exact c_82
  · exact c_85
  · exact c_88
  · exact c_91
theorem arS (h : s < 4) : tm_ev d (.aaload :: is) L (.int (nI s) :: .ref 81 :: st) (tm_GG l x) M = tm_ev d is L (.ref (82 + 3 * s) :: st) (tm_GG l x) M := by
  rcases s4 h with rfl | rfl | rfl | rfl
  · exact arn_81_0
  · exact arn_81_1
  · exact arn_81_2
  · exact arn_81_3
theorem gS0 (h : s < 4) : tm_ev d (.getfield 700 :: is) L (.ref (82 + 3 * s) :: st) (tm_GG l x) M = tm_ev d is L (.int (M (82 + 3 * s) 0) :: st) (tm_GG l x) M := by
  rcases s4 h with rfl | rfl | rfl | rfl
  · exact g_82_0
  · exact g_85_0
  · exact g_88_0
  · exact g_91_0
theorem gS1 (h : s < 4) : tm_ev d (.getfield 701 :: is) L (.ref (82 + 3 * s) :: st) (tm_GG l x) M = tm_ev d is L (.int (M (82 + 3 * s) 1) :: st) (tm_GG l x) M := by
  rcases s4 h with rfl | rfl | rfl | rfl
  · exact g_82_1
  · exact g_85_1
  · exact g_88_1
  · exact g_91_1
theorem gS2 (h : s < 4) : tm_ev d (.getfield 702 :: is) L (.ref (82 + 3 * s) :: st) (tm_GG l x) M = tm_ev d is L (.ref (83 + 3 * s) :: st) (tm_GG l x) M := by
  rcases s4 h with rfl | rfl | rfl | rfl
  · exact g_82_2
  · exact g_85_2
  · exact g_88_2
  · exact g_91_2
theorem gS3 (h : s < 4) : tm_ev d (.getfield 703 :: is) L (.ref (82 + 3 * s) :: st) (tm_GG l x) M = tm_ev d is L (.ref (84 + 3 * s) :: st) (tm_GG l x) M := by
  rcases s4 h with rfl | rfl | rfl | rfl
  · exact g_82_3
  · exact g_85_3
  · exact g_88_3
  · exact g_91_3
theorem pS0 (h : s < 4) : tm_ev d (.putfield 700 :: is) L (.int v :: .ref (82 + 3 * s) :: st) (tm_GG l x) M = tm_ev d is L st (tm_GG l x) (tm_up M (82 + 3 * s) 0 v) := by
  rcases s4 h with rfl | rfl | rfl | rfl
  · exact p_82_0
  · exact p_85_0
  · exact p_88_0
  · exact p_91_0
theorem pS1 (h : s < 4) : tm_ev d (.putfield 701 :: is) L (.int v :: .ref (82 + 3 * s) :: st) (tm_GG l x) M = tm_ev d is L st (tm_GG l x) (tm_up M (82 + 3 * s) 1 v) := by
  rcases s4 h with rfl | rfl | rfl | rfl
  · exact p_82_1
  · exact p_85_1
  · exact p_88_1
  · exact p_91_1
theorem alS (h : s < 4) (hi : tm_inb i 24 = true) : tm_ev d (.iaload :: is) L (.int i :: .ref (83 + 3 * s) :: st) (tm_GG l x) M = tm_ev d is L (.int (M (83 + 3 * s) i.toNatClampNeg) :: st) (tm_GG l x) M := by
  rcases s4 h with rfl | rfl | rfl | rfl
  · exact al_83 hi
  · exact al_86 hi
  · exact al_89 hi
  · exact al_92 hi
theorem asS (h : s < 4) (hi : tm_inb i 24 = true) : tm_ev d (.iastore :: is) L (.int v :: .int i :: .ref (83 + 3 * s) :: st) (tm_GG l x) M = tm_ev d is L st (tm_GG l x) (tm_up M (83 + 3 * s) i.toNatClampNeg v) := by
  rcases s4 h with rfl | rfl | rfl | rfl
  · exact as_83 hi
  · exact as_86 hi
  · exact as_89 hi
  · exact as_92 hi
theorem alU (h : s < 4) (hi : tm_inb i 24 = true) : tm_ev d (.iaload :: is) L (.int i :: .ref (84 + 3 * s) :: st) (tm_GG l x) M = tm_ev d is L (.int (M (84 + 3 * s) i.toNatClampNeg) :: st) (tm_GG l x) M := by
  rcases s4 h with rfl | rfl | rfl | rfl
  · exact al_84 hi
  · exact al_87 hi
  · exact al_90 hi
  · exact al_93 hi
theorem asU (h : s < 4) (hi : tm_inb i 24 = true) : tm_ev d (.iastore :: is) L (.int v :: .int i :: .ref (84 + 3 * s) :: st) (tm_GG l x) M = tm_ev d is L st (tm_GG l x) (tm_up M (84 + 3 * s) i.toNatClampNeg v) := by
  rcases s4 h with rfl | rfl | rfl | rfl
  · exact as_84 hi
  · exact as_87 hi
  · exact as_90 hi
  · exact as_93 hi
theorem shS (h : s < 4) : tm_SH[83 + 3 * s]? = some (0, 24) := by
  rcases s4 h with rfl | rfl | rfl | rfl <;> rfl
end TSR
