/-! part 31: constants as nI, switches as chains of if (by program: wip/whole/gen30.py) -/
theorem kn_0 : Int32.ofInt 0 = nI 0 := by decide +kernel
theorem kn_1 : Int32.ofInt 1 = nI 1 := by decide +kernel
theorem kn_2 : Int32.ofInt 2 = nI 2 := by decide +kernel
theorem kn_3 : Int32.ofInt 3 = nI 3 := by decide +kernel
theorem kn_4 : Int32.ofInt 4 = nI 4 := by decide +kernel
theorem kn_5 : Int32.ofInt 5 = nI 5 := by decide +kernel
theorem kn_6 : Int32.ofInt 6 = nI 6 := by decide +kernel
theorem kn_7 : Int32.ofInt 7 = nI 7 := by decide +kernel
theorem kn_8 : Int32.ofInt 8 = nI 8 := by decide +kernel
theorem kn_9 : Int32.ofInt 9 = nI 9 := by decide +kernel
theorem kn_10 : Int32.ofInt 10 = nI 10 := by decide +kernel
theorem kn_11 : Int32.ofInt 11 = nI 11 := by decide +kernel
theorem kn_12 : Int32.ofInt 12 = nI 12 := by decide +kernel
theorem kn_13 : Int32.ofInt 13 = nI 13 := by decide +kernel
theorem kn_16 : Int32.ofInt 16 = nI 16 := by decide +kernel
theorem kn_20 : Int32.ofInt 20 = nI 20 := by decide +kernel
theorem kn_24 : Int32.ofInt 24 = nI 24 := by decide +kernel
theorem kn_25 : Int32.ofInt 25 = nI 25 := by decide +kernel
theorem kn_30 : Int32.ofInt 30 = nI 30 := by decide +kernel
theorem kn_31 : Int32.ofInt 31 = nI 31 := by decide +kernel
theorem kn_32 : Int32.ofInt 32 = nI 32 := by decide +kernel
theorem kn_33 : Int32.ofInt 33 = nI 33 := by decide +kernel
theorem kn_34 : Int32.ofInt 34 = nI 34 := by decide +kernel
theorem kn_38 : Int32.ofInt 38 = nI 38 := by decide +kernel
theorem kn_40 : Int32.ofInt 40 = nI 40 := by decide +kernel
theorem kn_41 : Int32.ofInt 41 = nI 41 := by decide +kernel
theorem kn_42 : Int32.ofInt 42 = nI 42 := by decide +kernel
theorem kn_43 : Int32.ofInt 43 = nI 43 := by decide +kernel
theorem kn_45 : Int32.ofInt 45 = nI 45 := by decide +kernel
theorem kn_47 : Int32.ofInt 47 = nI 47 := by decide +kernel
theorem kn_48 : Int32.ofInt 48 = nI 48 := by decide +kernel
theorem kn_50 : Int32.ofInt 50 = nI 50 := by decide +kernel
theorem kn_51 : Int32.ofInt 51 = nI 51 := by decide +kernel
theorem kn_57 : Int32.ofInt 57 = nI 57 := by decide +kernel
theorem kn_59 : Int32.ofInt 59 = nI 59 := by decide +kernel
theorem kn_60 : Int32.ofInt 60 = nI 60 := by decide +kernel
theorem kn_61 : Int32.ofInt 61 = nI 61 := by decide +kernel
theorem kn_62 : Int32.ofInt 62 = nI 62 := by decide +kernel
theorem kn_63 : Int32.ofInt 63 = nI 63 := by decide +kernel
theorem kn_70 : Int32.ofInt 70 = nI 70 := by decide +kernel
theorem kn_80 : Int32.ofInt 80 = nI 80 := by decide +kernel
theorem kn_81 : Int32.ofInt 81 = nI 81 := by decide +kernel
theorem kn_84 : Int32.ofInt 84 = nI 84 := by decide +kernel
theorem kn_96 : Int32.ofInt 96 = nI 96 := by decide +kernel
theorem kn_97 : Int32.ofInt 97 = nI 97 := by decide +kernel
theorem kn_98 : Int32.ofInt 98 = nI 98 := by decide +kernel
theorem kn_99 : Int32.ofInt 99 = nI 99 := by decide +kernel
theorem kn_100 : Int32.ofInt 100 = nI 100 := by decide +kernel
theorem kn_101 : Int32.ofInt 101 = nI 101 := by decide +kernel
theorem kn_102 : Int32.ofInt 102 = nI 102 := by decide +kernel
theorem kn_124 : Int32.ofInt 124 = nI 124 := by decide +kernel
theorem kn_144 : Int32.ofInt 144 = nI 144 := by decide +kernel
theorem kn_168 : Int32.ofInt 168 = nI 168 := by decide +kernel
theorem kn_255 : Int32.ofInt 255 = nI 255 := by decide +kernel
theorem kn_300 : Int32.ofInt 300 = nI 300 := by decide +kernel
theorem kn_325 : Int32.ofInt 325 = nI 325 := by decide +kernel
theorem kn_365 : Int32.ofInt 365 = nI 365 := by decide +kernel
theorem kn_368 : Int32.ofInt 368 = nI 368 := by decide +kernel
theorem kn_668 : Int32.ofInt 668 = nI 668 := by decide +kernel
theorem kn_680 : Int32.ofInt 680 = nI 680 := by decide +kernel
theorem kn_692 : Int32.ofInt 692 = nI 692 := by decide +kernel
theorem kn_808 : Int32.ofInt 808 = nI 808 := by decide +kernel
theorem kn_999 : Int32.ofInt 999 = nI 999 := by decide +kernel
theorem kn_1076 : Int32.ofInt 1076 = nI 1076 := by decide +kernel
theorem kn_1077 : Int32.ofInt 1077 = nI 1077 := by decide +kernel
theorem kn_1078 : Int32.ofInt 1078 = nI 1078 := by decide +kernel
theorem kn_1198 : Int32.ofInt 1198 = nI 1198 := by decide +kernel
theorem kn_1258 : Int32.ofInt 1258 = nI 1258 := by decide +kernel
theorem kn_2000 : Int32.ofInt 2000 = nI 2000 := by decide +kernel
theorem kn_2324 : Int32.ofInt 2324 = nI 2324 := by decide +kernel
theorem kn_13849 : Int32.ofInt 13849 = nI 13849 := by decide +kernel
theorem kn_25173 : Int32.ofInt 25173 = nI 25173 := by decide +kernel
theorem kn_65535 : Int32.ofInt 65535 = nI 65535 := by decide +kernel
theorem kn_65536 : Int32.ofInt 65536 = nI 65536 := by decide +kernel
theorem kn_252645135 : Int32.ofInt 252645135 = nI 252645135 := by decide +kernel
theorem kn_858993459 : Int32.ofInt 858993459 = nI 858993459 := by decide +kernel
theorem kn_1000000000 : Int32.ofInt 1000000000 = nI 1000000000 := by decide +kernel
theorem kn_1431655765 : Int32.ofInt 1431655765 = nI 1431655765 := by decide +kernel
section TMSW
variable {d : Nat} {is : List Instr} {L st : List Value} {G : tm_G} {M : tm_M} {v : Int32}
theorem sw_X3_goAsTold_0 : tm_ev d (.tableswitch 270139 0 6 #[270044, 270073, 270087, 270139, 270139, 270139, 270101] :: is) L (.int v :: st) G M = if v = nI 0 then tm_ev d (tm_blk (Int.toNat 270044)) L st G M else if v = nI 1 then tm_ev d (tm_blk (Int.toNat 270073)) L st G M else if v = nI 2 then tm_ev d (tm_blk (Int.toNat 270087)) L st G M else if v = nI 3 then tm_ev d (tm_blk (Int.toNat 270139)) L st G M else if v = nI 4 then tm_ev d (tm_blk (Int.toNat 270139)) L st G M else if v = nI 5 then tm_ev d (tm_blk (Int.toNat 270139)) L st G M else if v = nI 6 then tm_ev d (tm_blk (Int.toNat 270101)) L st G M else tm_ev d (tm_blk (Int.toNat 270139)) L st G M := by
  by_cases h0 : v = nI 0
  · rw [if_pos h0]; exact sw_t h0 (by decide) (by decide) rfl
  rw [if_neg h0]
  by_cases h1 : v = nI 1
  · rw [if_pos h1]; exact sw_t h1 (by decide) (by decide) rfl
  rw [if_neg h1]
  by_cases h2 : v = nI 2
  · rw [if_pos h2]; exact sw_t h2 (by decide) (by decide) rfl
  rw [if_neg h2]
  by_cases h3 : v = nI 3
  · rw [if_pos h3]; exact sw_t h3 (by decide) (by decide) rfl
  rw [if_neg h3]
  by_cases h4 : v = nI 4
  · rw [if_pos h4]; exact sw_t h4 (by decide) (by decide) rfl
  rw [if_neg h4]
  by_cases h5 : v = nI 5
  · rw [if_pos h5]; exact sw_t h5 (by decide) (by decide) rfl
  rw [if_neg h5]
  by_cases h6 : v = nI 6
  · rw [if_pos h6]; exact sw_t h6 (by decide) (by decide) rfl
  rw [if_neg h6]
  refine e_tsd ?_
  have q0 := sw_ne (by decide) h0
  have q1 := sw_ne (by decide) h1
  have q2 := sw_ne (by decide) h2
  have q3 := sw_ne (by decide) h3
  have q4 := sw_ne (by decide) h4
  have q5 := sw_ne (by decide) h5
  have q6 := sw_ne (by decide) h6
  omega
theorem sw_X4_levelOf_0 : tm_ev d (.lookupswitch 390094 #[(38, 390086), (42, 390092), (43, 390090), (45, 390090), (47, 390092), (60, 390088), (61, 390088), (62, 390088), (124, 390084)] :: is) L (.int v :: st) G M = if v = nI 38 then tm_ev d (tm_blk (Int.toNat 390086)) L st G M else if v = nI 42 then tm_ev d (tm_blk (Int.toNat 390092)) L st G M else if v = nI 43 then tm_ev d (tm_blk (Int.toNat 390090)) L st G M else if v = nI 45 then tm_ev d (tm_blk (Int.toNat 390090)) L st G M else if v = nI 47 then tm_ev d (tm_blk (Int.toNat 390092)) L st G M else if v = nI 60 then tm_ev d (tm_blk (Int.toNat 390088)) L st G M else if v = nI 61 then tm_ev d (tm_blk (Int.toNat 390088)) L st G M else if v = nI 62 then tm_ev d (tm_blk (Int.toNat 390088)) L st G M else if v = nI 124 then tm_ev d (tm_blk (Int.toNat 390084)) L st G M else tm_ev d (tm_blk (Int.toNat 390094)) L st G M := by
  refine (tm_ev_jmp (lab := (Op.lookupswitch.offset [(38, 390086), (42, 390092), (43, 390090), (45, 390090), (47, 390092), (60, 390088), (61, 390088), (62, 390088), (124, 390084)] 390094 v.toInt).toNat) rfl).trans ?_
  by_cases h38 : v = nI 38
  · rw [if_pos h38, h38, nI_toInt (by decide)]; rfl
  rw [if_neg h38, Op.lookupswitch.offset_cons, if_neg (fun q => sw_ne (by decide) h38 q.symm)]
  by_cases h42 : v = nI 42
  · rw [if_pos h42, h42, nI_toInt (by decide)]; rfl
  rw [if_neg h42, Op.lookupswitch.offset_cons, if_neg (fun q => sw_ne (by decide) h42 q.symm)]
  by_cases h43 : v = nI 43
  · rw [if_pos h43, h43, nI_toInt (by decide)]; rfl
  rw [if_neg h43, Op.lookupswitch.offset_cons, if_neg (fun q => sw_ne (by decide) h43 q.symm)]
  by_cases h45 : v = nI 45
  · rw [if_pos h45, h45, nI_toInt (by decide)]; rfl
  rw [if_neg h45, Op.lookupswitch.offset_cons, if_neg (fun q => sw_ne (by decide) h45 q.symm)]
  by_cases h47 : v = nI 47
  · rw [if_pos h47, h47, nI_toInt (by decide)]; rfl
  rw [if_neg h47, Op.lookupswitch.offset_cons, if_neg (fun q => sw_ne (by decide) h47 q.symm)]
  by_cases h60 : v = nI 60
  · rw [if_pos h60, h60, nI_toInt (by decide)]; rfl
  rw [if_neg h60, Op.lookupswitch.offset_cons, if_neg (fun q => sw_ne (by decide) h60 q.symm)]
  by_cases h61 : v = nI 61
  · rw [if_pos h61, h61, nI_toInt (by decide)]; rfl
  rw [if_neg h61, Op.lookupswitch.offset_cons, if_neg (fun q => sw_ne (by decide) h61 q.symm)]
  by_cases h62 : v = nI 62
  · rw [if_pos h62, h62, nI_toInt (by decide)]; rfl
  rw [if_neg h62, Op.lookupswitch.offset_cons, if_neg (fun q => sw_ne (by decide) h62 q.symm)]
  by_cases h124 : v = nI 124
  · rw [if_pos h124, h124, nI_toInt (by decide)]; rfl
  rw [if_neg h124, Op.lookupswitch.offset_cons, if_neg (fun q => sw_ne (by decide) h124 q.symm)]
  rfl
theorem sw_X8_join_0 : tm_ev d (.lookupswitch 810149 #[(38, 810090), (42, 810145), (43, 810137), (45, 810141), (60, 810104), (61, 810115), (62, 810126), (124, 810076)] :: is) L (.int v :: st) G M = if v = nI 38 then tm_ev d (tm_blk (Int.toNat 810090)) L st G M else if v = nI 42 then tm_ev d (tm_blk (Int.toNat 810145)) L st G M else if v = nI 43 then tm_ev d (tm_blk (Int.toNat 810137)) L st G M else if v = nI 45 then tm_ev d (tm_blk (Int.toNat 810141)) L st G M else if v = nI 60 then tm_ev d (tm_blk (Int.toNat 810104)) L st G M else if v = nI 61 then tm_ev d (tm_blk (Int.toNat 810115)) L st G M else if v = nI 62 then tm_ev d (tm_blk (Int.toNat 810126)) L st G M else if v = nI 124 then tm_ev d (tm_blk (Int.toNat 810076)) L st G M else tm_ev d (tm_blk (Int.toNat 810149)) L st G M := by
  refine (tm_ev_jmp (lab := (Op.lookupswitch.offset [(38, 810090), (42, 810145), (43, 810137), (45, 810141), (60, 810104), (61, 810115), (62, 810126), (124, 810076)] 810149 v.toInt).toNat) rfl).trans ?_
  by_cases h38 : v = nI 38
  · rw [if_pos h38, h38, nI_toInt (by decide)]; rfl
  rw [if_neg h38, Op.lookupswitch.offset_cons, if_neg (fun q => sw_ne (by decide) h38 q.symm)]
  by_cases h42 : v = nI 42
  · rw [if_pos h42, h42, nI_toInt (by decide)]; rfl
  rw [if_neg h42, Op.lookupswitch.offset_cons, if_neg (fun q => sw_ne (by decide) h42 q.symm)]
  by_cases h43 : v = nI 43
  · rw [if_pos h43, h43, nI_toInt (by decide)]; rfl
  rw [if_neg h43, Op.lookupswitch.offset_cons, if_neg (fun q => sw_ne (by decide) h43 q.symm)]
  by_cases h45 : v = nI 45
  · rw [if_pos h45, h45, nI_toInt (by decide)]; rfl
  rw [if_neg h45, Op.lookupswitch.offset_cons, if_neg (fun q => sw_ne (by decide) h45 q.symm)]
  by_cases h60 : v = nI 60
  · rw [if_pos h60, h60, nI_toInt (by decide)]; rfl
  rw [if_neg h60, Op.lookupswitch.offset_cons, if_neg (fun q => sw_ne (by decide) h60 q.symm)]
  by_cases h61 : v = nI 61
  · rw [if_pos h61, h61, nI_toInt (by decide)]; rfl
  rw [if_neg h61, Op.lookupswitch.offset_cons, if_neg (fun q => sw_ne (by decide) h61 q.symm)]
  by_cases h62 : v = nI 62
  · rw [if_pos h62, h62, nI_toInt (by decide)]; rfl
  rw [if_neg h62, Op.lookupswitch.offset_cons, if_neg (fun q => sw_ne (by decide) h62 q.symm)]
  by_cases h124 : v = nI 124
  · rw [if_pos h124, h124, nI_toInt (by decide)]; rfl
  rw [if_neg h124, Op.lookupswitch.offset_cons, if_neg (fun q => sw_ne (by decide) h124 q.symm)]
  rfl
theorem sw_X9_sayGoing_0 : tm_ev d (.tableswitch 850056 10 12 #[850028, 850035, 850049] :: is) L (.int v :: st) G M = if v = nI 10 then tm_ev d (tm_blk (Int.toNat 850028)) L st G M else if v = nI 11 then tm_ev d (tm_blk (Int.toNat 850035)) L st G M else if v = nI 12 then tm_ev d (tm_blk (Int.toNat 850049)) L st G M else tm_ev d (tm_blk (Int.toNat 850056)) L st G M := by
  by_cases h10 : v = nI 10
  · rw [if_pos h10]; exact sw_t h10 (by decide) (by decide) rfl
  rw [if_neg h10]
  by_cases h11 : v = nI 11
  · rw [if_pos h11]; exact sw_t h11 (by decide) (by decide) rfl
  rw [if_neg h11]
  by_cases h12 : v = nI 12
  · rw [if_pos h12]; exact sw_t h12 (by decide) (by decide) rfl
  rw [if_neg h12]
  refine e_tsd ?_
  have q10 := sw_ne (by decide) h10
  have q11 := sw_ne (by decide) h11
  have q12 := sw_ne (by decide) h12
  omega
theorem sw_X9_sayUnder_0 : tm_ev d (.lookupswitch 860234 #[(20, 860084), (30, 860099), (31, 860111), (40, 860123), (50, 860146), (51, 860158), (60, 860173), (70, 860196), (80, 860219)] :: is) L (.int v :: st) G M = if v = nI 20 then tm_ev d (tm_blk (Int.toNat 860084)) L st G M else if v = nI 30 then tm_ev d (tm_blk (Int.toNat 860099)) L st G M else if v = nI 31 then tm_ev d (tm_blk (Int.toNat 860111)) L st G M else if v = nI 40 then tm_ev d (tm_blk (Int.toNat 860123)) L st G M else if v = nI 50 then tm_ev d (tm_blk (Int.toNat 860146)) L st G M else if v = nI 51 then tm_ev d (tm_blk (Int.toNat 860158)) L st G M else if v = nI 60 then tm_ev d (tm_blk (Int.toNat 860173)) L st G M else if v = nI 70 then tm_ev d (tm_blk (Int.toNat 860196)) L st G M else if v = nI 80 then tm_ev d (tm_blk (Int.toNat 860219)) L st G M else tm_ev d (tm_blk (Int.toNat 860234)) L st G M := by
  refine (tm_ev_jmp (lab := (Op.lookupswitch.offset [(20, 860084), (30, 860099), (31, 860111), (40, 860123), (50, 860146), (51, 860158), (60, 860173), (70, 860196), (80, 860219)] 860234 v.toInt).toNat) rfl).trans ?_
  by_cases h20 : v = nI 20
  · rw [if_pos h20, h20, nI_toInt (by decide)]; rfl
  rw [if_neg h20, Op.lookupswitch.offset_cons, if_neg (fun q => sw_ne (by decide) h20 q.symm)]
  by_cases h30 : v = nI 30
  · rw [if_pos h30, h30, nI_toInt (by decide)]; rfl
  rw [if_neg h30, Op.lookupswitch.offset_cons, if_neg (fun q => sw_ne (by decide) h30 q.symm)]
  by_cases h31 : v = nI 31
  · rw [if_pos h31, h31, nI_toInt (by decide)]; rfl
  rw [if_neg h31, Op.lookupswitch.offset_cons, if_neg (fun q => sw_ne (by decide) h31 q.symm)]
  by_cases h40 : v = nI 40
  · rw [if_pos h40, h40, nI_toInt (by decide)]; rfl
  rw [if_neg h40, Op.lookupswitch.offset_cons, if_neg (fun q => sw_ne (by decide) h40 q.symm)]
  by_cases h50 : v = nI 50
  · rw [if_pos h50, h50, nI_toInt (by decide)]; rfl
  rw [if_neg h50, Op.lookupswitch.offset_cons, if_neg (fun q => sw_ne (by decide) h50 q.symm)]
  by_cases h51 : v = nI 51
  · rw [if_pos h51, h51, nI_toInt (by decide)]; rfl
  rw [if_neg h51, Op.lookupswitch.offset_cons, if_neg (fun q => sw_ne (by decide) h51 q.symm)]
  by_cases h60 : v = nI 60
  · rw [if_pos h60, h60, nI_toInt (by decide)]; rfl
  rw [if_neg h60, Op.lookupswitch.offset_cons, if_neg (fun q => sw_ne (by decide) h60 q.symm)]
  by_cases h70 : v = nI 70
  · rw [if_pos h70, h70, nI_toInt (by decide)]; rfl
  rw [if_neg h70, Op.lookupswitch.offset_cons, if_neg (fun q => sw_ne (by decide) h70 q.symm)]
  by_cases h80 : v = nI 80
  · rw [if_pos h80, h80, nI_toInt (by decide)]; rfl
  rw [if_neg h80, Op.lookupswitch.offset_cons, if_neg (fun q => sw_ne (by decide) h80 q.symm)]
  rfl
theorem sw_X11_goingIs_23 : tm_ev d (.tableswitch 1080108 0 3 #[1080056, 1080069, 1080082, 1080095] :: is) L (.int v :: st) G M = if v = nI 0 then tm_ev d (tm_blk (Int.toNat 1080056)) L st G M else if v = nI 1 then tm_ev d (tm_blk (Int.toNat 1080069)) L st G M else if v = nI 2 then tm_ev d (tm_blk (Int.toNat 1080082)) L st G M else if v = nI 3 then tm_ev d (tm_blk (Int.toNat 1080095)) L st G M else tm_ev d (tm_blk (Int.toNat 1080108)) L st G M := by
  by_cases h0 : v = nI 0
  · rw [if_pos h0]; exact sw_t h0 (by decide) (by decide) rfl
  rw [if_neg h0]
  by_cases h1 : v = nI 1
  · rw [if_pos h1]; exact sw_t h1 (by decide) (by decide) rfl
  rw [if_neg h1]
  by_cases h2 : v = nI 2
  · rw [if_pos h2]; exact sw_t h2 (by decide) (by decide) rfl
  rw [if_neg h2]
  by_cases h3 : v = nI 3
  · rw [if_pos h3]; exact sw_t h3 (by decide) (by decide) rfl
  rw [if_neg h3]
  refine e_tsd ?_
  have q0 := sw_ne (by decide) h0
  have q1 := sw_ne (by decide) h1
  have q2 := sw_ne (by decide) h2
  have q3 := sw_ne (by decide) h3
  omega
theorem sw_X11_gap_41 : tm_ev d (.tableswitch 1190112 0 3 #[1190072, 1190080, 1190088, 1190096] :: is) L (.int v :: st) G M = if v = nI 0 then tm_ev d (tm_blk (Int.toNat 1190072)) L st G M else if v = nI 1 then tm_ev d (tm_blk (Int.toNat 1190080)) L st G M else if v = nI 2 then tm_ev d (tm_blk (Int.toNat 1190088)) L st G M else if v = nI 3 then tm_ev d (tm_blk (Int.toNat 1190096)) L st G M else tm_ev d (tm_blk (Int.toNat 1190112)) L st G M := by
  by_cases h0 : v = nI 0
  · rw [if_pos h0]; exact sw_t h0 (by decide) (by decide) rfl
  rw [if_neg h0]
  by_cases h1 : v = nI 1
  · rw [if_pos h1]; exact sw_t h1 (by decide) (by decide) rfl
  rw [if_neg h1]
  by_cases h2 : v = nI 2
  · rw [if_pos h2]; exact sw_t h2 (by decide) (by decide) rfl
  rw [if_neg h2]
  by_cases h3 : v = nI 3
  · rw [if_pos h3]; exact sw_t h3 (by decide) (by decide) rfl
  rw [if_neg h3]
  refine e_tsd ?_
  have q0 := sw_ne (by decide) h0
  have q1 := sw_ne (by decide) h1
  have q2 := sw_ne (by decide) h2
  have q3 := sw_ne (by decide) h3
  omega
theorem sw_X11_told_0 : tm_ev d (.tableswitch 1370169 0 10 #[1370060, 1370071, 1370082, 1370093, 1370104, 1370112, 1370120, 1370134, 1370142, 1370150, 1370161] :: is) L (.int v :: st) G M = if v = nI 0 then tm_ev d (tm_blk (Int.toNat 1370060)) L st G M else if v = nI 1 then tm_ev d (tm_blk (Int.toNat 1370071)) L st G M else if v = nI 2 then tm_ev d (tm_blk (Int.toNat 1370082)) L st G M else if v = nI 3 then tm_ev d (tm_blk (Int.toNat 1370093)) L st G M else if v = nI 4 then tm_ev d (tm_blk (Int.toNat 1370104)) L st G M else if v = nI 5 then tm_ev d (tm_blk (Int.toNat 1370112)) L st G M else if v = nI 6 then tm_ev d (tm_blk (Int.toNat 1370120)) L st G M else if v = nI 7 then tm_ev d (tm_blk (Int.toNat 1370134)) L st G M else if v = nI 8 then tm_ev d (tm_blk (Int.toNat 1370142)) L st G M else if v = nI 9 then tm_ev d (tm_blk (Int.toNat 1370150)) L st G M else if v = nI 10 then tm_ev d (tm_blk (Int.toNat 1370161)) L st G M else tm_ev d (tm_blk (Int.toNat 1370169)) L st G M := by
  by_cases h0 : v = nI 0
  · rw [if_pos h0]; exact sw_t h0 (by decide) (by decide) rfl
  rw [if_neg h0]
  by_cases h1 : v = nI 1
  · rw [if_pos h1]; exact sw_t h1 (by decide) (by decide) rfl
  rw [if_neg h1]
  by_cases h2 : v = nI 2
  · rw [if_pos h2]; exact sw_t h2 (by decide) (by decide) rfl
  rw [if_neg h2]
  by_cases h3 : v = nI 3
  · rw [if_pos h3]; exact sw_t h3 (by decide) (by decide) rfl
  rw [if_neg h3]
  by_cases h4 : v = nI 4
  · rw [if_pos h4]; exact sw_t h4 (by decide) (by decide) rfl
  rw [if_neg h4]
  by_cases h5 : v = nI 5
  · rw [if_pos h5]; exact sw_t h5 (by decide) (by decide) rfl
  rw [if_neg h5]
  by_cases h6 : v = nI 6
  · rw [if_pos h6]; exact sw_t h6 (by decide) (by decide) rfl
  rw [if_neg h6]
  by_cases h7 : v = nI 7
  · rw [if_pos h7]; exact sw_t h7 (by decide) (by decide) rfl
  rw [if_neg h7]
  by_cases h8 : v = nI 8
  · rw [if_pos h8]; exact sw_t h8 (by decide) (by decide) rfl
  rw [if_neg h8]
  by_cases h9 : v = nI 9
  · rw [if_pos h9]; exact sw_t h9 (by decide) (by decide) rfl
  rw [if_neg h9]
  by_cases h10 : v = nI 10
  · rw [if_pos h10]; exact sw_t h10 (by decide) (by decide) rfl
  rw [if_neg h10]
  refine e_tsd ?_
  have q0 := sw_ne (by decide) h0
  have q1 := sw_ne (by decide) h1
  have q2 := sw_ne (by decide) h2
  have q3 := sw_ne (by decide) h3
  have q4 := sw_ne (by decide) h4
  have q5 := sw_ne (by decide) h5
  have q6 := sw_ne (by decide) h6
  have q7 := sw_ne (by decide) h7
  have q8 := sw_ne (by decide) h8
  have q9 := sw_ne (by decide) h9
  have q10 := sw_ne (by decide) h10
  omega
theorem sw_X11_numberFits_0 : tm_ev d (.tableswitch 1500084 0 6 #[1500044, 1500052, 1500052, 1500060, 1500060, 1500078, 1500078] :: is) L (.int v :: st) G M = if v = nI 0 then tm_ev d (tm_blk (Int.toNat 1500044)) L st G M else if v = nI 1 then tm_ev d (tm_blk (Int.toNat 1500052)) L st G M else if v = nI 2 then tm_ev d (tm_blk (Int.toNat 1500052)) L st G M else if v = nI 3 then tm_ev d (tm_blk (Int.toNat 1500060)) L st G M else if v = nI 4 then tm_ev d (tm_blk (Int.toNat 1500060)) L st G M else if v = nI 5 then tm_ev d (tm_blk (Int.toNat 1500078)) L st G M else if v = nI 6 then tm_ev d (tm_blk (Int.toNat 1500078)) L st G M else tm_ev d (tm_blk (Int.toNat 1500084)) L st G M := by
  by_cases h0 : v = nI 0
  · rw [if_pos h0]; exact sw_t h0 (by decide) (by decide) rfl
  rw [if_neg h0]
  by_cases h1 : v = nI 1
  · rw [if_pos h1]; exact sw_t h1 (by decide) (by decide) rfl
  rw [if_neg h1]
  by_cases h2 : v = nI 2
  · rw [if_pos h2]; exact sw_t h2 (by decide) (by decide) rfl
  rw [if_neg h2]
  by_cases h3 : v = nI 3
  · rw [if_pos h3]; exact sw_t h3 (by decide) (by decide) rfl
  rw [if_neg h3]
  by_cases h4 : v = nI 4
  · rw [if_pos h4]; exact sw_t h4 (by decide) (by decide) rfl
  rw [if_neg h4]
  by_cases h5 : v = nI 5
  · rw [if_pos h5]; exact sw_t h5 (by decide) (by decide) rfl
  rw [if_neg h5]
  by_cases h6 : v = nI 6
  · rw [if_pos h6]; exact sw_t h6 (by decide) (by decide) rfl
  rw [if_neg h6]
  refine e_tsd ?_
  have q0 := sw_ne (by decide) h0
  have q1 := sw_ne (by decide) h1
  have q2 := sw_ne (by decide) h2
  have q3 := sw_ne (by decide) h3
  have q4 := sw_ne (by decide) h4
  have q5 := sw_ne (by decide) h5
  have q6 := sw_ne (by decide) h6
  omega
theorem sw_X12_isNumber_0 : tm_ev d (.tableswitch 1890072 0 7 #[1890048, 1890056, 1890056, 1890064, 1890064, 1890072, 1890072, 1890070] :: is) L (.int v :: st) G M = if v = nI 0 then tm_ev d (tm_blk (Int.toNat 1890048)) L st G M else if v = nI 1 then tm_ev d (tm_blk (Int.toNat 1890056)) L st G M else if v = nI 2 then tm_ev d (tm_blk (Int.toNat 1890056)) L st G M else if v = nI 3 then tm_ev d (tm_blk (Int.toNat 1890064)) L st G M else if v = nI 4 then tm_ev d (tm_blk (Int.toNat 1890064)) L st G M else if v = nI 5 then tm_ev d (tm_blk (Int.toNat 1890072)) L st G M else if v = nI 6 then tm_ev d (tm_blk (Int.toNat 1890072)) L st G M else if v = nI 7 then tm_ev d (tm_blk (Int.toNat 1890070)) L st G M else tm_ev d (tm_blk (Int.toNat 1890072)) L st G M := by
  by_cases h0 : v = nI 0
  · rw [if_pos h0]; exact sw_t h0 (by decide) (by decide) rfl
  rw [if_neg h0]
  by_cases h1 : v = nI 1
  · rw [if_pos h1]; exact sw_t h1 (by decide) (by decide) rfl
  rw [if_neg h1]
  by_cases h2 : v = nI 2
  · rw [if_pos h2]; exact sw_t h2 (by decide) (by decide) rfl
  rw [if_neg h2]
  by_cases h3 : v = nI 3
  · rw [if_pos h3]; exact sw_t h3 (by decide) (by decide) rfl
  rw [if_neg h3]
  by_cases h4 : v = nI 4
  · rw [if_pos h4]; exact sw_t h4 (by decide) (by decide) rfl
  rw [if_neg h4]
  by_cases h5 : v = nI 5
  · rw [if_pos h5]; exact sw_t h5 (by decide) (by decide) rfl
  rw [if_neg h5]
  by_cases h6 : v = nI 6
  · rw [if_pos h6]; exact sw_t h6 (by decide) (by decide) rfl
  rw [if_neg h6]
  by_cases h7 : v = nI 7
  · rw [if_pos h7]; exact sw_t h7 (by decide) (by decide) rfl
  rw [if_neg h7]
  refine e_tsd ?_
  have q0 := sw_ne (by decide) h0
  have q1 := sw_ne (by decide) h1
  have q2 := sw_ne (by decide) h2
  have q3 := sw_ne (by decide) h3
  have q4 := sw_ne (by decide) h4
  have q5 := sw_ne (by decide) h5
  have q6 := sw_ne (by decide) h6
  have q7 := sw_ne (by decide) h7
  omega
theorem sw_X12_gap_42 : tm_ev d (.tableswitch 2150137 0 3 #[2150096, 2150101, 2150106, 2150109] :: is) L (.int v :: st) G M = if v = nI 0 then tm_ev d (tm_blk (Int.toNat 2150096)) L st G M else if v = nI 1 then tm_ev d (tm_blk (Int.toNat 2150101)) L st G M else if v = nI 2 then tm_ev d (tm_blk (Int.toNat 2150106)) L st G M else if v = nI 3 then tm_ev d (tm_blk (Int.toNat 2150109)) L st G M else tm_ev d (tm_blk (Int.toNat 2150137)) L st G M := by
  by_cases h0 : v = nI 0
  · rw [if_pos h0]; exact sw_t h0 (by decide) (by decide) rfl
  rw [if_neg h0]
  by_cases h1 : v = nI 1
  · rw [if_pos h1]; exact sw_t h1 (by decide) (by decide) rfl
  rw [if_neg h1]
  by_cases h2 : v = nI 2
  · rw [if_pos h2]; exact sw_t h2 (by decide) (by decide) rfl
  rw [if_neg h2]
  by_cases h3 : v = nI 3
  · rw [if_pos h3]; exact sw_t h3 (by decide) (by decide) rfl
  rw [if_neg h3]
  refine e_tsd ?_
  have q0 := sw_ne (by decide) h0
  have q1 := sw_ne (by decide) h1
  have q2 := sw_ne (by decide) h2
  have q3 := sw_ne (by decide) h3
  omega
theorem sw_X12_weighIt_0 : tm_ev d (.tableswitch 2390102 1 7 #[2390048, 2390054, 2390102, 2390102, 2390082, 2390102, 2390068] :: is) L (.int v :: st) G M = if v = nI 1 then tm_ev d (tm_blk (Int.toNat 2390048)) L st G M else if v = nI 2 then tm_ev d (tm_blk (Int.toNat 2390054)) L st G M else if v = nI 3 then tm_ev d (tm_blk (Int.toNat 2390102)) L st G M else if v = nI 4 then tm_ev d (tm_blk (Int.toNat 2390102)) L st G M else if v = nI 5 then tm_ev d (tm_blk (Int.toNat 2390082)) L st G M else if v = nI 6 then tm_ev d (tm_blk (Int.toNat 2390102)) L st G M else if v = nI 7 then tm_ev d (tm_blk (Int.toNat 2390068)) L st G M else tm_ev d (tm_blk (Int.toNat 2390102)) L st G M := by
  by_cases h1 : v = nI 1
  · rw [if_pos h1]; exact sw_t h1 (by decide) (by decide) rfl
  rw [if_neg h1]
  by_cases h2 : v = nI 2
  · rw [if_pos h2]; exact sw_t h2 (by decide) (by decide) rfl
  rw [if_neg h2]
  by_cases h3 : v = nI 3
  · rw [if_pos h3]; exact sw_t h3 (by decide) (by decide) rfl
  rw [if_neg h3]
  by_cases h4 : v = nI 4
  · rw [if_pos h4]; exact sw_t h4 (by decide) (by decide) rfl
  rw [if_neg h4]
  by_cases h5 : v = nI 5
  · rw [if_pos h5]; exact sw_t h5 (by decide) (by decide) rfl
  rw [if_neg h5]
  by_cases h6 : v = nI 6
  · rw [if_pos h6]; exact sw_t h6 (by decide) (by decide) rfl
  rw [if_neg h6]
  by_cases h7 : v = nI 7
  · rw [if_pos h7]; exact sw_t h7 (by decide) (by decide) rfl
  rw [if_neg h7]
  refine e_tsd ?_
  have q1 := sw_ne (by decide) h1
  have q2 := sw_ne (by decide) h2
  have q3 := sw_ne (by decide) h3
  have q4 := sw_ne (by decide) h4
  have q5 := sw_ne (by decide) h5
  have q6 := sw_ne (by decide) h6
  have q7 := sw_ne (by decide) h7
  omega
theorem sw_X12_told_0 : tm_ev d (.tableswitch 2540189 0 10 #[2540060, 2540067, 2540074, 2540081, 2540088, 2540095, 2540103, 2540135, 2540143, 2540151, 2540184] :: is) L (.int v :: st) G M = if v = nI 0 then tm_ev d (tm_blk (Int.toNat 2540060)) L st G M else if v = nI 1 then tm_ev d (tm_blk (Int.toNat 2540067)) L st G M else if v = nI 2 then tm_ev d (tm_blk (Int.toNat 2540074)) L st G M else if v = nI 3 then tm_ev d (tm_blk (Int.toNat 2540081)) L st G M else if v = nI 4 then tm_ev d (tm_blk (Int.toNat 2540088)) L st G M else if v = nI 5 then tm_ev d (tm_blk (Int.toNat 2540095)) L st G M else if v = nI 6 then tm_ev d (tm_blk (Int.toNat 2540103)) L st G M else if v = nI 7 then tm_ev d (tm_blk (Int.toNat 2540135)) L st G M else if v = nI 8 then tm_ev d (tm_blk (Int.toNat 2540143)) L st G M else if v = nI 9 then tm_ev d (tm_blk (Int.toNat 2540151)) L st G M else if v = nI 10 then tm_ev d (tm_blk (Int.toNat 2540184)) L st G M else tm_ev d (tm_blk (Int.toNat 2540189)) L st G M := by
  by_cases h0 : v = nI 0
  · rw [if_pos h0]; exact sw_t h0 (by decide) (by decide) rfl
  rw [if_neg h0]
  by_cases h1 : v = nI 1
  · rw [if_pos h1]; exact sw_t h1 (by decide) (by decide) rfl
  rw [if_neg h1]
  by_cases h2 : v = nI 2
  · rw [if_pos h2]; exact sw_t h2 (by decide) (by decide) rfl
  rw [if_neg h2]
  by_cases h3 : v = nI 3
  · rw [if_pos h3]; exact sw_t h3 (by decide) (by decide) rfl
  rw [if_neg h3]
  by_cases h4 : v = nI 4
  · rw [if_pos h4]; exact sw_t h4 (by decide) (by decide) rfl
  rw [if_neg h4]
  by_cases h5 : v = nI 5
  · rw [if_pos h5]; exact sw_t h5 (by decide) (by decide) rfl
  rw [if_neg h5]
  by_cases h6 : v = nI 6
  · rw [if_pos h6]; exact sw_t h6 (by decide) (by decide) rfl
  rw [if_neg h6]
  by_cases h7 : v = nI 7
  · rw [if_pos h7]; exact sw_t h7 (by decide) (by decide) rfl
  rw [if_neg h7]
  by_cases h8 : v = nI 8
  · rw [if_pos h8]; exact sw_t h8 (by decide) (by decide) rfl
  rw [if_neg h8]
  by_cases h9 : v = nI 9
  · rw [if_pos h9]; exact sw_t h9 (by decide) (by decide) rfl
  rw [if_neg h9]
  by_cases h10 : v = nI 10
  · rw [if_pos h10]; exact sw_t h10 (by decide) (by decide) rfl
  rw [if_neg h10]
  refine e_tsd ?_
  have q0 := sw_ne (by decide) h0
  have q1 := sw_ne (by decide) h1
  have q2 := sw_ne (by decide) h2
  have q3 := sw_ne (by decide) h3
  have q4 := sw_ne (by decide) h4
  have q5 := sw_ne (by decide) h5
  have q6 := sw_ne (by decide) h6
  have q7 := sw_ne (by decide) h7
  have q8 := sw_ne (by decide) h8
  have q9 := sw_ne (by decide) h9
  have q10 := sw_ne (by decide) h10
  omega
end TMSW
