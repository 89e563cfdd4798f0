/-! part 05: the law's blocks -/
set_option maxRecDepth 100000 in
theorem tm_ckL0 : ((tm_B_L_law.drop 0).take 6).all (fun b => tm_chk 262 b.1 b.2) = true := by decide +kernel
set_option maxRecDepth 100000 in
theorem tm_ckL1 : ((tm_B_L_law.drop 6).take 6).all (fun b => tm_chk 262 b.1 b.2) = true := by decide +kernel
set_option maxRecDepth 100000 in
theorem tm_ckL2 : ((tm_B_L_law.drop 12).take 6).all (fun b => tm_chk 262 b.1 b.2) = true := by decide +kernel
set_option maxRecDepth 100000 in
theorem tm_ckL3 : ((tm_B_L_law.drop 18).take 6).all (fun b => tm_chk 262 b.1 b.2) = true := by decide +kernel
set_option maxRecDepth 100000 in
theorem tm_ckL4 : ((tm_B_L_law.drop 24).take 6).all (fun b => tm_chk 262 b.1 b.2) = true := by decide +kernel
set_option maxRecDepth 100000 in
theorem tm_ckL5 : ((tm_B_L_law.drop 30).take 6).all (fun b => tm_chk 262 b.1 b.2) = true := by decide +kernel
set_option maxRecDepth 100000 in
theorem tm_ckL6 : ((tm_B_L_law.drop 36).take 6).all (fun b => tm_chk 262 b.1 b.2) = true := by decide +kernel
set_option maxRecDepth 100000 in
theorem tm_ckL7 : ((tm_B_L_law.drop 42).take 6).all (fun b => tm_chk 262 b.1 b.2) = true := by decide +kernel
set_option maxRecDepth 100000 in
theorem tm_ckL8 : ((tm_B_L_law.drop 48).take 6).all (fun b => tm_chk 262 b.1 b.2) = true := by decide +kernel
