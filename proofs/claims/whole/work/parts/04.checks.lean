/-! part 04: the blocks are the methods' bytecode (by program: wip/whole/gen4.py) -/
set_option maxRecDepth 100000 in
theorem tm_ck0 : ([0, 1, 2, 3, 4, 5, 6, 7, 8, 9, 10, 11, 12, 13, 14] : List Nat).all tm_chkB = true := by decide +kernel
set_option maxRecDepth 100000 in
theorem tm_ck1 : ([15, 16, 17, 18, 19, 20, 21, 22, 23, 24, 25, 26] : List Nat).all tm_chkB = true := by decide +kernel
set_option maxRecDepth 100000 in
theorem tm_ck2 : ([27, 28, 29, 30, 31, 32, 33, 34, 35, 36] : List Nat).all tm_chkB = true := by decide +kernel
set_option maxRecDepth 100000 in
theorem tm_ck3 : ([37, 38, 39, 40, 41, 42, 43, 44, 45, 46, 47, 48, 49, 50, 51] : List Nat).all tm_chkB = true := by decide +kernel
set_option maxRecDepth 100000 in
theorem tm_ck4 : ([52, 53, 54, 55, 56, 57, 58, 59, 60, 61, 62, 63] : List Nat).all tm_chkB = true := by decide +kernel
set_option maxRecDepth 100000 in
theorem tm_ck5 : ([64, 65, 66, 67, 68, 69, 70, 71, 72, 73, 74, 75, 76, 77] : List Nat).all tm_chkB = true := by decide +kernel
set_option maxRecDepth 100000 in
theorem tm_ck6 : ([78, 79, 80, 81, 82, 83, 84, 85, 86] : List Nat).all tm_chkB = true := by decide +kernel
set_option maxRecDepth 100000 in
theorem tm_ck7 : ([87, 88, 89, 90, 91, 92, 93, 94, 95, 96, 97, 98, 99, 100] : List Nat).all tm_chkB = true := by decide +kernel
set_option maxRecDepth 100000 in
theorem tm_ck8 : ([101, 102, 103, 104, 105, 106, 107, 108, 109, 110] : List Nat).all tm_chkB = true := by decide +kernel
set_option maxRecDepth 100000 in
theorem tm_ck9 : ([111, 112, 113, 114, 115, 116, 117, 118, 119, 120, 121] : List Nat).all tm_chkB = true := by decide +kernel
set_option maxRecDepth 100000 in
theorem tm_ck10 : ([122, 123, 124, 125, 126, 127, 128, 129, 130, 131, 132] : List Nat).all tm_chkB = true := by decide +kernel
set_option maxRecDepth 100000 in
theorem tm_ck11 : ([133, 134, 135, 136, 137, 138, 139, 140, 141, 142, 143, 144, 145, 146, 147, 148, 149, 150] : List Nat).all tm_chkB = true := by decide +kernel
set_option maxRecDepth 100000 in
theorem tm_ck12 : ([151, 152, 153, 154, 155, 156, 157, 158, 159, 160, 161, 162, 163, 164, 165, 166, 167, 168, 169] : List Nat).all tm_chkB = true := by decide +kernel
set_option maxRecDepth 100000 in
theorem tm_ck13 : ([170, 171, 172, 173, 174, 175, 176] : List Nat).all tm_chkB = true := by decide +kernel
set_option maxRecDepth 100000 in
theorem tm_ck14 : ([177, 178, 179, 180, 181, 182, 183, 184] : List Nat).all tm_chkB = true := by decide +kernel
set_option maxRecDepth 100000 in
theorem tm_ck15 : ([185, 186, 187, 188, 189, 190, 191] : List Nat).all tm_chkB = true := by decide +kernel
set_option maxRecDepth 100000 in
theorem tm_ck16 : ([192, 193, 194, 195, 196, 197, 198, 199] : List Nat).all tm_chkB = true := by decide +kernel
set_option maxRecDepth 100000 in
theorem tm_ck17 : ([200, 201, 202, 203, 204, 205, 206, 207, 208] : List Nat).all tm_chkB = true := by decide +kernel
set_option maxRecDepth 100000 in
theorem tm_ck18 : ([209, 210, 211, 212, 213, 214, 215, 216] : List Nat).all tm_chkB = true := by decide +kernel
set_option maxRecDepth 100000 in
theorem tm_ck19 : ([217, 218, 219, 220, 221, 222, 223] : List Nat).all tm_chkB = true := by decide +kernel
set_option maxRecDepth 100000 in
theorem tm_ck20 : ([224, 225, 226, 227, 228, 229, 230, 231, 232] : List Nat).all tm_chkB = true := by decide +kernel
set_option maxRecDepth 100000 in
theorem tm_ck21 : ([233, 234, 235, 236, 237, 238, 239, 240, 241, 242, 243, 244, 245] : List Nat).all tm_chkB = true := by decide +kernel
set_option maxRecDepth 100000 in
theorem tm_ck22 : ([246, 247, 248, 249, 250, 251, 252, 253] : List Nat).all tm_chkB = true := by decide +kernel
set_option maxRecDepth 100000 in
theorem tm_ck23 : ([254, 255, 256, 257, 258, 259, 260, 261] : List Nat).all tm_chkB = true := by decide +kernel
