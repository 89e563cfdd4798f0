/-! part 80: the blocks are the methods' bytecode (by program: wip/whole/gen4.py) -/
set_option maxRecDepth 100000 in
theorem tm_ck0 : (((List.range 259).drop 0).take 15).all tm_chkB = true := by decide +kernel
set_option maxRecDepth 100000 in
theorem tm_ck1 : (((List.range 259).drop 15).take 12).all tm_chkB = true := by decide +kernel
set_option maxRecDepth 100000 in
theorem tm_ck2 : (((List.range 259).drop 27).take 10).all tm_chkB = true := by decide +kernel
set_option maxRecDepth 100000 in
theorem tm_ck3 : (((List.range 259).drop 37).take 15).all tm_chkB = true := by decide +kernel
set_option maxRecDepth 100000 in
theorem tm_ck4 : (((List.range 259).drop 52).take 12).all tm_chkB = true := by decide +kernel
set_option maxRecDepth 100000 in
theorem tm_ck5 : (((List.range 259).drop 64).take 14).all tm_chkB = true := by decide +kernel
set_option maxRecDepth 100000 in
theorem tm_ck6 : (((List.range 259).drop 78).take 9).all tm_chkB = true := by decide +kernel
set_option maxRecDepth 100000 in
theorem tm_ck7 : (((List.range 259).drop 87).take 14).all tm_chkB = true := by decide +kernel
set_option maxRecDepth 100000 in
theorem tm_ck8 : (((List.range 259).drop 101).take 10).all tm_chkB = true := by decide +kernel
set_option maxRecDepth 100000 in
theorem tm_ck9 : (((List.range 259).drop 111).take 11).all tm_chkB = true := by decide +kernel
set_option maxRecDepth 100000 in
theorem tm_ck10 : (((List.range 259).drop 122).take 11).all tm_chkB = true := by decide +kernel
set_option maxRecDepth 100000 in
theorem tm_ck11 : (((List.range 259).drop 133).take 18).all tm_chkB = true := by decide +kernel
set_option maxRecDepth 100000 in
theorem tm_ck12 : (((List.range 259).drop 151).take 19).all tm_chkB = true := by decide +kernel
set_option maxRecDepth 100000 in
theorem tm_ck13 : (((List.range 259).drop 170).take 7).all tm_chkB = true := by decide +kernel
set_option maxRecDepth 100000 in
theorem tm_ck14 : (((List.range 259).drop 177).take 8).all tm_chkB = true := by decide +kernel
set_option maxRecDepth 100000 in
theorem tm_ck15 : (((List.range 259).drop 185).take 7).all tm_chkB = true := by decide +kernel
set_option maxRecDepth 100000 in
theorem tm_ck16 : (((List.range 259).drop 192).take 8).all tm_chkB = true := by decide +kernel
set_option maxRecDepth 100000 in
theorem tm_ck17 : (((List.range 259).drop 200).take 9).all tm_chkB = true := by decide +kernel
set_option maxRecDepth 100000 in
theorem tm_ck18 : (((List.range 259).drop 209).take 8).all tm_chkB = true := by decide +kernel
set_option maxRecDepth 100000 in
theorem tm_ck19 : (((List.range 259).drop 217).take 7).all tm_chkB = true := by decide +kernel
set_option maxRecDepth 100000 in
theorem tm_ck20 : (((List.range 259).drop 224).take 9).all tm_chkB = true := by decide +kernel
set_option maxRecDepth 100000 in
theorem tm_ck21 : (((List.range 259).drop 233).take 13).all tm_chkB = true := by decide +kernel
set_option maxRecDepth 100000 in
theorem tm_ck22 : (((List.range 259).drop 246).take 8).all tm_chkB = true := by decide +kernel
set_option maxRecDepth 100000 in
theorem tm_ck23 : (((List.range 259).drop 254).take 5).all tm_chkB = true := by decide +kernel
theorem tm_ck_at {n a c y : Nat} {f : Nat → Bool} (h : (((List.range n).drop a).take c).all f = true) (h1 : a ≤ y) (h2 : y < a + c) (h3 : y < n) : f y = true := by
  refine List.all_eq_true.mp h y (List.mem_of_getElem? (i := y - a) ?_)
  rw [List.getElem?_take_of_lt (by omega), List.getElem?_drop, List.getElem?_range (by omega)]
  congr 1
  omega
theorem tm_ck_all (y : Nat) (hy : y < 259) : tm_chkB y = true := by
  rcases (by omega : (0 ≤ y ∧ y < 15) ∨ (15 ≤ y ∧ y < 27) ∨ (27 ≤ y ∧ y < 37) ∨ (37 ≤ y ∧ y < 52) ∨ (52 ≤ y ∧ y < 64) ∨ (64 ≤ y ∧ y < 78) ∨ (78 ≤ y ∧ y < 87) ∨ (87 ≤ y ∧ y < 101) ∨ (101 ≤ y ∧ y < 111) ∨ (111 ≤ y ∧ y < 122) ∨ (122 ≤ y ∧ y < 133) ∨ (133 ≤ y ∧ y < 151) ∨ (151 ≤ y ∧ y < 170) ∨ (170 ≤ y ∧ y < 177) ∨ (177 ≤ y ∧ y < 185) ∨ (185 ≤ y ∧ y < 192) ∨ (192 ≤ y ∧ y < 200) ∨ (200 ≤ y ∧ y < 209) ∨ (209 ≤ y ∧ y < 217) ∨ (217 ≤ y ∧ y < 224) ∨ (224 ≤ y ∧ y < 233) ∨ (233 ≤ y ∧ y < 246) ∨ (246 ≤ y ∧ y < 254) ∨ (254 ≤ y ∧ y < 259)) with h | h | h | h | h | h | h | h | h | h | h | h | h | h | h | h | h | h | h | h | h | h | h | h
  · exact tm_ck_at tm_ck0 h.1 (by omega) hy
  · exact tm_ck_at tm_ck1 h.1 (by omega) hy
  · exact tm_ck_at tm_ck2 h.1 (by omega) hy
  · exact tm_ck_at tm_ck3 h.1 (by omega) hy
  · exact tm_ck_at tm_ck4 h.1 (by omega) hy
  · exact tm_ck_at tm_ck5 h.1 (by omega) hy
  · exact tm_ck_at tm_ck6 h.1 (by omega) hy
  · exact tm_ck_at tm_ck7 h.1 (by omega) hy
  · exact tm_ck_at tm_ck8 h.1 (by omega) hy
  · exact tm_ck_at tm_ck9 h.1 (by omega) hy
  · exact tm_ck_at tm_ck10 h.1 (by omega) hy
  · exact tm_ck_at tm_ck11 h.1 (by omega) hy
  · exact tm_ck_at tm_ck12 h.1 (by omega) hy
  · exact tm_ck_at tm_ck13 h.1 (by omega) hy
  · exact tm_ck_at tm_ck14 h.1 (by omega) hy
  · exact tm_ck_at tm_ck15 h.1 (by omega) hy
  · exact tm_ck_at tm_ck16 h.1 (by omega) hy
  · exact tm_ck_at tm_ck17 h.1 (by omega) hy
  · exact tm_ck_at tm_ck18 h.1 (by omega) hy
  · exact tm_ck_at tm_ck19 h.1 (by omega) hy
  · exact tm_ck_at tm_ck20 h.1 (by omega) hy
  · exact tm_ck_at tm_ck21 h.1 (by omega) hy
  · exact tm_ck_at tm_ck22 h.1 (by omega) hy
  · exact tm_ck_at tm_ck23 h.1 (by omega) hy
