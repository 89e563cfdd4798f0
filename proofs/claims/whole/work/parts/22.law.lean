/-! part 90: the law's loop: each turn is a pair of calls (by program: wip/whole/gen90.py) -/
theorem b_L_law_18 : tm_blk (Int.toNat 2590018) = [.iload 3, .aload 0, .arraylength, .iconst 6, .isub, .if_icmp .gt 2591702, .aload 0, .iload 3, .iaload, .iconst 63, .iand, .tableswitch 2591696 0 42 #[2590220, 2590243, 2590276, 2590299, 2590348, 2590381, 2590434, 2590497, 2590520, 2590553, 2590606, 2590629, 2590662, 2590695, 2590718, 2590731, 2590764, 2590797, 2590820, 2590883, 2590936, 2590999, 2591022, 2591045, 2591088, 2591121, 2591154, 2591188, 2591211, 2591234, 2591267, 2591290, 2591343, 2591376, 2591419, 2591442, 2591485, 2591528, 2591591, 2591624, 2591637, 2591650, 2591673]] := rfl
theorem b_L_law_220 : tm_blk (Int.toNat 2590220) = [.aload 1, .aload 0, .iload 3, .iconst 1, .iadd, .iaload, .invokevirtual 96, .aload 2, .aload 0, .iload 3, .iconst 1, .iadd, .iaload, .invokevirtual 177, .if_icmp .eq 2591696, .iconst 0, .freturn] := rfl
theorem b_L_law_243 : tm_blk (Int.toNat 2590243) = [.aload 1, .aload 0, .iload 3, .iconst 1, .iadd, .iaload, .aload 0, .iload 3, .iconst 2, .iadd, .iaload, .invokevirtual 97, .aload 2, .aload 0, .iload 3, .iconst 1, .iadd, .iaload, .aload 0, .iload 3, .iconst 2, .iadd, .iaload, .invokevirtual 178, .if_icmp .eq 2591696, .iconst 0, .freturn] := rfl
theorem b_L_law_276 : tm_blk (Int.toNat 2590276) = [.aload 1, .aload 0, .iload 3, .iconst 1, .iadd, .iaload, .invokevirtual 98, .aload 2, .aload 0, .iload 3, .iconst 1, .iadd, .iaload, .invokevirtual 179, .if_icmp .eq 2591696, .iconst 0, .freturn] := rfl
theorem b_L_law_299 : tm_blk (Int.toNat 2590299) = [.aload 1, .aload 0, .iload 3, .iconst 1, .iadd, .iaload, .aload 0, .iload 3, .iconst 2, .iadd, .iaload, .ifCond .eq 2590317, .iconst 1, .goto 2590318] := rfl
theorem b_L_law_317 : tm_blk (Int.toNat 2590317) = [.iconst 0, .goto_w 2590318] := rfl
theorem b_L_law_318 : tm_blk (Int.toNat 2590318) = [.invokevirtual 99, .aload 2, .aload 0, .iload 3, .iconst 1, .iadd, .iaload, .aload 0, .iload 3, .iconst 2, .iadd, .iaload, .ifCond .eq 2590339, .iconst 1, .goto 2590340] := rfl
theorem b_L_law_339 : tm_blk (Int.toNat 2590339) = [.iconst 0, .goto_w 2590340] := rfl
theorem b_L_law_340 : tm_blk (Int.toNat 2590340) = [.invokevirtual 180, .if_icmp .eq 2591696, .iconst 0, .freturn] := rfl
theorem b_L_law_348 : tm_blk (Int.toNat 2590348) = [.aload 1, .aload 0, .iload 3, .iconst 1, .iadd, .iaload, .aload 0, .iload 3, .iconst 2, .iadd, .iaload, .invokevirtual 100, .aload 2, .aload 0, .iload 3, .iconst 1, .iadd, .iaload, .aload 0, .iload 3, .iconst 2, .iadd, .iaload, .invokevirtual 181, .if_icmp .eq 2591696, .iconst 0, .freturn] := rfl
theorem b_L_law_381 : tm_blk (Int.toNat 2590381) = [.aload 1, .aload 0, .iload 3, .iconst 1, .iadd, .iaload, .aload 0, .iload 3, .iconst 2, .iadd, .iaload, .aload 0, .iload 3, .iconst 3, .iadd, .iaload, .aload 0, .iload 3, .iconst 4, .iadd, .iaload, .invokevirtual 101, .aload 2, .aload 0, .iload 3, .iconst 1, .iadd, .iaload, .aload 0, .iload 3, .iconst 2, .iadd, .iaload, .aload 0, .iload 3, .iconst 3, .iadd, .iaload, .aload 0, .iload 3, .iconst 4, .iadd, .iaload, .invokevirtual 182, .if_icmp .eq 2591696, .iconst 0, .freturn] := rfl
theorem b_L_law_434 : tm_blk (Int.toNat 2590434) = [.aload 1, .aload 0, .iload 3, .iconst 1, .iadd, .iaload, .aload 0, .iload 3, .iconst 2, .iadd, .iaload, .aload 0, .iload 3, .iconst 3, .iadd, .iaload, .aload 0, .iload 3, .iconst 4, .iadd, .iaload, .aload 0, .iload 3, .iconst 5, .iadd, .iaload, .invokevirtual 102, .aload 2, .aload 0, .iload 3, .iconst 1, .iadd, .iaload, .aload 0, .iload 3, .iconst 2, .iadd, .iaload, .aload 0, .iload 3, .iconst 3, .iadd, .iaload, .aload 0, .iload 3, .iconst 4, .iadd, .iaload, .aload 0, .iload 3, .iconst 5, .iadd, .iaload, .invokevirtual 185, .if_icmp .eq 2591696, .iconst 0, .freturn] := rfl
theorem b_L_law_497 : tm_blk (Int.toNat 2590497) = [.aload 1, .aload 0, .iload 3, .iconst 1, .iadd, .iaload, .invokevirtual 103, .aload 2, .aload 0, .iload 3, .iconst 1, .iadd, .iaload, .invokevirtual 187, .if_icmp .eq 2591696, .iconst 0, .freturn] := rfl
theorem b_L_law_520 : tm_blk (Int.toNat 2590520) = [.aload 1, .aload 0, .iload 3, .iconst 1, .iadd, .iaload, .aload 0, .iload 3, .iconst 2, .iadd, .iaload, .invokevirtual 104, .aload 2, .aload 0, .iload 3, .iconst 1, .iadd, .iaload, .aload 0, .iload 3, .iconst 2, .iadd, .iaload, .invokevirtual 188, .if_icmp .eq 2591696, .iconst 0, .freturn] := rfl
theorem b_L_law_553 : tm_blk (Int.toNat 2590553) = [.aload 1, .aload 0, .iload 3, .iconst 1, .iadd, .iaload, .aload 0, .iload 3, .iconst 2, .iadd, .iaload, .aload 0, .iload 3, .iconst 3, .iadd, .iaload, .aload 0, .iload 3, .iconst 4, .iadd, .iaload, .invokevirtual 105, .aload 2, .aload 0, .iload 3, .iconst 1, .iadd, .iaload, .aload 0, .iload 3, .iconst 2, .iadd, .iaload, .aload 0, .iload 3, .iconst 3, .iadd, .iaload, .aload 0, .iload 3, .iconst 4, .iadd, .iaload, .invokevirtual 191, .if_icmp .eq 2591696, .iconst 0, .freturn] := rfl
theorem b_L_law_606 : tm_blk (Int.toNat 2590606) = [.aload 1, .aload 0, .iload 3, .iconst 1, .iadd, .iaload, .invokevirtual 106, .aload 2, .aload 0, .iload 3, .iconst 1, .iadd, .iaload, .invokevirtual 192, .if_icmp .eq 2591696, .iconst 0, .freturn] := rfl
theorem b_L_law_629 : tm_blk (Int.toNat 2590629) = [.aload 1, .aload 0, .iload 3, .iconst 1, .iadd, .iaload, .aload 0, .iload 3, .iconst 2, .iadd, .iaload, .invokevirtual 107, .aload 2, .aload 0, .iload 3, .iconst 1, .iadd, .iaload, .aload 0, .iload 3, .iconst 2, .iadd, .iaload, .invokevirtual 194, .if_icmp .eq 2591696, .iconst 0, .freturn] := rfl
theorem b_L_law_662 : tm_blk (Int.toNat 2590662) = [.aload 1, .aload 0, .iload 3, .iconst 1, .iadd, .iaload, .aload 0, .iload 3, .iconst 2, .iadd, .iaload, .invokevirtual 108, .aload 2, .aload 0, .iload 3, .iconst 1, .iadd, .iaload, .aload 0, .iload 3, .iconst 2, .iadd, .iaload, .invokevirtual 195, .if_icmp .eq 2591696, .iconst 0, .freturn] := rfl
theorem b_L_law_695 : tm_blk (Int.toNat 2590695) = [.aload 1, .aload 0, .iload 3, .iconst 1, .iadd, .iaload, .invokevirtual 109, .aload 2, .aload 0, .iload 3, .iconst 1, .iadd, .iaload, .invokevirtual 196, .if_icmp .eq 2591696, .iconst 0, .freturn] := rfl
theorem b_L_law_718 : tm_blk (Int.toNat 2590718) = [.aload 1, .invokevirtual 110, .aload 2, .invokevirtual 203, .if_icmp .eq 2591696, .iconst 0, .freturn] := rfl
theorem b_L_law_731 : tm_blk (Int.toNat 2590731) = [.aload 1, .aload 0, .iload 3, .iconst 1, .iadd, .iaload, .aload 0, .iload 3, .iconst 2, .iadd, .iaload, .invokevirtual 111, .aload 2, .aload 0, .iload 3, .iconst 1, .iadd, .iaload, .aload 0, .iload 3, .iconst 2, .iadd, .iaload, .invokevirtual 204, .if_icmp .eq 2591696, .iconst 0, .freturn] := rfl
theorem b_L_law_764 : tm_blk (Int.toNat 2590764) = [.aload 1, .aload 0, .iload 3, .iconst 1, .iadd, .iaload, .aload 0, .iload 3, .iconst 2, .iadd, .iaload, .invokevirtual 112, .aload 2, .aload 0, .iload 3, .iconst 1, .iadd, .iaload, .aload 0, .iload 3, .iconst 2, .iadd, .iaload, .invokevirtual 205, .if_icmp .eq 2591696, .iconst 0, .freturn] := rfl
theorem b_L_law_797 : tm_blk (Int.toNat 2590797) = [.aload 1, .aload 0, .iload 3, .iconst 1, .iadd, .iaload, .invokevirtual 113, .aload 2, .aload 0, .iload 3, .iconst 1, .iadd, .iaload, .invokevirtual 206, .if_icmp .eq 2591696, .iconst 0, .freturn] := rfl
theorem b_L_law_820 : tm_blk (Int.toNat 2590820) = [.aload 1, .aload 0, .iload 3, .iconst 1, .iadd, .iaload, .aload 0, .iload 3, .iconst 2, .iadd, .iaload, .aload 0, .iload 3, .iconst 3, .iadd, .iaload, .aload 0, .iload 3, .iconst 4, .iadd, .iaload, .aload 0, .iload 3, .iconst 5, .iadd, .iaload, .invokevirtual 114, .aload 2, .aload 0, .iload 3, .iconst 1, .iadd, .iaload, .aload 0, .iload 3, .iconst 2, .iadd, .iaload, .aload 0, .iload 3, .iconst 3, .iadd, .iaload, .aload 0, .iload 3, .iconst 4, .iadd, .iaload, .aload 0, .iload 3, .iconst 5, .iadd, .iaload, .invokevirtual 207, .if_icmp .eq 2591696, .iconst 0, .freturn] := rfl
theorem b_L_law_883 : tm_blk (Int.toNat 2590883) = [.aload 1, .aload 0, .iload 3, .iconst 1, .iadd, .iaload, .aload 0, .iload 3, .iconst 2, .iadd, .iaload, .aload 0, .iload 3, .iconst 3, .iadd, .iaload, .aload 0, .iload 3, .iconst 4, .iadd, .iaload, .invokevirtual 115, .aload 2, .aload 0, .iload 3, .iconst 1, .iadd, .iaload, .aload 0, .iload 3, .iconst 2, .iadd, .iaload, .aload 0, .iload 3, .iconst 3, .iadd, .iaload, .aload 0, .iload 3, .iconst 4, .iadd, .iaload, .invokevirtual 209, .if_icmp .eq 2591696, .iconst 0, .freturn] := rfl
theorem b_L_law_936 : tm_blk (Int.toNat 2590936) = [.aload 1, .aload 0, .iload 3, .iconst 1, .iadd, .iaload, .i2l, .iconst 32, .lshl, .aload 0, .iload 3, .iconst 2, .iadd, .iaload, .i2l, .ldc2_w 4294967295, .land, .lor, .aload 0, .iload 3, .iconst 3, .iadd, .iaload, .invokevirtual 116, .aload 2, .aload 0, .iload 3, .iconst 1, .iadd, .iaload, .i2l, .iconst 32, .lshl, .aload 0, .iload 3, .iconst 2, .iadd, .iaload, .i2l, .ldc2_w 4294967295, .land, .lor, .aload 0, .iload 3, .iconst 3, .iadd, .iaload, .invokevirtual 210, .if_icmp .eq 2591696, .iconst 0, .freturn] := rfl
theorem b_L_law_999 : tm_blk (Int.toNat 2590999) = [.aload 1, .aload 0, .iload 3, .iconst 1, .iadd, .iaload, .invokevirtual 117, .aload 2, .aload 0, .iload 3, .iconst 1, .iadd, .iaload, .invokevirtual 211, .if_icmp .eq 2591696, .iconst 0, .freturn] := rfl
theorem b_L_law_1022 : tm_blk (Int.toNat 2591022) = [.aload 1, .aload 0, .iload 3, .iconst 1, .iadd, .iaload, .invokevirtual 118, .aload 2, .aload 0, .iload 3, .iconst 1, .iadd, .iaload, .invokevirtual 212, .if_icmp .eq 2591696, .iconst 0, .freturn] := rfl
theorem b_L_law_1045 : tm_blk (Int.toNat 2591045) = [.aload 1, .aload 0, .iload 3, .iconst 1, .iadd, .iaload, .aload 0, .iload 3, .iconst 2, .iadd, .iaload, .aload 0, .iload 3, .iconst 3, .iadd, .iaload, .invokevirtual 119, .aload 2, .aload 0, .iload 3, .iconst 1, .iadd, .iaload, .aload 0, .iload 3, .iconst 2, .iadd, .iaload, .aload 0, .iload 3, .iconst 3, .iadd, .iaload, .invokevirtual 215, .if_icmp .eq 2591696, .iconst 0, .freturn] := rfl
theorem b_L_law_1088 : tm_blk (Int.toNat 2591088) = [.aload 1, .aload 0, .iload 3, .iconst 1, .iadd, .iaload, .aload 0, .iload 3, .iconst 2, .iadd, .iaload, .invokevirtual 120, .aload 2, .aload 0, .iload 3, .iconst 1, .iadd, .iaload, .aload 0, .iload 3, .iconst 2, .iadd, .iaload, .invokevirtual 217, .if_icmp .eq 2591696, .iconst 0, .freturn] := rfl
theorem b_L_law_1121 : tm_blk (Int.toNat 2591121) = [.aload 1, .aload 0, .iload 3, .iconst 1, .iadd, .iaload, .aload 0, .iload 3, .iconst 2, .iadd, .iaload, .invokevirtual 121, .aload 2, .aload 0, .iload 3, .iconst 1, .iadd, .iaload, .aload 0, .iload 3, .iconst 2, .iadd, .iaload, .invokevirtual 219, .if_icmp .eq 2591696, .iconst 0, .freturn] := rfl
theorem b_L_law_1154 : tm_blk (Int.toNat 2591154) = [.aload 1, .aload 0, .iload 3, .iconst 1, .iadd, .iaload, .aload 0, .iload 3, .iconst 2, .iadd, .iaload, .invokevirtual 122, .aload 2, .aload 0, .iload 3, .iconst 1, .iadd, .iaload, .aload 0, .iload 3, .iconst 2, .iadd, .iaload, .invokevirtual 221, .lcmp, .ifCond .eq 2591696, .iconst 0, .freturn] := rfl
theorem b_L_law_1188 : tm_blk (Int.toNat 2591188) = [.aload 1, .aload 0, .iload 3, .iconst 1, .iadd, .iaload, .invokevirtual 123, .aload 2, .aload 0, .iload 3, .iconst 1, .iadd, .iaload, .invokevirtual 224, .if_icmp .eq 2591696, .iconst 0, .freturn] := rfl
theorem b_L_law_1211 : tm_blk (Int.toNat 2591211) = [.aload 1, .aload 0, .iload 3, .iconst 1, .iadd, .iaload, .invokevirtual 124, .aload 2, .aload 0, .iload 3, .iconst 1, .iadd, .iaload, .invokevirtual 225, .if_icmp .eq 2591696, .iconst 0, .freturn] := rfl
theorem b_L_law_1234 : tm_blk (Int.toNat 2591234) = [.aload 1, .aload 0, .iload 3, .iconst 1, .iadd, .iaload, .aload 0, .iload 3, .iconst 2, .iadd, .iaload, .invokevirtual 125, .aload 2, .aload 0, .iload 3, .iconst 1, .iadd, .iaload, .aload 0, .iload 3, .iconst 2, .iadd, .iaload, .invokevirtual 229, .if_icmp .eq 2591696, .iconst 0, .freturn] := rfl
theorem b_L_law_1267 : tm_blk (Int.toNat 2591267) = [.aload 1, .aload 0, .iload 3, .iconst 1, .iadd, .iaload, .invokevirtual 126, .aload 2, .aload 0, .iload 3, .iconst 1, .iadd, .iaload, .invokevirtual 230, .if_icmp .eq 2591696, .iconst 0, .freturn] := rfl
theorem b_L_law_1290 : tm_blk (Int.toNat 2591290) = [.aload 1, .aload 0, .iload 3, .iconst 1, .iadd, .iaload, .aload 0, .iload 3, .iconst 2, .iadd, .iaload, .aload 0, .iload 3, .iconst 3, .iadd, .iaload, .aload 0, .iload 3, .iconst 4, .iadd, .iaload, .invokevirtual 127, .aload 2, .aload 0, .iload 3, .iconst 1, .iadd, .iaload, .aload 0, .iload 3, .iconst 2, .iadd, .iaload, .aload 0, .iload 3, .iconst 3, .iadd, .iaload, .aload 0, .iload 3, .iconst 4, .iadd, .iaload, .invokevirtual 231, .if_icmp .eq 2591696, .iconst 0, .freturn] := rfl
theorem b_L_law_1343 : tm_blk (Int.toNat 2591343) = [.aload 1, .aload 0, .iload 3, .iconst 1, .iadd, .iaload, .aload 0, .iload 3, .iconst 2, .iadd, .iaload, .invokevirtual 128, .aload 2, .aload 0, .iload 3, .iconst 1, .iadd, .iaload, .aload 0, .iload 3, .iconst 2, .iadd, .iaload, .invokevirtual 233, .if_icmp .eq 2591696, .iconst 0, .freturn] := rfl
theorem b_L_law_1376 : tm_blk (Int.toNat 2591376) = [.aload 1, .aload 0, .iload 3, .iconst 1, .iadd, .iaload, .aload 0, .iload 3, .iconst 2, .iadd, .iaload, .aload 0, .iload 3, .iconst 3, .iadd, .iaload, .invokevirtual 129, .aload 2, .aload 0, .iload 3, .iconst 1, .iadd, .iaload, .aload 0, .iload 3, .iconst 2, .iadd, .iaload, .aload 0, .iload 3, .iconst 3, .iadd, .iaload, .invokevirtual 244, .if_icmp .eq 2591696, .iconst 0, .freturn] := rfl
theorem b_L_law_1419 : tm_blk (Int.toNat 2591419) = [.aload 1, .aload 0, .iload 3, .iconst 1, .iadd, .iaload, .invokevirtual 130, .aload 2, .aload 0, .iload 3, .iconst 1, .iadd, .iaload, .invokevirtual 245, .if_icmp .eq 2591696, .iconst 0, .freturn] := rfl
theorem b_L_law_1442 : tm_blk (Int.toNat 2591442) = [.aload 1, .aload 0, .iload 3, .iconst 1, .iadd, .iaload, .aload 0, .iload 3, .iconst 2, .iadd, .iaload, .aload 0, .iload 3, .iconst 3, .iadd, .iaload, .invokevirtual 131, .aload 2, .aload 0, .iload 3, .iconst 1, .iadd, .iaload, .aload 0, .iload 3, .iconst 2, .iadd, .iaload, .aload 0, .iload 3, .iconst 3, .iadd, .iaload, .invokevirtual 246, .if_icmp .eq 2591696, .iconst 0, .freturn] := rfl
theorem b_L_law_1485 : tm_blk (Int.toNat 2591485) = [.aload 1, .aload 0, .iload 3, .iconst 1, .iadd, .iaload, .aload 0, .iload 3, .iconst 2, .iadd, .iaload, .aload 0, .iload 3, .iconst 3, .iadd, .iaload, .invokevirtual 132, .aload 2, .aload 0, .iload 3, .iconst 1, .iadd, .iaload, .aload 0, .iload 3, .iconst 2, .iadd, .iaload, .aload 0, .iload 3, .iconst 3, .iadd, .iaload, .invokevirtual 247, .if_icmp .eq 2591696, .iconst 0, .freturn] := rfl
theorem b_L_law_1528 : tm_blk (Int.toNat 2591528) = [.aload 1, .aload 0, .iload 3, .iconst 1, .iadd, .iaload, .aload 0, .iload 3, .iconst 2, .iadd, .iaload, .aload 0, .iload 3, .iconst 3, .iadd, .iaload, .aload 0, .iload 3, .iconst 4, .iadd, .iaload, .aload 0, .iload 3, .iconst 5, .iadd, .iaload, .invokevirtual 133, .aload 2, .aload 0, .iload 3, .iconst 1, .iadd, .iaload, .aload 0, .iload 3, .iconst 2, .iadd, .iaload, .aload 0, .iload 3, .iconst 3, .iadd, .iaload, .aload 0, .iload 3, .iconst 4, .iadd, .iaload, .aload 0, .iload 3, .iconst 5, .iadd, .iaload, .invokevirtual 249, .if_icmp .eq 2591696, .iconst 0, .freturn] := rfl
theorem b_L_law_1591 : tm_blk (Int.toNat 2591591) = [.aload 1, .aload 0, .iload 3, .iconst 1, .iadd, .iaload, .aload 0, .iload 3, .iconst 2, .iadd, .iaload, .invokevirtual 134, .aload 2, .aload 0, .iload 3, .iconst 1, .iadd, .iaload, .aload 0, .iload 3, .iconst 2, .iadd, .iaload, .invokevirtual 251, .if_icmp .eq 2591696, .iconst 0, .freturn] := rfl
theorem b_L_law_1624 : tm_blk (Int.toNat 2591624) = [.aload 1, .invokevirtual 135, .aload 2, .invokevirtual 252, .if_icmp .eq 2591696, .iconst 0, .freturn] := rfl
theorem b_L_law_1637 : tm_blk (Int.toNat 2591637) = [.aload 1, .invokevirtual 136, .aload 2, .invokevirtual 253, .if_icmp .eq 2591696, .iconst 0, .freturn] := rfl
theorem b_L_law_1650 : tm_blk (Int.toNat 2591650) = [.aload 1, .aload 0, .iload 3, .iconst 1, .iadd, .iaload, .invokevirtual 137, .aload 2, .aload 0, .iload 3, .iconst 1, .iadd, .iaload, .invokevirtual 254, .if_icmp .eq 2591696, .iconst 0, .freturn] := rfl
theorem b_L_law_1673 : tm_blk (Int.toNat 2591673) = [.aload 1, .aload 0, .iload 3, .iconst 1, .iadd, .iaload, .invokevirtual 138, .aload 2, .aload 0, .iload 3, .iconst 1, .iadd, .iaload, .invokevirtual 255, .if_icmp .eq 2591696, .iconst 0, .freturn] := rfl
theorem b_L_law_1696 : tm_blk (Int.toNat 2591696) = [.iinc 3 6, .goto 2590018] := rfl
theorem b_L_law_1702 : tm_blk (Int.toNat 2591702) = [.iconst 1, .freturn] := rfl
def tm_Pi (I : Nat → tm_M → Prop) (l : Nat) (x : Nat → Int32) (yc yr : Nat) (as : List Value) : Prop := ∀ (k : Nat) (M : tm_M), k < 512 → I k M → ∃ (r : Int32) (M1 M2 : tm_M), tm_call 999 yc (.ref 0 :: as) (tm_GG l x) M = some (some (.int r), tm_GG l x, M1) ∧ tm_call 999 yr (.ref 95 :: as) (tm_GG l x) M1 = some (some (.int r), tm_GG l x, M2) ∧ I (k + 1) M2
def tm_Pj (I : Nat → tm_M → Prop) (l : Nat) (x : Nat → Int32) (yc yr : Nat) (as : List Value) : Prop := ∀ (k : Nat) (M : tm_M), k < 512 → I k M → ∃ (r : Int64) (M1 M2 : tm_M), tm_call 999 yc (.ref 0 :: as) (tm_GG l x) M = some (some (.long r), tm_GG l x, M1) ∧ tm_call 999 yr (.ref 95 :: as) (tm_GG l x) M1 = some (some (.long r), tm_GG l x, M2) ∧ I (k + 1) M2
theorem e_tsw {d : Nat} {is : List Instr} {L st : List Value} {G : tm_G} {M : tm_M} {df lo hi : Int} {offs : Array Int} {v : Int32} {q : Int} (h1 : ¬ (v.toInt < lo ∨ hi < v.toInt)) (h2 : offs[(v.toInt - lo).toNat]? = some q) : tm_ev d (.tableswitch df lo hi offs :: is) L (.int v :: st) G M = tm_ev d (tm_blk q.toNat) L st G M := tm_ev_jmp (by simp [tm_ctl, h1, h2])
theorem e_tsd {d : Nat} {is : List Instr} {L st : List Value} {G : tm_G} {M : tm_M} {df lo hi : Int} {offs : Array Int} {v : Int32} (h1 : v.toInt < lo ∨ hi < v.toInt) : tm_ev d (.tableswitch df lo hi offs :: is) L (.int v :: st) G M = tm_ev d (tm_blk df.toNat) L st G M := tm_ev_jmp (by simp [tm_ctl, h1])
theorem tm_cmp0 (r : Int64) : (lg_cmp r r = 0) = True := by simp [lg_cmp]

section TML
variable {I : Nat → tm_M → Prop} {l k : Nat} {x : Nat → Int32} {M : tm_M} {i : Int32}
theorem lc_0 (hk : k < 512) (hI : I k M) (h1 : tm_inb (i + 1) l = true) (h2 : tm_inb (i + 2) l = true) (h3 : tm_inb (i + 3) l = true) (h4 : tm_inb (i + 4) l = true) (h5 : tm_inb (i + 5) l = true) (hp : ∀ (a0 : Int32), tm_Pi I l x 96 177 [.int a0]) : ∃ M2, I (k + 1) M2 ∧ tm_ev 1000 (tm_blk (Int.toNat 2590220)) [.ref 1000, .ref 0, .ref 95, .int i] [] (tm_GG l x) M = tm_ev 1000 (tm_blk (Int.toNat 2591696)) [.ref 1000, .ref 0, .ref 95, .int i] [] (tm_GG l x) M2 := by
  obtain ⟨r, M1, M2, e1, e2, hI2⟩ := hp (x (i + 1).toNatClampNeg) k M hk hI
  refine ⟨M2, hI2, ?_⟩
  simp only [e_al1, e_al0, e_il3, e_iconst, k_1, e_iadd, al_1000, r_X11_road, c_0, c_95, e_al2, r_X12_road, e_ic_eq, k_0, b_L_law_220, Option.bind_some, Option.toList_some, Option.toList_none, List.cons_append, List.nil_append, List.map_cons, List.map_nil, List.sum_cons, List.sum_nil, Value.category, Nat.reduceAdd, Nat.reduceLeDiff, Nat.reduceMul, h1, h2, h3, h4, h5, e1, e2, tm_cmp0, ↓reduceIte]
theorem lc_1 (hk : k < 512) (hI : I k M) (h1 : tm_inb (i + 1) l = true) (h2 : tm_inb (i + 2) l = true) (h3 : tm_inb (i + 3) l = true) (h4 : tm_inb (i + 4) l = true) (h5 : tm_inb (i + 5) l = true) (hp : ∀ (a0 : Int32) (a1 : Int32), tm_Pi I l x 97 178 [.int a0, .int a1]) : ∃ M2, I (k + 1) M2 ∧ tm_ev 1000 (tm_blk (Int.toNat 2590243)) [.ref 1000, .ref 0, .ref 95, .int i] [] (tm_GG l x) M = tm_ev 1000 (tm_blk (Int.toNat 2591696)) [.ref 1000, .ref 0, .ref 95, .int i] [] (tm_GG l x) M2 := by
  obtain ⟨r, M1, M2, e1, e2, hI2⟩ := hp (x (i + 1).toNatClampNeg) (x (i + 2).toNatClampNeg) k M hk hI
  refine ⟨M2, hI2, ?_⟩
  simp only [e_al1, e_al0, e_il3, e_iconst, k_1, e_iadd, al_1000, k_2, r_X11_climb, c_0, c_95, e_al2, r_X12_climb, e_ic_eq, k_0, b_L_law_243, Option.bind_some, Option.toList_some, Option.toList_none, List.cons_append, List.nil_append, List.map_cons, List.map_nil, List.sum_cons, List.sum_nil, Value.category, Nat.reduceAdd, Nat.reduceLeDiff, Nat.reduceMul, h1, h2, h3, h4, h5, e1, e2, tm_cmp0, ↓reduceIte]
theorem lc_2 (hk : k < 512) (hI : I k M) (h1 : tm_inb (i + 1) l = true) (h2 : tm_inb (i + 2) l = true) (h3 : tm_inb (i + 3) l = true) (h4 : tm_inb (i + 4) l = true) (h5 : tm_inb (i + 5) l = true) (hp : ∀ (a0 : Int32), tm_Pi I l x 98 179 [.int a0]) : ∃ M2, I (k + 1) M2 ∧ tm_ev 1000 (tm_blk (Int.toNat 2590276)) [.ref 1000, .ref 0, .ref 95, .int i] [] (tm_GG l x) M = tm_ev 1000 (tm_blk (Int.toNat 2591696)) [.ref 1000, .ref 0, .ref 95, .int i] [] (tm_GG l x) M2 := by
  obtain ⟨r, M1, M2, e1, e2, hI2⟩ := hp (x (i + 1).toNatClampNeg) k M hk hI
  refine ⟨M2, hI2, ?_⟩
  simp only [e_al1, e_al0, e_il3, e_iconst, k_1, e_iadd, al_1000, r_X11_heat, c_0, c_95, e_al2, r_X12_heat, e_ic_eq, k_0, b_L_law_276, Option.bind_some, Option.toList_some, Option.toList_none, List.cons_append, List.nil_append, List.map_cons, List.map_nil, List.sum_cons, List.sum_nil, Value.category, Nat.reduceAdd, Nat.reduceLeDiff, Nat.reduceMul, h1, h2, h3, h4, h5, e1, e2, tm_cmp0, ↓reduceIte]
theorem lc_3 (hk : k < 512) (hI : I k M) (h1 : tm_inb (i + 1) l = true) (h2 : tm_inb (i + 2) l = true) (h3 : tm_inb (i + 3) l = true) (h4 : tm_inb (i + 4) l = true) (h5 : tm_inb (i + 5) l = true) (hp : ∀ (a0 : Int32) (a1 : Int32), (a1 = 0 ∨ a1 = 1) → tm_Pi I l x 99 180 [.int a0, .int a1]) : ∃ M2, I (k + 1) M2 ∧ tm_ev 1000 (tm_blk (Int.toNat 2590299)) [.ref 1000, .ref 0, .ref 95, .int i] [] (tm_GG l x) M = tm_ev 1000 (tm_blk (Int.toNat 2591696)) [.ref 1000, .ref 0, .ref 95, .int i] [] (tm_GG l x) M2 := by
  by_cases hz : x (i + 2).toNatClampNeg = 0
  · obtain ⟨r, M1, M2, e1, e2, hI2⟩ := hp (x (i + 1).toNatClampNeg) 0 (by decide) k M hk hI
    refine ⟨M2, hI2, ?_⟩
    simp only [e_al1, e_al0, e_il3, e_iconst, k_1, e_iadd, al_1000, k_2, e_if_eq, e_goto, k_0, e_gotow, r_X11_mat, c_0, c_95, e_al2, r_X12_mat, e_ic_eq, b_L_law_299, b_L_law_317, b_L_law_318, b_L_law_339, b_L_law_340, Option.bind_some, Option.toList_some, Option.toList_none, List.cons_append, List.nil_append, List.map_cons, List.map_nil, List.sum_cons, List.sum_nil, Value.category, Nat.reduceAdd, Nat.reduceLeDiff, Nat.reduceMul, h1, h2, e1, e2, hz, ↓reduceIte, not_true_eq_false, not_false_eq_true]
  · obtain ⟨r, M1, M2, e1, e2, hI2⟩ := hp (x (i + 1).toNatClampNeg) 1 (by decide) k M hk hI
    refine ⟨M2, hI2, ?_⟩
    simp only [e_al1, e_al0, e_il3, e_iconst, k_1, e_iadd, al_1000, k_2, e_if_eq, e_goto, k_0, e_gotow, r_X11_mat, c_0, c_95, e_al2, r_X12_mat, e_ic_eq, b_L_law_299, b_L_law_317, b_L_law_318, b_L_law_339, b_L_law_340, Option.bind_some, Option.toList_some, Option.toList_none, List.cons_append, List.nil_append, List.map_cons, List.map_nil, List.sum_cons, List.sum_nil, Value.category, Nat.reduceAdd, Nat.reduceLeDiff, Nat.reduceMul, h1, h2, e1, e2, hz, ↓reduceIte, not_true_eq_false, not_false_eq_true]
theorem lc_4 (hk : k < 512) (hI : I k M) (h1 : tm_inb (i + 1) l = true) (h2 : tm_inb (i + 2) l = true) (h3 : tm_inb (i + 3) l = true) (h4 : tm_inb (i + 4) l = true) (h5 : tm_inb (i + 5) l = true) (hp : ∀ (a0 : Int32) (a1 : Int32), tm_Pi I l x 100 181 [.int a0, .int a1]) : ∃ M2, I (k + 1) M2 ∧ tm_ev 1000 (tm_blk (Int.toNat 2590348)) [.ref 1000, .ref 0, .ref 95, .int i] [] (tm_GG l x) M = tm_ev 1000 (tm_blk (Int.toNat 2591696)) [.ref 1000, .ref 0, .ref 95, .int i] [] (tm_GG l x) M2 := by
  obtain ⟨r, M1, M2, e1, e2, hI2⟩ := hp (x (i + 1).toNatClampNeg) (x (i + 2).toNatClampNeg) k M hk hI
  refine ⟨M2, hI2, ?_⟩
  simp only [e_al1, e_al0, e_il3, e_iconst, k_1, e_iadd, al_1000, k_2, r_X11_deaf, c_0, c_95, e_al2, r_X12_deaf, e_ic_eq, k_0, b_L_law_348, Option.bind_some, Option.toList_some, Option.toList_none, List.cons_append, List.nil_append, List.map_cons, List.map_nil, List.sum_cons, List.sum_nil, Value.category, Nat.reduceAdd, Nat.reduceLeDiff, Nat.reduceMul, h1, h2, h3, h4, h5, e1, e2, tm_cmp0, ↓reduceIte]
theorem lc_5 (hk : k < 512) (hI : I k M) (h1 : tm_inb (i + 1) l = true) (h2 : tm_inb (i + 2) l = true) (h3 : tm_inb (i + 3) l = true) (h4 : tm_inb (i + 4) l = true) (h5 : tm_inb (i + 5) l = true) (hp : ∀ (a0 : Int32) (a1 : Int32) (a2 : Int32) (a3 : Int32), tm_Pi I l x 101 182 [.int a0, .int a1, .int a2, .int a3]) : ∃ M2, I (k + 1) M2 ∧ tm_ev 1000 (tm_blk (Int.toNat 2590381)) [.ref 1000, .ref 0, .ref 95, .int i] [] (tm_GG l x) M = tm_ev 1000 (tm_blk (Int.toNat 2591696)) [.ref 1000, .ref 0, .ref 95, .int i] [] (tm_GG l x) M2 := by
  obtain ⟨r, M1, M2, e1, e2, hI2⟩ := hp (x (i + 1).toNatClampNeg) (x (i + 2).toNatClampNeg) (x (i + 3).toNatClampNeg) (x (i + 4).toNatClampNeg) k M hk hI
  refine ⟨M2, hI2, ?_⟩
  simp only [e_al1, e_al0, e_il3, e_iconst, k_1, e_iadd, al_1000, k_2, k_3, k_4, r_X11_way, c_0, c_95, e_al2, r_X12_way, e_ic_eq, k_0, b_L_law_381, Option.bind_some, Option.toList_some, Option.toList_none, List.cons_append, List.nil_append, List.map_cons, List.map_nil, List.sum_cons, List.sum_nil, Value.category, Nat.reduceAdd, Nat.reduceLeDiff, Nat.reduceMul, h1, h2, h3, h4, h5, e1, e2, tm_cmp0, ↓reduceIte]
theorem lc_6 (hk : k < 512) (hI : I k M) (h1 : tm_inb (i + 1) l = true) (h2 : tm_inb (i + 2) l = true) (h3 : tm_inb (i + 3) l = true) (h4 : tm_inb (i + 4) l = true) (h5 : tm_inb (i + 5) l = true) (hp : ∀ (a0 : Int32) (a1 : Int32) (a2 : Int32) (a3 : Int32) (a4 : Int32), tm_Pi I l x 102 185 [.int a0, .int a1, .int a2, .int a3, .int a4]) : ∃ M2, I (k + 1) M2 ∧ tm_ev 1000 (tm_blk (Int.toNat 2590434)) [.ref 1000, .ref 0, .ref 95, .int i] [] (tm_GG l x) M = tm_ev 1000 (tm_blk (Int.toNat 2591696)) [.ref 1000, .ref 0, .ref 95, .int i] [] (tm_GG l x) M2 := by
  obtain ⟨r, M1, M2, e1, e2, hI2⟩ := hp (x (i + 1).toNatClampNeg) (x (i + 2).toNatClampNeg) (x (i + 3).toNatClampNeg) (x (i + 4).toNatClampNeg) (x (i + 5).toNatClampNeg) k M hk hI
  refine ⟨M2, hI2, ?_⟩
  simp only [e_al1, e_al0, e_il3, e_iconst, k_1, e_iadd, al_1000, k_2, k_3, k_4, k_5, r_X11_earliest, c_0, c_95, e_al2, r_X12_earliest, e_ic_eq, k_0, b_L_law_434, Option.bind_some, Option.toList_some, Option.toList_none, List.cons_append, List.nil_append, List.map_cons, List.map_nil, List.sum_cons, List.sum_nil, Value.category, Nat.reduceAdd, Nat.reduceLeDiff, Nat.reduceMul, h1, h2, h3, h4, h5, e1, e2, tm_cmp0, ↓reduceIte]
theorem lc_7 (hk : k < 512) (hI : I k M) (h1 : tm_inb (i + 1) l = true) (h2 : tm_inb (i + 2) l = true) (h3 : tm_inb (i + 3) l = true) (h4 : tm_inb (i + 4) l = true) (h5 : tm_inb (i + 5) l = true) (hp : ∀ (a0 : Int32), tm_Pi I l x 103 187 [.int a0]) : ∃ M2, I (k + 1) M2 ∧ tm_ev 1000 (tm_blk (Int.toNat 2590497)) [.ref 1000, .ref 0, .ref 95, .int i] [] (tm_GG l x) M = tm_ev 1000 (tm_blk (Int.toNat 2591696)) [.ref 1000, .ref 0, .ref 95, .int i] [] (tm_GG l x) M2 := by
  obtain ⟨r, M1, M2, e1, e2, hI2⟩ := hp (x (i + 1).toNatClampNeg) k M hk hI
  refine ⟨M2, hI2, ?_⟩
  simp only [e_al1, e_al0, e_il3, e_iconst, k_1, e_iadd, al_1000, r_X11_fewest, c_0, c_95, e_al2, r_X12_fewest, e_ic_eq, k_0, b_L_law_497, Option.bind_some, Option.toList_some, Option.toList_none, List.cons_append, List.nil_append, List.map_cons, List.map_nil, List.sum_cons, List.sum_nil, Value.category, Nat.reduceAdd, Nat.reduceLeDiff, Nat.reduceMul, h1, h2, h3, h4, h5, e1, e2, tm_cmp0, ↓reduceIte]
theorem lc_8 (hk : k < 512) (hI : I k M) (h1 : tm_inb (i + 1) l = true) (h2 : tm_inb (i + 2) l = true) (h3 : tm_inb (i + 3) l = true) (h4 : tm_inb (i + 4) l = true) (h5 : tm_inb (i + 5) l = true) (hp : ∀ (a0 : Int32) (a1 : Int32), tm_Pi I l x 104 188 [.int a0, .int a1]) : ∃ M2, I (k + 1) M2 ∧ tm_ev 1000 (tm_blk (Int.toNat 2590520)) [.ref 1000, .ref 0, .ref 95, .int i] [] (tm_GG l x) M = tm_ev 1000 (tm_blk (Int.toNat 2591696)) [.ref 1000, .ref 0, .ref 95, .int i] [] (tm_GG l x) M2 := by
  obtain ⟨r, M1, M2, e1, e2, hI2⟩ := hp (x (i + 1).toNatClampNeg) (x (i + 2).toNatClampNeg) k M hk hI
  refine ⟨M2, hI2, ?_⟩
  simp only [e_al1, e_al0, e_il3, e_iconst, k_1, e_iadd, al_1000, k_2, r_X11_runner, c_0, c_95, e_al2, r_X12_runner, e_ic_eq, k_0, b_L_law_520, Option.bind_some, Option.toList_some, Option.toList_none, List.cons_append, List.nil_append, List.map_cons, List.map_nil, List.sum_cons, List.sum_nil, Value.category, Nat.reduceAdd, Nat.reduceLeDiff, Nat.reduceMul, h1, h2, h3, h4, h5, e1, e2, tm_cmp0, ↓reduceIte]
theorem lc_9 (hk : k < 512) (hI : I k M) (h1 : tm_inb (i + 1) l = true) (h2 : tm_inb (i + 2) l = true) (h3 : tm_inb (i + 3) l = true) (h4 : tm_inb (i + 4) l = true) (h5 : tm_inb (i + 5) l = true) (hp : ∀ (a0 : Int32) (a1 : Int32) (a2 : Int32) (a3 : Int32), tm_Pi I l x 105 191 [.int a0, .int a1, .int a2, .int a3]) : ∃ M2, I (k + 1) M2 ∧ tm_ev 1000 (tm_blk (Int.toNat 2590553)) [.ref 1000, .ref 0, .ref 95, .int i] [] (tm_GG l x) M = tm_ev 1000 (tm_blk (Int.toNat 2591696)) [.ref 1000, .ref 0, .ref 95, .int i] [] (tm_GG l x) M2 := by
  obtain ⟨r, M1, M2, e1, e2, hI2⟩ := hp (x (i + 1).toNatClampNeg) (x (i + 2).toNatClampNeg) (x (i + 3).toNatClampNeg) (x (i + 4).toNatClampNeg) k M hk hI
  refine ⟨M2, hI2, ?_⟩
  simp only [e_al1, e_al0, e_il3, e_iconst, k_1, e_iadd, al_1000, k_2, k_3, k_4, r_X11_going, c_0, c_95, e_al2, r_X12_going, e_ic_eq, k_0, b_L_law_553, Option.bind_some, Option.toList_some, Option.toList_none, List.cons_append, List.nil_append, List.map_cons, List.map_nil, List.sum_cons, List.sum_nil, Value.category, Nat.reduceAdd, Nat.reduceLeDiff, Nat.reduceMul, h1, h2, h3, h4, h5, e1, e2, tm_cmp0, ↓reduceIte]
theorem lc_10 (hk : k < 512) (hI : I k M) (h1 : tm_inb (i + 1) l = true) (h2 : tm_inb (i + 2) l = true) (h3 : tm_inb (i + 3) l = true) (h4 : tm_inb (i + 4) l = true) (h5 : tm_inb (i + 5) l = true) (hp : ∀ (a0 : Int32), tm_Pi I l x 106 192 [.int a0]) : ∃ M2, I (k + 1) M2 ∧ tm_ev 1000 (tm_blk (Int.toNat 2590606)) [.ref 1000, .ref 0, .ref 95, .int i] [] (tm_GG l x) M = tm_ev 1000 (tm_blk (Int.toNat 2591696)) [.ref 1000, .ref 0, .ref 95, .int i] [] (tm_GG l x) M2 := by
  obtain ⟨r, M1, M2, e1, e2, hI2⟩ := hp (x (i + 1).toNatClampNeg) k M hk hI
  refine ⟨M2, hI2, ?_⟩
  simp only [e_al1, e_al0, e_il3, e_iconst, k_1, e_iadd, al_1000, r_X11_forget, c_0, c_95, e_al2, r_X12_forget, e_ic_eq, k_0, b_L_law_606, Option.bind_some, Option.toList_some, Option.toList_none, List.cons_append, List.nil_append, List.map_cons, List.map_nil, List.sum_cons, List.sum_nil, Value.category, Nat.reduceAdd, Nat.reduceLeDiff, Nat.reduceMul, h1, h2, h3, h4, h5, e1, e2, tm_cmp0, ↓reduceIte]
theorem lc_11 (hk : k < 512) (hI : I k M) (h1 : tm_inb (i + 1) l = true) (h2 : tm_inb (i + 2) l = true) (h3 : tm_inb (i + 3) l = true) (h4 : tm_inb (i + 4) l = true) (h5 : tm_inb (i + 5) l = true) (hp : ∀ (a0 : Int32) (a1 : Int32), tm_Pi I l x 107 194 [.int a0, .int a1]) : ∃ M2, I (k + 1) M2 ∧ tm_ev 1000 (tm_blk (Int.toNat 2590629)) [.ref 1000, .ref 0, .ref 95, .int i] [] (tm_GG l x) M = tm_ev 1000 (tm_blk (Int.toNat 2591696)) [.ref 1000, .ref 0, .ref 95, .int i] [] (tm_GG l x) M2 := by
  obtain ⟨r, M1, M2, e1, e2, hI2⟩ := hp (x (i + 1).toNatClampNeg) (x (i + 2).toNatClampNeg) k M hk hI
  refine ⟨M2, hI2, ?_⟩
  simp only [e_al1, e_al0, e_il3, e_iconst, k_1, e_iadd, al_1000, k_2, r_X11_as, c_0, c_95, e_al2, r_X12_as, e_ic_eq, k_0, b_L_law_629, Option.bind_some, Option.toList_some, Option.toList_none, List.cons_append, List.nil_append, List.map_cons, List.map_nil, List.sum_cons, List.sum_nil, Value.category, Nat.reduceAdd, Nat.reduceLeDiff, Nat.reduceMul, h1, h2, h3, h4, h5, e1, e2, tm_cmp0, ↓reduceIte]
theorem lc_12 (hk : k < 512) (hI : I k M) (h1 : tm_inb (i + 1) l = true) (h2 : tm_inb (i + 2) l = true) (h3 : tm_inb (i + 3) l = true) (h4 : tm_inb (i + 4) l = true) (h5 : tm_inb (i + 5) l = true) (hp : ∀ (a0 : Int32) (a1 : Int32), tm_Pi I l x 108 195 [.int a0, .int a1]) : ∃ M2, I (k + 1) M2 ∧ tm_ev 1000 (tm_blk (Int.toNat 2590662)) [.ref 1000, .ref 0, .ref 95, .int i] [] (tm_GG l x) M = tm_ev 1000 (tm_blk (Int.toNat 2591696)) [.ref 1000, .ref 0, .ref 95, .int i] [] (tm_GG l x) M2 := by
  obtain ⟨r, M1, M2, e1, e2, hI2⟩ := hp (x (i + 1).toNatClampNeg) (x (i + 2).toNatClampNeg) k M hk hI
  refine ⟨M2, hI2, ?_⟩
  simp only [e_al1, e_al0, e_il3, e_iconst, k_1, e_iadd, al_1000, k_2, r_X11_goingIs, c_0, c_95, e_al2, r_X12_goingIs, e_ic_eq, k_0, b_L_law_662, Option.bind_some, Option.toList_some, Option.toList_none, List.cons_append, List.nil_append, List.map_cons, List.map_nil, List.sum_cons, List.sum_nil, Value.category, Nat.reduceAdd, Nat.reduceLeDiff, Nat.reduceMul, h1, h2, h3, h4, h5, e1, e2, tm_cmp0, ↓reduceIte]
theorem lc_13 (hk : k < 512) (hI : I k M) (h1 : tm_inb (i + 1) l = true) (h2 : tm_inb (i + 2) l = true) (h3 : tm_inb (i + 3) l = true) (h4 : tm_inb (i + 4) l = true) (h5 : tm_inb (i + 5) l = true) (hp : ∀ (a0 : Int32), tm_Pi I l x 109 196 [.int a0]) : ∃ M2, I (k + 1) M2 ∧ tm_ev 1000 (tm_blk (Int.toNat 2590695)) [.ref 1000, .ref 0, .ref 95, .int i] [] (tm_GG l x) M = tm_ev 1000 (tm_blk (Int.toNat 2591696)) [.ref 1000, .ref 0, .ref 95, .int i] [] (tm_GG l x) M2 := by
  obtain ⟨r, M1, M2, e1, e2, hI2⟩ := hp (x (i + 1).toNatClampNeg) k M hk hI
  refine ⟨M2, hI2, ?_⟩
  simp only [e_al1, e_al0, e_il3, e_iconst, k_1, e_iadd, al_1000, r_X11_draw, c_0, c_95, e_al2, r_X12_draw, e_ic_eq, k_0, b_L_law_695, Option.bind_some, Option.toList_some, Option.toList_none, List.cons_append, List.nil_append, List.map_cons, List.map_nil, List.sum_cons, List.sum_nil, Value.category, Nat.reduceAdd, Nat.reduceLeDiff, Nat.reduceMul, h1, h2, h3, h4, h5, e1, e2, tm_cmp0, ↓reduceIte]
theorem lc_14 (hk : k < 512) (hI : I k M) (h1 : tm_inb (i + 1) l = true) (h2 : tm_inb (i + 2) l = true) (h3 : tm_inb (i + 3) l = true) (h4 : tm_inb (i + 4) l = true) (h5 : tm_inb (i + 5) l = true) (hp : tm_Pi I l x 110 203 []) : ∃ M2, I (k + 1) M2 ∧ tm_ev 1000 (tm_blk (Int.toNat 2590718)) [.ref 1000, .ref 0, .ref 95, .int i] [] (tm_GG l x) M = tm_ev 1000 (tm_blk (Int.toNat 2591696)) [.ref 1000, .ref 0, .ref 95, .int i] [] (tm_GG l x) M2 := by
  obtain ⟨r, M1, M2, e1, e2, hI2⟩ := hp  k M hk hI
  refine ⟨M2, hI2, ?_⟩
  simp only [e_al1, r_X11_race, c_0, c_95, e_al2, r_X12_race, e_ic_eq, e_iconst, k_0, b_L_law_718, Option.bind_some, Option.toList_some, Option.toList_none, List.cons_append, List.nil_append, List.map_cons, List.map_nil, List.sum_cons, List.sum_nil, Value.category, Nat.reduceAdd, Nat.reduceLeDiff, Nat.reduceMul, h1, h2, h3, h4, h5, e1, e2, tm_cmp0, ↓reduceIte]
theorem lc_15 (hk : k < 512) (hI : I k M) (h1 : tm_inb (i + 1) l = true) (h2 : tm_inb (i + 2) l = true) (h3 : tm_inb (i + 3) l = true) (h4 : tm_inb (i + 4) l = true) (h5 : tm_inb (i + 5) l = true) (hp : ∀ (a0 : Int32) (a1 : Int32), tm_Pi I l x 111 204 [.int a0, .int a1]) : ∃ M2, I (k + 1) M2 ∧ tm_ev 1000 (tm_blk (Int.toNat 2590731)) [.ref 1000, .ref 0, .ref 95, .int i] [] (tm_GG l x) M = tm_ev 1000 (tm_blk (Int.toNat 2591696)) [.ref 1000, .ref 0, .ref 95, .int i] [] (tm_GG l x) M2 := by
  obtain ⟨r, M1, M2, e1, e2, hI2⟩ := hp (x (i + 1).toNatClampNeg) (x (i + 2).toNatClampNeg) k M hk hI
  refine ⟨M2, hI2, ?_⟩
  simp only [e_al1, e_al0, e_il3, e_iconst, k_1, e_iadd, al_1000, k_2, r_X11_would, c_0, c_95, e_al2, r_X12_would, e_ic_eq, k_0, b_L_law_731, Option.bind_some, Option.toList_some, Option.toList_none, List.cons_append, List.nil_append, List.map_cons, List.map_nil, List.sum_cons, List.sum_nil, Value.category, Nat.reduceAdd, Nat.reduceLeDiff, Nat.reduceMul, h1, h2, h3, h4, h5, e1, e2, tm_cmp0, ↓reduceIte]
theorem lc_16 (hk : k < 512) (hI : I k M) (h1 : tm_inb (i + 1) l = true) (h2 : tm_inb (i + 2) l = true) (h3 : tm_inb (i + 3) l = true) (h4 : tm_inb (i + 4) l = true) (h5 : tm_inb (i + 5) l = true) (hp : ∀ (a0 : Int32) (a1 : Int32), tm_Pi I l x 112 205 [.int a0, .int a1]) : ∃ M2, I (k + 1) M2 ∧ tm_ev 1000 (tm_blk (Int.toNat 2590764)) [.ref 1000, .ref 0, .ref 95, .int i] [] (tm_GG l x) M = tm_ev 1000 (tm_blk (Int.toNat 2591696)) [.ref 1000, .ref 0, .ref 95, .int i] [] (tm_GG l x) M2 := by
  obtain ⟨r, M1, M2, e1, e2, hI2⟩ := hp (x (i + 1).toNatClampNeg) (x (i + 2).toNatClampNeg) k M hk hI
  refine ⟨M2, hI2, ?_⟩
  simp only [e_al1, e_al0, e_il3, e_iconst, k_1, e_iadd, al_1000, k_2, r_X11_heard, c_0, c_95, e_al2, r_X12_heard, e_ic_eq, k_0, b_L_law_764, Option.bind_some, Option.toList_some, Option.toList_none, List.cons_append, List.nil_append, List.map_cons, List.map_nil, List.sum_cons, List.sum_nil, Value.category, Nat.reduceAdd, Nat.reduceLeDiff, Nat.reduceMul, h1, h2, h3, h4, h5, e1, e2, tm_cmp0, ↓reduceIte]
theorem lc_17 (hk : k < 512) (hI : I k M) (h1 : tm_inb (i + 1) l = true) (h2 : tm_inb (i + 2) l = true) (h3 : tm_inb (i + 3) l = true) (h4 : tm_inb (i + 4) l = true) (h5 : tm_inb (i + 5) l = true) (hp : ∀ (a0 : Int32), tm_Pi I l x 113 206 [.int a0]) : ∃ M2, I (k + 1) M2 ∧ tm_ev 1000 (tm_blk (Int.toNat 2590797)) [.ref 1000, .ref 0, .ref 95, .int i] [] (tm_GG l x) M = tm_ev 1000 (tm_blk (Int.toNat 2591696)) [.ref 1000, .ref 0, .ref 95, .int i] [] (tm_GG l x) M2 := by
  obtain ⟨r, M1, M2, e1, e2, hI2⟩ := hp (x (i + 1).toNatClampNeg) k M hk hI
  refine ⟨M2, hI2, ?_⟩
  simp only [e_al1, e_al0, e_il3, e_iconst, k_1, e_iadd, al_1000, r_X11_off, c_0, c_95, e_al2, r_X12_off, e_ic_eq, k_0, b_L_law_797, Option.bind_some, Option.toList_some, Option.toList_none, List.cons_append, List.nil_append, List.map_cons, List.map_nil, List.sum_cons, List.sum_nil, Value.category, Nat.reduceAdd, Nat.reduceLeDiff, Nat.reduceMul, h1, h2, h3, h4, h5, e1, e2, tm_cmp0, ↓reduceIte]
theorem lc_18 (hk : k < 512) (hI : I k M) (h1 : tm_inb (i + 1) l = true) (h2 : tm_inb (i + 2) l = true) (h3 : tm_inb (i + 3) l = true) (h4 : tm_inb (i + 4) l = true) (h5 : tm_inb (i + 5) l = true) (hp : ∀ (a0 : Int32) (a1 : Int32) (a2 : Int32) (a3 : Int32) (a4 : Int32), tm_Pi I l x 114 207 [.int a0, .int a1, .int a2, .int a3, .int a4]) : ∃ M2, I (k + 1) M2 ∧ tm_ev 1000 (tm_blk (Int.toNat 2590820)) [.ref 1000, .ref 0, .ref 95, .int i] [] (tm_GG l x) M = tm_ev 1000 (tm_blk (Int.toNat 2591696)) [.ref 1000, .ref 0, .ref 95, .int i] [] (tm_GG l x) M2 := by
  obtain ⟨r, M1, M2, e1, e2, hI2⟩ := hp (x (i + 1).toNatClampNeg) (x (i + 2).toNatClampNeg) (x (i + 3).toNatClampNeg) (x (i + 4).toNatClampNeg) (x (i + 5).toNatClampNeg) k M hk hI
  refine ⟨M2, hI2, ?_⟩
  simp only [e_al1, e_al0, e_il3, e_iconst, k_1, e_iadd, al_1000, k_2, k_3, k_4, k_5, r_X11_pace, c_0, c_95, e_al2, r_X12_pace, e_ic_eq, k_0, b_L_law_820, Option.bind_some, Option.toList_some, Option.toList_none, List.cons_append, List.nil_append, List.map_cons, List.map_nil, List.sum_cons, List.sum_nil, Value.category, Nat.reduceAdd, Nat.reduceLeDiff, Nat.reduceMul, h1, h2, h3, h4, h5, e1, e2, tm_cmp0, ↓reduceIte]
theorem lc_19 (hk : k < 512) (hI : I k M) (h1 : tm_inb (i + 1) l = true) (h2 : tm_inb (i + 2) l = true) (h3 : tm_inb (i + 3) l = true) (h4 : tm_inb (i + 4) l = true) (h5 : tm_inb (i + 5) l = true) (hp : ∀ (a0 : Int32) (a1 : Int32) (a2 : Int32) (a3 : Int32), tm_Pi I l x 115 209 [.int a0, .int a1, .int a2, .int a3]) : ∃ M2, I (k + 1) M2 ∧ tm_ev 1000 (tm_blk (Int.toNat 2590883)) [.ref 1000, .ref 0, .ref 95, .int i] [] (tm_GG l x) M = tm_ev 1000 (tm_blk (Int.toNat 2591696)) [.ref 1000, .ref 0, .ref 95, .int i] [] (tm_GG l x) M2 := by
  obtain ⟨r, M1, M2, e1, e2, hI2⟩ := hp (x (i + 1).toNatClampNeg) (x (i + 2).toNatClampNeg) (x (i + 3).toNatClampNeg) (x (i + 4).toNatClampNeg) k M hk hI
  refine ⟨M2, hI2, ?_⟩
  simp only [e_al1, e_al0, e_il3, e_iconst, k_1, e_iadd, al_1000, k_2, k_3, k_4, r_X11_odds, c_0, c_95, e_al2, r_X12_odds, e_ic_eq, k_0, b_L_law_883, Option.bind_some, Option.toList_some, Option.toList_none, List.cons_append, List.nil_append, List.map_cons, List.map_nil, List.sum_cons, List.sum_nil, Value.category, Nat.reduceAdd, Nat.reduceLeDiff, Nat.reduceMul, h1, h2, h3, h4, h5, e1, e2, tm_cmp0, ↓reduceIte]
theorem lc_20 (hk : k < 512) (hI : I k M) (h1 : tm_inb (i + 1) l = true) (h2 : tm_inb (i + 2) l = true) (h3 : tm_inb (i + 3) l = true) (h4 : tm_inb (i + 4) l = true) (h5 : tm_inb (i + 5) l = true) (hp : ∀ (a0 : Int64) (a1 : Int32), tm_Pi I l x 116 210 [.long a0, .int a1]) : ∃ M2, I (k + 1) M2 ∧ tm_ev 1000 (tm_blk (Int.toNat 2590936)) [.ref 1000, .ref 0, .ref 95, .int i] [] (tm_GG l x) M = tm_ev 1000 (tm_blk (Int.toNat 2591696)) [.ref 1000, .ref 0, .ref 95, .int i] [] (tm_GG l x) M2 := by
  obtain ⟨r, M1, M2, e1, e2, hI2⟩ := hp ((x (i + 1).toNatClampNeg).toInt64 <<< ((32 : Int32).toInt64 &&& 63) ||| (x (i + 2).toNatClampNeg).toInt64 &&& Int64.ofNat 4294967295) (x (i + 3).toNatClampNeg) k M hk hI
  refine ⟨M2, hI2, ?_⟩
  simp only [e_al1, e_al0, e_il3, e_iconst, k_1, e_iadd, al_1000, e_i2l, k_32, e_lshl, k_2, e_ldc2, e_land, e_lor, k_3, r_X11_feed, c_0, c_95, e_al2, r_X12_feed, e_ic_eq, k_0, b_L_law_936, Option.bind_some, Option.toList_some, Option.toList_none, List.cons_append, List.nil_append, List.map_cons, List.map_nil, List.sum_cons, List.sum_nil, Value.category, Nat.reduceAdd, Nat.reduceLeDiff, Nat.reduceMul, h1, h2, h3, h4, h5, e1, e2, ↓reduceIte]
theorem lc_21 (hk : k < 512) (hI : I k M) (h1 : tm_inb (i + 1) l = true) (h2 : tm_inb (i + 2) l = true) (h3 : tm_inb (i + 3) l = true) (h4 : tm_inb (i + 4) l = true) (h5 : tm_inb (i + 5) l = true) (hp : ∀ (a0 : Int32), tm_Pi I l x 117 211 [.int a0]) : ∃ M2, I (k + 1) M2 ∧ tm_ev 1000 (tm_blk (Int.toNat 2590999)) [.ref 1000, .ref 0, .ref 95, .int i] [] (tm_GG l x) M = tm_ev 1000 (tm_blk (Int.toNat 2591696)) [.ref 1000, .ref 0, .ref 95, .int i] [] (tm_GG l x) M2 := by
  obtain ⟨r, M1, M2, e1, e2, hI2⟩ := hp (x (i + 1).toNatClampNeg) k M hk hI
  refine ⟨M2, hI2, ?_⟩
  simp only [e_al1, e_al0, e_il3, e_iconst, k_1, e_iadd, al_1000, r_X11_text, c_0, c_95, e_al2, r_X12_text, e_ic_eq, k_0, b_L_law_999, Option.bind_some, Option.toList_some, Option.toList_none, List.cons_append, List.nil_append, List.map_cons, List.map_nil, List.sum_cons, List.sum_nil, Value.category, Nat.reduceAdd, Nat.reduceLeDiff, Nat.reduceMul, h1, h2, h3, h4, h5, e1, e2, tm_cmp0, ↓reduceIte]
theorem lc_22 (hk : k < 512) (hI : I k M) (h1 : tm_inb (i + 1) l = true) (h2 : tm_inb (i + 2) l = true) (h3 : tm_inb (i + 3) l = true) (h4 : tm_inb (i + 4) l = true) (h5 : tm_inb (i + 5) l = true) (hp : ∀ (a0 : Int32), tm_Pi I l x 118 212 [.int a0]) : ∃ M2, I (k + 1) M2 ∧ tm_ev 1000 (tm_blk (Int.toNat 2591022)) [.ref 1000, .ref 0, .ref 95, .int i] [] (tm_GG l x) M = tm_ev 1000 (tm_blk (Int.toNat 2591696)) [.ref 1000, .ref 0, .ref 95, .int i] [] (tm_GG l x) M2 := by
  obtain ⟨r, M1, M2, e1, e2, hI2⟩ := hp (x (i + 1).toNatClampNeg) k M hk hI
  refine ⟨M2, hI2, ?_⟩
  simp only [e_al1, e_al0, e_il3, e_iconst, k_1, e_iadd, al_1000, r_X11_least, c_0, c_95, e_al2, r_X12_least, e_ic_eq, k_0, b_L_law_1022, Option.bind_some, Option.toList_some, Option.toList_none, List.cons_append, List.nil_append, List.map_cons, List.map_nil, List.sum_cons, List.sum_nil, Value.category, Nat.reduceAdd, Nat.reduceLeDiff, Nat.reduceMul, h1, h2, h3, h4, h5, e1, e2, tm_cmp0, ↓reduceIte]
theorem lc_23 (hk : k < 512) (hI : I k M) (h1 : tm_inb (i + 1) l = true) (h2 : tm_inb (i + 2) l = true) (h3 : tm_inb (i + 3) l = true) (h4 : tm_inb (i + 4) l = true) (h5 : tm_inb (i + 5) l = true) (hp : ∀ (a0 : Int32) (a1 : Int32) (a2 : Int32), tm_Pi I l x 119 215 [.int a0, .int a1, .int a2]) : ∃ M2, I (k + 1) M2 ∧ tm_ev 1000 (tm_blk (Int.toNat 2591045)) [.ref 1000, .ref 0, .ref 95, .int i] [] (tm_GG l x) M = tm_ev 1000 (tm_blk (Int.toNat 2591696)) [.ref 1000, .ref 0, .ref 95, .int i] [] (tm_GG l x) M2 := by
  obtain ⟨r, M1, M2, e1, e2, hI2⟩ := hp (x (i + 1).toNatClampNeg) (x (i + 2).toNatClampNeg) (x (i + 3).toNatClampNeg) k M hk hI
  refine ⟨M2, hI2, ?_⟩
  simp only [e_al1, e_al0, e_il3, e_iconst, k_1, e_iadd, al_1000, k_2, k_3, r_X11_gap, c_0, c_95, e_al2, r_X12_gap, e_ic_eq, k_0, b_L_law_1045, Option.bind_some, Option.toList_some, Option.toList_none, List.cons_append, List.nil_append, List.map_cons, List.map_nil, List.sum_cons, List.sum_nil, Value.category, Nat.reduceAdd, Nat.reduceLeDiff, Nat.reduceMul, h1, h2, h3, h4, h5, e1, e2, tm_cmp0, ↓reduceIte]
theorem lc_24 (hk : k < 512) (hI : I k M) (h1 : tm_inb (i + 1) l = true) (h2 : tm_inb (i + 2) l = true) (h3 : tm_inb (i + 3) l = true) (h4 : tm_inb (i + 4) l = true) (h5 : tm_inb (i + 5) l = true) (hp : ∀ (a0 : Int32) (a1 : Int32), tm_Pi I l x 120 217 [.int a0, .int a1]) : ∃ M2, I (k + 1) M2 ∧ tm_ev 1000 (tm_blk (Int.toNat 2591088)) [.ref 1000, .ref 0, .ref 95, .int i] [] (tm_GG l x) M = tm_ev 1000 (tm_blk (Int.toNat 2591696)) [.ref 1000, .ref 0, .ref 95, .int i] [] (tm_GG l x) M2 := by
  obtain ⟨r, M1, M2, e1, e2, hI2⟩ := hp (x (i + 1).toNatClampNeg) (x (i + 2).toNatClampNeg) k M hk hI
  refine ⟨M2, hI2, ?_⟩
  simp only [e_al1, e_al0, e_il3, e_iconst, k_1, e_iadd, al_1000, k_2, r_X11_company, c_0, c_95, e_al2, r_X12_company, e_ic_eq, k_0, b_L_law_1088, Option.bind_some, Option.toList_some, Option.toList_none, List.cons_append, List.nil_append, List.map_cons, List.map_nil, List.sum_cons, List.sum_nil, Value.category, Nat.reduceAdd, Nat.reduceLeDiff, Nat.reduceMul, h1, h2, h3, h4, h5, e1, e2, tm_cmp0, ↓reduceIte]
theorem lc_25 (hk : k < 512) (hI : I k M) (h1 : tm_inb (i + 1) l = true) (h2 : tm_inb (i + 2) l = true) (h3 : tm_inb (i + 3) l = true) (h4 : tm_inb (i + 4) l = true) (h5 : tm_inb (i + 5) l = true) (hp : ∀ (a0 : Int32) (a1 : Int32), tm_Pi I l x 121 219 [.int a0, .int a1]) : ∃ M2, I (k + 1) M2 ∧ tm_ev 1000 (tm_blk (Int.toNat 2591121)) [.ref 1000, .ref 0, .ref 95, .int i] [] (tm_GG l x) M = tm_ev 1000 (tm_blk (Int.toNat 2591696)) [.ref 1000, .ref 0, .ref 95, .int i] [] (tm_GG l x) M2 := by
  obtain ⟨r, M1, M2, e1, e2, hI2⟩ := hp (x (i + 1).toNatClampNeg) (x (i + 2).toNatClampNeg) k M hk hI
  refine ⟨M2, hI2, ?_⟩
  simp only [e_al1, e_al0, e_il3, e_iconst, k_1, e_iadd, al_1000, k_2, r_X11_misses, c_0, c_95, e_al2, r_X12_misses, e_ic_eq, k_0, b_L_law_1121, Option.bind_some, Option.toList_some, Option.toList_none, List.cons_append, List.nil_append, List.map_cons, List.map_nil, List.sum_cons, List.sum_nil, Value.category, Nat.reduceAdd, Nat.reduceLeDiff, Nat.reduceMul, h1, h2, h3, h4, h5, e1, e2, tm_cmp0, ↓reduceIte]
theorem lc_26 (hk : k < 512) (hI : I k M) (h1 : tm_inb (i + 1) l = true) (h2 : tm_inb (i + 2) l = true) (h3 : tm_inb (i + 3) l = true) (h4 : tm_inb (i + 4) l = true) (h5 : tm_inb (i + 5) l = true) (hp : ∀ (a0 : Int32) (a1 : Int32), tm_Pj I l x 122 221 [.int a0, .int a1]) : ∃ M2, I (k + 1) M2 ∧ tm_ev 1000 (tm_blk (Int.toNat 2591154)) [.ref 1000, .ref 0, .ref 95, .int i] [] (tm_GG l x) M = tm_ev 1000 (tm_blk (Int.toNat 2591696)) [.ref 1000, .ref 0, .ref 95, .int i] [] (tm_GG l x) M2 := by
  obtain ⟨r, M1, M2, e1, e2, hI2⟩ := hp (x (i + 1).toNatClampNeg) (x (i + 2).toNatClampNeg) k M hk hI
  refine ⟨M2, hI2, ?_⟩
  simp only [e_al1, e_al0, e_il3, e_iconst, k_1, e_iadd, al_1000, k_2, r_X11_parts, c_0, c_95, e_al2, r_X12_parts, e_lcmp, e_if_eq, k_0, b_L_law_1154, Option.bind_some, Option.toList_some, Option.toList_none, List.cons_append, List.nil_append, List.map_cons, List.map_nil, List.sum_cons, List.sum_nil, Value.category, Nat.reduceAdd, Nat.reduceLeDiff, Nat.reduceMul, h1, h2, h3, h4, h5, e1, e2, tm_cmp0, ↓reduceIte]
theorem lc_27 (hk : k < 512) (hI : I k M) (h1 : tm_inb (i + 1) l = true) (h2 : tm_inb (i + 2) l = true) (h3 : tm_inb (i + 3) l = true) (h4 : tm_inb (i + 4) l = true) (h5 : tm_inb (i + 5) l = true) (hp : ∀ (a0 : Int32), tm_Pi I l x 123 224 [.int a0]) : ∃ M2, I (k + 1) M2 ∧ tm_ev 1000 (tm_blk (Int.toNat 2591188)) [.ref 1000, .ref 0, .ref 95, .int i] [] (tm_GG l x) M = tm_ev 1000 (tm_blk (Int.toNat 2591696)) [.ref 1000, .ref 0, .ref 95, .int i] [] (tm_GG l x) M2 := by
  obtain ⟨r, M1, M2, e1, e2, hI2⟩ := hp (x (i + 1).toNatClampNeg) k M hk hI
  refine ⟨M2, hI2, ?_⟩
  simp only [e_al1, e_al0, e_il3, e_iconst, k_1, e_iadd, al_1000, r_X11_odd, c_0, c_95, e_al2, r_X12_odd, e_ic_eq, k_0, b_L_law_1188, Option.bind_some, Option.toList_some, Option.toList_none, List.cons_append, List.nil_append, List.map_cons, List.map_nil, List.sum_cons, List.sum_nil, Value.category, Nat.reduceAdd, Nat.reduceLeDiff, Nat.reduceMul, h1, h2, h3, h4, h5, e1, e2, tm_cmp0, ↓reduceIte]
theorem lc_28 (hk : k < 512) (hI : I k M) (h1 : tm_inb (i + 1) l = true) (h2 : tm_inb (i + 2) l = true) (h3 : tm_inb (i + 3) l = true) (h4 : tm_inb (i + 4) l = true) (h5 : tm_inb (i + 5) l = true) (hp : ∀ (a0 : Int32), tm_Pi I l x 124 225 [.int a0]) : ∃ M2, I (k + 1) M2 ∧ tm_ev 1000 (tm_blk (Int.toNat 2591211)) [.ref 1000, .ref 0, .ref 95, .int i] [] (tm_GG l x) M = tm_ev 1000 (tm_blk (Int.toNat 2591696)) [.ref 1000, .ref 0, .ref 95, .int i] [] (tm_GG l x) M2 := by
  obtain ⟨r, M1, M2, e1, e2, hI2⟩ := hp (x (i + 1).toNatClampNeg) k M hk hI
  refine ⟨M2, hI2, ?_⟩
  simp only [e_al1, e_al0, e_il3, e_iconst, k_1, e_iadd, al_1000, r_X11_judge, c_0, c_95, e_al2, r_X12_judge, e_ic_eq, k_0, b_L_law_1211, Option.bind_some, Option.toList_some, Option.toList_none, List.cons_append, List.nil_append, List.map_cons, List.map_nil, List.sum_cons, List.sum_nil, Value.category, Nat.reduceAdd, Nat.reduceLeDiff, Nat.reduceMul, h1, h2, h3, h4, h5, e1, e2, tm_cmp0, ↓reduceIte]
theorem lc_29 (hk : k < 512) (hI : I k M) (h1 : tm_inb (i + 1) l = true) (h2 : tm_inb (i + 2) l = true) (h3 : tm_inb (i + 3) l = true) (h4 : tm_inb (i + 4) l = true) (h5 : tm_inb (i + 5) l = true) (hp : ∀ (a0 : Int32) (a1 : Int32), tm_Pi I l x 125 229 [.int a0, .int a1]) : ∃ M2, I (k + 1) M2 ∧ tm_ev 1000 (tm_blk (Int.toNat 2591234)) [.ref 1000, .ref 0, .ref 95, .int i] [] (tm_GG l x) M = tm_ev 1000 (tm_blk (Int.toNat 2591696)) [.ref 1000, .ref 0, .ref 95, .int i] [] (tm_GG l x) M2 := by
  obtain ⟨r, M1, M2, e1, e2, hI2⟩ := hp (x (i + 1).toNatClampNeg) (x (i + 2).toNatClampNeg) k M hk hI
  refine ⟨M2, hI2, ?_⟩
  simp only [e_al1, e_al0, e_il3, e_iconst, k_1, e_iadd, al_1000, k_2, r_X11_place, c_0, c_95, e_al2, r_X12_place, e_ic_eq, k_0, b_L_law_1234, Option.bind_some, Option.toList_some, Option.toList_none, List.cons_append, List.nil_append, List.map_cons, List.map_nil, List.sum_cons, List.sum_nil, Value.category, Nat.reduceAdd, Nat.reduceLeDiff, Nat.reduceMul, h1, h2, h3, h4, h5, e1, e2, tm_cmp0, ↓reduceIte]
theorem lc_30 (hk : k < 512) (hI : I k M) (h1 : tm_inb (i + 1) l = true) (h2 : tm_inb (i + 2) l = true) (h3 : tm_inb (i + 3) l = true) (h4 : tm_inb (i + 4) l = true) (h5 : tm_inb (i + 5) l = true) (hp : ∀ (a0 : Int32), tm_Pi I l x 126 230 [.int a0]) : ∃ M2, I (k + 1) M2 ∧ tm_ev 1000 (tm_blk (Int.toNat 2591267)) [.ref 1000, .ref 0, .ref 95, .int i] [] (tm_GG l x) M = tm_ev 1000 (tm_blk (Int.toNat 2591696)) [.ref 1000, .ref 0, .ref 95, .int i] [] (tm_GG l x) M2 := by
  obtain ⟨r, M1, M2, e1, e2, hI2⟩ := hp (x (i + 1).toNatClampNeg) k M hk hI
  refine ⟨M2, hI2, ?_⟩
  simp only [e_al1, e_al0, e_il3, e_iconst, k_1, e_iadd, al_1000, r_X11_up, c_0, c_95, e_al2, r_X12_up, e_ic_eq, k_0, b_L_law_1267, Option.bind_some, Option.toList_some, Option.toList_none, List.cons_append, List.nil_append, List.map_cons, List.map_nil, List.sum_cons, List.sum_nil, Value.category, Nat.reduceAdd, Nat.reduceLeDiff, Nat.reduceMul, h1, h2, h3, h4, h5, e1, e2, tm_cmp0, ↓reduceIte]
theorem lc_31 (hk : k < 512) (hI : I k M) (h1 : tm_inb (i + 1) l = true) (h2 : tm_inb (i + 2) l = true) (h3 : tm_inb (i + 3) l = true) (h4 : tm_inb (i + 4) l = true) (h5 : tm_inb (i + 5) l = true) (hp : ∀ (a0 : Int32) (a1 : Int32) (a2 : Int32) (a3 : Int32), tm_Pi I l x 127 231 [.int a0, .int a1, .int a2, .int a3]) : ∃ M2, I (k + 1) M2 ∧ tm_ev 1000 (tm_blk (Int.toNat 2591290)) [.ref 1000, .ref 0, .ref 95, .int i] [] (tm_GG l x) M = tm_ev 1000 (tm_blk (Int.toNat 2591696)) [.ref 1000, .ref 0, .ref 95, .int i] [] (tm_GG l x) M2 := by
  obtain ⟨r, M1, M2, e1, e2, hI2⟩ := hp (x (i + 1).toNatClampNeg) (x (i + 2).toNatClampNeg) (x (i + 3).toNatClampNeg) (x (i + 4).toNatClampNeg) k M hk hI
  refine ⟨M2, hI2, ?_⟩
  simp only [e_al1, e_al0, e_il3, e_iconst, k_1, e_iadd, al_1000, k_2, k_3, k_4, r_X11_entry, c_0, c_95, e_al2, r_X12_entry, e_ic_eq, k_0, b_L_law_1290, Option.bind_some, Option.toList_some, Option.toList_none, List.cons_append, List.nil_append, List.map_cons, List.map_nil, List.sum_cons, List.sum_nil, Value.category, Nat.reduceAdd, Nat.reduceLeDiff, Nat.reduceMul, h1, h2, h3, h4, h5, e1, e2, tm_cmp0, ↓reduceIte]
theorem lc_32 (hk : k < 512) (hI : I k M) (h1 : tm_inb (i + 1) l = true) (h2 : tm_inb (i + 2) l = true) (h3 : tm_inb (i + 3) l = true) (h4 : tm_inb (i + 4) l = true) (h5 : tm_inb (i + 5) l = true) (hp : ∀ (a0 : Int32) (a1 : Int32), tm_Pi I l x 128 233 [.int a0, .int a1]) : ∃ M2, I (k + 1) M2 ∧ tm_ev 1000 (tm_blk (Int.toNat 2591343)) [.ref 1000, .ref 0, .ref 95, .int i] [] (tm_GG l x) M = tm_ev 1000 (tm_blk (Int.toNat 2591696)) [.ref 1000, .ref 0, .ref 95, .int i] [] (tm_GG l x) M2 := by
  obtain ⟨r, M1, M2, e1, e2, hI2⟩ := hp (x (i + 1).toNatClampNeg) (x (i + 2).toNatClampNeg) k M hk hI
  refine ⟨M2, hI2, ?_⟩
  simp only [e_al1, e_al0, e_il3, e_iconst, k_1, e_iadd, al_1000, k_2, r_X11_same, c_0, c_95, e_al2, r_X12_same, e_ic_eq, k_0, b_L_law_1343, Option.bind_some, Option.toList_some, Option.toList_none, List.cons_append, List.nil_append, List.map_cons, List.map_nil, List.sum_cons, List.sum_nil, Value.category, Nat.reduceAdd, Nat.reduceLeDiff, Nat.reduceMul, h1, h2, h3, h4, h5, e1, e2, tm_cmp0, ↓reduceIte]
theorem lc_33 (hk : k < 512) (hI : I k M) (h1 : tm_inb (i + 1) l = true) (h2 : tm_inb (i + 2) l = true) (h3 : tm_inb (i + 3) l = true) (h4 : tm_inb (i + 4) l = true) (h5 : tm_inb (i + 5) l = true) (hp : ∀ (a0 : Int32) (a1 : Int32) (a2 : Int32), tm_Pi I l x 129 244 [.int a0, .int a1, .int a2]) : ∃ M2, I (k + 1) M2 ∧ tm_ev 1000 (tm_blk (Int.toNat 2591376)) [.ref 1000, .ref 0, .ref 95, .int i] [] (tm_GG l x) M = tm_ev 1000 (tm_blk (Int.toNat 2591696)) [.ref 1000, .ref 0, .ref 95, .int i] [] (tm_GG l x) M2 := by
  obtain ⟨r, M1, M2, e1, e2, hI2⟩ := hp (x (i + 1).toNatClampNeg) (x (i + 2).toNatClampNeg) (x (i + 3).toNatClampNeg) k M hk hI
  refine ⟨M2, hI2, ?_⟩
  simp only [e_al1, e_al0, e_il3, e_iconst, k_1, e_iadd, al_1000, k_2, k_3, r_X11_voice, c_0, c_95, e_al2, r_X12_voice, e_ic_eq, k_0, b_L_law_1376, Option.bind_some, Option.toList_some, Option.toList_none, List.cons_append, List.nil_append, List.map_cons, List.map_nil, List.sum_cons, List.sum_nil, Value.category, Nat.reduceAdd, Nat.reduceLeDiff, Nat.reduceMul, h1, h2, h3, h4, h5, e1, e2, tm_cmp0, ↓reduceIte]
theorem lc_34 (hk : k < 512) (hI : I k M) (h1 : tm_inb (i + 1) l = true) (h2 : tm_inb (i + 2) l = true) (h3 : tm_inb (i + 3) l = true) (h4 : tm_inb (i + 4) l = true) (h5 : tm_inb (i + 5) l = true) (hp : ∀ (a0 : Int32), tm_Pi I l x 130 245 [.int a0]) : ∃ M2, I (k + 1) M2 ∧ tm_ev 1000 (tm_blk (Int.toNat 2591419)) [.ref 1000, .ref 0, .ref 95, .int i] [] (tm_GG l x) M = tm_ev 1000 (tm_blk (Int.toNat 2591696)) [.ref 1000, .ref 0, .ref 95, .int i] [] (tm_GG l x) M2 := by
  obtain ⟨r, M1, M2, e1, e2, hI2⟩ := hp (x (i + 1).toNatClampNeg) k M hk hI
  refine ⟨M2, hI2, ?_⟩
  simp only [e_al1, e_al0, e_il3, e_iconst, k_1, e_iadd, al_1000, r_X11_trace, c_0, c_95, e_al2, r_X12_trace, e_ic_eq, k_0, b_L_law_1419, Option.bind_some, Option.toList_some, Option.toList_none, List.cons_append, List.nil_append, List.map_cons, List.map_nil, List.sum_cons, List.sum_nil, Value.category, Nat.reduceAdd, Nat.reduceLeDiff, Nat.reduceMul, h1, h2, h3, h4, h5, e1, e2, tm_cmp0, ↓reduceIte]
theorem lc_35 (hk : k < 512) (hI : I k M) (h1 : tm_inb (i + 1) l = true) (h2 : tm_inb (i + 2) l = true) (h3 : tm_inb (i + 3) l = true) (h4 : tm_inb (i + 4) l = true) (h5 : tm_inb (i + 5) l = true) (hp : ∀ (a0 : Int32) (a1 : Int32) (a2 : Int32), tm_Pi I l x 131 246 [.int a0, .int a1, .int a2]) : ∃ M2, I (k + 1) M2 ∧ tm_ev 1000 (tm_blk (Int.toNat 2591442)) [.ref 1000, .ref 0, .ref 95, .int i] [] (tm_GG l x) M = tm_ev 1000 (tm_blk (Int.toNat 2591696)) [.ref 1000, .ref 0, .ref 95, .int i] [] (tm_GG l x) M2 := by
  obtain ⟨r, M1, M2, e1, e2, hI2⟩ := hp (x (i + 1).toNatClampNeg) (x (i + 2).toNatClampNeg) (x (i + 3).toNatClampNeg) k M hk hI
  refine ⟨M2, hI2, ?_⟩
  simp only [e_al1, e_al0, e_il3, e_iconst, k_1, e_iadd, al_1000, k_2, k_3, r_X11_sheet, c_0, c_95, e_al2, r_X12_sheet, e_ic_eq, k_0, b_L_law_1442, Option.bind_some, Option.toList_some, Option.toList_none, List.cons_append, List.nil_append, List.map_cons, List.map_nil, List.sum_cons, List.sum_nil, Value.category, Nat.reduceAdd, Nat.reduceLeDiff, Nat.reduceMul, h1, h2, h3, h4, h5, e1, e2, tm_cmp0, ↓reduceIte]
theorem lc_36 (hk : k < 512) (hI : I k M) (h1 : tm_inb (i + 1) l = true) (h2 : tm_inb (i + 2) l = true) (h3 : tm_inb (i + 3) l = true) (h4 : tm_inb (i + 4) l = true) (h5 : tm_inb (i + 5) l = true) (hp : ∀ (a0 : Int32) (a1 : Int32) (a2 : Int32), tm_Pi I l x 132 247 [.int a0, .int a1, .int a2]) : ∃ M2, I (k + 1) M2 ∧ tm_ev 1000 (tm_blk (Int.toNat 2591485)) [.ref 1000, .ref 0, .ref 95, .int i] [] (tm_GG l x) M = tm_ev 1000 (tm_blk (Int.toNat 2591696)) [.ref 1000, .ref 0, .ref 95, .int i] [] (tm_GG l x) M2 := by
  obtain ⟨r, M1, M2, e1, e2, hI2⟩ := hp (x (i + 1).toNatClampNeg) (x (i + 2).toNatClampNeg) (x (i + 3).toNatClampNeg) k M hk hI
  refine ⟨M2, hI2, ?_⟩
  simp only [e_al1, e_al0, e_il3, e_iconst, k_1, e_iadd, al_1000, k_2, k_3, r_X11_put, c_0, c_95, e_al2, r_X12_put, e_ic_eq, k_0, b_L_law_1485, Option.bind_some, Option.toList_some, Option.toList_none, List.cons_append, List.nil_append, List.map_cons, List.map_nil, List.sum_cons, List.sum_nil, Value.category, Nat.reduceAdd, Nat.reduceLeDiff, Nat.reduceMul, h1, h2, h3, h4, h5, e1, e2, tm_cmp0, ↓reduceIte]
theorem lc_37 (hk : k < 512) (hI : I k M) (h1 : tm_inb (i + 1) l = true) (h2 : tm_inb (i + 2) l = true) (h3 : tm_inb (i + 3) l = true) (h4 : tm_inb (i + 4) l = true) (h5 : tm_inb (i + 5) l = true) (hp : ∀ (a0 : Int32) (a1 : Int32) (a2 : Int32) (a3 : Int32) (a4 : Int32), tm_Pi I l x 133 249 [.int a0, .int a1, .int a2, .int a3, .int a4]) : ∃ M2, I (k + 1) M2 ∧ tm_ev 1000 (tm_blk (Int.toNat 2591528)) [.ref 1000, .ref 0, .ref 95, .int i] [] (tm_GG l x) M = tm_ev 1000 (tm_blk (Int.toNat 2591696)) [.ref 1000, .ref 0, .ref 95, .int i] [] (tm_GG l x) M2 := by
  obtain ⟨r, M1, M2, e1, e2, hI2⟩ := hp (x (i + 1).toNatClampNeg) (x (i + 2).toNatClampNeg) (x (i + 3).toNatClampNeg) (x (i + 4).toNatClampNeg) (x (i + 5).toNatClampNeg) k M hk hI
  refine ⟨M2, hI2, ?_⟩
  simp only [e_al1, e_al0, e_il3, e_iconst, k_1, e_iadd, al_1000, k_2, k_3, k_4, k_5, r_X11_move, c_0, c_95, e_al2, r_X12_move, e_ic_eq, k_0, b_L_law_1528, Option.bind_some, Option.toList_some, Option.toList_none, List.cons_append, List.nil_append, List.map_cons, List.map_nil, List.sum_cons, List.sum_nil, Value.category, Nat.reduceAdd, Nat.reduceLeDiff, Nat.reduceMul, h1, h2, h3, h4, h5, e1, e2, tm_cmp0, ↓reduceIte]
theorem lc_38 (hk : k < 512) (hI : I k M) (h1 : tm_inb (i + 1) l = true) (h2 : tm_inb (i + 2) l = true) (h3 : tm_inb (i + 3) l = true) (h4 : tm_inb (i + 4) l = true) (h5 : tm_inb (i + 5) l = true) (hp : ∀ (a0 : Int32) (a1 : Int32), tm_Pi I l x 134 251 [.int a0, .int a1]) : ∃ M2, I (k + 1) M2 ∧ tm_ev 1000 (tm_blk (Int.toNat 2591591)) [.ref 1000, .ref 0, .ref 95, .int i] [] (tm_GG l x) M = tm_ev 1000 (tm_blk (Int.toNat 2591696)) [.ref 1000, .ref 0, .ref 95, .int i] [] (tm_GG l x) M2 := by
  obtain ⟨r, M1, M2, e1, e2, hI2⟩ := hp (x (i + 1).toNatClampNeg) (x (i + 2).toNatClampNeg) k M hk hI
  refine ⟨M2, hI2, ?_⟩
  simp only [e_al1, e_al0, e_il3, e_iconst, k_1, e_iadd, al_1000, k_2, r_X11_write, c_0, c_95, e_al2, r_X12_write, e_ic_eq, k_0, b_L_law_1591, Option.bind_some, Option.toList_some, Option.toList_none, List.cons_append, List.nil_append, List.map_cons, List.map_nil, List.sum_cons, List.sum_nil, Value.category, Nat.reduceAdd, Nat.reduceLeDiff, Nat.reduceMul, h1, h2, h3, h4, h5, e1, e2, tm_cmp0, ↓reduceIte]
theorem lc_39 (hk : k < 512) (hI : I k M) (h1 : tm_inb (i + 1) l = true) (h2 : tm_inb (i + 2) l = true) (h3 : tm_inb (i + 3) l = true) (h4 : tm_inb (i + 4) l = true) (h5 : tm_inb (i + 5) l = true) (hp : tm_Pi I l x 135 252 []) : ∃ M2, I (k + 1) M2 ∧ tm_ev 1000 (tm_blk (Int.toNat 2591624)) [.ref 1000, .ref 0, .ref 95, .int i] [] (tm_GG l x) M = tm_ev 1000 (tm_blk (Int.toNat 2591696)) [.ref 1000, .ref 0, .ref 95, .int i] [] (tm_GG l x) M2 := by
  obtain ⟨r, M1, M2, e1, e2, hI2⟩ := hp  k M hk hI
  refine ⟨M2, hI2, ?_⟩
  simp only [e_al1, r_X11_image, c_0, c_95, e_al2, r_X12_image, e_ic_eq, e_iconst, k_0, b_L_law_1624, Option.bind_some, Option.toList_some, Option.toList_none, List.cons_append, List.nil_append, List.map_cons, List.map_nil, List.sum_cons, List.sum_nil, Value.category, Nat.reduceAdd, Nat.reduceLeDiff, Nat.reduceMul, h1, h2, h3, h4, h5, e1, e2, tm_cmp0, ↓reduceIte]
theorem lc_40 (hk : k < 512) (hI : I k M) (h1 : tm_inb (i + 1) l = true) (h2 : tm_inb (i + 2) l = true) (h3 : tm_inb (i + 3) l = true) (h4 : tm_inb (i + 4) l = true) (h5 : tm_inb (i + 5) l = true) (hp : tm_Pi I l x 136 253 []) : ∃ M2, I (k + 1) M2 ∧ tm_ev 1000 (tm_blk (Int.toNat 2591637)) [.ref 1000, .ref 0, .ref 95, .int i] [] (tm_GG l x) M = tm_ev 1000 (tm_blk (Int.toNat 2591696)) [.ref 1000, .ref 0, .ref 95, .int i] [] (tm_GG l x) M2 := by
  obtain ⟨r, M1, M2, e1, e2, hI2⟩ := hp  k M hk hI
  refine ⟨M2, hI2, ?_⟩
  simp only [e_al1, r_X11_restore, c_0, c_95, e_al2, r_X12_restore, e_ic_eq, e_iconst, k_0, b_L_law_1637, Option.bind_some, Option.toList_some, Option.toList_none, List.cons_append, List.nil_append, List.map_cons, List.map_nil, List.sum_cons, List.sum_nil, Value.category, Nat.reduceAdd, Nat.reduceLeDiff, Nat.reduceMul, h1, h2, h3, h4, h5, e1, e2, tm_cmp0, ↓reduceIte]
theorem lc_41 (hk : k < 512) (hI : I k M) (h1 : tm_inb (i + 1) l = true) (h2 : tm_inb (i + 2) l = true) (h3 : tm_inb (i + 3) l = true) (h4 : tm_inb (i + 4) l = true) (h5 : tm_inb (i + 5) l = true) (hp : ∀ (a0 : Int32), tm_Pi I l x 137 254 [.int a0]) : ∃ M2, I (k + 1) M2 ∧ tm_ev 1000 (tm_blk (Int.toNat 2591650)) [.ref 1000, .ref 0, .ref 95, .int i] [] (tm_GG l x) M = tm_ev 1000 (tm_blk (Int.toNat 2591696)) [.ref 1000, .ref 0, .ref 95, .int i] [] (tm_GG l x) M2 := by
  obtain ⟨r, M1, M2, e1, e2, hI2⟩ := hp (x (i + 1).toNatClampNeg) k M hk hI
  refine ⟨M2, hI2, ?_⟩
  simp only [e_al1, e_al0, e_il3, e_iconst, k_1, e_iadd, al_1000, r_X11_told, c_0, c_95, e_al2, r_X12_told, e_ic_eq, k_0, b_L_law_1650, Option.bind_some, Option.toList_some, Option.toList_none, List.cons_append, List.nil_append, List.map_cons, List.map_nil, List.sum_cons, List.sum_nil, Value.category, Nat.reduceAdd, Nat.reduceLeDiff, Nat.reduceMul, h1, h2, h3, h4, h5, e1, e2, tm_cmp0, ↓reduceIte]
theorem lc_42 (hk : k < 512) (hI : I k M) (h1 : tm_inb (i + 1) l = true) (h2 : tm_inb (i + 2) l = true) (h3 : tm_inb (i + 3) l = true) (h4 : tm_inb (i + 4) l = true) (h5 : tm_inb (i + 5) l = true) (hp : ∀ (a0 : Int32), tm_Pi I l x 138 255 [.int a0]) : ∃ M2, I (k + 1) M2 ∧ tm_ev 1000 (tm_blk (Int.toNat 2591673)) [.ref 1000, .ref 0, .ref 95, .int i] [] (tm_GG l x) M = tm_ev 1000 (tm_blk (Int.toNat 2591696)) [.ref 1000, .ref 0, .ref 95, .int i] [] (tm_GG l x) M2 := by
  obtain ⟨r, M1, M2, e1, e2, hI2⟩ := hp (x (i + 1).toNatClampNeg) k M hk hI
  refine ⟨M2, hI2, ?_⟩
  simp only [e_al1, e_al0, e_il3, e_iconst, k_1, e_iadd, al_1000, r_X11_found, c_0, c_95, e_al2, r_X12_found, e_ic_eq, k_0, b_L_law_1673, Option.bind_some, Option.toList_some, Option.toList_none, List.cons_append, List.nil_append, List.map_cons, List.map_nil, List.sum_cons, List.sum_nil, Value.category, Nat.reduceAdd, Nat.reduceLeDiff, Nat.reduceMul, h1, h2, h3, h4, h5, e1, e2, tm_cmp0, ↓reduceIte]
end TML
def tm_AllPr (I : Nat → tm_M → Prop) (l : Nat) (x : Nat → Int32) : Prop :=
  (∀ (a0 : Int32), tm_Pi I l x 96 177 [.int a0]) ∧
  (∀ (a0 : Int32) (a1 : Int32), tm_Pi I l x 97 178 [.int a0, .int a1]) ∧
  (∀ (a0 : Int32), tm_Pi I l x 98 179 [.int a0]) ∧
  (∀ (a0 : Int32) (a1 : Int32), (a1 = 0 ∨ a1 = 1) → tm_Pi I l x 99 180 [.int a0, .int a1]) ∧
  (∀ (a0 : Int32) (a1 : Int32), tm_Pi I l x 100 181 [.int a0, .int a1]) ∧
  (∀ (a0 : Int32) (a1 : Int32) (a2 : Int32) (a3 : Int32), tm_Pi I l x 101 182 [.int a0, .int a1, .int a2, .int a3]) ∧
  (∀ (a0 : Int32) (a1 : Int32) (a2 : Int32) (a3 : Int32) (a4 : Int32), tm_Pi I l x 102 185 [.int a0, .int a1, .int a2, .int a3, .int a4]) ∧
  (∀ (a0 : Int32), tm_Pi I l x 103 187 [.int a0]) ∧
  (∀ (a0 : Int32) (a1 : Int32), tm_Pi I l x 104 188 [.int a0, .int a1]) ∧
  (∀ (a0 : Int32) (a1 : Int32) (a2 : Int32) (a3 : Int32), tm_Pi I l x 105 191 [.int a0, .int a1, .int a2, .int a3]) ∧
  (∀ (a0 : Int32), tm_Pi I l x 106 192 [.int a0]) ∧
  (∀ (a0 : Int32) (a1 : Int32), tm_Pi I l x 107 194 [.int a0, .int a1]) ∧
  (∀ (a0 : Int32) (a1 : Int32), tm_Pi I l x 108 195 [.int a0, .int a1]) ∧
  (∀ (a0 : Int32), tm_Pi I l x 109 196 [.int a0]) ∧
  (tm_Pi I l x 110 203 []) ∧
  (∀ (a0 : Int32) (a1 : Int32), tm_Pi I l x 111 204 [.int a0, .int a1]) ∧
  (∀ (a0 : Int32) (a1 : Int32), tm_Pi I l x 112 205 [.int a0, .int a1]) ∧
  (∀ (a0 : Int32), tm_Pi I l x 113 206 [.int a0]) ∧
  (∀ (a0 : Int32) (a1 : Int32) (a2 : Int32) (a3 : Int32) (a4 : Int32), tm_Pi I l x 114 207 [.int a0, .int a1, .int a2, .int a3, .int a4]) ∧
  (∀ (a0 : Int32) (a1 : Int32) (a2 : Int32) (a3 : Int32), tm_Pi I l x 115 209 [.int a0, .int a1, .int a2, .int a3]) ∧
  (∀ (a0 : Int64) (a1 : Int32), tm_Pi I l x 116 210 [.long a0, .int a1]) ∧
  (∀ (a0 : Int32), tm_Pi I l x 117 211 [.int a0]) ∧
  (∀ (a0 : Int32), tm_Pi I l x 118 212 [.int a0]) ∧
  (∀ (a0 : Int32) (a1 : Int32) (a2 : Int32), tm_Pi I l x 119 215 [.int a0, .int a1, .int a2]) ∧
  (∀ (a0 : Int32) (a1 : Int32), tm_Pi I l x 120 217 [.int a0, .int a1]) ∧
  (∀ (a0 : Int32) (a1 : Int32), tm_Pi I l x 121 219 [.int a0, .int a1]) ∧
  (∀ (a0 : Int32) (a1 : Int32), tm_Pj I l x 122 221 [.int a0, .int a1]) ∧
  (∀ (a0 : Int32), tm_Pi I l x 123 224 [.int a0]) ∧
  (∀ (a0 : Int32), tm_Pi I l x 124 225 [.int a0]) ∧
  (∀ (a0 : Int32) (a1 : Int32), tm_Pi I l x 125 229 [.int a0, .int a1]) ∧
  (∀ (a0 : Int32), tm_Pi I l x 126 230 [.int a0]) ∧
  (∀ (a0 : Int32) (a1 : Int32) (a2 : Int32) (a3 : Int32), tm_Pi I l x 127 231 [.int a0, .int a1, .int a2, .int a3]) ∧
  (∀ (a0 : Int32) (a1 : Int32), tm_Pi I l x 128 233 [.int a0, .int a1]) ∧
  (∀ (a0 : Int32) (a1 : Int32) (a2 : Int32), tm_Pi I l x 129 244 [.int a0, .int a1, .int a2]) ∧
  (∀ (a0 : Int32), tm_Pi I l x 130 245 [.int a0]) ∧
  (∀ (a0 : Int32) (a1 : Int32) (a2 : Int32), tm_Pi I l x 131 246 [.int a0, .int a1, .int a2]) ∧
  (∀ (a0 : Int32) (a1 : Int32) (a2 : Int32), tm_Pi I l x 132 247 [.int a0, .int a1, .int a2]) ∧
  (∀ (a0 : Int32) (a1 : Int32) (a2 : Int32) (a3 : Int32) (a4 : Int32), tm_Pi I l x 133 249 [.int a0, .int a1, .int a2, .int a3, .int a4]) ∧
  (∀ (a0 : Int32) (a1 : Int32), tm_Pi I l x 134 251 [.int a0, .int a1]) ∧
  (tm_Pi I l x 135 252 []) ∧
  (tm_Pi I l x 136 253 []) ∧
  (∀ (a0 : Int32), tm_Pi I l x 137 254 [.int a0]) ∧
  (∀ (a0 : Int32), tm_Pi I l x 138 255 [.int a0])
theorem tm_inb_nI {j n : Nat} (h : j < n) (hn : n < 2 ^ 31) : tm_inb (nI j) n = true := by
  simp only [tm_inb, Bool.and_eq_true, decide_eq_true_eq]
  rw [nI_clamp (by omega)]
  exact ⟨nI_pos (by omega), h⟩
theorem tm_gt {l k : Nat} (hl : l < 2 ^ 30) (hk : k < 2 ^ 30) : (nI l - 6 < nI k) ↔ l < k + 6 := by
  rw [show (6 : Int32) = nI 6 from by decide +kernel, Int32.lt_iff_toInt_lt, pk_sub_toInt hl (by decide), nI_toInt (by omega)]
  omega
section TMLL
variable {I : Nat → tm_M → Prop} {l : Nat} {x : Nat → Int32} 
theorem tm_turn (hup : ∀ k M, I k M → I (k + 1) M) (hl : l ≤ 3072) (hA : tm_AllPr I l x) {k : Nat} {M : tm_M} (hI : I k M) (hk : 6 * k + 6 ≤ l) : ∃ M2, I (k + 1) M2 ∧ tm_ev 1000 (tm_blk (Int.toNat 2590018)) [.ref 1000, .ref 0, .ref 95, .int (nI (6 * k))] [] (tm_GG l x) M = tm_ev 1000 (tm_blk (Int.toNat 2591696)) [.ref 1000, .ref 0, .ref 95, .int (nI (6 * k))] [] (tm_GG l x) M2 := by
  obtain ⟨p0, p1, p2, p3, p4, p5, p6, p7, p8, p9, p10, p11, p12, p13, p14, p15, p16, p17, p18, p19, p20, p21, p22, p23, p24, p25, p26, p27, p28, p29, p30, p31, p32, p33, p34, p35, p36, p37, p38, p39, p40, p41, p42⟩ := hA
  have hb : ∀ c : Nat, c < 6 → tm_inb (nI (6 * k) + nI c) l = true := fun c hc => by rw [nI_add]; exact tm_inb_nI (by omega) (by omega)
  have h0 : tm_inb (nI (6 * k)) l = true := tm_inb_nI (by omega) (by omega)
  have h1 : tm_inb (nI (6 * k) + 1) l = true := hb 1 (by decide)
  have h2 : tm_inb (nI (6 * k) + 2) l = true := hb 2 (by decide)
  have h3 : tm_inb (nI (6 * k) + 3) l = true := hb 3 (by decide)
  have h4 : tm_inb (nI (6 * k) + 4) l = true := hb 4 (by decide)
  have h5 : tm_inb (nI (6 * k) + 5) l = true := hb 5 (by decide)
  have hg : ¬ Int32.ofNat l - 6 < nI (6 * k) := by
    show ¬ nI l - 6 < nI (6 * k)
    rw [tm_gt (by omega) (by omega)]
    omega
  obtain ⟨j, hj, ej⟩ := pk_andE (x (nI (6 * k)).toNatClampNeg) (m := 63) 6 (by decide +kernel)
  have e0 : tm_ev 1000 (tm_blk (Int.toNat 2590018)) [.ref 1000, .ref 0, .ref 95, .int (nI (6 * k))] [] (tm_GG l x) M = tm_ev 1000 [.tableswitch 2591696 0 42 #[2590220, 2590243, 2590276, 2590299, 2590348, 2590381, 2590434, 2590497, 2590520, 2590553, 2590606, 2590629, 2590662, 2590695, 2590718, 2590731, 2590764, 2590797, 2590820, 2590883, 2590936, 2590999, 2591022, 2591045, 2591088, 2591121, 2591154, 2591188, 2591211, 2591234, 2591267, 2591290, 2591343, 2591376, 2591419, 2591442, 2591485, 2591528, 2591591, 2591624, 2591637, 2591650, 2591673]] [.ref 1000, .ref 0, .ref 95, .int (nI (6 * k))] [.int (nI j)] (tm_GG l x) M := by
    simp only [b_L_law_18, e_il3, e_al0, an_1000, e_iconst, k_6, k_63, e_isub, e_ic_gt, al_1000, e_iand, h0, if_neg hg, ej]
  rw [e0]
  clear e0 ej
  by_cases hj2 : 43 ≤ j
  · refine ⟨M, hup k M hI, ?_⟩
    rw [e_tsd (Or.inr (by rw [nI_toInt (by omega)]; omega))]
  · match j, hj2 with
    | 0, _ => rw [e_tsw (q := 2590220) (by decide +kernel) (by decide +kernel)]; exact lc_0 (by omega) hI h1 h2 h3 h4 h5 p0
    | 1, _ => rw [e_tsw (q := 2590243) (by decide +kernel) (by decide +kernel)]; exact lc_1 (by omega) hI h1 h2 h3 h4 h5 p1
    | 2, _ => rw [e_tsw (q := 2590276) (by decide +kernel) (by decide +kernel)]; exact lc_2 (by omega) hI h1 h2 h3 h4 h5 p2
    | 3, _ => rw [e_tsw (q := 2590299) (by decide +kernel) (by decide +kernel)]; exact lc_3 (by omega) hI h1 h2 h3 h4 h5 p3
    | 4, _ => rw [e_tsw (q := 2590348) (by decide +kernel) (by decide +kernel)]; exact lc_4 (by omega) hI h1 h2 h3 h4 h5 p4
    | 5, _ => rw [e_tsw (q := 2590381) (by decide +kernel) (by decide +kernel)]; exact lc_5 (by omega) hI h1 h2 h3 h4 h5 p5
    | 6, _ => rw [e_tsw (q := 2590434) (by decide +kernel) (by decide +kernel)]; exact lc_6 (by omega) hI h1 h2 h3 h4 h5 p6
    | 7, _ => rw [e_tsw (q := 2590497) (by decide +kernel) (by decide +kernel)]; exact lc_7 (by omega) hI h1 h2 h3 h4 h5 p7
    | 8, _ => rw [e_tsw (q := 2590520) (by decide +kernel) (by decide +kernel)]; exact lc_8 (by omega) hI h1 h2 h3 h4 h5 p8
    | 9, _ => rw [e_tsw (q := 2590553) (by decide +kernel) (by decide +kernel)]; exact lc_9 (by omega) hI h1 h2 h3 h4 h5 p9
    | 10, _ => rw [e_tsw (q := 2590606) (by decide +kernel) (by decide +kernel)]; exact lc_10 (by omega) hI h1 h2 h3 h4 h5 p10
    | 11, _ => rw [e_tsw (q := 2590629) (by decide +kernel) (by decide +kernel)]; exact lc_11 (by omega) hI h1 h2 h3 h4 h5 p11
    | 12, _ => rw [e_tsw (q := 2590662) (by decide +kernel) (by decide +kernel)]; exact lc_12 (by omega) hI h1 h2 h3 h4 h5 p12
    | 13, _ => rw [e_tsw (q := 2590695) (by decide +kernel) (by decide +kernel)]; exact lc_13 (by omega) hI h1 h2 h3 h4 h5 p13
    | 14, _ => rw [e_tsw (q := 2590718) (by decide +kernel) (by decide +kernel)]; exact lc_14 (by omega) hI h1 h2 h3 h4 h5 p14
    | 15, _ => rw [e_tsw (q := 2590731) (by decide +kernel) (by decide +kernel)]; exact lc_15 (by omega) hI h1 h2 h3 h4 h5 p15
    | 16, _ => rw [e_tsw (q := 2590764) (by decide +kernel) (by decide +kernel)]; exact lc_16 (by omega) hI h1 h2 h3 h4 h5 p16
    | 17, _ => rw [e_tsw (q := 2590797) (by decide +kernel) (by decide +kernel)]; exact lc_17 (by omega) hI h1 h2 h3 h4 h5 p17
    | 18, _ => rw [e_tsw (q := 2590820) (by decide +kernel) (by decide +kernel)]; exact lc_18 (by omega) hI h1 h2 h3 h4 h5 p18
    | 19, _ => rw [e_tsw (q := 2590883) (by decide +kernel) (by decide +kernel)]; exact lc_19 (by omega) hI h1 h2 h3 h4 h5 p19
    | 20, _ => rw [e_tsw (q := 2590936) (by decide +kernel) (by decide +kernel)]; exact lc_20 (by omega) hI h1 h2 h3 h4 h5 p20
    | 21, _ => rw [e_tsw (q := 2590999) (by decide +kernel) (by decide +kernel)]; exact lc_21 (by omega) hI h1 h2 h3 h4 h5 p21
    | 22, _ => rw [e_tsw (q := 2591022) (by decide +kernel) (by decide +kernel)]; exact lc_22 (by omega) hI h1 h2 h3 h4 h5 p22
    | 23, _ => rw [e_tsw (q := 2591045) (by decide +kernel) (by decide +kernel)]; exact lc_23 (by omega) hI h1 h2 h3 h4 h5 p23
    | 24, _ => rw [e_tsw (q := 2591088) (by decide +kernel) (by decide +kernel)]; exact lc_24 (by omega) hI h1 h2 h3 h4 h5 p24
    | 25, _ => rw [e_tsw (q := 2591121) (by decide +kernel) (by decide +kernel)]; exact lc_25 (by omega) hI h1 h2 h3 h4 h5 p25
    | 26, _ => rw [e_tsw (q := 2591154) (by decide +kernel) (by decide +kernel)]; exact lc_26 (by omega) hI h1 h2 h3 h4 h5 p26
    | 27, _ => rw [e_tsw (q := 2591188) (by decide +kernel) (by decide +kernel)]; exact lc_27 (by omega) hI h1 h2 h3 h4 h5 p27
    | 28, _ => rw [e_tsw (q := 2591211) (by decide +kernel) (by decide +kernel)]; exact lc_28 (by omega) hI h1 h2 h3 h4 h5 p28
    | 29, _ => rw [e_tsw (q := 2591234) (by decide +kernel) (by decide +kernel)]; exact lc_29 (by omega) hI h1 h2 h3 h4 h5 p29
    | 30, _ => rw [e_tsw (q := 2591267) (by decide +kernel) (by decide +kernel)]; exact lc_30 (by omega) hI h1 h2 h3 h4 h5 p30
    | 31, _ => rw [e_tsw (q := 2591290) (by decide +kernel) (by decide +kernel)]; exact lc_31 (by omega) hI h1 h2 h3 h4 h5 p31
    | 32, _ => rw [e_tsw (q := 2591343) (by decide +kernel) (by decide +kernel)]; exact lc_32 (by omega) hI h1 h2 h3 h4 h5 p32
    | 33, _ => rw [e_tsw (q := 2591376) (by decide +kernel) (by decide +kernel)]; exact lc_33 (by omega) hI h1 h2 h3 h4 h5 p33
    | 34, _ => rw [e_tsw (q := 2591419) (by decide +kernel) (by decide +kernel)]; exact lc_34 (by omega) hI h1 h2 h3 h4 h5 p34
    | 35, _ => rw [e_tsw (q := 2591442) (by decide +kernel) (by decide +kernel)]; exact lc_35 (by omega) hI h1 h2 h3 h4 h5 p35
    | 36, _ => rw [e_tsw (q := 2591485) (by decide +kernel) (by decide +kernel)]; exact lc_36 (by omega) hI h1 h2 h3 h4 h5 p36
    | 37, _ => rw [e_tsw (q := 2591528) (by decide +kernel) (by decide +kernel)]; exact lc_37 (by omega) hI h1 h2 h3 h4 h5 p37
    | 38, _ => rw [e_tsw (q := 2591591) (by decide +kernel) (by decide +kernel)]; exact lc_38 (by omega) hI h1 h2 h3 h4 h5 p38
    | 39, _ => rw [e_tsw (q := 2591624) (by decide +kernel) (by decide +kernel)]; exact lc_39 (by omega) hI h1 h2 h3 h4 h5 p39
    | 40, _ => rw [e_tsw (q := 2591637) (by decide +kernel) (by decide +kernel)]; exact lc_40 (by omega) hI h1 h2 h3 h4 h5 p40
    | 41, _ => rw [e_tsw (q := 2591650) (by decide +kernel) (by decide +kernel)]; exact lc_41 (by omega) hI h1 h2 h3 h4 h5 p41
    | 42, _ => rw [e_tsw (q := 2591673) (by decide +kernel) (by decide +kernel)]; exact lc_42 (by omega) hI h1 h2 h3 h4 h5 p42
    | j + 43, h => exact absurd (by omega) h
theorem tm_loop (hup : ∀ k M, I k M → I (k + 1) M) (hl : l ≤ 3072) (hA : tm_AllPr I l x) : ∀ (n k : Nat) (M : tm_M), I k M → 6 * k ≤ l + 6 → l + 6 ≤ 6 * k + n → ∃ M2, tm_ev 1000 (tm_blk (Int.toNat 2590018)) [.ref 1000, .ref 0, .ref 95, .int (nI (6 * k))] [] (tm_GG l x) M = some (some (.int 1), tm_GG l x, M2) := by
  intro n
  induction n with
  | zero =>
    intro k M hI h1 h2
    have hg : Int32.ofNat l - 6 < nI (6 * k) := by
      show nI l - 6 < nI (6 * k)
      rw [tm_gt (by omega) (by omega)]
      omega
    exact ⟨M, by simp only [b_L_law_18, e_il3, e_al0, an_1000, e_iconst, k_6, k_63, e_isub, e_ic_gt, al_1000, e_iand, if_pos hg, b_L_law_1702, k_1, e_zret1]⟩
  | succ n ih =>
    intro k M hI h1 h2
    by_cases hk : 6 * k + 6 ≤ l
    · obtain ⟨M2, hI2, e⟩ := tm_turn hup hl hA hI hk
      rw [e]
      have e6 : nI (6 * k) + 6 = nI (6 * (k + 1)) := by
        rw [show (6 : Int32) = nI 6 from by decide +kernel, nI_add]
        congr 1
      simp only [b_L_law_1696, e_ii3i, e_ii3r, k_6, e_goto, e6]
      exact ih (k + 1) M2 hI2 (by omega) (by omega)
    · have hg : Int32.ofNat l - 6 < nI (6 * k) := by
        show nI l - 6 < nI (6 * k)
        rw [tm_gt (by omega) (by omega)]
        omega
      exact ⟨M, by simp only [b_L_law_18, e_il3, e_al0, an_1000, e_iconst, k_6, k_63, e_isub, e_ic_gt, al_1000, e_iand, if_pos hg, b_L_law_1702, k_1, e_zret1]⟩
end TMLL
