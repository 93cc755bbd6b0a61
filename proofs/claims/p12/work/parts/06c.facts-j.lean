/-! ===== facts of more methods ===== -/
def K_J6_bitCount_0f7a4 : yK := (yJ6_bitCount_0f7a4.cls, yJ6_bitCount_0f7a4.name, cJ6_bitCount_0f7a4, 1, (some .int), [])
def t_J6_bitCount_0f7a4 : yT := [(0, .iload_n 0, 1), (1, .iload_n 0, 1), (2, .iconst 1, 1), (3, .iushr, 1), (4, .ldc_w 265, 3), (7, .iand, 1), (8, .isub, 1), (9, .istore_n 0, 1), (10, .iload_n 0, 1), (11, .ldc_w 266, 3), (14, .iand, 1), (15, .iload_n 0, 1), (16, .iconst 2, 1), (17, .iushr, 1), (18, .ldc_w 266, 3), (21, .iand, 1), (22, .iadd, 1), (23, .istore_n 0, 1), (24, .iload_n 0, 1), (25, .iload_n 0, 1), (26, .iconst 4, 1), (27, .iushr, 1), (28, .iadd, 1), (29, .ldc_w 267, 3), (32, .iand, 1), (33, .istore_n 0, 1), (34, .iload_n 0, 1), (35, .iload_n 0, 1), (36, .bipush 8, 2), (38, .iushr, 1), (39, .iadd, 1), (40, .istore_n 0, 1), (41, .iload_n 0, 1), (42, .iload_n 0, 1), (43, .bipush 16, 2), (45, .iushr, 1), (46, .iadd, 1), (47, .istore_n 0, 1), (48, .iload_n 0, 1), (49, .bipush 63, 2), (51, .iand, 1), (52, .ireturn, 1)]
theorem tq_J6_bitCount_0f7a4 : yTok (yK.cc K_J6_bitCount_0f7a4) t_J6_bitCount_0f7a4 := (ychk_ok _ _ 0 rfl (by decide +kernel))
theorem wd_545 : yWd (.constant RJ6 265 (1431655765)) := ⟨lw_in2 _ (List.mem_of_getElem? (i := 232) rfl), rfl⟩
theorem ld_J6_265 : yWd (.constant RJ6 265 (1431655765)) := wd_545
theorem wd_546 : yWd (.constant RJ6 266 (858993459)) := ⟨lw_in2 _ (List.mem_of_getElem? (i := 233) rfl), rfl⟩
theorem ld_J6_266 : yWd (.constant RJ6 266 (858993459)) := wd_546
theorem wd_547 : yWd (.constant RJ6 267 (252645135)) := ⟨lw_in2 _ (List.mem_of_getElem? (i := 234) rfl), rfl⟩
theorem ld_J6_267 : yWd (.constant RJ6 267 (252645135)) := wd_547
def K_J13_bitCount_95d88 : yK := (yJ13_bitCount_95d88.cls, yJ13_bitCount_95d88.name, cJ13_bitCount_95d88, 2, (some .int), [])
def t_J13_bitCount_95d88 : yT := [(0, .lload_n 0, 1), (1, .lload_n 0, 1), (2, .iconst 1, 1), (3, .lushr, 1), (4, .ldc2_w 314, 3), (7, .land, 1), (8, .lsub, 1), (9, .lstore_n 0, 1), (10, .lload_n 0, 1), (11, .ldc2_w 316, 3), (14, .land, 1), (15, .lload_n 0, 1), (16, .iconst 2, 1), (17, .lushr, 1), (18, .ldc2_w 316, 3), (21, .land, 1), (22, .ladd, 1), (23, .lstore_n 0, 1), (24, .lload_n 0, 1), (25, .lload_n 0, 1), (26, .iconst 4, 1), (27, .lushr, 1), (28, .ladd, 1), (29, .ldc2_w 318, 3), (32, .land, 1), (33, .lstore_n 0, 1), (34, .lload_n 0, 1), (35, .lload_n 0, 1), (36, .bipush 8, 2), (38, .lushr, 1), (39, .ladd, 1), (40, .lstore_n 0, 1), (41, .lload_n 0, 1), (42, .lload_n 0, 1), (43, .bipush 16, 2), (45, .lushr, 1), (46, .ladd, 1), (47, .lstore_n 0, 1), (48, .lload_n 0, 1), (49, .lload_n 0, 1), (50, .bipush 32, 2), (52, .lushr, 1), (53, .ladd, 1), (54, .lstore_n 0, 1), (55, .lload_n 0, 1), (56, .l2i, 1), (57, .bipush 127, 2), (59, .iand, 1), (60, .ireturn, 1)]
theorem tq_J13_bitCount_95d88 : yTok (yK.cc K_J13_bitCount_95d88) t_J13_bitCount_95d88 := (ychk_ok _ _ 0 rfl (by decide +kernel))
theorem wd_640 : yWd (.constantLong RJ13 314 (6148914691236517205)) := ⟨lw_in3 _ (List.mem_of_getElem? (i := 87) rfl), rfl⟩
theorem ld_J13_314 : yWd (.constantLong RJ13 314 (6148914691236517205)) := wd_640
theorem wd_641 : yWd (.constantLong RJ13 316 (3689348814741910323)) := ⟨lw_in3 _ (List.mem_of_getElem? (i := 88) rfl), rfl⟩
theorem ld_J13_316 : yWd (.constantLong RJ13 316 (3689348814741910323)) := wd_641
theorem wd_642 : yWd (.constantLong RJ13 318 (1085102592571150095)) := ⟨lw_in3 _ (List.mem_of_getElem? (i := 89) rfl), rfl⟩
theorem ld_J13_318 : yWd (.constantLong RJ13 318 (1085102592571150095)) := wd_642
def K_J6_signum_0f7a4 : yK := (yJ6_signum_0f7a4.cls, yJ6_signum_0f7a4.name, cJ6_signum_0f7a4, 1, (some .int), [])
def t_J6_signum_0f7a4 : yT := [(0, .iload_n 0, 1), (1, .bipush 31, 2), (3, .ishr, 1), (4, .iload_n 0, 1), (5, .ineg, 1), (6, .bipush 31, 2), (8, .iushr, 1), (9, .ior, 1), (10, .ireturn, 1)]
theorem tq_J6_signum_0f7a4 : yTok (yK.cc K_J6_signum_0f7a4) t_J6_signum_0f7a4 := (ychk_ok _ _ 0 rfl (by decide +kernel))
