/-! ===== facts of more methods ===== -/
def K_J4_init_da8c8 : yK := (yJ4_init_da8c8.cls, yJ4_init_da8c8.name, cJ4_init_da8c8, 1, none, [])
def t_J4_init_da8c8 : yT := [(0, .aload_n 0, 1), (1, .bipush 16, 2), (3, .invokespecial 1, 3), (6, .return_, 1)]
theorem tq_J4_init_da8c8 : yTok (yK.cc K_J4_init_da8c8) t_J4_init_da8c8 := (ychk_ok _ _ 0 rfl (by decide +kernel))
theorem wd_1289 : yWd (.code yJ5_init_d00df cJ5_init_d00df 2 none) := ⟨lw_in6 _ (List.mem_of_getElem? (i := 16) rfl), rfl⟩
theorem wd_1287 : yWd (.methodLink RJ4 1 yJ5_init_d00df) := ⟨lw_in6 _ (List.mem_of_getElem? (i := 14) rfl), rfl⟩
theorem wd_106 : yWd (.initialized RJ5) := ⟨lw_in1 _ (List.mem_of_getElem? (i := 33) rfl), rfl⟩
theorem wd_1288 : yWd (.instanceMethod yJ5_init_d00df) := ⟨lw_in6 _ (List.mem_of_getElem? (i := 15) rfl), rfl⟩
theorem ci_J4_1 : yCI RJ4 1 yJ5_init_d00df cJ5_init_d00df 2 1 := ⟨wd_1289, wd_1287, wd_1288, wd_106, ⟨by decide, by decide, by decide +kernel⟩, rfl, by decide⟩
def K_J5_init_d00df : yK := (yJ5_init_d00df.cls, yJ5_init_d00df.name, cJ5_init_d00df, 2, none, [])
def t_J5_init_d00df : yT := [(0, .aload_n 0, 1), (1, .invokespecial 3, 3), (4, .getstatic 18, 3), (7, .ifCond .eq 18, 3), (10, .aload_n 0, 1), (11, .iload_n 1, 1), (12, .newarray .byte, 2), (14, .putfield 15, 3), (17, .aload_n 0, 1), (18, .iconst 0, 1), (19, .putfield 22, 3), (22, .goto 16, 3), (25, .aload_n 0, 1), (26, .iload_n 1, 1), (27, .invokestatic 26, 3), (30, .putfield 15, 3), (33, .aload_n 0, 1), (34, .iconst 1, 1), (35, .putfield 22, 3), (38, .return_, 1)]
theorem tq_J5_init_d00df : yTok (yK.cc K_J5_init_d00df) t_J5_init_d00df := (ychk_ok _ _ 0 rfl (by decide +kernel))
theorem wd_520 : yWd (.arrayClass .byte) := ⟨lw_in2 _ (List.mem_of_getElem? (i := 207) rfl), rfl⟩
theorem wd_1300 : yWd (.fieldLink RJ5 15 "java/lang/AbstractStringBuilder" "value" "[B") := ⟨lw_in6 _ (List.mem_of_getElem? (i := 27) rfl), rfl⟩
theorem fp_J5_15_J4 : yFP RJ5 15 1 0 (.array (.byte)) := ⟨_, _, _, cl_J4, by decide, rfl, by decide +kernel, wd_1300⟩
theorem wd_1301 : yWd (.fieldLink RJ5 22 "java/lang/AbstractStringBuilder" "coder" "B") := ⟨lw_in6 _ (List.mem_of_getElem? (i := 28) rfl), rfl⟩
theorem fp_J5_22_J4 : yFP RJ5 22 1 1 (.byte) := ⟨_, _, _, cl_J4, by decide, rfl, by decide +kernel, wd_1301⟩
theorem wd_1295 : yWd (.code yJ2_newBytesFor_77867 cJ2_newBytesFor_77867 1 (some (.array .byte))) := ⟨lw_in6 _ (List.mem_of_getElem? (i := 22) rfl), rfl⟩
theorem wd_1293 : yWd (.methodLink RJ5 26 yJ2_newBytesFor_77867) := ⟨lw_in6 _ (List.mem_of_getElem? (i := 20) rfl), rfl⟩
theorem wd_109 : yWd (.initialized RJ2) := ⟨lw_in1 _ (List.mem_of_getElem? (i := 36) rfl), rfl⟩
theorem wd_1294 : yWd (.static yJ2_newBytesFor_77867) := ⟨lw_in6 _ (List.mem_of_getElem? (i := 21) rfl), rfl⟩
theorem cs_J5_26 : yCS RJ5 26 yJ2_newBytesFor_77867 cJ2_newBytesFor_77867 1 (some (.array .byte)) 1 := ⟨wd_1295, wd_1293, wd_1294, wd_109, ⟨by decide, by decide, by decide +kernel⟩, by decide⟩
theorem wd_1291 : yWd (.fieldLink RJ5 18 "java/lang/String" "COMPACT_STRINGS" "Z") := ⟨lw_in6 _ (List.mem_of_getElem? (i := 18) rfl), rfl⟩
theorem gs_J5_18 : yWd (.fieldLink RJ5 18 "java/lang/String" "COMPACT_STRINGS" "Z") := wd_1291
def K_J4_append_cf468 : yK := (yJ4_append_cf468.cls, yJ4_append_cf468.name, cJ4_append_cf468, 2, (some (.object "java/lang/StringBuilder")), [])
def t_J4_append_cf468 : yT := [(0, .aload_n 0, 1), (1, .iload_n 1, 1), (2, .invokespecial 50, 3), (5, .pop, 1), (6, .aload_n 0, 1), (7, .areturn, 1)]
theorem tq_J4_append_cf468 : yTok (yK.cc K_J4_append_cf468) t_J4_append_cf468 := (ychk_ok _ _ 0 rfl (by decide +kernel))
theorem wd_1332 : yWd (.code yJ5_append_3fe6f cJ5_append_3fe6f 2 (some (.object "java/lang/AbstractStringBuilder"))) := ⟨lw_in6 _ (List.mem_of_getElem? (i := 59) rfl), rfl⟩
theorem wd_1330 : yWd (.methodLink RJ4 50 yJ5_append_3fe6f) := ⟨lw_in6 _ (List.mem_of_getElem? (i := 57) rfl), rfl⟩
theorem wd_1331 : yWd (.instanceMethod yJ5_append_3fe6f) := ⟨lw_in6 _ (List.mem_of_getElem? (i := 58) rfl), rfl⟩
def K_J5_append_3fe6f : yK := (yJ5_append_3fe6f.cls, yJ5_append_3fe6f.name, cJ5_append_3fe6f, 2, (some (.object "java/lang/AbstractStringBuilder")), [])
def t_J5_append_3fe6f : yT := [(0, .aload_n 0, 1), (1, .aload_n 0, 1), (2, .getfield 79, 3), (5, .iconst 1, 1), (6, .iadd, 1), (7, .invokevirtual 100, 3), (10, .aload_n 0, 1), (11, .invokevirtual 83, 3), (14, .ifCond .eq 31, 3), (17, .iload_n 1, 1), (18, .invokestatic 191, 3), (21, .ifCond .eq 24, 3), (24, .aload_n 0, 1), (25, .getfield 15, 3), (28, .aload_n 0, 1), (29, .dup, 1), (30, .getfield 79, 3), (33, .dup_x1, 1), (34, .iconst 1, 1), (35, .iadd, 1), (36, .putfield 79, 3), (39, .iload_n 1, 1), (40, .i2b, 1), (41, .bastore, 1), (42, .goto 33, 3), (45, .aload_n 0, 1), (46, .invokevirtual 83, 3), (49, .ifCond .eq 7, 3), (52, .aload_n 0, 1), (53, .invokevirtual 195, 3), (56, .aload_n 0, 1), (57, .getfield 15, 3), (60, .aload_n 0, 1), (61, .dup, 1), (62, .getfield 79, 3), (65, .dup_x1, 1), (66, .iconst 1, 1), (67, .iadd, 1), (68, .putfield 79, 3), (71, .iload_n 1, 1), (72, .invokestatic 197, 3), (75, .aload_n 0, 1), (76, .areturn, 1)]
theorem tq_J5_append_3fe6f : yTok (yK.cc K_J5_append_3fe6f) t_J5_append_3fe6f := (ychk_ok _ _ 0 rfl (by decide +kernel))
theorem wd_1303 : yWd (.fieldLink RJ5 79 "java/lang/AbstractStringBuilder" "count" "I") := ⟨lw_in6 _ (List.mem_of_getElem? (i := 30) rfl), rfl⟩
theorem fg_J5_79_J4 : yFL RJ5 79 1 3 := ⟨_, _, _, cl_J4, by decide, wd_1303⟩
theorem wd_1336 : yWd (.code yJ5_ensureCapacityInternal_d00df cJ5_ensureCapacityInternal_d00df 3 none) := ⟨lw_in6 _ (List.mem_of_getElem? (i := 63) rfl), rfl⟩
theorem wd_1333 : yWd (.methodLink RJ5 100 yJ5_ensureCapacityInternal_d00df) := ⟨lw_in6 _ (List.mem_of_getElem? (i := 60) rfl), rfl⟩
theorem wd_1335 : yWd (.instanceMethod yJ5_ensureCapacityInternal_d00df) := ⟨lw_in6 _ (List.mem_of_getElem? (i := 62) rfl), rfl⟩
theorem wd_1372 : yWd (.code yJ5_isLatin1_aae02 cJ5_isLatin1_aae02 1 (some .boolean)) := ⟨lw_in6 _ (List.mem_of_getElem? (i := 99) rfl), rfl⟩
theorem wd_1368 : yWd (.methodLink RJ5 83 yJ5_isLatin1_aae02) := ⟨lw_in6 _ (List.mem_of_getElem? (i := 95) rfl), rfl⟩
theorem wd_1369 : yWd (.instanceMethod yJ5_isLatin1_aae02) := ⟨lw_in6 _ (List.mem_of_getElem? (i := 96) rfl), rfl⟩
theorem wd_1375 : yWd (.code yJ1_canEncode_fc78d cJ1_canEncode_fc78d 1 (some .boolean)) := ⟨lw_in6 _ (List.mem_of_getElem? (i := 102) rfl), rfl⟩
theorem wd_1373 : yWd (.methodLink RJ5 191 yJ1_canEncode_fc78d) := ⟨lw_in6 _ (List.mem_of_getElem? (i := 100) rfl), rfl⟩
theorem wd_110 : yWd (.initialized RJ1) := ⟨lw_in1 _ (List.mem_of_getElem? (i := 37) rfl), rfl⟩
theorem wd_1374 : yWd (.static yJ1_canEncode_fc78d) := ⟨lw_in6 _ (List.mem_of_getElem? (i := 101) rfl), rfl⟩
theorem cs_J5_191 : yCS RJ5 191 yJ1_canEncode_fc78d cJ1_canEncode_fc78d 1 (some .boolean) 1 := ⟨wd_1375, wd_1373, wd_1374, wd_110, ⟨by decide, by decide, by decide +kernel⟩, by decide⟩
theorem fg_J5_15_J4 : yFL RJ5 15 1 0 := ⟨_, _, _, cl_J4, by decide, wd_1300⟩
theorem fp_J5_79_J4 : yFP RJ5 79 1 3 (.int) := ⟨_, _, _, cl_J4, by decide, rfl, by decide +kernel, wd_1303⟩
theorem wd_1379 : yWd (.code yJ5_inflate_da8c8 cJ5_inflate_da8c8 2 none) := ⟨lw_in6 _ (List.mem_of_getElem? (i := 106) rfl), rfl⟩
theorem wd_1376 : yWd (.methodLink RJ5 195 yJ5_inflate_da8c8) := ⟨lw_in6 _ (List.mem_of_getElem? (i := 103) rfl), rfl⟩
theorem wd_1378 : yWd (.instanceMethod yJ5_inflate_da8c8) := ⟨lw_in6 _ (List.mem_of_getElem? (i := 105) rfl), rfl⟩
theorem wd_1411 : yWd (.code yJ2_putCharSB_b72d1 cJ2_putCharSB_b72d1 3 none) := ⟨lw_in6 _ (List.mem_of_getElem? (i := 138) rfl), rfl⟩
theorem wd_1409 : yWd (.methodLink RJ5 197 yJ2_putCharSB_b72d1) := ⟨lw_in6 _ (List.mem_of_getElem? (i := 136) rfl), rfl⟩
theorem wd_1410 : yWd (.static yJ2_putCharSB_b72d1) := ⟨lw_in6 _ (List.mem_of_getElem? (i := 137) rfl), rfl⟩
theorem cs_J5_197 : yCS RJ5 197 yJ2_putCharSB_b72d1 cJ2_putCharSB_b72d1 3 none 3 := ⟨wd_1411, wd_1409, wd_1410, wd_109, ⟨by decide, by decide, by decide +kernel⟩, by decide⟩
def K_J5_isLatin1_aae02 : yK := (yJ5_isLatin1_aae02.cls, yJ5_isLatin1_aae02.name, cJ5_isLatin1_aae02, 1, (some .boolean), [])
def t_J5_isLatin1_aae02 : yT := [(0, .getstatic 18, 3), (3, .ifCond .eq 14, 3), (6, .aload_n 0, 1), (7, .getfield 22, 3), (10, .ifCond .ne 7, 3), (13, .iconst 1, 1), (14, .goto 4, 3), (17, .iconst 0, 1), (18, .ireturn, 1)]
theorem tq_J5_isLatin1_aae02 : yTok (yK.cc K_J5_isLatin1_aae02) t_J5_isLatin1_aae02 := (ychk_ok _ _ 0 rfl (by decide +kernel))
theorem fg_J5_22_J4 : yFL RJ5 22 1 1 := ⟨_, _, _, cl_J4, by decide, wd_1301⟩
def K_J1_canEncode_fc78d : yK := (yJ1_canEncode_fc78d.cls, yJ1_canEncode_fc78d.name, cJ1_canEncode_fc78d, 1, (some .boolean), [])
def t_J1_canEncode_fc78d : yT := [(0, .iload_n 0, 1), (1, .sipush 255, 3), (4, .if_icmp .gt 7, 3), (7, .iconst 1, 1), (8, .goto 4, 3), (11, .iconst 0, 1), (12, .ireturn, 1)]
theorem tq_J1_canEncode_fc78d : yTok (yK.cc K_J1_canEncode_fc78d) t_J1_canEncode_fc78d := (ychk_ok _ _ 0 rfl (by decide +kernel))
def K_J5_ensureCapacityInternal_d00df : yK := (yJ5_ensureCapacityInternal_d00df.cls, yJ5_ensureCapacityInternal_d00df.name, cJ5_ensureCapacityInternal_d00df, 3, none, [])
def t_J5_ensureCapacityInternal_d00df : yT := [(0, .aload_n 0, 1), (1, .getfield 15, 3), (4, .arraylength, 1), (5, .aload_n 0, 1), (6, .getfield 22, 3), (9, .ishr, 1), (10, .istore_n 2, 1), (11, .iload_n 1, 1), (12, .iload_n 2, 1), (13, .isub, 1), (14, .ifCond .le 24, 3), (17, .aload_n 0, 1), (18, .aload_n 0, 1), (19, .getfield 15, 3), (22, .aload_n 0, 1), (23, .iload_n 1, 1), (24, .invokevirtual 104, 3), (27, .aload_n 0, 1), (28, .getfield 22, 3), (31, .ishl, 1), (32, .invokestatic 108, 3), (35, .putfield 15, 3), (38, .return_, 1)]
theorem tq_J5_ensureCapacityInternal_d00df : yTok (yK.cc K_J5_ensureCapacityInternal_d00df) t_J5_ensureCapacityInternal_d00df := (ychk_ok _ _ 0 rfl (by decide +kernel))
theorem wd_1340 : yWd (.code yJ5_newCapacity_0f7a4 cJ5_newCapacity_0f7a4 6 (some .int)) := ⟨lw_in6 _ (List.mem_of_getElem? (i := 67) rfl), rfl⟩
theorem wd_1337 : yWd (.methodLink RJ5 104 yJ5_newCapacity_0f7a4) := ⟨lw_in6 _ (List.mem_of_getElem? (i := 64) rfl), rfl⟩
theorem wd_1339 : yWd (.instanceMethod yJ5_newCapacity_0f7a4) := ⟨lw_in6 _ (List.mem_of_getElem? (i := 66) rfl), rfl⟩
theorem wd_1354 : yWd (.code yJ7_copyOf_9075b cJ7_copyOf_9075b 3 (some (.array .byte))) := ⟨lw_in6 _ (List.mem_of_getElem? (i := 81) rfl), rfl⟩
theorem wd_1352 : yWd (.methodLink RJ5 108 yJ7_copyOf_9075b) := ⟨lw_in6 _ (List.mem_of_getElem? (i := 79) rfl), rfl⟩
theorem wd_1353 : yWd (.static yJ7_copyOf_9075b) := ⟨lw_in6 _ (List.mem_of_getElem? (i := 80) rfl), rfl⟩
theorem cs_J5_108 : yCS RJ5 108 yJ7_copyOf_9075b cJ7_copyOf_9075b 3 (some (.array .byte)) 2 := ⟨wd_1354, wd_1352, wd_1353, wd_100, ⟨by decide, by decide, by decide +kernel⟩, by decide⟩
def K_J4_append_15ec4 : yK := (yJ4_append_15ec4.cls, yJ4_append_15ec4.name, cJ4_append_15ec4, 2, (some (.object "java/lang/StringBuilder")), [])
def t_J4_append_15ec4 : yT := [(0, .aload_n 0, 1), (1, .aload_n 1, 1), (2, .invokespecial 29, 3), (5, .pop, 1), (6, .aload_n 0, 1), (7, .areturn, 1)]
theorem tq_J4_append_15ec4 : yTok (yK.cc K_J4_append_15ec4) t_J4_append_15ec4 := (ychk_ok _ _ 0 rfl (by decide +kernel))
theorem wd_1501 : yWd (.code yJ5_append_cf1ce cJ5_append_cf1ce 3 (some (.object "java/lang/AbstractStringBuilder"))) := ⟨lw_in6 _ (List.mem_of_getElem? (i := 228) rfl), rfl⟩
theorem wd_1499 : yWd (.methodLink RJ4 29 yJ5_append_cf1ce) := ⟨lw_in6 _ (List.mem_of_getElem? (i := 226) rfl), rfl⟩
theorem wd_1500 : yWd (.instanceMethod yJ5_append_cf1ce) := ⟨lw_in6 _ (List.mem_of_getElem? (i := 227) rfl), rfl⟩
def K_J5_append_cf1ce : yK := (yJ5_append_cf1ce.cls, yJ5_append_cf1ce.name, cJ5_append_cf1ce, 3, (some (.object "java/lang/AbstractStringBuilder")), [])
def t_J5_append_cf1ce : yT := [(0, .aload_n 1, 1), (1, .ifnonnull 8, 3), (4, .aload_n 0, 1), (5, .invokevirtual 204, 3), (8, .areturn, 1), (9, .aload_n 1, 1), (10, .invokevirtual 32, 3), (13, .istore_n 2, 1), (14, .aload_n 0, 1), (15, .aload_n 0, 1), (16, .getfield 79, 3), (19, .iload_n 2, 1), (20, .iadd, 1), (21, .invokevirtual 100, 3), (24, .aload_n 0, 1), (25, .aload_n 0, 1), (26, .getfield 79, 3), (29, .aload_n 1, 1), (30, .invokevirtual 208, 3), (33, .aload_n 0, 1), (34, .dup, 1), (35, .getfield 79, 3), (38, .iload_n 2, 1), (39, .iadd, 1), (40, .putfield 79, 3), (43, .aload_n 0, 1), (44, .areturn, 1)]
theorem tq_J5_append_cf1ce : yTok (yK.cc K_J5_append_cf1ce) t_J5_append_cf1ce := (ychk_ok _ _ 0 rfl (by decide +kernel))
theorem wd_1505 : yWd (.code yJ5_appendNull_278bc cJ5_appendNull_278bc 3 (some (.object "java/lang/AbstractStringBuilder"))) := ⟨lw_in6 _ (List.mem_of_getElem? (i := 232) rfl), rfl⟩
theorem wd_1502 : yWd (.methodLink RJ5 204 yJ5_appendNull_278bc) := ⟨lw_in6 _ (List.mem_of_getElem? (i := 229) rfl), rfl⟩
theorem wd_1504 : yWd (.instanceMethod yJ5_appendNull_278bc) := ⟨lw_in6 _ (List.mem_of_getElem? (i := 231) rfl), rfl⟩
theorem wd_1512 : yWd (.code yJ0_length_8abf5 cJ0_length_8abf5 1 (some .int)) := ⟨lw_in6 _ (List.mem_of_getElem? (i := 239) rfl), rfl⟩
theorem wd_1509 : yWd (.methodLink RJ5 32 yJ0_length_8abf5) := ⟨lw_in6 _ (List.mem_of_getElem? (i := 236) rfl), rfl⟩
theorem wd_108 : yWd (.initialized RJ0) := ⟨lw_in1 _ (List.mem_of_getElem? (i := 35) rfl), rfl⟩
theorem wd_1510 : yWd (.instanceMethod yJ0_length_8abf5) := ⟨lw_in6 _ (List.mem_of_getElem? (i := 237) rfl), rfl⟩
theorem wd_1511 : yWd (.selects RJ0 yJ0_length_8abf5 yJ0_length_8abf5) := ⟨lw_in6 _ (List.mem_of_getElem? (i := 238) rfl), rfl⟩
theorem cv_J5_32 : yCV RJ5 32 0 yJ0_length_8abf5 cJ0_length_8abf5 1 (some .int) 0 := ⟨_, _, _, cl_J0, wd_1512, wd_1509, wd_1510, wd_1511, wd_108, ⟨by decide, by decide, by decide +kernel⟩, by decide⟩
theorem wd_1521 : yWd (.code yJ5_putStringAt_47b60 cJ5_putStringAt_47b60 3 none) := ⟨lw_in7 _ (List.mem_of_getElem? (i := 8) rfl), rfl⟩
theorem wd_1518 : yWd (.methodLink RJ5 208 yJ5_putStringAt_47b60) := ⟨lw_in7 _ (List.mem_of_getElem? (i := 5) rfl), rfl⟩
theorem wd_1520 : yWd (.instanceMethod yJ5_putStringAt_47b60) := ⟨lw_in7 _ (List.mem_of_getElem? (i := 7) rfl), rfl⟩
def K_J5_inflateIfNeededFor_a7421 : yK := (yJ5_inflateIfNeededFor_a7421.cls, yJ5_inflateIfNeededFor_a7421.name, cJ5_inflateIfNeededFor_a7421, 2, none, [])
def t_J5_inflateIfNeededFor_a7421 : yT := [(0, .getstatic 18, 3), (3, .ifCond .eq 18, 3), (6, .aload_n 0, 1), (7, .getfield 22, 3), (10, .aload_n 1, 1), (11, .invokevirtual 40, 3), (14, .if_icmp .eq 7, 3), (17, .aload_n 0, 1), (18, .invokevirtual 195, 3), (21, .return_, 1)]
theorem tq_J5_inflateIfNeededFor_a7421 : yTok (yK.cc K_J5_inflateIfNeededFor_a7421) t_J5_inflateIfNeededFor_a7421 := (ychk_ok _ _ 0 rfl (by decide +kernel))
theorem wd_1516 : yWd (.code yJ0_coder_7d493 cJ0_coder_7d493 1 (some .byte)) := ⟨lw_in7 _ (List.mem_of_getElem? (i := 3) rfl), rfl⟩
theorem wd_1526 : yWd (.methodLink RJ5 40 yJ0_coder_7d493) := ⟨lw_in7 _ (List.mem_of_getElem? (i := 13) rfl), rfl⟩
theorem wd_1514 : yWd (.instanceMethod yJ0_coder_7d493) := ⟨lw_in7 _ (List.mem_of_getElem? (i := 1) rfl), rfl⟩
theorem wd_1515 : yWd (.selects RJ0 yJ0_coder_7d493 yJ0_coder_7d493) := ⟨lw_in7 _ (List.mem_of_getElem? (i := 2) rfl), rfl⟩
theorem cv_J5_40 : yCV RJ5 40 0 yJ0_coder_7d493 cJ0_coder_7d493 1 (some .byte) 0 := ⟨_, _, _, cl_J0, wd_1516, wd_1526, wd_1514, wd_1515, wd_108, ⟨by decide, by decide, by decide +kernel⟩, by decide⟩
def K_J5_putStringAt_47b60 : yK := (yJ5_putStringAt_47b60.cls, yJ5_putStringAt_47b60.name, cJ5_putStringAt_47b60, 3, none, [])
def t_J5_putStringAt_47b60 : yT := [(0, .aload_n 0, 1), (1, .aload_n 2, 1), (2, .invokevirtual 397, 3), (5, .aload_n 2, 1), (6, .aload_n 0, 1), (7, .getfield 15, 3), (10, .iload_n 1, 1), (11, .aload_n 0, 1), (12, .getfield 22, 3), (15, .invokevirtual 399, 3), (18, .return_, 1)]
theorem tq_J5_putStringAt_47b60 : yTok (yK.cc K_J5_putStringAt_47b60) t_J5_putStringAt_47b60 := (ychk_ok _ _ 0 rfl (by decide +kernel))
theorem wd_1525 : yWd (.code yJ5_inflateIfNeededFor_a7421 cJ5_inflateIfNeededFor_a7421 2 none) := ⟨lw_in7 _ (List.mem_of_getElem? (i := 12) rfl), rfl⟩
theorem wd_1522 : yWd (.methodLink RJ5 397 yJ5_inflateIfNeededFor_a7421) := ⟨lw_in7 _ (List.mem_of_getElem? (i := 9) rfl), rfl⟩
theorem wd_1524 : yWd (.instanceMethod yJ5_inflateIfNeededFor_a7421) := ⟨lw_in7 _ (List.mem_of_getElem? (i := 11) rfl), rfl⟩
theorem wd_1530 : yWd (.code yJ0_getBytes_840e7 cJ0_getBytes_840e7 4 none) := ⟨lw_in7 _ (List.mem_of_getElem? (i := 17) rfl), rfl⟩
theorem wd_1527 : yWd (.methodLink RJ5 399 yJ0_getBytes_840e7) := ⟨lw_in7 _ (List.mem_of_getElem? (i := 14) rfl), rfl⟩
theorem wd_1528 : yWd (.instanceMethod yJ0_getBytes_840e7) := ⟨lw_in7 _ (List.mem_of_getElem? (i := 15) rfl), rfl⟩
theorem wd_1529 : yWd (.selects RJ0 yJ0_getBytes_840e7 yJ0_getBytes_840e7) := ⟨lw_in7 _ (List.mem_of_getElem? (i := 16) rfl), rfl⟩
theorem cv_J5_399 : yCV RJ5 399 0 yJ0_getBytes_840e7 cJ0_getBytes_840e7 4 none 3 := ⟨_, _, _, cl_J0, wd_1530, wd_1527, wd_1528, wd_1529, wd_108, ⟨by decide, by decide, by decide +kernel⟩, by decide⟩
def K_J0_getBytes_840e7 : yK := (yJ0_getBytes_840e7.cls, yJ0_getBytes_840e7.name, cJ0_getBytes_840e7, 4, none, [])
def t_J0_getBytes_840e7 : yT := [(0, .aload_n 0, 1), (1, .invokevirtual 335, 3), (4, .iload_n 3, 1), (5, .if_icmp .ne 23, 3), (8, .aload_n 0, 1), (9, .getfield 9, 3), (12, .iconst 0, 1), (13, .aload_n 1, 1), (14, .iload_n 2, 1), (15, .iload_n 3, 1), (16, .ishl, 1), (17, .aload_n 0, 1), (18, .getfield 9, 3), (21, .arraylength, 1), (22, .invokestatic 212, 3), (25, .goto 18, 3), (28, .aload_n 0, 1), (29, .getfield 9, 3), (32, .iconst 0, 1), (33, .aload_n 1, 1), (34, .iload_n 2, 1), (35, .aload_n 0, 1), (36, .getfield 9, 3), (39, .arraylength, 1), (40, .invokestatic 106, 3), (43, .return_, 1)]
theorem tq_J0_getBytes_840e7 : yTok (yK.cc K_J0_getBytes_840e7) t_J0_getBytes_840e7 := (ychk_ok _ _ 0 rfl (by decide +kernel))
theorem wd_1513 : yWd (.methodLink RJ0 335 yJ0_coder_7d493) := ⟨lw_in7 _ (List.mem_of_getElem? (i := 0) rfl), rfl⟩
theorem cv_J0_335 : yCV RJ0 335 0 yJ0_coder_7d493 cJ0_coder_7d493 1 (some .byte) 0 := ⟨_, _, _, cl_J0, wd_1516, wd_1513, wd_1514, wd_1515, wd_108, ⟨by decide, by decide, by decide +kernel⟩, by decide⟩
theorem wd_1548 : yWd (.fieldLink RJ0 9 "java/lang/String" "value" "[B") := ⟨lw_in7 _ (List.mem_of_getElem? (i := 35) rfl), rfl⟩
theorem fg_J0_9_J0 : yFL RJ0 9 0 0 := ⟨_, _, _, cl_J0, by decide, wd_1548⟩
theorem wd_1382 : yWd (.code yJ1_inflate_0e8fd cJ1_inflate_0e8fd 5 none) := ⟨lw_in6 _ (List.mem_of_getElem? (i := 109) rfl), rfl⟩
theorem wd_1532 : yWd (.methodLink RJ0 106 yJ1_inflate_0e8fd) := ⟨lw_in7 _ (List.mem_of_getElem? (i := 19) rfl), rfl⟩
theorem wd_1381 : yWd (.static yJ1_inflate_0e8fd) := ⟨lw_in6 _ (List.mem_of_getElem? (i := 108) rfl), rfl⟩
theorem cs_J0_106 : yCS RJ0 106 yJ1_inflate_0e8fd cJ1_inflate_0e8fd 5 none 5 := ⟨wd_1382, wd_1532, wd_1381, wd_110, ⟨by decide, by decide, by decide +kernel⟩, by decide⟩
def K_J0_coder_7d493 : yK := (yJ0_coder_7d493.cls, yJ0_coder_7d493.name, cJ0_coder_7d493, 1, (some .byte), [])
def t_J0_coder_7d493 : yT := [(0, .getstatic 38, 3), (3, .ifCond .eq 10, 3), (6, .aload_n 0, 1), (7, .getfield 15, 3), (10, .goto 4, 3), (13, .iconst 1, 1), (14, .ireturn, 1)]
theorem tq_J0_coder_7d493 : yTok (yK.cc K_J0_coder_7d493) t_J0_coder_7d493 := (ychk_ok _ _ 0 rfl (by decide +kernel))
theorem wd_1549 : yWd (.fieldLink RJ0 15 "java/lang/String" "coder" "B") := ⟨lw_in7 _ (List.mem_of_getElem? (i := 36) rfl), rfl⟩
theorem fg_J0_15_J0 : yFL RJ0 15 0 1 := ⟨_, _, _, cl_J0, by decide, wd_1549⟩
theorem wd_1517 : yWd (.fieldLink RJ0 38 "java/lang/String" "COMPACT_STRINGS" "Z") := ⟨lw_in7 _ (List.mem_of_getElem? (i := 4) rfl), rfl⟩
theorem gs_J0_38 : yWd (.fieldLink RJ0 38 "java/lang/String" "COMPACT_STRINGS" "Z") := wd_1517
def K_J0_length_8abf5 : yK := (yJ0_length_8abf5.cls, yJ0_length_8abf5.name, cJ0_length_8abf5, 1, (some .int), [])
def t_J0_length_8abf5 : yT := [(0, .aload_n 0, 1), (1, .getfield 9, 3), (4, .arraylength, 1), (5, .aload_n 0, 1), (6, .invokevirtual 335, 3), (9, .ishr, 1), (10, .ireturn, 1)]
theorem tq_J0_length_8abf5 : yTok (yK.cc K_J0_length_8abf5) t_J0_length_8abf5 := (ychk_ok _ _ 0 rfl (by decide +kernel))
def K_J4_append_bf812 : yK := (yJ4_append_bf812.cls, yJ4_append_bf812.name, cJ4_append_bf812, 2, (some (.object "java/lang/StringBuilder")), [])
def t_J4_append_bf812 : yT := [(0, .aload_n 0, 1), (1, .iload_n 1, 1), (2, .invokespecial 53, 3), (5, .pop, 1), (6, .aload_n 0, 1), (7, .areturn, 1)]
theorem tq_J4_append_bf812 : yTok (yK.cc K_J4_append_bf812) t_J4_append_bf812 := (ychk_ok _ _ 0 rfl (by decide +kernel))
theorem wd_1466 : yWd (.code yJ5_append_c97b9 cJ5_append_c97b9 4 (some (.object "java/lang/AbstractStringBuilder"))) := ⟨lw_in6 _ (List.mem_of_getElem? (i := 193) rfl), rfl⟩
theorem wd_1464 : yWd (.methodLink RJ4 53 yJ5_append_c97b9) := ⟨lw_in6 _ (List.mem_of_getElem? (i := 191) rfl), rfl⟩
theorem wd_1465 : yWd (.instanceMethod yJ5_append_c97b9) := ⟨lw_in6 _ (List.mem_of_getElem? (i := 192) rfl), rfl⟩
def K_J5_append_c97b9 : yK := (yJ5_append_c97b9.cls, yJ5_append_c97b9.name, cJ5_append_c97b9, 4, (some (.object "java/lang/AbstractStringBuilder")), [])
def t_J5_append_c97b9 : yT := [(0, .aload_n 0, 1), (1, .getfield 79, 3), (4, .istore_n 2, 1), (5, .iload_n 2, 1), (6, .iload_n 1, 1), (7, .invokestatic 245, 3), (10, .iadd, 1), (11, .istore_n 3, 1), (12, .aload_n 0, 1), (13, .iload_n 3, 1), (14, .invokevirtual 100, 3), (17, .aload_n 0, 1), (18, .invokevirtual 83, 3), (21, .ifCond .eq 16, 3), (24, .iload_n 1, 1), (25, .iload_n 3, 1), (26, .aload_n 0, 1), (27, .getfield 15, 3), (30, .invokestatic 248, 3), (33, .pop, 1), (34, .goto 14, 3), (37, .iload_n 1, 1), (38, .iload_n 2, 1), (39, .iload_n 3, 1), (40, .aload_n 0, 1), (41, .getfield 15, 3), (44, .invokestatic 251, 3), (47, .pop, 1), (48, .aload_n 0, 1), (49, .iload_n 3, 1), (50, .putfield 79, 3), (53, .aload_n 0, 1), (54, .areturn, 1)]
theorem tq_J5_append_c97b9 : yTok (yK.cc K_J5_append_c97b9) t_J5_append_c97b9 := (ychk_ok _ _ 0 rfl (by decide +kernel))
theorem wd_1469 : yWd (.code yJ6_stringSize_0f7a4 cJ6_stringSize_0f7a4 4 (some .int)) := ⟨lw_in6 _ (List.mem_of_getElem? (i := 196) rfl), rfl⟩
theorem wd_1467 : yWd (.methodLink RJ5 245 yJ6_stringSize_0f7a4) := ⟨lw_in6 _ (List.mem_of_getElem? (i := 194) rfl), rfl⟩
theorem wd_1468 : yWd (.static yJ6_stringSize_0f7a4) := ⟨lw_in6 _ (List.mem_of_getElem? (i := 195) rfl), rfl⟩
theorem cs_J5_245 : yCS RJ5 245 yJ6_stringSize_0f7a4 cJ6_stringSize_0f7a4 4 (some .int) 1 := ⟨wd_1469, wd_1467, wd_1468, wd_102, ⟨by decide, by decide, by decide +kernel⟩, by decide⟩
theorem wd_1472 : yWd (.code yJ6_getChars_ba4f3 cJ6_getChars_ba4f3 7 (some .int)) := ⟨lw_in6 _ (List.mem_of_getElem? (i := 199) rfl), rfl⟩
theorem wd_1470 : yWd (.methodLink RJ5 248 yJ6_getChars_ba4f3) := ⟨lw_in6 _ (List.mem_of_getElem? (i := 197) rfl), rfl⟩
theorem wd_1471 : yWd (.static yJ6_getChars_ba4f3) := ⟨lw_in6 _ (List.mem_of_getElem? (i := 198) rfl), rfl⟩
theorem cs_J5_248 : yCS RJ5 248 yJ6_getChars_ba4f3 cJ6_getChars_ba4f3 7 (some .int) 3 := ⟨wd_1472, wd_1470, wd_1471, wd_102, ⟨by decide, by decide, by decide +kernel⟩, by decide⟩
theorem wd_1479 : yWd (.code yJ2_getChars_46870 cJ2_getChars_46870 5 (some .int)) := ⟨lw_in6 _ (List.mem_of_getElem? (i := 206) rfl), rfl⟩
theorem wd_1477 : yWd (.methodLink RJ5 251 yJ2_getChars_46870) := ⟨lw_in6 _ (List.mem_of_getElem? (i := 204) rfl), rfl⟩
theorem wd_1478 : yWd (.static yJ2_getChars_46870) := ⟨lw_in6 _ (List.mem_of_getElem? (i := 205) rfl), rfl⟩
theorem cs_J5_251 : yCS RJ5 251 yJ2_getChars_46870 cJ2_getChars_46870 5 (some .int) 4 := ⟨wd_1479, wd_1477, wd_1478, wd_109, ⟨by decide, by decide, by decide +kernel⟩, by decide⟩
def K_J6_stringSize_0f7a4 : yK := (yJ6_stringSize_0f7a4.cls, yJ6_stringSize_0f7a4.name, cJ6_stringSize_0f7a4, 4, (some .int), [])
def t_J6_stringSize_0f7a4 : yT := [(0, .iconst 1, 1), (1, .istore_n 1, 1), (2, .iload_n 0, 1), (3, .ifCond .lt 8, 3), (6, .iconst 0, 1), (7, .istore_n 1, 1), (8, .iload_n 0, 1), (9, .ineg, 1), (10, .istore_n 0, 1), (11, .bipush (-10), 2), (13, .istore_n 2, 1), (14, .iconst 1, 1), (15, .istore_n 3, 1), (16, .iload_n 3, 1), (17, .bipush 10, 2), (19, .if_icmp .ge 23, 3), (22, .iload_n 0, 1), (23, .iload_n 2, 1), (24, .if_icmp .le 7, 3), (27, .iload_n 3, 1), (28, .iload_n 1, 1), (29, .iadd, 1), (30, .ireturn, 1), (31, .bipush 10, 2), (33, .iload_n 2, 1), (34, .imul, 1), (35, .istore_n 2, 1), (36, .iinc 3 1, 3), (39, .goto (-23), 3), (42, .bipush 10, 2), (44, .iload_n 1, 1), (45, .iadd, 1), (46, .ireturn, 1)]
theorem tq_J6_stringSize_0f7a4 : yTok (yK.cc K_J6_stringSize_0f7a4) t_J6_stringSize_0f7a4 := (ychk_ok _ _ 0 rfl (by decide +kernel))
def K_J6_getChars_ba4f3 : yK := (yJ6_getChars_ba4f3.cls, yJ6_getChars_ba4f3.name, cJ6_getChars_ba4f3, 7, (some .int), [])
def t_J6_getChars_ba4f3 : yT := [(0, .iload_n 1, 1), (1, .istore 5, 2), (3, .iload_n 0, 1), (4, .ifCond .ge 7, 3), (7, .iconst 1, 1), (8, .goto 4, 3), (11, .iconst 0, 1), (12, .istore 6, 2), (14, .iload 6, 2), (16, .ifCond .ne 6, 3), (19, .iload_n 0, 1), (20, .ineg, 1), (21, .istore_n 0, 1), (22, .iload_n 0, 1), (23, .bipush (-100), 2), (25, .if_icmp .gt 47, 3), (28, .iload_n 0, 1), (29, .bipush 100, 2), (31, .idiv, 1), (32, .istore_n 3, 1), (33, .iload_n 3, 1), (34, .bipush 100, 2), (36, .imul, 1), (37, .iload_n 0, 1), (38, .isub, 1), (39, .istore 4, 2), (41, .iload_n 3, 1), (42, .istore_n 0, 1), (43, .aload_n 2, 1), (44, .iinc 5 (-1), 3), (47, .iload 5, 2), (49, .getstatic 83, 3), (52, .iload 4, 2), (54, .baload, 1), (55, .bastore, 1), (56, .aload_n 2, 1), (57, .iinc 5 (-1), 3), (60, .iload 5, 2), (62, .getstatic 87, 3), (65, .iload 4, 2), (67, .baload, 1), (68, .bastore, 1), (69, .goto (-47), 3), (72, .aload_n 2, 1), (73, .iinc 5 (-1), 3), (76, .iload 5, 2), (78, .getstatic 83, 3), (81, .iload_n 0, 1), (82, .ineg, 1), (83, .baload, 1), (84, .bastore, 1), (85, .iload_n 0, 1), (86, .bipush (-9), 2), (88, .if_icmp .ge 16, 3), (91, .aload_n 2, 1), (92, .iinc 5 (-1), 3), (95, .iload 5, 2), (97, .getstatic 87, 3), (100, .iload_n 0, 1), (101, .ineg, 1), (102, .baload, 1), (103, .bastore, 1), (104, .iload 6, 2), (106, .ifCond .eq 12, 3), (109, .aload_n 2, 1), (110, .iinc 5 (-1), 3), (113, .iload 5, 2), (115, .bipush 45, 2), (117, .bastore, 1), (118, .iload 5, 2), (120, .ireturn, 1)]
theorem tq_J6_getChars_ba4f3 : yTok (yK.cc K_J6_getChars_ba4f3) t_J6_getChars_ba4f3 := (ychk_ok _ _ 0 rfl (by decide +kernel))
theorem wd_1473 : yWd (.fieldLink RJ6 83 "java/lang/Integer" "DigitOnes" "[B") := ⟨lw_in6 _ (List.mem_of_getElem? (i := 200) rfl), rfl⟩
theorem gs_J6_83 : yWd (.fieldLink RJ6 83 "java/lang/Integer" "DigitOnes" "[B") := wd_1473
theorem wd_1475 : yWd (.fieldLink RJ6 87 "java/lang/Integer" "DigitTens" "[B") := ⟨lw_in6 _ (List.mem_of_getElem? (i := 202) rfl), rfl⟩
theorem gs_J6_87 : yWd (.fieldLink RJ6 87 "java/lang/Integer" "DigitTens" "[B") := wd_1475
def K_J4_toString_0e30d : yK := (yJ4_toString_0e30d.cls, yJ4_toString_0e30d.name, cJ4_toString_0e30d, 1, (some (.object "java/lang/String")), [])
def t_J4_toString_0e30d : yT := [(0, .new 18, 3), (3, .dup, 1), (4, .aload_n 0, 1), (5, .invokespecial 137, 3), (8, .areturn, 1)]
theorem tq_J4_toString_0e30d : yTok (yK.cc K_J4_toString_0e30d) t_J4_toString_0e30d := (ychk_ok _ _ 0 rfl (by decide +kernel))
theorem wd_1425 : yWd (.classLink RJ4 18 RJ0) := ⟨lw_in6 _ (List.mem_of_getElem? (i := 152) rfl), rfl⟩
theorem wd_1426 : yWd (.instantiable RJ0 4) := ⟨lw_in6 _ (List.mem_of_getElem? (i := 153) rfl), rfl⟩
theorem nw_J4_18 : yNW RJ4 18 0 4 [.null, .int 0, .int 0, .int 0] := by
  refine ⟨_, _, cl_J0, ?_, wd_1425, wd_1426, wd_108⟩
  intro ty hty j hj
  match j, hj with
  | 0, h => have e := Option.some.inj ((hty 0 h).symm.trans (tyJ0_ok 0 h)); rw [e]; rfl
  | 1, h => have e := Option.some.inj ((hty 1 h).symm.trans (tyJ0_ok 1 h)); rw [e]; rfl
  | 2, h => have e := Option.some.inj ((hty 2 h).symm.trans (tyJ0_ok 2 h)); rw [e]; rfl
  | 3, h => have e := Option.some.inj ((hty 3 h).symm.trans (tyJ0_ok 3 h)); rw [e]; rfl
  | j + 4, h => exact absurd h (by omega)
theorem wd_1429 : yWd (.code yJ0_init_81219 cJ0_init_81219 2 none) := ⟨lw_in6 _ (List.mem_of_getElem? (i := 156) rfl), rfl⟩
theorem wd_1427 : yWd (.methodLink RJ4 137 yJ0_init_81219) := ⟨lw_in6 _ (List.mem_of_getElem? (i := 154) rfl), rfl⟩
theorem wd_1428 : yWd (.instanceMethod yJ0_init_81219) := ⟨lw_in6 _ (List.mem_of_getElem? (i := 155) rfl), rfl⟩
theorem ci_J4_137 : yCI RJ4 137 yJ0_init_81219 cJ0_init_81219 2 1 := ⟨wd_1429, wd_1427, wd_1428, wd_108, ⟨by decide, by decide, by decide +kernel⟩, rfl, by decide⟩
def K_J0_init_81219 : yK := (yJ0_init_81219.cls, yJ0_init_81219.name, cJ0_init_81219, 2, none, [])
def t_J0_init_81219 : yT := [(0, .aload_n 0, 1), (1, .aload_n 1, 1), (2, .aconst_null, 1), (3, .invokespecial 489, 3), (6, .return_, 1)]
theorem tq_J0_init_81219 : yTok (yK.cc K_J0_init_81219) t_J0_init_81219 := (ychk_ok _ _ 0 rfl (by decide +kernel))
theorem wd_1432 : yWd (.code yJ0_init_db425 cJ0_init_db425 5 none) := ⟨lw_in6 _ (List.mem_of_getElem? (i := 159) rfl), rfl⟩
theorem wd_1430 : yWd (.methodLink RJ0 489 yJ0_init_db425) := ⟨lw_in6 _ (List.mem_of_getElem? (i := 157) rfl), rfl⟩
theorem wd_1431 : yWd (.instanceMethod yJ0_init_db425) := ⟨lw_in6 _ (List.mem_of_getElem? (i := 158) rfl), rfl⟩
theorem ci_J0_489 : yCI RJ0 489 yJ0_init_db425 cJ0_init_db425 5 2 := ⟨wd_1432, wd_1430, wd_1431, wd_108, ⟨by decide, by decide, by decide +kernel⟩, rfl, by decide⟩
def K_J0_init_db425 : yK := (yJ0_init_db425.cls, yJ0_init_db425.name, cJ0_init_db425, 5, none, [])
def t_J0_init_db425 : yT := [(0, .aload_n 0, 1), (1, .invokespecial 1, 3), (4, .aload_n 1, 1), (5, .invokevirtual 552, 3), (8, .astore_n 3, 1), (9, .aload_n 1, 1), (10, .invokevirtual 549, 3), (13, .istore 4, 2), (15, .aload_n 1, 1), (16, .invokevirtual 1047, 3), (19, .ifCond .eq 22, 3), (22, .aload_n 0, 1), (23, .iconst 0, 1), (24, .putfield 15, 3), (27, .aload_n 0, 1), (28, .aload_n 3, 1), (29, .iconst 0, 1), (30, .iload 4, 2), (32, .invokestatic 54, 3), (35, .putfield 9, 3), (38, .goto 59, 3), (41, .getstatic 38, 3), (44, .ifCond .eq 35, 3), (47, .aload_n 1, 1), (48, .getfield 1048, 3), (51, .ifCond .eq 28, 3), (54, .aload_n 0, 1), (55, .aload_n 3, 1), (56, .iconst 0, 1), (57, .iload 4, 2), (59, .invokestatic 1051, 3), (62, .putfield 9, 3), (65, .aload_n 0, 1), (66, .aload_n 0, 1), (67, .getfield 9, 3), (70, .iload 4, 2), (72, .invokestatic 47, 3), (75, .putfield 15, 3), (78, .return_, 1), (79, .aload_n 0, 1), (80, .iconst 1, 1), (81, .putfield 15, 3), (84, .aload_n 0, 1), (85, .aload_n 3, 1), (86, .iconst 0, 1), (87, .iload 4, 2), (89, .iconst 1, 1), (90, .ishl, 1), (91, .invokestatic 54, 3), (94, .putfield 9, 3), (97, .return_, 1)]
theorem tq_J0_init_db425 : yTok (yK.cc K_J0_init_db425) t_J0_init_db425 := (ychk_ok _ _ 0 rfl (by decide +kernel))
theorem wd_1438 : yWd (.code yJ5_getValue_6d5f1 cJ5_getValue_6d5f1 1 (some (.array .byte))) := ⟨lw_in6 _ (List.mem_of_getElem? (i := 165) rfl), rfl⟩
theorem wd_1434 : yWd (.methodLink RJ0 552 yJ5_getValue_6d5f1) := ⟨lw_in6 _ (List.mem_of_getElem? (i := 161) rfl), rfl⟩
theorem wd_1435 : yWd (.instanceMethod yJ5_getValue_6d5f1) := ⟨lw_in6 _ (List.mem_of_getElem? (i := 162) rfl), rfl⟩
theorem wd_1446 : yWd (.code yJ5_length_8abf5 cJ5_length_8abf5 1 (some .int)) := ⟨lw_in6 _ (List.mem_of_getElem? (i := 173) rfl), rfl⟩
theorem wd_1439 : yWd (.methodLink RJ0 549 yJ5_length_8abf5) := ⟨lw_in6 _ (List.mem_of_getElem? (i := 166) rfl), rfl⟩
theorem wd_1440 : yWd (.instanceMethod yJ5_length_8abf5) := ⟨lw_in6 _ (List.mem_of_getElem? (i := 167) rfl), rfl⟩
theorem wd_1447 : yWd (.methodLink RJ0 1047 yJ5_isLatin1_aae02) := ⟨lw_in6 _ (List.mem_of_getElem? (i := 174) rfl), rfl⟩
theorem fp_J0_15_J0 : yFF RJ0 15 0 1 (.byte) := ⟨_, _, _, cl_J0, by decide, rfl, rfl, by decide +kernel, wd_1549⟩
theorem wd_1450 : yWd (.code yJ7_copyOfRange_39247 cJ7_copyOfRange_39247 3 (some (.array .byte))) := ⟨lw_in6 _ (List.mem_of_getElem? (i := 177) rfl), rfl⟩
theorem wd_1448 : yWd (.methodLink RJ0 54 yJ7_copyOfRange_39247) := ⟨lw_in6 _ (List.mem_of_getElem? (i := 175) rfl), rfl⟩
theorem wd_1449 : yWd (.static yJ7_copyOfRange_39247) := ⟨lw_in6 _ (List.mem_of_getElem? (i := 176) rfl), rfl⟩
theorem cs_J0_54 : yCS RJ0 54 yJ7_copyOfRange_39247 cJ7_copyOfRange_39247 3 (some (.array .byte)) 3 := ⟨wd_1450, wd_1448, wd_1449, wd_100, ⟨by decide, by decide, by decide +kernel⟩, by decide⟩
theorem fp_J0_9_J0 : yFF RJ0 9 0 0 (.array (.byte)) := ⟨_, _, _, cl_J0, by decide, rfl, rfl, by decide +kernel, wd_1548⟩
theorem wd_1302 : yWd (.fieldLink RJ0 1048 "java/lang/AbstractStringBuilder" "maybeLatin1" "Z") := ⟨lw_in6 _ (List.mem_of_getElem? (i := 29) rfl), rfl⟩
theorem fg_J0_1048_J4 : yFL RJ0 1048 1 2 := ⟨_, _, _, cl_J4, by decide, wd_1302⟩
theorem wd_1537 : yWd (.code yJ2_compress_39247 cJ2_compress_39247 6 (some (.array .byte))) := ⟨lw_in7 _ (List.mem_of_getElem? (i := 24) rfl), rfl⟩
theorem wd_1535 : yWd (.methodLink RJ0 1051 yJ2_compress_39247) := ⟨lw_in7 _ (List.mem_of_getElem? (i := 22) rfl), rfl⟩
theorem wd_1536 : yWd (.static yJ2_compress_39247) := ⟨lw_in7 _ (List.mem_of_getElem? (i := 23) rfl), rfl⟩
theorem cs_J0_1051 : yCS RJ0 1051 yJ2_compress_39247 cJ2_compress_39247 6 (some (.array .byte)) 3 := ⟨wd_1537, wd_1535, wd_1536, wd_109, ⟨by decide, by decide, by decide +kernel⟩, by decide⟩
theorem wd_1547 : yWd (.code yJ2_coderFromArrayLen_85cad cJ2_coderFromArrayLen_85cad 2 (some .byte)) := ⟨lw_in7 _ (List.mem_of_getElem? (i := 34) rfl), rfl⟩
theorem wd_1545 : yWd (.methodLink RJ0 47 yJ2_coderFromArrayLen_85cad) := ⟨lw_in7 _ (List.mem_of_getElem? (i := 32) rfl), rfl⟩
theorem wd_1546 : yWd (.static yJ2_coderFromArrayLen_85cad) := ⟨lw_in7 _ (List.mem_of_getElem? (i := 33) rfl), rfl⟩
theorem cs_J0_47 : yCS RJ0 47 yJ2_coderFromArrayLen_85cad cJ2_coderFromArrayLen_85cad 2 (some .byte) 2 := ⟨wd_1547, wd_1545, wd_1546, wd_109, ⟨by decide, by decide, by decide +kernel⟩, by decide⟩
def K_J5_getValue_6d5f1 : yK := (yJ5_getValue_6d5f1.cls, yJ5_getValue_6d5f1.name, cJ5_getValue_6d5f1, 1, (some (.array .byte)), [])
def t_J5_getValue_6d5f1 : yT := [(0, .aload_n 0, 1), (1, .getfield 15, 3), (4, .areturn, 1)]
theorem tq_J5_getValue_6d5f1 : yTok (yK.cc K_J5_getValue_6d5f1) t_J5_getValue_6d5f1 := (ychk_ok _ _ 0 rfl (by decide +kernel))
def K_J5_length_8abf5 : yK := (yJ5_length_8abf5.cls, yJ5_length_8abf5.name, cJ5_length_8abf5, 1, (some .int), [])
def t_J5_length_8abf5 : yT := [(0, .aload_n 0, 1), (1, .getfield 79, 3), (4, .ireturn, 1)]
theorem tq_J5_length_8abf5 : yTok (yK.cc K_J5_length_8abf5) t_J5_length_8abf5 := (ychk_ok _ _ 0 rfl (by decide +kernel))
def K_J7_copyOfRange_39247 : yK := (yJ7_copyOfRange_39247.cls, yJ7_copyOfRange_39247.name, cJ7_copyOfRange_39247, 3, (some (.array .byte)), [])
def t_J7_copyOfRange_39247 : yT := [(0, .iload_n 1, 1), (1, .ifCond .ne 9, 3), (4, .iload_n 2, 1), (5, .aload_n 0, 1), (6, .arraylength, 1), (7, .if_icmp .eq 10, 3), (10, .aload_n 0, 1), (11, .iload_n 1, 1), (12, .iload_n 2, 1), (13, .invokestatic 339, 3), (16, .areturn, 1), (17, .aload_n 0, 1), (18, .invokevirtual 310, 3), (21, .checkcast 311, 3), (24, .areturn, 1)]
theorem tq_J7_copyOfRange_39247 : yTok (yK.cc K_J7_copyOfRange_39247) t_J7_copyOfRange_39247 := (ychk_ok _ _ 0 rfl (by decide +kernel))
theorem wd_1453 : yWd (.code yJ7_copyOfRangeByte_39247 cJ7_copyOfRangeByte_39247 5 (some (.array .byte))) := ⟨lw_in6 _ (List.mem_of_getElem? (i := 180) rfl), rfl⟩
theorem wd_1451 : yWd (.methodLink RJ7 339 yJ7_copyOfRangeByte_39247) := ⟨lw_in6 _ (List.mem_of_getElem? (i := 178) rfl), rfl⟩
theorem wd_1452 : yWd (.static yJ7_copyOfRangeByte_39247) := ⟨lw_in6 _ (List.mem_of_getElem? (i := 179) rfl), rfl⟩
theorem cs_J7_339 : yCS RJ7 339 yJ7_copyOfRangeByte_39247 cJ7_copyOfRangeByte_39247 5 (some (.array .byte)) 3 := ⟨wd_1453, wd_1451, wd_1452, wd_100, ⟨by decide, by decide, by decide +kernel⟩, by decide⟩
theorem wd_1361 : yWd (.classLink RJ7 311 "[B") := ⟨lw_in6 _ (List.mem_of_getElem? (i := 88) rfl), rfl⟩
theorem kc_J7_311 : yWd (.classLink RJ7 311 "[B") := wd_1361
def K_J7_copyOfRangeByte_39247 : yK := (yJ7_copyOfRangeByte_39247.cls, yJ7_copyOfRangeByte_39247.name, cJ7_copyOfRangeByte_39247, 5, (some (.array .byte)), [])
def t_J7_copyOfRangeByte_39247 : yT := [(0, .iload_n 1, 1), (1, .iload_n 2, 1), (2, .invokestatic 343, 3), (5, .iload_n 2, 1), (6, .iload_n 1, 1), (7, .isub, 1), (8, .istore_n 3, 1), (9, .iload_n 3, 1), (10, .newarray .byte, 2), (12, .astore 4, 2), (14, .aload_n 0, 1), (15, .iload_n 1, 1), (16, .aload 4, 2), (18, .iconst 0, 1), (19, .aload_n 0, 1), (20, .arraylength, 1), (21, .iload_n 1, 1), (22, .isub, 1), (23, .iload_n 3, 1), (24, .invokestatic 304, 3), (27, .invokestatic 150, 3), (30, .aload 4, 2), (32, .areturn, 1)]
theorem tq_J7_copyOfRangeByte_39247 : yTok (yK.cc K_J7_copyOfRangeByte_39247) t_J7_copyOfRangeByte_39247 := (ychk_ok _ _ 0 rfl (by decide +kernel))
theorem wd_1456 : yWd (.code yJ7_checkLength_df160 cJ7_checkLength_df160 2 none) := ⟨lw_in6 _ (List.mem_of_getElem? (i := 183) rfl), rfl⟩
theorem wd_1454 : yWd (.methodLink RJ7 343 yJ7_checkLength_df160) := ⟨lw_in6 _ (List.mem_of_getElem? (i := 181) rfl), rfl⟩
theorem wd_1455 : yWd (.static yJ7_checkLength_df160) := ⟨lw_in6 _ (List.mem_of_getElem? (i := 182) rfl), rfl⟩
theorem cs_J7_343 : yCS RJ7 343 yJ7_checkLength_df160 cJ7_checkLength_df160 2 none 2 := ⟨wd_1456, wd_1454, wd_1455, wd_100, ⟨by decide, by decide, by decide +kernel⟩, by decide⟩
theorem wd_1364 : yWd (.code yJ9_min_7cf53 cJ9_min_7cf53 2 (some .int)) := ⟨lw_in6 _ (List.mem_of_getElem? (i := 91) rfl), rfl⟩
theorem wd_1362 : yWd (.methodLink RJ7 304 yJ9_min_7cf53) := ⟨lw_in6 _ (List.mem_of_getElem? (i := 89) rfl), rfl⟩
theorem wd_1363 : yWd (.static yJ9_min_7cf53) := ⟨lw_in6 _ (List.mem_of_getElem? (i := 90) rfl), rfl⟩
theorem cs_J7_304 : yCS RJ7 304 yJ9_min_7cf53 cJ9_min_7cf53 2 (some .int) 2 := ⟨wd_1364, wd_1362, wd_1363, wd_99, ⟨by decide, by decide, by decide +kernel⟩, by decide⟩
def K_J7_checkLength_df160 : yK := (yJ7_checkLength_df160.cls, yJ7_checkLength_df160.name, cJ7_checkLength_df160, 2, none, [])
def t_J7_checkLength_df160 : yT := [(0, .iload_n 1, 1), (1, .iload_n 0, 1), (2, .if_icmp .ge 35, 3), (5, .new 43, 3), (8, .dup, 1), (9, .new 45, 3), (12, .dup, 1), (13, .invokespecial 47, 3), (16, .iload_n 0, 1), (17, .invokevirtual 54, 3), (20, .ldc_w 337, 3), (23, .invokevirtual 50, 3), (26, .iload_n 1, 1), (27, .invokevirtual 54, 3), (30, .invokevirtual 61, 3), (33, .invokespecial 65, 3), (36, .athrow, 1), (37, .return_, 1)]
theorem tq_J7_checkLength_df160 : yTok (yK.cc K_J7_checkLength_df160) t_J7_checkLength_df160 := (ychk_ok _ _ 0 rfl (by decide +kernel))
theorem wd_1458 : yWd (.classLink RJ7 45 RJ4) := ⟨lw_in6 _ (List.mem_of_getElem? (i := 185) rfl), rfl⟩
theorem nw_J7_45 : yNW RJ7 45 1 4 [.null, .int 0, .int 0, .int 0] := by
  refine ⟨_, _, cl_J4, ?_, wd_1458, wd_1283, wd_107⟩
  intro ty hty j hj
  match j, hj with
  | 0, h => have e := Option.some.inj ((hty 0 h).symm.trans (tyJ4_ok 0 h)); rw [e]; rfl
  | 1, h => have e := Option.some.inj ((hty 1 h).symm.trans (tyJ4_ok 1 h)); rw [e]; rfl
  | 2, h => have e := Option.some.inj ((hty 2 h).symm.trans (tyJ4_ok 2 h)); rw [e]; rfl
  | 3, h => have e := Option.some.inj ((hty 3 h).symm.trans (tyJ4_ok 3 h)); rw [e]; rfl
  | j + 4, h => exact absurd h (by omega)
theorem wd_1459 : yWd (.methodLink RJ7 47 yJ4_init_da8c8) := ⟨lw_in6 _ (List.mem_of_getElem? (i := 186) rfl), rfl⟩
theorem ci_J7_47 : yCI RJ7 47 yJ4_init_da8c8 cJ4_init_da8c8 1 0 := ⟨wd_1286, wd_1459, wd_1285, wd_107, ⟨by decide, by decide, by decide +kernel⟩, rfl, by decide⟩
theorem wd_1460 : yWd (.methodLink RJ7 54 yJ4_append_bf812) := ⟨lw_in6 _ (List.mem_of_getElem? (i := 187) rfl), rfl⟩
theorem cv_J7_54 : yCV RJ7 54 1 yJ4_append_bf812 cJ4_append_bf812 2 (some (.object "java/lang/StringBuilder")) 1 := ⟨_, _, _, cl_J4, wd_1463, wd_1460, wd_1461, wd_1462, wd_107, ⟨by decide, by decide, by decide +kernel⟩, by decide⟩
theorem wd_1495 : yWd (.methodLink RJ7 50 yJ4_append_15ec4) := ⟨lw_in6 _ (List.mem_of_getElem? (i := 222) rfl), rfl⟩
theorem cv_J7_50 : yCV RJ7 50 1 yJ4_append_15ec4 cJ4_append_15ec4 2 (some (.object "java/lang/StringBuilder")) 1 := ⟨_, _, _, cl_J4, wd_1498, wd_1495, wd_1496, wd_1497, wd_107, ⟨by decide, by decide, by decide +kernel⟩, by decide⟩
theorem wd_1533 : yWd (.methodLink RJ7 61 yJ4_toString_0e30d) := ⟨lw_in7 _ (List.mem_of_getElem? (i := 20) rfl), rfl⟩
theorem cv_J7_61 : yCV RJ7 61 1 yJ4_toString_0e30d cJ4_toString_0e30d 1 (some (.object "java/lang/String")) 0 := ⟨_, _, _, cl_J4, wd_1424, wd_1533, wd_1422, wd_1423, wd_107, ⟨by decide, by decide, by decide +kernel⟩, by decide⟩
def K_J9_min_7cf53 : yK := (yJ9_min_7cf53.cls, yJ9_min_7cf53.name, cJ9_min_7cf53, 2, (some .int), [])
def t_J9_min_7cf53 : yT := [(0, .iload_n 0, 1), (1, .iload_n 1, 1), (2, .if_icmp .gt 7, 3), (5, .iload_n 0, 1), (6, .goto 4, 3), (9, .iload_n 1, 1), (10, .ireturn, 1)]
theorem tq_J9_min_7cf53 : yTok (yK.cc K_J9_min_7cf53) t_J9_min_7cf53 := (ychk_ok _ _ 0 rfl (by decide +kernel))
