/-! ===== facts of the law's methods ===== -/
def K_L_base : yK := (yL_base.cls, yL_base.name, cL_base, 6, (some .int), tableOf [(0, 13, 16, 19)])
def t_L_base : yT := [(0, .aload 4, 2), (2, .aload_n 0, 1), (3, .iload_n 1, 1), (4, .iload_n 2, 1), (5, .iload_n 3, 1), (6, .invokevirtual 7, 3), (9, .i2l, 1), (10, .putfield 13, 3), (13, .goto 7, 3), (16, .astore 5, 2), (18, .iconst 1, 1), (19, .ireturn, 1), (20, .iconst 0, 1), (21, .ireturn, 1)]
theorem tq_L_base : yTok (yK.cc K_L_base) t_L_base := (ychk_ok _ _ 0 rfl (by decide +kernel))
theorem wd_847 : yWd (.code yX8_base cX8_base 4 (some .int)) := ⟨lw_in4 _ (List.mem_of_getElem? (i := 54) rfl), rfl⟩
theorem wd_844 : yWd (.methodLink RL 7 yX8_base) := ⟨lw_in4 _ (List.mem_of_getElem? (i := 51) rfl), rfl⟩
theorem wd_845 : yWd (.instanceMethod yX8_base) := ⟨lw_in4 _ (List.mem_of_getElem? (i := 52) rfl), rfl⟩
theorem wd_846 : yWd (.selects RX8 yX8_base yX8_base) := ⟨lw_in4 _ (List.mem_of_getElem? (i := 53) rfl), rfl⟩
theorem cv_L_7 : yCV RL 7 12 yX8_base cX8_base 4 (some .int) 3 := ⟨_, _, _, cl_X8, wd_847, wd_844, wd_845, wd_846, wd_74, ⟨by decide, by decide, by decide +kernel⟩, by decide⟩
def K_L_lay : yK := (yL_lay.cls, yL_lay.name, cL_lay, 5, (some .int), tableOf [(0, 11, 14, 25), (0, 11, 18, 19), (0, 11, 22, 27)])
def t_L_lay : yT := [(0, .aload_n 3, 1), (1, .aload_n 0, 1), (2, .iload_n 1, 1), (3, .iload_n 2, 1), (4, .invokevirtual 21, 3), (7, .i2l, 1), (8, .putfield 13, 3), (11, .goto 15, 3), (14, .astore 4, 2), (16, .iconst 1, 1), (17, .ireturn, 1), (18, .astore 4, 2), (20, .iconst 2, 1), (21, .ireturn, 1), (22, .astore 4, 2), (24, .iconst 3, 1), (25, .ireturn, 1), (26, .iconst 0, 1), (27, .ireturn, 1)]
theorem tq_L_lay : yTok (yK.cc K_L_lay) t_L_lay := (ychk_ok _ _ 0 rfl (by decide +kernel))
theorem wd_930 : yWd (.code yX8_lay cX8_lay 4 (some .int)) := ⟨lw_in4 _ (List.mem_of_getElem? (i := 137) rfl), rfl⟩
theorem wd_927 : yWd (.methodLink RL 21 yX8_lay) := ⟨lw_in4 _ (List.mem_of_getElem? (i := 134) rfl), rfl⟩
theorem wd_928 : yWd (.instanceMethod yX8_lay) := ⟨lw_in4 _ (List.mem_of_getElem? (i := 135) rfl), rfl⟩
theorem wd_929 : yWd (.selects RX8 yX8_lay yX8_lay) := ⟨lw_in4 _ (List.mem_of_getElem? (i := 136) rfl), rfl⟩
theorem cv_L_21 : yCV RL 21 12 yX8_lay cX8_lay 4 (some .int) 2 := ⟨_, _, _, cl_X8, wd_930, wd_927, wd_928, wd_929, wd_74, ⟨by decide, by decide, by decide +kernel⟩, by decide⟩
def K_L_gates : yK := (yL_gates.cls, yL_gates.name, cL_gates, 5, (some .int), tableOf [(0, 11, 14, 19)])
def t_L_gates : yT := [(0, .aload_n 3, 1), (1, .aload_n 0, 1), (2, .iload_n 1, 1), (3, .iload_n 2, 1), (4, .invokevirtual 29, 3), (7, .i2l, 1), (8, .putfield 13, 3), (11, .goto 7, 3), (14, .astore 4, 2), (16, .iconst 1, 1), (17, .ireturn, 1), (18, .iconst 0, 1), (19, .ireturn, 1)]
theorem tq_L_gates : yTok (yK.cc K_L_gates) t_L_gates := (ychk_ok _ _ 0 rfl (by decide +kernel))
theorem wd_960 : yWd (.code yX8_gates cX8_gates 3 (some .int)) := ⟨lw_in4 _ (List.mem_of_getElem? (i := 167) rfl), rfl⟩
theorem wd_957 : yWd (.methodLink RL 29 yX8_gates) := ⟨lw_in4 _ (List.mem_of_getElem? (i := 164) rfl), rfl⟩
theorem wd_958 : yWd (.instanceMethod yX8_gates) := ⟨lw_in4 _ (List.mem_of_getElem? (i := 165) rfl), rfl⟩
theorem wd_959 : yWd (.selects RX8 yX8_gates yX8_gates) := ⟨lw_in4 _ (List.mem_of_getElem? (i := 166) rfl), rfl⟩
theorem cv_L_29 : yCV RL 29 12 yX8_gates cX8_gates 3 (some .int) 2 := ⟨_, _, _, cl_X8, wd_960, wd_957, wd_958, wd_959, wd_74, ⟨by decide, by decide, by decide +kernel⟩, by decide⟩
def K_L_lamp : yK := (yL_lamp.cls, yL_lamp.name, cL_lamp, 5, (some .int), tableOf [(0, 11, 14, 25), (0, 11, 18, 19), (0, 11, 22, 27)])
def t_L_lamp : yT := [(0, .aload_n 3, 1), (1, .aload_n 0, 1), (2, .iload_n 1, 1), (3, .iload_n 2, 1), (4, .invokevirtual 32, 3), (7, .i2l, 1), (8, .putfield 13, 3), (11, .goto 15, 3), (14, .astore 4, 2), (16, .iconst 1, 1), (17, .ireturn, 1), (18, .astore 4, 2), (20, .iconst 2, 1), (21, .ireturn, 1), (22, .astore 4, 2), (24, .iconst 3, 1), (25, .ireturn, 1), (26, .iconst 0, 1), (27, .ireturn, 1)]
theorem tq_L_lamp : yTok (yK.cc K_L_lamp) t_L_lamp := (ychk_ok _ _ 0 rfl (by decide +kernel))
theorem wd_973 : yWd (.code yX8_lamp cX8_lamp 3 (some .int)) := ⟨lw_in4 _ (List.mem_of_getElem? (i := 180) rfl), rfl⟩
theorem wd_970 : yWd (.methodLink RL 32 yX8_lamp) := ⟨lw_in4 _ (List.mem_of_getElem? (i := 177) rfl), rfl⟩
theorem wd_971 : yWd (.instanceMethod yX8_lamp) := ⟨lw_in4 _ (List.mem_of_getElem? (i := 178) rfl), rfl⟩
theorem wd_972 : yWd (.selects RX8 yX8_lamp yX8_lamp) := ⟨lw_in4 _ (List.mem_of_getElem? (i := 179) rfl), rfl⟩
theorem cv_L_32 : yCV RL 32 12 yX8_lamp cX8_lamp 3 (some .int) 2 := ⟨_, _, _, cl_X8, wd_973, wd_970, wd_971, wd_972, wd_74, ⟨by decide, by decide, by decide +kernel⟩, by decide⟩
def K_L_light : yK := (yL_light.cls, yL_light.name, cL_light, 5, (some .int), tableOf [(0, 11, 14, 25)])
def t_L_light : yT := [(0, .aload_n 3, 1), (1, .aload_n 0, 1), (2, .iload_n 1, 1), (3, .iload_n 2, 1), (4, .invokevirtual 35, 3), (7, .i2l, 1), (8, .putfield 13, 3), (11, .goto 7, 3), (14, .astore 4, 2), (16, .iconst 1, 1), (17, .ireturn, 1), (18, .iconst 0, 1), (19, .ireturn, 1)]
theorem tq_L_light : yTok (yK.cc K_L_light) t_L_light := (ychk_ok _ _ 0 rfl (by decide +kernel))
theorem wd_995 : yWd (.code yX8_light cX8_light 3 (some .int)) := ⟨lw_in4 _ (List.mem_of_getElem? (i := 202) rfl), rfl⟩
theorem wd_992 : yWd (.methodLink RL 35 yX8_light) := ⟨lw_in4 _ (List.mem_of_getElem? (i := 199) rfl), rfl⟩
theorem wd_993 : yWd (.instanceMethod yX8_light) := ⟨lw_in4 _ (List.mem_of_getElem? (i := 200) rfl), rfl⟩
theorem wd_994 : yWd (.selects RX8 yX8_light yX8_light) := ⟨lw_in4 _ (List.mem_of_getElem? (i := 201) rfl), rfl⟩
theorem cv_L_35 : yCV RL 35 12 yX8_light cX8_light 3 (some .int) 2 := ⟨_, _, _, cl_X8, wd_995, wd_992, wd_993, wd_994, wd_74, ⟨by decide, by decide, by decide +kernel⟩, by decide⟩
def K_L_fog : yK := (yL_fog.cls, yL_fog.name, cL_fog, 5, (some .int), tableOf [(0, 11, 14, 19), (0, 11, 18, 27)])
def t_L_fog : yT := [(0, .aload_n 3, 1), (1, .aload_n 0, 1), (2, .iload_n 1, 1), (3, .iload_n 2, 1), (4, .invokevirtual 39, 3), (7, .i2l, 1), (8, .putfield 13, 3), (11, .goto 11, 3), (14, .astore 4, 2), (16, .iconst 1, 1), (17, .ireturn, 1), (18, .astore 4, 2), (20, .iconst 2, 1), (21, .ireturn, 1), (22, .iconst 0, 1), (23, .ireturn, 1)]
theorem tq_L_fog : yTok (yK.cc K_L_fog) t_L_fog := (ychk_ok _ _ 0 rfl (by decide +kernel))
theorem wd_1007 : yWd (.code yX8_fog cX8_fog 3 (some .int)) := ⟨lw_in4 _ (List.mem_of_getElem? (i := 214) rfl), rfl⟩
theorem wd_1004 : yWd (.methodLink RL 39 yX8_fog) := ⟨lw_in4 _ (List.mem_of_getElem? (i := 211) rfl), rfl⟩
theorem wd_1005 : yWd (.instanceMethod yX8_fog) := ⟨lw_in4 _ (List.mem_of_getElem? (i := 212) rfl), rfl⟩
theorem wd_1006 : yWd (.selects RX8 yX8_fog yX8_fog) := ⟨lw_in4 _ (List.mem_of_getElem? (i := 213) rfl), rfl⟩
theorem cv_L_39 : yCV RL 39 12 yX8_fog cX8_fog 3 (some .int) 2 := ⟨_, _, _, cl_X8, wd_1007, wd_1004, wd_1005, wd_1006, wd_74, ⟨by decide, by decide, by decide +kernel⟩, by decide⟩
def K_L_guard : yK := (yL_guard.cls, yL_guard.name, cL_guard, 7, (some .int), tableOf [(0, 15, 18, 25), (0, 15, 22, 19), (0, 15, 26, 27)])
def t_L_guard : yT := [(0, .aload 5, 2), (2, .aload_n 0, 1), (3, .iload_n 1, 1), (4, .iload_n 2, 1), (5, .iload_n 3, 1), (6, .iload 4, 2), (8, .invokevirtual 42, 3), (11, .i2l, 1), (12, .putfield 13, 3), (15, .goto 15, 3), (18, .astore 6, 2), (20, .iconst 1, 1), (21, .ireturn, 1), (22, .astore 6, 2), (24, .iconst 2, 1), (25, .ireturn, 1), (26, .astore 6, 2), (28, .iconst 3, 1), (29, .ireturn, 1), (30, .iconst 0, 1), (31, .ireturn, 1)]
theorem tq_L_guard : yTok (yK.cc K_L_guard) t_L_guard := (ychk_ok _ _ 0 rfl (by decide +kernel))
theorem wd_1024 : yWd (.code yX8_guard cX8_guard 5 (some .int)) := ⟨lw_in4 _ (List.mem_of_getElem? (i := 231) rfl), rfl⟩
theorem wd_1021 : yWd (.methodLink RL 42 yX8_guard) := ⟨lw_in4 _ (List.mem_of_getElem? (i := 228) rfl), rfl⟩
theorem wd_1022 : yWd (.instanceMethod yX8_guard) := ⟨lw_in4 _ (List.mem_of_getElem? (i := 229) rfl), rfl⟩
theorem wd_1023 : yWd (.selects RX8 yX8_guard yX8_guard) := ⟨lw_in4 _ (List.mem_of_getElem? (i := 230) rfl), rfl⟩
theorem cv_L_42 : yCV RL 42 12 yX8_guard cX8_guard 5 (some .int) 4 := ⟨_, _, _, cl_X8, wd_1024, wd_1021, wd_1022, wd_1023, wd_74, ⟨by decide, by decide, by decide +kernel⟩, by decide⟩
def K_L_round : yK := (yL_round.cls, yL_round.name, cL_round, 5, (some .int), tableOf [(0, 11, 14, 25), (0, 11, 18, 27)])
def t_L_round : yT := [(0, .aload_n 3, 1), (1, .aload_n 0, 1), (2, .iload_n 1, 1), (3, .iload_n 2, 1), (4, .invokevirtual 46, 3), (7, .i2l, 1), (8, .putfield 13, 3), (11, .goto 11, 3), (14, .astore 4, 2), (16, .iconst 1, 1), (17, .ireturn, 1), (18, .astore 4, 2), (20, .iconst 2, 1), (21, .ireturn, 1), (22, .iconst 0, 1), (23, .ireturn, 1)]
theorem tq_L_round : yTok (yK.cc K_L_round) t_L_round := (ychk_ok _ _ 0 rfl (by decide +kernel))
theorem wd_1046 : yWd (.code yX8_round cX8_round 3 (some .int)) := ⟨lw_in5 _ (List.mem_of_getElem? (i := 13) rfl), rfl⟩
theorem wd_1043 : yWd (.methodLink RL 46 yX8_round) := ⟨lw_in5 _ (List.mem_of_getElem? (i := 10) rfl), rfl⟩
theorem wd_1044 : yWd (.instanceMethod yX8_round) := ⟨lw_in5 _ (List.mem_of_getElem? (i := 11) rfl), rfl⟩
theorem wd_1045 : yWd (.selects RX8 yX8_round yX8_round) := ⟨lw_in5 _ (List.mem_of_getElem? (i := 12) rfl), rfl⟩
theorem cv_L_46 : yCV RL 46 12 yX8_round cX8_round 3 (some .int) 2 := ⟨_, _, _, cl_X8, wd_1046, wd_1043, wd_1044, wd_1045, wd_74, ⟨by decide, by decide, by decide +kernel⟩, by decide⟩
def K_L_post : yK := (yL_post.cls, yL_post.name, cL_post, 4, (some .int), tableOf [(0, 10, 13, 25), (0, 10, 16, 27)])
def t_L_post : yT := [(0, .aload_n 2, 1), (1, .aload_n 0, 1), (2, .iload_n 1, 1), (3, .invokevirtual 49, 3), (6, .i2l, 1), (7, .putfield 13, 3), (10, .goto 9, 3), (13, .astore_n 3, 1), (14, .iconst 1, 1), (15, .ireturn, 1), (16, .astore_n 3, 1), (17, .iconst 2, 1), (18, .ireturn, 1), (19, .iconst 0, 1), (20, .ireturn, 1)]
theorem tq_L_post : yTok (yK.cc K_L_post) t_L_post := (ychk_ok _ _ 0 rfl (by decide +kernel))
theorem wd_1058 : yWd (.code yX8_post cX8_post 2 (some .int)) := ⟨lw_in5 _ (List.mem_of_getElem? (i := 25) rfl), rfl⟩
theorem wd_1055 : yWd (.methodLink RL 49 yX8_post) := ⟨lw_in5 _ (List.mem_of_getElem? (i := 22) rfl), rfl⟩
theorem wd_1056 : yWd (.instanceMethod yX8_post) := ⟨lw_in5 _ (List.mem_of_getElem? (i := 23) rfl), rfl⟩
theorem wd_1057 : yWd (.selects RX8 yX8_post yX8_post) := ⟨lw_in5 _ (List.mem_of_getElem? (i := 24) rfl), rfl⟩
theorem cv_L_49 : yCV RL 49 12 yX8_post cX8_post 2 (some .int) 1 := ⟨_, _, _, cl_X8, wd_1058, wd_1055, wd_1056, wd_1057, wd_74, ⟨by decide, by decide, by decide +kernel⟩, by decide⟩
def K_L_place : yK := (yL_place.cls, yL_place.name, cL_place, 5, (some .int), tableOf [(0, 11, 14, 25), (0, 11, 18, 19)])
def t_L_place : yT := [(0, .aload_n 3, 1), (1, .aload_n 0, 1), (2, .iload_n 1, 1), (3, .iload_n 2, 1), (4, .invokevirtual 53, 3), (7, .i2l, 1), (8, .putfield 13, 3), (11, .goto 11, 3), (14, .astore 4, 2), (16, .iconst 1, 1), (17, .ireturn, 1), (18, .astore 4, 2), (20, .iconst 2, 1), (21, .ireturn, 1), (22, .iconst 0, 1), (23, .ireturn, 1)]
theorem tq_L_place : yTok (yK.cc K_L_place) t_L_place := (ychk_ok _ _ 0 rfl (by decide +kernel))
theorem wd_1067 : yWd (.code yX8_place cX8_place 3 (some .int)) := ⟨lw_in5 _ (List.mem_of_getElem? (i := 34) rfl), rfl⟩
theorem wd_1064 : yWd (.methodLink RL 53 yX8_place) := ⟨lw_in5 _ (List.mem_of_getElem? (i := 31) rfl), rfl⟩
theorem wd_1065 : yWd (.instanceMethod yX8_place) := ⟨lw_in5 _ (List.mem_of_getElem? (i := 32) rfl), rfl⟩
theorem wd_1066 : yWd (.selects RX8 yX8_place yX8_place) := ⟨lw_in5 _ (List.mem_of_getElem? (i := 33) rfl), rfl⟩
theorem cv_L_53 : yCV RL 53 12 yX8_place cX8_place 3 (some .int) 2 := ⟨_, _, _, cl_X8, wd_1067, wd_1064, wd_1065, wd_1066, wd_74, ⟨by decide, by decide, by decide +kernel⟩, by decide⟩
def K_L_sees : yK := (yL_sees.cls, yL_sees.name, cL_sees, 6, (some .int), tableOf [(0, 20, 23, 25), (0, 20, 27, 19)])
def t_L_sees : yT := [(0, .aload 4, 2), (2, .aload_n 0, 1), (3, .iload_n 1, 1), (4, .iload_n 2, 1), (5, .iload_n 3, 1), (6, .invokevirtual 56, 3), (9, .ifCond .eq 7, 3), (12, .lconst 1, 1), (13, .goto 4, 3), (16, .lconst 0, 1), (17, .putfield 13, 3), (20, .goto 11, 3), (23, .astore 5, 2), (25, .iconst 1, 1), (26, .ireturn, 1), (27, .astore 5, 2), (29, .iconst 2, 1), (30, .ireturn, 1), (31, .iconst 0, 1), (32, .ireturn, 1)]
theorem tq_L_sees : yTok (yK.cc K_L_sees) t_L_sees := (ychk_ok _ _ 0 rfl (by decide +kernel))
theorem wd_1074 : yWd (.code yX8_sees cX8_sees 4 (some .boolean)) := ⟨lw_in5 _ (List.mem_of_getElem? (i := 41) rfl), rfl⟩
theorem wd_1071 : yWd (.methodLink RL 56 yX8_sees) := ⟨lw_in5 _ (List.mem_of_getElem? (i := 38) rfl), rfl⟩
theorem wd_1072 : yWd (.instanceMethod yX8_sees) := ⟨lw_in5 _ (List.mem_of_getElem? (i := 39) rfl), rfl⟩
theorem wd_1073 : yWd (.selects RX8 yX8_sees yX8_sees) := ⟨lw_in5 _ (List.mem_of_getElem? (i := 40) rfl), rfl⟩
theorem cv_L_56 : yCV RL 56 12 yX8_sees cX8_sees 4 (some .boolean) 3 := ⟨_, _, _, cl_X8, wd_1074, wd_1071, wd_1072, wd_1073, wd_74, ⟨by decide, by decide, by decide +kernel⟩, by decide⟩
def K_L_ofCell : yK := (yL_ofCell.cls, yL_ofCell.name, cL_ofCell, 6, (some .int), tableOf [(0, 13, 16, 25), (0, 13, 20, 19)])
def t_L_ofCell : yT := [(0, .aload 4, 2), (2, .aload_n 0, 1), (3, .iload_n 1, 1), (4, .iload_n 2, 1), (5, .iload_n 3, 1), (6, .invokevirtual 60, 3), (9, .i2l, 1), (10, .putfield 13, 3), (13, .goto 11, 3), (16, .astore 5, 2), (18, .iconst 1, 1), (19, .ireturn, 1), (20, .astore 5, 2), (22, .iconst 2, 1), (23, .ireturn, 1), (24, .iconst 0, 1), (25, .ireturn, 1)]
theorem tq_L_ofCell : yTok (yK.cc K_L_ofCell) t_L_ofCell := (ychk_ok _ _ 0 rfl (by decide +kernel))
theorem wd_1081 : yWd (.methodLink RL 60 yX8_ofCell) := ⟨lw_in5 _ (List.mem_of_getElem? (i := 48) rfl), rfl⟩
theorem cv_L_60 : yCV RL 60 12 yX8_ofCell cX8_ofCell 4 (some .int) 3 := ⟨_, _, _, cl_X8, wd_664, wd_1081, wd_662, wd_663, wd_74, ⟨by decide, by decide, by decide +kernel⟩, by decide⟩
def K_L_ofMinute : yK := (yL_ofMinute.cls, yL_ofMinute.name, cL_ofMinute, 5, (some .int), tableOf [(0, 11, 14, 19)])
def t_L_ofMinute : yT := [(0, .aload_n 3, 1), (1, .aload_n 0, 1), (2, .iload_n 1, 1), (3, .iload_n 2, 1), (4, .invokevirtual 63, 3), (7, .i2l, 1), (8, .putfield 13, 3), (11, .goto 7, 3), (14, .astore 4, 2), (16, .iconst 1, 1), (17, .ireturn, 1), (18, .iconst 0, 1), (19, .ireturn, 1)]
theorem tq_L_ofMinute : yTok (yK.cc K_L_ofMinute) t_L_ofMinute := (ychk_ok _ _ 0 rfl (by decide +kernel))
theorem wd_1085 : yWd (.methodLink RL 63 yX8_ofMinute) := ⟨lw_in5 _ (List.mem_of_getElem? (i := 52) rfl), rfl⟩
theorem cv_L_63 : yCV RL 63 12 yX8_ofMinute cX8_ofMinute 3 (some .int) 2 := ⟨_, _, _, cl_X8, wd_629, wd_1085, wd_627, wd_628, wd_74, ⟨by decide, by decide, by decide +kernel⟩, by decide⟩
def K_L_empty : yK := (yL_empty.cls, yL_empty.name, cL_empty, 5, (some .int), tableOf [(0, 11, 14, 25)])
def t_L_empty : yT := [(0, .aload_n 3, 1), (1, .aload_n 0, 1), (2, .iload_n 1, 1), (3, .iload_n 2, 1), (4, .invokevirtual 66, 3), (7, .i2l, 1), (8, .putfield 13, 3), (11, .goto 7, 3), (14, .astore 4, 2), (16, .iconst 1, 1), (17, .ireturn, 1), (18, .iconst 0, 1), (19, .ireturn, 1)]
theorem tq_L_empty : yTok (yK.cc K_L_empty) t_L_empty := (ychk_ok _ _ 0 rfl (by decide +kernel))
theorem wd_1089 : yWd (.methodLink RL 66 yX8_empty) := ⟨lw_in5 _ (List.mem_of_getElem? (i := 56) rfl), rfl⟩
theorem cv_L_66 : yCV RL 66 12 yX8_empty cX8_empty 6 (some .int) 2 := ⟨_, _, _, cl_X8, wd_747, wd_1089, wd_745, wd_746, wd_74, ⟨by decide, by decide, by decide +kernel⟩, by decide⟩
def K_L_lapse : yK := (yL_lapse.cls, yL_lapse.name, cL_lapse, 6, (some .int), tableOf [(0, 13, 16, 25), (0, 13, 20, 19)])
def t_L_lapse : yT := [(0, .aload 4, 2), (2, .aload_n 0, 1), (3, .iload_n 1, 1), (4, .iload_n 2, 1), (5, .iload_n 3, 1), (6, .invokevirtual 69, 3), (9, .i2l, 1), (10, .putfield 13, 3), (13, .goto 11, 3), (16, .astore 5, 2), (18, .iconst 1, 1), (19, .ireturn, 1), (20, .astore 5, 2), (22, .iconst 2, 1), (23, .ireturn, 1), (24, .iconst 0, 1), (25, .ireturn, 1)]
theorem tq_L_lapse : yTok (yK.cc K_L_lapse) t_L_lapse := (ychk_ok _ _ 0 rfl (by decide +kernel))
theorem wd_1096 : yWd (.code yX8_lapse cX8_lapse 5 (some .int)) := ⟨lw_in5 _ (List.mem_of_getElem? (i := 63) rfl), rfl⟩
theorem wd_1093 : yWd (.methodLink RL 69 yX8_lapse) := ⟨lw_in5 _ (List.mem_of_getElem? (i := 60) rfl), rfl⟩
theorem wd_1094 : yWd (.instanceMethod yX8_lapse) := ⟨lw_in5 _ (List.mem_of_getElem? (i := 61) rfl), rfl⟩
theorem wd_1095 : yWd (.selects RX8 yX8_lapse yX8_lapse) := ⟨lw_in5 _ (List.mem_of_getElem? (i := 62) rfl), rfl⟩
theorem cv_L_69 : yCV RL 69 12 yX8_lapse cX8_lapse 5 (some .int) 3 := ⟨_, _, _, cl_X8, wd_1096, wd_1093, wd_1094, wd_1095, wd_74, ⟨by decide, by decide, by decide +kernel⟩, by decide⟩
def K_L_words : yK := (yL_words.cls, yL_words.name, cL_words, 4, (some .int), tableOf [(0, 10, 13, 19)])
def t_L_words : yT := [(0, .aload_n 2, 1), (1, .aload_n 0, 1), (2, .iload_n 1, 1), (3, .invokevirtual 72, 3), (6, .i2l, 1), (7, .putfield 13, 3), (10, .goto 6, 3), (13, .astore_n 3, 1), (14, .iconst 1, 1), (15, .ireturn, 1), (16, .iconst 0, 1), (17, .ireturn, 1)]
theorem tq_L_words : yTok (yK.cc K_L_words) t_L_words := (ychk_ok _ _ 0 rfl (by decide +kernel))
theorem wd_1103 : yWd (.code yX8_words cX8_words 2 (some .int)) := ⟨lw_in5 _ (List.mem_of_getElem? (i := 70) rfl), rfl⟩
theorem wd_1100 : yWd (.methodLink RL 72 yX8_words) := ⟨lw_in5 _ (List.mem_of_getElem? (i := 67) rfl), rfl⟩
theorem wd_1101 : yWd (.instanceMethod yX8_words) := ⟨lw_in5 _ (List.mem_of_getElem? (i := 68) rfl), rfl⟩
theorem wd_1102 : yWd (.selects RX8 yX8_words yX8_words) := ⟨lw_in5 _ (List.mem_of_getElem? (i := 69) rfl), rfl⟩
theorem cv_L_72 : yCV RL 72 12 yX8_words cX8_words 2 (some .int) 1 := ⟨_, _, _, cl_X8, wd_1103, wd_1100, wd_1101, wd_1102, wd_74, ⟨by decide, by decide, by decide +kernel⟩, by decide⟩
def K_L_leak : yK := (yL_leak.cls, yL_leak.name, cL_leak, 4, (some .int), tableOf [(0, 10, 13, 19), (0, 10, 16, 27)])
def t_L_leak : yT := [(0, .aload_n 2, 1), (1, .aload_n 0, 1), (2, .iload_n 1, 1), (3, .invokevirtual 75, 3), (6, .i2l, 1), (7, .putfield 13, 3), (10, .goto 9, 3), (13, .astore_n 3, 1), (14, .iconst 1, 1), (15, .ireturn, 1), (16, .astore_n 3, 1), (17, .iconst 2, 1), (18, .ireturn, 1), (19, .iconst 0, 1), (20, .ireturn, 1)]
theorem tq_L_leak : yTok (yK.cc K_L_leak) t_L_leak := (ychk_ok _ _ 0 rfl (by decide +kernel))
theorem wd_1114 : yWd (.code yX8_leak cX8_leak 2 (some .int)) := ⟨lw_in5 _ (List.mem_of_getElem? (i := 81) rfl), rfl⟩
theorem wd_1111 : yWd (.methodLink RL 75 yX8_leak) := ⟨lw_in5 _ (List.mem_of_getElem? (i := 78) rfl), rfl⟩
theorem wd_1112 : yWd (.instanceMethod yX8_leak) := ⟨lw_in5 _ (List.mem_of_getElem? (i := 79) rfl), rfl⟩
theorem wd_1113 : yWd (.selects RX8 yX8_leak yX8_leak) := ⟨lw_in5 _ (List.mem_of_getElem? (i := 80) rfl), rfl⟩
theorem cv_L_75 : yCV RL 75 12 yX8_leak cX8_leak 2 (some .int) 1 := ⟨_, _, _, cl_X8, wd_1114, wd_1111, wd_1112, wd_1113, wd_74, ⟨by decide, by decide, by decide +kernel⟩, by decide⟩
def K_L_answer : yK := (yL_answer.cls, yL_answer.name, cL_answer, 6, (some .int), tableOf [(0, 13, 16, 25), (0, 13, 20, 19)])
def t_L_answer : yT := [(0, .aload 4, 2), (2, .aload_n 0, 1), (3, .iload_n 1, 1), (4, .iload_n 2, 1), (5, .iload_n 3, 1), (6, .invokevirtual 78, 3), (9, .i2l, 1), (10, .putfield 13, 3), (13, .goto 11, 3), (16, .astore 5, 2), (18, .iconst 1, 1), (19, .ireturn, 1), (20, .astore 5, 2), (22, .iconst 2, 1), (23, .ireturn, 1), (24, .iconst 0, 1), (25, .ireturn, 1)]
theorem tq_L_answer : yTok (yK.cc K_L_answer) t_L_answer := (ychk_ok _ _ 0 rfl (by decide +kernel))
theorem wd_1131 : yWd (.code yX8_answer cX8_answer 4 (some .int)) := ⟨lw_in5 _ (List.mem_of_getElem? (i := 98) rfl), rfl⟩
theorem wd_1128 : yWd (.methodLink RL 78 yX8_answer) := ⟨lw_in5 _ (List.mem_of_getElem? (i := 95) rfl), rfl⟩
theorem wd_1129 : yWd (.instanceMethod yX8_answer) := ⟨lw_in5 _ (List.mem_of_getElem? (i := 96) rfl), rfl⟩
theorem wd_1130 : yWd (.selects RX8 yX8_answer yX8_answer) := ⟨lw_in5 _ (List.mem_of_getElem? (i := 97) rfl), rfl⟩
theorem cv_L_78 : yCV RL 78 12 yX8_answer cX8_answer 4 (some .int) 3 := ⟨_, _, _, cl_X8, wd_1131, wd_1128, wd_1129, wd_1130, wd_74, ⟨by decide, by decide, by decide +kernel⟩, by decide⟩
def K_L_key : yK := (yL_key.cls, yL_key.name, cL_key, 5, (some .int), tableOf [(0, 11, 14, 25)])
def t_L_key : yT := [(0, .aload_n 3, 1), (1, .aload_n 0, 1), (2, .iload_n 1, 1), (3, .iload_n 2, 1), (4, .invokevirtual 81, 3), (7, .i2l, 1), (8, .putfield 13, 3), (11, .goto 7, 3), (14, .astore 4, 2), (16, .iconst 1, 1), (17, .ireturn, 1), (18, .iconst 0, 1), (19, .ireturn, 1)]
theorem tq_L_key : yTok (yK.cc K_L_key) t_L_key := (ychk_ok _ _ 0 rfl (by decide +kernel))
theorem wd_1151 : yWd (.code yX8_key cX8_key 4 (some .int)) := ⟨lw_in5 _ (List.mem_of_getElem? (i := 118) rfl), rfl⟩
theorem wd_1148 : yWd (.methodLink RL 81 yX8_key) := ⟨lw_in5 _ (List.mem_of_getElem? (i := 115) rfl), rfl⟩
theorem wd_1149 : yWd (.instanceMethod yX8_key) := ⟨lw_in5 _ (List.mem_of_getElem? (i := 116) rfl), rfl⟩
theorem wd_1150 : yWd (.selects RX8 yX8_key yX8_key) := ⟨lw_in5 _ (List.mem_of_getElem? (i := 117) rfl), rfl⟩
theorem cv_L_81 : yCV RL 81 12 yX8_key cX8_key 4 (some .int) 2 := ⟨_, _, _, cl_X8, wd_1151, wd_1148, wd_1149, wd_1150, wd_74, ⟨by decide, by decide, by decide +kernel⟩, by decide⟩
def K_L_ofGuard : yK := (yL_ofGuard.cls, yL_ofGuard.name, cL_ofGuard, 5, (some .int), tableOf [(0, 11, 14, 25), (0, 11, 18, 19)])
def t_L_ofGuard : yT := [(0, .aload_n 3, 1), (1, .aload_n 0, 1), (2, .iload_n 1, 1), (3, .iload_n 2, 1), (4, .invokevirtual 84, 3), (7, .i2l, 1), (8, .putfield 13, 3), (11, .goto 11, 3), (14, .astore 4, 2), (16, .iconst 1, 1), (17, .ireturn, 1), (18, .astore 4, 2), (20, .iconst 2, 1), (21, .ireturn, 1), (22, .iconst 0, 1), (23, .ireturn, 1)]
theorem tq_L_ofGuard : yTok (yK.cc K_L_ofGuard) t_L_ofGuard := (ychk_ok _ _ 0 rfl (by decide +kernel))
theorem wd_1156 : yWd (.methodLink RL 84 yX8_ofGuard) := ⟨lw_in5 _ (List.mem_of_getElem? (i := 123) rfl), rfl⟩
theorem cv_L_84 : yCV RL 84 12 yX8_ofGuard cX8_ofGuard 3 (some .int) 2 := ⟨_, _, _, cl_X8, wd_710, wd_1156, wd_708, wd_709, wd_74, ⟨by decide, by decide, by decide +kernel⟩, by decide⟩
def K_L_intruder : yK := (yL_intruder.cls, yL_intruder.name, cL_intruder, 6, (some .int), tableOf [(0, 13, 16, 25), (0, 13, 20, 19), (0, 13, 24, 27)])
def t_L_intruder : yT := [(0, .aload 4, 2), (2, .aload_n 0, 1), (3, .iload_n 1, 1), (4, .iload_n 2, 1), (5, .iload_n 3, 1), (6, .invokevirtual 87, 3), (9, .i2l, 1), (10, .putfield 13, 3), (13, .goto 15, 3), (16, .astore 5, 2), (18, .iconst 1, 1), (19, .ireturn, 1), (20, .astore 5, 2), (22, .iconst 2, 1), (23, .ireturn, 1), (24, .astore 5, 2), (26, .iconst 3, 1), (27, .ireturn, 1), (28, .iconst 0, 1), (29, .ireturn, 1)]
theorem tq_L_intruder : yTok (yK.cc K_L_intruder) t_L_intruder := (ychk_ok _ _ 0 rfl (by decide +kernel))
theorem wd_1163 : yWd (.code yX8_intruder cX8_intruder 5 (some .int)) := ⟨lw_in5 _ (List.mem_of_getElem? (i := 130) rfl), rfl⟩
theorem wd_1160 : yWd (.methodLink RL 87 yX8_intruder) := ⟨lw_in5 _ (List.mem_of_getElem? (i := 127) rfl), rfl⟩
theorem wd_1161 : yWd (.instanceMethod yX8_intruder) := ⟨lw_in5 _ (List.mem_of_getElem? (i := 128) rfl), rfl⟩
theorem wd_1162 : yWd (.selects RX8 yX8_intruder yX8_intruder) := ⟨lw_in5 _ (List.mem_of_getElem? (i := 129) rfl), rfl⟩
theorem cv_L_87 : yCV RL 87 12 yX8_intruder cX8_intruder 5 (some .int) 3 := ⟨_, _, _, cl_X8, wd_1163, wd_1160, wd_1161, wd_1162, wd_74, ⟨by decide, by decide, by decide +kernel⟩, by decide⟩
def K_L_wire : yK := (yL_wire.cls, yL_wire.name, cL_wire, 5, (some .int), tableOf [(0, 11, 14, 25), (0, 11, 18, 19), (0, 11, 22, 27)])
def t_L_wire : yT := [(0, .aload_n 3, 1), (1, .aload_n 0, 1), (2, .iload_n 1, 1), (3, .iload_n 2, 1), (4, .invokevirtual 90, 3), (7, .i2l, 1), (8, .putfield 13, 3), (11, .goto 15, 3), (14, .astore 4, 2), (16, .iconst 1, 1), (17, .ireturn, 1), (18, .astore 4, 2), (20, .iconst 2, 1), (21, .ireturn, 1), (22, .astore 4, 2), (24, .iconst 3, 1), (25, .ireturn, 1), (26, .iconst 0, 1), (27, .ireturn, 1)]
theorem tq_L_wire : yTok (yK.cc K_L_wire) t_L_wire := (ychk_ok _ _ 0 rfl (by decide +kernel))
theorem wd_1196 : yWd (.code yX8_wire cX8_wire 3 (some .int)) := ⟨lw_in5 _ (List.mem_of_getElem? (i := 163) rfl), rfl⟩
theorem wd_1193 : yWd (.methodLink RL 90 yX8_wire) := ⟨lw_in5 _ (List.mem_of_getElem? (i := 160) rfl), rfl⟩
theorem wd_1194 : yWd (.instanceMethod yX8_wire) := ⟨lw_in5 _ (List.mem_of_getElem? (i := 161) rfl), rfl⟩
theorem wd_1195 : yWd (.selects RX8 yX8_wire yX8_wire) := ⟨lw_in5 _ (List.mem_of_getElem? (i := 162) rfl), rfl⟩
theorem cv_L_90 : yCV RL 90 12 yX8_wire cX8_wire 3 (some .int) 2 := ⟨_, _, _, cl_X8, wd_1196, wd_1193, wd_1194, wd_1195, wd_74, ⟨by decide, by decide, by decide +kernel⟩, by decide⟩
def K_L_where : yK := (yL_where.cls, yL_where.name, cL_where, 5, (some .int), tableOf [(0, 11, 14, 25), (0, 11, 18, 19)])
def t_L_where : yT := [(0, .aload_n 3, 1), (1, .aload_n 0, 1), (2, .iload_n 1, 1), (3, .iload_n 2, 1), (4, .invokevirtual 93, 3), (7, .i2l, 1), (8, .putfield 13, 3), (11, .goto 11, 3), (14, .astore 4, 2), (16, .iconst 1, 1), (17, .ireturn, 1), (18, .astore 4, 2), (20, .iconst 2, 1), (21, .ireturn, 1), (22, .iconst 0, 1), (23, .ireturn, 1)]
theorem tq_L_where : yTok (yK.cc K_L_where) t_L_where := (ychk_ok _ _ 0 rfl (by decide +kernel))
theorem wd_1214 : yWd (.code yX8_where cX8_where 3 (some .int)) := ⟨lw_in5 _ (List.mem_of_getElem? (i := 181) rfl), rfl⟩
theorem wd_1211 : yWd (.methodLink RL 93 yX8_where) := ⟨lw_in5 _ (List.mem_of_getElem? (i := 178) rfl), rfl⟩
theorem wd_1212 : yWd (.instanceMethod yX8_where) := ⟨lw_in5 _ (List.mem_of_getElem? (i := 179) rfl), rfl⟩
theorem wd_1213 : yWd (.selects RX8 yX8_where yX8_where) := ⟨lw_in5 _ (List.mem_of_getElem? (i := 180) rfl), rfl⟩
theorem cv_L_93 : yCV RL 93 12 yX8_where cX8_where 3 (some .int) 2 := ⟨_, _, _, cl_X8, wd_1214, wd_1211, wd_1212, wd_1213, wd_74, ⟨by decide, by decide, by decide +kernel⟩, by decide⟩
def K_L_ofIntruder : yK := (yL_ofIntruder.cls, yL_ofIntruder.name, cL_ofIntruder, 5, (some .int), tableOf [(0, 11, 14, 25), (0, 11, 18, 19)])
def t_L_ofIntruder : yT := [(0, .aload_n 3, 1), (1, .aload_n 0, 1), (2, .iload_n 1, 1), (3, .iload_n 2, 1), (4, .invokevirtual 96, 3), (7, .i2l, 1), (8, .putfield 13, 3), (11, .goto 11, 3), (14, .astore 4, 2), (16, .iconst 1, 1), (17, .ireturn, 1), (18, .astore 4, 2), (20, .iconst 2, 1), (21, .ireturn, 1), (22, .iconst 0, 1), (23, .ireturn, 1)]
theorem tq_L_ofIntruder : yTok (yK.cc K_L_ofIntruder) t_L_ofIntruder := (ychk_ok _ _ 0 rfl (by decide +kernel))
theorem wd_1218 : yWd (.methodLink RL 96 yX8_ofIntruder) := ⟨lw_in5 _ (List.mem_of_getElem? (i := 185) rfl), rfl⟩
theorem cv_L_96 : yCV RL 96 12 yX8_ofIntruder cX8_ofIntruder 3 (some .int) 2 := ⟨_, _, _, cl_X8, wd_751, wd_1218, wd_749, wd_750, wd_74, ⟨by decide, by decide, by decide +kernel⟩, by decide⟩
def K_L_force : yK := (yL_force.cls, yL_force.name, cL_force, 6, (some .int), tableOf [(0, 13, 16, 25), (0, 13, 20, 19), (0, 13, 24, 27)])
def t_L_force : yT := [(0, .aload 4, 2), (2, .aload_n 0, 1), (3, .iload_n 1, 1), (4, .iload_n 2, 1), (5, .iload_n 3, 1), (6, .invokevirtual 99, 3), (9, .i2l, 1), (10, .putfield 13, 3), (13, .goto 15, 3), (16, .astore 5, 2), (18, .iconst 1, 1), (19, .ireturn, 1), (20, .astore 5, 2), (22, .iconst 2, 1), (23, .ireturn, 1), (24, .astore 5, 2), (26, .iconst 3, 1), (27, .ireturn, 1), (28, .iconst 0, 1), (29, .ireturn, 1)]
theorem tq_L_force : yTok (yK.cc K_L_force) t_L_force := (ychk_ok _ _ 0 rfl (by decide +kernel))
theorem wd_1225 : yWd (.code yX8_force cX8_force 5 (some .int)) := ⟨lw_in5 _ (List.mem_of_getElem? (i := 192) rfl), rfl⟩
theorem wd_1222 : yWd (.methodLink RL 99 yX8_force) := ⟨lw_in5 _ (List.mem_of_getElem? (i := 189) rfl), rfl⟩
theorem wd_1223 : yWd (.instanceMethod yX8_force) := ⟨lw_in5 _ (List.mem_of_getElem? (i := 190) rfl), rfl⟩
theorem wd_1224 : yWd (.selects RX8 yX8_force yX8_force) := ⟨lw_in5 _ (List.mem_of_getElem? (i := 191) rfl), rfl⟩
theorem cv_L_99 : yCV RL 99 12 yX8_force cX8_force 5 (some .int) 3 := ⟨_, _, _, cl_X8, wd_1225, wd_1222, wd_1223, wd_1224, wd_74, ⟨by decide, by decide, by decide +kernel⟩, by decide⟩
def K_L_ofWire : yK := (yL_ofWire.cls, yL_ofWire.name, cL_ofWire, 5, (some .int), tableOf [(0, 11, 14, 25), (0, 11, 18, 19)])
def t_L_ofWire : yT := [(0, .aload_n 3, 1), (1, .aload_n 0, 1), (2, .iload_n 1, 1), (3, .iload_n 2, 1), (4, .invokevirtual 102, 3), (7, .i2l, 1), (8, .putfield 13, 3), (11, .goto 11, 3), (14, .astore 4, 2), (16, .iconst 1, 1), (17, .ireturn, 1), (18, .astore 4, 2), (20, .iconst 2, 1), (21, .ireturn, 1), (22, .iconst 0, 1), (23, .ireturn, 1)]
theorem tq_L_ofWire : yTok (yK.cc K_L_ofWire) t_L_ofWire := (ychk_ok _ _ 0 rfl (by decide +kernel))
theorem wd_1237 : yWd (.methodLink RL 102 yX8_ofWire) := ⟨lw_in5 _ (List.mem_of_getElem? (i := 204) rfl), rfl⟩
theorem cv_L_102 : yCV RL 102 12 yX8_ofWire cX8_ofWire 3 (some .int) 2 := ⟨_, _, _, cl_X8, wd_791, wd_1237, wd_789, wd_790, wd_74, ⟨by decide, by decide, by decide +kernel⟩, by decide⟩
def K_L_sneak : yK := (yL_sneak.cls, yL_sneak.name, cL_sneak, 7, (some .int), tableOf [(0, 15, 18, 25), (0, 15, 22, 19)])
def t_L_sneak : yT := [(0, .aload 5, 2), (2, .aload_n 0, 1), (3, .iload_n 1, 1), (4, .iload_n 2, 1), (5, .iload_n 3, 1), (6, .iload 4, 2), (8, .invokevirtual 105, 3), (11, .i2l, 1), (12, .putfield 13, 3), (15, .goto 11, 3), (18, .astore 6, 2), (20, .iconst 1, 1), (21, .ireturn, 1), (22, .astore 6, 2), (24, .iconst 2, 1), (25, .ireturn, 1), (26, .iconst 0, 1), (27, .ireturn, 1)]
theorem tq_L_sneak : yTok (yK.cc K_L_sneak) t_L_sneak := (ychk_ok _ _ 0 rfl (by decide +kernel))
theorem wd_1244 : yWd (.code yX8_sneak cX8_sneak 8 (some .int)) := ⟨lw_in5 _ (List.mem_of_getElem? (i := 211) rfl), rfl⟩
theorem wd_1241 : yWd (.methodLink RL 105 yX8_sneak) := ⟨lw_in5 _ (List.mem_of_getElem? (i := 208) rfl), rfl⟩
theorem wd_1242 : yWd (.instanceMethod yX8_sneak) := ⟨lw_in5 _ (List.mem_of_getElem? (i := 209) rfl), rfl⟩
theorem wd_1243 : yWd (.selects RX8 yX8_sneak yX8_sneak) := ⟨lw_in5 _ (List.mem_of_getElem? (i := 210) rfl), rfl⟩
theorem cv_L_105 : yCV RL 105 12 yX8_sneak cX8_sneak 8 (some .int) 4 := ⟨_, _, _, cl_X8, wd_1244, wd_1241, wd_1242, wd_1243, wd_74, ⟨by decide, by decide, by decide +kernel⟩, by decide⟩
def K_L_reach : yK := (yL_reach.cls, yL_reach.name, cL_reach, 6, (some .int), tableOf [(0, 13, 16, 25), (0, 13, 20, 19)])
def t_L_reach : yT := [(0, .aload 4, 2), (2, .aload_n 0, 1), (3, .iload_n 1, 1), (4, .iload_n 2, 1), (5, .iload_n 3, 1), (6, .invokevirtual 108, 3), (9, .i2l, 1), (10, .putfield 13, 3), (13, .goto 11, 3), (16, .astore 5, 2), (18, .iconst 1, 1), (19, .ireturn, 1), (20, .astore 5, 2), (22, .iconst 2, 1), (23, .ireturn, 1), (24, .iconst 0, 1), (25, .ireturn, 1)]
theorem tq_L_reach : yTok (yK.cc K_L_reach) t_L_reach := (ychk_ok _ _ 0 rfl (by decide +kernel))
theorem wd_1255 : yWd (.code yX8_reach cX8_reach 7 (some .int)) := ⟨lw_in5 _ (List.mem_of_getElem? (i := 222) rfl), rfl⟩
theorem wd_1252 : yWd (.methodLink RL 108 yX8_reach) := ⟨lw_in5 _ (List.mem_of_getElem? (i := 219) rfl), rfl⟩
theorem wd_1253 : yWd (.instanceMethod yX8_reach) := ⟨lw_in5 _ (List.mem_of_getElem? (i := 220) rfl), rfl⟩
theorem wd_1254 : yWd (.selects RX8 yX8_reach yX8_reach) := ⟨lw_in5 _ (List.mem_of_getElem? (i := 221) rfl), rfl⟩
theorem cv_L_108 : yCV RL 108 12 yX8_reach cX8_reach 7 (some .int) 3 := ⟨_, _, _, cl_X8, wd_1255, wd_1252, wd_1253, wd_1254, wd_74, ⟨by decide, by decide, by decide +kernel⟩, by decide⟩
def K_L_nextLamp : yK := (yL_nextLamp.cls, yL_nextLamp.name, cL_nextLamp, 6, (some .int), tableOf [(0, 13, 16, 19)])
def t_L_nextLamp : yT := [(0, .aload 4, 2), (2, .aload_n 0, 1), (3, .iload_n 1, 1), (4, .iload_n 2, 1), (5, .iload_n 3, 1), (6, .invokevirtual 111, 3), (9, .i2l, 1), (10, .putfield 13, 3), (13, .goto 7, 3), (16, .astore 5, 2), (18, .iconst 1, 1), (19, .ireturn, 1), (20, .iconst 0, 1), (21, .ireturn, 1)]
theorem tq_L_nextLamp : yTok (yK.cc K_L_nextLamp) t_L_nextLamp := (ychk_ok _ _ 0 rfl (by decide +kernel))
theorem wd_1262 : yWd (.code yX8_nextLamp cX8_nextLamp 8 (some .int)) := ⟨lw_in5 _ (List.mem_of_getElem? (i := 229) rfl), rfl⟩
theorem wd_1259 : yWd (.methodLink RL 111 yX8_nextLamp) := ⟨lw_in5 _ (List.mem_of_getElem? (i := 226) rfl), rfl⟩
theorem wd_1260 : yWd (.instanceMethod yX8_nextLamp) := ⟨lw_in5 _ (List.mem_of_getElem? (i := 227) rfl), rfl⟩
theorem wd_1261 : yWd (.selects RX8 yX8_nextLamp yX8_nextLamp) := ⟨lw_in5 _ (List.mem_of_getElem? (i := 228) rfl), rfl⟩
theorem cv_L_111 : yCV RL 111 12 yX8_nextLamp cX8_nextLamp 8 (some .int) 3 := ⟨_, _, _, cl_X8, wd_1262, wd_1259, wd_1260, wd_1261, wd_74, ⟨by decide, by decide, by decide +kernel⟩, by decide⟩
def K_L_many : yK := (yL_many.cls, yL_many.name, cL_many, 4, (some .int), tableOf [(0, 10, 13, 19)])
def t_L_many : yT := [(0, .aload_n 2, 1), (1, .aload_n 0, 1), (2, .iload_n 1, 1), (3, .invokevirtual 115, 3), (6, .i2l, 1), (7, .putfield 13, 3), (10, .goto 6, 3), (13, .astore_n 3, 1), (14, .iconst 1, 1), (15, .ireturn, 1), (16, .iconst 0, 1), (17, .ireturn, 1)]
theorem tq_L_many : yTok (yK.cc K_L_many) t_L_many := (ychk_ok _ _ 0 rfl (by decide +kernel))
theorem wd_1270 : yWd (.methodLink RL 115 yX8_many) := ⟨lw_in5 _ (List.mem_of_getElem? (i := 237) rfl), rfl⟩
theorem cv_L_115 : yCV RL 115 12 yX8_many cX8_many 2 (some .int) 1 := ⟨_, _, _, cl_X8, wd_449, wd_1270, wd_447, wd_448, wd_74, ⟨by decide, by decide, by decide +kernel⟩, by decide⟩
def K_L_drawn : yK := (yL_drawn.cls, yL_drawn.name, cL_drawn, 5, (some .int), tableOf [(0, 10, 13, 25), (0, 10, 17, 19)])
def t_L_drawn : yT := [(0, .aload_n 3, 1), (1, .aload_n 0, 1), (2, .iload_n 1, 1), (3, .iload_n 2, 1), (4, .invokevirtual 118, 3), (7, .putfield 122, 3), (10, .goto 11, 3), (13, .astore 4, 2), (15, .iconst 1, 1), (16, .ireturn, 1), (17, .astore 4, 2), (19, .iconst 2, 1), (20, .ireturn, 1), (21, .iconst 0, 1), (22, .ireturn, 1)]
theorem tq_L_drawn : yTok (yK.cc K_L_drawn) t_L_drawn := (ychk_ok _ _ 0 rfl (by decide +kernel))
theorem wd_1277 : yWd (.code yX8_drawn cX8_drawn 7 (some (.object "java/lang/String"))) := ⟨lw_in6 _ (List.mem_of_getElem? (i := 4) rfl), rfl⟩
theorem wd_1274 : yWd (.methodLink RL 118 yX8_drawn) := ⟨lw_in6 _ (List.mem_of_getElem? (i := 1) rfl), rfl⟩
theorem wd_1275 : yWd (.instanceMethod yX8_drawn) := ⟨lw_in6 _ (List.mem_of_getElem? (i := 2) rfl), rfl⟩
theorem wd_1276 : yWd (.selects RX8 yX8_drawn yX8_drawn) := ⟨lw_in6 _ (List.mem_of_getElem? (i := 3) rfl), rfl⟩
theorem cv_L_118 : yCV RL 118 12 yX8_drawn cX8_drawn 7 (some (.object "java/lang/String")) 2 := ⟨_, _, _, cl_X8, wd_1277, wd_1274, wd_1275, wd_1276, wd_74, ⟨by decide, by decide, by decide +kernel⟩, by decide⟩
theorem fpn_L_13_X9 : yFPn RL 13 13 0 "NightwatchWallLaw" (.long) := ⟨_, _, _, cl_X9, by decide, rfl, by decide +kernel, lw_in4 _ (List.mem_of_getElem? (i := 40) (by decide +kernel))⟩
theorem fpn_L_122_X9 : yFPn RL 122 13 1 "NightwatchWallLaw" (.object "java/lang/String") := ⟨_, _, _, cl_X9, by decide, rfl, by decide +kernel, lw_in4 _ (List.mem_of_getElem? (i := 41) (by decide +kernel))⟩
def K_L_law (nm : String) (et : List ExceptionTableEntry) : yK := (RL, nm, code, 7, some .boolean, et)
def t_L_h : yT := [(0, .new 8, 3), (3, .dup, 1), (4, .invokespecial 126, 3), (7, .astore_n 1, 1), (8, .new 127, 3), (11, .dup, 1), (12, .invokespecial 129, 3), (15, .astore_n 2, 1), (16, .new 14, 3), (19, .dup, 1), (20, .invokespecial 130, 3), (23, .astore_n 3, 1), (24, .iconst 0, 1), (25, .istore 4, 2), (27, .iload 4, 2), (29, .aload_n 0, 1), (30, .arraylength, 1), (31, .iconst 5, 1), (32, .isub, 1), (33, .if_icmp .gt 1636, 3), (36, .aload_n 0, 1), (37, .iload 4, 2), (39, .iaload, 1), (40, .bipush 63, 2), (42, .iand, 1), (43, .tableswitch 1620 0 33 #[149, 201, 241, 281, 321, 377, 417, 481, 521, 549, 589, 677, 729, 769, 825, 877, 905, 933, 985, 1025, 1065, 1117, 1157, 1197, 1237, 1289, 1329, 1393, 1445, 1513, 1541, 1581, 1594, 1607], 149), (1663, .iinc 4 5, 3), (1666, .goto (-1639), 3), (1669, .iconst 1, 1), (1670, .ireturn, 1)]
theorem tq_L_h : yTok code t_L_h := (yTok_cut 25 (ychk_ok _ _ 0 rfl (by decide +kernel)) (yTok_cut 1 (by unfold yTok; decide +kernel) (ychk_ok _ _ 1663 rfl (by decide +kernel))))
def t_L_0 : yT := [(192, .aload_n 1, 1), (193, .aload_n 0, 1), (194, .iload 4, 2), (196, .iconst 1, 1), (197, .iadd, 1), (198, .iaload, 1), (199, .aload_n 0, 1), (200, .iload 4, 2), (202, .iconst 2, 1), (203, .iadd, 1), (204, .iaload, 1), (205, .aload_n 0, 1), (206, .iload 4, 2), (208, .iconst 3, 1), (209, .iadd, 1), (210, .iaload, 1), (211, .aload_n 3, 1), (212, .invokestatic 131, 3), (215, .istore 5, 2), (217, .aload_n 2, 1), (218, .aload_n 0, 1), (219, .iload 4, 2), (221, .iconst 1, 1), (222, .iadd, 1), (223, .iaload, 1), (224, .aload_n 0, 1), (225, .iload 4, 2), (227, .iconst 2, 1), (228, .iadd, 1), (229, .iaload, 1), (230, .aload_n 0, 1), (231, .iload 4, 2), (233, .iconst 3, 1), (234, .iadd, 1), (235, .iaload, 1), (236, .invokevirtual 136, 3), (239, .istore 6, 2), (241, .goto 1422, 3)]
theorem tq_L_0 : yTok code t_L_0 := (ychk_ok _ _ 192 rfl (by decide +kernel))
def t_L_1 : yT := [(244, .aload_n 1, 1), (245, .aload_n 0, 1), (246, .iload 4, 2), (248, .iconst 1, 1), (249, .iadd, 1), (250, .iaload, 1), (251, .aload_n 0, 1), (252, .iload 4, 2), (254, .iconst 2, 1), (255, .iadd, 1), (256, .iaload, 1), (257, .aload_n 3, 1), (258, .invokestatic 137, 3), (261, .istore 5, 2), (263, .aload_n 2, 1), (264, .aload_n 0, 1), (265, .iload 4, 2), (267, .iconst 1, 1), (268, .iadd, 1), (269, .iaload, 1), (270, .aload_n 0, 1), (271, .iload 4, 2), (273, .iconst 2, 1), (274, .iadd, 1), (275, .iaload, 1), (276, .invokevirtual 140, 3), (279, .istore 6, 2), (281, .goto 1382, 3)]
theorem tq_L_1 : yTok code t_L_1 := (ychk_ok _ _ 244 rfl (by decide +kernel))
def t_L_2 : yT := [(284, .aload_n 1, 1), (285, .aload_n 0, 1), (286, .iload 4, 2), (288, .iconst 1, 1), (289, .iadd, 1), (290, .iaload, 1), (291, .aload_n 0, 1), (292, .iload 4, 2), (294, .iconst 2, 1), (295, .iadd, 1), (296, .iaload, 1), (297, .aload_n 3, 1), (298, .invokestatic 141, 3), (301, .istore 5, 2), (303, .aload_n 2, 1), (304, .aload_n 0, 1), (305, .iload 4, 2), (307, .iconst 1, 1), (308, .iadd, 1), (309, .iaload, 1), (310, .aload_n 0, 1), (311, .iload 4, 2), (313, .iconst 2, 1), (314, .iadd, 1), (315, .iaload, 1), (316, .invokevirtual 143, 3), (319, .istore 6, 2), (321, .goto 1342, 3)]
theorem tq_L_2 : yTok code t_L_2 := (ychk_ok _ _ 284 rfl (by decide +kernel))
def t_L_3 : yT := [(324, .aload_n 1, 1), (325, .aload_n 0, 1), (326, .iload 4, 2), (328, .iconst 1, 1), (329, .iadd, 1), (330, .iaload, 1), (331, .aload_n 0, 1), (332, .iload 4, 2), (334, .iconst 2, 1), (335, .iadd, 1), (336, .iaload, 1), (337, .aload_n 3, 1), (338, .invokestatic 144, 3), (341, .istore 5, 2), (343, .aload_n 2, 1), (344, .aload_n 0, 1), (345, .iload 4, 2), (347, .iconst 1, 1), (348, .iadd, 1), (349, .iaload, 1), (350, .aload_n 0, 1), (351, .iload 4, 2), (353, .iconst 2, 1), (354, .iadd, 1), (355, .iaload, 1), (356, .invokevirtual 146, 3), (359, .istore 6, 2), (361, .goto 1302, 3)]
theorem tq_L_3 : yTok code t_L_3 := (ychk_ok _ _ 324 rfl (by decide +kernel))
def t_L_4 : yT := [(364, .aload_n 1, 1), (365, .aload_n 0, 1), (366, .iload 4, 2), (368, .iconst 1, 1), (369, .iadd, 1), (370, .iaload, 1), (371, .aload_n 0, 1), (372, .iload 4, 2), (374, .iconst 2, 1), (375, .iadd, 1), (376, .iaload, 1), (377, .ifCond .eq 7, 3), (380, .iconst 1, 1), (381, .goto 4, 3), (384, .iconst 0, 1), (385, .aload_n 3, 1), (386, .invokestatic 147, 3), (389, .istore 5, 2), (391, .aload_n 2, 1), (392, .aload_n 0, 1), (393, .iload 4, 2), (395, .iconst 1, 1), (396, .iadd, 1), (397, .iaload, 1), (398, .aload_n 0, 1), (399, .iload 4, 2), (401, .iconst 2, 1), (402, .iadd, 1), (403, .iaload, 1), (404, .ifCond .eq 7, 3), (407, .iconst 1, 1), (408, .goto 4, 3), (411, .iconst 0, 1), (412, .invokevirtual 150, 3), (415, .istore 6, 2), (417, .goto 1246, 3)]
theorem tq_L_4 : yTok code t_L_4 := (ychk_ok _ _ 364 rfl (by decide +kernel))
def t_L_5 : yT := [(420, .aload_n 1, 1), (421, .aload_n 0, 1), (422, .iload 4, 2), (424, .iconst 1, 1), (425, .iadd, 1), (426, .iaload, 1), (427, .aload_n 0, 1), (428, .iload 4, 2), (430, .iconst 2, 1), (431, .iadd, 1), (432, .iaload, 1), (433, .aload_n 3, 1), (434, .invokestatic 151, 3), (437, .istore 5, 2), (439, .aload_n 2, 1), (440, .aload_n 0, 1), (441, .iload 4, 2), (443, .iconst 1, 1), (444, .iadd, 1), (445, .iaload, 1), (446, .aload_n 0, 1), (447, .iload 4, 2), (449, .iconst 2, 1), (450, .iadd, 1), (451, .iaload, 1), (452, .invokevirtual 153, 3), (455, .istore 6, 2), (457, .goto 1206, 3)]
theorem tq_L_5 : yTok code t_L_5 := (ychk_ok _ _ 420 rfl (by decide +kernel))
def t_L_6 : yT := [(460, .aload_n 1, 1), (461, .aload_n 0, 1), (462, .iload 4, 2), (464, .iconst 1, 1), (465, .iadd, 1), (466, .iaload, 1), (467, .aload_n 0, 1), (468, .iload 4, 2), (470, .iconst 2, 1), (471, .iadd, 1), (472, .iaload, 1), (473, .aload_n 0, 1), (474, .iload 4, 2), (476, .iconst 3, 1), (477, .iadd, 1), (478, .iaload, 1), (479, .aload_n 0, 1), (480, .iload 4, 2), (482, .iconst 4, 1), (483, .iadd, 1), (484, .iaload, 1), (485, .aload_n 3, 1), (486, .invokestatic 154, 3), (489, .istore 5, 2), (491, .aload_n 2, 1), (492, .aload_n 0, 1), (493, .iload 4, 2), (495, .iconst 1, 1), (496, .iadd, 1), (497, .iaload, 1), (498, .aload_n 0, 1), (499, .iload 4, 2), (501, .iconst 2, 1), (502, .iadd, 1), (503, .iaload, 1), (504, .aload_n 0, 1), (505, .iload 4, 2), (507, .iconst 3, 1), (508, .iadd, 1), (509, .iaload, 1), (510, .aload_n 0, 1), (511, .iload 4, 2), (513, .iconst 4, 1), (514, .iadd, 1), (515, .iaload, 1), (516, .invokevirtual 157, 3), (519, .istore 6, 2), (521, .goto 1142, 3)]
theorem tq_L_6 : yTok code t_L_6 := (ychk_ok _ _ 460 rfl (by decide +kernel))
def t_L_7 : yT := [(524, .aload_n 1, 1), (525, .aload_n 0, 1), (526, .iload 4, 2), (528, .iconst 1, 1), (529, .iadd, 1), (530, .iaload, 1), (531, .aload_n 0, 1), (532, .iload 4, 2), (534, .iconst 2, 1), (535, .iadd, 1), (536, .iaload, 1), (537, .aload_n 3, 1), (538, .invokestatic 158, 3), (541, .istore 5, 2), (543, .aload_n 2, 1), (544, .aload_n 0, 1), (545, .iload 4, 2), (547, .iconst 1, 1), (548, .iadd, 1), (549, .iaload, 1), (550, .aload_n 0, 1), (551, .iload 4, 2), (553, .iconst 2, 1), (554, .iadd, 1), (555, .iaload, 1), (556, .invokevirtual 160, 3), (559, .istore 6, 2), (561, .goto 1102, 3)]
theorem tq_L_7 : yTok code t_L_7 := (ychk_ok _ _ 524 rfl (by decide +kernel))
def t_L_8 : yT := [(564, .aload_n 1, 1), (565, .aload_n 0, 1), (566, .iload 4, 2), (568, .iconst 1, 1), (569, .iadd, 1), (570, .iaload, 1), (571, .aload_n 3, 1), (572, .invokestatic 161, 3), (575, .istore 5, 2), (577, .aload_n 2, 1), (578, .aload_n 0, 1), (579, .iload 4, 2), (581, .iconst 1, 1), (582, .iadd, 1), (583, .iaload, 1), (584, .invokevirtual 164, 3), (587, .istore 6, 2), (589, .goto 1074, 3)]
theorem tq_L_8 : yTok code t_L_8 := (ychk_ok _ _ 564 rfl (by decide +kernel))
def t_L_9 : yT := [(592, .aload_n 1, 1), (593, .aload_n 0, 1), (594, .iload 4, 2), (596, .iconst 1, 1), (597, .iadd, 1), (598, .iaload, 1), (599, .aload_n 0, 1), (600, .iload 4, 2), (602, .iconst 2, 1), (603, .iadd, 1), (604, .iaload, 1), (605, .aload_n 3, 1), (606, .invokestatic 165, 3), (609, .istore 5, 2), (611, .aload_n 2, 1), (612, .aload_n 0, 1), (613, .iload 4, 2), (615, .iconst 1, 1), (616, .iadd, 1), (617, .iaload, 1), (618, .aload_n 0, 1), (619, .iload 4, 2), (621, .iconst 2, 1), (622, .iadd, 1), (623, .iaload, 1), (624, .invokevirtual 167, 3), (627, .istore 6, 2), (629, .goto 1034, 3)]
theorem tq_L_9 : yTok code t_L_9 := (ychk_ok _ _ 592 rfl (by decide +kernel))
def t_L_10 : yT := [(632, .aload_n 1, 1), (633, .aload_n 0, 1), (634, .iload 4, 2), (636, .iconst 1, 1), (637, .iadd, 1), (638, .iaload, 1), (639, .aload_n 0, 1), (640, .iload 4, 2), (642, .iconst 2, 1), (643, .iadd, 1), (644, .iaload, 1), (645, .aload_n 0, 1), (646, .iload 4, 2), (648, .iconst 3, 1), (649, .iadd, 1), (650, .iaload, 1), (651, .aload_n 3, 1), (652, .invokestatic 168, 3), (655, .istore 5, 2), (657, .aload_n 2, 1), (658, .aload_n 0, 1), (659, .iload 4, 2), (661, .iconst 1, 1), (662, .iadd, 1), (663, .iaload, 1), (664, .aload_n 0, 1), (665, .iload 4, 2), (667, .iconst 2, 1), (668, .iadd, 1), (669, .iaload, 1), (670, .aload_n 0, 1), (671, .iload 4, 2), (673, .iconst 3, 1), (674, .iadd, 1), (675, .iaload, 1), (676, .invokevirtual 170, 3), (679, .istore 6, 2), (681, .aload_n 2, 1), (682, .invokevirtual 171, 3), (685, .iload 5, 2), (687, .if_icmp .eq 5, 3), (690, .iconst 0, 1), (691, .ireturn, 1), (692, .iload 5, 2), (694, .ifCond .ne 23, 3), (697, .aload_n 3, 1), (698, .getfield 13, 3), (701, .iload 6, 2), (703, .ifCond .eq 7, 3), (706, .lconst 1, 1), (707, .goto 4, 3), (710, .lconst 0, 1), (711, .lcmp, 1), (712, .ifCond .eq 5, 3), (715, .iconst 0, 1), (716, .ireturn, 1), (717, .goto 946, 3)]
theorem tq_L_10 : yTok code t_L_10 := (ychk_ok _ _ 632 rfl (by decide +kernel))
def t_L_11 : yT := [(720, .aload_n 1, 1), (721, .aload_n 0, 1), (722, .iload 4, 2), (724, .iconst 1, 1), (725, .iadd, 1), (726, .iaload, 1), (727, .aload_n 0, 1), (728, .iload 4, 2), (730, .iconst 2, 1), (731, .iadd, 1), (732, .iaload, 1), (733, .aload_n 0, 1), (734, .iload 4, 2), (736, .iconst 3, 1), (737, .iadd, 1), (738, .iaload, 1), (739, .aload_n 3, 1), (740, .invokestatic 175, 3), (743, .istore 5, 2), (745, .aload_n 2, 1), (746, .aload_n 0, 1), (747, .iload 4, 2), (749, .iconst 1, 1), (750, .iadd, 1), (751, .iaload, 1), (752, .aload_n 0, 1), (753, .iload 4, 2), (755, .iconst 2, 1), (756, .iadd, 1), (757, .iaload, 1), (758, .aload_n 0, 1), (759, .iload 4, 2), (761, .iconst 3, 1), (762, .iadd, 1), (763, .iaload, 1), (764, .invokevirtual 177, 3), (767, .istore 6, 2), (769, .goto 894, 3)]
theorem tq_L_11 : yTok code t_L_11 := (ychk_ok _ _ 720 rfl (by decide +kernel))
def t_L_12 : yT := [(772, .aload_n 1, 1), (773, .aload_n 0, 1), (774, .iload 4, 2), (776, .iconst 1, 1), (777, .iadd, 1), (778, .iaload, 1), (779, .aload_n 0, 1), (780, .iload 4, 2), (782, .iconst 2, 1), (783, .iadd, 1), (784, .iaload, 1), (785, .aload_n 3, 1), (786, .invokestatic 178, 3), (789, .istore 5, 2), (791, .aload_n 2, 1), (792, .aload_n 0, 1), (793, .iload 4, 2), (795, .iconst 1, 1), (796, .iadd, 1), (797, .iaload, 1), (798, .aload_n 0, 1), (799, .iload 4, 2), (801, .iconst 2, 1), (802, .iadd, 1), (803, .iaload, 1), (804, .invokevirtual 180, 3), (807, .istore 6, 2), (809, .goto 854, 3)]
theorem tq_L_12 : yTok code t_L_12 := (ychk_ok _ _ 772 rfl (by decide +kernel))
def t_L_13 : yT := [(812, .aload_n 1, 1), (813, .aload_n 0, 1), (814, .iload 4, 2), (816, .iconst 1, 1), (817, .iadd, 1), (818, .iaload, 1), (819, .aload_n 0, 1), (820, .iload 4, 2), (822, .iconst 2, 1), (823, .iadd, 1), (824, .iaload, 1), (825, .ifCond .eq 7, 3), (828, .iconst 1, 1), (829, .goto 4, 3), (832, .iconst 0, 1), (833, .aload_n 3, 1), (834, .invokestatic 181, 3), (837, .istore 5, 2), (839, .aload_n 2, 1), (840, .aload_n 0, 1), (841, .iload 4, 2), (843, .iconst 1, 1), (844, .iadd, 1), (845, .iaload, 1), (846, .aload_n 0, 1), (847, .iload 4, 2), (849, .iconst 2, 1), (850, .iadd, 1), (851, .iaload, 1), (852, .ifCond .eq 7, 3), (855, .iconst 1, 1), (856, .goto 4, 3), (859, .iconst 0, 1), (860, .invokevirtual 183, 3), (863, .istore 6, 2), (865, .goto 798, 3)]
theorem tq_L_13 : yTok code t_L_13 := (ychk_ok _ _ 812 rfl (by decide +kernel))
def t_L_14 : yT := [(868, .aload_n 1, 1), (869, .aload_n 0, 1), (870, .iload 4, 2), (872, .iconst 1, 1), (873, .iadd, 1), (874, .iaload, 1), (875, .aload_n 0, 1), (876, .iload 4, 2), (878, .iconst 2, 1), (879, .iadd, 1), (880, .iaload, 1), (881, .aload_n 0, 1), (882, .iload 4, 2), (884, .iconst 3, 1), (885, .iadd, 1), (886, .iaload, 1), (887, .aload_n 3, 1), (888, .invokestatic 184, 3), (891, .istore 5, 2), (893, .aload_n 2, 1), (894, .aload_n 0, 1), (895, .iload 4, 2), (897, .iconst 1, 1), (898, .iadd, 1), (899, .iaload, 1), (900, .aload_n 0, 1), (901, .iload 4, 2), (903, .iconst 2, 1), (904, .iadd, 1), (905, .iaload, 1), (906, .aload_n 0, 1), (907, .iload 4, 2), (909, .iconst 3, 1), (910, .iadd, 1), (911, .iaload, 1), (912, .invokevirtual 186, 3), (915, .istore 6, 2), (917, .goto 746, 3)]
theorem tq_L_14 : yTok code t_L_14 := (ychk_ok _ _ 868 rfl (by decide +kernel))
def t_L_15 : yT := [(920, .aload_n 1, 1), (921, .aload_n 0, 1), (922, .iload 4, 2), (924, .iconst 1, 1), (925, .iadd, 1), (926, .iaload, 1), (927, .aload_n 3, 1), (928, .invokestatic 187, 3), (931, .istore 5, 2), (933, .aload_n 2, 1), (934, .aload_n 0, 1), (935, .iload 4, 2), (937, .iconst 1, 1), (938, .iadd, 1), (939, .iaload, 1), (940, .invokevirtual 189, 3), (943, .istore 6, 2), (945, .goto 718, 3)]
theorem tq_L_15 : yTok code t_L_15 := (ychk_ok _ _ 920 rfl (by decide +kernel))
def t_L_16 : yT := [(948, .aload_n 1, 1), (949, .aload_n 0, 1), (950, .iload 4, 2), (952, .iconst 1, 1), (953, .iadd, 1), (954, .iaload, 1), (955, .aload_n 3, 1), (956, .invokestatic 190, 3), (959, .istore 5, 2), (961, .aload_n 2, 1), (962, .aload_n 0, 1), (963, .iload 4, 2), (965, .iconst 1, 1), (966, .iadd, 1), (967, .iaload, 1), (968, .invokevirtual 192, 3), (971, .istore 6, 2), (973, .goto 690, 3)]
theorem tq_L_16 : yTok code t_L_16 := (ychk_ok _ _ 948 rfl (by decide +kernel))
def t_L_17 : yT := [(976, .aload_n 1, 1), (977, .aload_n 0, 1), (978, .iload 4, 2), (980, .iconst 1, 1), (981, .iadd, 1), (982, .iaload, 1), (983, .aload_n 0, 1), (984, .iload 4, 2), (986, .iconst 2, 1), (987, .iadd, 1), (988, .iaload, 1), (989, .aload_n 0, 1), (990, .iload 4, 2), (992, .iconst 3, 1), (993, .iadd, 1), (994, .iaload, 1), (995, .aload_n 3, 1), (996, .invokestatic 193, 3), (999, .istore 5, 2), (1001, .aload_n 2, 1), (1002, .aload_n 0, 1), (1003, .iload 4, 2), (1005, .iconst 1, 1), (1006, .iadd, 1), (1007, .iaload, 1), (1008, .aload_n 0, 1), (1009, .iload 4, 2), (1011, .iconst 2, 1), (1012, .iadd, 1), (1013, .iaload, 1), (1014, .aload_n 0, 1), (1015, .iload 4, 2), (1017, .iconst 3, 1), (1018, .iadd, 1), (1019, .iaload, 1), (1020, .invokevirtual 195, 3), (1023, .istore 6, 2), (1025, .goto 638, 3)]
theorem tq_L_17 : yTok code t_L_17 := (ychk_ok _ _ 976 rfl (by decide +kernel))
def t_L_18 : yT := [(1028, .aload_n 1, 1), (1029, .aload_n 0, 1), (1030, .iload 4, 2), (1032, .iconst 1, 1), (1033, .iadd, 1), (1034, .iaload, 1), (1035, .aload_n 0, 1), (1036, .iload 4, 2), (1038, .iconst 2, 1), (1039, .iadd, 1), (1040, .iaload, 1), (1041, .aload_n 3, 1), (1042, .invokestatic 196, 3), (1045, .istore 5, 2), (1047, .aload_n 2, 1), (1048, .aload_n 0, 1), (1049, .iload 4, 2), (1051, .iconst 1, 1), (1052, .iadd, 1), (1053, .iaload, 1), (1054, .aload_n 0, 1), (1055, .iload 4, 2), (1057, .iconst 2, 1), (1058, .iadd, 1), (1059, .iaload, 1), (1060, .invokevirtual 198, 3), (1063, .istore 6, 2), (1065, .goto 598, 3)]
theorem tq_L_18 : yTok code t_L_18 := (ychk_ok _ _ 1028 rfl (by decide +kernel))
def t_L_19 : yT := [(1068, .aload_n 1, 1), (1069, .aload_n 0, 1), (1070, .iload 4, 2), (1072, .iconst 1, 1), (1073, .iadd, 1), (1074, .iaload, 1), (1075, .aload_n 0, 1), (1076, .iload 4, 2), (1078, .iconst 2, 1), (1079, .iadd, 1), (1080, .iaload, 1), (1081, .aload_n 3, 1), (1082, .invokestatic 199, 3), (1085, .istore 5, 2), (1087, .aload_n 2, 1), (1088, .aload_n 0, 1), (1089, .iload 4, 2), (1091, .iconst 1, 1), (1092, .iadd, 1), (1093, .iaload, 1), (1094, .aload_n 0, 1), (1095, .iload 4, 2), (1097, .iconst 2, 1), (1098, .iadd, 1), (1099, .iaload, 1), (1100, .invokevirtual 201, 3), (1103, .istore 6, 2), (1105, .goto 558, 3)]
theorem tq_L_19 : yTok code t_L_19 := (ychk_ok _ _ 1068 rfl (by decide +kernel))
def t_L_20 : yT := [(1108, .aload_n 1, 1), (1109, .aload_n 0, 1), (1110, .iload 4, 2), (1112, .iconst 1, 1), (1113, .iadd, 1), (1114, .iaload, 1), (1115, .aload_n 0, 1), (1116, .iload 4, 2), (1118, .iconst 2, 1), (1119, .iadd, 1), (1120, .iaload, 1), (1121, .aload_n 0, 1), (1122, .iload 4, 2), (1124, .iconst 3, 1), (1125, .iadd, 1), (1126, .iaload, 1), (1127, .aload_n 3, 1), (1128, .invokestatic 202, 3), (1131, .istore 5, 2), (1133, .aload_n 2, 1), (1134, .aload_n 0, 1), (1135, .iload 4, 2), (1137, .iconst 1, 1), (1138, .iadd, 1), (1139, .iaload, 1), (1140, .aload_n 0, 1), (1141, .iload 4, 2), (1143, .iconst 2, 1), (1144, .iadd, 1), (1145, .iaload, 1), (1146, .aload_n 0, 1), (1147, .iload 4, 2), (1149, .iconst 3, 1), (1150, .iadd, 1), (1151, .iaload, 1), (1152, .invokevirtual 204, 3), (1155, .istore 6, 2), (1157, .goto 506, 3)]
theorem tq_L_20 : yTok code t_L_20 := (ychk_ok _ _ 1108 rfl (by decide +kernel))
def t_L_21 : yT := [(1160, .aload_n 1, 1), (1161, .aload_n 0, 1), (1162, .iload 4, 2), (1164, .iconst 1, 1), (1165, .iadd, 1), (1166, .iaload, 1), (1167, .aload_n 0, 1), (1168, .iload 4, 2), (1170, .iconst 2, 1), (1171, .iadd, 1), (1172, .iaload, 1), (1173, .aload_n 3, 1), (1174, .invokestatic 205, 3), (1177, .istore 5, 2), (1179, .aload_n 2, 1), (1180, .aload_n 0, 1), (1181, .iload 4, 2), (1183, .iconst 1, 1), (1184, .iadd, 1), (1185, .iaload, 1), (1186, .aload_n 0, 1), (1187, .iload 4, 2), (1189, .iconst 2, 1), (1190, .iadd, 1), (1191, .iaload, 1), (1192, .invokevirtual 207, 3), (1195, .istore 6, 2), (1197, .goto 466, 3)]
theorem tq_L_21 : yTok code t_L_21 := (ychk_ok _ _ 1160 rfl (by decide +kernel))
def t_L_22 : yT := [(1200, .aload_n 1, 1), (1201, .aload_n 0, 1), (1202, .iload 4, 2), (1204, .iconst 1, 1), (1205, .iadd, 1), (1206, .iaload, 1), (1207, .aload_n 0, 1), (1208, .iload 4, 2), (1210, .iconst 2, 1), (1211, .iadd, 1), (1212, .iaload, 1), (1213, .aload_n 3, 1), (1214, .invokestatic 208, 3), (1217, .istore 5, 2), (1219, .aload_n 2, 1), (1220, .aload_n 0, 1), (1221, .iload 4, 2), (1223, .iconst 1, 1), (1224, .iadd, 1), (1225, .iaload, 1), (1226, .aload_n 0, 1), (1227, .iload 4, 2), (1229, .iconst 2, 1), (1230, .iadd, 1), (1231, .iaload, 1), (1232, .invokevirtual 210, 3), (1235, .istore 6, 2), (1237, .goto 426, 3)]
theorem tq_L_22 : yTok code t_L_22 := (ychk_ok _ _ 1200 rfl (by decide +kernel))
def t_L_23 : yT := [(1240, .aload_n 1, 1), (1241, .aload_n 0, 1), (1242, .iload 4, 2), (1244, .iconst 1, 1), (1245, .iadd, 1), (1246, .iaload, 1), (1247, .aload_n 0, 1), (1248, .iload 4, 2), (1250, .iconst 2, 1), (1251, .iadd, 1), (1252, .iaload, 1), (1253, .aload_n 3, 1), (1254, .invokestatic 211, 3), (1257, .istore 5, 2), (1259, .aload_n 2, 1), (1260, .aload_n 0, 1), (1261, .iload 4, 2), (1263, .iconst 1, 1), (1264, .iadd, 1), (1265, .iaload, 1), (1266, .aload_n 0, 1), (1267, .iload 4, 2), (1269, .iconst 2, 1), (1270, .iadd, 1), (1271, .iaload, 1), (1272, .invokevirtual 213, 3), (1275, .istore 6, 2), (1277, .goto 386, 3)]
theorem tq_L_23 : yTok code t_L_23 := (ychk_ok _ _ 1240 rfl (by decide +kernel))
def t_L_24 : yT := [(1280, .aload_n 1, 1), (1281, .aload_n 0, 1), (1282, .iload 4, 2), (1284, .iconst 1, 1), (1285, .iadd, 1), (1286, .iaload, 1), (1287, .aload_n 0, 1), (1288, .iload 4, 2), (1290, .iconst 2, 1), (1291, .iadd, 1), (1292, .iaload, 1), (1293, .aload_n 0, 1), (1294, .iload 4, 2), (1296, .iconst 3, 1), (1297, .iadd, 1), (1298, .iaload, 1), (1299, .aload_n 3, 1), (1300, .invokestatic 214, 3), (1303, .istore 5, 2), (1305, .aload_n 2, 1), (1306, .aload_n 0, 1), (1307, .iload 4, 2), (1309, .iconst 1, 1), (1310, .iadd, 1), (1311, .iaload, 1), (1312, .aload_n 0, 1), (1313, .iload 4, 2), (1315, .iconst 2, 1), (1316, .iadd, 1), (1317, .iaload, 1), (1318, .aload_n 0, 1), (1319, .iload 4, 2), (1321, .iconst 3, 1), (1322, .iadd, 1), (1323, .iaload, 1), (1324, .invokevirtual 216, 3), (1327, .istore 6, 2), (1329, .goto 334, 3)]
theorem tq_L_24 : yTok code t_L_24 := (ychk_ok _ _ 1280 rfl (by decide +kernel))
def t_L_25 : yT := [(1332, .aload_n 1, 1), (1333, .aload_n 0, 1), (1334, .iload 4, 2), (1336, .iconst 1, 1), (1337, .iadd, 1), (1338, .iaload, 1), (1339, .aload_n 0, 1), (1340, .iload 4, 2), (1342, .iconst 2, 1), (1343, .iadd, 1), (1344, .iaload, 1), (1345, .aload_n 3, 1), (1346, .invokestatic 217, 3), (1349, .istore 5, 2), (1351, .aload_n 2, 1), (1352, .aload_n 0, 1), (1353, .iload 4, 2), (1355, .iconst 1, 1), (1356, .iadd, 1), (1357, .iaload, 1), (1358, .aload_n 0, 1), (1359, .iload 4, 2), (1361, .iconst 2, 1), (1362, .iadd, 1), (1363, .iaload, 1), (1364, .invokevirtual 219, 3), (1367, .istore 6, 2), (1369, .goto 294, 3)]
theorem tq_L_25 : yTok code t_L_25 := (ychk_ok _ _ 1332 rfl (by decide +kernel))
def t_L_26 : yT := [(1372, .aload_n 1, 1), (1373, .aload_n 0, 1), (1374, .iload 4, 2), (1376, .iconst 1, 1), (1377, .iadd, 1), (1378, .iaload, 1), (1379, .aload_n 0, 1), (1380, .iload 4, 2), (1382, .iconst 2, 1), (1383, .iadd, 1), (1384, .iaload, 1), (1385, .aload_n 0, 1), (1386, .iload 4, 2), (1388, .iconst 3, 1), (1389, .iadd, 1), (1390, .iaload, 1), (1391, .aload_n 0, 1), (1392, .iload 4, 2), (1394, .iconst 4, 1), (1395, .iadd, 1), (1396, .iaload, 1), (1397, .aload_n 3, 1), (1398, .invokestatic 220, 3), (1401, .istore 5, 2), (1403, .aload_n 2, 1), (1404, .aload_n 0, 1), (1405, .iload 4, 2), (1407, .iconst 1, 1), (1408, .iadd, 1), (1409, .iaload, 1), (1410, .aload_n 0, 1), (1411, .iload 4, 2), (1413, .iconst 2, 1), (1414, .iadd, 1), (1415, .iaload, 1), (1416, .aload_n 0, 1), (1417, .iload 4, 2), (1419, .iconst 3, 1), (1420, .iadd, 1), (1421, .iaload, 1), (1422, .aload_n 0, 1), (1423, .iload 4, 2), (1425, .iconst 4, 1), (1426, .iadd, 1), (1427, .iaload, 1), (1428, .invokevirtual 222, 3), (1431, .istore 6, 2), (1433, .goto 230, 3)]
theorem tq_L_26 : yTok code t_L_26 := (ychk_ok _ _ 1372 rfl (by decide +kernel))
def t_L_27 : yT := [(1436, .aload_n 1, 1), (1437, .aload_n 0, 1), (1438, .iload 4, 2), (1440, .iconst 1, 1), (1441, .iadd, 1), (1442, .iaload, 1), (1443, .aload_n 0, 1), (1444, .iload 4, 2), (1446, .iconst 2, 1), (1447, .iadd, 1), (1448, .iaload, 1), (1449, .aload_n 0, 1), (1450, .iload 4, 2), (1452, .iconst 3, 1), (1453, .iadd, 1), (1454, .iaload, 1), (1455, .aload_n 3, 1), (1456, .invokestatic 223, 3), (1459, .istore 5, 2), (1461, .aload_n 2, 1), (1462, .aload_n 0, 1), (1463, .iload 4, 2), (1465, .iconst 1, 1), (1466, .iadd, 1), (1467, .iaload, 1), (1468, .aload_n 0, 1), (1469, .iload 4, 2), (1471, .iconst 2, 1), (1472, .iadd, 1), (1473, .iaload, 1), (1474, .aload_n 0, 1), (1475, .iload 4, 2), (1477, .iconst 3, 1), (1478, .iadd, 1), (1479, .iaload, 1), (1480, .invokevirtual 225, 3), (1483, .istore 6, 2), (1485, .goto 178, 3)]
theorem tq_L_27 : yTok code t_L_27 := (ychk_ok _ _ 1436 rfl (by decide +kernel))
def t_L_28 : yT := [(1488, .aload_n 1, 1), (1489, .aload_n 0, 1), (1490, .iload 4, 2), (1492, .iconst 1, 1), (1493, .iadd, 1), (1494, .iaload, 1), (1495, .aload_n 0, 1), (1496, .iload 4, 2), (1498, .iconst 2, 1), (1499, .iadd, 1), (1500, .iaload, 1), (1501, .aload_n 0, 1), (1502, .iload 4, 2), (1504, .iconst 3, 1), (1505, .iadd, 1), (1506, .iaload, 1), (1507, .ifCond .eq 7, 3), (1510, .iconst 1, 1), (1511, .goto 4, 3), (1514, .iconst 0, 1), (1515, .aload_n 3, 1), (1516, .invokestatic 226, 3), (1519, .istore 5, 2), (1521, .aload_n 2, 1), (1522, .aload_n 0, 1), (1523, .iload 4, 2), (1525, .iconst 1, 1), (1526, .iadd, 1), (1527, .iaload, 1), (1528, .aload_n 0, 1), (1529, .iload 4, 2), (1531, .iconst 2, 1), (1532, .iadd, 1), (1533, .iaload, 1), (1534, .aload_n 0, 1), (1535, .iload 4, 2), (1537, .iconst 3, 1), (1538, .iadd, 1), (1539, .iaload, 1), (1540, .ifCond .eq 7, 3), (1543, .iconst 1, 1), (1544, .goto 4, 3), (1547, .iconst 0, 1), (1548, .invokevirtual 229, 3), (1551, .istore 6, 2), (1553, .goto 110, 3)]
theorem tq_L_28 : yTok code t_L_28 := (ychk_ok _ _ 1488 rfl (by decide +kernel))
def t_L_29 : yT := [(1556, .aload_n 1, 1), (1557, .aload_n 0, 1), (1558, .iload 4, 2), (1560, .iconst 1, 1), (1561, .iadd, 1), (1562, .iaload, 1), (1563, .aload_n 3, 1), (1564, .invokestatic 230, 3), (1567, .istore 5, 2), (1569, .aload_n 2, 1), (1570, .aload_n 0, 1), (1571, .iload 4, 2), (1573, .iconst 1, 1), (1574, .iadd, 1), (1575, .iaload, 1), (1576, .invokevirtual 232, 3), (1579, .istore 6, 2), (1581, .goto 82, 3)]
theorem tq_L_29 : yTok code t_L_29 := (ychk_ok _ _ 1556 rfl (by decide +kernel))
def t_L_30 : yT := [(1584, .aload_n 1, 1), (1585, .aload_n 0, 1), (1586, .iload 4, 2), (1588, .iconst 1, 1), (1589, .iadd, 1), (1590, .iaload, 1), (1591, .aload_n 0, 1), (1592, .iload 4, 2), (1594, .iconst 2, 1), (1595, .iadd, 1), (1596, .iaload, 1), (1597, .aload_n 3, 1), (1598, .invokestatic 233, 3), (1601, .istore 5, 2), (1603, .aload_n 2, 1), (1604, .aload_n 0, 1), (1605, .iload 4, 2), (1607, .iconst 1, 1), (1608, .iadd, 1), (1609, .iaload, 1), (1610, .aload_n 0, 1), (1611, .iload 4, 2), (1613, .iconst 2, 1), (1614, .iadd, 1), (1615, .iaload, 1), (1616, .invokevirtual 235, 3), (1619, .astore 6, 2), (1621, .goto 42, 3)]
theorem tq_L_30 : yTok code t_L_30 := (ychk_ok _ _ 1584 rfl (by decide +kernel))
def t_L_31 : yT := [(1624, .aload_n 1, 1), (1625, .invokevirtual 236, 3), (1628, .pop, 1), (1629, .aload_n 2, 1), (1630, .invokevirtual 240, 3), (1633, .pop, 1), (1634, .goto 29, 3)]
theorem tq_L_31 : yTok code t_L_31 := (ychk_ok _ _ 1624 rfl (by decide +kernel))
def t_L_32 : yT := [(1637, .aload_n 1, 1), (1638, .invokevirtual 241, 3), (1641, .pop, 1), (1642, .aload_n 2, 1), (1643, .invokevirtual 244, 3), (1646, .pop, 1), (1647, .goto 16, 3)]
theorem tq_L_32 : yTok code t_L_32 := (ychk_ok _ _ 1637 rfl (by decide +kernel))
def t_L_33 : yT := [(1650, .aload_n 1, 1), (1651, .invokevirtual 245, 3), (1654, .pop2, 1), (1655, .aload_n 2, 1), (1656, .invokevirtual 249, 3), (1659, .pop2, 1), (1660, .goto 3, 3)]
theorem tq_L_33 : yTok code t_L_33 := (ychk_ok _ _ 1650 rfl (by decide +kernel))
theorem wd_111 : yWd (.classLink RL 8 RX8) := ⟨lw_in1 _ (List.mem_of_getElem? (i := 38) rfl), rfl⟩
theorem wd_112 : yWd (.instantiable RX8 10) := ⟨lw_in1 _ (List.mem_of_getElem? (i := 39) rfl), rfl⟩
theorem nw_L_8 : yNW RL 8 12 10 [.null, .null, .null, .null, .null, .null, .null, .null, .null, .int 0] := by
  refine ⟨_, _, cl_X8, ?_, wd_111, wd_112, wd_74⟩
  intro ty hty j hj
  match j, hj with
  | 0, h => have e := Option.some.inj ((hty 0 h).symm.trans (tyX8_ok 0 h)); rw [e]; rfl
  | 1, h => have e := Option.some.inj ((hty 1 h).symm.trans (tyX8_ok 1 h)); rw [e]; rfl
  | 2, h => have e := Option.some.inj ((hty 2 h).symm.trans (tyX8_ok 2 h)); rw [e]; rfl
  | 3, h => have e := Option.some.inj ((hty 3 h).symm.trans (tyX8_ok 3 h)); rw [e]; rfl
  | 4, h => have e := Option.some.inj ((hty 4 h).symm.trans (tyX8_ok 4 h)); rw [e]; rfl
  | 5, h => have e := Option.some.inj ((hty 5 h).symm.trans (tyX8_ok 5 h)); rw [e]; rfl
  | 6, h => have e := Option.some.inj ((hty 6 h).symm.trans (tyX8_ok 6 h)); rw [e]; rfl
  | 7, h => have e := Option.some.inj ((hty 7 h).symm.trans (tyX8_ok 7 h)); rw [e]; rfl
  | 8, h => have e := Option.some.inj ((hty 8 h).symm.trans (tyX8_ok 8 h)); rw [e]; rfl
  | 9, h => have e := Option.some.inj ((hty 9 h).symm.trans (tyX8_ok 9 h)); rw [e]; rfl
  | j + 10, h => exact absurd h (by omega)
theorem wd_115 : yWd (.code yX8_init cX8_init 1 none) := ⟨lw_in1 _ (List.mem_of_getElem? (i := 42) rfl), rfl⟩
theorem wd_113 : yWd (.methodLink RL 126 yX8_init) := ⟨lw_in1 _ (List.mem_of_getElem? (i := 40) rfl), rfl⟩
theorem wd_114 : yWd (.instanceMethod yX8_init) := ⟨lw_in1 _ (List.mem_of_getElem? (i := 41) rfl), rfl⟩
theorem ci_L_126 : yCI RL 126 yX8_init cX8_init 1 0 := ⟨wd_115, wd_113, wd_114, wd_74, ⟨by decide, by decide, by decide +kernel⟩, rfl, by decide⟩
theorem wd_1559 : yWd (.classLink RL 127 RX12) := ⟨lw_in7 _ (List.mem_of_getElem? (i := 46) rfl), rfl⟩
theorem wd_1560 : yWd (.instantiable RX12 20) := ⟨lw_in7 _ (List.mem_of_getElem? (i := 47) rfl), rfl⟩
theorem nw_L_127 : yNW RL 127 16 20 [.int 0, .int 0, .int 0, .null, .int 0, .int 0, .null, .null, .null, .null, .int 0, .int 0, .int 0, .null, .null, .int 0, .null, .null, .null, .int 0] := by
  refine ⟨_, _, cl_X12, ?_, wd_1559, wd_1560, wd_83⟩
  intro ty hty j hj
  match j, hj with
  | 0, h => have e := Option.some.inj ((hty 0 h).symm.trans (tyX12_ok 0 h)); rw [e]; rfl
  | 1, h => have e := Option.some.inj ((hty 1 h).symm.trans (tyX12_ok 1 h)); rw [e]; rfl
  | 2, h => have e := Option.some.inj ((hty 2 h).symm.trans (tyX12_ok 2 h)); rw [e]; rfl
  | 3, h => have e := Option.some.inj ((hty 3 h).symm.trans (tyX12_ok 3 h)); rw [e]; rfl
  | 4, h => have e := Option.some.inj ((hty 4 h).symm.trans (tyX12_ok 4 h)); rw [e]; rfl
  | 5, h => have e := Option.some.inj ((hty 5 h).symm.trans (tyX12_ok 5 h)); rw [e]; rfl
  | 6, h => have e := Option.some.inj ((hty 6 h).symm.trans (tyX12_ok 6 h)); rw [e]; rfl
  | 7, h => have e := Option.some.inj ((hty 7 h).symm.trans (tyX12_ok 7 h)); rw [e]; rfl
  | 8, h => have e := Option.some.inj ((hty 8 h).symm.trans (tyX12_ok 8 h)); rw [e]; rfl
  | 9, h => have e := Option.some.inj ((hty 9 h).symm.trans (tyX12_ok 9 h)); rw [e]; rfl
  | 10, h => have e := Option.some.inj ((hty 10 h).symm.trans (tyX12_ok 10 h)); rw [e]; rfl
  | 11, h => have e := Option.some.inj ((hty 11 h).symm.trans (tyX12_ok 11 h)); rw [e]; rfl
  | 12, h => have e := Option.some.inj ((hty 12 h).symm.trans (tyX12_ok 12 h)); rw [e]; rfl
  | 13, h => have e := Option.some.inj ((hty 13 h).symm.trans (tyX12_ok 13 h)); rw [e]; rfl
  | 14, h => have e := Option.some.inj ((hty 14 h).symm.trans (tyX12_ok 14 h)); rw [e]; rfl
  | 15, h => have e := Option.some.inj ((hty 15 h).symm.trans (tyX12_ok 15 h)); rw [e]; rfl
  | 16, h => have e := Option.some.inj ((hty 16 h).symm.trans (tyX12_ok 16 h)); rw [e]; rfl
  | 17, h => have e := Option.some.inj ((hty 17 h).symm.trans (tyX12_ok 17 h)); rw [e]; rfl
  | 18, h => have e := Option.some.inj ((hty 18 h).symm.trans (tyX12_ok 18 h)); rw [e]; rfl
  | 19, h => have e := Option.some.inj ((hty 19 h).symm.trans (tyX12_ok 19 h)); rw [e]; rfl
  | j + 20, h => exact absurd h (by omega)
theorem wd_1563 : yWd (.code yX12_init cX12_init 1 none) := ⟨lw_in7 _ (List.mem_of_getElem? (i := 50) rfl), rfl⟩
theorem wd_1561 : yWd (.methodLink RL 129 yX12_init) := ⟨lw_in7 _ (List.mem_of_getElem? (i := 48) rfl), rfl⟩
theorem wd_1562 : yWd (.instanceMethod yX12_init) := ⟨lw_in7 _ (List.mem_of_getElem? (i := 49) rfl), rfl⟩
theorem ci_L_129 : yCI RL 129 yX12_init cX12_init 1 0 := ⟨wd_1563, wd_1561, wd_1562, wd_83, ⟨by decide, by decide, by decide +kernel⟩, rfl, by decide⟩
theorem wd_827 : yWd (.classLink RL 14 RX9) := ⟨lw_in4 _ (List.mem_of_getElem? (i := 34) rfl), rfl⟩
theorem wd_828 : yWd (.instantiable RX9 2) := ⟨lw_in4 _ (List.mem_of_getElem? (i := 35) rfl), rfl⟩
theorem wd_89 : yWd (.initialized RX9) := ⟨lw_in1 _ (List.mem_of_getElem? (i := 16) rfl), rfl⟩
theorem nw_L_14 : yNW RL 14 13 2 [.long 0, .null] := by
  refine ⟨_, _, cl_X9, ?_, wd_827, wd_828, wd_89⟩
  intro ty hty j hj
  match j, hj with
  | 0, h => have e := Option.some.inj ((hty 0 h).symm.trans (tyX9_ok 0 h)); rw [e]; rfl
  | 1, h => have e := Option.some.inj ((hty 1 h).symm.trans (tyX9_ok 1 h)); rw [e]; rfl
  | j + 2, h => exact absurd h (by omega)
theorem wd_831 : yWd (.code yX9_init cX9_init 1 none) := ⟨lw_in4 _ (List.mem_of_getElem? (i := 38) rfl), rfl⟩
theorem wd_830 : yWd (.instanceMethod yX9_init) := ⟨lw_in4 _ (List.mem_of_getElem? (i := 37) rfl), rfl⟩
theorem ci_L_130 : yCIN RL 130 yX9_init "NightwatchWallLaw" cX9_init 1 0 := ⟨wd_831, (lw_in4 _ (List.mem_of_getElem? (i := 36) (by decide +kernel))), wd_830, wd_89, ⟨by decide, by decide, by decide +kernel⟩, rfl, by decide⟩
theorem wd_1694 : yWd (.code yX12_base cX12_base 8 (some .int)) := ⟨lw_in7 _ (List.mem_of_getElem? (i := 181) rfl), rfl⟩
theorem wd_1691 : yWd (.methodLink RL 136 yX12_base) := ⟨lw_in7 _ (List.mem_of_getElem? (i := 178) rfl), rfl⟩
theorem wd_1692 : yWd (.instanceMethod yX12_base) := ⟨lw_in7 _ (List.mem_of_getElem? (i := 179) rfl), rfl⟩
theorem wd_1693 : yWd (.selects RX12 yX12_base yX12_base) := ⟨lw_in7 _ (List.mem_of_getElem? (i := 180) rfl), rfl⟩
theorem cv_L_136 : yCV RL 136 16 yX12_base cX12_base 8 (some .int) 3 := ⟨_, _, _, cl_X12, wd_1694, wd_1691, wd_1692, wd_1693, wd_83, ⟨by decide, by decide, by decide +kernel⟩, by decide⟩
theorem wd_1705 : yWd (.code yX12_lay cX12_lay 4 (some .int)) := ⟨lw_in7 _ (List.mem_of_getElem? (i := 192) rfl), rfl⟩
theorem wd_1702 : yWd (.methodLink RL 140 yX12_lay) := ⟨lw_in7 _ (List.mem_of_getElem? (i := 189) rfl), rfl⟩
theorem wd_1703 : yWd (.instanceMethod yX12_lay) := ⟨lw_in7 _ (List.mem_of_getElem? (i := 190) rfl), rfl⟩
theorem wd_1704 : yWd (.selects RX12 yX12_lay yX12_lay) := ⟨lw_in7 _ (List.mem_of_getElem? (i := 191) rfl), rfl⟩
theorem cv_L_140 : yCV RL 140 16 yX12_lay cX12_lay 4 (some .int) 2 := ⟨_, _, _, cl_X12, wd_1705, wd_1702, wd_1703, wd_1704, wd_83, ⟨by decide, by decide, by decide +kernel⟩, by decide⟩
theorem wd_1728 : yWd (.code yX12_gates cX12_gates 8 (some .int)) := ⟨lw_in7 _ (List.mem_of_getElem? (i := 215) rfl), rfl⟩
theorem wd_1725 : yWd (.methodLink RL 143 yX12_gates) := ⟨lw_in7 _ (List.mem_of_getElem? (i := 212) rfl), rfl⟩
theorem wd_1726 : yWd (.instanceMethod yX12_gates) := ⟨lw_in7 _ (List.mem_of_getElem? (i := 213) rfl), rfl⟩
theorem wd_1727 : yWd (.selects RX12 yX12_gates yX12_gates) := ⟨lw_in7 _ (List.mem_of_getElem? (i := 214) rfl), rfl⟩
theorem cv_L_143 : yCV RL 143 16 yX12_gates cX12_gates 8 (some .int) 2 := ⟨_, _, _, cl_X12, wd_1728, wd_1725, wd_1726, wd_1727, wd_83, ⟨by decide, by decide, by decide +kernel⟩, by decide⟩
theorem wd_1735 : yWd (.code yX12_lamp cX12_lamp 3 (some .int)) := ⟨lw_in7 _ (List.mem_of_getElem? (i := 222) rfl), rfl⟩
theorem wd_1732 : yWd (.methodLink RL 146 yX12_lamp) := ⟨lw_in7 _ (List.mem_of_getElem? (i := 219) rfl), rfl⟩
theorem wd_1733 : yWd (.instanceMethod yX12_lamp) := ⟨lw_in7 _ (List.mem_of_getElem? (i := 220) rfl), rfl⟩
theorem wd_1734 : yWd (.selects RX12 yX12_lamp yX12_lamp) := ⟨lw_in7 _ (List.mem_of_getElem? (i := 221) rfl), rfl⟩
theorem cv_L_146 : yCV RL 146 16 yX12_lamp cX12_lamp 3 (some .int) 2 := ⟨_, _, _, cl_X12, wd_1735, wd_1732, wd_1733, wd_1734, wd_83, ⟨by decide, by decide, by decide +kernel⟩, by decide⟩
theorem wd_1796 : yWd (.code yX12_light cX12_light 3 (some .int)) := ⟨lw_in8 _ (List.mem_of_getElem? (i := 43) rfl), rfl⟩
theorem wd_1793 : yWd (.methodLink RL 150 yX12_light) := ⟨lw_in8 _ (List.mem_of_getElem? (i := 40) rfl), rfl⟩
theorem wd_1794 : yWd (.instanceMethod yX12_light) := ⟨lw_in8 _ (List.mem_of_getElem? (i := 41) rfl), rfl⟩
theorem wd_1795 : yWd (.selects RX12 yX12_light yX12_light) := ⟨lw_in8 _ (List.mem_of_getElem? (i := 42) rfl), rfl⟩
theorem cv_L_150 : yCV RL 150 16 yX12_light cX12_light 3 (some .int) 2 := ⟨_, _, _, cl_X12, wd_1796, wd_1793, wd_1794, wd_1795, wd_83, ⟨by decide, by decide, by decide +kernel⟩, by decide⟩
theorem wd_1827 : yWd (.code yX12_fog cX12_fog 3 (some .int)) := ⟨lw_in8 _ (List.mem_of_getElem? (i := 74) rfl), rfl⟩
theorem wd_1824 : yWd (.methodLink RL 153 yX12_fog) := ⟨lw_in8 _ (List.mem_of_getElem? (i := 71) rfl), rfl⟩
theorem wd_1825 : yWd (.instanceMethod yX12_fog) := ⟨lw_in8 _ (List.mem_of_getElem? (i := 72) rfl), rfl⟩
theorem wd_1826 : yWd (.selects RX12 yX12_fog yX12_fog) := ⟨lw_in8 _ (List.mem_of_getElem? (i := 73) rfl), rfl⟩
theorem cv_L_153 : yCV RL 153 16 yX12_fog cX12_fog 3 (some .int) 2 := ⟨_, _, _, cl_X12, wd_1827, wd_1824, wd_1825, wd_1826, wd_83, ⟨by decide, by decide, by decide +kernel⟩, by decide⟩
theorem wd_1831 : yWd (.code yX12_guard cX12_guard 5 (some .int)) := ⟨lw_in8 _ (List.mem_of_getElem? (i := 78) rfl), rfl⟩
theorem wd_1828 : yWd (.methodLink RL 157 yX12_guard) := ⟨lw_in8 _ (List.mem_of_getElem? (i := 75) rfl), rfl⟩
theorem wd_1829 : yWd (.instanceMethod yX12_guard) := ⟨lw_in8 _ (List.mem_of_getElem? (i := 76) rfl), rfl⟩
theorem wd_1830 : yWd (.selects RX12 yX12_guard yX12_guard) := ⟨lw_in8 _ (List.mem_of_getElem? (i := 77) rfl), rfl⟩
theorem cv_L_157 : yCV RL 157 16 yX12_guard cX12_guard 5 (some .int) 4 := ⟨_, _, _, cl_X12, wd_1831, wd_1828, wd_1829, wd_1830, wd_83, ⟨by decide, by decide, by decide +kernel⟩, by decide⟩
theorem wd_1887 : yWd (.code yX12_round cX12_round 4 (some .int)) := ⟨lw_in8 _ (List.mem_of_getElem? (i := 134) rfl), rfl⟩
theorem wd_1884 : yWd (.methodLink RL 160 yX12_round) := ⟨lw_in8 _ (List.mem_of_getElem? (i := 131) rfl), rfl⟩
theorem wd_1885 : yWd (.instanceMethod yX12_round) := ⟨lw_in8 _ (List.mem_of_getElem? (i := 132) rfl), rfl⟩
theorem wd_1886 : yWd (.selects RX12 yX12_round yX12_round) := ⟨lw_in8 _ (List.mem_of_getElem? (i := 133) rfl), rfl⟩
theorem cv_L_160 : yCV RL 160 16 yX12_round cX12_round 4 (some .int) 2 := ⟨_, _, _, cl_X12, wd_1887, wd_1884, wd_1885, wd_1886, wd_83, ⟨by decide, by decide, by decide +kernel⟩, by decide⟩
theorem wd_1896 : yWd (.code yX12_post cX12_post 2 (some .int)) := ⟨lw_in8 _ (List.mem_of_getElem? (i := 143) rfl), rfl⟩
theorem wd_1893 : yWd (.methodLink RL 164 yX12_post) := ⟨lw_in8 _ (List.mem_of_getElem? (i := 140) rfl), rfl⟩
theorem wd_1894 : yWd (.instanceMethod yX12_post) := ⟨lw_in8 _ (List.mem_of_getElem? (i := 141) rfl), rfl⟩
theorem wd_1895 : yWd (.selects RX12 yX12_post yX12_post) := ⟨lw_in8 _ (List.mem_of_getElem? (i := 142) rfl), rfl⟩
theorem cv_L_164 : yCV RL 164 16 yX12_post cX12_post 2 (some .int) 1 := ⟨_, _, _, cl_X12, wd_1896, wd_1893, wd_1894, wd_1895, wd_83, ⟨by decide, by decide, by decide +kernel⟩, by decide⟩
theorem wd_1900 : yWd (.code yX12_place cX12_place 3 (some .int)) := ⟨lw_in8 _ (List.mem_of_getElem? (i := 147) rfl), rfl⟩
theorem wd_1897 : yWd (.methodLink RL 167 yX12_place) := ⟨lw_in8 _ (List.mem_of_getElem? (i := 144) rfl), rfl⟩
theorem wd_1898 : yWd (.instanceMethod yX12_place) := ⟨lw_in8 _ (List.mem_of_getElem? (i := 145) rfl), rfl⟩
theorem wd_1899 : yWd (.selects RX12 yX12_place yX12_place) := ⟨lw_in8 _ (List.mem_of_getElem? (i := 146) rfl), rfl⟩
theorem cv_L_167 : yCV RL 167 16 yX12_place cX12_place 3 (some .int) 2 := ⟨_, _, _, cl_X12, wd_1900, wd_1897, wd_1898, wd_1899, wd_83, ⟨by decide, by decide, by decide +kernel⟩, by decide⟩
theorem wd_1919 : yWd (.code yX12_sees_ cX12_sees_ 4 (some .boolean)) := ⟨lw_in8 _ (List.mem_of_getElem? (i := 166) rfl), rfl⟩
theorem wd_1916 : yWd (.methodLink RL 170 yX12_sees_) := ⟨lw_in8 _ (List.mem_of_getElem? (i := 163) rfl), rfl⟩
theorem wd_1917 : yWd (.instanceMethod yX12_sees_) := ⟨lw_in8 _ (List.mem_of_getElem? (i := 164) rfl), rfl⟩
theorem wd_1918 : yWd (.selects RX12 yX12_sees_ yX12_sees_) := ⟨lw_in8 _ (List.mem_of_getElem? (i := 165) rfl), rfl⟩
theorem cv_L_170 : yCV RL 170 16 yX12_sees_ cX12_sees_ 4 (some .boolean) 3 := ⟨_, _, _, cl_X12, wd_1919, wd_1916, wd_1917, wd_1918, wd_83, ⟨by decide, by decide, by decide +kernel⟩, by decide⟩
theorem wd_1690 : yWd (.code yX12_thrown cX12_thrown 1 (some .int)) := ⟨lw_in7 _ (List.mem_of_getElem? (i := 177) rfl), rfl⟩
theorem wd_1687 : yWd (.methodLink RL 171 yX12_thrown) := ⟨lw_in7 _ (List.mem_of_getElem? (i := 174) rfl), rfl⟩
theorem wd_1688 : yWd (.instanceMethod yX12_thrown) := ⟨lw_in7 _ (List.mem_of_getElem? (i := 175) rfl), rfl⟩
theorem wd_1689 : yWd (.selects RX12 yX12_thrown yX12_thrown) := ⟨lw_in7 _ (List.mem_of_getElem? (i := 176) rfl), rfl⟩
theorem cv_L_171 : yCV RL 171 16 yX12_thrown cX12_thrown 1 (some .int) 0 := ⟨_, _, _, cl_X12, wd_1690, wd_1687, wd_1688, wd_1689, wd_83, ⟨by decide, by decide, by decide +kernel⟩, by decide⟩
theorem wd_1943 : yWd (.code yX12_ofCell cX12_ofCell 4 (some .int)) := ⟨lw_in8 _ (List.mem_of_getElem? (i := 190) rfl), rfl⟩
theorem wd_1940 : yWd (.methodLink RL 177 yX12_ofCell) := ⟨lw_in8 _ (List.mem_of_getElem? (i := 187) rfl), rfl⟩
theorem wd_1941 : yWd (.instanceMethod yX12_ofCell) := ⟨lw_in8 _ (List.mem_of_getElem? (i := 188) rfl), rfl⟩
theorem wd_1942 : yWd (.selects RX12 yX12_ofCell yX12_ofCell) := ⟨lw_in8 _ (List.mem_of_getElem? (i := 189) rfl), rfl⟩
theorem cv_L_177 : yCV RL 177 16 yX12_ofCell cX12_ofCell 4 (some .int) 3 := ⟨_, _, _, cl_X12, wd_1943, wd_1940, wd_1941, wd_1942, wd_83, ⟨by decide, by decide, by decide +kernel⟩, by decide⟩
theorem wd_1959 : yWd (.code yX12_ofMinute cX12_ofMinute 3 (some .int)) := ⟨lw_in8 _ (List.mem_of_getElem? (i := 206) rfl), rfl⟩
theorem wd_1956 : yWd (.methodLink RL 180 yX12_ofMinute) := ⟨lw_in8 _ (List.mem_of_getElem? (i := 203) rfl), rfl⟩
theorem wd_1957 : yWd (.instanceMethod yX12_ofMinute) := ⟨lw_in8 _ (List.mem_of_getElem? (i := 204) rfl), rfl⟩
theorem wd_1958 : yWd (.selects RX12 yX12_ofMinute yX12_ofMinute) := ⟨lw_in8 _ (List.mem_of_getElem? (i := 205) rfl), rfl⟩
theorem cv_L_180 : yCV RL 180 16 yX12_ofMinute cX12_ofMinute 3 (some .int) 2 := ⟨_, _, _, cl_X12, wd_1959, wd_1956, wd_1957, wd_1958, wd_83, ⟨by decide, by decide, by decide +kernel⟩, by decide⟩
theorem wd_1972 : yWd (.code yX12_empty cX12_empty 3 (some .int)) := ⟨lw_in8 _ (List.mem_of_getElem? (i := 219) rfl), rfl⟩
theorem wd_1969 : yWd (.methodLink RL 183 yX12_empty) := ⟨lw_in8 _ (List.mem_of_getElem? (i := 216) rfl), rfl⟩
theorem wd_1970 : yWd (.instanceMethod yX12_empty) := ⟨lw_in8 _ (List.mem_of_getElem? (i := 217) rfl), rfl⟩
theorem wd_1971 : yWd (.selects RX12 yX12_empty yX12_empty) := ⟨lw_in8 _ (List.mem_of_getElem? (i := 218) rfl), rfl⟩
theorem cv_L_183 : yCV RL 183 16 yX12_empty cX12_empty 3 (some .int) 2 := ⟨_, _, _, cl_X12, wd_1972, wd_1969, wd_1970, wd_1971, wd_83, ⟨by decide, by decide, by decide +kernel⟩, by decide⟩
theorem wd_1980 : yWd (.code yX12_lapse cX12_lapse 5 (some .int)) := ⟨lw_in8 _ (List.mem_of_getElem? (i := 227) rfl), rfl⟩
theorem wd_1977 : yWd (.methodLink RL 186 yX12_lapse) := ⟨lw_in8 _ (List.mem_of_getElem? (i := 224) rfl), rfl⟩
theorem wd_1978 : yWd (.instanceMethod yX12_lapse) := ⟨lw_in8 _ (List.mem_of_getElem? (i := 225) rfl), rfl⟩
theorem wd_1979 : yWd (.selects RX12 yX12_lapse yX12_lapse) := ⟨lw_in8 _ (List.mem_of_getElem? (i := 226) rfl), rfl⟩
theorem cv_L_186 : yCV RL 186 16 yX12_lapse cX12_lapse 5 (some .int) 3 := ⟨_, _, _, cl_X12, wd_1980, wd_1977, wd_1978, wd_1979, wd_83, ⟨by decide, by decide, by decide +kernel⟩, by decide⟩
theorem wd_1984 : yWd (.code yX12_words cX12_words 2 (some .int)) := ⟨lw_in8 _ (List.mem_of_getElem? (i := 231) rfl), rfl⟩
theorem wd_1981 : yWd (.methodLink RL 189 yX12_words) := ⟨lw_in8 _ (List.mem_of_getElem? (i := 228) rfl), rfl⟩
theorem wd_1982 : yWd (.instanceMethod yX12_words) := ⟨lw_in8 _ (List.mem_of_getElem? (i := 229) rfl), rfl⟩
theorem wd_1983 : yWd (.selects RX12 yX12_words yX12_words) := ⟨lw_in8 _ (List.mem_of_getElem? (i := 230) rfl), rfl⟩
theorem cv_L_189 : yCV RL 189 16 yX12_words cX12_words 2 (some .int) 1 := ⟨_, _, _, cl_X12, wd_1984, wd_1981, wd_1982, wd_1983, wd_83, ⟨by decide, by decide, by decide +kernel⟩, by decide⟩
theorem wd_1988 : yWd (.code yX12_leak cX12_leak 2 (some .int)) := ⟨lw_in8 _ (List.mem_of_getElem? (i := 235) rfl), rfl⟩
theorem wd_1985 : yWd (.methodLink RL 192 yX12_leak) := ⟨lw_in8 _ (List.mem_of_getElem? (i := 232) rfl), rfl⟩
theorem wd_1986 : yWd (.instanceMethod yX12_leak) := ⟨lw_in8 _ (List.mem_of_getElem? (i := 233) rfl), rfl⟩
theorem wd_1987 : yWd (.selects RX12 yX12_leak yX12_leak) := ⟨lw_in8 _ (List.mem_of_getElem? (i := 234) rfl), rfl⟩
theorem cv_L_192 : yCV RL 192 16 yX12_leak cX12_leak 2 (some .int) 1 := ⟨_, _, _, cl_X12, wd_1988, wd_1985, wd_1986, wd_1987, wd_83, ⟨by decide, by decide, by decide +kernel⟩, by decide⟩
theorem wd_1992 : yWd (.code yX12_answer cX12_answer 6 (some .int)) := ⟨lw_in8 _ (List.mem_of_getElem? (i := 239) rfl), rfl⟩
theorem wd_1989 : yWd (.methodLink RL 195 yX12_answer) := ⟨lw_in8 _ (List.mem_of_getElem? (i := 236) rfl), rfl⟩
theorem wd_1990 : yWd (.instanceMethod yX12_answer) := ⟨lw_in8 _ (List.mem_of_getElem? (i := 237) rfl), rfl⟩
theorem wd_1991 : yWd (.selects RX12 yX12_answer yX12_answer) := ⟨lw_in8 _ (List.mem_of_getElem? (i := 238) rfl), rfl⟩
theorem cv_L_195 : yCV RL 195 16 yX12_answer cX12_answer 6 (some .int) 3 := ⟨_, _, _, cl_X12, wd_1992, wd_1989, wd_1990, wd_1991, wd_83, ⟨by decide, by decide, by decide +kernel⟩, by decide⟩
theorem wd_2000 : yWd (.code yX12_key cX12_key 4 (some .int)) := ⟨lw_in9 _ (List.mem_of_getElem? (i := 7) rfl), rfl⟩
theorem wd_1997 : yWd (.methodLink RL 198 yX12_key) := ⟨lw_in9 _ (List.mem_of_getElem? (i := 4) rfl), rfl⟩
theorem wd_1998 : yWd (.instanceMethod yX12_key) := ⟨lw_in9 _ (List.mem_of_getElem? (i := 5) rfl), rfl⟩
theorem wd_1999 : yWd (.selects RX12 yX12_key yX12_key) := ⟨lw_in9 _ (List.mem_of_getElem? (i := 6) rfl), rfl⟩
theorem cv_L_198 : yCV RL 198 16 yX12_key cX12_key 4 (some .int) 2 := ⟨_, _, _, cl_X12, wd_2000, wd_1997, wd_1998, wd_1999, wd_83, ⟨by decide, by decide, by decide +kernel⟩, by decide⟩
theorem wd_2004 : yWd (.code yX12_ofGuard cX12_ofGuard 3 (some .int)) := ⟨lw_in9 _ (List.mem_of_getElem? (i := 11) rfl), rfl⟩
theorem wd_2001 : yWd (.methodLink RL 201 yX12_ofGuard) := ⟨lw_in9 _ (List.mem_of_getElem? (i := 8) rfl), rfl⟩
theorem wd_2002 : yWd (.instanceMethod yX12_ofGuard) := ⟨lw_in9 _ (List.mem_of_getElem? (i := 9) rfl), rfl⟩
theorem wd_2003 : yWd (.selects RX12 yX12_ofGuard yX12_ofGuard) := ⟨lw_in9 _ (List.mem_of_getElem? (i := 10) rfl), rfl⟩
theorem cv_L_201 : yCV RL 201 16 yX12_ofGuard cX12_ofGuard 3 (some .int) 2 := ⟨_, _, _, cl_X12, wd_2004, wd_2001, wd_2002, wd_2003, wd_83, ⟨by decide, by decide, by decide +kernel⟩, by decide⟩
theorem wd_2012 : yWd (.code yX12_intruder cX12_intruder 8 (some .int)) := ⟨lw_in9 _ (List.mem_of_getElem? (i := 19) rfl), rfl⟩
theorem wd_2009 : yWd (.methodLink RL 204 yX12_intruder) := ⟨lw_in9 _ (List.mem_of_getElem? (i := 16) rfl), rfl⟩
theorem wd_2010 : yWd (.instanceMethod yX12_intruder) := ⟨lw_in9 _ (List.mem_of_getElem? (i := 17) rfl), rfl⟩
theorem wd_2011 : yWd (.selects RX12 yX12_intruder yX12_intruder) := ⟨lw_in9 _ (List.mem_of_getElem? (i := 18) rfl), rfl⟩
theorem cv_L_204 : yCV RL 204 16 yX12_intruder cX12_intruder 8 (some .int) 3 := ⟨_, _, _, cl_X12, wd_2012, wd_2009, wd_2010, wd_2011, wd_83, ⟨by decide, by decide, by decide +kernel⟩, by decide⟩
theorem wd_2051 : yWd (.code yX12_wire cX12_wire 3 (some .int)) := ⟨lw_in9 _ (List.mem_of_getElem? (i := 58) rfl), rfl⟩
theorem wd_2048 : yWd (.methodLink RL 207 yX12_wire) := ⟨lw_in9 _ (List.mem_of_getElem? (i := 55) rfl), rfl⟩
theorem wd_2049 : yWd (.instanceMethod yX12_wire) := ⟨lw_in9 _ (List.mem_of_getElem? (i := 56) rfl), rfl⟩
theorem wd_2050 : yWd (.selects RX12 yX12_wire yX12_wire) := ⟨lw_in9 _ (List.mem_of_getElem? (i := 57) rfl), rfl⟩
theorem cv_L_207 : yCV RL 207 16 yX12_wire cX12_wire 3 (some .int) 2 := ⟨_, _, _, cl_X12, wd_2051, wd_2048, wd_2049, wd_2050, wd_83, ⟨by decide, by decide, by decide +kernel⟩, by decide⟩
theorem wd_2055 : yWd (.code yX12_where cX12_where 3 (some .int)) := ⟨lw_in9 _ (List.mem_of_getElem? (i := 62) rfl), rfl⟩
theorem wd_2052 : yWd (.methodLink RL 210 yX12_where) := ⟨lw_in9 _ (List.mem_of_getElem? (i := 59) rfl), rfl⟩
theorem wd_2053 : yWd (.instanceMethod yX12_where) := ⟨lw_in9 _ (List.mem_of_getElem? (i := 60) rfl), rfl⟩
theorem wd_2054 : yWd (.selects RX12 yX12_where yX12_where) := ⟨lw_in9 _ (List.mem_of_getElem? (i := 61) rfl), rfl⟩
theorem cv_L_210 : yCV RL 210 16 yX12_where cX12_where 3 (some .int) 2 := ⟨_, _, _, cl_X12, wd_2055, wd_2052, wd_2053, wd_2054, wd_83, ⟨by decide, by decide, by decide +kernel⟩, by decide⟩
theorem wd_2063 : yWd (.code yX12_ofIntruder cX12_ofIntruder 3 (some .int)) := ⟨lw_in9 _ (List.mem_of_getElem? (i := 70) rfl), rfl⟩
theorem wd_2060 : yWd (.methodLink RL 213 yX12_ofIntruder) := ⟨lw_in9 _ (List.mem_of_getElem? (i := 67) rfl), rfl⟩
theorem wd_2061 : yWd (.instanceMethod yX12_ofIntruder) := ⟨lw_in9 _ (List.mem_of_getElem? (i := 68) rfl), rfl⟩
theorem wd_2062 : yWd (.selects RX12 yX12_ofIntruder yX12_ofIntruder) := ⟨lw_in9 _ (List.mem_of_getElem? (i := 69) rfl), rfl⟩
theorem cv_L_213 : yCV RL 213 16 yX12_ofIntruder cX12_ofIntruder 3 (some .int) 2 := ⟨_, _, _, cl_X12, wd_2063, wd_2060, wd_2061, wd_2062, wd_83, ⟨by decide, by decide, by decide +kernel⟩, by decide⟩
theorem wd_2087 : yWd (.code yX12_force cX12_force 6 (some .int)) := ⟨lw_in9 _ (List.mem_of_getElem? (i := 94) rfl), rfl⟩
theorem wd_2084 : yWd (.methodLink RL 216 yX12_force) := ⟨lw_in9 _ (List.mem_of_getElem? (i := 91) rfl), rfl⟩
theorem wd_2085 : yWd (.instanceMethod yX12_force) := ⟨lw_in9 _ (List.mem_of_getElem? (i := 92) rfl), rfl⟩
theorem wd_2086 : yWd (.selects RX12 yX12_force yX12_force) := ⟨lw_in9 _ (List.mem_of_getElem? (i := 93) rfl), rfl⟩
theorem cv_L_216 : yCV RL 216 16 yX12_force cX12_force 6 (some .int) 3 := ⟨_, _, _, cl_X12, wd_2087, wd_2084, wd_2085, wd_2086, wd_83, ⟨by decide, by decide, by decide +kernel⟩, by decide⟩
theorem wd_2091 : yWd (.code yX12_ofWire cX12_ofWire 3 (some .int)) := ⟨lw_in9 _ (List.mem_of_getElem? (i := 98) rfl), rfl⟩
theorem wd_2088 : yWd (.methodLink RL 219 yX12_ofWire) := ⟨lw_in9 _ (List.mem_of_getElem? (i := 95) rfl), rfl⟩
theorem wd_2089 : yWd (.instanceMethod yX12_ofWire) := ⟨lw_in9 _ (List.mem_of_getElem? (i := 96) rfl), rfl⟩
theorem wd_2090 : yWd (.selects RX12 yX12_ofWire yX12_ofWire) := ⟨lw_in9 _ (List.mem_of_getElem? (i := 97) rfl), rfl⟩
theorem cv_L_219 : yCV RL 219 16 yX12_ofWire cX12_ofWire 3 (some .int) 2 := ⟨_, _, _, cl_X12, wd_2091, wd_2088, wd_2089, wd_2090, wd_83, ⟨by decide, by decide, by decide +kernel⟩, by decide⟩
theorem wd_2103 : yWd (.code yX12_sneak cX12_sneak 7 (some .int)) := ⟨lw_in9 _ (List.mem_of_getElem? (i := 110) rfl), rfl⟩
theorem wd_2100 : yWd (.methodLink RL 222 yX12_sneak) := ⟨lw_in9 _ (List.mem_of_getElem? (i := 107) rfl), rfl⟩
theorem wd_2101 : yWd (.instanceMethod yX12_sneak) := ⟨lw_in9 _ (List.mem_of_getElem? (i := 108) rfl), rfl⟩
theorem wd_2102 : yWd (.selects RX12 yX12_sneak yX12_sneak) := ⟨lw_in9 _ (List.mem_of_getElem? (i := 109) rfl), rfl⟩
theorem cv_L_222 : yCV RL 222 16 yX12_sneak cX12_sneak 7 (some .int) 4 := ⟨_, _, _, cl_X12, wd_2103, wd_2100, wd_2101, wd_2102, wd_83, ⟨by decide, by decide, by decide +kernel⟩, by decide⟩
theorem wd_2120 : yWd (.code yX12_reach cX12_reach 10 (some .int)) := ⟨lw_in9 _ (List.mem_of_getElem? (i := 127) rfl), rfl⟩
theorem wd_2117 : yWd (.methodLink RL 225 yX12_reach) := ⟨lw_in9 _ (List.mem_of_getElem? (i := 124) rfl), rfl⟩
theorem wd_2118 : yWd (.instanceMethod yX12_reach) := ⟨lw_in9 _ (List.mem_of_getElem? (i := 125) rfl), rfl⟩
theorem wd_2119 : yWd (.selects RX12 yX12_reach yX12_reach) := ⟨lw_in9 _ (List.mem_of_getElem? (i := 126) rfl), rfl⟩
theorem cv_L_225 : yCV RL 225 16 yX12_reach cX12_reach 10 (some .int) 3 := ⟨_, _, _, cl_X12, wd_2120, wd_2117, wd_2118, wd_2119, wd_83, ⟨by decide, by decide, by decide +kernel⟩, by decide⟩
theorem wd_2124 : yWd (.code yX12_nextLamp cX12_nextLamp 9 (some .int)) := ⟨lw_in9 _ (List.mem_of_getElem? (i := 131) rfl), rfl⟩
theorem wd_2121 : yWd (.methodLink RL 229 yX12_nextLamp) := ⟨lw_in9 _ (List.mem_of_getElem? (i := 128) rfl), rfl⟩
theorem wd_2122 : yWd (.instanceMethod yX12_nextLamp) := ⟨lw_in9 _ (List.mem_of_getElem? (i := 129) rfl), rfl⟩
theorem wd_2123 : yWd (.selects RX12 yX12_nextLamp yX12_nextLamp) := ⟨lw_in9 _ (List.mem_of_getElem? (i := 130) rfl), rfl⟩
theorem cv_L_229 : yCV RL 229 16 yX12_nextLamp cX12_nextLamp 9 (some .int) 3 := ⟨_, _, _, cl_X12, wd_2124, wd_2121, wd_2122, wd_2123, wd_83, ⟨by decide, by decide, by decide +kernel⟩, by decide⟩
theorem wd_2142 : yWd (.code yX12_many cX12_many 2 (some .int)) := ⟨lw_in9 _ (List.mem_of_getElem? (i := 149) rfl), rfl⟩
theorem wd_2139 : yWd (.methodLink RL 232 yX12_many) := ⟨lw_in9 _ (List.mem_of_getElem? (i := 146) rfl), rfl⟩
theorem wd_2140 : yWd (.instanceMethod yX12_many) := ⟨lw_in9 _ (List.mem_of_getElem? (i := 147) rfl), rfl⟩
theorem wd_2141 : yWd (.selects RX12 yX12_many yX12_many) := ⟨lw_in9 _ (List.mem_of_getElem? (i := 148) rfl), rfl⟩
theorem cv_L_232 : yCV RL 232 16 yX12_many cX12_many 2 (some .int) 1 := ⟨_, _, _, cl_X12, wd_2142, wd_2139, wd_2140, wd_2141, wd_83, ⟨by decide, by decide, by decide +kernel⟩, by decide⟩
theorem wd_2150 : yWd (.code yX12_drawn cX12_drawn 7 (some (.object "java/lang/String"))) := ⟨lw_in9 _ (List.mem_of_getElem? (i := 157) rfl), rfl⟩
theorem wd_2147 : yWd (.methodLink RL 235 yX12_drawn) := ⟨lw_in9 _ (List.mem_of_getElem? (i := 154) rfl), rfl⟩
theorem wd_2148 : yWd (.instanceMethod yX12_drawn) := ⟨lw_in9 _ (List.mem_of_getElem? (i := 155) rfl), rfl⟩
theorem wd_2149 : yWd (.selects RX12 yX12_drawn yX12_drawn) := ⟨lw_in9 _ (List.mem_of_getElem? (i := 156) rfl), rfl⟩
theorem cv_L_235 : yCV RL 235 16 yX12_drawn cX12_drawn 7 (some (.object "java/lang/String")) 2 := ⟨_, _, _, cl_X12, wd_2150, wd_2147, wd_2148, wd_2149, wd_83, ⟨by decide, by decide, by decide +kernel⟩, by decide⟩
theorem wd_363 : yWd (.methodLink RL 236 yX8_isSound) := ⟨lw_in2 _ (List.mem_of_getElem? (i := 50) rfl), rfl⟩
theorem cv_L_236 : yCV RL 236 12 yX8_isSound cX8_isSound 2 (some .boolean) 0 := ⟨_, _, _, cl_X8, wd_366, wd_363, wd_364, wd_365, wd_74, ⟨by decide, by decide, by decide +kernel⟩, by decide⟩
theorem wd_2165 : yWd (.code yX12_isSound cX12_isSound 1 (some .boolean)) := ⟨lw_in9 _ (List.mem_of_getElem? (i := 172) rfl), rfl⟩
theorem wd_2162 : yWd (.methodLink RL 240 yX12_isSound) := ⟨lw_in9 _ (List.mem_of_getElem? (i := 169) rfl), rfl⟩
theorem wd_2163 : yWd (.instanceMethod yX12_isSound) := ⟨lw_in9 _ (List.mem_of_getElem? (i := 170) rfl), rfl⟩
theorem wd_2164 : yWd (.selects RX12 yX12_isSound yX12_isSound) := ⟨lw_in9 _ (List.mem_of_getElem? (i := 171) rfl), rfl⟩
theorem cv_L_240 : yCV RL 240 16 yX12_isSound cX12_isSound 1 (some .boolean) 0 := ⟨_, _, _, cl_X12, wd_2165, wd_2162, wd_2163, wd_2164, wd_83, ⟨by decide, by decide, by decide +kernel⟩, by decide⟩
theorem wd_439 : yWd (.code yX8_knock cX8_knock 1 (some .int)) := ⟨lw_in2 _ (List.mem_of_getElem? (i := 126) rfl), rfl⟩
theorem wd_436 : yWd (.methodLink RL 241 yX8_knock) := ⟨lw_in2 _ (List.mem_of_getElem? (i := 123) rfl), rfl⟩
theorem wd_437 : yWd (.instanceMethod yX8_knock) := ⟨lw_in2 _ (List.mem_of_getElem? (i := 124) rfl), rfl⟩
theorem wd_438 : yWd (.selects RX8 yX8_knock yX8_knock) := ⟨lw_in2 _ (List.mem_of_getElem? (i := 125) rfl), rfl⟩
theorem cv_L_241 : yCV RL 241 12 yX8_knock cX8_knock 1 (some .int) 0 := ⟨_, _, _, cl_X8, wd_439, wd_436, wd_437, wd_438, wd_74, ⟨by decide, by decide, by decide +kernel⟩, by decide⟩
theorem wd_2173 : yWd (.code yX12_knock cX12_knock 1 (some .int)) := ⟨lw_in9 _ (List.mem_of_getElem? (i := 180) rfl), rfl⟩
theorem wd_2170 : yWd (.methodLink RL 244 yX12_knock) := ⟨lw_in9 _ (List.mem_of_getElem? (i := 177) rfl), rfl⟩
theorem wd_2171 : yWd (.instanceMethod yX12_knock) := ⟨lw_in9 _ (List.mem_of_getElem? (i := 178) rfl), rfl⟩
theorem wd_2172 : yWd (.selects RX12 yX12_knock yX12_knock) := ⟨lw_in9 _ (List.mem_of_getElem? (i := 179) rfl), rfl⟩
theorem cv_L_244 : yCV RL 244 16 yX12_knock cX12_knock 1 (some .int) 0 := ⟨_, _, _, cl_X12, wd_2173, wd_2170, wd_2171, wd_2172, wd_83, ⟨by decide, by decide, by decide +kernel⟩, by decide⟩
theorem wd_443 : yWd (.code yX8_digest cX8_digest 5 (some .long)) := ⟨lw_in2 _ (List.mem_of_getElem? (i := 130) rfl), rfl⟩
theorem wd_440 : yWd (.methodLink RL 245 yX8_digest) := ⟨lw_in2 _ (List.mem_of_getElem? (i := 127) rfl), rfl⟩
theorem wd_441 : yWd (.instanceMethod yX8_digest) := ⟨lw_in2 _ (List.mem_of_getElem? (i := 128) rfl), rfl⟩
theorem wd_442 : yWd (.selects RX8 yX8_digest yX8_digest) := ⟨lw_in2 _ (List.mem_of_getElem? (i := 129) rfl), rfl⟩
theorem cv_L_245 : yCV RL 245 12 yX8_digest cX8_digest 5 (some .long) 0 := ⟨_, _, _, cl_X8, wd_443, wd_440, wd_441, wd_442, wd_74, ⟨by decide, by decide, by decide +kernel⟩, by decide⟩
theorem wd_2177 : yWd (.code yX12_digest cX12_digest 5 (some .long)) := ⟨lw_in9 _ (List.mem_of_getElem? (i := 184) rfl), rfl⟩
theorem wd_2174 : yWd (.methodLink RL 249 yX12_digest) := ⟨lw_in9 _ (List.mem_of_getElem? (i := 181) rfl), rfl⟩
theorem wd_2175 : yWd (.instanceMethod yX12_digest) := ⟨lw_in9 _ (List.mem_of_getElem? (i := 182) rfl), rfl⟩
theorem wd_2176 : yWd (.selects RX12 yX12_digest yX12_digest) := ⟨lw_in9 _ (List.mem_of_getElem? (i := 183) rfl), rfl⟩
theorem cv_L_249 : yCV RL 249 16 yX12_digest cX12_digest 5 (some .long) 0 := ⟨_, _, _, cl_X12, wd_2177, wd_2174, wd_2175, wd_2176, wd_83, ⟨by decide, by decide, by decide +kernel⟩, by decide⟩
theorem wd_842 : yWd (.codeWith yL_base cL_base 6 (some .int) [(0, 13, 16, 19)]) := ⟨lw_in4 _ (List.mem_of_getElem? (i := 49) rfl), rfl⟩
theorem wd_840 : yWd (.methodLink RL 131 yL_base) := ⟨lw_in4 _ (List.mem_of_getElem? (i := 47) rfl), rfl⟩
theorem wd_841 : yWd (.static yL_base) := ⟨lw_in4 _ (List.mem_of_getElem? (i := 48) rfl), rfl⟩
theorem wd_73 : yWd (.initialized RL) := ⟨lw_in1 _ (List.mem_of_getElem? (i := 0) rfl), rfl⟩
theorem csw_L_131 : yCSW RL 131 yL_base cL_base 6 (some .int) [(0, 13, 16, 19)] 5 := ⟨wd_842, wd_840, wd_841, wd_73, ⟨by decide, by decide, by decide +kernel⟩, by decide⟩
theorem wd_924 : yWd (.codeWith yL_lay cL_lay 5 (some .int) [(0, 11, 14, 25), (0, 11, 18, 19), (0, 11, 22, 27)]) := ⟨lw_in4 _ (List.mem_of_getElem? (i := 131) rfl), rfl⟩
theorem wd_922 : yWd (.methodLink RL 137 yL_lay) := ⟨lw_in4 _ (List.mem_of_getElem? (i := 129) rfl), rfl⟩
theorem wd_923 : yWd (.static yL_lay) := ⟨lw_in4 _ (List.mem_of_getElem? (i := 130) rfl), rfl⟩
theorem csw_L_137 : yCSW RL 137 yL_lay cL_lay 5 (some .int) [(0, 11, 14, 25), (0, 11, 18, 19), (0, 11, 22, 27)] 4 := ⟨wd_924, wd_922, wd_923, wd_73, ⟨by decide, by decide, by decide +kernel⟩, by decide⟩
theorem wd_956 : yWd (.codeWith yL_gates cL_gates 5 (some .int) [(0, 11, 14, 19)]) := ⟨lw_in4 _ (List.mem_of_getElem? (i := 163) rfl), rfl⟩
theorem wd_954 : yWd (.methodLink RL 141 yL_gates) := ⟨lw_in4 _ (List.mem_of_getElem? (i := 161) rfl), rfl⟩
theorem wd_955 : yWd (.static yL_gates) := ⟨lw_in4 _ (List.mem_of_getElem? (i := 162) rfl), rfl⟩
theorem csw_L_141 : yCSW RL 141 yL_gates cL_gates 5 (some .int) [(0, 11, 14, 19)] 4 := ⟨wd_956, wd_954, wd_955, wd_73, ⟨by decide, by decide, by decide +kernel⟩, by decide⟩
theorem wd_969 : yWd (.codeWith yL_lamp cL_lamp 5 (some .int) [(0, 11, 14, 25), (0, 11, 18, 19), (0, 11, 22, 27)]) := ⟨lw_in4 _ (List.mem_of_getElem? (i := 176) rfl), rfl⟩
theorem wd_967 : yWd (.methodLink RL 144 yL_lamp) := ⟨lw_in4 _ (List.mem_of_getElem? (i := 174) rfl), rfl⟩
theorem wd_968 : yWd (.static yL_lamp) := ⟨lw_in4 _ (List.mem_of_getElem? (i := 175) rfl), rfl⟩
theorem csw_L_144 : yCSW RL 144 yL_lamp cL_lamp 5 (some .int) [(0, 11, 14, 25), (0, 11, 18, 19), (0, 11, 22, 27)] 4 := ⟨wd_969, wd_967, wd_968, wd_73, ⟨by decide, by decide, by decide +kernel⟩, by decide⟩
theorem wd_991 : yWd (.codeWith yL_light cL_light 5 (some .int) [(0, 11, 14, 25)]) := ⟨lw_in4 _ (List.mem_of_getElem? (i := 198) rfl), rfl⟩
theorem wd_989 : yWd (.methodLink RL 147 yL_light) := ⟨lw_in4 _ (List.mem_of_getElem? (i := 196) rfl), rfl⟩
theorem wd_990 : yWd (.static yL_light) := ⟨lw_in4 _ (List.mem_of_getElem? (i := 197) rfl), rfl⟩
theorem csw_L_147 : yCSW RL 147 yL_light cL_light 5 (some .int) [(0, 11, 14, 25)] 4 := ⟨wd_991, wd_989, wd_990, wd_73, ⟨by decide, by decide, by decide +kernel⟩, by decide⟩
theorem wd_1003 : yWd (.codeWith yL_fog cL_fog 5 (some .int) [(0, 11, 14, 19), (0, 11, 18, 27)]) := ⟨lw_in4 _ (List.mem_of_getElem? (i := 210) rfl), rfl⟩
theorem wd_1001 : yWd (.methodLink RL 151 yL_fog) := ⟨lw_in4 _ (List.mem_of_getElem? (i := 208) rfl), rfl⟩
theorem wd_1002 : yWd (.static yL_fog) := ⟨lw_in4 _ (List.mem_of_getElem? (i := 209) rfl), rfl⟩
theorem csw_L_151 : yCSW RL 151 yL_fog cL_fog 5 (some .int) [(0, 11, 14, 19), (0, 11, 18, 27)] 4 := ⟨wd_1003, wd_1001, wd_1002, wd_73, ⟨by decide, by decide, by decide +kernel⟩, by decide⟩
theorem wd_1020 : yWd (.codeWith yL_guard cL_guard 7 (some .int) [(0, 15, 18, 25), (0, 15, 22, 19), (0, 15, 26, 27)]) := ⟨lw_in4 _ (List.mem_of_getElem? (i := 227) rfl), rfl⟩
theorem wd_1018 : yWd (.methodLink RL 154 yL_guard) := ⟨lw_in4 _ (List.mem_of_getElem? (i := 225) rfl), rfl⟩
theorem wd_1019 : yWd (.static yL_guard) := ⟨lw_in4 _ (List.mem_of_getElem? (i := 226) rfl), rfl⟩
theorem csw_L_154 : yCSW RL 154 yL_guard cL_guard 7 (some .int) [(0, 15, 18, 25), (0, 15, 22, 19), (0, 15, 26, 27)] 6 := ⟨wd_1020, wd_1018, wd_1019, wd_73, ⟨by decide, by decide, by decide +kernel⟩, by decide⟩
theorem wd_1042 : yWd (.codeWith yL_round cL_round 5 (some .int) [(0, 11, 14, 25), (0, 11, 18, 27)]) := ⟨lw_in5 _ (List.mem_of_getElem? (i := 9) rfl), rfl⟩
theorem wd_1040 : yWd (.methodLink RL 158 yL_round) := ⟨lw_in5 _ (List.mem_of_getElem? (i := 7) rfl), rfl⟩
theorem wd_1041 : yWd (.static yL_round) := ⟨lw_in5 _ (List.mem_of_getElem? (i := 8) rfl), rfl⟩
theorem csw_L_158 : yCSW RL 158 yL_round cL_round 5 (some .int) [(0, 11, 14, 25), (0, 11, 18, 27)] 4 := ⟨wd_1042, wd_1040, wd_1041, wd_73, ⟨by decide, by decide, by decide +kernel⟩, by decide⟩
theorem wd_1054 : yWd (.codeWith yL_post cL_post 4 (some .int) [(0, 10, 13, 25), (0, 10, 16, 27)]) := ⟨lw_in5 _ (List.mem_of_getElem? (i := 21) rfl), rfl⟩
theorem wd_1052 : yWd (.methodLink RL 161 yL_post) := ⟨lw_in5 _ (List.mem_of_getElem? (i := 19) rfl), rfl⟩
theorem wd_1053 : yWd (.static yL_post) := ⟨lw_in5 _ (List.mem_of_getElem? (i := 20) rfl), rfl⟩
theorem csw_L_161 : yCSW RL 161 yL_post cL_post 4 (some .int) [(0, 10, 13, 25), (0, 10, 16, 27)] 3 := ⟨wd_1054, wd_1052, wd_1053, wd_73, ⟨by decide, by decide, by decide +kernel⟩, by decide⟩
theorem wd_1063 : yWd (.codeWith yL_place cL_place 5 (some .int) [(0, 11, 14, 25), (0, 11, 18, 19)]) := ⟨lw_in5 _ (List.mem_of_getElem? (i := 30) rfl), rfl⟩
theorem wd_1061 : yWd (.methodLink RL 165 yL_place) := ⟨lw_in5 _ (List.mem_of_getElem? (i := 28) rfl), rfl⟩
theorem wd_1062 : yWd (.static yL_place) := ⟨lw_in5 _ (List.mem_of_getElem? (i := 29) rfl), rfl⟩
theorem csw_L_165 : yCSW RL 165 yL_place cL_place 5 (some .int) [(0, 11, 14, 25), (0, 11, 18, 19)] 4 := ⟨wd_1063, wd_1061, wd_1062, wd_73, ⟨by decide, by decide, by decide +kernel⟩, by decide⟩
theorem wd_1070 : yWd (.codeWith yL_sees cL_sees 6 (some .int) [(0, 20, 23, 25), (0, 20, 27, 19)]) := ⟨lw_in5 _ (List.mem_of_getElem? (i := 37) rfl), rfl⟩
theorem wd_1068 : yWd (.methodLink RL 168 yL_sees) := ⟨lw_in5 _ (List.mem_of_getElem? (i := 35) rfl), rfl⟩
theorem wd_1069 : yWd (.static yL_sees) := ⟨lw_in5 _ (List.mem_of_getElem? (i := 36) rfl), rfl⟩
theorem csw_L_168 : yCSW RL 168 yL_sees cL_sees 6 (some .int) [(0, 20, 23, 25), (0, 20, 27, 19)] 5 := ⟨wd_1070, wd_1068, wd_1069, wd_73, ⟨by decide, by decide, by decide +kernel⟩, by decide⟩
theorem wd_1080 : yWd (.codeWith yL_ofCell cL_ofCell 6 (some .int) [(0, 13, 16, 25), (0, 13, 20, 19)]) := ⟨lw_in5 _ (List.mem_of_getElem? (i := 47) rfl), rfl⟩
theorem wd_1078 : yWd (.methodLink RL 175 yL_ofCell) := ⟨lw_in5 _ (List.mem_of_getElem? (i := 45) rfl), rfl⟩
theorem wd_1079 : yWd (.static yL_ofCell) := ⟨lw_in5 _ (List.mem_of_getElem? (i := 46) rfl), rfl⟩
theorem csw_L_175 : yCSW RL 175 yL_ofCell cL_ofCell 6 (some .int) [(0, 13, 16, 25), (0, 13, 20, 19)] 5 := ⟨wd_1080, wd_1078, wd_1079, wd_73, ⟨by decide, by decide, by decide +kernel⟩, by decide⟩
theorem wd_1084 : yWd (.codeWith yL_ofMinute cL_ofMinute 5 (some .int) [(0, 11, 14, 19)]) := ⟨lw_in5 _ (List.mem_of_getElem? (i := 51) rfl), rfl⟩
theorem wd_1082 : yWd (.methodLink RL 178 yL_ofMinute) := ⟨lw_in5 _ (List.mem_of_getElem? (i := 49) rfl), rfl⟩
theorem wd_1083 : yWd (.static yL_ofMinute) := ⟨lw_in5 _ (List.mem_of_getElem? (i := 50) rfl), rfl⟩
theorem csw_L_178 : yCSW RL 178 yL_ofMinute cL_ofMinute 5 (some .int) [(0, 11, 14, 19)] 4 := ⟨wd_1084, wd_1082, wd_1083, wd_73, ⟨by decide, by decide, by decide +kernel⟩, by decide⟩
theorem wd_1088 : yWd (.codeWith yL_empty cL_empty 5 (some .int) [(0, 11, 14, 25)]) := ⟨lw_in5 _ (List.mem_of_getElem? (i := 55) rfl), rfl⟩
theorem wd_1086 : yWd (.methodLink RL 181 yL_empty) := ⟨lw_in5 _ (List.mem_of_getElem? (i := 53) rfl), rfl⟩
theorem wd_1087 : yWd (.static yL_empty) := ⟨lw_in5 _ (List.mem_of_getElem? (i := 54) rfl), rfl⟩
theorem csw_L_181 : yCSW RL 181 yL_empty cL_empty 5 (some .int) [(0, 11, 14, 25)] 4 := ⟨wd_1088, wd_1086, wd_1087, wd_73, ⟨by decide, by decide, by decide +kernel⟩, by decide⟩
theorem wd_1092 : yWd (.codeWith yL_lapse cL_lapse 6 (some .int) [(0, 13, 16, 25), (0, 13, 20, 19)]) := ⟨lw_in5 _ (List.mem_of_getElem? (i := 59) rfl), rfl⟩
theorem wd_1090 : yWd (.methodLink RL 184 yL_lapse) := ⟨lw_in5 _ (List.mem_of_getElem? (i := 57) rfl), rfl⟩
theorem wd_1091 : yWd (.static yL_lapse) := ⟨lw_in5 _ (List.mem_of_getElem? (i := 58) rfl), rfl⟩
theorem csw_L_184 : yCSW RL 184 yL_lapse cL_lapse 6 (some .int) [(0, 13, 16, 25), (0, 13, 20, 19)] 5 := ⟨wd_1092, wd_1090, wd_1091, wd_73, ⟨by decide, by decide, by decide +kernel⟩, by decide⟩
theorem wd_1099 : yWd (.codeWith yL_words cL_words 4 (some .int) [(0, 10, 13, 19)]) := ⟨lw_in5 _ (List.mem_of_getElem? (i := 66) rfl), rfl⟩
theorem wd_1097 : yWd (.methodLink RL 187 yL_words) := ⟨lw_in5 _ (List.mem_of_getElem? (i := 64) rfl), rfl⟩
theorem wd_1098 : yWd (.static yL_words) := ⟨lw_in5 _ (List.mem_of_getElem? (i := 65) rfl), rfl⟩
theorem csw_L_187 : yCSW RL 187 yL_words cL_words 4 (some .int) [(0, 10, 13, 19)] 3 := ⟨wd_1099, wd_1097, wd_1098, wd_73, ⟨by decide, by decide, by decide +kernel⟩, by decide⟩
theorem wd_1110 : yWd (.codeWith yL_leak cL_leak 4 (some .int) [(0, 10, 13, 19), (0, 10, 16, 27)]) := ⟨lw_in5 _ (List.mem_of_getElem? (i := 77) rfl), rfl⟩
theorem wd_1108 : yWd (.methodLink RL 190 yL_leak) := ⟨lw_in5 _ (List.mem_of_getElem? (i := 75) rfl), rfl⟩
theorem wd_1109 : yWd (.static yL_leak) := ⟨lw_in5 _ (List.mem_of_getElem? (i := 76) rfl), rfl⟩
theorem csw_L_190 : yCSW RL 190 yL_leak cL_leak 4 (some .int) [(0, 10, 13, 19), (0, 10, 16, 27)] 3 := ⟨wd_1110, wd_1108, wd_1109, wd_73, ⟨by decide, by decide, by decide +kernel⟩, by decide⟩
theorem wd_1127 : yWd (.codeWith yL_answer cL_answer 6 (some .int) [(0, 13, 16, 25), (0, 13, 20, 19)]) := ⟨lw_in5 _ (List.mem_of_getElem? (i := 94) rfl), rfl⟩
theorem wd_1125 : yWd (.methodLink RL 193 yL_answer) := ⟨lw_in5 _ (List.mem_of_getElem? (i := 92) rfl), rfl⟩
theorem wd_1126 : yWd (.static yL_answer) := ⟨lw_in5 _ (List.mem_of_getElem? (i := 93) rfl), rfl⟩
theorem csw_L_193 : yCSW RL 193 yL_answer cL_answer 6 (some .int) [(0, 13, 16, 25), (0, 13, 20, 19)] 5 := ⟨wd_1127, wd_1125, wd_1126, wd_73, ⟨by decide, by decide, by decide +kernel⟩, by decide⟩
theorem wd_1147 : yWd (.codeWith yL_key cL_key 5 (some .int) [(0, 11, 14, 25)]) := ⟨lw_in5 _ (List.mem_of_getElem? (i := 114) rfl), rfl⟩
theorem wd_1145 : yWd (.methodLink RL 196 yL_key) := ⟨lw_in5 _ (List.mem_of_getElem? (i := 112) rfl), rfl⟩
theorem wd_1146 : yWd (.static yL_key) := ⟨lw_in5 _ (List.mem_of_getElem? (i := 113) rfl), rfl⟩
theorem csw_L_196 : yCSW RL 196 yL_key cL_key 5 (some .int) [(0, 11, 14, 25)] 4 := ⟨wd_1147, wd_1145, wd_1146, wd_73, ⟨by decide, by decide, by decide +kernel⟩, by decide⟩
theorem wd_1155 : yWd (.codeWith yL_ofGuard cL_ofGuard 5 (some .int) [(0, 11, 14, 25), (0, 11, 18, 19)]) := ⟨lw_in5 _ (List.mem_of_getElem? (i := 122) rfl), rfl⟩
theorem wd_1153 : yWd (.methodLink RL 199 yL_ofGuard) := ⟨lw_in5 _ (List.mem_of_getElem? (i := 120) rfl), rfl⟩
theorem wd_1154 : yWd (.static yL_ofGuard) := ⟨lw_in5 _ (List.mem_of_getElem? (i := 121) rfl), rfl⟩
theorem csw_L_199 : yCSW RL 199 yL_ofGuard cL_ofGuard 5 (some .int) [(0, 11, 14, 25), (0, 11, 18, 19)] 4 := ⟨wd_1155, wd_1153, wd_1154, wd_73, ⟨by decide, by decide, by decide +kernel⟩, by decide⟩
theorem wd_1159 : yWd (.codeWith yL_intruder cL_intruder 6 (some .int) [(0, 13, 16, 25), (0, 13, 20, 19), (0, 13, 24, 27)]) := ⟨lw_in5 _ (List.mem_of_getElem? (i := 126) rfl), rfl⟩
theorem wd_1157 : yWd (.methodLink RL 202 yL_intruder) := ⟨lw_in5 _ (List.mem_of_getElem? (i := 124) rfl), rfl⟩
theorem wd_1158 : yWd (.static yL_intruder) := ⟨lw_in5 _ (List.mem_of_getElem? (i := 125) rfl), rfl⟩
theorem csw_L_202 : yCSW RL 202 yL_intruder cL_intruder 6 (some .int) [(0, 13, 16, 25), (0, 13, 20, 19), (0, 13, 24, 27)] 5 := ⟨wd_1159, wd_1157, wd_1158, wd_73, ⟨by decide, by decide, by decide +kernel⟩, by decide⟩
theorem wd_1192 : yWd (.codeWith yL_wire cL_wire 5 (some .int) [(0, 11, 14, 25), (0, 11, 18, 19), (0, 11, 22, 27)]) := ⟨lw_in5 _ (List.mem_of_getElem? (i := 159) rfl), rfl⟩
theorem wd_1190 : yWd (.methodLink RL 205 yL_wire) := ⟨lw_in5 _ (List.mem_of_getElem? (i := 157) rfl), rfl⟩
theorem wd_1191 : yWd (.static yL_wire) := ⟨lw_in5 _ (List.mem_of_getElem? (i := 158) rfl), rfl⟩
theorem csw_L_205 : yCSW RL 205 yL_wire cL_wire 5 (some .int) [(0, 11, 14, 25), (0, 11, 18, 19), (0, 11, 22, 27)] 4 := ⟨wd_1192, wd_1190, wd_1191, wd_73, ⟨by decide, by decide, by decide +kernel⟩, by decide⟩
theorem wd_1210 : yWd (.codeWith yL_where cL_where 5 (some .int) [(0, 11, 14, 25), (0, 11, 18, 19)]) := ⟨lw_in5 _ (List.mem_of_getElem? (i := 177) rfl), rfl⟩
theorem wd_1208 : yWd (.methodLink RL 208 yL_where) := ⟨lw_in5 _ (List.mem_of_getElem? (i := 175) rfl), rfl⟩
theorem wd_1209 : yWd (.static yL_where) := ⟨lw_in5 _ (List.mem_of_getElem? (i := 176) rfl), rfl⟩
theorem csw_L_208 : yCSW RL 208 yL_where cL_where 5 (some .int) [(0, 11, 14, 25), (0, 11, 18, 19)] 4 := ⟨wd_1210, wd_1208, wd_1209, wd_73, ⟨by decide, by decide, by decide +kernel⟩, by decide⟩
theorem wd_1217 : yWd (.codeWith yL_ofIntruder cL_ofIntruder 5 (some .int) [(0, 11, 14, 25), (0, 11, 18, 19)]) := ⟨lw_in5 _ (List.mem_of_getElem? (i := 184) rfl), rfl⟩
theorem wd_1215 : yWd (.methodLink RL 211 yL_ofIntruder) := ⟨lw_in5 _ (List.mem_of_getElem? (i := 182) rfl), rfl⟩
theorem wd_1216 : yWd (.static yL_ofIntruder) := ⟨lw_in5 _ (List.mem_of_getElem? (i := 183) rfl), rfl⟩
theorem csw_L_211 : yCSW RL 211 yL_ofIntruder cL_ofIntruder 5 (some .int) [(0, 11, 14, 25), (0, 11, 18, 19)] 4 := ⟨wd_1217, wd_1215, wd_1216, wd_73, ⟨by decide, by decide, by decide +kernel⟩, by decide⟩
theorem wd_1221 : yWd (.codeWith yL_force cL_force 6 (some .int) [(0, 13, 16, 25), (0, 13, 20, 19), (0, 13, 24, 27)]) := ⟨lw_in5 _ (List.mem_of_getElem? (i := 188) rfl), rfl⟩
theorem wd_1219 : yWd (.methodLink RL 214 yL_force) := ⟨lw_in5 _ (List.mem_of_getElem? (i := 186) rfl), rfl⟩
theorem wd_1220 : yWd (.static yL_force) := ⟨lw_in5 _ (List.mem_of_getElem? (i := 187) rfl), rfl⟩
theorem csw_L_214 : yCSW RL 214 yL_force cL_force 6 (some .int) [(0, 13, 16, 25), (0, 13, 20, 19), (0, 13, 24, 27)] 5 := ⟨wd_1221, wd_1219, wd_1220, wd_73, ⟨by decide, by decide, by decide +kernel⟩, by decide⟩
theorem wd_1236 : yWd (.codeWith yL_ofWire cL_ofWire 5 (some .int) [(0, 11, 14, 25), (0, 11, 18, 19)]) := ⟨lw_in5 _ (List.mem_of_getElem? (i := 203) rfl), rfl⟩
theorem wd_1234 : yWd (.methodLink RL 217 yL_ofWire) := ⟨lw_in5 _ (List.mem_of_getElem? (i := 201) rfl), rfl⟩
theorem wd_1235 : yWd (.static yL_ofWire) := ⟨lw_in5 _ (List.mem_of_getElem? (i := 202) rfl), rfl⟩
theorem csw_L_217 : yCSW RL 217 yL_ofWire cL_ofWire 5 (some .int) [(0, 11, 14, 25), (0, 11, 18, 19)] 4 := ⟨wd_1236, wd_1234, wd_1235, wd_73, ⟨by decide, by decide, by decide +kernel⟩, by decide⟩
theorem wd_1240 : yWd (.codeWith yL_sneak cL_sneak 7 (some .int) [(0, 15, 18, 25), (0, 15, 22, 19)]) := ⟨lw_in5 _ (List.mem_of_getElem? (i := 207) rfl), rfl⟩
theorem wd_1238 : yWd (.methodLink RL 220 yL_sneak) := ⟨lw_in5 _ (List.mem_of_getElem? (i := 205) rfl), rfl⟩
theorem wd_1239 : yWd (.static yL_sneak) := ⟨lw_in5 _ (List.mem_of_getElem? (i := 206) rfl), rfl⟩
theorem csw_L_220 : yCSW RL 220 yL_sneak cL_sneak 7 (some .int) [(0, 15, 18, 25), (0, 15, 22, 19)] 6 := ⟨wd_1240, wd_1238, wd_1239, wd_73, ⟨by decide, by decide, by decide +kernel⟩, by decide⟩
theorem wd_1251 : yWd (.codeWith yL_reach cL_reach 6 (some .int) [(0, 13, 16, 25), (0, 13, 20, 19)]) := ⟨lw_in5 _ (List.mem_of_getElem? (i := 218) rfl), rfl⟩
theorem wd_1249 : yWd (.methodLink RL 223 yL_reach) := ⟨lw_in5 _ (List.mem_of_getElem? (i := 216) rfl), rfl⟩
theorem wd_1250 : yWd (.static yL_reach) := ⟨lw_in5 _ (List.mem_of_getElem? (i := 217) rfl), rfl⟩
theorem csw_L_223 : yCSW RL 223 yL_reach cL_reach 6 (some .int) [(0, 13, 16, 25), (0, 13, 20, 19)] 5 := ⟨wd_1251, wd_1249, wd_1250, wd_73, ⟨by decide, by decide, by decide +kernel⟩, by decide⟩
theorem wd_1258 : yWd (.codeWith yL_nextLamp cL_nextLamp 6 (some .int) [(0, 13, 16, 19)]) := ⟨lw_in5 _ (List.mem_of_getElem? (i := 225) rfl), rfl⟩
theorem wd_1256 : yWd (.methodLink RL 226 yL_nextLamp) := ⟨lw_in5 _ (List.mem_of_getElem? (i := 223) rfl), rfl⟩
theorem wd_1257 : yWd (.static yL_nextLamp) := ⟨lw_in5 _ (List.mem_of_getElem? (i := 224) rfl), rfl⟩
theorem csw_L_226 : yCSW RL 226 yL_nextLamp cL_nextLamp 6 (some .int) [(0, 13, 16, 19)] 5 := ⟨wd_1258, wd_1256, wd_1257, wd_73, ⟨by decide, by decide, by decide +kernel⟩, by decide⟩
theorem wd_1269 : yWd (.codeWith yL_many cL_many 4 (some .int) [(0, 10, 13, 19)]) := ⟨lw_in5 _ (List.mem_of_getElem? (i := 236) rfl), rfl⟩
theorem wd_1267 : yWd (.methodLink RL 230 yL_many) := ⟨lw_in5 _ (List.mem_of_getElem? (i := 234) rfl), rfl⟩
theorem wd_1268 : yWd (.static yL_many) := ⟨lw_in5 _ (List.mem_of_getElem? (i := 235) rfl), rfl⟩
theorem csw_L_230 : yCSW RL 230 yL_many cL_many 4 (some .int) [(0, 10, 13, 19)] 3 := ⟨wd_1269, wd_1267, wd_1268, wd_73, ⟨by decide, by decide, by decide +kernel⟩, by decide⟩
theorem wd_1273 : yWd (.codeWith yL_drawn cL_drawn 5 (some .int) [(0, 10, 13, 25), (0, 10, 17, 19)]) := ⟨lw_in6 _ (List.mem_of_getElem? (i := 0) rfl), rfl⟩
theorem wd_1271 : yWd (.methodLink RL 233 yL_drawn) := ⟨lw_in5 _ (List.mem_of_getElem? (i := 238) rfl), rfl⟩
theorem wd_1272 : yWd (.static yL_drawn) := ⟨lw_in5 _ (List.mem_of_getElem? (i := 239) rfl), rfl⟩
theorem csw_L_233 : yCSW RL 233 yL_drawn cL_drawn 5 (some .int) [(0, 10, 13, 25), (0, 10, 17, 19)] 4 := ⟨wd_1273, wd_1271, wd_1272, wd_73, ⟨by decide, by decide, by decide +kernel⟩, by decide⟩
def K_X9_init : yK := (yX9_init.cls, yX9_init.name, cX9_init, 1, none, [])
def t_X9_init : yT := [(0, .aload_n 0, 1), (1, .invokespecial 1, 3), (4, .return_, 1)]
theorem tq_X9_init : yTok (yK.cc K_X9_init) t_X9_init := (ychk_ok _ _ 0 rfl (by decide +kernel))
