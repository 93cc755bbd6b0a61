/-! ===== contracts: numbers and rows ===== -/
set_option maxHeartbeats 4000000 in
set_option maxRecDepth 100000 in
theorem m_X8_isIn {l : Launch} {S0 : State} {A0 : Array Value} {D : va_G} {aC : Nat → ClassId} {G : AH} (hS : yS l S0 A0 D aC) (number : Int32) (least : Int32) (greatest : Int32) : yM l S0 D yX8_isIn cX8_isIn 3 (some .boolean) 10 0 0 [.int number, .int least, .int greatest] G (fun r G1 => r = some (.int (if least ≤ number ∧ number ≤ greatest then 1 else 0)) ∧ G1 = G) (fun _ _ => False) := by
  refine yM.ofK K_X8_isIn rfl (by decide) (Nat.le_of_ble_eq_true rfl) ?_
  refine y_blk 2 tq_X8_isIn (z := (2, [(0, .int number), (1, .int least), (2, .int greatest)], [.int least, .int number])) rfl ?_
  refine y_icmp_lt tq_X8_isIn 14 rfl rfl (fun c2 => ?_) (fun c2 => ?_)
  · skip
    refine y_blk 1 tq_X8_isIn (z := (15, [(0, .int number), (1, .int least), (2, .int greatest)], [.int 0])) rfl ?_
    exact y_zret tq_X8_isIn rfl rfl (rfl) (⟨by first | rfl | (congr 2; (repeat' split) <;> first | rfl | (exfalso; simp only [ylt, yle, yeqI, yl_m1, yl_0, yl_1, yl_2, yl_3, yl_4, yl_5, yl_6, yl_7, yl_8, yl_9, yl_10, yl_11, yl_12, yl_15, yl_16, yl_20, yl_60, yl_64, yl_90, yl_97, yl_99, yl_100, yl_120, yl_239, yl_240] at *; omega)), rfl⟩)
  · skip
    refine y_blk 2 tq_X8_isIn (z := (7, [(0, .int number), (1, .int least), (2, .int greatest)], [.int greatest, .int number])) rfl ?_
    refine y_icmp_gt tq_X8_isIn 14 rfl rfl (fun c7 => ?_) (fun c7 => ?_)
    · skip
      refine y_blk 1 tq_X8_isIn (z := (15, [(0, .int number), (1, .int least), (2, .int greatest)], [.int 0])) rfl ?_
      exact y_zret tq_X8_isIn rfl rfl (rfl) (⟨by first | rfl | (congr 2; (repeat' split) <;> first | rfl | (exfalso; simp only [ylt, yle, yeqI, yl_m1, yl_0, yl_1, yl_2, yl_3, yl_4, yl_5, yl_6, yl_7, yl_8, yl_9, yl_10, yl_11, yl_12, yl_15, yl_16, yl_20, yl_60, yl_64, yl_90, yl_97, yl_99, yl_100, yl_120, yl_239, yl_240] at *; omega)), rfl⟩)
    · skip
      refine y_blk 2 tq_X8_isIn (z := (15, [(0, .int number), (1, .int least), (2, .int greatest)], [.int 1])) rfl ?_
      exact y_zret tq_X8_isIn rfl rfl (rfl) (⟨by first | rfl | (congr 2; (repeat' split) <;> first | rfl | (exfalso; simp only [ylt, yle, yeqI, yl_m1, yl_0, yl_1, yl_2, yl_3, yl_4, yl_5, yl_6, yl_7, yl_8, yl_9, yl_10, yl_11, yl_12, yl_15, yl_16, yl_20, yl_60, yl_64, yl_90, yl_97, yl_99, yl_100, yl_120, yl_239, yl_240] at *; omega)), rfl⟩)
set_option maxHeartbeats 4000000 in
set_option maxRecDepth 100000 in
theorem m_X8_isMinute {l : Launch} {S0 : State} {A0 : Array Value} {D : va_G} {aC : Nat → ClassId} {G : AH} (hS : yS l S0 A0 D aC) (minute : Int32) : yM l S0 D yX8_isMinute cX8_isMinute 1 (some .boolean) 11 0 0 [.int minute] G (fun r G1 => r = some (.int (if 0 ≤ minute ∧ minute ≤ 239 then 1 else 0)) ∧ G1 = G) (fun _ _ => False) := by
  refine yM.ofK K_X8_isMinute rfl (by decide) (Nat.le_of_ble_eq_true rfl) ?_
  refine y_blk 3 tq_X8_isMinute (z := (5, [(0, .int minute)], [.int 239, .int 0, .int minute])) rfl ?_
  refine y_callS hS tq_X8_isMinute rfl (As := [.int minute, .int 0, .int 239]) rfl cs_X8_76 (m_X8_isIn hS  minute 0 239) rfl (by decide) (Nat.le_of_ble_eq_true rfl) (fun r5 Gc5 q5 => ?_) (fun E9 G9 h9 => h9.elim)
  obtain ⟨rfl, eG5⟩ := q5
  have eG5 := eG5.symm
  subst eG5
  refine y_blk 0 tq_X8_isMinute (z := (8, [(0, .int minute)], [.int (if 0 ≤ minute ∧ minute ≤ 239 then 1 else 0)])) rfl ?_
  exact y_zret tq_X8_isMinute rfl rfl (y01 (y01i _)) (⟨by first | rfl | (congr 2; (repeat' split) <;> first | rfl | (exfalso; simp only [ylt, yle, yeqI, yl_m1, yl_0, yl_1, yl_2, yl_3, yl_4, yl_5, yl_6, yl_7, yl_8, yl_9, yl_10, yl_11, yl_12, yl_15, yl_16, yl_20, yl_60, yl_64, yl_90, yl_97, yl_99, yl_100, yl_120, yl_239, yl_240] at *; omega)), rfl⟩)
set_option maxHeartbeats 4000000 in
set_option maxRecDepth 100000 in
theorem m_X8_setOf {l : Launch} {S0 : State} {A0 : Array Value} {D : va_G} {aC : Nat → ClassId} {G : AH} (hS : yS l S0 A0 D aC) (cell : Int32) : yM l S0 D yX8_setOf cX8_setOf 1 (some .long) 10 0 0 [.int cell] G (fun r G1 => r = some (.long (xset cell)) ∧ G1 = G) (fun _ _ => False) := by
  refine yM.ofK K_X8_setOf rfl (by decide) (Nat.le_of_ble_eq_true rfl) ?_
  refine y_blk 1 tq_X8_setOf (z := (1, [(0, .int cell)], [.int cell])) rfl ?_
  refine y_if_lt tq_X8_setOf 16 rfl rfl (fun c1 => ?_) (fun c1 => ?_)
  · skip
    refine y_blk 1 tq_X8_setOf (z := (17, [(0, .int cell)], [.long 0])) rfl ?_
    exact y_lret tq_X8_setOf rfl rfl (⟨by first | rfl | (congr 2; unfold xset; (repeat' split) <;> first | rfl | (exfalso; simp only [ylt, yle, yeqI, yl_m1, yl_0, yl_1, yl_2, yl_3, yl_4, yl_5, yl_6, yl_7, yl_8, yl_9, yl_10, yl_11, yl_12, yl_15, yl_16, yl_20, yl_60, yl_64, yl_90, yl_97, yl_99, yl_100, yl_120, yl_239, yl_240] at *; omega)), rfl⟩)
  · skip
    refine y_blk 2 tq_X8_setOf (z := (7, [(0, .int cell)], [.int 64, .int cell])) rfl ?_
    refine y_icmp_ge tq_X8_setOf 16 rfl rfl (fun c7 => ?_) (fun c7 => ?_)
    · skip
      refine y_blk 1 tq_X8_setOf (z := (17, [(0, .int cell)], [.long 0])) rfl ?_
      exact y_lret tq_X8_setOf rfl rfl (⟨by first | rfl | (congr 2; unfold xset; (repeat' split) <;> first | rfl | (exfalso; simp only [ylt, yle, yeqI, yl_m1, yl_0, yl_1, yl_2, yl_3, yl_4, yl_5, yl_6, yl_7, yl_8, yl_9, yl_10, yl_11, yl_12, yl_15, yl_16, yl_20, yl_60, yl_64, yl_90, yl_97, yl_99, yl_100, yl_120, yl_239, yl_240] at *; omega)), rfl⟩)
    · skip
      refine y_blk 4 tq_X8_setOf (z := (17, [(0, .int cell)], [.long (1 <<< (Int32.toInt64 cell &&& 63))])) rfl ?_
      exact y_lret tq_X8_setOf rfl rfl (⟨by first | rfl | (congr 2; unfold xset; (repeat' split) <;> first | rfl | (exfalso; simp only [ylt, yle, yeqI, yl_m1, yl_0, yl_1, yl_2, yl_3, yl_4, yl_5, yl_6, yl_7, yl_8, yl_9, yl_10, yl_11, yl_12, yl_15, yl_16, yl_20, yl_60, yl_64, yl_90, yl_97, yl_99, yl_100, yl_120, yl_239, yl_240] at *; omega)), rfl⟩)
set_option maxHeartbeats 4000000 in
set_option maxRecDepth 100000 in
theorem m_X8_setOf_ok {l : Launch} {S0 : State} {A0 : Array Value} {D : va_G} {aC : Nat → ClassId} {G : AH} (hS : yS l S0 A0 D aC) (cell : Int32) : yM l S0 D yX8_setOf cX8_setOf 1 (some .long) 10 0 0 [.int cell] G (fun r G1 => (∃ v : Int64, r = some (.long v)) ∧ G1 = G) (fun _ _ => False) := by
  refine yM.ofK K_X8_setOf rfl (by decide) (Nat.le_of_ble_eq_true rfl) ?_
  have J17 : ∀ (w17_0 : Int64), Y l S0 D K_X8_setOf 10 0 0 (fun r G1 => (∃ v : Int64, r = some (.long v)) ∧ G1 = G) (fun _ _ => False) 17 [(0, .int cell)] [.long w17_0] G 0 0 := by
    intro w17_0
    exact y_lret tq_X8_setOf rfl rfl (⟨⟨_, rfl⟩, rfl⟩)
  have J16 : ∀ (_ : True), Y l S0 D K_X8_setOf 10 0 0 (fun r G1 => (∃ v : Int64, r = some (.long v)) ∧ G1 = G) (fun _ _ => False) 16 [(0, .int cell)] [] G 0 0 := by
    intro _
    refine y_blk 1 tq_X8_setOf (z := (17, [(0, .int cell)], [.long 0])) rfl ?_
    exact J17 0
  refine y_blk 1 tq_X8_setOf (z := (1, [(0, .int cell)], [.int cell])) rfl ?_
  refine y_if_lt tq_X8_setOf 16 rfl rfl (fun c1 => ?_) (fun c1 => ?_)
  · skip
    refine y_blk 0 tq_X8_setOf (z := (16, [(0, .int cell)], [])) rfl ?_
    exact J16 trivial
  · skip
    refine y_blk 2 tq_X8_setOf (z := (7, [(0, .int cell)], [.int 64, .int cell])) rfl ?_
    refine y_icmp_ge tq_X8_setOf 16 rfl rfl (fun c7 => ?_) (fun c7 => ?_)
    · skip
      refine y_blk 0 tq_X8_setOf (z := (16, [(0, .int cell)], [])) rfl ?_
      exact J16 trivial
    · skip
      refine y_blk 4 tq_X8_setOf (z := (17, [(0, .int cell)], [.long (1 <<< (Int32.toInt64 cell &&& 63))])) rfl ?_
      exact J17 (1 <<< (Int32.toInt64 cell &&& 63))
set_option maxHeartbeats 4000000 in
set_option maxRecDepth 100000 in
theorem m_X8_isOf {l : Launch} {S0 : State} {A0 : Array Value} {D : va_G} {aC : Nat → ClassId} {G : AH} (hS : yS l S0 A0 D aC) (set : Int64) (cell : Int32) : yM l S0 D yX8_isOf cX8_isOf 3 (some .boolean) 11 0 0 [.long set, .int cell] G (fun r G1 => r = some (.int (if xis set cell then 1 else 0)) ∧ G1 = G) (fun _ _ => False) := by
  refine yM.ofK K_X8_isOf rfl (by decide) (Nat.le_of_ble_eq_true rfl) ?_
  refine y_blk 2 tq_X8_isOf (z := (2, [(0, .long set), (2, .int cell)], [.int cell, .long set])) rfl ?_
  refine y_callS hS tq_X8_isOf rfl (As := [.int cell]) rfl cs_X8_340 (m_X8_setOf hS  cell) rfl (by decide) (Nat.le_of_ble_eq_true rfl) (fun r2 Gc2 q2 => ?_) (fun E9 G9 h9 => h9.elim)
  obtain ⟨rfl, eG2⟩ := q2
  have eG2 := eG2.symm
  subst eG2
  refine y_blk 3 tq_X8_isOf (z := (8, [(0, .long set), (2, .int cell)], [.int (lg_cmp (set &&& (xset cell)) 0)])) rfl ?_
  refine y_if_eq tq_X8_isOf 15 rfl rfl (fun c8 => ?_) (fun c8 => ?_)
  · skip
    refine y_blk 1 tq_X8_isOf (z := (16, [(0, .long set), (2, .int cell)], [.int 0])) rfl ?_
    exact y_zret tq_X8_isOf rfl rfl (rfl) (⟨(by first | exact congrArg (fun z => some (Value.int z)) (if_pos (fun q => c8 (lgc0.mpr q))).symm | exact congrArg (fun z => some (Value.int z)) (if_neg (fun q => q (lgc0.mp c8))).symm), rfl⟩)
  · skip
    refine y_blk 2 tq_X8_isOf (z := (16, [(0, .long set), (2, .int cell)], [.int 1])) rfl ?_
    exact y_zret tq_X8_isOf rfl rfl (rfl) (⟨(by first | exact congrArg (fun z => some (Value.int z)) (if_pos (fun q => c8 (lgc0.mpr q))).symm | exact congrArg (fun z => some (Value.int z)) (if_neg (fun q => q (lgc0.mp c8))).symm), rfl⟩)
set_option maxHeartbeats 4000000 in
set_option maxRecDepth 100000 in
theorem m_X8_nextOfRow {l : Launch} {S0 : State} {A0 : Array Value} {D : va_G} {aC : Nat → ClassId} {G : AH} (hS : yS l S0 A0 D aC) (number : Int32) : yM l S0 D yX8_nextOfRow cX8_nextOfRow 1 (some .int) 10 0 0 [.int number] G (fun r G1 => r = some (.int (yaft number)) ∧ G1 = G) (fun _ _ => False) := by
  refine yM.ofK K_X8_nextOfRow rfl (by decide) (Nat.le_of_ble_eq_true rfl) ?_
  refine y_blk 6 tq_X8_nextOfRow (z := (9, [(0, .int number)], [.int 97, .int ((23 * number) + 15)])) rfl ?_
  refine y_irem tq_X8_nextOfRow rfl (by decide) ?_
  refine y_blk 0 tq_X8_nextOfRow (z := (10, [(0, .int number)], [.int (((23 * number) + 15) - ((23 * number) + 15) / 97 * 97)])) rfl ?_
  exact y_iret tq_X8_nextOfRow rfl rfl (⟨by first | rfl | (congr 2; (repeat' split) <;> first | rfl | (exfalso; simp only [ylt, yle, yeqI, yl_m1, yl_0, yl_1, yl_2, yl_3, yl_4, yl_5, yl_6, yl_7, yl_8, yl_9, yl_10, yl_11, yl_12, yl_15, yl_16, yl_20, yl_60, yl_64, yl_90, yl_97, yl_99, yl_100, yl_120, yl_239, yl_240] at *; omega)), rfl⟩)
set_option maxHeartbeats 4000000 in
set_option maxRecDepth 100000 in
theorem m_J6_bitCount_0f7a4 {l : Launch} {S0 : State} {A0 : Array Value} {D : va_G} {aC : Nat → ClassId} {G : AH} (hS : yS l S0 A0 D aC) (i : Int32) : yM l S0 D yJ6_bitCount_0f7a4 cJ6_bitCount_0f7a4 1 (some .int) 10 0 0 [.int i] G (fun r G1 => (∃ v : Int32, r = some (.int v)) ∧ G1 = G) (fun _ _ => False) := by
  refine yM.ofK K_J6_bitCount_0f7a4 rfl (by decide) (Nat.le_of_ble_eq_true rfl) ?_
  refine y_blk 4 tq_J6_bitCount_0f7a4 (z := (4, [(0, .int i)], [.int ((Int32.toUInt32 i >>> (Int32.toUInt32 1 &&& Int32.toUInt32 31)).toInt32), .int i])) rfl ?_
  refine y_ldcw hS tq_J6_bitCount_0f7a4 rfl ld_J6_265 ?_
  refine y_blk 4 tq_J6_bitCount_0f7a4 (z := (11, [(0, .int (i - (((Int32.toUInt32 i >>> (Int32.toUInt32 1 &&& Int32.toUInt32 31)).toInt32) &&& (1431655765))))], [.int (i - (((Int32.toUInt32 i >>> (Int32.toUInt32 1 &&& Int32.toUInt32 31)).toInt32) &&& (1431655765)))])) rfl ?_
  refine y_ldcw hS tq_J6_bitCount_0f7a4 rfl ld_J6_266 ?_
  refine y_blk 4 tq_J6_bitCount_0f7a4 (z := (18, [(0, .int (i - (((Int32.toUInt32 i >>> (Int32.toUInt32 1 &&& Int32.toUInt32 31)).toInt32) &&& (1431655765))))], [.int ((Int32.toUInt32 (i - (((Int32.toUInt32 i >>> (Int32.toUInt32 1 &&& Int32.toUInt32 31)).toInt32) &&& (1431655765))) >>> (Int32.toUInt32 2 &&& Int32.toUInt32 31)).toInt32), .int ((i - (((Int32.toUInt32 i >>> (Int32.toUInt32 1 &&& Int32.toUInt32 31)).toInt32) &&& (1431655765))) &&& (858993459))])) rfl ?_
  refine y_ldcw hS tq_J6_bitCount_0f7a4 rfl ld_J6_266 ?_
  refine y_blk 8 tq_J6_bitCount_0f7a4 (z := (29, [(0, .int (((i - (((Int32.toUInt32 i >>> (Int32.toUInt32 1 &&& Int32.toUInt32 31)).toInt32) &&& (1431655765))) &&& (858993459)) + (((Int32.toUInt32 (i - (((Int32.toUInt32 i >>> (Int32.toUInt32 1 &&& Int32.toUInt32 31)).toInt32) &&& (1431655765))) >>> (Int32.toUInt32 2 &&& Int32.toUInt32 31)).toInt32) &&& (858993459))))], [.int ((((i - (((Int32.toUInt32 i >>> (Int32.toUInt32 1 &&& Int32.toUInt32 31)).toInt32) &&& (1431655765))) &&& (858993459)) + (((Int32.toUInt32 (i - (((Int32.toUInt32 i >>> (Int32.toUInt32 1 &&& Int32.toUInt32 31)).toInt32) &&& (1431655765))) >>> (Int32.toUInt32 2 &&& Int32.toUInt32 31)).toInt32) &&& (858993459))) + ((Int32.toUInt32 (((i - (((Int32.toUInt32 i >>> (Int32.toUInt32 1 &&& Int32.toUInt32 31)).toInt32) &&& (1431655765))) &&& (858993459)) + (((Int32.toUInt32 (i - (((Int32.toUInt32 i >>> (Int32.toUInt32 1 &&& Int32.toUInt32 31)).toInt32) &&& (1431655765))) >>> (Int32.toUInt32 2 &&& Int32.toUInt32 31)).toInt32) &&& (858993459))) >>> (Int32.toUInt32 4 &&& Int32.toUInt32 31)).toInt32))])) rfl ?_
  refine y_ldcw hS tq_J6_bitCount_0f7a4 rfl ld_J6_267 ?_
  refine y_blk 17 tq_J6_bitCount_0f7a4 (z := (52, [(0, .int (((((((i - (((Int32.toUInt32 i >>> (Int32.toUInt32 1 &&& Int32.toUInt32 31)).toInt32) &&& (1431655765))) &&& (858993459)) + (((Int32.toUInt32 (i - (((Int32.toUInt32 i >>> (Int32.toUInt32 1 &&& Int32.toUInt32 31)).toInt32) &&& (1431655765))) >>> (Int32.toUInt32 2 &&& Int32.toUInt32 31)).toInt32) &&& (858993459))) + ((Int32.toUInt32 (((i - (((Int32.toUInt32 i >>> (Int32.toUInt32 1 &&& Int32.toUInt32 31)).toInt32) &&& (1431655765))) &&& (858993459)) + (((Int32.toUInt32 (i - (((Int32.toUInt32 i >>> (Int32.toUInt32 1 &&& Int32.toUInt32 31)).toInt32) &&& (1431655765))) >>> (Int32.toUInt32 2 &&& Int32.toUInt32 31)).toInt32) &&& (858993459))) >>> (Int32.toUInt32 4 &&& Int32.toUInt32 31)).toInt32)) &&& (252645135)) + ((Int32.toUInt32 (((((i - (((Int32.toUInt32 i >>> (Int32.toUInt32 1 &&& Int32.toUInt32 31)).toInt32) &&& (1431655765))) &&& (858993459)) + (((Int32.toUInt32 (i - (((Int32.toUInt32 i >>> (Int32.toUInt32 1 &&& Int32.toUInt32 31)).toInt32) &&& (1431655765))) >>> (Int32.toUInt32 2 &&& Int32.toUInt32 31)).toInt32) &&& (858993459))) + ((Int32.toUInt32 (((i - (((Int32.toUInt32 i >>> (Int32.toUInt32 1 &&& Int32.toUInt32 31)).toInt32) &&& (1431655765))) &&& (858993459)) + (((Int32.toUInt32 (i - (((Int32.toUInt32 i >>> (Int32.toUInt32 1 &&& Int32.toUInt32 31)).toInt32) &&& (1431655765))) >>> (Int32.toUInt32 2 &&& Int32.toUInt32 31)).toInt32) &&& (858993459))) >>> (Int32.toUInt32 4 &&& Int32.toUInt32 31)).toInt32)) &&& (252645135)) >>> (Int32.toUInt32 8 &&& Int32.toUInt32 31)).toInt32)) + ((Int32.toUInt32 ((((((i - (((Int32.toUInt32 i >>> (Int32.toUInt32 1 &&& Int32.toUInt32 31)).toInt32) &&& (1431655765))) &&& (858993459)) + (((Int32.toUInt32 (i - (((Int32.toUInt32 i >>> (Int32.toUInt32 1 &&& Int32.toUInt32 31)).toInt32) &&& (1431655765))) >>> (Int32.toUInt32 2 &&& Int32.toUInt32 31)).toInt32) &&& (858993459))) + ((Int32.toUInt32 (((i - (((Int32.toUInt32 i >>> (Int32.toUInt32 1 &&& Int32.toUInt32 31)).toInt32) &&& (1431655765))) &&& (858993459)) + (((Int32.toUInt32 (i - (((Int32.toUInt32 i >>> (Int32.toUInt32 1 &&& Int32.toUInt32 31)).toInt32) &&& (1431655765))) >>> (Int32.toUInt32 2 &&& Int32.toUInt32 31)).toInt32) &&& (858993459))) >>> (Int32.toUInt32 4 &&& Int32.toUInt32 31)).toInt32)) &&& (252645135)) + ((Int32.toUInt32 (((((i - (((Int32.toUInt32 i >>> (Int32.toUInt32 1 &&& Int32.toUInt32 31)).toInt32) &&& (1431655765))) &&& (858993459)) + (((Int32.toUInt32 (i - (((Int32.toUInt32 i >>> (Int32.toUInt32 1 &&& Int32.toUInt32 31)).toInt32) &&& (1431655765))) >>> (Int32.toUInt32 2 &&& Int32.toUInt32 31)).toInt32) &&& (858993459))) + ((Int32.toUInt32 (((i - (((Int32.toUInt32 i >>> (Int32.toUInt32 1 &&& Int32.toUInt32 31)).toInt32) &&& (1431655765))) &&& (858993459)) + (((Int32.toUInt32 (i - (((Int32.toUInt32 i >>> (Int32.toUInt32 1 &&& Int32.toUInt32 31)).toInt32) &&& (1431655765))) >>> (Int32.toUInt32 2 &&& Int32.toUInt32 31)).toInt32) &&& (858993459))) >>> (Int32.toUInt32 4 &&& Int32.toUInt32 31)).toInt32)) &&& (252645135)) >>> (Int32.toUInt32 8 &&& Int32.toUInt32 31)).toInt32)) >>> (Int32.toUInt32 16 &&& Int32.toUInt32 31)).toInt32)))], [.int ((((((((i - (((Int32.toUInt32 i >>> (Int32.toUInt32 1 &&& Int32.toUInt32 31)).toInt32) &&& (1431655765))) &&& (858993459)) + (((Int32.toUInt32 (i - (((Int32.toUInt32 i >>> (Int32.toUInt32 1 &&& Int32.toUInt32 31)).toInt32) &&& (1431655765))) >>> (Int32.toUInt32 2 &&& Int32.toUInt32 31)).toInt32) &&& (858993459))) + ((Int32.toUInt32 (((i - (((Int32.toUInt32 i >>> (Int32.toUInt32 1 &&& Int32.toUInt32 31)).toInt32) &&& (1431655765))) &&& (858993459)) + (((Int32.toUInt32 (i - (((Int32.toUInt32 i >>> (Int32.toUInt32 1 &&& Int32.toUInt32 31)).toInt32) &&& (1431655765))) >>> (Int32.toUInt32 2 &&& Int32.toUInt32 31)).toInt32) &&& (858993459))) >>> (Int32.toUInt32 4 &&& Int32.toUInt32 31)).toInt32)) &&& (252645135)) + ((Int32.toUInt32 (((((i - (((Int32.toUInt32 i >>> (Int32.toUInt32 1 &&& Int32.toUInt32 31)).toInt32) &&& (1431655765))) &&& (858993459)) + (((Int32.toUInt32 (i - (((Int32.toUInt32 i >>> (Int32.toUInt32 1 &&& Int32.toUInt32 31)).toInt32) &&& (1431655765))) >>> (Int32.toUInt32 2 &&& Int32.toUInt32 31)).toInt32) &&& (858993459))) + ((Int32.toUInt32 (((i - (((Int32.toUInt32 i >>> (Int32.toUInt32 1 &&& Int32.toUInt32 31)).toInt32) &&& (1431655765))) &&& (858993459)) + (((Int32.toUInt32 (i - (((Int32.toUInt32 i >>> (Int32.toUInt32 1 &&& Int32.toUInt32 31)).toInt32) &&& (1431655765))) >>> (Int32.toUInt32 2 &&& Int32.toUInt32 31)).toInt32) &&& (858993459))) >>> (Int32.toUInt32 4 &&& Int32.toUInt32 31)).toInt32)) &&& (252645135)) >>> (Int32.toUInt32 8 &&& Int32.toUInt32 31)).toInt32)) + ((Int32.toUInt32 ((((((i - (((Int32.toUInt32 i >>> (Int32.toUInt32 1 &&& Int32.toUInt32 31)).toInt32) &&& (1431655765))) &&& (858993459)) + (((Int32.toUInt32 (i - (((Int32.toUInt32 i >>> (Int32.toUInt32 1 &&& Int32.toUInt32 31)).toInt32) &&& (1431655765))) >>> (Int32.toUInt32 2 &&& Int32.toUInt32 31)).toInt32) &&& (858993459))) + ((Int32.toUInt32 (((i - (((Int32.toUInt32 i >>> (Int32.toUInt32 1 &&& Int32.toUInt32 31)).toInt32) &&& (1431655765))) &&& (858993459)) + (((Int32.toUInt32 (i - (((Int32.toUInt32 i >>> (Int32.toUInt32 1 &&& Int32.toUInt32 31)).toInt32) &&& (1431655765))) >>> (Int32.toUInt32 2 &&& Int32.toUInt32 31)).toInt32) &&& (858993459))) >>> (Int32.toUInt32 4 &&& Int32.toUInt32 31)).toInt32)) &&& (252645135)) + ((Int32.toUInt32 (((((i - (((Int32.toUInt32 i >>> (Int32.toUInt32 1 &&& Int32.toUInt32 31)).toInt32) &&& (1431655765))) &&& (858993459)) + (((Int32.toUInt32 (i - (((Int32.toUInt32 i >>> (Int32.toUInt32 1 &&& Int32.toUInt32 31)).toInt32) &&& (1431655765))) >>> (Int32.toUInt32 2 &&& Int32.toUInt32 31)).toInt32) &&& (858993459))) + ((Int32.toUInt32 (((i - (((Int32.toUInt32 i >>> (Int32.toUInt32 1 &&& Int32.toUInt32 31)).toInt32) &&& (1431655765))) &&& (858993459)) + (((Int32.toUInt32 (i - (((Int32.toUInt32 i >>> (Int32.toUInt32 1 &&& Int32.toUInt32 31)).toInt32) &&& (1431655765))) >>> (Int32.toUInt32 2 &&& Int32.toUInt32 31)).toInt32) &&& (858993459))) >>> (Int32.toUInt32 4 &&& Int32.toUInt32 31)).toInt32)) &&& (252645135)) >>> (Int32.toUInt32 8 &&& Int32.toUInt32 31)).toInt32)) >>> (Int32.toUInt32 16 &&& Int32.toUInt32 31)).toInt32)) &&& 63)])) rfl ?_
  exact y_iret tq_J6_bitCount_0f7a4 rfl rfl (⟨⟨_, rfl⟩, rfl⟩)
set_option maxHeartbeats 4000000 in
set_option maxRecDepth 100000 in
theorem m_J13_bitCount_95d88 {l : Launch} {S0 : State} {A0 : Array Value} {D : va_G} {aC : Nat → ClassId} {G : AH} (hS : yS l S0 A0 D aC) (i : Int64) : yM l S0 D yJ13_bitCount_95d88 cJ13_bitCount_95d88 2 (some .int) 10 0 0 [.long i] G (fun r G1 => r = some (.int (bcL i)) ∧ G1 = G) (fun _ _ => False) := by
  refine yM.ofK K_J13_bitCount_95d88 rfl (by decide) (Nat.le_of_ble_eq_true rfl) ?_
  refine y_blk 4 tq_J13_bitCount_95d88 (z := (4, [(0, .long i)], [.long (bsh i 1), .long i])) rfl ?_
  refine y_ldc2 hS tq_J13_bitCount_95d88 rfl ld_J13_314 ?_
  refine y_blk 4 tq_J13_bitCount_95d88 (z := (11, [(0, .long (bc1 i))], [.long (bc1 i)])) rfl ?_
  refine y_ldc2 hS tq_J13_bitCount_95d88 rfl ld_J13_316 ?_
  refine y_blk 4 tq_J13_bitCount_95d88 (z := (18, [(0, .long (bc1 i))], [.long (bsh (bc1 i) 2), .long ((bc1 i) &&& 3689348814741910323)])) rfl ?_
  refine y_ldc2 hS tq_J13_bitCount_95d88 rfl ld_J13_316 ?_
  refine y_blk 8 tq_J13_bitCount_95d88 (z := (29, [(0, .long (bc2 (bc1 i)))], [.long ((bc2 (bc1 i)) + bsh (bc2 (bc1 i)) 4)])) rfl ?_
  refine y_ldc2 hS tq_J13_bitCount_95d88 rfl ld_J13_318 ?_
  refine y_blk 2 tq_J13_bitCount_95d88 (z := (34, [(0, .long (bc3 (bc2 (bc1 i))))], [])) rfl ?_
  refine y_blk 6 tq_J13_bitCount_95d88 (z := (41, [(0, .long (bc4 (bc3 (bc2 (bc1 i)))))], [])) rfl ?_
  refine y_blk 6 tq_J13_bitCount_95d88 (z := (48, [(0, .long (bc5 (bc4 (bc3 (bc2 (bc1 i))))))], [])) rfl ?_
  refine y_blk 6 tq_J13_bitCount_95d88 (z := (55, [(0, .long (bc6 (bc5 (bc4 (bc3 (bc2 (bc1 i)))))))], [])) rfl ?_
  refine y_blk 4 tq_J13_bitCount_95d88 (z := (60, [(0, .long (bc6 (bc5 (bc4 (bc3 (bc2 (bc1 i)))))))], [.int (Int64.toInt32 (bc6 (bc5 (bc4 (bc3 (bc2 (bc1 i)))))) &&& 127)])) rfl ?_
  exact y_iret tq_J13_bitCount_95d88 rfl rfl ⟨rfl, rfl⟩
set_option maxHeartbeats 4000000 in
set_option maxRecDepth 100000 in
theorem m_X5_size {l : Launch} {S0 : State} {A0 : Array Value} {D : va_G} {aC : Nat → ClassId} {ad : Nat → Nat} {G : AH} {σ : XS} (hS : yS l S0 A0 D aC) (hX : atX aC ad G σ) {k : Nat} (hk : k < 24) : yM l S0 D yX5_size cX5_size 1 (some .int) 10 0 0 [.ref (ad (100 + 2 * k))] G (fun r G1 => r = some (.int (σ.1 k)) ∧ G1 = G) (fun _ _ => False) := by
  refine yM.ofK K_X5_size rfl (by decide) (Nat.le_of_ble_eq_true rfl) ?_
  refine y_blk 1 tq_X5_size (z := (1, [(0, .ref (ad (100 + 2 * k)))], [.ref (ad (100 + 2 * k))])) rfl ?_
  refine y_get hS tq_X5_size (v := .int (σ.1 k)) rfl fg_X5_15_X5 (hX.num hk) rfl ?_
  refine y_blk 0 tq_X5_size (z := (4, [(0, .ref (ad (100 + 2 * k)))], [.int (σ.1 k)])) rfl ?_
  exact y_iret tq_X5_size rfl rfl (⟨by first | rfl | (congr 2; (repeat' split) <;> first | rfl | (exfalso; simp only [ylt, yle, yeqI, yl_m1, yl_0, yl_1, yl_2, yl_3, yl_4, yl_5, yl_6, yl_7, yl_8, yl_9, yl_10, yl_11, yl_12, yl_15, yl_16, yl_20, yl_60, yl_64, yl_90, yl_97, yl_99, yl_100, yl_120, yl_239, yl_240] at *; omega)), rfl⟩)
set_option maxHeartbeats 4000000 in
set_option maxRecDepth 100000 in
theorem m_X5_isFull {l : Launch} {S0 : State} {A0 : Array Value} {D : va_G} {aC : Nat → ClassId} {ad : Nat → Nat} {G : AH} {σ : XS} (hS : yS l S0 A0 D aC) (hX : atX aC ad G σ) {k : Nat} (hk : k < 24) : yM l S0 D yX5_isFull cX5_isFull 1 (some .boolean) 10 0 0 [.ref (ad (100 + 2 * k))] G (fun r G1 => r = some (.int (if (xcap k : Int) ≤ (σ.1 k).toInt then 1 else 0)) ∧ G1 = G) (fun _ _ => False) := by
  refine yM.ofK K_X5_isFull rfl (by decide) (Nat.le_of_ble_eq_true rfl) ?_
  have hcap := xcap_le k
  have hlen : (Int32.ofNat (xcap k)).toInt = xcap k := yofNat (by omega)
  refine y_blk 1 tq_X5_isFull (z := (1, [(0, .ref (ad (100 + 2 * k)))], [.ref (ad (100 + 2 * k))])) rfl ?_
  refine y_get hS tq_X5_isFull (v := .int (σ.1 k)) rfl fg_X5_15_X5 (hX.num hk) rfl ?_
  refine y_blk 1 tq_X5_isFull (z := (5, [(0, .ref (ad (100 + 2 * k)))], [.ref (ad (100 + 2 * k)), .int (σ.1 k)])) rfl ?_
  refine y_get hS tq_X5_isFull (v := .ref (ad (100 + 2 * k + 1))) rfl fg_X5_9_X5 (hX.num hk) rfl ?_
  refine y_blk 0 tq_X5_isFull (z := (8, [(0, .ref (ad (100 + 2 * k)))], [.ref (ad (100 + 2 * k + 1)), .int (σ.1 k)])) rfl ?_
  refine y_alen hS tq_X5_isFull 0 rfl rfl (hX.arr hk) ?_
  refine y_blk 0 tq_X5_isFull (z := (9, [(0, .ref (ad (100 + 2 * k)))], [.int (Int32.ofNat (xcap k)), .int (σ.1 k)])) rfl ?_
  refine y_icmp_lt tq_X5_isFull 16 rfl rfl (fun c9 => ?_) (fun c9 => ?_)
  · skip
    refine y_blk 1 tq_X5_isFull (z := (17, [(0, .ref (ad (100 + 2 * k)))], [.int 0])) rfl ?_
    exact y_zret tq_X5_isFull rfl rfl (rfl) (⟨by first | rfl | (congr 2; (repeat' split) <;> first | rfl | (exfalso; simp only [ylt, yle, yeqI, yl_m1, yl_0, yl_1, yl_2, yl_3, yl_4, yl_5, yl_6, yl_7, yl_8, yl_9, yl_10, yl_11, yl_12, yl_15, yl_16, yl_20, yl_60, yl_64, yl_90, yl_97, yl_99, yl_100, yl_120, yl_239, yl_240] at *; omega)), rfl⟩)
  · skip
    refine y_blk 2 tq_X5_isFull (z := (17, [(0, .ref (ad (100 + 2 * k)))], [.int 1])) rfl ?_
    exact y_zret tq_X5_isFull rfl rfl (rfl) (⟨by first | rfl | (congr 2; (repeat' split) <;> first | rfl | (exfalso; simp only [ylt, yle, yeqI, yl_m1, yl_0, yl_1, yl_2, yl_3, yl_4, yl_5, yl_6, yl_7, yl_8, yl_9, yl_10, yl_11, yl_12, yl_15, yl_16, yl_20, yl_60, yl_64, yl_90, yl_97, yl_99, yl_100, yl_120, yl_239, yl_240] at *; omega)), rfl⟩)
set_option maxHeartbeats 4000000 in
set_option maxRecDepth 100000 in
theorem m_X5_at {l : Launch} {S0 : State} {A0 : Array Value} {D : va_G} {aC : Nat → ClassId} {ad : Nat → Nat} {G : AH} {σ : XS} (hS : yS l S0 A0 D aC) (hX : atX aC ad G σ) {k : Nat} (hk : k < 24) (place : Int32) : yM l S0 D yX5_at cX5_at 2 (some .int) 10 0 0 [.ref (ad (100 + 2 * k)), .int place] G (fun r G1 => r = some (.int (xat σ k place)) ∧ G1 = G) (fun _ _ => False) := by
  refine yM.ofK K_X5_at rfl (by decide) (Nat.le_of_ble_eq_true rfl) ?_
  have hcap := xcap_le k
  have hlen : (Int32.ofNat (xcap k)).toInt = xcap k := yofNat (by omega)
  refine y_blk 1 tq_X5_at (z := (1, [(0, .ref (ad (100 + 2 * k))), (1, .int place)], [.int place])) rfl ?_
  refine y_if_lt tq_X5_at 22 rfl rfl (fun c1 => ?_) (fun c1 => ?_)
  · skip
    refine y_blk 1 tq_X5_at (z := (23, [(0, .ref (ad (100 + 2 * k))), (1, .int place)], [.int (-1)])) rfl ?_
    exact y_iret tq_X5_at rfl rfl (⟨by first | rfl | (congr 2; unfold xat; (repeat' split) <;> first | rfl | (exfalso; simp only [ylt, yle, yeqI, yl_m1, yl_0, yl_1, yl_2, yl_3, yl_4, yl_5, yl_6, yl_7, yl_8, yl_9, yl_10, yl_11, yl_12, yl_15, yl_16, yl_20, yl_60, yl_64, yl_90, yl_97, yl_99, yl_100, yl_120, yl_239, yl_240] at *; omega)), rfl⟩)
  · skip
    refine y_blk 2 tq_X5_at (z := (6, [(0, .ref (ad (100 + 2 * k))), (1, .int place)], [.ref (ad (100 + 2 * k)), .int place])) rfl ?_
    refine y_get hS tq_X5_at (v := .ref (ad (100 + 2 * k + 1))) rfl fg_X5_9_X5 (hX.num hk) rfl ?_
    refine y_blk 0 tq_X5_at (z := (9, [(0, .ref (ad (100 + 2 * k))), (1, .int place)], [.ref (ad (100 + 2 * k + 1)), .int place])) rfl ?_
    refine y_alen hS tq_X5_at 0 rfl rfl (hX.arr hk) ?_
    refine y_blk 0 tq_X5_at (z := (10, [(0, .ref (ad (100 + 2 * k))), (1, .int place)], [.int (Int32.ofNat (xcap k)), .int place])) rfl ?_
    refine y_icmp_ge tq_X5_at 22 rfl rfl (fun c10 => ?_) (fun c10 => ?_)
    · skip
      refine y_blk 1 tq_X5_at (z := (23, [(0, .ref (ad (100 + 2 * k))), (1, .int place)], [.int (-1)])) rfl ?_
      exact y_iret tq_X5_at rfl rfl (⟨by first | rfl | (congr 2; unfold xat; (repeat' split) <;> first | rfl | (exfalso; simp only [ylt, yle, yeqI, yl_m1, yl_0, yl_1, yl_2, yl_3, yl_4, yl_5, yl_6, yl_7, yl_8, yl_9, yl_10, yl_11, yl_12, yl_15, yl_16, yl_20, yl_60, yl_64, yl_90, yl_97, yl_99, yl_100, yl_120, yl_239, yl_240] at *; omega)), rfl⟩)
    · skip
      refine y_blk 1 tq_X5_at (z := (14, [(0, .ref (ad (100 + 2 * k))), (1, .int place)], [.ref (ad (100 + 2 * k))])) rfl ?_
      refine y_get hS tq_X5_at (v := .ref (ad (100 + 2 * k + 1))) rfl fg_X5_9_X5 (hX.num hk) rfl ?_
      refine y_blk 1 tq_X5_at (z := (18, [(0, .ref (ad (100 + 2 * k))), (1, .int place)], [.int place, .ref (ad (100 + 2 * k + 1))])) rfl ?_
      refine y_iald hS tq_X5_at rfl (hX.arr hk) (by exact yin (by (simp only [ylt, yle, yeqI, yl_m1, yl_0, yl_1, yl_2, yl_3, yl_4, yl_5, yl_6, yl_7, yl_8, yl_9, yl_10, yl_11, yl_12, yl_15, yl_16, yl_20, yl_60, yl_64, yl_90, yl_97, yl_99, yl_100, yl_120, yl_239, yl_240] at *; omega)) (by (simp only [ylt, yle, yeqI, yl_m1, yl_0, yl_1, yl_2, yl_3, yl_4, yl_5, yl_6, yl_7, yl_8, yl_9, yl_10, yl_11, yl_12, yl_15, yl_16, yl_20, yl_60, yl_64, yl_90, yl_97, yl_99, yl_100, yl_120, yl_239, yl_240] at *; omega))) ?_
      refine y_blk 1 tq_X5_at (z := (23, [(0, .ref (ad (100 + 2 * k))), (1, .int place)], [.int ((σ.2.1 k) (Int32.toNatClampNeg place))])) rfl ?_
      exact y_iret tq_X5_at rfl rfl (⟨by first | rfl | (congr 2; unfold xat; (repeat' split) <;> first | rfl | (exfalso; simp only [ylt, yle, yeqI, yl_m1, yl_0, yl_1, yl_2, yl_3, yl_4, yl_5, yl_6, yl_7, yl_8, yl_9, yl_10, yl_11, yl_12, yl_15, yl_16, yl_20, yl_60, yl_64, yl_90, yl_97, yl_99, yl_100, yl_120, yl_239, yl_240] at *; omega)), rfl⟩)
set_option maxHeartbeats 4000000 in
set_option maxRecDepth 100000 in
theorem m_X5_put {l : Launch} {S0 : State} {A0 : Array Value} {D : va_G} {aC : Nat → ClassId} {ad : Nat → Nat} {G : AH} {σ : XS} (hS : yS l S0 A0 D aC) (hX : atX aC ad G σ) {k : Nat} (hk : k < 24) (place : Int32) (number : Int32) (hv : k = 18 → number.toInt ≤ 1000) : yM l S0 D yX5_put cX5_put 3 none 10 0 0 [.ref (ad (100 + 2 * k)), .int place, .int number] G (fun r G1 => r = none ∧ atX aC ad G1 (xput σ k place number) ∧ keepX G G1) (fun _ _ => False) := by
  refine yM.ofK K_X5_put rfl (by decide) (Nat.le_of_ble_eq_true rfl) ?_
  have hcap := xcap_le k
  have hlen : (Int32.ofNat (xcap k)).toInt = xcap k := yofNat (by omega)
  refine y_blk 1 tq_X5_put (z := (1, [(0, .ref (ad (100 + 2 * k))), (1, .int place), (2, .int number)], [.int place])) rfl ?_
  refine y_if_lt tq_X5_put 20 rfl rfl (fun c1 => ?_) (fun c1 => ?_)
  · skip
    refine y_blk 0 tq_X5_put (z := (20, [(0, .ref (ad (100 + 2 * k))), (1, .int place), (2, .int number)], [])) rfl ?_
    exact y_vret tq_X5_put rfl rfl (⟨rfl, by unfold xput; first | (rw [if_pos (by (simp only [ylt, yle, yeqI, yl_m1, yl_0, yl_1, yl_2, yl_3, yl_4, yl_5, yl_6, yl_7, yl_8, yl_9, yl_10, yl_11, yl_12, yl_15, yl_16, yl_20, yl_60, yl_64, yl_90, yl_97, yl_99, yl_100, yl_120, yl_239, yl_240] at *; omega))]; exact hX) | (rw [if_neg (by (simp only [ylt, yle, yeqI, yl_m1, yl_0, yl_1, yl_2, yl_3, yl_4, yl_5, yl_6, yl_7, yl_8, yl_9, yl_10, yl_11, yl_12, yl_15, yl_16, yl_20, yl_60, yl_64, yl_90, yl_97, yl_99, yl_100, yl_120, yl_239, yl_240] at *; omega))]; exact hX), keepX.rfl'⟩)
  · skip
    refine y_blk 2 tq_X5_put (z := (6, [(0, .ref (ad (100 + 2 * k))), (1, .int place), (2, .int number)], [.ref (ad (100 + 2 * k)), .int place])) rfl ?_
    refine y_get hS tq_X5_put (v := .ref (ad (100 + 2 * k + 1))) rfl fg_X5_9_X5 (hX.num hk) rfl ?_
    refine y_blk 0 tq_X5_put (z := (9, [(0, .ref (ad (100 + 2 * k))), (1, .int place), (2, .int number)], [.ref (ad (100 + 2 * k + 1)), .int place])) rfl ?_
    refine y_alen hS tq_X5_put 0 rfl rfl (hX.arr hk) ?_
    refine y_blk 0 tq_X5_put (z := (10, [(0, .ref (ad (100 + 2 * k))), (1, .int place), (2, .int number)], [.int (Int32.ofNat (xcap k)), .int place])) rfl ?_
    refine y_icmp_ge tq_X5_put 20 rfl rfl (fun c10 => ?_) (fun c10 => ?_)
    · skip
      refine y_blk 0 tq_X5_put (z := (20, [(0, .ref (ad (100 + 2 * k))), (1, .int place), (2, .int number)], [])) rfl ?_
      exact y_vret tq_X5_put rfl rfl (⟨rfl, by unfold xput; first | (rw [if_pos (by (simp only [ylt, yle, yeqI, yl_m1, yl_0, yl_1, yl_2, yl_3, yl_4, yl_5, yl_6, yl_7, yl_8, yl_9, yl_10, yl_11, yl_12, yl_15, yl_16, yl_20, yl_60, yl_64, yl_90, yl_97, yl_99, yl_100, yl_120, yl_239, yl_240] at *; omega))]; exact hX) | (rw [if_neg (by (simp only [ylt, yle, yeqI, yl_m1, yl_0, yl_1, yl_2, yl_3, yl_4, yl_5, yl_6, yl_7, yl_8, yl_9, yl_10, yl_11, yl_12, yl_15, yl_16, yl_20, yl_60, yl_64, yl_90, yl_97, yl_99, yl_100, yl_120, yl_239, yl_240] at *; omega))]; exact hX), keepX.rfl'⟩)
    · skip
      refine y_blk 1 tq_X5_put (z := (14, [(0, .ref (ad (100 + 2 * k))), (1, .int place), (2, .int number)], [.ref (ad (100 + 2 * k))])) rfl ?_
      refine y_get hS tq_X5_put (v := .ref (ad (100 + 2 * k + 1))) rfl fg_X5_9_X5 (hX.num hk) rfl ?_
      refine y_blk 2 tq_X5_put (z := (19, [(0, .ref (ad (100 + 2 * k))), (1, .int place), (2, .int number)], [.int number, .int place, .ref (ad (100 + 2 * k + 1))])) rfl ?_
      refine y_iast hS tq_X5_put rfl (hX.arr hk) (by omega) (by exact yin (by (simp only [ylt, yle, yeqI, yl_m1, yl_0, yl_1, yl_2, yl_3, yl_4, yl_5, yl_6, yl_7, yl_8, yl_9, yl_10, yl_11, yl_12, yl_15, yl_16, yl_20, yl_60, yl_64, yl_90, yl_97, yl_99, yl_100, yl_120, yl_239, yl_240] at *; omega)) (by (simp only [ylt, yle, yeqI, yl_m1, yl_0, yl_1, yl_2, yl_3, yl_4, yl_5, yl_6, yl_7, yl_8, yl_9, yl_10, yl_11, yl_12, yl_15, yl_16, yl_20, yl_60, yl_64, yl_90, yl_97, yl_99, yl_100, yl_120, yl_239, yl_240] at *; omega))) ?_
      have hXw19 : atX aC ad (yup G (ad (100 + 2 * k + 1)) ((100 + 2 * k + 1), .inl (aC 0, (xcap k), .inl (upd (σ.2.1 k) (Int32.toNatClampNeg place) number)))) (xar σ k (upd (σ.2.1 k) (Int32.toNatClampNeg place) number)) := hX.setAr hk (hfupd hX.2 hv)
      have hFw19 : keepX G (yup G (ad (100 + 2 * k + 1)) ((100 + 2 * k + 1), .inl (aC 0, (xcap k), .inl (upd (σ.2.1 k) (Int32.toNatClampNeg place) number)))) := (keepX.rfl' (G := G)).up (hX.arr hk) (by omega) (by omega)
      generalize yup G (ad (100 + 2 * k + 1)) ((100 + 2 * k + 1), .inl (aC 0, (xcap k), .inl (upd (σ.2.1 k) (Int32.toNatClampNeg place) number))) = Gw19 at hXw19 hFw19 ⊢
      refine y_blk 0 tq_X5_put (z := (20, [(0, .ref (ad (100 + 2 * k))), (1, .int place), (2, .int number)], [])) rfl ?_
      exact y_vret tq_X5_put rfl rfl (⟨rfl, by unfold xput; first | (rw [if_pos (by (simp only [ylt, yle, yeqI, yl_m1, yl_0, yl_1, yl_2, yl_3, yl_4, yl_5, yl_6, yl_7, yl_8, yl_9, yl_10, yl_11, yl_12, yl_15, yl_16, yl_20, yl_60, yl_64, yl_90, yl_97, yl_99, yl_100, yl_120, yl_239, yl_240] at *; omega))]; exact hXw19) | (rw [if_neg (by (simp only [ylt, yle, yeqI, yl_m1, yl_0, yl_1, yl_2, yl_3, yl_4, yl_5, yl_6, yl_7, yl_8, yl_9, yl_10, yl_11, yl_12, yl_15, yl_16, yl_20, yl_60, yl_64, yl_90, yl_97, yl_99, yl_100, yl_120, yl_239, yl_240] at *; omega))]; exact hXw19), hFw19⟩)
set_option maxHeartbeats 4000000 in
set_option maxRecDepth 100000 in
theorem m_X5_add {l : Launch} {S0 : State} {A0 : Array Value} {D : va_G} {aC : Nat → ClassId} {ad : Nat → Nat} {G : AH} {σ : XS} (hS : yS l S0 A0 D aC) (hX : atX aC ad G σ) {k : Nat} (hk : k < 24) (number : Int32) (hv : k = 18 → number.toInt ≤ 1000) : yM l S0 D yX5_add cX5_add 2 none 11 0 0 [.ref (ad (100 + 2 * k)), .int number] G (fun r G1 => r = none ∧ atX aC ad G1 (xadd σ k number) ∧ keepX G G1) (fun _ _ => False) := by
  refine yM.ofK K_X5_add rfl (by decide) (Nat.le_of_ble_eq_true rfl) ?_
  have hcap := xcap_le k
  have hlen : (Int32.ofNat (xcap k)).toInt = xcap k := yofNat (by omega)
  have hb := hX.2.1 k
  have e1 : (σ.1 k).toInt < (xcap k : Int) → (σ.1 k + 1).toInt = (σ.1 k).toInt + 1 := fun q => by rw [yadd (by rw [yl_1]; omega) (by rw [yl_1]; omega), yl_1]
  refine y_blk 1 tq_X5_add (z := (1, [(0, .ref (ad (100 + 2 * k))), (1, .int number)], [.ref (ad (100 + 2 * k))])) rfl ?_
  refine y_callV hS tq_X5_add rfl (As := []) rfl cv_X5_19 (hX.num hk) (m_X5_isFull hS hX hk ) rfl (by decide) (Nat.le_of_ble_eq_true rfl) (fun r1 Gc1 q1 => ?_) (fun E9 G9 h9 => h9.elim)
  obtain ⟨rfl, eG1⟩ := q1
  have eG1 := eG1.symm
  subst eG1
  refine y_blk 0 tq_X5_add (z := (4, [(0, .ref (ad (100 + 2 * k))), (1, .int number)], [.int (if (xcap k : Int) ≤ (σ.1 k).toInt then 1 else 0)])) rfl ?_
  refine y_if_ne tq_X5_add 28 rfl rfl (fun c4 => ?_) (fun c4 => ?_)
  · skip
    have hge : ¬ (σ.1 k).toInt < (xcap k : Int) := fun q => by rw [if_neg (by omega)] at c4; exact c4 rfl
    refine y_blk 0 tq_X5_add (z := (28, [(0, .ref (ad (100 + 2 * k))), (1, .int number)], [])) rfl ?_
    exact y_vret tq_X5_add rfl rfl (⟨rfl, by unfold xadd; first | (rw [if_neg hge]; exact hX) | (rw [if_pos hlt]; have h9 := hX; rw [xsz_self] at h9; exact h9), keepX.rfl'⟩)
  · skip
    by_cases hlt : (xcap k : Int) ≤ (σ.1 k).toInt
    · rw [if_pos hlt] at c4; exact absurd c4 (by decide)
    have hlt : (σ.1 k).toInt < (xcap k : Int) := by omega
    have e1 := e1 hlt
    refine y_blk 2 tq_X5_add (z := (9, [(0, .ref (ad (100 + 2 * k))), (1, .int number)], [.ref (ad (100 + 2 * k)), .ref (ad (100 + 2 * k))])) rfl ?_
    refine y_get hS tq_X5_add (v := .int (σ.1 k)) rfl fg_X5_15_X5 (hX.num hk) rfl ?_
    refine y_blk 2 tq_X5_add (z := (14, [(0, .ref (ad (100 + 2 * k))), (1, .int number)], [.int ((σ.1 k) + 1), .ref (ad (100 + 2 * k))])) rfl ?_
    refine y_put hS tq_X5_add rfl fp_X5_15_X5 (hX.num hk) (by omega) rfl rfl (Nat.le_of_ble_eq_true rfl) ?_
    have hXw14 : atX aC ad (yup G (ad (100 + 2 * k)) ((100 + 2 * k), .inr (9, [.ref (ad (100 + 2 * k + 1)), .int ((σ.1 k) + 1)]))) (xsz σ k ((σ.1 k) + 1)) := hX.setSz hk (by rw [e1]; omega) (by rw [e1]; omega)
    have hFw14 : keepX G (yup G (ad (100 + 2 * k)) ((100 + 2 * k), .inr (9, [.ref (ad (100 + 2 * k + 1)), .int ((σ.1 k) + 1)]))) := (keepX.rfl' (G := G)).up (hX.num hk) (by omega) (by omega)
    show Y l S0 D K_X5_add 11 0 0 (fun r G1 => r = none ∧ atX aC ad G1 (xadd σ k number) ∧ keepX G G1) (fun _ _ => False) (14 + 3) [(0, .ref (ad (100 + 2 * k))), (1, .int number)] [] (yup G (ad (100 + 2 * k)) ((100 + 2 * k), .inr (9, [.ref (ad (100 + 2 * k + 1)), .int ((σ.1 k) + 1)]))) 0 0
    generalize yup G (ad (100 + 2 * k)) ((100 + 2 * k), .inr (9, [.ref (ad (100 + 2 * k + 1)), .int ((σ.1 k) + 1)])) = Gw14 at hXw14 hFw14 ⊢
    refine y_blk 2 tq_X5_add (z := (19, [(0, .ref (ad (100 + 2 * k))), (1, .int number)], [.ref (ad (100 + 2 * k)), .ref (ad (100 + 2 * k))])) rfl ?_
    refine y_get hS tq_X5_add (v := .int (((xsz σ k ((σ.1 k) + 1))).1 k)) rfl fg_X5_15_X5 (hXw14.num hk) rfl ?_
    refine y_blk 3 tq_X5_add (z := (25, [(0, .ref (ad (100 + 2 * k))), (1, .int number)], [.int number, .int ((((xsz σ k ((σ.1 k) + 1))).1 k) - 1), .ref (ad (100 + 2 * k))])) rfl ?_
    refine y_callV hS tq_X5_add rfl (As := [.int ((((xsz σ k ((σ.1 k) + 1))).1 k) - 1), .int number]) rfl cv_X5_23 (hXw14.num hk) (m_X5_put hS hXw14 hk ((((xsz σ k ((σ.1 k) + 1))).1 k) - 1) number hv) rfl (by decide) (Nat.le_of_ble_eq_true rfl) (fun r25 Gc25 q25 => ?_) (fun E9 G9 h9 => h9.elim)
    obtain ⟨rfl, hXc25, hFc25⟩ := q25
    refine y_blk 0 tq_X5_add (z := (28, [(0, .ref (ad (100 + 2 * k))), (1, .int number)], [])) rfl ?_
    exact y_vret tq_X5_add rfl rfl (⟨rfl, by unfold xadd; first | (rw [if_neg hge]; exact hXc25) | (rw [if_pos hlt]; have h9 := hXc25; rw [xsz_self] at h9; exact h9), (hFw14.trans hFc25)⟩)
set_option maxHeartbeats 4000000 in
set_option maxRecDepth 100000 in
theorem m_X5_clear {l : Launch} {S0 : State} {A0 : Array Value} {D : va_G} {aC : Nat → ClassId} {ad : Nat → Nat} {G : AH} {σ : XS} (hS : yS l S0 A0 D aC) (hX : atX aC ad G σ) {k : Nat} (hk : k < 24) : yM l S0 D yX5_clear cX5_clear 1 none 10 0 0 [.ref (ad (100 + 2 * k))] G (fun r G1 => r = none ∧ atX aC ad G1 (xsz σ k 0) ∧ keepX G G1) (fun _ _ => False) := by
  refine yM.ofK K_X5_clear rfl (by decide) (Nat.le_of_ble_eq_true rfl) ?_
  refine y_blk 2 tq_X5_clear (z := (2, [(0, .ref (ad (100 + 2 * k)))], [.int 0, .ref (ad (100 + 2 * k))])) rfl ?_
  refine y_put hS tq_X5_clear rfl fp_X5_15_X5 (hX.num hk) (by omega) rfl rfl (Nat.le_of_ble_eq_true rfl) ?_
  have hXw2 : atX aC ad (yup G (ad (100 + 2 * k)) ((100 + 2 * k), .inr (9, [.ref (ad (100 + 2 * k + 1)), .int 0]))) (xsz σ k 0) := hX.setSz hk (by decide) (by rw [yl_0]; omega)
  have hFw2 : keepX G (yup G (ad (100 + 2 * k)) ((100 + 2 * k), .inr (9, [.ref (ad (100 + 2 * k + 1)), .int 0]))) := (keepX.rfl' (G := G)).up (hX.num hk) (by omega) (by omega)
  show Y l S0 D K_X5_clear 10 0 0 (fun r G1 => r = none ∧ atX aC ad G1 (xsz σ k 0) ∧ keepX G G1) (fun _ _ => False) (2 + 3) [(0, .ref (ad (100 + 2 * k)))] [] (yup G (ad (100 + 2 * k)) ((100 + 2 * k), .inr (9, [.ref (ad (100 + 2 * k + 1)), .int 0]))) 0 0
  generalize yup G (ad (100 + 2 * k)) ((100 + 2 * k), .inr (9, [.ref (ad (100 + 2 * k + 1)), .int 0])) = Gw2 at hXw2 hFw2 ⊢
  refine y_blk 0 tq_X5_clear (z := (5, [(0, .ref (ad (100 + 2 * k)))], [])) rfl ?_
  exact y_vret tq_X5_clear rfl rfl (⟨rfl, hXw2, hFw2⟩)
set_option maxHeartbeats 4000000 in
set_option maxRecDepth 100000 in
theorem m_X5_fill {l : Launch} {S0 : State} {A0 : Array Value} {D : va_G} {aC : Nat → ClassId} {ad : Nat → Nat} {G : AH} {σ : XS} (hS : yS l S0 A0 D aC) (hX : atX aC ad G σ) {k : Nat} (hk : k < 24) (number : Int32) (hv : k = 18 → number.toInt ≤ 1000) : yM l S0 D yX5_fill cX5_fill 3 none 11 0 0 [.ref (ad (100 + 2 * k)), .int number] G (fun r G1 => r = none ∧ ∃ σ1 : XS, atX aC ad G1 σ1 ∧ keepX G G1 ∧ xfr [24 + k, k] σ σ1 ∧ xfl σ1 k number) (fun _ _ => False) := by
  refine yM.ofK K_X5_fill rfl (by decide) (Nat.le_of_ble_eq_true rfl) ?_
  have hcap := xcap_le k
  have hlen : (Int32.ofNat (xcap k)).toInt = xcap k := yofNat (by omega)
  have J11 : ∀ (n11 : Nat) (v11_2 : Int32) (G11 : AH) (s11 : XS) (hX11 : atX aC ad G11 s11) (hF11 : keepX G G11) (kn11 : xfr [24 + k, k] σ s11) (hf11 : xflP s11 k number v11_2), ((s11.1 k : Int32).toInt - v11_2.toInt).toNat = n11 → Y l S0 D K_X5_fill 11 0 0 (fun r G1 => r = none ∧ ∃ σ1 : XS, atX aC ad G1 σ1 ∧ keepX G G1 ∧ xfr [24 + k, k] σ σ1 ∧ xfl σ1 k number) (fun _ _ => False) 11 [(0, .ref (ad (100 + 2 * k))), (1, .int number), (2, .int v11_2)] [] G11 0 0 := by
    intro n11
    induction n11 using Nat.strongRecOn with
    | _ n11 ih11 =>
    intro v11_2 G11 s11 hX11 hF11 kn11 hf11 hn11
    subst hn11
    refine y_blk 2 tq_X5_fill (z := (13, [(0, .ref (ad (100 + 2 * k))), (1, .int number), (2, .int v11_2)], [.ref (ad (100 + 2 * k)), .int v11_2])) rfl ?_
    refine y_get hS tq_X5_fill (v := .int (s11.1 k)) rfl fg_X5_15_X5 (hX11.num hk) rfl ?_
    refine y_blk 0 tq_X5_fill (z := (16, [(0, .ref (ad (100 + 2 * k))), (1, .int number), (2, .int v11_2)], [.int (s11.1 k), .int v11_2])) rfl ?_
    refine y_icmp_ge tq_X5_fill 31 rfl rfl (fun c16 => ?_) (fun c16 => ?_)
    · skip
      refine y_blk 0 tq_X5_fill (z := (31, [(0, .ref (ad (100 + 2 * k))), (1, .int number), (2, .int v11_2)], [])) rfl ?_
      exact y_vret tq_X5_fill rfl rfl (⟨rfl, _, hX11, hF11, (kn11).w (by intro x hx; simp only [List.append_assoc, List.nil_append, List.cons_append, List.mem_cons, List.not_mem_nil, or_false] at hx ⊢; omega), hf11.stop c16⟩)
    · skip
      refine y_blk 3 tq_X5_fill (z := (22, [(0, .ref (ad (100 + 2 * k))), (1, .int number), (2, .int v11_2)], [.int number, .int v11_2, .ref (ad (100 + 2 * k))])) rfl ?_
      refine y_callV hS tq_X5_fill rfl (As := [.int v11_2, .int number]) rfl cv_X5_23 (hX11.num hk) (m_X5_put hS hX11 hk v11_2 number hv) rfl (by decide) (Nat.le_of_ble_eq_true rfl) (fun r22 Gc22 q22 => ?_) (fun E9 G9 h9 => h9.elim)
      obtain ⟨rfl, hXc22, hFc22⟩ := q22
      refine y_blk 2 tq_X5_fill (z := (11, [(2, .int (v11_2 + 1)), (0, .ref (ad (100 + 2 * k))), (1, .int number)], [])) rfl ?_
      refine y_pick (L2 := [(0, .ref (ad (100 + 2 * k))), (1, .int number), (2, .int (v11_2 + 1))]) [1, 2, 0] rfl ?_
      exact ih11 _ (by rw [xput_sz]; exact ydec c16) (v11_2 + 1) Gc22 (xput s11 k v11_2 number) hXc22 (hF11.trans hFc22) (((xkn.trans kn11 xkn_put)).w (by intro x hx; simp only [List.append_assoc, List.nil_append, List.cons_append, List.mem_cons, List.not_mem_nil, or_false] at hx ⊢; omega)) (by first | exact hf11.step c16 | exact xflP.init) rfl
  refine y_blk 2 tq_X5_fill (z := (2, [(0, .ref (ad (100 + 2 * k))), (1, .int number)], [.ref (ad (100 + 2 * k)), .ref (ad (100 + 2 * k))])) rfl ?_
  refine y_get hS tq_X5_fill (v := .ref (ad (100 + 2 * k + 1))) rfl fg_X5_9_X5 (hX.num hk) rfl ?_
  refine y_blk 0 tq_X5_fill (z := (5, [(0, .ref (ad (100 + 2 * k))), (1, .int number)], [.ref (ad (100 + 2 * k + 1)), .ref (ad (100 + 2 * k))])) rfl ?_
  refine y_alen hS tq_X5_fill 0 rfl rfl (hX.arr hk) ?_
  refine y_blk 0 tq_X5_fill (z := (6, [(0, .ref (ad (100 + 2 * k))), (1, .int number)], [.int (Int32.ofNat (xcap k)), .ref (ad (100 + 2 * k))])) rfl ?_
  refine y_put hS tq_X5_fill rfl fp_X5_15_X5 (hX.num hk) (by omega) rfl rfl (Nat.le_of_ble_eq_true rfl) ?_
  have hXw6 : atX aC ad (yup G (ad (100 + 2 * k)) ((100 + 2 * k), .inr (9, [.ref (ad (100 + 2 * k + 1)), .int (Int32.ofNat (xcap k))]))) (xsz σ k (Int32.ofNat (xcap k))) := hX.setSz hk (by rw [hlen]; omega) (by rw [hlen]; omega)
  have hFw6 : keepX G (yup G (ad (100 + 2 * k)) ((100 + 2 * k), .inr (9, [.ref (ad (100 + 2 * k + 1)), .int (Int32.ofNat (xcap k))]))) := (keepX.rfl' (G := G)).up (hX.num hk) (by omega) (by omega)
  show Y l S0 D K_X5_fill 11 0 0 (fun r G1 => r = none ∧ ∃ σ1 : XS, atX aC ad G1 σ1 ∧ keepX G G1 ∧ xfr [24 + k, k] σ σ1 ∧ xfl σ1 k number) (fun _ _ => False) (6 + 3) [(0, .ref (ad (100 + 2 * k))), (1, .int number)] [] (yup G (ad (100 + 2 * k)) ((100 + 2 * k), .inr (9, [.ref (ad (100 + 2 * k + 1)), .int (Int32.ofNat (xcap k))]))) 0 0
  generalize yup G (ad (100 + 2 * k)) ((100 + 2 * k), .inr (9, [.ref (ad (100 + 2 * k + 1)), .int (Int32.ofNat (xcap k))])) = Gw6 at hXw6 hFw6 ⊢
  refine y_blk 2 tq_X5_fill (z := (11, [(2, .int 0), (0, .ref (ad (100 + 2 * k))), (1, .int number)], [])) rfl ?_
  refine y_pick (L2 := [(0, .ref (ad (100 + 2 * k))), (1, .int number), (2, .int 0)]) [1, 2, 0] rfl ?_
  exact J11 _ 0 Gw6 (xsz σ k (Int32.ofNat (xcap k))) hXw6 hFw6 (((xkn.trans xkn.rfl' xkn_sz)).w (by intro x hx; simp only [List.append_assoc, List.nil_append, List.cons_append, List.mem_cons, List.not_mem_nil, or_false] at hx ⊢; omega)) (by first | exact hf11.step c16 | exact xflP.init) rfl
set_option maxHeartbeats 4000000 in
set_option maxRecDepth 100000 in
theorem m_X5_placesOf {l : Launch} {S0 : State} {A0 : Array Value} {D : va_G} {aC : Nat → ClassId} {ad : Nat → Nat} {G : AH} {σ : XS} (hS : yS l S0 A0 D aC) (hX : atX aC ad G σ) {k : Nat} (hk : k < 24) (number : Int32) : yM l S0 D yX5_placesOf cX5_placesOf 4 (some .int) 11 0 0 [.ref (ad (100 + 2 * k)), .int number] G (fun r G1 => (∃ v : Int32, r = some (.int v)) ∧ G1 = G) (fun _ _ => False) := by
  refine yM.ofK K_X5_placesOf rfl (by decide) (Nat.le_of_ble_eq_true rfl) ?_
  have J4 : ∀ (n4 : Nat) (v4_2 : Int32) (v4_3 : Int32), ((σ.1 k : Int32).toInt - v4_3.toInt).toNat = n4 → Y l S0 D K_X5_placesOf 11 0 0 (fun r G1 => (∃ v : Int32, r = some (.int v)) ∧ G1 = G) (fun _ _ => False) 4 [(0, .ref (ad (100 + 2 * k))), (1, .int number), (2, .int v4_2), (3, .int v4_3)] [] G 0 0 := by
    intro n4
    induction n4 using Nat.strongRecOn with
    | _ n4 ih4 =>
    intro v4_2 v4_3 hn4
    subst hn4
    have J27 : ∀ (v27_2 : Int32) (c9 : ¬ (σ.1 k : Int32) ≤ v4_3), Y l S0 D K_X5_placesOf 11 0 0 (fun r G1 => (∃ v : Int32, r = some (.int v)) ∧ G1 = G) (fun _ _ => False) 27 [(0, .ref (ad (100 + 2 * k))), (1, .int number), (2, .int v27_2), (3, .int v4_3)] [] G 0 0 := by
      intro v27_2 c9
      refine y_blk 2 tq_X5_placesOf (z := (4, [(3, .int (v4_3 + 1)), (0, .ref (ad (100 + 2 * k))), (1, .int number), (2, .int v27_2)], [])) rfl ?_
      refine y_pick (L2 := [(0, .ref (ad (100 + 2 * k))), (1, .int number), (2, .int v27_2), (3, .int (v4_3 + 1))]) [1, 2, 3, 0] rfl ?_
      exact ih4 _ (by exact ydec c9) v27_2 (v4_3 + 1) rfl
    refine y_blk 2 tq_X5_placesOf (z := (6, [(0, .ref (ad (100 + 2 * k))), (1, .int number), (2, .int v4_2), (3, .int v4_3)], [.ref (ad (100 + 2 * k)), .int v4_3])) rfl ?_
    refine y_get hS tq_X5_placesOf (v := .int (σ.1 k)) rfl fg_X5_15_X5 (hX.num hk) rfl ?_
    refine y_blk 0 tq_X5_placesOf (z := (9, [(0, .ref (ad (100 + 2 * k))), (1, .int number), (2, .int v4_2), (3, .int v4_3)], [.int (σ.1 k), .int v4_3])) rfl ?_
    refine y_icmp_ge tq_X5_placesOf 33 rfl rfl (fun c9 => ?_) (fun c9 => ?_)
    · skip
      refine y_blk 1 tq_X5_placesOf (z := (34, [(0, .ref (ad (100 + 2 * k))), (1, .int number), (2, .int v4_2), (3, .int v4_3)], [.int v4_2])) rfl ?_
      exact y_iret tq_X5_placesOf rfl rfl (⟨⟨_, rfl⟩, rfl⟩)
    · skip
      refine y_blk 2 tq_X5_placesOf (z := (14, [(0, .ref (ad (100 + 2 * k))), (1, .int number), (2, .int v4_2), (3, .int v4_3)], [.int v4_3, .ref (ad (100 + 2 * k))])) rfl ?_
      refine y_callV hS tq_X5_placesOf rfl (As := [.int v4_3]) rfl cv_X5_27 (hX.num hk) (m_X5_at hS hX hk v4_3) rfl (by decide) (Nat.le_of_ble_eq_true rfl) (fun r14 Gc14 q14 => ?_) (fun E9 G9 h9 => h9.elim)
      obtain ⟨rfl, eG14⟩ := q14
      have eG14 := eG14.symm
      subst eG14
      refine y_blk 1 tq_X5_placesOf (z := (18, [(0, .ref (ad (100 + 2 * k))), (1, .int number), (2, .int v4_2), (3, .int v4_3)], [.int number, .int (xat σ k v4_3)])) rfl ?_
      refine y_icmp_ne tq_X5_placesOf 27 rfl rfl (fun c18 => ?_) (fun c18 => ?_)
      · skip
        refine y_blk 0 tq_X5_placesOf (z := (27, [(0, .ref (ad (100 + 2 * k))), (1, .int number), (2, .int v4_2), (3, .int v4_3)], [])) rfl ?_
        exact J27 v4_2 (by exact c9)
      · skip
        refine y_blk 6 tq_X5_placesOf (z := (27, [(2, .int (v4_2 ||| (1 <<< (v4_3 &&& 31)))), (0, .ref (ad (100 + 2 * k))), (1, .int number), (3, .int v4_3)], [])) rfl ?_
        refine y_pick (L2 := [(0, .ref (ad (100 + 2 * k))), (1, .int number), (2, .int (v4_2 ||| (1 <<< (v4_3 &&& 31)))), (3, .int v4_3)]) [1, 2, 0, 3] rfl ?_
        exact J27 (v4_2 ||| (1 <<< (v4_3 &&& 31))) (by exact c9)
  refine y_blk 4 tq_X5_placesOf (z := (4, [(3, .int 0), (2, .int 0), (0, .ref (ad (100 + 2 * k))), (1, .int number)], [])) rfl ?_
  refine y_pick (L2 := [(0, .ref (ad (100 + 2 * k))), (1, .int number), (2, .int 0), (3, .int 0)]) [2, 3, 1, 0] rfl ?_
  exact J4 _ 0 0 rfl
set_option maxHeartbeats 4000000 in
set_option maxRecDepth 100000 in
theorem m_X5_countOf {l : Launch} {S0 : State} {A0 : Array Value} {D : va_G} {aC : Nat → ClassId} {ad : Nat → Nat} {G : AH} {σ : XS} (hS : yS l S0 A0 D aC) (hX : atX aC ad G σ) {k : Nat} (hk : k < 24) (number : Int32) : yM l S0 D yX5_countOf cX5_countOf 2 (some .int) 12 0 0 [.ref (ad (100 + 2 * k)), .int number] G (fun r G1 => (∃ v : Int32, r = some (.int v)) ∧ G1 = G) (fun _ _ => False) := by
  refine yM.ofK K_X5_countOf rfl (by decide) (Nat.le_of_ble_eq_true rfl) ?_
  refine y_blk 2 tq_X5_countOf (z := (2, [(0, .ref (ad (100 + 2 * k))), (1, .int number)], [.int number, .ref (ad (100 + 2 * k))])) rfl ?_
  refine y_callV hS tq_X5_countOf rfl (As := [.int number]) rfl cv_X5_31 (hX.num hk) (m_X5_placesOf hS hX hk number) rfl (by decide) (Nat.le_of_ble_eq_true rfl) (fun r2 Gc2 q2 => ?_) (fun E9 G9 h9 => h9.elim)
  obtain ⟨⟨x2, rfl⟩, eG2⟩ := q2
  have eG2 := eG2.symm
  subst eG2
  refine y_blk 0 tq_X5_countOf (z := (5, [(0, .ref (ad (100 + 2 * k))), (1, .int number)], [.int x2])) rfl ?_
  refine y_callS hS tq_X5_countOf rfl (As := [.int x2]) rfl cs_X5_34 (m_J6_bitCount_0f7a4 hS  x2) rfl (by decide) (Nat.le_of_ble_eq_true rfl) (fun r5 Gc5 q5 => ?_) (fun E9 G9 h9 => h9.elim)
  obtain ⟨⟨x5, rfl⟩, eG5⟩ := q5
  have eG5 := eG5.symm
  subst eG5
  refine y_blk 0 tq_X5_countOf (z := (8, [(0, .ref (ad (100 + 2 * k))), (1, .int number)], [.int x5])) rfl ?_
  exact y_iret tq_X5_countOf rfl rfl (⟨⟨_, rfl⟩, rfl⟩)
set_option maxHeartbeats 4000000 in
set_option maxRecDepth 100000 in
theorem m_X5_has {l : Launch} {S0 : State} {A0 : Array Value} {D : va_G} {aC : Nat → ClassId} {ad : Nat → Nat} {G : AH} {σ : XS} (hS : yS l S0 A0 D aC) (hX : atX aC ad G σ) {k : Nat} (hk : k < 24) (number : Int32) : yM l S0 D yX5_has cX5_has 2 (some .boolean) 12 0 0 [.ref (ad (100 + 2 * k)), .int number] G (fun r G1 => (∃ v : Int32, (v = 0 ∨ v = 1) ∧ r = some (.int v)) ∧ G1 = G) (fun _ _ => False) := by
  refine yM.ofK K_X5_has rfl (by decide) (Nat.le_of_ble_eq_true rfl) ?_
  have J13 : ∀ (w13_0 : Int32) (hb_w13_0 : w13_0 = 0 ∨ w13_0 = 1), Y l S0 D K_X5_has 12 0 0 (fun r G1 => (∃ v : Int32, (v = 0 ∨ v = 1) ∧ r = some (.int v)) ∧ G1 = G) (fun _ _ => False) 13 [(0, .ref (ad (100 + 2 * k))), (1, .int number)] [.int w13_0] G 0 0 := by
    intro w13_0 hb_w13_0
    exact y_zret tq_X5_has rfl rfl (y01 hb_w13_0) (⟨⟨_, hb_w13_0, rfl⟩, rfl⟩)
  refine y_blk 2 tq_X5_has (z := (2, [(0, .ref (ad (100 + 2 * k))), (1, .int number)], [.int number, .ref (ad (100 + 2 * k))])) rfl ?_
  refine y_callV hS tq_X5_has rfl (As := [.int number]) rfl cv_X5_31 (hX.num hk) (m_X5_placesOf hS hX hk number) rfl (by decide) (Nat.le_of_ble_eq_true rfl) (fun r2 Gc2 q2 => ?_) (fun E9 G9 h9 => h9.elim)
  obtain ⟨⟨x2, rfl⟩, eG2⟩ := q2
  have eG2 := eG2.symm
  subst eG2
  refine y_blk 0 tq_X5_has (z := (5, [(0, .ref (ad (100 + 2 * k))), (1, .int number)], [.int x2])) rfl ?_
  refine y_if_eq tq_X5_has 12 rfl rfl (fun c5 => ?_) (fun c5 => ?_)
  · skip
    refine y_blk 1 tq_X5_has (z := (13, [(0, .ref (ad (100 + 2 * k))), (1, .int number)], [.int 0])) rfl ?_
    exact J13 0 (Or.inl rfl)
  · skip
    refine y_blk 2 tq_X5_has (z := (13, [(0, .ref (ad (100 + 2 * k))), (1, .int number)], [.int 1])) rfl ?_
    exact J13 1 (Or.inr rfl)
set_option maxHeartbeats 4000000 in
set_option maxRecDepth 100000 in
theorem m_X5_asCells {l : Launch} {S0 : State} {A0 : Array Value} {D : va_G} {aC : Nat → ClassId} {ad : Nat → Nat} {G : AH} {σ : XS} (hS : yS l S0 A0 D aC) (hX : atX aC ad G σ) {k : Nat} (hk : k < 24) : yM l S0 D yX5_asCells cX5_asCells 4 (some .long) 11 0 0 [.ref (ad (100 + 2 * k))] G (fun r G1 => (∃ v : Int64, xse v (xasQ σ k (σ.1 k).toInt.toNat) ∧ r = some (.long v)) ∧ G1 = G) (fun _ _ => False) := by
  refine yM.ofK K_X5_asCells rfl (by decide) (Nat.le_of_ble_eq_true rfl) ?_
  have J4 : ∀ (n4 : Nat) (v4_1 : Int64) (v4_3 : Int32) (h4 : 0 ≤ v4_3.toInt ∧ v4_3.toInt ≤ (σ.1 k).toInt) (hs4 : xse v4_1 (xasQ σ k v4_3.toInt.toNat)), ((σ.1 k : Int32).toInt - v4_3.toInt).toNat = n4 → Y l S0 D K_X5_asCells 11 0 0 (fun r G1 => (∃ v : Int64, xse v (xasQ σ k (σ.1 k).toInt.toNat) ∧ r = some (.long v)) ∧ G1 = G) (fun _ _ => False) 4 [(0, .ref (ad (100 + 2 * k))), (1, .long v4_1), (3, .int v4_3)] [] G 0 0 := by
    intro n4
    induction n4 using Nat.strongRecOn with
    | _ n4 ih4 =>
    intro v4_1 v4_3 h4 hs4 hn4
    subst hn4
    refine y_blk 2 tq_X5_asCells (z := (6, [(0, .ref (ad (100 + 2 * k))), (1, .long v4_1), (3, .int v4_3)], [.ref (ad (100 + 2 * k)), .int v4_3])) rfl ?_
    refine y_get hS tq_X5_asCells (v := .int (σ.1 k)) rfl fg_X5_15_X5 (hX.num hk) rfl ?_
    refine y_blk 0 tq_X5_asCells (z := (9, [(0, .ref (ad (100 + 2 * k))), (1, .long v4_1), (3, .int v4_3)], [.int (σ.1 k), .int v4_3])) rfl ?_
    refine y_icmp_ge tq_X5_asCells 29 rfl rfl (fun c9 => ?_) (fun c9 => ?_)
    · skip
      refine y_blk 1 tq_X5_asCells (z := (30, [(0, .ref (ad (100 + 2 * k))), (1, .long v4_1), (3, .int v4_3)], [.long v4_1])) rfl ?_
      exact y_lret tq_X5_asCells rfl rfl (⟨⟨_, xas_stop h4 c9 hs4, rfl⟩, rfl⟩)
    · skip
      refine y_blk 3 tq_X5_asCells (z := (15, [(0, .ref (ad (100 + 2 * k))), (1, .long v4_1), (3, .int v4_3)], [.int v4_3, .ref (ad (100 + 2 * k)), .long v4_1])) rfl ?_
      refine y_callV hS tq_X5_asCells rfl (As := [.int v4_3]) rfl cv_X5_27 (hX.num hk) (m_X5_at hS hX hk v4_3) rfl (by decide) (Nat.le_of_ble_eq_true rfl) (fun r15 Gc15 q15 => ?_) (fun E9 G9 h9 => h9.elim)
      obtain ⟨rfl, eG15⟩ := q15
      have eG15 := eG15.symm
      subst eG15
      refine y_blk 0 tq_X5_asCells (z := (18, [(0, .ref (ad (100 + 2 * k))), (1, .long v4_1), (3, .int v4_3)], [.int (xat σ k v4_3), .long v4_1])) rfl ?_
      refine y_callSN hS tq_X5_asCells rfl (As := [.int (xat σ k v4_3)]) rfl cs_X5_39 (m_X8_setOf hS  (xat σ k v4_3)) rfl (by decide) (Nat.le_of_ble_eq_true rfl) (fun r18 Gc18 q18 => ?_) (fun E9 G9 h9 => h9.elim)
      obtain ⟨rfl, eG18⟩ := q18
      have eG18 := eG18.symm
      subst eG18
      refine y_blk 4 tq_X5_asCells (z := (4, [(3, .int (v4_3 + 1)), (1, .long (v4_1 ||| (xset (xat σ k v4_3)))), (0, .ref (ad (100 + 2 * k)))], [])) rfl ?_
      refine y_pick (L2 := [(0, .ref (ad (100 + 2 * k))), (1, .long (v4_1 ||| (xset (xat σ k v4_3)))), (3, .int (v4_3 + 1))]) [2, 1, 0] rfl ?_
      exact ih4 _ (by exact ydec c9) (v4_1 ||| (xset (xat σ k v4_3))) (v4_3 + 1) (by first | exact xcn_step h4 c9 | exact xcn_init (hX.2.1 k).1) (by first | exact xas_step hs4 h4 c9 | exact xas_init) rfl
  refine y_blk 4 tq_X5_asCells (z := (4, [(3, .int 0), (1, .long 0), (0, .ref (ad (100 + 2 * k)))], [])) rfl ?_
  refine y_pick (L2 := [(0, .ref (ad (100 + 2 * k))), (1, .long 0), (3, .int 0)]) [2, 1, 0] rfl ?_
  exact J4 _ 0 0 (by first | exact xcn_step h4 c9 | exact xcn_init (hX.2.1 k).1) (by first | exact xas_step hs4 h4 c9 | exact xas_init) rfl
