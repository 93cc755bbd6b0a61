/-! ===== contracts: the grid ===== -/
set_option maxHeartbeats 4000000 in
set_option maxRecDepth 100000 in
theorem m_X1_wide {l : Launch} {S0 : State} {A0 : Array Value} {D : va_G} {aC : Nat → ClassId} {ad : Nat → Nat} {G : AH} {σ : XS} (hS : yS l S0 A0 D aC) (hX : atX aC ad G σ) : yM l S0 D yX1_wide cX1_wide 1 (some .int) 10 0 0 [.ref (ad 2)] G (fun r G1 => r = some (.int (σ.2.2.1 0)) ∧ G1 = G) (fun _ _ => False) := by
  refine yM.ofK K_X1_wide rfl (by decide) (Nat.le_of_ble_eq_true rfl) ?_
  refine y_blk 1 tq_X1_wide (z := (1, [(0, .ref (ad 2))], [.ref (ad 2)])) rfl ?_
  refine y_get hS tq_X1_wide (v := .int (σ.2.2.1 0)) rfl fg_X1_19_X1 (hX.1 2 _ rfl) rfl ?_
  refine y_blk 0 tq_X1_wide (z := (4, [(0, .ref (ad 2))], [.int (σ.2.2.1 0)])) rfl ?_
  exact y_iret tq_X1_wide rfl rfl (⟨by first | rfl | (congr 2; (repeat' split) <;> first | rfl | (exfalso; simp only [ylt, yle, yeqI, yl_m1, yl_0, yl_1, yl_2, yl_3, yl_4, yl_5, yl_6, yl_7, yl_8, yl_9, yl_10, yl_11, yl_12, yl_15, yl_16, yl_20, yl_60, yl_64, yl_90, yl_97, yl_99, yl_100, yl_120, yl_239, yl_240] at *; omega)), rfl⟩)
set_option maxHeartbeats 4000000 in
set_option maxRecDepth 100000 in
theorem m_X1_high {l : Launch} {S0 : State} {A0 : Array Value} {D : va_G} {aC : Nat → ClassId} {ad : Nat → Nat} {G : AH} {σ : XS} (hS : yS l S0 A0 D aC) (hX : atX aC ad G σ) : yM l S0 D yX1_high cX1_high 1 (some .int) 10 0 0 [.ref (ad 2)] G (fun r G1 => r = some (.int (σ.2.2.1 1)) ∧ G1 = G) (fun _ _ => False) := by
  refine yM.ofK K_X1_high rfl (by decide) (Nat.le_of_ble_eq_true rfl) ?_
  refine y_blk 1 tq_X1_high (z := (1, [(0, .ref (ad 2))], [.ref (ad 2)])) rfl ?_
  refine y_get hS tq_X1_high (v := .int (σ.2.2.1 1)) rfl fg_X1_22_X1 (hX.1 2 _ rfl) rfl ?_
  refine y_blk 0 tq_X1_high (z := (4, [(0, .ref (ad 2))], [.int (σ.2.2.1 1)])) rfl ?_
  exact y_iret tq_X1_high rfl rfl (⟨by first | rfl | (congr 2; (repeat' split) <;> first | rfl | (exfalso; simp only [ylt, yle, yeqI, yl_m1, yl_0, yl_1, yl_2, yl_3, yl_4, yl_5, yl_6, yl_7, yl_8, yl_9, yl_10, yl_11, yl_12, yl_15, yl_16, yl_20, yl_60, yl_64, yl_90, yl_97, yl_99, yl_100, yl_120, yl_239, yl_240] at *; omega)), rfl⟩)
set_option maxHeartbeats 4000000 in
set_option maxRecDepth 100000 in
theorem m_X1_cells {l : Launch} {S0 : State} {A0 : Array Value} {D : va_G} {aC : Nat → ClassId} {ad : Nat → Nat} {G : AH} {σ : XS} (hS : yS l S0 A0 D aC) (hX : atX aC ad G σ) : yM l S0 D yX1_cells cX1_cells 1 (some .int) 10 0 0 [.ref (ad 2)] G (fun r G1 => r = some (.int ((σ.2.2.1 0) * (σ.2.2.1 1))) ∧ G1 = G) (fun _ _ => False) := by
  refine yM.ofK K_X1_cells rfl (by decide) (Nat.le_of_ble_eq_true rfl) ?_
  refine y_blk 1 tq_X1_cells (z := (1, [(0, .ref (ad 2))], [.ref (ad 2)])) rfl ?_
  refine y_get hS tq_X1_cells (v := .int (σ.2.2.1 0)) rfl fg_X1_19_X1 (hX.1 2 _ rfl) rfl ?_
  refine y_blk 1 tq_X1_cells (z := (5, [(0, .ref (ad 2))], [.ref (ad 2), .int (σ.2.2.1 0)])) rfl ?_
  refine y_get hS tq_X1_cells (v := .int (σ.2.2.1 1)) rfl fg_X1_22_X1 (hX.1 2 _ rfl) rfl ?_
  refine y_blk 1 tq_X1_cells (z := (9, [(0, .ref (ad 2))], [.int ((σ.2.2.1 0) * (σ.2.2.1 1))])) rfl ?_
  exact y_iret tq_X1_cells rfl rfl (⟨by first | rfl | (congr 2; (repeat' split) <;> first | rfl | (exfalso; simp only [ylt, yle, yeqI, yl_m1, yl_0, yl_1, yl_2, yl_3, yl_4, yl_5, yl_6, yl_7, yl_8, yl_9, yl_10, yl_11, yl_12, yl_15, yl_16, yl_20, yl_60, yl_64, yl_90, yl_97, yl_99, yl_100, yl_120, yl_239, yl_240] at *; omega)), rfl⟩)
set_option maxHeartbeats 4000000 in
set_option maxRecDepth 100000 in
theorem m_X1_kindOfDigit {l : Launch} {S0 : State} {A0 : Array Value} {D : va_G} {aC : Nat → ClassId} {ad : Nat → Nat} {G : AH} {σ : XS} (hS : yS l S0 A0 D aC) (hX : atX aC ad G σ) (digit : Int32) : yM l S0 D yX1_kindOfDigit cX1_kindOfDigit 1 (some .int) 10 0 0 [.int digit] G (fun r G1 => (∃ v : Int32, r = some (.int v)) ∧ G1 = G) (fun _ _ => False) := by
  refine yM.ofK K_X1_kindOfDigit rfl (by decide) (Nat.le_of_ble_eq_true rfl) ?_
  have J32 : ∀ (_ : True), Y l S0 D K_X1_kindOfDigit 10 0 0 (fun r G1 => (∃ v : Int32, r = some (.int v)) ∧ G1 = G) (fun _ _ => False) 32 [(0, .int digit)] [] G 0 0 := by
    intro _
    refine y_blk 1 tq_X1_kindOfDigit (z := (33, [(0, .int digit)], [.int 1])) rfl ?_
    exact y_iret tq_X1_kindOfDigit rfl rfl (⟨⟨_, rfl⟩, rfl⟩)
  refine y_blk 1 tq_X1_kindOfDigit (z := (1, [(0, .int digit)], [.int digit])) rfl ?_
  by_cases s1_0 : digit = 0
  · refine y_swIn tq_X1_kindOfDigit 32 rfl (by rw [s1_0]; decide) (by rw [s1_0]; decide) (by rw [s1_0]; rfl) rfl ?_
    refine y_blk 0 tq_X1_kindOfDigit (z := (32, [(0, .int digit)], [])) rfl ?_
    exact J32 trivial
  by_cases s1_1 : digit = 1
  · refine y_swIn tq_X1_kindOfDigit 32 rfl (by rw [s1_1]; decide) (by rw [s1_1]; decide) (by rw [s1_1]; rfl) rfl ?_
    refine y_blk 0 tq_X1_kindOfDigit (z := (32, [(0, .int digit)], [])) rfl ?_
    exact J32 trivial
  by_cases s1_2 : digit = 2
  · refine y_swIn tq_X1_kindOfDigit 34 rfl (by rw [s1_2]; decide) (by rw [s1_2]; decide) (by rw [s1_2]; rfl) rfl ?_
    refine y_blk 1 tq_X1_kindOfDigit (z := (35, [(0, .int digit)], [.int 2])) rfl ?_
    exact y_iret tq_X1_kindOfDigit rfl rfl (⟨⟨_, rfl⟩, rfl⟩)
  by_cases s1_3 : digit = 3
  · refine y_swIn tq_X1_kindOfDigit 36 rfl (by rw [s1_3]; decide) (by rw [s1_3]; decide) (by rw [s1_3]; rfl) rfl ?_
    refine y_blk 1 tq_X1_kindOfDigit (z := (37, [(0, .int digit)], [.int 3])) rfl ?_
    exact y_iret tq_X1_kindOfDigit rfl rfl (⟨⟨_, rfl⟩, rfl⟩)
  refine y_swOut tq_X1_kindOfDigit 38 rfl (by have z0 : digit.toInt ≠ 0 := fun q => s1_0 (Int32.toInt_inj.mp (q.trans (by decide))); have z1 : digit.toInt ≠ 1 := fun q => s1_1 (Int32.toInt_inj.mp (q.trans (by decide))); have z2 : digit.toInt ≠ 2 := fun q => s1_2 (Int32.toInt_inj.mp (q.trans (by decide))); have z3 : digit.toInt ≠ 3 := fun q => s1_3 (Int32.toInt_inj.mp (q.trans (by decide))); omega) rfl ?_
  refine y_blk 1 tq_X1_kindOfDigit (z := (39, [(0, .int digit)], [.int 0])) rfl ?_
  exact y_iret tq_X1_kindOfDigit rfl rfl (⟨⟨_, rfl⟩, rfl⟩)
set_option maxHeartbeats 4000000 in
set_option maxRecDepth 100000 in
theorem m_X1_rowOf {l : Launch} {S0 : State} {A0 : Array Value} {D : va_G} {aC : Nat → ClassId} {ad : Nat → Nat} {G : AH} {σ : XS} (hS : yS l S0 A0 D aC) (hX : atX aC ad G σ) (cell : Int32) : yM l S0 D yX1_rowOf cX1_rowOf 2 (some .int) 10 0 0 [.ref (ad 2), .int cell] G (fun r G1 => (∃ v : Int32, r = some (.int v)) ∧ G1 = G) (fun _ _ => False) := by
  refine yM.ofK K_X1_rowOf rfl (by decide) (Nat.le_of_ble_eq_true rfl) ?_
  have J18 : ∀ (w18_0 : Int32), Y l S0 D K_X1_rowOf 10 0 0 (fun r G1 => (∃ v : Int32, r = some (.int v)) ∧ G1 = G) (fun _ _ => False) 18 [(0, .ref (ad 2)), (1, .int cell)] [.int w18_0] G 0 0 := by
    intro w18_0
    exact y_iret tq_X1_rowOf rfl rfl (⟨⟨_, rfl⟩, rfl⟩)
  refine y_blk 1 tq_X1_rowOf (z := (1, [(0, .ref (ad 2)), (1, .int cell)], [.ref (ad 2)])) rfl ?_
  refine y_get hS tq_X1_rowOf (v := .int (σ.2.2.1 0)) rfl fg_X1_19_X1 (hX.1 2 _ rfl) rfl ?_
  refine y_blk 1 tq_X1_rowOf (z := (5, [(0, .ref (ad 2)), (1, .int cell)], [.int 1, .int (σ.2.2.1 0)])) rfl ?_
  refine y_icmp_ge tq_X1_rowOf 12 rfl rfl (fun c5 => ?_) (fun c5 => ?_)
  · skip
    refine y_blk 2 tq_X1_rowOf (z := (14, [(0, .ref (ad 2)), (1, .int cell)], [.ref (ad 2), .int cell])) rfl ?_
    refine y_get hS tq_X1_rowOf (v := .int (σ.2.2.1 0)) rfl fg_X1_19_X1 (hX.1 2 _ rfl) rfl ?_
    refine y_blk 0 tq_X1_rowOf (z := (17, [(0, .ref (ad 2)), (1, .int cell)], [.int (σ.2.2.1 0), .int cell])) rfl ?_
    refine y_idiv tq_X1_rowOf rfl (by intro q; rw [q] at c5; exact absurd c5 (by decide)) ?_
    refine y_blk 0 tq_X1_rowOf (z := (18, [(0, .ref (ad 2)), (1, .int cell)], [.int (cell / (σ.2.2.1 0))])) rfl ?_
    exact J18 (cell / (σ.2.2.1 0))
  · skip
    refine y_blk 2 tq_X1_rowOf (z := (18, [(0, .ref (ad 2)), (1, .int cell)], [.int 0])) rfl ?_
    exact J18 0
set_option maxHeartbeats 4000000 in
set_option maxRecDepth 100000 in
theorem m_X1_columnOf {l : Launch} {S0 : State} {A0 : Array Value} {D : va_G} {aC : Nat → ClassId} {ad : Nat → Nat} {G : AH} {σ : XS} (hS : yS l S0 A0 D aC) (hX : atX aC ad G σ) (cell : Int32) : yM l S0 D yX1_columnOf cX1_columnOf 2 (some .int) 10 0 0 [.ref (ad 2), .int cell] G (fun r G1 => (∃ v : Int32, r = some (.int v)) ∧ G1 = G) (fun _ _ => False) := by
  refine yM.ofK K_X1_columnOf rfl (by decide) (Nat.le_of_ble_eq_true rfl) ?_
  have J18 : ∀ (w18_0 : Int32), Y l S0 D K_X1_columnOf 10 0 0 (fun r G1 => (∃ v : Int32, r = some (.int v)) ∧ G1 = G) (fun _ _ => False) 18 [(0, .ref (ad 2)), (1, .int cell)] [.int w18_0] G 0 0 := by
    intro w18_0
    exact y_iret tq_X1_columnOf rfl rfl (⟨⟨_, rfl⟩, rfl⟩)
  refine y_blk 1 tq_X1_columnOf (z := (1, [(0, .ref (ad 2)), (1, .int cell)], [.ref (ad 2)])) rfl ?_
  refine y_get hS tq_X1_columnOf (v := .int (σ.2.2.1 0)) rfl fg_X1_19_X1 (hX.1 2 _ rfl) rfl ?_
  refine y_blk 1 tq_X1_columnOf (z := (5, [(0, .ref (ad 2)), (1, .int cell)], [.int 1, .int (σ.2.2.1 0)])) rfl ?_
  refine y_icmp_ge tq_X1_columnOf 12 rfl rfl (fun c5 => ?_) (fun c5 => ?_)
  · skip
    refine y_blk 2 tq_X1_columnOf (z := (14, [(0, .ref (ad 2)), (1, .int cell)], [.ref (ad 2), .int cell])) rfl ?_
    refine y_get hS tq_X1_columnOf (v := .int (σ.2.2.1 0)) rfl fg_X1_19_X1 (hX.1 2 _ rfl) rfl ?_
    refine y_blk 0 tq_X1_columnOf (z := (17, [(0, .ref (ad 2)), (1, .int cell)], [.int (σ.2.2.1 0), .int cell])) rfl ?_
    refine y_irem tq_X1_columnOf rfl (by intro q; rw [q] at c5; exact absurd c5 (by decide)) ?_
    refine y_blk 0 tq_X1_columnOf (z := (18, [(0, .ref (ad 2)), (1, .int cell)], [.int (cell - cell / (σ.2.2.1 0) * (σ.2.2.1 0))])) rfl ?_
    exact J18 (cell - cell / (σ.2.2.1 0) * (σ.2.2.1 0))
  · skip
    refine y_blk 2 tq_X1_columnOf (z := (18, [(0, .ref (ad 2)), (1, .int cell)], [.int 0])) rfl ?_
    exact J18 0
set_option maxHeartbeats 4000000 in
set_option maxRecDepth 100000 in
theorem m_X1_cellOf {l : Launch} {S0 : State} {A0 : Array Value} {D : va_G} {aC : Nat → ClassId} {ad : Nat → Nat} {G : AH} {σ : XS} (hS : yS l S0 A0 D aC) (hX : atX aC ad G σ) (row : Int32) (column : Int32) : yM l S0 D yX1_cellOf cX1_cellOf 4 (some .int) 11 0 0 [.ref (ad 2), .int row, .int column] G (fun r G1 => (∃ v : Int32, r = some (.int v)) ∧ G1 = G) (fun _ _ => False) := by
  refine yM.ofK K_X1_cellOf rfl (by decide) (Nat.le_of_ble_eq_true rfl) ?_
  have J50 : ∀ (v50_3 : Int32) (w50_0 : Int32) (hb_v50_3 : v50_3 = 0 ∨ v50_3 = 1), Y l S0 D K_X1_cellOf 11 0 0 (fun r G1 => (∃ v : Int32, r = some (.int v)) ∧ G1 = G) (fun _ _ => False) 50 [(0, .ref (ad 2)), (1, .int row), (2, .int column), (3, .int v50_3)] [.int w50_0] G 0 0 := by
    intro v50_3 w50_0 hb_v50_3
    exact y_iret tq_X1_cellOf rfl rfl (⟨⟨_, rfl⟩, rfl⟩)
  have J33 : ∀ (w33_0 : Int32) (hb_w33_0 : w33_0 = 0 ∨ w33_0 = 1), Y l S0 D K_X1_cellOf 11 0 0 (fun r G1 => (∃ v : Int32, r = some (.int v)) ∧ G1 = G) (fun _ _ => False) 33 [(0, .ref (ad 2)), (1, .int row), (2, .int column)] [.int w33_0] G 0 0 := by
    intro w33_0 hb_w33_0
    refine y_blk 2 tq_X1_cellOf (z := (35, [(3, .int w33_0), (0, .ref (ad 2)), (1, .int row), (2, .int column)], [.int w33_0])) rfl ?_
    refine y_if_eq tq_X1_cellOf 49 rfl rfl (fun c35 => ?_) (fun c35 => ?_)
    · skip
      refine y_blk 1 tq_X1_cellOf (z := (50, [(3, .int w33_0), (0, .ref (ad 2)), (1, .int row), (2, .int column)], [.int (-1)])) rfl ?_
      refine y_pick (L2 := [(0, .ref (ad 2)), (1, .int row), (2, .int column), (3, .int w33_0)]) [1, 2, 3, 0] rfl ?_
      exact J50 w33_0 (-1) hb_w33_0
    · skip
      refine y_blk 2 tq_X1_cellOf (z := (40, [(3, .int w33_0), (0, .ref (ad 2)), (1, .int row), (2, .int column)], [.ref (ad 2), .int row])) rfl ?_
      refine y_get hS tq_X1_cellOf (v := .int (σ.2.2.1 0)) rfl fg_X1_19_X1 (hX.1 2 _ rfl) rfl ?_
      refine y_blk 4 tq_X1_cellOf (z := (50, [(3, .int w33_0), (0, .ref (ad 2)), (1, .int row), (2, .int column)], [.int ((row * (σ.2.2.1 0)) + column)])) rfl ?_
      refine y_pick (L2 := [(0, .ref (ad 2)), (1, .int row), (2, .int column), (3, .int w33_0)]) [1, 2, 3, 0] rfl ?_
      exact J50 w33_0 ((row * (σ.2.2.1 0)) + column) hb_w33_0
  have J32 : ∀ (_ : True), Y l S0 D K_X1_cellOf 11 0 0 (fun r G1 => (∃ v : Int32, r = some (.int v)) ∧ G1 = G) (fun _ _ => False) 32 [(0, .ref (ad 2)), (1, .int row), (2, .int column)] [] G 0 0 := by
    intro _
    refine y_blk 1 tq_X1_cellOf (z := (33, [(0, .ref (ad 2)), (1, .int row), (2, .int column)], [.int 0])) rfl ?_
    exact J33 0 (Or.inl rfl)
  refine y_blk 3 tq_X1_cellOf (z := (3, [(0, .ref (ad 2)), (1, .int row), (2, .int column)], [.ref (ad 2), .int 0, .int row])) rfl ?_
  refine y_get hS tq_X1_cellOf (v := .int (σ.2.2.1 1)) rfl fg_X1_22_X1 (hX.1 2 _ rfl) rfl ?_
  refine y_blk 2 tq_X1_cellOf (z := (8, [(0, .ref (ad 2)), (1, .int row), (2, .int column)], [.int ((σ.2.2.1 1) - 1), .int 0, .int row])) rfl ?_
  refine y_callSN hS tq_X1_cellOf rfl (As := [.int row, .int 0, .int ((σ.2.2.1 1) - 1)]) rfl cs_X1_82 (m_X8_isIn hS  row 0 ((σ.2.2.1 1) - 1)) rfl (by decide) (Nat.le_of_ble_eq_true rfl) (fun r8 Gc8 q8 => ?_) (fun E9 G9 h9 => h9.elim)
  obtain ⟨rfl, eG8⟩ := q8
  have eG8 := eG8.symm
  subst eG8
  refine y_blk 0 tq_X1_cellOf (z := (11, [(0, .ref (ad 2)), (1, .int row), (2, .int column)], [.int (if 0 ≤ row ∧ row ≤ ((σ.2.2.1 1) - 1) then 1 else 0)])) rfl ?_
  refine y_if_eq tq_X1_cellOf 32 rfl rfl (fun c11 => ?_) (fun c11 => ?_)
  · skip
    refine y_blk 0 tq_X1_cellOf (z := (32, [(0, .ref (ad 2)), (1, .int row), (2, .int column)], [])) rfl ?_
    exact J32 trivial
  · skip
    refine y_blk 3 tq_X1_cellOf (z := (17, [(0, .ref (ad 2)), (1, .int row), (2, .int column)], [.ref (ad 2), .int 0, .int column])) rfl ?_
    refine y_get hS tq_X1_cellOf (v := .int (σ.2.2.1 0)) rfl fg_X1_19_X1 (hX.1 2 _ rfl) rfl ?_
    refine y_blk 2 tq_X1_cellOf (z := (22, [(0, .ref (ad 2)), (1, .int row), (2, .int column)], [.int ((σ.2.2.1 0) - 1), .int 0, .int column])) rfl ?_
    refine y_callSN hS tq_X1_cellOf rfl (As := [.int column, .int 0, .int ((σ.2.2.1 0) - 1)]) rfl cs_X1_82 (m_X8_isIn hS  column 0 ((σ.2.2.1 0) - 1)) rfl (by decide) (Nat.le_of_ble_eq_true rfl) (fun r22 Gc22 q22 => ?_) (fun E9 G9 h9 => h9.elim)
    obtain ⟨rfl, eG22⟩ := q22
    have eG22 := eG22.symm
    subst eG22
    refine y_blk 0 tq_X1_cellOf (z := (25, [(0, .ref (ad 2)), (1, .int row), (2, .int column)], [.int (if 0 ≤ column ∧ column ≤ ((σ.2.2.1 0) - 1) then 1 else 0)])) rfl ?_
    refine y_if_eq tq_X1_cellOf 32 rfl rfl (fun c25 => ?_) (fun c25 => ?_)
    · skip
      refine y_blk 0 tq_X1_cellOf (z := (32, [(0, .ref (ad 2)), (1, .int row), (2, .int column)], [])) rfl ?_
      exact J32 trivial
    · skip
      refine y_blk 2 tq_X1_cellOf (z := (33, [(0, .ref (ad 2)), (1, .int row), (2, .int column)], [.int 1])) rfl ?_
      exact J33 1 (Or.inr rfl)
set_option maxHeartbeats 4000000 in
set_option maxRecDepth 100000 in
theorem m_X1_cellBehind {l : Launch} {S0 : State} {A0 : Array Value} {D : va_G} {aC : Nat → ClassId} {ad : Nat → Nat} {G : AH} {σ : XS} (hS : yS l S0 A0 D aC) (hX : atX aC ad G σ) (cell : Int32) (move : Int32) : yM l S0 D yX1_cellBehind cX1_cellBehind 5 (some .int) 12 0 0 [.ref (ad 2), .int cell, .int move] G (fun r G1 => (∃ v : Int32, r = some (.int v)) ∧ G1 = G) (fun _ _ => False) := by
  refine yM.ofK K_X1_cellBehind rfl (by decide) (Nat.le_of_ble_eq_true rfl) ?_
  refine y_blk 2 tq_X1_cellBehind (z := (2, [(0, .ref (ad 2)), (1, .int cell), (2, .int move)], [.int cell, .ref (ad 2)])) rfl ?_
  refine y_callV hS tq_X1_cellBehind rfl (As := [.int cell]) rfl cv_X1_89 (hX.1 2 _ rfl) (m_X1_rowOf hS hX cell) rfl (by decide) (Nat.le_of_ble_eq_true rfl) (fun r2 Gc2 q2 => ?_) (fun E9 G9 h9 => h9.elim)
  obtain ⟨⟨x2, rfl⟩, eG2⟩ := q2
  have eG2 := eG2.symm
  subst eG2
  refine y_blk 3 tq_X1_cellBehind (z := (8, [(3, .int x2), (0, .ref (ad 2)), (1, .int cell), (2, .int move)], [.int cell, .ref (ad 2)])) rfl ?_
  refine y_callV hS tq_X1_cellBehind rfl (As := [.int cell]) rfl cv_X1_92 (hX.1 2 _ rfl) (m_X1_columnOf hS hX cell) rfl (by decide) (Nat.le_of_ble_eq_true rfl) (fun r8 Gc8 q8 => ?_) (fun E9 G9 h9 => h9.elim)
  obtain ⟨⟨x8, rfl⟩, eG8⟩ := q8
  have eG8 := eG8.symm
  subst eG8
  refine y_blk 2 tq_X1_cellBehind (z := (14, [(4, .int x8), (3, .int x2), (0, .ref (ad 2)), (1, .int cell), (2, .int move)], [.int move])) rfl ?_
  by_cases s14_0 : move = 1
  · refine y_swIn tq_X1_cellBehind 44 rfl (by rw [s14_0]; decide) (by rw [s14_0]; decide) (by rw [s14_0]; rfl) rfl ?_
    refine y_blk 5 tq_X1_cellBehind (z := (50, [(4, .int x8), (3, .int x2), (0, .ref (ad 2)), (1, .int cell), (2, .int move)], [.int x8, .int (x2 - 1), .ref (ad 2)])) rfl ?_
    refine y_callV hS tq_X1_cellBehind rfl (As := [.int (x2 - 1), .int x8]) rfl cv_X1_95 (hX.1 2 _ rfl) (m_X1_cellOf hS hX (x2 - 1) x8) rfl (by decide) (Nat.le_of_ble_eq_true rfl) (fun r50 Gc50 q50 => ?_) (fun E9 G9 h9 => h9.elim)
    obtain ⟨⟨x50, rfl⟩, eG50⟩ := q50
    have eG50 := eG50.symm
    subst eG50
    refine y_blk 0 tq_X1_cellBehind (z := (53, [(4, .int x8), (3, .int x2), (0, .ref (ad 2)), (1, .int cell), (2, .int move)], [.int x50])) rfl ?_
    exact y_iret tq_X1_cellBehind rfl rfl (⟨⟨_, rfl⟩, rfl⟩)
  by_cases s14_1 : move = 2
  · refine y_swIn tq_X1_cellBehind 54 rfl (by rw [s14_1]; decide) (by rw [s14_1]; decide) (by rw [s14_1]; rfl) rfl ?_
    refine y_blk 5 tq_X1_cellBehind (z := (60, [(4, .int x8), (3, .int x2), (0, .ref (ad 2)), (1, .int cell), (2, .int move)], [.int (x8 + 1), .int x2, .ref (ad 2)])) rfl ?_
    refine y_callV hS tq_X1_cellBehind rfl (As := [.int x2, .int (x8 + 1)]) rfl cv_X1_95 (hX.1 2 _ rfl) (m_X1_cellOf hS hX x2 (x8 + 1)) rfl (by decide) (Nat.le_of_ble_eq_true rfl) (fun r60 Gc60 q60 => ?_) (fun E9 G9 h9 => h9.elim)
    obtain ⟨⟨x60, rfl⟩, eG60⟩ := q60
    have eG60 := eG60.symm
    subst eG60
    refine y_blk 0 tq_X1_cellBehind (z := (63, [(4, .int x8), (3, .int x2), (0, .ref (ad 2)), (1, .int cell), (2, .int move)], [.int x60])) rfl ?_
    exact y_iret tq_X1_cellBehind rfl rfl (⟨⟨_, rfl⟩, rfl⟩)
  by_cases s14_2 : move = 3
  · refine y_swIn tq_X1_cellBehind 64 rfl (by rw [s14_2]; decide) (by rw [s14_2]; decide) (by rw [s14_2]; rfl) rfl ?_
    refine y_blk 5 tq_X1_cellBehind (z := (70, [(4, .int x8), (3, .int x2), (0, .ref (ad 2)), (1, .int cell), (2, .int move)], [.int x8, .int (x2 + 1), .ref (ad 2)])) rfl ?_
    refine y_callV hS tq_X1_cellBehind rfl (As := [.int (x2 + 1), .int x8]) rfl cv_X1_95 (hX.1 2 _ rfl) (m_X1_cellOf hS hX (x2 + 1) x8) rfl (by decide) (Nat.le_of_ble_eq_true rfl) (fun r70 Gc70 q70 => ?_) (fun E9 G9 h9 => h9.elim)
    obtain ⟨⟨x70, rfl⟩, eG70⟩ := q70
    have eG70 := eG70.symm
    subst eG70
    refine y_blk 0 tq_X1_cellBehind (z := (73, [(4, .int x8), (3, .int x2), (0, .ref (ad 2)), (1, .int cell), (2, .int move)], [.int x70])) rfl ?_
    exact y_iret tq_X1_cellBehind rfl rfl (⟨⟨_, rfl⟩, rfl⟩)
  by_cases s14_3 : move = 4
  · refine y_swIn tq_X1_cellBehind 74 rfl (by rw [s14_3]; decide) (by rw [s14_3]; decide) (by rw [s14_3]; rfl) rfl ?_
    refine y_blk 5 tq_X1_cellBehind (z := (80, [(4, .int x8), (3, .int x2), (0, .ref (ad 2)), (1, .int cell), (2, .int move)], [.int (x8 - 1), .int x2, .ref (ad 2)])) rfl ?_
    refine y_callV hS tq_X1_cellBehind rfl (As := [.int x2, .int (x8 - 1)]) rfl cv_X1_95 (hX.1 2 _ rfl) (m_X1_cellOf hS hX x2 (x8 - 1)) rfl (by decide) (Nat.le_of_ble_eq_true rfl) (fun r80 Gc80 q80 => ?_) (fun E9 G9 h9 => h9.elim)
    obtain ⟨⟨x80, rfl⟩, eG80⟩ := q80
    have eG80 := eG80.symm
    subst eG80
    refine y_blk 0 tq_X1_cellBehind (z := (83, [(4, .int x8), (3, .int x2), (0, .ref (ad 2)), (1, .int cell), (2, .int move)], [.int x80])) rfl ?_
    exact y_iret tq_X1_cellBehind rfl rfl (⟨⟨_, rfl⟩, rfl⟩)
  refine y_swOut tq_X1_cellBehind 84 rfl (by have z0 : move.toInt ≠ 1 := fun q => s14_0 (Int32.toInt_inj.mp (q.trans (by decide))); have z1 : move.toInt ≠ 2 := fun q => s14_1 (Int32.toInt_inj.mp (q.trans (by decide))); have z2 : move.toInt ≠ 3 := fun q => s14_2 (Int32.toInt_inj.mp (q.trans (by decide))); have z3 : move.toInt ≠ 4 := fun q => s14_3 (Int32.toInt_inj.mp (q.trans (by decide))); omega) rfl ?_
  refine y_blk 1 tq_X1_cellBehind (z := (85, [(4, .int x8), (3, .int x2), (0, .ref (ad 2)), (1, .int cell), (2, .int move)], [.int cell])) rfl ?_
  exact y_iret tq_X1_cellBehind rfl rfl (⟨⟨_, rfl⟩, rfl⟩)
set_option maxHeartbeats 4000000 in
set_option maxRecDepth 100000 in
theorem m_X1_cellToward {l : Launch} {S0 : State} {A0 : Array Value} {D : va_G} {aC : Nat → ClassId} {ad : Nat → Nat} {G : AH} {σ : XS} (hS : yS l S0 A0 D aC) (hX : atX aC ad G σ) (cell : Int32) (direction : Int32) (apart : Int32) : yM l S0 D yX1_cellToward cX1_cellToward 6 (some .int) 12 0 0 [.ref (ad 2), .int cell, .int direction, .int apart] G (fun r G1 => (∃ v : Int32, r = some (.int v)) ∧ G1 = G) (fun _ _ => False) := by
  refine yM.ofK K_X1_cellToward rfl (by decide) (Nat.le_of_ble_eq_true rfl) ?_
  refine y_blk 2 tq_X1_cellToward (z := (2, [(0, .ref (ad 2)), (1, .int cell), (2, .int direction), (3, .int apart)], [.int 3, .int direction])) rfl ?_
  refine y_idiv tq_X1_cellToward rfl (by decide) ?_
  refine y_blk 5 tq_X1_cellToward (z := (9, [(4, .int ((direction / 3) - 1)), (0, .ref (ad 2)), (1, .int cell), (2, .int direction), (3, .int apart)], [.int 3, .int direction])) rfl ?_
  refine y_irem tq_X1_cellToward rfl (by decide) ?_
  refine y_blk 6 tq_X1_cellToward (z := (17, [(5, .int ((direction - direction / 3 * 3) - 1)), (4, .int ((direction / 3) - 1)), (0, .ref (ad 2)), (1, .int cell), (2, .int direction), (3, .int apart)], [.int cell, .ref (ad 2), .ref (ad 2)])) rfl ?_
  refine y_callV hS tq_X1_cellToward rfl (As := [.int cell]) rfl cv_X1_89 (hX.1 2 _ rfl) (m_X1_rowOf hS hX cell) rfl (by decide) (Nat.le_of_ble_eq_true rfl) (fun r17 Gc17 q17 => ?_) (fun E9 G9 h9 => h9.elim)
  obtain ⟨⟨x17, rfl⟩, eG17⟩ := q17
  have eG17 := eG17.symm
  subst eG17
  refine y_blk 6 tq_X1_cellToward (z := (27, [(5, .int ((direction - direction / 3 * 3) - 1)), (4, .int ((direction / 3) - 1)), (0, .ref (ad 2)), (1, .int cell), (2, .int direction), (3, .int apart)], [.int cell, .ref (ad 2), .int (x17 + (apart * ((direction / 3) - 1))), .ref (ad 2)])) rfl ?_
  refine y_callV hS tq_X1_cellToward rfl (As := [.int cell]) rfl cv_X1_92 (hX.1 2 _ rfl) (m_X1_columnOf hS hX cell) rfl (by decide) (Nat.le_of_ble_eq_true rfl) (fun r27 Gc27 q27 => ?_) (fun E9 G9 h9 => h9.elim)
  obtain ⟨⟨x27, rfl⟩, eG27⟩ := q27
  have eG27 := eG27.symm
  subst eG27
  refine y_blk 4 tq_X1_cellToward (z := (35, [(5, .int ((direction - direction / 3 * 3) - 1)), (4, .int ((direction / 3) - 1)), (0, .ref (ad 2)), (1, .int cell), (2, .int direction), (3, .int apart)], [.int (x27 + (apart * ((direction - direction / 3 * 3) - 1))), .int (x17 + (apart * ((direction / 3) - 1))), .ref (ad 2)])) rfl ?_
  refine y_callV hS tq_X1_cellToward rfl (As := [.int (x17 + (apart * ((direction / 3) - 1))), .int (x27 + (apart * ((direction - direction / 3 * 3) - 1)))]) rfl cv_X1_95 (hX.1 2 _ rfl) (m_X1_cellOf hS hX (x17 + (apart * ((direction / 3) - 1))) (x27 + (apart * ((direction - direction / 3 * 3) - 1)))) rfl (by decide) (Nat.le_of_ble_eq_true rfl) (fun r35 Gc35 q35 => ?_) (fun E9 G9 h9 => h9.elim)
  obtain ⟨⟨x35, rfl⟩, eG35⟩ := q35
  have eG35 := eG35.symm
  subst eG35
  refine y_blk 0 tq_X1_cellToward (z := (38, [(5, .int ((direction - direction / 3 * 3) - 1)), (4, .int ((direction / 3) - 1)), (0, .ref (ad 2)), (1, .int cell), (2, .int direction), (3, .int apart)], [.int x35])) rfl ?_
  exact y_iret tq_X1_cellToward rfl rfl (⟨⟨_, rfl⟩, rfl⟩)
set_option maxHeartbeats 4000000 in
set_option maxRecDepth 100000 in
theorem m_X1_allCells {l : Launch} {S0 : State} {A0 : Array Value} {D : va_G} {aC : Nat → ClassId} {ad : Nat → Nat} {G : AH} {σ : XS} (hS : yS l S0 A0 D aC) (hX : atX aC ad G σ) : yM l S0 D yX1_allCells cX1_allCells 2 (some .long) 10 0 0 [.ref (ad 2)] G (fun r G1 => (∃ v : Int64, r = some (.long v)) ∧ G1 = G) (fun _ _ => False) := by
  refine yM.ofK K_X1_allCells rfl (by decide) (Nat.le_of_ble_eq_true rfl) ?_
  have J27 : ∀ (v27_1 : Int32) (w27_0 : Int64), Y l S0 D K_X1_allCells 10 0 0 (fun r G1 => (∃ v : Int64, r = some (.long v)) ∧ G1 = G) (fun _ _ => False) 27 [(0, .ref (ad 2)), (1, .int v27_1)] [.long w27_0] G 0 0 := by
    intro v27_1 w27_0
    exact y_lret tq_X1_allCells rfl rfl (⟨⟨_, rfl⟩, rfl⟩)
  refine y_blk 1 tq_X1_allCells (z := (1, [(0, .ref (ad 2))], [.ref (ad 2)])) rfl ?_
  refine y_get hS tq_X1_allCells (v := .int (σ.2.2.1 0)) rfl fg_X1_19_X1 (hX.1 2 _ rfl) rfl ?_
  refine y_blk 1 tq_X1_allCells (z := (5, [(0, .ref (ad 2))], [.ref (ad 2), .int (σ.2.2.1 0)])) rfl ?_
  refine y_get hS tq_X1_allCells (v := .int (σ.2.2.1 1)) rfl fg_X1_22_X1 (hX.1 2 _ rfl) rfl ?_
  refine y_blk 4 tq_X1_allCells (z := (13, [(1, .int ((σ.2.2.1 0) * (σ.2.2.1 1))), (0, .ref (ad 2))], [.int 64, .int ((σ.2.2.1 0) * (σ.2.2.1 1))])) rfl ?_
  refine y_icmp_lt tq_X1_allCells 22 rfl rfl (fun c13 => ?_) (fun c13 => ?_)
  · skip
    refine y_blk 5 tq_X1_allCells (z := (27, [(1, .int ((σ.2.2.1 0) * (σ.2.2.1 1))), (0, .ref (ad 2))], [.long ((1 <<< (Int32.toInt64 ((σ.2.2.1 0) * (σ.2.2.1 1)) &&& 63)) - 1)])) rfl ?_
    refine y_pick (L2 := [(0, .ref (ad 2)), (1, .int ((σ.2.2.1 0) * (σ.2.2.1 1)))]) [1, 0] rfl ?_
    exact J27 ((σ.2.2.1 0) * (σ.2.2.1 1)) ((1 <<< (Int32.toInt64 ((σ.2.2.1 0) * (σ.2.2.1 1)) &&& 63)) - 1)
  · skip
    refine y_blk 0 tq_X1_allCells (z := (16, [(1, .int ((σ.2.2.1 0) * (σ.2.2.1 1))), (0, .ref (ad 2))], [])) rfl ?_
    refine y_ldc2 hS tq_X1_allCells rfl ld_X1_66 ?_
    refine y_blk 1 tq_X1_allCells (z := (27, [(1, .int ((σ.2.2.1 0) * (σ.2.2.1 1))), (0, .ref (ad 2))], [.long (-1)])) rfl ?_
    refine y_pick (L2 := [(0, .ref (ad 2)), (1, .int ((σ.2.2.1 0) * (σ.2.2.1 1)))]) [1, 0] rfl ?_
    exact J27 ((σ.2.2.1 0) * (σ.2.2.1 1)) (-1)
set_option maxHeartbeats 4000000 in
set_option maxRecDepth 100000 in
theorem m_X1_openCells {l : Launch} {S0 : State} {A0 : Array Value} {D : va_G} {aC : Nat → ClassId} {ad : Nat → Nat} {G : AH} {σ : XS} (hS : yS l S0 A0 D aC) (hX : atX aC ad G σ) : yM l S0 D yX1_openCells cX1_openCells 1 (some .long) 11 0 0 [.ref (ad 2)] G (fun r G1 => (∃ v : Int64, r = some (.long v)) ∧ G1 = G) (fun _ _ => False) := by
  refine yM.ofK K_X1_openCells rfl (by decide) (Nat.le_of_ble_eq_true rfl) ?_
  refine y_blk 1 tq_X1_openCells (z := (1, [(0, .ref (ad 2))], [.ref (ad 2)])) rfl ?_
  refine y_callV hS tq_X1_openCells rfl (As := []) rfl cv_X1_78 (hX.1 2 _ rfl) (m_X1_allCells hS hX ) rfl (by decide) (Nat.le_of_ble_eq_true rfl) (fun r1 Gc1 q1 => ?_) (fun E9 G9 h9 => h9.elim)
  obtain ⟨⟨x1, rfl⟩, eG1⟩ := q1
  have eG1 := eG1.symm
  subst eG1
  refine y_blk 1 tq_X1_openCells (z := (5, [(0, .ref (ad 2))], [.ref (ad 2), .long x1])) rfl ?_
  refine y_get hS tq_X1_openCells (v := .long (σ.2.2.2.1 2)) rfl fg_X1_28_X1 (hX.1 2 _ rfl) rfl ?_
  refine y_blk 0 tq_X1_openCells (z := (8, [(0, .ref (ad 2))], [.long (σ.2.2.2.1 2), .long x1])) rfl ?_
  refine y_ldc2 hS tq_X1_openCells rfl ld_X1_66 ?_
  refine y_blk 2 tq_X1_openCells (z := (13, [(0, .ref (ad 2))], [.long (x1 &&& ((σ.2.2.2.1 2) ^^^ (-1)))])) rfl ?_
  exact y_lret tq_X1_openCells rfl rfl (⟨⟨_, rfl⟩, rfl⟩)
set_option maxHeartbeats 4000000 in
set_option maxRecDepth 100000 in
theorem m_X1_walkable {l : Launch} {S0 : State} {A0 : Array Value} {D : va_G} {aC : Nat → ClassId} {ad : Nat → Nat} {G : AH} {σ : XS} (hS : yS l S0 A0 D aC) (hX : atX aC ad G σ) (minute : Int32) : yM l S0 D yX1_walkable cX1_walkable 3 (some .long) 12 0 0 [.ref (ad 2), .int minute] G (fun r G1 => (∃ v : Int64, r = some (.long v)) ∧ G1 = G) (fun _ _ => False) := by
  refine yM.ofK K_X1_walkable rfl (by decide) (Nat.le_of_ble_eq_true rfl) ?_
  have J37 : ∀ (v37_2 : Int32) (w37_0 : Int64) (hb_v37_2 : v37_2 = 0 ∨ v37_2 = 1), Y l S0 D K_X1_walkable 12 0 0 (fun r G1 => (∃ v : Int64, r = some (.long v)) ∧ G1 = G) (fun _ _ => False) 37 [(0, .ref (ad 2)), (1, .int minute), (2, .int v37_2)] [.long w37_0] G 0 0 := by
    intro v37_2 w37_0 hb_v37_2
    exact y_lret tq_X1_walkable rfl rfl (⟨⟨_, rfl⟩, rfl⟩)
  refine y_blk 2 tq_X1_walkable (z := (2, [(0, .ref (ad 2)), (1, .int minute)], [.ref (ad 2), .int minute])) rfl ?_
  refine y_get hS tq_X1_walkable (v := .int (σ.2.2.1 2)) rfl fg_X1_9_X1 (hX.1 2 _ rfl) rfl ?_
  refine y_blk 1 tq_X1_walkable (z := (6, [(0, .ref (ad 2)), (1, .int minute)], [.ref (ad 2), .int (σ.2.2.1 2), .int minute])) rfl ?_
  refine y_get hS tq_X1_walkable (v := .int (σ.2.2.1 3)) rfl fg_X1_59_X1 (hX.1 2 _ rfl) rfl ?_
  refine y_blk 0 tq_X1_walkable (z := (9, [(0, .ref (ad 2)), (1, .int minute)], [.int (σ.2.2.1 3), .int (σ.2.2.1 2), .int minute])) rfl ?_
  refine y_callSN hS tq_X1_walkable rfl (As := [.int minute, .int (σ.2.2.1 2), .int (σ.2.2.1 3)]) rfl cs_X1_82 (m_X8_isIn hS  minute (σ.2.2.1 2) (σ.2.2.1 3)) rfl (by decide) (Nat.le_of_ble_eq_true rfl) (fun r9 Gc9 q9 => ?_) (fun E9 G9 h9 => h9.elim)
  obtain ⟨rfl, eG9⟩ := q9
  have eG9 := eG9.symm
  subst eG9
  refine y_blk 2 tq_X1_walkable (z := (14, [(2, .int (if (σ.2.2.1 2) ≤ minute ∧ minute ≤ (σ.2.2.1 3) then 1 else 0)), (0, .ref (ad 2)), (1, .int minute)], [.int (if (σ.2.2.1 2) ≤ minute ∧ minute ≤ (σ.2.2.1 3) then 1 else 0)])) rfl ?_
  refine y_if_eq tq_X1_walkable 24 rfl rfl (fun c14 => ?_) (fun c14 => ?_)
  · skip
    refine y_blk 1 tq_X1_walkable (z := (25, [(2, .int (if (σ.2.2.1 2) ≤ minute ∧ minute ≤ (σ.2.2.1 3) then 1 else 0)), (0, .ref (ad 2)), (1, .int minute)], [.ref (ad 2)])) rfl ?_
    refine y_callV hS tq_X1_walkable rfl (As := []) rfl cv_X1_86 (hX.1 2 _ rfl) (m_X1_openCells hS hX ) rfl (by decide) (Nat.le_of_ble_eq_true rfl) (fun r25 Gc25 q25 => ?_) (fun E9 G9 h9 => h9.elim)
    obtain ⟨⟨x25, rfl⟩, eG25⟩ := q25
    have eG25 := eG25.symm
    subst eG25
    refine y_blk 1 tq_X1_walkable (z := (29, [(2, .int (if (σ.2.2.1 2) ≤ minute ∧ minute ≤ (σ.2.2.1 3) then 1 else 0)), (0, .ref (ad 2)), (1, .int minute)], [.ref (ad 2), .long x25])) rfl ?_
    refine y_get hS tq_X1_walkable (v := .long (σ.2.2.2.1 4)) rfl fg_X1_35_X1 (hX.1 2 _ rfl) rfl ?_
    refine y_blk 0 tq_X1_walkable (z := (32, [(2, .int (if (σ.2.2.1 2) ≤ minute ∧ minute ≤ (σ.2.2.1 3) then 1 else 0)), (0, .ref (ad 2)), (1, .int minute)], [.long (σ.2.2.2.1 4), .long x25])) rfl ?_
    refine y_ldc2 hS tq_X1_walkable rfl ld_X1_66 ?_
    refine y_blk 2 tq_X1_walkable (z := (37, [(2, .int (if (σ.2.2.1 2) ≤ minute ∧ minute ≤ (σ.2.2.1 3) then 1 else 0)), (0, .ref (ad 2)), (1, .int minute)], [.long (x25 &&& ((σ.2.2.2.1 4) ^^^ (-1)))])) rfl ?_
    refine y_pick (L2 := [(0, .ref (ad 2)), (1, .int minute), (2, .int (if (σ.2.2.1 2) ≤ minute ∧ minute ≤ (σ.2.2.1 3) then 1 else 0))]) [1, 2, 0] rfl ?_
    exact J37 (if (σ.2.2.1 2) ≤ minute ∧ minute ≤ (σ.2.2.1 3) then 1 else 0) (x25 &&& ((σ.2.2.2.1 4) ^^^ (-1))) (y01i _)
  · skip
    refine y_blk 1 tq_X1_walkable (z := (18, [(2, .int (if (σ.2.2.1 2) ≤ minute ∧ minute ≤ (σ.2.2.1 3) then 1 else 0)), (0, .ref (ad 2)), (1, .int minute)], [.ref (ad 2)])) rfl ?_
    refine y_callV hS tq_X1_walkable rfl (As := []) rfl cv_X1_86 (hX.1 2 _ rfl) (m_X1_openCells hS hX ) rfl (by decide) (Nat.le_of_ble_eq_true rfl) (fun r18 Gc18 q18 => ?_) (fun E9 G9 h9 => h9.elim)
    obtain ⟨⟨x18, rfl⟩, eG18⟩ := q18
    have eG18 := eG18.symm
    subst eG18
    refine y_blk 1 tq_X1_walkable (z := (37, [(2, .int (if (σ.2.2.1 2) ≤ minute ∧ minute ≤ (σ.2.2.1 3) then 1 else 0)), (0, .ref (ad 2)), (1, .int minute)], [.long x18])) rfl ?_
    refine y_pick (L2 := [(0, .ref (ad 2)), (1, .int minute), (2, .int (if (σ.2.2.1 2) ≤ minute ∧ minute ≤ (σ.2.2.1 3) then 1 else 0))]) [1, 2, 0] rfl ?_
    exact J37 (if (σ.2.2.1 2) ≤ minute ∧ minute ≤ (σ.2.2.1 3) then 1 else 0) x18 (y01i _)
set_option maxHeartbeats 4000000 in
set_option maxRecDepth 100000 in
theorem m_X1_spread {l : Launch} {S0 : State} {A0 : Array Value} {D : va_G} {aC : Nat → ClassId} {ad : Nat → Nat} {G : AH} {σ : XS} (hS : yS l S0 A0 D aC) (hX : atX aC ad G σ) (cells : Int64) : yM l S0 D yX1_spread cX1_spread 7 (some .long) 11 0 0 [.ref (ad 2), .long cells] G (fun r G1 => (∃ v : Int64, r = some (.long v)) ∧ G1 = G) (fun _ _ => False) := by
  refine yM.ofK K_X1_spread rfl (by decide) (Nat.le_of_ble_eq_true rfl) ?_
  refine y_blk 2 tq_X1_spread (z := (2, [(0, .ref (ad 2)), (1, .long cells)], [.ref (ad 2), .long cells])) rfl ?_
  refine y_get hS tq_X1_spread (v := .long (σ.2.2.2.1 1)) rfl fg_X1_99_X1 (hX.1 2 _ rfl) rfl ?_
  refine y_blk 0 tq_X1_spread (z := (5, [(0, .ref (ad 2)), (1, .long cells)], [.long (σ.2.2.2.1 1), .long cells])) rfl ?_
  refine y_ldc2 hS tq_X1_spread rfl ld_X1_66 ?_
  refine y_blk 7 tq_X1_spread (z := (15, [(3, .long ((cells &&& ((σ.2.2.2.1 1) ^^^ (-1))) <<< (Int32.toInt64 1 &&& 63))), (0, .ref (ad 2)), (1, .long cells)], [.ref (ad 2), .long cells])) rfl ?_
  refine y_get hS tq_X1_spread (v := .long (σ.2.2.2.1 0)) rfl fg_X1_102_X1 (hX.1 2 _ rfl) rfl ?_
  refine y_blk 0 tq_X1_spread (z := (18, [(3, .long ((cells &&& ((σ.2.2.2.1 1) ^^^ (-1))) <<< (Int32.toInt64 1 &&& 63))), (0, .ref (ad 2)), (1, .long cells)], [.long (σ.2.2.2.1 0), .long cells])) rfl ?_
  refine y_ldc2 hS tq_X1_spread rfl ld_X1_66 ?_
  refine y_blk 8 tq_X1_spread (z := (30, [(5, .long ((Int64.toUInt64 (cells &&& ((σ.2.2.2.1 0) ^^^ (-1))) >>> ((Int32.toInt64 1).toUInt64 &&& Int64.toUInt64 63)).toInt64)), (3, .long ((cells &&& ((σ.2.2.2.1 1) ^^^ (-1))) <<< (Int32.toInt64 1 &&& 63))), (0, .ref (ad 2)), (1, .long cells)], [.ref (ad 2), .long cells, .long cells])) rfl ?_
  refine y_get hS tq_X1_spread (v := .int (σ.2.2.1 0)) rfl fg_X1_19_X1 (hX.1 2 _ rfl) rfl ?_
  refine y_blk 4 tq_X1_spread (z := (37, [(5, .long ((Int64.toUInt64 (cells &&& ((σ.2.2.2.1 0) ^^^ (-1))) >>> ((Int32.toInt64 1).toUInt64 &&& Int64.toUInt64 63)).toInt64)), (3, .long ((cells &&& ((σ.2.2.2.1 1) ^^^ (-1))) <<< (Int32.toInt64 1 &&& 63))), (0, .ref (ad 2)), (1, .long cells)], [.ref (ad 2), .long cells, .long (cells ||| (cells <<< (Int32.toInt64 (σ.2.2.1 0) &&& 63)))])) rfl ?_
  refine y_get hS tq_X1_spread (v := .int (σ.2.2.1 0)) rfl fg_X1_19_X1 (hX.1 2 _ rfl) rfl ?_
  refine y_blk 7 tq_X1_spread (z := (48, [(5, .long ((Int64.toUInt64 (cells &&& ((σ.2.2.2.1 0) ^^^ (-1))) >>> ((Int32.toInt64 1).toUInt64 &&& Int64.toUInt64 63)).toInt64)), (3, .long ((cells &&& ((σ.2.2.2.1 1) ^^^ (-1))) <<< (Int32.toInt64 1 &&& 63))), (0, .ref (ad 2)), (1, .long cells)], [.ref (ad 2), .long ((((cells ||| (cells <<< (Int32.toInt64 (σ.2.2.1 0) &&& 63))) ||| ((Int64.toUInt64 cells >>> ((Int32.toInt64 (σ.2.2.1 0)).toUInt64 &&& Int64.toUInt64 63)).toInt64)) ||| ((cells &&& ((σ.2.2.2.1 1) ^^^ (-1))) <<< (Int32.toInt64 1 &&& 63))) ||| ((Int64.toUInt64 (cells &&& ((σ.2.2.2.1 0) ^^^ (-1))) >>> ((Int32.toInt64 1).toUInt64 &&& Int64.toUInt64 63)).toInt64))])) rfl ?_
  refine y_callV hS tq_X1_spread rfl (As := []) rfl cv_X1_78 (hX.1 2 _ rfl) (m_X1_allCells hS hX ) rfl (by decide) (Nat.le_of_ble_eq_true rfl) (fun r48 Gc48 q48 => ?_) (fun E9 G9 h9 => h9.elim)
  obtain ⟨⟨x48, rfl⟩, eG48⟩ := q48
  have eG48 := eG48.symm
  subst eG48
  refine y_blk 1 tq_X1_spread (z := (52, [(5, .long ((Int64.toUInt64 (cells &&& ((σ.2.2.2.1 0) ^^^ (-1))) >>> ((Int32.toInt64 1).toUInt64 &&& Int64.toUInt64 63)).toInt64)), (3, .long ((cells &&& ((σ.2.2.2.1 1) ^^^ (-1))) <<< (Int32.toInt64 1 &&& 63))), (0, .ref (ad 2)), (1, .long cells)], [.long (((((cells ||| (cells <<< (Int32.toInt64 (σ.2.2.1 0) &&& 63))) ||| ((Int64.toUInt64 cells >>> ((Int32.toInt64 (σ.2.2.1 0)).toUInt64 &&& Int64.toUInt64 63)).toInt64)) ||| ((cells &&& ((σ.2.2.2.1 1) ^^^ (-1))) <<< (Int32.toInt64 1 &&& 63))) ||| ((Int64.toUInt64 (cells &&& ((σ.2.2.2.1 0) ^^^ (-1))) >>> ((Int32.toInt64 1).toUInt64 &&& Int64.toUInt64 63)).toInt64)) &&& x48)])) rfl ?_
  exact y_lret tq_X1_spread rfl rfl (⟨⟨_, rfl⟩, rfl⟩)
set_option maxHeartbeats 4000000 in
set_option maxRecDepth 100000 in
theorem m_X1_kindOf {l : Launch} {S0 : State} {A0 : Array Value} {D : va_G} {aC : Nat → ClassId} {ad : Nat → Nat} {G : AH} {σ : XS} (hS : yS l S0 A0 D aC) (hX : atX aC ad G σ) (cell : Int32) : yM l S0 D yX1_kindOf cX1_kindOf 2 (some .int) 12 0 0 [.ref (ad 2), .int cell] G (fun r G1 => (∃ v : Int32, r = some (.int v)) ∧ G1 = G) (fun _ _ => False) := by
  refine yM.ofK K_X1_kindOf rfl (by decide) (Nat.le_of_ble_eq_true rfl) ?_
  have J42 : ∀ (w42_0 : Int32), Y l S0 D K_X1_kindOf 12 0 0 (fun r G1 => (∃ v : Int32, r = some (.int v)) ∧ G1 = G) (fun _ _ => False) 42 [(0, .ref (ad 2)), (1, .int cell)] [.int w42_0] G 0 0 := by
    intro w42_0
    exact y_iret tq_X1_kindOf rfl rfl (⟨⟨_, rfl⟩, rfl⟩)
  refine y_blk 1 tq_X1_kindOf (z := (1, [(0, .ref (ad 2)), (1, .int cell)], [.ref (ad 2)])) rfl ?_
  refine y_get hS tq_X1_kindOf (v := .long (σ.2.2.2.1 2)) rfl fg_X1_28_X1 (hX.1 2 _ rfl) rfl ?_
  refine y_blk 1 tq_X1_kindOf (z := (5, [(0, .ref (ad 2)), (1, .int cell)], [.int cell, .long (σ.2.2.2.1 2)])) rfl ?_
  refine y_callSN hS tq_X1_kindOf rfl (As := [.long (σ.2.2.2.1 2), .int cell]) rfl cs_X1_68 (m_X8_isOf hS  (σ.2.2.2.1 2) cell) rfl (by decide) (Nat.le_of_ble_eq_true rfl) (fun r5 Gc5 q5 => ?_) (fun E9 G9 h9 => h9.elim)
  obtain ⟨⟨x5, hb_x5, rfl⟩, eG5⟩ := q5
  have eG5 := eG5.symm
  subst eG5
  refine y_blk 0 tq_X1_kindOf (z := (8, [(0, .ref (ad 2)), (1, .int cell)], [.int x5])) rfl ?_
  refine y_if_eq tq_X1_kindOf 13 rfl rfl (fun c8 => ?_) (fun c8 => ?_)
  · skip
    refine y_blk 1 tq_X1_kindOf (z := (14, [(0, .ref (ad 2)), (1, .int cell)], [.ref (ad 2)])) rfl ?_
    refine y_get hS tq_X1_kindOf (v := .long (σ.2.2.2.1 3)) rfl fg_X1_32_X1 (hX.1 2 _ rfl) rfl ?_
    refine y_blk 1 tq_X1_kindOf (z := (18, [(0, .ref (ad 2)), (1, .int cell)], [.int cell, .long (σ.2.2.2.1 3)])) rfl ?_
    refine y_callSN hS tq_X1_kindOf rfl (As := [.long (σ.2.2.2.1 3), .int cell]) rfl cs_X1_68 (m_X8_isOf hS  (σ.2.2.2.1 3) cell) rfl (by decide) (Nat.le_of_ble_eq_true rfl) (fun r18 Gc18 q18 => ?_) (fun E9 G9 h9 => h9.elim)
    obtain ⟨⟨x18, hb_x18, rfl⟩, eG18⟩ := q18
    have eG18 := eG18.symm
    subst eG18
    refine y_blk 0 tq_X1_kindOf (z := (21, [(0, .ref (ad 2)), (1, .int cell)], [.int x18])) rfl ?_
    refine y_if_eq tq_X1_kindOf 26 rfl rfl (fun c21 => ?_) (fun c21 => ?_)
    · skip
      refine y_blk 1 tq_X1_kindOf (z := (27, [(0, .ref (ad 2)), (1, .int cell)], [.ref (ad 2)])) rfl ?_
      refine y_get hS tq_X1_kindOf (v := .long (σ.2.2.2.1 4)) rfl fg_X1_35_X1 (hX.1 2 _ rfl) rfl ?_
      refine y_blk 1 tq_X1_kindOf (z := (31, [(0, .ref (ad 2)), (1, .int cell)], [.int cell, .long (σ.2.2.2.1 4)])) rfl ?_
      refine y_callSN hS tq_X1_kindOf rfl (As := [.long (σ.2.2.2.1 4), .int cell]) rfl cs_X1_68 (m_X8_isOf hS  (σ.2.2.2.1 4) cell) rfl (by decide) (Nat.le_of_ble_eq_true rfl) (fun r31 Gc31 q31 => ?_) (fun E9 G9 h9 => h9.elim)
      obtain ⟨⟨x31, hb_x31, rfl⟩, eG31⟩ := q31
      have eG31 := eG31.symm
      subst eG31
      refine y_blk 0 tq_X1_kindOf (z := (34, [(0, .ref (ad 2)), (1, .int cell)], [.int x31])) rfl ?_
      refine y_if_eq tq_X1_kindOf 41 rfl rfl (fun c34 => ?_) (fun c34 => ?_)
      · skip
        refine y_blk 1 tq_X1_kindOf (z := (42, [(0, .ref (ad 2)), (1, .int cell)], [.int 0])) rfl ?_
        exact J42 0
      · skip
        refine y_blk 2 tq_X1_kindOf (z := (42, [(0, .ref (ad 2)), (1, .int cell)], [.int 3])) rfl ?_
        exact J42 3
    · skip
      refine y_blk 1 tq_X1_kindOf (z := (25, [(0, .ref (ad 2)), (1, .int cell)], [.int 2])) rfl ?_
      exact y_iret tq_X1_kindOf rfl rfl (⟨⟨_, rfl⟩, rfl⟩)
  · skip
    refine y_blk 1 tq_X1_kindOf (z := (12, [(0, .ref (ad 2)), (1, .int cell)], [.int 1])) rfl ?_
    exact y_iret tq_X1_kindOf rfl rfl (⟨⟨_, rfl⟩, rfl⟩)
set_option maxHeartbeats 4000000 in
set_option maxRecDepth 100000 in
theorem m_X1_isWall {l : Launch} {S0 : State} {A0 : Array Value} {D : va_G} {aC : Nat → ClassId} {ad : Nat → Nat} {G : AH} {σ : XS} (hS : yS l S0 A0 D aC) (hX : atX aC ad G σ) (cell : Int32) : yM l S0 D yX1_isWall cX1_isWall 2 (some .boolean) 12 0 0 [.ref (ad 2), .int cell] G (fun r G1 => (∃ v : Int32, (v = 0 ∨ v = 1) ∧ r = some (.int v)) ∧ G1 = G) (fun _ _ => False) := by
  refine yM.ofK K_X1_isWall rfl (by decide) (Nat.le_of_ble_eq_true rfl) ?_
  refine y_blk 1 tq_X1_isWall (z := (1, [(0, .ref (ad 2)), (1, .int cell)], [.ref (ad 2)])) rfl ?_
  refine y_get hS tq_X1_isWall (v := .long (σ.2.2.2.1 2)) rfl fg_X1_28_X1 (hX.1 2 _ rfl) rfl ?_
  refine y_blk 1 tq_X1_isWall (z := (5, [(0, .ref (ad 2)), (1, .int cell)], [.int cell, .long (σ.2.2.2.1 2)])) rfl ?_
  refine y_callSN hS tq_X1_isWall rfl (As := [.long (σ.2.2.2.1 2), .int cell]) rfl cs_X1_68 (m_X8_isOf hS  (σ.2.2.2.1 2) cell) rfl (by decide) (Nat.le_of_ble_eq_true rfl) (fun r5 Gc5 q5 => ?_) (fun E9 G9 h9 => h9.elim)
  obtain ⟨⟨x5, hb_x5, rfl⟩, eG5⟩ := q5
  have eG5 := eG5.symm
  subst eG5
  refine y_blk 0 tq_X1_isWall (z := (8, [(0, .ref (ad 2)), (1, .int cell)], [.int x5])) rfl ?_
  exact y_zret tq_X1_isWall rfl rfl (y01 hb_x5) (⟨⟨_, hb_x5, rfl⟩, rfl⟩)
set_option maxHeartbeats 4000000 in
set_option maxRecDepth 100000 in
theorem m_X1_gateCount {l : Launch} {S0 : State} {A0 : Array Value} {D : va_G} {aC : Nat → ClassId} {ad : Nat → Nat} {G : AH} {σ : XS} (hS : yS l S0 A0 D aC) (hX : atX aC ad G σ) : yM l S0 D yX1_gateCount cX1_gateCount 1 (some .int) 11 0 0 [.ref (ad 2)] G (fun r G1 => (∃ v : Int32, r = some (.int v)) ∧ G1 = G) (fun _ _ => False) := by
  refine yM.ofK K_X1_gateCount rfl (by decide) (Nat.le_of_ble_eq_true rfl) ?_
  refine y_blk 1 tq_X1_gateCount (z := (1, [(0, .ref (ad 2))], [.ref (ad 2)])) rfl ?_
  refine y_get hS tq_X1_gateCount (v := .long (σ.2.2.2.1 4)) rfl fg_X1_35_X1 (hX.1 2 _ rfl) rfl ?_
  refine y_blk 0 tq_X1_gateCount (z := (4, [(0, .ref (ad 2))], [.long (σ.2.2.2.1 4)])) rfl ?_
  refine y_callS hS tq_X1_gateCount rfl (As := [.long (σ.2.2.2.1 4)]) rfl cs_X1_72 (m_J13_bitCount_95d88 hS  (σ.2.2.2.1 4)) rfl (by decide) (Nat.le_of_ble_eq_true rfl) (fun r4 Gc4 q4 => ?_) (fun E9 G9 h9 => h9.elim)
  obtain ⟨⟨x4, rfl⟩, eG4⟩ := q4
  have eG4 := eG4.symm
  subst eG4
  refine y_blk 0 tq_X1_gateCount (z := (7, [(0, .ref (ad 2))], [.int x4])) rfl ?_
  exact y_iret tq_X1_gateCount rfl rfl (⟨⟨_, rfl⟩, rfl⟩)
set_option maxHeartbeats 4000000 in
set_option maxRecDepth 100000 in
theorem m_X1_viewOf {l : Launch} {S0 : State} {A0 : Array Value} {D : va_G} {aC : Nat → ClassId} {ad : Nat → Nat} {G : AH} {σ : XS} (hS : yS l S0 A0 D aC) (hX : atX aC ad G σ) (cell : Int32) (apart : Int32) : yM l S0 D yX1_viewOf cX1_viewOf 5 (some .long) 10 0 0 [.ref (ad 2), .int cell, .int apart] G (fun r G1 => (∃ v : Int64, r = some (.long v)) ∧ G1 = G) (fun _ _ => False) := by
  refine yM.ofK K_X1_viewOf rfl (by decide) (Nat.le_of_ble_eq_true rfl) ?_
  have h512 : (Int32.ofNat 512).toInt = 512 := by decide
  have J55 : ∀ (v55_3 : Int32) (v55_4 : Int32) (w55_0 : Int64), Y l S0 D K_X1_viewOf 10 0 0 (fun r G1 => (∃ v : Int64, r = some (.long v)) ∧ G1 = G) (fun _ _ => False) 55 [(0, .ref (ad 2)), (1, .int cell), (2, .int apart), (3, .int v55_3), (4, .int v55_4)] [.long w55_0] G 0 0 := by
    intro v55_3 v55_4 w55_0
    exact y_lret tq_X1_viewOf rfl rfl (⟨⟨_, rfl⟩, rfl⟩)
  have J54 : ∀ (v54_3 : Int32) (v54_4 : Int32), Y l S0 D K_X1_viewOf 10 0 0 (fun r G1 => (∃ v : Int64, r = some (.long v)) ∧ G1 = G) (fun _ _ => False) 54 [(0, .ref (ad 2)), (1, .int cell), (2, .int apart), (3, .int v54_3), (4, .int v54_4)] [] G 0 0 := by
    intro v54_3 v54_4
    refine y_blk 1 tq_X1_viewOf (z := (55, [(0, .ref (ad 2)), (1, .int cell), (2, .int apart), (3, .int v54_3), (4, .int v54_4)], [.long 0])) rfl ?_
    exact J55 v54_3 v54_4 0
  have J26 : ∀ (v26_3 : Int32) (w26_0 : Int32) (w26_1 : Int32), Y l S0 D K_X1_viewOf 10 0 0 (fun r G1 => (∃ v : Int64, r = some (.long v)) ∧ G1 = G) (fun _ _ => False) 26 [(0, .ref (ad 2)), (1, .int cell), (2, .int apart), (3, .int v26_3)] [.int w26_0, .int w26_1] G 0 0 := by
    intro v26_3 w26_0 w26_1
    refine y_blk 3 tq_X1_viewOf (z := (31, [(4, .int (w26_1 + w26_0)), (0, .ref (ad 2)), (1, .int cell), (2, .int apart), (3, .int v26_3)], [.int (w26_1 + w26_0)])) rfl ?_
    refine y_if_lt tq_X1_viewOf 54 rfl rfl (fun c31 => ?_) (fun c31 => ?_)
    · skip
      refine y_blk 0 tq_X1_viewOf (z := (54, [(4, .int (w26_1 + w26_0)), (0, .ref (ad 2)), (1, .int cell), (2, .int apart), (3, .int v26_3)], [])) rfl ?_
      refine y_pick (L2 := [(0, .ref (ad 2)), (1, .int cell), (2, .int apart), (3, .int v26_3), (4, .int (w26_1 + w26_0))]) [1, 2, 3, 4, 0] rfl ?_
      exact J54 v26_3 (w26_1 + w26_0)
    · skip
      refine y_blk 2 tq_X1_viewOf (z := (37, [(4, .int (w26_1 + w26_0)), (0, .ref (ad 2)), (1, .int cell), (2, .int apart), (3, .int v26_3)], [.ref (ad 2), .int (w26_1 + w26_0)])) rfl ?_
      refine y_get hS tq_X1_viewOf (v := .ref (ad 3)) rfl fg_X1_15_X1 (hX.1 2 _ rfl) rfl ?_
      refine y_blk 0 tq_X1_viewOf (z := (40, [(4, .int (w26_1 + w26_0)), (0, .ref (ad 2)), (1, .int cell), (2, .int apart), (3, .int v26_3)], [.ref (ad 3), .int (w26_1 + w26_0)])) rfl ?_
      refine y_alen hS tq_X1_viewOf 1 rfl rfl (hX.1 3 _ rfl) ?_
      refine y_blk 0 tq_X1_viewOf (z := (41, [(4, .int (w26_1 + w26_0)), (0, .ref (ad 2)), (1, .int cell), (2, .int apart), (3, .int v26_3)], [.int (Int32.ofNat 512), .int (w26_1 + w26_0)])) rfl ?_
      refine y_icmp_ge tq_X1_viewOf 54 rfl rfl (fun c41 => ?_) (fun c41 => ?_)
      · skip
        refine y_blk 0 tq_X1_viewOf (z := (54, [(4, .int (w26_1 + w26_0)), (0, .ref (ad 2)), (1, .int cell), (2, .int apart), (3, .int v26_3)], [])) rfl ?_
        refine y_pick (L2 := [(0, .ref (ad 2)), (1, .int cell), (2, .int apart), (3, .int v26_3), (4, .int (w26_1 + w26_0))]) [1, 2, 3, 4, 0] rfl ?_
        exact J54 v26_3 (w26_1 + w26_0)
      · skip
        refine y_blk 1 tq_X1_viewOf (z := (45, [(4, .int (w26_1 + w26_0)), (0, .ref (ad 2)), (1, .int cell), (2, .int apart), (3, .int v26_3)], [.ref (ad 2)])) rfl ?_
        refine y_get hS tq_X1_viewOf (v := .ref (ad 3)) rfl fg_X1_15_X1 (hX.1 2 _ rfl) rfl ?_
        refine y_blk 1 tq_X1_viewOf (z := (50, [(4, .int (w26_1 + w26_0)), (0, .ref (ad 2)), (1, .int cell), (2, .int apart), (3, .int v26_3)], [.int (w26_1 + w26_0), .ref (ad 3)])) rfl ?_
        refine y_lald hS tq_X1_viewOf rfl (hX.1 3 _ rfl) (by exact yin (by (simp only [ylt, yle, yeqI, yl_m1, yl_0, yl_1, yl_2, yl_3, yl_4, yl_5, yl_6, yl_7, yl_8, yl_9, yl_10, yl_11, yl_12, yl_15, yl_16, yl_20, yl_60, yl_64, yl_90, yl_97, yl_99, yl_100, yl_120, yl_239, yl_240] at *; omega)) (by (simp only [ylt, yle, yeqI, yl_m1, yl_0, yl_1, yl_2, yl_3, yl_4, yl_5, yl_6, yl_7, yl_8, yl_9, yl_10, yl_11, yl_12, yl_15, yl_16, yl_20, yl_60, yl_64, yl_90, yl_97, yl_99, yl_100, yl_120, yl_239, yl_240] at *; omega))) ?_
        refine y_blk 1 tq_X1_viewOf (z := (55, [(4, .int (w26_1 + w26_0)), (0, .ref (ad 2)), (1, .int cell), (2, .int apart), (3, .int v26_3)], [.long (σ.2.2.2.2 (Int32.toNatClampNeg (w26_1 + w26_0)))])) rfl ?_
        refine y_pick (L2 := [(0, .ref (ad 2)), (1, .int cell), (2, .int apart), (3, .int v26_3), (4, .int (w26_1 + w26_0))]) [1, 2, 3, 4, 0] rfl ?_
        exact J55 v26_3 (w26_1 + w26_0) (σ.2.2.2.2 (Int32.toNatClampNeg (w26_1 + w26_0)))
  have J9 : ∀ (w9_0 : Int32), Y l S0 D K_X1_viewOf 10 0 0 (fun r G1 => (∃ v : Int64, r = some (.long v)) ∧ G1 = G) (fun _ _ => False) 9 [(0, .ref (ad 2)), (1, .int cell), (2, .int apart)] [.int w9_0] G 0 0 := by
    intro w9_0
    refine y_blk 6 tq_X1_viewOf (z := (17, [(3, .int w9_0), (0, .ref (ad 2)), (1, .int cell), (2, .int apart)], [.int 8, .int w9_0, .int (cell * 8)])) rfl ?_
    refine y_icmp_ge tq_X1_viewOf 24 rfl rfl (fun c17 => ?_) (fun c17 => ?_)
    · skip
      refine y_blk 1 tq_X1_viewOf (z := (26, [(3, .int w9_0), (0, .ref (ad 2)), (1, .int cell), (2, .int apart)], [.int 7, .int (cell * 8)])) rfl ?_
      refine y_pick (L2 := [(0, .ref (ad 2)), (1, .int cell), (2, .int apart), (3, .int w9_0)]) [1, 2, 3, 0] rfl ?_
      exact J26 w9_0 7 (cell * 8)
    · skip
      refine y_blk 2 tq_X1_viewOf (z := (26, [(3, .int w9_0), (0, .ref (ad 2)), (1, .int cell), (2, .int apart)], [.int w9_0, .int (cell * 8)])) rfl ?_
      refine y_pick (L2 := [(0, .ref (ad 2)), (1, .int cell), (2, .int apart), (3, .int w9_0)]) [1, 2, 3, 0] rfl ?_
      exact J26 w9_0 w9_0 (cell * 8)
  refine y_blk 1 tq_X1_viewOf (z := (1, [(0, .ref (ad 2)), (1, .int cell), (2, .int apart)], [.int apart])) rfl ?_
  refine y_if_ge tq_X1_viewOf 8 rfl rfl (fun c1 => ?_) (fun c1 => ?_)
  · skip
    refine y_blk 1 tq_X1_viewOf (z := (9, [(0, .ref (ad 2)), (1, .int cell), (2, .int apart)], [.int apart])) rfl ?_
    exact J9 apart
  · skip
    refine y_blk 2 tq_X1_viewOf (z := (9, [(0, .ref (ad 2)), (1, .int cell), (2, .int apart)], [.int 0])) rfl ?_
    exact J9 0
set_option maxHeartbeats 4000000 in
set_option maxRecDepth 100000 in
theorem m_X1_openGates {l : Launch} {S0 : State} {A0 : Array Value} {D : va_G} {aC : Nat → ClassId} {ad : Nat → Nat} {G : AH} {σ : XS} (hS : yS l S0 A0 D aC) (hX : atX aC ad G σ) (from_ : Int32) (to : Int32) : yM l S0 D yX1_openGates cX1_openGates 3 none 10 0 0 [.ref (ad 2), .int from_, .int to] G (fun r G1 => r = none ∧ ∃ σ1 : XS, atX aC ad G1 σ1 ∧ keepX G G1 ∧ xfr [50, 51] σ σ1) (fun _ _ => False) := by
  refine yM.ofK K_X1_openGates rfl (by decide) (Nat.le_of_ble_eq_true rfl) ?_
  refine y_blk 2 tq_X1_openGates (z := (2, [(0, .ref (ad 2)), (1, .int from_), (2, .int to)], [.int from_, .ref (ad 2)])) rfl ?_
  refine y_put hS tq_X1_openGates rfl fp_X1_9_X1 (hX.1 2 _ rfl) (by omega) rfl rfl (Nat.le_of_ble_eq_true rfl) ?_
  have hXw2 : atX aC ad (yup G (ad 2) (2, .inr (5, [.int (σ.2.2.1 0), .int (σ.2.2.1 1), .long (σ.2.2.2.1 0), .long (σ.2.2.2.1 1), .long (σ.2.2.2.1 2), .long (σ.2.2.2.1 3), .long (σ.2.2.2.1 4), .int from_, .int (σ.2.2.1 3), .ref (ad 3)]))) (xin σ 2 from_) := hX.setIn 2 2 (fun q => absurd q (by decide)) (by omega) rfl rfl
  have hFw2 : keepX G (yup G (ad 2) (2, .inr (5, [.int (σ.2.2.1 0), .int (σ.2.2.1 1), .long (σ.2.2.2.1 0), .long (σ.2.2.2.1 1), .long (σ.2.2.2.1 2), .long (σ.2.2.2.1 3), .long (σ.2.2.2.1 4), .int from_, .int (σ.2.2.1 3), .ref (ad 3)]))) := (keepX.rfl' (G := G)).up (hX.1 2 _ rfl) (by omega) (by omega)
  show Y l S0 D K_X1_openGates 10 0 0 (fun r G1 => r = none ∧ ∃ σ1 : XS, atX aC ad G1 σ1 ∧ keepX G G1 ∧ xfr [50, 51] σ σ1) (fun _ _ => False) (2 + 3) [(0, .ref (ad 2)), (1, .int from_), (2, .int to)] [] (yup G (ad 2) (2, .inr (5, [.int (σ.2.2.1 0), .int (σ.2.2.1 1), .long (σ.2.2.2.1 0), .long (σ.2.2.2.1 1), .long (σ.2.2.2.1 2), .long (σ.2.2.2.1 3), .long (σ.2.2.2.1 4), .int from_, .int (σ.2.2.1 3), .ref (ad 3)]))) 0 0
  generalize yup G (ad 2) (2, .inr (5, [.int (σ.2.2.1 0), .int (σ.2.2.1 1), .long (σ.2.2.2.1 0), .long (σ.2.2.2.1 1), .long (σ.2.2.2.1 2), .long (σ.2.2.2.1 3), .long (σ.2.2.2.1 4), .int from_, .int (σ.2.2.1 3), .ref (ad 3)])) = Gw2 at hXw2 hFw2 ⊢
  refine y_blk 2 tq_X1_openGates (z := (7, [(0, .ref (ad 2)), (1, .int from_), (2, .int to)], [.int to, .ref (ad 2)])) rfl ?_
  refine y_put hS tq_X1_openGates rfl fp_X1_59_X1 (hXw2.1 2 _ rfl) (by omega) rfl rfl (Nat.le_of_ble_eq_true rfl) ?_
  have hXw7 : atX aC ad (yup Gw2 (ad 2) (2, .inr (5, [.int (((xin σ 2 from_)).2.2.1 0), .int (((xin σ 2 from_)).2.2.1 1), .long (((xin σ 2 from_)).2.2.2.1 0), .long (((xin σ 2 from_)).2.2.2.1 1), .long (((xin σ 2 from_)).2.2.2.1 2), .long (((xin σ 2 from_)).2.2.2.1 3), .long (((xin σ 2 from_)).2.2.2.1 4), .int (((xin σ 2 from_)).2.2.1 2), .int to, .ref (ad 3)]))) (xin (xin σ 2 from_) 3 to) := hXw2.setIn 3 2 (fun q => absurd q (by decide)) (by omega) rfl rfl
  have hFw7 : keepX G (yup Gw2 (ad 2) (2, .inr (5, [.int (((xin σ 2 from_)).2.2.1 0), .int (((xin σ 2 from_)).2.2.1 1), .long (((xin σ 2 from_)).2.2.2.1 0), .long (((xin σ 2 from_)).2.2.2.1 1), .long (((xin σ 2 from_)).2.2.2.1 2), .long (((xin σ 2 from_)).2.2.2.1 3), .long (((xin σ 2 from_)).2.2.2.1 4), .int (((xin σ 2 from_)).2.2.1 2), .int to, .ref (ad 3)]))) := hFw2.up (hXw2.1 2 _ rfl) (by omega) (by omega)
  show Y l S0 D K_X1_openGates 10 0 0 (fun r G1 => r = none ∧ ∃ σ1 : XS, atX aC ad G1 σ1 ∧ keepX G G1 ∧ xfr [50, 51] σ σ1) (fun _ _ => False) (7 + 3) [(0, .ref (ad 2)), (1, .int from_), (2, .int to)] [] (yup Gw2 (ad 2) (2, .inr (5, [.int (((xin σ 2 from_)).2.2.1 0), .int (((xin σ 2 from_)).2.2.1 1), .long (((xin σ 2 from_)).2.2.2.1 0), .long (((xin σ 2 from_)).2.2.2.1 1), .long (((xin σ 2 from_)).2.2.2.1 2), .long (((xin σ 2 from_)).2.2.2.1 3), .long (((xin σ 2 from_)).2.2.2.1 4), .int (((xin σ 2 from_)).2.2.1 2), .int to, .ref (ad 3)]))) 0 0
  generalize yup Gw2 (ad 2) (2, .inr (5, [.int (((xin σ 2 from_)).2.2.1 0), .int (((xin σ 2 from_)).2.2.1 1), .long (((xin σ 2 from_)).2.2.2.1 0), .long (((xin σ 2 from_)).2.2.2.1 1), .long (((xin σ 2 from_)).2.2.2.1 2), .long (((xin σ 2 from_)).2.2.2.1 3), .long (((xin σ 2 from_)).2.2.2.1 4), .int (((xin σ 2 from_)).2.2.1 2), .int to, .ref (ad 3)])) = Gw7 at hXw7 hFw7 ⊢
  refine y_blk 0 tq_X1_openGates (z := (10, [(0, .ref (ad 2)), (1, .int from_), (2, .int to)], [])) rfl ?_
  exact y_vret tq_X1_openGates rfl rfl (⟨rfl, _, hXw7, hFw7, ((xkn.trans (xkn.trans xkn.rfl' xkn_in) xkn_in)).w⟩)
set_option maxHeartbeats 4000000 in
set_option maxRecDepth 100000 in
theorem m_X1_setKind {l : Launch} {S0 : State} {A0 : Array Value} {D : va_G} {aC : Nat → ClassId} {ad : Nat → Nat} {G : AH} {σ : XS} (hS : yS l S0 A0 D aC) (hX : atX aC ad G σ) (cell : Int32) (kind : Int32) : yM l S0 D yX1_setKind cX1_setKind 5 none 11 0 0 [.ref (ad 2), .int cell, .int kind] G (fun r G1 => r = none ∧ ∃ σ1 : XS, atX aC ad G1 σ1 ∧ keepX G G1 ∧ xfr [56] σ σ1 ∧ xgr σ σ1) (fun _ _ => False) := by
  refine yM.ofK K_X1_setKind rfl (by decide) (Nat.le_of_ble_eq_true rfl) ?_
  have J86 : ∀ (v86_3 : Int64) (w86_0 : Int64) (G86 : AH) (s86 : XS) (hX86 : atX aC ad G86 s86) (hF86 : keepX G G86) (kn86 : xfr [56] σ s86) (gr86 : xgr σ s86), Y l S0 D K_X1_setKind 11 0 0 (fun r G1 => r = none ∧ ∃ σ1 : XS, atX aC ad G1 σ1 ∧ keepX G G1 ∧ xfr [56] σ σ1 ∧ xgr σ σ1) (fun _ _ => False) 86 [(0, .ref (ad 2)), (1, .int cell), (2, .int kind), (3, .long v86_3)] [.long w86_0, .ref (ad 2)] G86 0 0 := by
    intro v86_3 w86_0 G86 s86 hX86 hF86 kn86 gr86
    refine y_put hS tq_X1_setKind rfl fp_X1_35_X1 (hX86.1 2 _ rfl) (by omega) rfl rfl (Nat.le_of_ble_eq_true rfl) ?_
    have hXw86 : atX aC ad (yup G86 (ad 2) (2, .inr (5, [.int (s86.2.2.1 0), .int (s86.2.2.1 1), .long (s86.2.2.2.1 0), .long (s86.2.2.2.1 1), .long (s86.2.2.2.1 2), .long (s86.2.2.2.1 3), .long w86_0, .int (s86.2.2.1 2), .int (s86.2.2.1 3), .ref (ad 3)]))) (xlo s86 4 w86_0) := hX86.setLo 4 rfl rfl
    have hFw86 : keepX G (yup G86 (ad 2) (2, .inr (5, [.int (s86.2.2.1 0), .int (s86.2.2.1 1), .long (s86.2.2.2.1 0), .long (s86.2.2.2.1 1), .long (s86.2.2.2.1 2), .long (s86.2.2.2.1 3), .long w86_0, .int (s86.2.2.1 2), .int (s86.2.2.1 3), .ref (ad 3)]))) := hF86.up (hX86.1 2 _ rfl) (by omega) (by omega)
    show Y l S0 D K_X1_setKind 11 0 0 (fun r G1 => r = none ∧ ∃ σ1 : XS, atX aC ad G1 σ1 ∧ keepX G G1 ∧ xfr [56] σ σ1 ∧ xgr σ σ1) (fun _ _ => False) (86 + 3) [(0, .ref (ad 2)), (1, .int cell), (2, .int kind), (3, .long v86_3)] [] (yup G86 (ad 2) (2, .inr (5, [.int (s86.2.2.1 0), .int (s86.2.2.1 1), .long (s86.2.2.2.1 0), .long (s86.2.2.2.1 1), .long (s86.2.2.2.1 2), .long (s86.2.2.2.1 3), .long w86_0, .int (s86.2.2.1 2), .int (s86.2.2.1 3), .ref (ad 3)]))) 0 0
    generalize yup G86 (ad 2) (2, .inr (5, [.int (s86.2.2.1 0), .int (s86.2.2.1 1), .long (s86.2.2.2.1 0), .long (s86.2.2.2.1 1), .long (s86.2.2.2.1 2), .long (s86.2.2.2.1 3), .long w86_0, .int (s86.2.2.1 2), .int (s86.2.2.1 3), .ref (ad 3)])) = Gw86 at hXw86 hFw86 ⊢
    refine y_blk 0 tq_X1_setKind (z := (89, [(0, .ref (ad 2)), (1, .int cell), (2, .int kind), (3, .long v86_3)], [])) rfl ?_
    exact y_vret tq_X1_setKind rfl rfl (⟨rfl, _, hXw86, hFw86, ((xkn.trans kn86 xgr_lo.kn)).w, (xgr.trans gr86 xgr_lo)⟩)
  have J58 : ∀ (v58_3 : Int64) (w58_0 : Int64) (G58 : AH) (s58 : XS) (hX58 : atX aC ad G58 s58) (hF58 : keepX G G58) (kn58 : xfr [56] σ s58) (gr58 : xgr σ s58), Y l S0 D K_X1_setKind 11 0 0 (fun r G1 => r = none ∧ ∃ σ1 : XS, atX aC ad G1 σ1 ∧ keepX G G1 ∧ xfr [56] σ σ1 ∧ xgr σ σ1) (fun _ _ => False) 58 [(0, .ref (ad 2)), (1, .int cell), (2, .int kind), (3, .long v58_3)] [.long w58_0, .ref (ad 2)] G58 0 0 := by
    intro v58_3 w58_0 G58 s58 hX58 hF58 kn58 gr58
    refine y_put hS tq_X1_setKind rfl fp_X1_32_X1 (hX58.1 2 _ rfl) (by omega) rfl rfl (Nat.le_of_ble_eq_true rfl) ?_
    have hXw58 : atX aC ad (yup G58 (ad 2) (2, .inr (5, [.int (s58.2.2.1 0), .int (s58.2.2.1 1), .long (s58.2.2.2.1 0), .long (s58.2.2.2.1 1), .long (s58.2.2.2.1 2), .long w58_0, .long (s58.2.2.2.1 4), .int (s58.2.2.1 2), .int (s58.2.2.1 3), .ref (ad 3)]))) (xlo s58 3 w58_0) := hX58.setLo 3 rfl rfl
    have hFw58 : keepX G (yup G58 (ad 2) (2, .inr (5, [.int (s58.2.2.1 0), .int (s58.2.2.1 1), .long (s58.2.2.2.1 0), .long (s58.2.2.2.1 1), .long (s58.2.2.2.1 2), .long w58_0, .long (s58.2.2.2.1 4), .int (s58.2.2.1 2), .int (s58.2.2.1 3), .ref (ad 3)]))) := hF58.up (hX58.1 2 _ rfl) (by omega) (by omega)
    show Y l S0 D K_X1_setKind 11 0 0 (fun r G1 => r = none ∧ ∃ σ1 : XS, atX aC ad G1 σ1 ∧ keepX G G1 ∧ xfr [56] σ σ1 ∧ xgr σ σ1) (fun _ _ => False) (58 + 3) [(0, .ref (ad 2)), (1, .int cell), (2, .int kind), (3, .long v58_3)] [] (yup G58 (ad 2) (2, .inr (5, [.int (s58.2.2.1 0), .int (s58.2.2.1 1), .long (s58.2.2.2.1 0), .long (s58.2.2.2.1 1), .long (s58.2.2.2.1 2), .long w58_0, .long (s58.2.2.2.1 4), .int (s58.2.2.1 2), .int (s58.2.2.1 3), .ref (ad 3)]))) 0 0
    generalize yup G58 (ad 2) (2, .inr (5, [.int (s58.2.2.1 0), .int (s58.2.2.1 1), .long (s58.2.2.2.1 0), .long (s58.2.2.2.1 1), .long (s58.2.2.2.1 2), .long w58_0, .long (s58.2.2.2.1 4), .int (s58.2.2.1 2), .int (s58.2.2.1 3), .ref (ad 3)])) = Gw58 at hXw58 hFw58 ⊢
    refine y_blk 3 tq_X1_setKind (z := (64, [(0, .ref (ad 2)), (1, .int cell), (2, .int kind), (3, .long v58_3)], [.int 3, .int kind, .ref (ad 2)])) rfl ?_
    refine y_icmp_ne tq_X1_setKind 76 rfl rfl (fun c64 => ?_) (fun c64 => ?_)
    · skip
      refine y_blk 1 tq_X1_setKind (z := (77, [(0, .ref (ad 2)), (1, .int cell), (2, .int kind), (3, .long v58_3)], [.ref (ad 2), .ref (ad 2)])) rfl ?_
      refine y_get hS tq_X1_setKind (v := .long (((xlo s58 3 w58_0)).2.2.2.1 4)) rfl fg_X1_35_X1 (hXw58.1 2 _ rfl) rfl ?_
      refine y_blk 1 tq_X1_setKind (z := (81, [(0, .ref (ad 2)), (1, .int cell), (2, .int kind), (3, .long v58_3)], [.long v58_3, .long (((xlo s58 3 w58_0)).2.2.2.1 4), .ref (ad 2)])) rfl ?_
      refine y_ldc2 hS tq_X1_setKind rfl ld_X1_66 ?_
      refine y_blk 2 tq_X1_setKind (z := (86, [(0, .ref (ad 2)), (1, .int cell), (2, .int kind), (3, .long v58_3)], [.long ((((xlo s58 3 w58_0)).2.2.2.1 4) &&& (v58_3 ^^^ (-1))), .ref (ad 2)])) rfl ?_
      exact J86 v58_3 ((((xlo s58 3 w58_0)).2.2.2.1 4) &&& (v58_3 ^^^ (-1))) Gw58 (xlo s58 3 w58_0) hXw58 hFw58 (((xkn.trans kn58 xgr_lo.kn)).w) (xgr.trans gr58 xgr_lo)
    · skip
      refine y_blk 1 tq_X1_setKind (z := (68, [(0, .ref (ad 2)), (1, .int cell), (2, .int kind), (3, .long v58_3)], [.ref (ad 2), .ref (ad 2)])) rfl ?_
      refine y_get hS tq_X1_setKind (v := .long (((xlo s58 3 w58_0)).2.2.2.1 4)) rfl fg_X1_35_X1 (hXw58.1 2 _ rfl) rfl ?_
      refine y_blk 3 tq_X1_setKind (z := (86, [(0, .ref (ad 2)), (1, .int cell), (2, .int kind), (3, .long v58_3)], [.long ((((xlo s58 3 w58_0)).2.2.2.1 4) ||| v58_3), .ref (ad 2)])) rfl ?_
      exact J86 v58_3 ((((xlo s58 3 w58_0)).2.2.2.1 4) ||| v58_3) Gw58 (xlo s58 3 w58_0) hXw58 hFw58 (((xkn.trans kn58 xgr_lo.kn)).w) (xgr.trans gr58 xgr_lo)
  have J30 : ∀ (v30_3 : Int64) (w30_0 : Int64) (G30 : AH) (s30 : XS) (hX30 : atX aC ad G30 s30) (hF30 : keepX G G30) (kn30 : xfr [56] σ s30) (gr30 : xgr σ s30), Y l S0 D K_X1_setKind 11 0 0 (fun r G1 => r = none ∧ ∃ σ1 : XS, atX aC ad G1 σ1 ∧ keepX G G1 ∧ xfr [56] σ σ1 ∧ xgr σ σ1) (fun _ _ => False) 30 [(0, .ref (ad 2)), (1, .int cell), (2, .int kind), (3, .long v30_3)] [.long w30_0, .ref (ad 2)] G30 0 0 := by
    intro v30_3 w30_0 G30 s30 hX30 hF30 kn30 gr30
    refine y_put hS tq_X1_setKind rfl fp_X1_28_X1 (hX30.1 2 _ rfl) (by omega) rfl rfl (Nat.le_of_ble_eq_true rfl) ?_
    have hXw30 : atX aC ad (yup G30 (ad 2) (2, .inr (5, [.int (s30.2.2.1 0), .int (s30.2.2.1 1), .long (s30.2.2.2.1 0), .long (s30.2.2.2.1 1), .long w30_0, .long (s30.2.2.2.1 3), .long (s30.2.2.2.1 4), .int (s30.2.2.1 2), .int (s30.2.2.1 3), .ref (ad 3)]))) (xlo s30 2 w30_0) := hX30.setLo 2 rfl rfl
    have hFw30 : keepX G (yup G30 (ad 2) (2, .inr (5, [.int (s30.2.2.1 0), .int (s30.2.2.1 1), .long (s30.2.2.2.1 0), .long (s30.2.2.2.1 1), .long w30_0, .long (s30.2.2.2.1 3), .long (s30.2.2.2.1 4), .int (s30.2.2.1 2), .int (s30.2.2.1 3), .ref (ad 3)]))) := hF30.up (hX30.1 2 _ rfl) (by omega) (by omega)
    show Y l S0 D K_X1_setKind 11 0 0 (fun r G1 => r = none ∧ ∃ σ1 : XS, atX aC ad G1 σ1 ∧ keepX G G1 ∧ xfr [56] σ σ1 ∧ xgr σ σ1) (fun _ _ => False) (30 + 3) [(0, .ref (ad 2)), (1, .int cell), (2, .int kind), (3, .long v30_3)] [] (yup G30 (ad 2) (2, .inr (5, [.int (s30.2.2.1 0), .int (s30.2.2.1 1), .long (s30.2.2.2.1 0), .long (s30.2.2.2.1 1), .long w30_0, .long (s30.2.2.2.1 3), .long (s30.2.2.2.1 4), .int (s30.2.2.1 2), .int (s30.2.2.1 3), .ref (ad 3)]))) 0 0
    generalize yup G30 (ad 2) (2, .inr (5, [.int (s30.2.2.1 0), .int (s30.2.2.1 1), .long (s30.2.2.2.1 0), .long (s30.2.2.2.1 1), .long w30_0, .long (s30.2.2.2.1 3), .long (s30.2.2.2.1 4), .int (s30.2.2.1 2), .int (s30.2.2.1 3), .ref (ad 3)])) = Gw30 at hXw30 hFw30 ⊢
    refine y_blk 3 tq_X1_setKind (z := (36, [(0, .ref (ad 2)), (1, .int cell), (2, .int kind), (3, .long v30_3)], [.int 2, .int kind, .ref (ad 2)])) rfl ?_
    refine y_icmp_ne tq_X1_setKind 48 rfl rfl (fun c36 => ?_) (fun c36 => ?_)
    · skip
      refine y_blk 1 tq_X1_setKind (z := (49, [(0, .ref (ad 2)), (1, .int cell), (2, .int kind), (3, .long v30_3)], [.ref (ad 2), .ref (ad 2)])) rfl ?_
      refine y_get hS tq_X1_setKind (v := .long (((xlo s30 2 w30_0)).2.2.2.1 3)) rfl fg_X1_32_X1 (hXw30.1 2 _ rfl) rfl ?_
      refine y_blk 1 tq_X1_setKind (z := (53, [(0, .ref (ad 2)), (1, .int cell), (2, .int kind), (3, .long v30_3)], [.long v30_3, .long (((xlo s30 2 w30_0)).2.2.2.1 3), .ref (ad 2)])) rfl ?_
      refine y_ldc2 hS tq_X1_setKind rfl ld_X1_66 ?_
      refine y_blk 2 tq_X1_setKind (z := (58, [(0, .ref (ad 2)), (1, .int cell), (2, .int kind), (3, .long v30_3)], [.long ((((xlo s30 2 w30_0)).2.2.2.1 3) &&& (v30_3 ^^^ (-1))), .ref (ad 2)])) rfl ?_
      exact J58 v30_3 ((((xlo s30 2 w30_0)).2.2.2.1 3) &&& (v30_3 ^^^ (-1))) Gw30 (xlo s30 2 w30_0) hXw30 hFw30 (((xkn.trans kn30 xgr_lo.kn)).w) (xgr.trans gr30 xgr_lo)
    · skip
      refine y_blk 1 tq_X1_setKind (z := (40, [(0, .ref (ad 2)), (1, .int cell), (2, .int kind), (3, .long v30_3)], [.ref (ad 2), .ref (ad 2)])) rfl ?_
      refine y_get hS tq_X1_setKind (v := .long (((xlo s30 2 w30_0)).2.2.2.1 3)) rfl fg_X1_32_X1 (hXw30.1 2 _ rfl) rfl ?_
      refine y_blk 3 tq_X1_setKind (z := (58, [(0, .ref (ad 2)), (1, .int cell), (2, .int kind), (3, .long v30_3)], [.long ((((xlo s30 2 w30_0)).2.2.2.1 3) ||| v30_3), .ref (ad 2)])) rfl ?_
      exact J58 v30_3 ((((xlo s30 2 w30_0)).2.2.2.1 3) ||| v30_3) Gw30 (xlo s30 2 w30_0) hXw30 hFw30 (((xkn.trans kn30 xgr_lo.kn)).w) (xgr.trans gr30 xgr_lo)
  refine y_blk 1 tq_X1_setKind (z := (1, [(0, .ref (ad 2)), (1, .int cell), (2, .int kind)], [.int cell])) rfl ?_
  refine y_callSN hS tq_X1_setKind rfl (As := [.int cell]) rfl cs_X1_62 (m_X8_setOf hS  cell) rfl (by decide) (Nat.le_of_ble_eq_true rfl) (fun r1 Gc1 q1 => ?_) (fun E9 G9 h9 => h9.elim)
  obtain ⟨⟨x1, rfl⟩, eG1⟩ := q1
  have eG1 := eG1.symm
  subst eG1
  refine y_blk 4 tq_X1_setKind (z := (8, [(3, .long x1), (0, .ref (ad 2)), (1, .int cell), (2, .int kind)], [.int 1, .int kind, .ref (ad 2)])) rfl ?_
  refine y_icmp_ne tq_X1_setKind 20 rfl rfl (fun c8 => ?_) (fun c8 => ?_)
  · skip
    refine y_blk 1 tq_X1_setKind (z := (21, [(3, .long x1), (0, .ref (ad 2)), (1, .int cell), (2, .int kind)], [.ref (ad 2), .ref (ad 2)])) rfl ?_
    refine y_get hS tq_X1_setKind (v := .long (σ.2.2.2.1 2)) rfl fg_X1_28_X1 (hX.1 2 _ rfl) rfl ?_
    refine y_blk 1 tq_X1_setKind (z := (25, [(3, .long x1), (0, .ref (ad 2)), (1, .int cell), (2, .int kind)], [.long x1, .long (σ.2.2.2.1 2), .ref (ad 2)])) rfl ?_
    refine y_ldc2 hS tq_X1_setKind rfl ld_X1_66 ?_
    refine y_blk 2 tq_X1_setKind (z := (30, [(3, .long x1), (0, .ref (ad 2)), (1, .int cell), (2, .int kind)], [.long ((σ.2.2.2.1 2) &&& (x1 ^^^ (-1))), .ref (ad 2)])) rfl ?_
    refine y_pick (L2 := [(0, .ref (ad 2)), (1, .int cell), (2, .int kind), (3, .long x1)]) [1, 2, 3, 0] rfl ?_
    exact J30 x1 ((σ.2.2.2.1 2) &&& (x1 ^^^ (-1))) G σ hX keepX.rfl' ((xkn.rfl').w) xgr.rfl'
  · skip
    refine y_blk 1 tq_X1_setKind (z := (12, [(3, .long x1), (0, .ref (ad 2)), (1, .int cell), (2, .int kind)], [.ref (ad 2), .ref (ad 2)])) rfl ?_
    refine y_get hS tq_X1_setKind (v := .long (σ.2.2.2.1 2)) rfl fg_X1_28_X1 (hX.1 2 _ rfl) rfl ?_
    refine y_blk 3 tq_X1_setKind (z := (30, [(3, .long x1), (0, .ref (ad 2)), (1, .int cell), (2, .int kind)], [.long ((σ.2.2.2.1 2) ||| x1), .ref (ad 2)])) rfl ?_
    refine y_pick (L2 := [(0, .ref (ad 2)), (1, .int cell), (2, .int kind), (3, .long x1)]) [1, 2, 3, 0] rfl ?_
    exact J30 x1 ((σ.2.2.2.1 2) ||| x1) G σ hX keepX.rfl' ((xkn.rfl').w) xgr.rfl'
set_option maxHeartbeats 4000000 in
set_option maxRecDepth 100000 in
theorem m_X1_drawColumns {l : Launch} {S0 : State} {A0 : Array Value} {D : va_G} {aC : Nat → ClassId} {ad : Nat → Nat} {G : AH} {σ : XS} (hS : yS l S0 A0 D aC) (hX : atX aC ad G σ) : yM l S0 D yX1_drawColumns cX1_drawColumns 2 none 12 0 0 [.ref (ad 2)] G (fun r G1 => r = none ∧ ∃ σ1 : XS, atX aC ad G1 σ1 ∧ keepX G G1 ∧ xfr [56] σ σ1 ∧ xgr σ σ1) (fun _ _ => False) := by
  refine yM.ofK K_X1_drawColumns rfl (by decide) (Nat.le_of_ble_eq_true rfl) ?_
  have J12 : ∀ (n12 : Nat) (v12_1 : Int32) (G12 : AH) (s12 : XS) (hX12 : atX aC ad G12 s12) (hF12 : keepX G G12) (kn12 : xfr [56] σ s12) (gr12 : xgr σ s12), ((s12.2.2.1 1 : Int32).toInt - v12_1.toInt).toNat = n12 → Y l S0 D K_X1_drawColumns 12 0 0 (fun r G1 => r = none ∧ ∃ σ1 : XS, atX aC ad G1 σ1 ∧ keepX G G1 ∧ xfr [56] σ σ1 ∧ xgr σ σ1) (fun _ _ => False) 12 [(0, .ref (ad 2)), (1, .int v12_1)] [] G12 0 0 := by
    intro n12
    induction n12 using Nat.strongRecOn with
    | _ n12 ih12 =>
    intro v12_1 G12 s12 hX12 hF12 kn12 gr12 hn12
    subst hn12
    refine y_blk 2 tq_X1_drawColumns (z := (14, [(0, .ref (ad 2)), (1, .int v12_1)], [.ref (ad 2), .int v12_1])) rfl ?_
    refine y_get hS tq_X1_drawColumns (v := .int (s12.2.2.1 1)) rfl fg_X1_22_X1 (hX12.1 2 _ rfl) rfl ?_
    refine y_blk 0 tq_X1_drawColumns (z := (17, [(0, .ref (ad 2)), (1, .int v12_1)], [.int (s12.2.2.1 1), .int v12_1])) rfl ?_
    refine y_icmp_ge tq_X1_drawColumns 67 rfl rfl (fun c17 => ?_) (fun c17 => ?_)
    · skip
      refine y_blk 0 tq_X1_drawColumns (z := (67, [(0, .ref (ad 2)), (1, .int v12_1)], [])) rfl ?_
      exact y_vret tq_X1_drawColumns rfl rfl (⟨rfl, _, hX12, hF12, (kn12).w, gr12⟩)
    · skip
      refine y_blk 2 tq_X1_drawColumns (z := (22, [(0, .ref (ad 2)), (1, .int v12_1)], [.ref (ad 2), .ref (ad 2)])) rfl ?_
      refine y_get hS tq_X1_drawColumns (v := .long (s12.2.2.2.1 0)) rfl fg_X1_102_X1 (hX12.1 2 _ rfl) rfl ?_
      refine y_blk 3 tq_X1_drawColumns (z := (28, [(0, .ref (ad 2)), (1, .int v12_1)], [.int 0, .int v12_1, .ref (ad 2), .long (s12.2.2.2.1 0), .ref (ad 2)])) rfl ?_
      refine y_callV hS tq_X1_drawColumns rfl (As := [.int v12_1, .int 0]) rfl cv_X1_95 (hX12.1 2 _ rfl) (m_X1_cellOf hS hX12 v12_1 0) rfl (by decide) (Nat.le_of_ble_eq_true rfl) (fun r28 Gc28 q28 => ?_) (fun E9 G9 h9 => h9.elim)
      obtain ⟨⟨x28, rfl⟩, eG28⟩ := q28
      have eG28 := eG28.symm
      subst eG28
      refine y_blk 0 tq_X1_drawColumns (z := (31, [(0, .ref (ad 2)), (1, .int v12_1)], [.int x28, .long (s12.2.2.2.1 0), .ref (ad 2)])) rfl ?_
      refine y_callSN hS tq_X1_drawColumns rfl (As := [.int x28]) rfl cs_X1_62 (m_X8_setOf hS  x28) rfl (by decide) (Nat.le_of_ble_eq_true rfl) (fun r31 Gc31 q31 => ?_) (fun E9 G9 h9 => h9.elim)
      obtain ⟨⟨x31, rfl⟩, eG31⟩ := q31
      have eG31 := eG31.symm
      subst eG31
      refine y_blk 1 tq_X1_drawColumns (z := (35, [(0, .ref (ad 2)), (1, .int v12_1)], [.long ((s12.2.2.2.1 0) ||| x31), .ref (ad 2)])) rfl ?_
      refine y_put hS tq_X1_drawColumns rfl fp_X1_102_X1 (hX12.1 2 _ rfl) (by omega) rfl rfl (Nat.le_of_ble_eq_true rfl) ?_
      have hXw35 : atX aC ad (yup G12 (ad 2) (2, .inr (5, [.int (s12.2.2.1 0), .int (s12.2.2.1 1), .long ((s12.2.2.2.1 0) ||| x31), .long (s12.2.2.2.1 1), .long (s12.2.2.2.1 2), .long (s12.2.2.2.1 3), .long (s12.2.2.2.1 4), .int (s12.2.2.1 2), .int (s12.2.2.1 3), .ref (ad 3)]))) (xlo s12 0 ((s12.2.2.2.1 0) ||| x31)) := hX12.setLo 0 rfl rfl
      have hFw35 : keepX G (yup G12 (ad 2) (2, .inr (5, [.int (s12.2.2.1 0), .int (s12.2.2.1 1), .long ((s12.2.2.2.1 0) ||| x31), .long (s12.2.2.2.1 1), .long (s12.2.2.2.1 2), .long (s12.2.2.2.1 3), .long (s12.2.2.2.1 4), .int (s12.2.2.1 2), .int (s12.2.2.1 3), .ref (ad 3)]))) := hF12.up (hX12.1 2 _ rfl) (by omega) (by omega)
      show Y l S0 D K_X1_drawColumns 12 0 0 (fun r G1 => r = none ∧ ∃ σ1 : XS, atX aC ad G1 σ1 ∧ keepX G G1 ∧ xfr [56] σ σ1 ∧ xgr σ σ1) (fun _ _ => False) (35 + 3) [(0, .ref (ad 2)), (1, .int v12_1)] [] (yup G12 (ad 2) (2, .inr (5, [.int (s12.2.2.1 0), .int (s12.2.2.1 1), .long ((s12.2.2.2.1 0) ||| x31), .long (s12.2.2.2.1 1), .long (s12.2.2.2.1 2), .long (s12.2.2.2.1 3), .long (s12.2.2.2.1 4), .int (s12.2.2.1 2), .int (s12.2.2.1 3), .ref (ad 3)]))) 0 0
      generalize yup G12 (ad 2) (2, .inr (5, [.int (s12.2.2.1 0), .int (s12.2.2.1 1), .long ((s12.2.2.2.1 0) ||| x31), .long (s12.2.2.2.1 1), .long (s12.2.2.2.1 2), .long (s12.2.2.2.1 3), .long (s12.2.2.2.1 4), .int (s12.2.2.1 2), .int (s12.2.2.1 3), .ref (ad 3)])) = Gw35 at hXw35 hFw35 ⊢
      refine y_blk 2 tq_X1_drawColumns (z := (40, [(0, .ref (ad 2)), (1, .int v12_1)], [.ref (ad 2), .ref (ad 2)])) rfl ?_
      refine y_get hS tq_X1_drawColumns (v := .long (((xlo s12 0 ((s12.2.2.2.1 0) ||| x31))).2.2.2.1 1)) rfl fg_X1_99_X1 (hXw35.1 2 _ rfl) rfl ?_
      refine y_blk 3 tq_X1_drawColumns (z := (46, [(0, .ref (ad 2)), (1, .int v12_1)], [.ref (ad 2), .int v12_1, .ref (ad 2), .long (((xlo s12 0 ((s12.2.2.2.1 0) ||| x31))).2.2.2.1 1), .ref (ad 2)])) rfl ?_
      refine y_get hS tq_X1_drawColumns (v := .int (((xlo s12 0 ((s12.2.2.2.1 0) ||| x31))).2.2.1 0)) rfl fg_X1_19_X1 (hXw35.1 2 _ rfl) rfl ?_
      refine y_blk 2 tq_X1_drawColumns (z := (51, [(0, .ref (ad 2)), (1, .int v12_1)], [.int ((((xlo s12 0 ((s12.2.2.2.1 0) ||| x31))).2.2.1 0) - 1), .int v12_1, .ref (ad 2), .long (((xlo s12 0 ((s12.2.2.2.1 0) ||| x31))).2.2.2.1 1), .ref (ad 2)])) rfl ?_
      refine y_callV hS tq_X1_drawColumns rfl (As := [.int v12_1, .int ((((xlo s12 0 ((s12.2.2.2.1 0) ||| x31))).2.2.1 0) - 1)]) rfl cv_X1_95 (hXw35.1 2 _ rfl) (m_X1_cellOf hS hXw35 v12_1 ((((xlo s12 0 ((s12.2.2.2.1 0) ||| x31))).2.2.1 0) - 1)) rfl (by decide) (Nat.le_of_ble_eq_true rfl) (fun r51 Gc51 q51 => ?_) (fun E9 G9 h9 => h9.elim)
      obtain ⟨⟨x51, rfl⟩, eG51⟩ := q51
      have eG51 := eG51.symm
      subst eG51
      refine y_blk 0 tq_X1_drawColumns (z := (54, [(0, .ref (ad 2)), (1, .int v12_1)], [.int x51, .long (((xlo s12 0 ((s12.2.2.2.1 0) ||| x31))).2.2.2.1 1), .ref (ad 2)])) rfl ?_
      refine y_callSN hS tq_X1_drawColumns rfl (As := [.int x51]) rfl cs_X1_62 (m_X8_setOf hS  x51) rfl (by decide) (Nat.le_of_ble_eq_true rfl) (fun r54 Gc54 q54 => ?_) (fun E9 G9 h9 => h9.elim)
      obtain ⟨⟨x54, rfl⟩, eG54⟩ := q54
      have eG54 := eG54.symm
      subst eG54
      refine y_blk 1 tq_X1_drawColumns (z := (58, [(0, .ref (ad 2)), (1, .int v12_1)], [.long ((((xlo s12 0 ((s12.2.2.2.1 0) ||| x31))).2.2.2.1 1) ||| x54), .ref (ad 2)])) rfl ?_
      refine y_put hS tq_X1_drawColumns rfl fp_X1_99_X1 (hXw35.1 2 _ rfl) (by omega) rfl rfl (Nat.le_of_ble_eq_true rfl) ?_
      have hXw58 : atX aC ad (yup Gw35 (ad 2) (2, .inr (5, [.int (((xlo s12 0 ((s12.2.2.2.1 0) ||| x31))).2.2.1 0), .int (((xlo s12 0 ((s12.2.2.2.1 0) ||| x31))).2.2.1 1), .long (((xlo s12 0 ((s12.2.2.2.1 0) ||| x31))).2.2.2.1 0), .long ((((xlo s12 0 ((s12.2.2.2.1 0) ||| x31))).2.2.2.1 1) ||| x54), .long (((xlo s12 0 ((s12.2.2.2.1 0) ||| x31))).2.2.2.1 2), .long (((xlo s12 0 ((s12.2.2.2.1 0) ||| x31))).2.2.2.1 3), .long (((xlo s12 0 ((s12.2.2.2.1 0) ||| x31))).2.2.2.1 4), .int (((xlo s12 0 ((s12.2.2.2.1 0) ||| x31))).2.2.1 2), .int (((xlo s12 0 ((s12.2.2.2.1 0) ||| x31))).2.2.1 3), .ref (ad 3)]))) (xlo (xlo s12 0 ((s12.2.2.2.1 0) ||| x31)) 1 ((((xlo s12 0 ((s12.2.2.2.1 0) ||| x31))).2.2.2.1 1) ||| x54)) := hXw35.setLo 1 rfl rfl
      have hFw58 : keepX G (yup Gw35 (ad 2) (2, .inr (5, [.int (((xlo s12 0 ((s12.2.2.2.1 0) ||| x31))).2.2.1 0), .int (((xlo s12 0 ((s12.2.2.2.1 0) ||| x31))).2.2.1 1), .long (((xlo s12 0 ((s12.2.2.2.1 0) ||| x31))).2.2.2.1 0), .long ((((xlo s12 0 ((s12.2.2.2.1 0) ||| x31))).2.2.2.1 1) ||| x54), .long (((xlo s12 0 ((s12.2.2.2.1 0) ||| x31))).2.2.2.1 2), .long (((xlo s12 0 ((s12.2.2.2.1 0) ||| x31))).2.2.2.1 3), .long (((xlo s12 0 ((s12.2.2.2.1 0) ||| x31))).2.2.2.1 4), .int (((xlo s12 0 ((s12.2.2.2.1 0) ||| x31))).2.2.1 2), .int (((xlo s12 0 ((s12.2.2.2.1 0) ||| x31))).2.2.1 3), .ref (ad 3)]))) := hFw35.up (hXw35.1 2 _ rfl) (by omega) (by omega)
      show Y l S0 D K_X1_drawColumns 12 0 0 (fun r G1 => r = none ∧ ∃ σ1 : XS, atX aC ad G1 σ1 ∧ keepX G G1 ∧ xfr [56] σ σ1 ∧ xgr σ σ1) (fun _ _ => False) (58 + 3) [(0, .ref (ad 2)), (1, .int v12_1)] [] (yup Gw35 (ad 2) (2, .inr (5, [.int (((xlo s12 0 ((s12.2.2.2.1 0) ||| x31))).2.2.1 0), .int (((xlo s12 0 ((s12.2.2.2.1 0) ||| x31))).2.2.1 1), .long (((xlo s12 0 ((s12.2.2.2.1 0) ||| x31))).2.2.2.1 0), .long ((((xlo s12 0 ((s12.2.2.2.1 0) ||| x31))).2.2.2.1 1) ||| x54), .long (((xlo s12 0 ((s12.2.2.2.1 0) ||| x31))).2.2.2.1 2), .long (((xlo s12 0 ((s12.2.2.2.1 0) ||| x31))).2.2.2.1 3), .long (((xlo s12 0 ((s12.2.2.2.1 0) ||| x31))).2.2.2.1 4), .int (((xlo s12 0 ((s12.2.2.2.1 0) ||| x31))).2.2.1 2), .int (((xlo s12 0 ((s12.2.2.2.1 0) ||| x31))).2.2.1 3), .ref (ad 3)]))) 0 0
      generalize yup Gw35 (ad 2) (2, .inr (5, [.int (((xlo s12 0 ((s12.2.2.2.1 0) ||| x31))).2.2.1 0), .int (((xlo s12 0 ((s12.2.2.2.1 0) ||| x31))).2.2.1 1), .long (((xlo s12 0 ((s12.2.2.2.1 0) ||| x31))).2.2.2.1 0), .long ((((xlo s12 0 ((s12.2.2.2.1 0) ||| x31))).2.2.2.1 1) ||| x54), .long (((xlo s12 0 ((s12.2.2.2.1 0) ||| x31))).2.2.2.1 2), .long (((xlo s12 0 ((s12.2.2.2.1 0) ||| x31))).2.2.2.1 3), .long (((xlo s12 0 ((s12.2.2.2.1 0) ||| x31))).2.2.2.1 4), .int (((xlo s12 0 ((s12.2.2.2.1 0) ||| x31))).2.2.1 2), .int (((xlo s12 0 ((s12.2.2.2.1 0) ||| x31))).2.2.1 3), .ref (ad 3)])) = Gw58 at hXw58 hFw58 ⊢
      refine y_blk 2 tq_X1_drawColumns (z := (12, [(1, .int (v12_1 + 1)), (0, .ref (ad 2))], [])) rfl ?_
      refine y_pick (L2 := [(0, .ref (ad 2)), (1, .int (v12_1 + 1))]) [1, 0] rfl ?_
      exact ih12 _ (by exact ydec c17) (v12_1 + 1) Gw58 (xlo (xlo s12 0 ((s12.2.2.2.1 0) ||| x31)) 1 ((((xlo s12 0 ((s12.2.2.2.1 0) ||| x31))).2.2.2.1 1) ||| x54)) hXw58 hFw58 (((xkn.trans (xkn.trans kn12 xgr_lo.kn) xgr_lo.kn)).w) (xgr.trans (xgr.trans gr12 xgr_lo) xgr_lo) rfl
  refine y_blk 2 tq_X1_drawColumns (z := (2, [(0, .ref (ad 2))], [.long 0, .ref (ad 2)])) rfl ?_
  refine y_put hS tq_X1_drawColumns rfl fp_X1_102_X1 (hX.1 2 _ rfl) (by omega) rfl rfl (Nat.le_of_ble_eq_true rfl) ?_
  have hXw2 : atX aC ad (yup G (ad 2) (2, .inr (5, [.int (σ.2.2.1 0), .int (σ.2.2.1 1), .long 0, .long (σ.2.2.2.1 1), .long (σ.2.2.2.1 2), .long (σ.2.2.2.1 3), .long (σ.2.2.2.1 4), .int (σ.2.2.1 2), .int (σ.2.2.1 3), .ref (ad 3)]))) (xlo σ 0 0) := hX.setLo 0 rfl rfl
  have hFw2 : keepX G (yup G (ad 2) (2, .inr (5, [.int (σ.2.2.1 0), .int (σ.2.2.1 1), .long 0, .long (σ.2.2.2.1 1), .long (σ.2.2.2.1 2), .long (σ.2.2.2.1 3), .long (σ.2.2.2.1 4), .int (σ.2.2.1 2), .int (σ.2.2.1 3), .ref (ad 3)]))) := (keepX.rfl' (G := G)).up (hX.1 2 _ rfl) (by omega) (by omega)
  show Y l S0 D K_X1_drawColumns 12 0 0 (fun r G1 => r = none ∧ ∃ σ1 : XS, atX aC ad G1 σ1 ∧ keepX G G1 ∧ xfr [56] σ σ1 ∧ xgr σ σ1) (fun _ _ => False) (2 + 3) [(0, .ref (ad 2))] [] (yup G (ad 2) (2, .inr (5, [.int (σ.2.2.1 0), .int (σ.2.2.1 1), .long 0, .long (σ.2.2.2.1 1), .long (σ.2.2.2.1 2), .long (σ.2.2.2.1 3), .long (σ.2.2.2.1 4), .int (σ.2.2.1 2), .int (σ.2.2.1 3), .ref (ad 3)]))) 0 0
  generalize yup G (ad 2) (2, .inr (5, [.int (σ.2.2.1 0), .int (σ.2.2.1 1), .long 0, .long (σ.2.2.2.1 1), .long (σ.2.2.2.1 2), .long (σ.2.2.2.1 3), .long (σ.2.2.2.1 4), .int (σ.2.2.1 2), .int (σ.2.2.1 3), .ref (ad 3)])) = Gw2 at hXw2 hFw2 ⊢
  refine y_blk 2 tq_X1_drawColumns (z := (7, [(0, .ref (ad 2))], [.long 0, .ref (ad 2)])) rfl ?_
  refine y_put hS tq_X1_drawColumns rfl fp_X1_99_X1 (hXw2.1 2 _ rfl) (by omega) rfl rfl (Nat.le_of_ble_eq_true rfl) ?_
  have hXw7 : atX aC ad (yup Gw2 (ad 2) (2, .inr (5, [.int (((xlo σ 0 0)).2.2.1 0), .int (((xlo σ 0 0)).2.2.1 1), .long (((xlo σ 0 0)).2.2.2.1 0), .long 0, .long (((xlo σ 0 0)).2.2.2.1 2), .long (((xlo σ 0 0)).2.2.2.1 3), .long (((xlo σ 0 0)).2.2.2.1 4), .int (((xlo σ 0 0)).2.2.1 2), .int (((xlo σ 0 0)).2.2.1 3), .ref (ad 3)]))) (xlo (xlo σ 0 0) 1 0) := hXw2.setLo 1 rfl rfl
  have hFw7 : keepX G (yup Gw2 (ad 2) (2, .inr (5, [.int (((xlo σ 0 0)).2.2.1 0), .int (((xlo σ 0 0)).2.2.1 1), .long (((xlo σ 0 0)).2.2.2.1 0), .long 0, .long (((xlo σ 0 0)).2.2.2.1 2), .long (((xlo σ 0 0)).2.2.2.1 3), .long (((xlo σ 0 0)).2.2.2.1 4), .int (((xlo σ 0 0)).2.2.1 2), .int (((xlo σ 0 0)).2.2.1 3), .ref (ad 3)]))) := hFw2.up (hXw2.1 2 _ rfl) (by omega) (by omega)
  show Y l S0 D K_X1_drawColumns 12 0 0 (fun r G1 => r = none ∧ ∃ σ1 : XS, atX aC ad G1 σ1 ∧ keepX G G1 ∧ xfr [56] σ σ1 ∧ xgr σ σ1) (fun _ _ => False) (7 + 3) [(0, .ref (ad 2))] [] (yup Gw2 (ad 2) (2, .inr (5, [.int (((xlo σ 0 0)).2.2.1 0), .int (((xlo σ 0 0)).2.2.1 1), .long (((xlo σ 0 0)).2.2.2.1 0), .long 0, .long (((xlo σ 0 0)).2.2.2.1 2), .long (((xlo σ 0 0)).2.2.2.1 3), .long (((xlo σ 0 0)).2.2.2.1 4), .int (((xlo σ 0 0)).2.2.1 2), .int (((xlo σ 0 0)).2.2.1 3), .ref (ad 3)]))) 0 0
  generalize yup Gw2 (ad 2) (2, .inr (5, [.int (((xlo σ 0 0)).2.2.1 0), .int (((xlo σ 0 0)).2.2.1 1), .long (((xlo σ 0 0)).2.2.2.1 0), .long 0, .long (((xlo σ 0 0)).2.2.2.1 2), .long (((xlo σ 0 0)).2.2.2.1 3), .long (((xlo σ 0 0)).2.2.2.1 4), .int (((xlo σ 0 0)).2.2.1 2), .int (((xlo σ 0 0)).2.2.1 3), .ref (ad 3)])) = Gw7 at hXw7 hFw7 ⊢
  refine y_blk 2 tq_X1_drawColumns (z := (12, [(1, .int 0), (0, .ref (ad 2))], [])) rfl ?_
  refine y_pick (L2 := [(0, .ref (ad 2)), (1, .int 0)]) [1, 0] rfl ?_
  exact J12 _ 0 Gw7 (xlo (xlo σ 0 0) 1 0) hXw7 hFw7 (((xkn.trans (xkn.trans xkn.rfl' xgr_lo.kn) xgr_lo.kn)).w) (xgr.trans (xgr.trans xgr.rfl' xgr_lo) xgr_lo) rfl
set_option maxHeartbeats 4000000 in
set_option maxRecDepth 100000 in
theorem m_X1_drawViewsOf {l : Launch} {S0 : State} {A0 : Array Value} {D : va_G} {aC : Nat → ClassId} {ad : Nat → Nat} {G : AH} {σ : XS} (hS : yS l S0 A0 D aC) (hX : atX aC ad G σ) (cell : Int32) : yM l S0 D yX1_drawViewsOf cX1_drawViewsOf 9 none 13 0 0 [.ref (ad 2), .int cell] G (fun r G1 => r = none ∧ ∃ σ1 : XS, atX aC ad G1 σ1 ∧ keepX G G1 ∧ xfr [56] σ σ1 ∧ xgr σ σ1) (fun _ _ => False) := by
  refine yM.ofK K_X1_drawViewsOf rfl (by decide) (Nat.le_of_ble_eq_true rfl) ?_
  have h512 : (Int32.ofNat 512).toInt = 512 := by decide
  have J13 : ∀ (n13 : Nat) (v13_2 : Int64) (v13_4 : Int32) (v13_5 : Int32) (G13 : AH) (s13 : XS) (hX13 : atX aC ad G13 s13) (hF13 : keepX G G13) (kn13 : xfr [56] σ s13) (gr13 : xgr σ s13), ((8 : Int32).toInt - v13_5.toInt).toNat = n13 → Y l S0 D K_X1_drawViewsOf 13 0 0 (fun r G1 => r = none ∧ ∃ σ1 : XS, atX aC ad G1 σ1 ∧ keepX G G1 ∧ xfr [56] σ σ1 ∧ xgr σ σ1) (fun _ _ => False) 13 [(0, .ref (ad 2)), (1, .int cell), (2, .long v13_2), (4, .int v13_4), (5, .int v13_5)] [] G13 0 0 := by
    intro n13
    induction n13 using Nat.strongRecOn with
    | _ n13 ih13 =>
    intro v13_2 v13_4 v13_5 G13 s13 hX13 hF13 kn13 gr13 hn13
    subst hn13
    have J153 : ∀ (v153_2 : Int64) (v153_4 : Int32) (v153_6 : Int32) (G153 : AH) (s153 : XS) (hX153 : atX aC ad G153 s153) (hF153 : keepX G G153) (kn153 : xfr [56] σ s153) (gr153 : xgr σ s153) (c17 : ¬ (8 : Int32) ≤ v13_5), Y l S0 D K_X1_drawViewsOf 13 0 0 (fun r G1 => r = none ∧ ∃ σ1 : XS, atX aC ad G1 σ1 ∧ keepX G G1 ∧ xfr [56] σ σ1 ∧ xgr σ σ1) (fun _ _ => False) 153 [(0, .ref (ad 2)), (1, .int cell), (2, .long v153_2), (4, .int v153_4), (5, .int v13_5), (6, .int v153_6)] [] G153 0 0 := by
      intro v153_2 v153_4 v153_6 G153 s153 hX153 hF153 kn153 gr153 c17
      refine y_blk 2 tq_X1_drawViewsOf (z := (13, [(5, .int (v13_5 + 1)), (0, .ref (ad 2)), (1, .int cell), (2, .long v153_2), (4, .int v153_4), (6, .int v153_6)], [])) rfl ?_
      refine y_pick (L2 := [(0, .ref (ad 2)), (1, .int cell), (2, .long v153_2), (4, .int v153_4), (5, .int (v13_5 + 1))]) [1, 2, 3, 4, 0] rfl ?_
      exact ih13 _ (by exact ydec c17) v153_2 v153_4 (v13_5 + 1) G153 s153 hX153 hF153 ((kn153).w) gr153 rfl
    have J23 : ∀ (n23 : Nat) (v23_2 : Int64) (v23_4 : Int32) (v23_6 : Int32) (G23 : AH) (s23 : XS) (hX23 : atX aC ad G23 s23) (hF23 : keepX G G23) (kn23 : xfr [56] σ s23) (gr23 : xgr σ s23) (c17 : ¬ (8 : Int32) ≤ v13_5), ((9 : Int32).toInt - v23_6.toInt).toNat = n23 → Y l S0 D K_X1_drawViewsOf 13 0 0 (fun r G1 => r = none ∧ ∃ σ1 : XS, atX aC ad G1 σ1 ∧ keepX G G1 ∧ xfr [56] σ σ1 ∧ xgr σ σ1) (fun _ _ => False) 23 [(0, .ref (ad 2)), (1, .int cell), (2, .long v23_2), (4, .int v23_4), (5, .int v13_5), (6, .int v23_6)] [] G23 0 0 := by
      intro n23
      induction n23 using Nat.strongRecOn with
      | _ n23 ih23 =>
      intro v23_2 v23_4 v23_6 G23 s23 hX23 hF23 kn23 gr23 c17 hn23
      subst hn23
      have J115 : ∀ (v115_2 : Int64) (v115_4 : Int32) (G115 : AH) (s115 : XS) (hX115 : atX aC ad G115 s115) (hF115 : keepX G G115) (kn115 : xfr [56] σ s115) (gr115 : xgr σ s115) (c27 : ¬ (9 : Int32) ≤ v23_6) (c17 : ¬ (8 : Int32) ≤ v13_5), Y l S0 D K_X1_drawViewsOf 13 0 0 (fun r G1 => r = none ∧ ∃ σ1 : XS, atX aC ad G1 σ1 ∧ keepX G G1 ∧ xfr [56] σ σ1 ∧ xgr σ σ1) (fun _ _ => False) 115 [(0, .ref (ad 2)), (1, .int cell), (2, .long v115_2), (4, .int v115_4), (5, .int v13_5), (6, .int v23_6)] [] G115 0 0 := by
        intro v115_2 v115_4 G115 s115 hX115 hF115 kn115 gr115 c27 c17
        refine y_blk 2 tq_X1_drawViewsOf (z := (23, [(6, .int (v23_6 + 1)), (0, .ref (ad 2)), (1, .int cell), (2, .long v115_2), (4, .int v115_4), (5, .int v13_5)], [])) rfl ?_
        refine y_pick (L2 := [(0, .ref (ad 2)), (1, .int cell), (2, .long v115_2), (4, .int v115_4), (5, .int v13_5), (6, .int (v23_6 + 1))]) [1, 2, 3, 4, 5, 0] rfl ?_
        exact ih23 _ (by exact ydec c27) v115_2 v115_4 (v23_6 + 1) G115 s115 hX115 hF115 ((kn115).w) gr115 (by exact c17) rfl
      have J113 : ∀ (v113_2 : Int64) (v113_4 : Int32) (v113_7 : Int32) (v113_8 : Int32) (w113_0 : Int32) (G113 : AH) (s113 : XS) (hb_v113_8 : v113_8 = 0 ∨ v113_8 = 1) (hX113 : atX aC ad G113 s113) (hF113 : keepX G G113) (kn113 : xfr [56] σ s113) (gr113 : xgr σ s113) (c27 : ¬ (9 : Int32) ≤ v23_6) (c17 : ¬ (8 : Int32) ≤ v13_5), Y l S0 D K_X1_drawViewsOf 13 0 0 (fun r G1 => r = none ∧ ∃ σ1 : XS, atX aC ad G1 σ1 ∧ keepX G G1 ∧ xfr [56] σ σ1 ∧ xgr σ σ1) (fun _ _ => False) 113 [(0, .ref (ad 2)), (1, .int cell), (2, .long v113_2), (4, .int v113_4), (5, .int v13_5), (6, .int v23_6), (7, .int v113_7), (8, .int v113_8)] [.int w113_0] G113 0 0 := by
        intro v113_2 v113_4 v113_7 v113_8 w113_0 G113 s113 hb_v113_8 hX113 hF113 kn113 gr113 c27 c17
        refine y_blk 1 tq_X1_drawViewsOf (z := (115, [(4, .int w113_0), (0, .ref (ad 2)), (1, .int cell), (2, .long v113_2), (5, .int v13_5), (6, .int v23_6), (7, .int v113_7), (8, .int v113_8)], [])) rfl ?_
        refine y_pick (L2 := [(0, .ref (ad 2)), (1, .int cell), (2, .long v113_2), (4, .int w113_0), (5, .int v13_5), (6, .int v23_6)]) [1, 2, 3, 0, 4, 5] rfl ?_
        exact J115 v113_2 w113_0 G113 s113 hX113 hF113 ((kn113).w) gr113 (by exact c27) (by exact c17)
      have J84 : ∀ (v84_2 : Int64) (v84_4 : Int32) (v84_7 : Int32) (w84_0 : Int32) (G84 : AH) (s84 : XS) (hb_w84_0 : w84_0 = 0 ∨ w84_0 = 1) (hX84 : atX aC ad G84 s84) (hF84 : keepX G G84) (kn84 : xfr [56] σ s84) (gr84 : xgr σ s84) (c27 : ¬ (9 : Int32) ≤ v23_6) (c17 : ¬ (8 : Int32) ≤ v13_5), Y l S0 D K_X1_drawViewsOf 13 0 0 (fun r G1 => r = none ∧ ∃ σ1 : XS, atX aC ad G1 σ1 ∧ keepX G G1 ∧ xfr [56] σ σ1 ∧ xgr σ σ1) (fun _ _ => False) 84 [(0, .ref (ad 2)), (1, .int cell), (2, .long v84_2), (4, .int v84_4), (5, .int v13_5), (6, .int v23_6), (7, .int v84_7)] [.int w84_0] G84 0 0 := by
        intro v84_2 v84_4 v84_7 w84_0 G84 s84 hb_w84_0 hX84 hF84 kn84 gr84 c27 c17
        refine y_blk 3 tq_X1_drawViewsOf (z := (89, [(8, .int w84_0), (0, .ref (ad 2)), (1, .int cell), (2, .long v84_2), (4, .int v84_4), (5, .int v13_5), (6, .int v23_6), (7, .int v84_7)], [.int v84_7, .long v84_2])) rfl ?_
        refine y_callSN hS tq_X1_drawViewsOf rfl (As := [.int v84_7]) rfl cs_X1_62 (m_X8_setOf hS  v84_7) rfl (by decide) (Nat.le_of_ble_eq_true rfl) (fun r89 Gc89 q89 => ?_) (fun E9 G9 h9 => h9.elim)
        obtain ⟨⟨x89, rfl⟩, eG89⟩ := q89
        have eG89 := eG89.symm
        subst eG89
        refine y_blk 3 tq_X1_drawViewsOf (z := (96, [(2, .long (v84_2 ||| x89)), (8, .int w84_0), (0, .ref (ad 2)), (1, .int cell), (4, .int v84_4), (5, .int v13_5), (6, .int v23_6), (7, .int v84_7)], [.int w84_0])) rfl ?_
        refine y_if_eq tq_X1_drawViewsOf 111 rfl rfl (fun c96 => ?_) (fun c96 => ?_)
        · skip
          refine y_blk 1 tq_X1_drawViewsOf (z := (113, [(2, .long (v84_2 ||| x89)), (8, .int w84_0), (0, .ref (ad 2)), (1, .int cell), (4, .int v84_4), (5, .int v13_5), (6, .int v23_6), (7, .int v84_7)], [.int v84_4])) rfl ?_
          refine y_pick (L2 := [(0, .ref (ad 2)), (1, .int cell), (2, .long (v84_2 ||| x89)), (4, .int v84_4), (5, .int v13_5), (6, .int v23_6), (7, .int v84_7), (8, .int w84_0)]) [2, 3, 0, 4, 5, 6, 7, 1] rfl ?_
          exact J113 (v84_2 ||| x89) v84_4 v84_7 w84_0 v84_4 G84 s84 hb_w84_0 hX84 hF84 ((kn84).w) gr84 (by exact c27) (by exact c17)
        · skip
          refine y_blk 8 tq_X1_drawViewsOf (z := (113, [(2, .long (v84_2 ||| x89)), (8, .int w84_0), (0, .ref (ad 2)), (1, .int cell), (4, .int v84_4), (5, .int v13_5), (6, .int v23_6), (7, .int v84_7)], [.int (v84_4 &&& ((1 <<< (v23_6 &&& 31)) ^^^ (-1)))])) rfl ?_
          refine y_pick (L2 := [(0, .ref (ad 2)), (1, .int cell), (2, .long (v84_2 ||| x89)), (4, .int v84_4), (5, .int v13_5), (6, .int v23_6), (7, .int v84_7), (8, .int w84_0)]) [2, 3, 0, 4, 5, 6, 7, 1] rfl ?_
          exact J113 (v84_2 ||| x89) v84_4 v84_7 w84_0 (v84_4 &&& ((1 <<< (v23_6 &&& 31)) ^^^ (-1))) G84 s84 hb_w84_0 hX84 hF84 ((kn84).w) gr84 (by exact c27) (by exact c17)
      have J79 : ∀ (v79_2 : Int64) (v79_4 : Int32) (v79_7 : Int32) (G79 : AH) (s79 : XS) (hX79 : atX aC ad G79 s79) (hF79 : keepX G G79) (kn79 : xfr [56] σ s79) (gr79 : xgr σ s79) (c27 : ¬ (9 : Int32) ≤ v23_6) (c17 : ¬ (8 : Int32) ≤ v13_5), Y l S0 D K_X1_drawViewsOf 13 0 0 (fun r G1 => r = none ∧ ∃ σ1 : XS, atX aC ad G1 σ1 ∧ keepX G G1 ∧ xfr [56] σ σ1 ∧ xgr σ σ1) (fun _ _ => False) 79 [(0, .ref (ad 2)), (1, .int cell), (2, .long v79_2), (4, .int v79_4), (5, .int v13_5), (6, .int v23_6), (7, .int v79_7)] [] G79 0 0 := by
        intro v79_2 v79_4 v79_7 G79 s79 hX79 hF79 kn79 gr79 c27 c17
        refine y_blk 2 tq_X1_drawViewsOf (z := (84, [(0, .ref (ad 2)), (1, .int cell), (2, .long v79_2), (4, .int v79_4), (5, .int v13_5), (6, .int v23_6), (7, .int v79_7)], [.int 1])) rfl ?_
        exact J84 v79_2 v79_4 v79_7 1 G79 s79 (Or.inr rfl) hX79 hF79 ((kn79).w) gr79 (by exact c27) (by exact c17)
      refine y_blk 2 tq_X1_drawViewsOf (z := (27, [(0, .ref (ad 2)), (1, .int cell), (2, .long v23_2), (4, .int v23_4), (5, .int v13_5), (6, .int v23_6)], [.int 9, .int v23_6])) rfl ?_
      refine y_icmp_ge tq_X1_drawViewsOf 121 rfl rfl (fun c27 => ?_) (fun c27 => ?_)
      · skip
        refine y_blk 7 tq_X1_drawViewsOf (z := (132, [(6, .int ((cell * 8) + v13_5)), (0, .ref (ad 2)), (1, .int cell), (2, .long v23_2), (4, .int v23_4), (5, .int v13_5)], [.int ((cell * 8) + v13_5)])) rfl ?_
        refine y_if_lt tq_X1_drawViewsOf 153 rfl rfl (fun c132 => ?_) (fun c132 => ?_)
        · skip
          refine y_blk 0 tq_X1_drawViewsOf (z := (153, [(6, .int ((cell * 8) + v13_5)), (0, .ref (ad 2)), (1, .int cell), (2, .long v23_2), (4, .int v23_4), (5, .int v13_5)], [])) rfl ?_
          refine y_pick (L2 := [(0, .ref (ad 2)), (1, .int cell), (2, .long v23_2), (4, .int v23_4), (5, .int v13_5), (6, .int ((cell * 8) + v13_5))]) [1, 2, 3, 4, 5, 0] rfl ?_
          exact J153 v23_2 v23_4 ((cell * 8) + v13_5) G23 s23 hX23 hF23 ((kn23).w) gr23 (by exact c17)
        · skip
          refine y_blk 2 tq_X1_drawViewsOf (z := (138, [(6, .int ((cell * 8) + v13_5)), (0, .ref (ad 2)), (1, .int cell), (2, .long v23_2), (4, .int v23_4), (5, .int v13_5)], [.ref (ad 2), .int ((cell * 8) + v13_5)])) rfl ?_
          refine y_get hS tq_X1_drawViewsOf (v := .ref (ad 3)) rfl fg_X1_15_X1 (hX23.1 2 _ rfl) rfl ?_
          refine y_blk 0 tq_X1_drawViewsOf (z := (141, [(6, .int ((cell * 8) + v13_5)), (0, .ref (ad 2)), (1, .int cell), (2, .long v23_2), (4, .int v23_4), (5, .int v13_5)], [.ref (ad 3), .int ((cell * 8) + v13_5)])) rfl ?_
          refine y_alen hS tq_X1_drawViewsOf 1 rfl rfl (hX23.1 3 _ rfl) ?_
          refine y_blk 0 tq_X1_drawViewsOf (z := (142, [(6, .int ((cell * 8) + v13_5)), (0, .ref (ad 2)), (1, .int cell), (2, .long v23_2), (4, .int v23_4), (5, .int v13_5)], [.int (Int32.ofNat 512), .int ((cell * 8) + v13_5)])) rfl ?_
          refine y_icmp_ge tq_X1_drawViewsOf 153 rfl rfl (fun c142 => ?_) (fun c142 => ?_)
          · skip
            refine y_blk 0 tq_X1_drawViewsOf (z := (153, [(6, .int ((cell * 8) + v13_5)), (0, .ref (ad 2)), (1, .int cell), (2, .long v23_2), (4, .int v23_4), (5, .int v13_5)], [])) rfl ?_
            refine y_pick (L2 := [(0, .ref (ad 2)), (1, .int cell), (2, .long v23_2), (4, .int v23_4), (5, .int v13_5), (6, .int ((cell * 8) + v13_5))]) [1, 2, 3, 4, 5, 0] rfl ?_
            exact J153 v23_2 v23_4 ((cell * 8) + v13_5) G23 s23 hX23 hF23 ((kn23).w) gr23 (by exact c17)
          · skip
            refine y_blk 1 tq_X1_drawViewsOf (z := (146, [(6, .int ((cell * 8) + v13_5)), (0, .ref (ad 2)), (1, .int cell), (2, .long v23_2), (4, .int v23_4), (5, .int v13_5)], [.ref (ad 2)])) rfl ?_
            refine y_get hS tq_X1_drawViewsOf (v := .ref (ad 3)) rfl fg_X1_15_X1 (hX23.1 2 _ rfl) rfl ?_
            refine y_blk 2 tq_X1_drawViewsOf (z := (152, [(6, .int ((cell * 8) + v13_5)), (0, .ref (ad 2)), (1, .int cell), (2, .long v23_2), (4, .int v23_4), (5, .int v13_5)], [.long v23_2, .int ((cell * 8) + v13_5), .ref (ad 3)])) rfl ?_
            refine y_last hS tq_X1_drawViewsOf rfl (hX23.1 3 _ rfl) (by omega) (by exact yin (by (simp only [ylt, yle, yeqI, yl_m1, yl_0, yl_1, yl_2, yl_3, yl_4, yl_5, yl_6, yl_7, yl_8, yl_9, yl_10, yl_11, yl_12, yl_15, yl_16, yl_20, yl_60, yl_64, yl_90, yl_97, yl_99, yl_100, yl_120, yl_239, yl_240] at *; omega)) (by (simp only [ylt, yle, yeqI, yl_m1, yl_0, yl_1, yl_2, yl_3, yl_4, yl_5, yl_6, yl_7, yl_8, yl_9, yl_10, yl_11, yl_12, yl_15, yl_16, yl_20, yl_60, yl_64, yl_90, yl_97, yl_99, yl_100, yl_120, yl_239, yl_240] at *; omega))) ?_
            have hXw152 : atX aC ad (yup G23 (ad 3) (3, .inl (aC 1, 512, .inr (.inl (vp_updL s23.2.2.2.2 (Int32.toNatClampNeg ((cell * 8) + v13_5)) v23_2))))) (xvw s23 (vp_updL s23.2.2.2.2 (Int32.toNatClampNeg ((cell * 8) + v13_5)) v23_2)) := hX23.setVw
            have hFw152 : keepX G (yup G23 (ad 3) (3, .inl (aC 1, 512, .inr (.inl (vp_updL s23.2.2.2.2 (Int32.toNatClampNeg ((cell * 8) + v13_5)) v23_2))))) := hF23.up (hX23.1 3 _ rfl) (by omega) (by omega)
            generalize yup G23 (ad 3) (3, .inl (aC 1, 512, .inr (.inl (vp_updL s23.2.2.2.2 (Int32.toNatClampNeg ((cell * 8) + v13_5)) v23_2)))) = Gw152 at hXw152 hFw152 ⊢
            refine y_blk 0 tq_X1_drawViewsOf (z := (153, [(6, .int ((cell * 8) + v13_5)), (0, .ref (ad 2)), (1, .int cell), (2, .long v23_2), (4, .int v23_4), (5, .int v13_5)], [])) rfl ?_
            refine y_pick (L2 := [(0, .ref (ad 2)), (1, .int cell), (2, .long v23_2), (4, .int v23_4), (5, .int v13_5), (6, .int ((cell * 8) + v13_5))]) [1, 2, 3, 4, 5, 0] rfl ?_
            exact J153 v23_2 v23_4 ((cell * 8) + v13_5) Gw152 (xvw s23 (vp_updL s23.2.2.2.2 (Int32.toNatClampNeg ((cell * 8) + v13_5)) v23_2)) hXw152 hFw152 (((xkn.trans kn23 xgr_vw.kn)).w) (xgr.trans gr23 xgr_vw) (by exact c17)
      · skip
        refine y_blk 1 tq_X1_drawViewsOf (z := (32, [(0, .ref (ad 2)), (1, .int cell), (2, .long v23_2), (4, .int v23_4), (5, .int v13_5), (6, .int v23_6)], [.int v13_5])) rfl ?_
        refine y_if_le tq_X1_drawViewsOf 115 rfl rfl (fun c32 => ?_) (fun c32 => ?_)
        · skip
          refine y_blk 0 tq_X1_drawViewsOf (z := (115, [(0, .ref (ad 2)), (1, .int cell), (2, .long v23_2), (4, .int v23_4), (5, .int v13_5), (6, .int v23_6)], [])) rfl ?_
          exact J115 v23_2 v23_4 G23 s23 hX23 hF23 ((kn23).w) gr23 (by exact c27) (by exact c17)
        · skip
          refine y_blk 5 tq_X1_drawViewsOf (z := (42, [(0, .ref (ad 2)), (1, .int cell), (2, .long v23_2), (4, .int v23_4), (5, .int v13_5), (6, .int v23_6)], [.int (v23_4 &&& (1 <<< (v23_6 &&& 31)))])) rfl ?_
          refine y_if_eq tq_X1_drawViewsOf 115 rfl rfl (fun c42 => ?_) (fun c42 => ?_)
          · skip
            refine y_blk 0 tq_X1_drawViewsOf (z := (115, [(0, .ref (ad 2)), (1, .int cell), (2, .long v23_2), (4, .int v23_4), (5, .int v13_5), (6, .int v23_6)], [])) rfl ?_
            exact J115 v23_2 v23_4 G23 s23 hX23 hF23 ((kn23).w) gr23 (by exact c27) (by exact c17)
          · skip
            refine y_blk 4 tq_X1_drawViewsOf (z := (51, [(0, .ref (ad 2)), (1, .int cell), (2, .long v23_2), (4, .int v23_4), (5, .int v13_5), (6, .int v23_6)], [.int v13_5, .int v23_6, .int cell, .ref (ad 2)])) rfl ?_
            refine y_callV hS tq_X1_drawViewsOf rfl (As := [.int cell, .int v23_6, .int v13_5]) rfl cv_X1_109 (hX23.1 2 _ rfl) (m_X1_cellToward hS hX23 cell v23_6 v13_5) rfl (by decide) (Nat.le_of_ble_eq_true rfl) (fun r51 Gc51 q51 => ?_) (fun E9 G9 h9 => h9.elim)
            obtain ⟨⟨x51, rfl⟩, eG51⟩ := q51
            have eG51 := eG51.symm
            subst eG51
            refine y_blk 3 tq_X1_drawViewsOf (z := (59, [(7, .int x51), (0, .ref (ad 2)), (1, .int cell), (2, .long v23_2), (4, .int v23_4), (5, .int v13_5), (6, .int v23_6)], [.int (-1), .int x51])) rfl ?_
            refine y_icmp_eq tq_X1_drawViewsOf 79 rfl rfl (fun c59 => ?_) (fun c59 => ?_)
            · skip
              refine y_blk 0 tq_X1_drawViewsOf (z := (79, [(7, .int x51), (0, .ref (ad 2)), (1, .int cell), (2, .long v23_2), (4, .int v23_4), (5, .int v13_5), (6, .int v23_6)], [])) rfl ?_
              refine y_pick (L2 := [(0, .ref (ad 2)), (1, .int cell), (2, .long v23_2), (4, .int v23_4), (5, .int v13_5), (6, .int v23_6), (7, .int x51)]) [1, 2, 3, 4, 5, 6, 0] rfl ?_
              exact J79 v23_2 v23_4 x51 G23 s23 hX23 hF23 ((kn23).w) gr23 (by exact c27) (by exact c17)
            · skip
              refine y_blk 1 tq_X1_drawViewsOf (z := (63, [(7, .int x51), (0, .ref (ad 2)), (1, .int cell), (2, .long v23_2), (4, .int v23_4), (5, .int v13_5), (6, .int v23_6)], [.ref (ad 2)])) rfl ?_
              refine y_get hS tq_X1_drawViewsOf (v := .long (s23.2.2.2.1 2)) rfl fg_X1_28_X1 (hX23.1 2 _ rfl) rfl ?_
              refine y_blk 1 tq_X1_drawViewsOf (z := (67, [(7, .int x51), (0, .ref (ad 2)), (1, .int cell), (2, .long v23_2), (4, .int v23_4), (5, .int v13_5), (6, .int v23_6)], [.ref (ad 2), .long (s23.2.2.2.1 2)])) rfl ?_
              refine y_get hS tq_X1_drawViewsOf (v := .long (s23.2.2.2.1 3)) rfl fg_X1_32_X1 (hX23.1 2 _ rfl) rfl ?_
              refine y_blk 2 tq_X1_drawViewsOf (z := (73, [(7, .int x51), (0, .ref (ad 2)), (1, .int cell), (2, .long v23_2), (4, .int v23_4), (5, .int v13_5), (6, .int v23_6)], [.int x51, .long ((s23.2.2.2.1 2) ||| (s23.2.2.2.1 3))])) rfl ?_
              refine y_callSN hS tq_X1_drawViewsOf rfl (As := [.long ((s23.2.2.2.1 2) ||| (s23.2.2.2.1 3)), .int x51]) rfl cs_X1_68 (m_X8_isOf hS  ((s23.2.2.2.1 2) ||| (s23.2.2.2.1 3)) x51) rfl (by decide) (Nat.le_of_ble_eq_true rfl) (fun r73 Gc73 q73 => ?_) (fun E9 G9 h9 => h9.elim)
              obtain ⟨⟨x73, hb_x73, rfl⟩, eG73⟩ := q73
              have eG73 := eG73.symm
              subst eG73
              refine y_blk 0 tq_X1_drawViewsOf (z := (76, [(7, .int x51), (0, .ref (ad 2)), (1, .int cell), (2, .long v23_2), (4, .int v23_4), (5, .int v13_5), (6, .int v23_6)], [.int x73])) rfl ?_
              refine y_if_eq tq_X1_drawViewsOf 83 rfl rfl (fun c76 => ?_) (fun c76 => ?_)
              · skip
                refine y_blk 1 tq_X1_drawViewsOf (z := (84, [(7, .int x51), (0, .ref (ad 2)), (1, .int cell), (2, .long v23_2), (4, .int v23_4), (5, .int v13_5), (6, .int v23_6)], [.int 0])) rfl ?_
                refine y_pick (L2 := [(0, .ref (ad 2)), (1, .int cell), (2, .long v23_2), (4, .int v23_4), (5, .int v13_5), (6, .int v23_6), (7, .int x51)]) [1, 2, 3, 4, 5, 6, 0] rfl ?_
                exact J84 v23_2 v23_4 x51 0 G23 s23 (Or.inl rfl) hX23 hF23 ((kn23).w) gr23 (by exact c27) (by exact c17)
              · skip
                refine y_blk 0 tq_X1_drawViewsOf (z := (79, [(7, .int x51), (0, .ref (ad 2)), (1, .int cell), (2, .long v23_2), (4, .int v23_4), (5, .int v13_5), (6, .int v23_6)], [])) rfl ?_
                refine y_pick (L2 := [(0, .ref (ad 2)), (1, .int cell), (2, .long v23_2), (4, .int v23_4), (5, .int v13_5), (6, .int v23_6), (7, .int x51)]) [1, 2, 3, 4, 5, 6, 0] rfl ?_
                exact J79 v23_2 v23_4 x51 G23 s23 hX23 hF23 ((kn23).w) gr23 (by exact c27) (by exact c17)
    refine y_blk 2 tq_X1_drawViewsOf (z := (17, [(0, .ref (ad 2)), (1, .int cell), (2, .long v13_2), (4, .int v13_4), (5, .int v13_5)], [.int 8, .int v13_5])) rfl ?_
    refine y_icmp_ge tq_X1_drawViewsOf 159 rfl rfl (fun c17 => ?_) (fun c17 => ?_)
    · skip
      refine y_blk 0 tq_X1_drawViewsOf (z := (159, [(0, .ref (ad 2)), (1, .int cell), (2, .long v13_2), (4, .int v13_4), (5, .int v13_5)], [])) rfl ?_
      exact y_vret tq_X1_drawViewsOf rfl rfl (⟨rfl, _, hX13, hF13, (kn13).w, gr13⟩)
    · skip
      refine y_blk 2 tq_X1_drawViewsOf (z := (23, [(6, .int 0), (0, .ref (ad 2)), (1, .int cell), (2, .long v13_2), (4, .int v13_4), (5, .int v13_5)], [])) rfl ?_
      refine y_pick (L2 := [(0, .ref (ad 2)), (1, .int cell), (2, .long v13_2), (4, .int v13_4), (5, .int v13_5), (6, .int 0)]) [1, 2, 3, 4, 5, 0] rfl ?_
      exact J23 _ v13_2 v13_4 0 G13 s13 hX13 hF13 ((kn13).w) gr13 (by exact c17) rfl
  refine y_blk 1 tq_X1_drawViewsOf (z := (1, [(0, .ref (ad 2)), (1, .int cell)], [.int cell])) rfl ?_
  refine y_callSN hS tq_X1_drawViewsOf rfl (As := [.int cell]) rfl cs_X1_62 (m_X8_setOf hS  cell) rfl (by decide) (Nat.le_of_ble_eq_true rfl) (fun r1 Gc1 q1 => ?_) (fun E9 G9 h9 => h9.elim)
  obtain ⟨⟨x1, rfl⟩, eG1⟩ := q1
  have eG1 := eG1.symm
  subst eG1
  refine y_blk 5 tq_X1_drawViewsOf (z := (13, [(5, .int 0), (4, .int 495), (2, .long x1), (0, .ref (ad 2)), (1, .int cell)], [])) rfl ?_
  refine y_pick (L2 := [(0, .ref (ad 2)), (1, .int cell), (2, .long x1), (4, .int 495), (5, .int 0)]) [3, 4, 2, 1, 0] rfl ?_
  exact J13 _ x1 495 0 G σ hX keepX.rfl' ((xkn.rfl').w) xgr.rfl' rfl
set_option maxHeartbeats 4000000 in
set_option maxRecDepth 100000 in
theorem m_X1_drawViews {l : Launch} {S0 : State} {A0 : Array Value} {D : va_G} {aC : Nat → ClassId} {ad : Nat → Nat} {G : AH} {σ : XS} (hS : yS l S0 A0 D aC) (hX : atX aC ad G σ) : yM l S0 D yX1_drawViews cX1_drawViews 2 none 14 0 0 [.ref (ad 2)] G (fun r G1 => r = none ∧ ∃ σ1 : XS, atX aC ad G1 σ1 ∧ keepX G G1 ∧ xfr [56] σ σ1 ∧ xgr σ σ1) (fun _ _ => False) := by
  refine yM.ofK K_X1_drawViews rfl (by decide) (Nat.le_of_ble_eq_true rfl) ?_
  have J2 : ∀ (n2 : Nat) (v2_1 : Int32) (G2 : AH) (s2 : XS) (hX2 : atX aC ad G2 s2) (hF2 : keepX G G2) (kn2 : xfr [56] σ s2) (gr2 : xgr σ s2), (((s2.2.2.1 0) * (s2.2.2.1 1) : Int32).toInt - v2_1.toInt).toNat = n2 → Y l S0 D K_X1_drawViews 14 0 0 (fun r G1 => r = none ∧ ∃ σ1 : XS, atX aC ad G1 σ1 ∧ keepX G G1 ∧ xfr [56] σ σ1 ∧ xgr σ σ1) (fun _ _ => False) 2 [(0, .ref (ad 2)), (1, .int v2_1)] [] G2 0 0 := by
    intro n2
    induction n2 using Nat.strongRecOn with
    | _ n2 ih2 =>
    intro v2_1 G2 s2 hX2 hF2 kn2 gr2 hn2
    subst hn2
    refine y_blk 2 tq_X1_drawViews (z := (4, [(0, .ref (ad 2)), (1, .int v2_1)], [.ref (ad 2), .int v2_1])) rfl ?_
    refine y_callV hS tq_X1_drawViews rfl (As := []) rfl cv_X1_38 (hX2.1 2 _ rfl) (m_X1_cells hS hX2 ) rfl (by decide) (Nat.le_of_ble_eq_true rfl) (fun r4 Gc4 q4 => ?_) (fun E9 G9 h9 => h9.elim)
    obtain ⟨rfl, eG4⟩ := q4
    have eG4 := eG4.symm
    subst eG4
    refine y_blk 0 tq_X1_drawViews (z := (7, [(0, .ref (ad 2)), (1, .int v2_1)], [.int ((s2.2.2.1 0) * (s2.2.2.1 1)), .int v2_1])) rfl ?_
    refine y_icmp_ge tq_X1_drawViews 21 rfl rfl (fun c7 => ?_) (fun c7 => ?_)
    · skip
      refine y_blk 0 tq_X1_drawViews (z := (21, [(0, .ref (ad 2)), (1, .int v2_1)], [])) rfl ?_
      exact y_vret tq_X1_drawViews rfl rfl (⟨rfl, _, hX2, hF2, (kn2).w, gr2⟩)
    · skip
      refine y_blk 2 tq_X1_drawViews (z := (12, [(0, .ref (ad 2)), (1, .int v2_1)], [.int v2_1, .ref (ad 2)])) rfl ?_
      refine y_callV hS tq_X1_drawViews rfl (As := [.int v2_1]) rfl cv_X1_105 (hX2.1 2 _ rfl) (m_X1_drawViewsOf hS hX2 v2_1) rfl (by decide) (Nat.le_of_ble_eq_true rfl) (fun r12 Gc12 q12 => ?_) (fun E9 G9 h9 => h9.elim)
      obtain ⟨rfl, σ12, hXc12, hFc12, knc12, hR12⟩ := q12
      refine y_blk 2 tq_X1_drawViews (z := (2, [(1, .int (v2_1 + 1)), (0, .ref (ad 2))], [])) rfl ?_
      refine y_pick (L2 := [(0, .ref (ad 2)), (1, .int (v2_1 + 1))]) [1, 0] rfl ?_
      exact ih2 _ (by rw [hR12.2.2]; exact ydec c7) (v2_1 + 1) Gc12 σ12 hXc12 (hF2.trans hFc12) (((xkn.trans kn2 knc12)).w) (xgr.trans gr2 hR12) rfl
  refine y_blk 2 tq_X1_drawViews (z := (2, [(1, .int 0), (0, .ref (ad 2))], [])) rfl ?_
  refine y_pick (L2 := [(0, .ref (ad 2)), (1, .int 0)]) [1, 0] rfl ?_
  exact J2 _ 0 G σ hX keepX.rfl' ((xkn.rfl').w) xgr.rfl' rfl
set_option maxHeartbeats 4000000 in
set_option maxRecDepth 100000 in
theorem m_X1_change {l : Launch} {S0 : State} {A0 : Array Value} {D : va_G} {aC : Nat → ClassId} {ad : Nat → Nat} {G : AH} {σ : XS} (hS : yS l S0 A0 D aC) (hX : atX aC ad G σ) (cell : Int32) (kind : Int32) : yM l S0 D yX1_change cX1_change 3 none 15 0 0 [.ref (ad 2), .int cell, .int kind] G (fun r G1 => r = none ∧ ∃ σ1 : XS, atX aC ad G1 σ1 ∧ keepX G G1 ∧ xfr [56] σ σ1 ∧ xgr σ σ1) (fun _ _ => False) := by
  refine yM.ofK K_X1_change rfl (by decide) (Nat.le_of_ble_eq_true rfl) ?_
  refine y_blk 3 tq_X1_change (z := (3, [(0, .ref (ad 2)), (1, .int cell), (2, .int kind)], [.int kind, .int cell, .ref (ad 2)])) rfl ?_
  refine y_callV hS tq_X1_change rfl (As := [.int cell, .int kind]) rfl cv_X1_49 (hX.1 2 _ rfl) (m_X1_setKind hS hX cell kind) rfl (by decide) (Nat.le_of_ble_eq_true rfl) (fun r3 Gc3 q3 => ?_) (fun E9 G9 h9 => h9.elim)
  obtain ⟨rfl, σ3, hXc3, hFc3, knc3, hR3⟩ := q3
  refine y_blk 1 tq_X1_change (z := (7, [(0, .ref (ad 2)), (1, .int cell), (2, .int kind)], [.ref (ad 2)])) rfl ?_
  refine y_callV hS tq_X1_change rfl (As := []) rfl cv_X1_56 (hXc3.1 2 _ rfl) (m_X1_drawViews hS hXc3 ) rfl (by decide) (Nat.le_of_ble_eq_true rfl) (fun r7 Gc7 q7 => ?_) (fun E9 G9 h9 => h9.elim)
  obtain ⟨rfl, σ7, hXc7, hFc7, knc7, hR7⟩ := q7
  refine y_blk 0 tq_X1_change (z := (10, [(0, .ref (ad 2)), (1, .int cell), (2, .int kind)], [])) rfl ?_
  exact y_vret tq_X1_change rfl rfl (⟨rfl, _, hXc7, ((keepX.rfl'.trans hFc3).trans hFc7), ((xkn.trans (xkn.trans xkn.rfl' knc3) knc7)).w, (xgr.trans (xgr.trans xgr.rfl' hR3) hR7)⟩)
set_option maxHeartbeats 4000000 in
set_option maxRecDepth 100000 in
theorem m_X1_build {l : Launch} {S0 : State} {A0 : Array Value} {D : va_G} {aC : Nat → ClassId} {ad : Nat → Nat} {G : AH} {σ : XS} (hS : yS l S0 A0 D aC) (hX : atX aC ad G σ) (newWide : Int32) (newHigh : Int32) (seed : Int32) (hw : newWide.toInt ≤ 8) : yM l S0 D yX1_build cX1_build 6 none 15 0 0 [.ref (ad 2), .int newWide, .int newHigh, .int seed] G (fun r G1 => r = none ∧ ∃ σ1 : XS, atX aC ad G1 σ1 ∧ keepX G G1 ∧ xfr [48, 49, 50, 51, 56] σ σ1 ∧ σ1.2.2.1 0 = newWide ∧ σ1.2.2.1 1 = newHigh) (fun _ _ => False) := by
  refine yM.ofK K_X1_build rfl (by decide) (Nat.le_of_ble_eq_true rfl) ?_
  have J35 : ∀ (n35 : Nat) (v35_4 : Int32) (v35_5 : Int32) (G35 : AH) (s35 : XS) (hX35 : atX aC ad G35 s35) (hF35 : keepX G G35) (kn35 : xfr [48, 49, 50, 51, 56] σ s35) (hwh : s35.2.2.1 0 = newWide ∧ s35.2.2.1 1 = newHigh), (((s35.2.2.1 0) * (s35.2.2.1 1) : Int32).toInt - v35_5.toInt).toNat = n35 → Y l S0 D K_X1_build 15 0 0 (fun r G1 => r = none ∧ ∃ σ1 : XS, atX aC ad G1 σ1 ∧ keepX G G1 ∧ xfr [48, 49, 50, 51, 56] σ σ1 ∧ σ1.2.2.1 0 = newWide ∧ σ1.2.2.1 1 = newHigh) (fun _ _ => False) 35 [(0, .ref (ad 2)), (1, .int newWide), (2, .int newHigh), (3, .int seed), (4, .int v35_4), (5, .int v35_5)] [] G35 0 0 := by
    intro n35
    induction n35 using Nat.strongRecOn with
    | _ n35 ih35 =>
    intro v35_4 v35_5 G35 s35 hX35 hF35 kn35 hwh hn35
    subst hn35
    have J72 : ∀ (v72_4 : Int32) (w72_0 : Int32) (c41 : ¬ ((s35.2.2.1 0) * (s35.2.2.1 1) : Int32) ≤ v35_5), Y l S0 D K_X1_build 15 0 0 (fun r G1 => r = none ∧ ∃ σ1 : XS, atX aC ad G1 σ1 ∧ keepX G G1 ∧ xfr [48, 49, 50, 51, 56] σ σ1 ∧ σ1.2.2.1 0 = newWide ∧ σ1.2.2.1 1 = newHigh) (fun _ _ => False) 72 [(0, .ref (ad 2)), (1, .int newWide), (2, .int newHigh), (3, .int seed), (4, .int v72_4), (5, .int v35_5)] [.int w72_0, .int v35_5, .ref (ad 2)] G35 0 0 := by
      intro v72_4 w72_0 c41
      refine y_callV hS tq_X1_build rfl (As := [.int v35_5, .int w72_0]) rfl cv_X1_49 (hX35.1 2 _ rfl) (m_X1_setKind hS hX35 v35_5 w72_0) rfl (by decide) (Nat.le_of_ble_eq_true rfl) (fun r72 Gc72 q72 => ?_) (fun E9 G9 h9 => h9.elim)
      obtain ⟨rfl, σ72, hXc72, hFc72, knc72, hR72⟩ := q72
      refine y_blk 2 tq_X1_build (z := (35, [(5, .int (v35_5 + 1)), (0, .ref (ad 2)), (1, .int newWide), (2, .int newHigh), (3, .int seed), (4, .int v72_4)], [])) rfl ?_
      refine y_pick (L2 := [(0, .ref (ad 2)), (1, .int newWide), (2, .int newHigh), (3, .int seed), (4, .int v72_4), (5, .int (v35_5 + 1))]) [1, 2, 3, 4, 5, 0] rfl ?_
      exact ih35 _ (by rw [hR72.2.2]; exact ydec c41) v72_4 (v35_5 + 1) Gc72 σ72 hXc72 (hF35.trans hFc72) (((xkn.trans kn35 knc72)).w) (by first | exact ⟨knc72.i hwh.1, knc72.i hwh.2⟩ | exact ⟨knc11.i rfl, knc11.i rfl⟩) rfl
    refine y_blk 2 tq_X1_build (z := (38, [(0, .ref (ad 2)), (1, .int newWide), (2, .int newHigh), (3, .int seed), (4, .int v35_4), (5, .int v35_5)], [.ref (ad 2), .int v35_5])) rfl ?_
    refine y_callV hS tq_X1_build rfl (As := []) rfl cv_X1_38 (hX35.1 2 _ rfl) (m_X1_cells hS hX35 ) rfl (by decide) (Nat.le_of_ble_eq_true rfl) (fun r38 Gc38 q38 => ?_) (fun E9 G9 h9 => h9.elim)
    obtain ⟨rfl, eG38⟩ := q38
    have eG38 := eG38.symm
    subst eG38
    refine y_blk 0 tq_X1_build (z := (41, [(0, .ref (ad 2)), (1, .int newWide), (2, .int newHigh), (3, .int seed), (4, .int v35_4), (5, .int v35_5)], [.int ((s35.2.2.1 0) * (s35.2.2.1 1)), .int v35_5])) rfl ?_
    refine y_icmp_ge tq_X1_build 81 rfl rfl (fun c41 => ?_) (fun c41 => ?_)
    · skip
      refine y_blk 3 tq_X1_build (z := (84, [(0, .ref (ad 2)), (1, .int newWide), (2, .int newHigh), (3, .int seed), (4, .int v35_4), (5, .int v35_5)], [.int 0, .int 1, .ref (ad 2)])) rfl ?_
      refine y_callV hS tq_X1_build rfl (As := [.int 1, .int 0]) rfl cv_X1_53 (hX35.1 2 _ rfl) (m_X1_openGates hS hX35 1 0) rfl (by decide) (Nat.le_of_ble_eq_true rfl) (fun r84 Gc84 q84 => ?_) (fun E9 G9 h9 => h9.elim)
      obtain ⟨rfl, σ84, hXc84, hFc84, knc84⟩ := q84
      refine y_blk 1 tq_X1_build (z := (88, [(0, .ref (ad 2)), (1, .int newWide), (2, .int newHigh), (3, .int seed), (4, .int v35_4), (5, .int v35_5)], [.ref (ad 2)])) rfl ?_
      refine y_callV hS tq_X1_build rfl (As := []) rfl cv_X1_56 (hXc84.1 2 _ rfl) (m_X1_drawViews hS hXc84 ) rfl (by decide) (Nat.le_of_ble_eq_true rfl) (fun r88 Gc88 q88 => ?_) (fun E9 G9 h9 => h9.elim)
      obtain ⟨rfl, σ88, hXc88, hFc88, knc88, hR88⟩ := q88
      refine y_blk 0 tq_X1_build (z := (91, [(0, .ref (ad 2)), (1, .int newWide), (2, .int newHigh), (3, .int seed), (4, .int v35_4), (5, .int v35_5)], [])) rfl ?_
      exact y_vret tq_X1_build rfl rfl (⟨rfl, _, hXc88, ((hF35.trans hFc84).trans hFc88), ((xkn.trans (xkn.trans kn35 knc84) knc88)).w, knc88.i (knc84.i hwh.1), knc88.i (knc84.i hwh.2)⟩)
    · skip
      refine y_blk 1 tq_X1_build (z := (46, [(0, .ref (ad 2)), (1, .int newWide), (2, .int newHigh), (3, .int seed), (4, .int v35_4), (5, .int v35_5)], [.int v35_4])) rfl ?_
      refine y_callSN hS tq_X1_build rfl (As := [.int v35_4]) rfl cs_X1_42 (m_X8_nextOfRow hS  v35_4) rfl (by decide) (Nat.le_of_ble_eq_true rfl) (fun r46 Gc46 q46 => ?_) (fun E9 G9 h9 => h9.elim)
      obtain ⟨rfl, eG46⟩ := q46
      have eG46 := eG46.symm
      subst eG46
      refine y_blk 5 tq_X1_build (z := (57, [(4, .int (yaft v35_4)), (0, .ref (ad 2)), (1, .int newWide), (2, .int newHigh), (3, .int seed), (5, .int v35_5)], [.int 100, .int seed, .int v35_5, .ref (ad 2)])) rfl ?_
      refine y_icmp_ne tq_X1_build 64 rfl rfl (fun c57 => ?_) (fun c57 => ?_)
      · skip
        refine y_blk 2 tq_X1_build (z := (68, [(4, .int (yaft v35_4)), (0, .ref (ad 2)), (1, .int newWide), (2, .int newHigh), (3, .int seed), (5, .int v35_5)], [.int 10, .int (yaft v35_4), .int v35_5, .ref (ad 2)])) rfl ?_
        refine y_irem tq_X1_build rfl (by decide) ?_
        refine y_blk 0 tq_X1_build (z := (69, [(4, .int (yaft v35_4)), (0, .ref (ad 2)), (1, .int newWide), (2, .int newHigh), (3, .int seed), (5, .int v35_5)], [.int ((yaft v35_4) - (yaft v35_4) / 10 * 10), .int v35_5, .ref (ad 2)])) rfl ?_
        refine y_callS hS tq_X1_build rfl (As := [.int ((yaft v35_4) - (yaft v35_4) / 10 * 10)]) rfl cs_X1_46 (m_X1_kindOfDigit hS hX35 ((yaft v35_4) - (yaft v35_4) / 10 * 10)) rfl (by decide) (Nat.le_of_ble_eq_true rfl) (fun r69 Gc69 q69 => ?_) (fun E9 G9 h9 => h9.elim)
        obtain ⟨⟨x69, rfl⟩, eG69⟩ := q69
        have eG69 := eG69.symm
        subst eG69
        refine y_blk 0 tq_X1_build (z := (72, [(4, .int (yaft v35_4)), (0, .ref (ad 2)), (1, .int newWide), (2, .int newHigh), (3, .int seed), (5, .int v35_5)], [.int x69, .int v35_5, .ref (ad 2)])) rfl ?_
        refine y_pick (L2 := [(0, .ref (ad 2)), (1, .int newWide), (2, .int newHigh), (3, .int seed), (4, .int (yaft v35_4)), (5, .int v35_5)]) [1, 2, 3, 4, 0, 5] rfl ?_
        exact J72 (yaft v35_4) x69 (by exact c41)
      · skip
        refine y_blk 2 tq_X1_build (z := (72, [(4, .int (yaft v35_4)), (0, .ref (ad 2)), (1, .int newWide), (2, .int newHigh), (3, .int seed), (5, .int v35_5)], [.int 0, .int v35_5, .ref (ad 2)])) rfl ?_
        refine y_pick (L2 := [(0, .ref (ad 2)), (1, .int newWide), (2, .int newHigh), (3, .int seed), (4, .int (yaft v35_4)), (5, .int v35_5)]) [1, 2, 3, 4, 0, 5] rfl ?_
        exact J72 (yaft v35_4) 0 (by exact c41)
  refine y_blk 2 tq_X1_build (z := (2, [(0, .ref (ad 2)), (1, .int newWide), (2, .int newHigh), (3, .int seed)], [.int newWide, .ref (ad 2)])) rfl ?_
  refine y_put hS tq_X1_build rfl fp_X1_19_X1 (hX.1 2 _ rfl) (by omega) rfl rfl (Nat.le_of_ble_eq_true rfl) ?_
  have hXw2 : atX aC ad (yup G (ad 2) (2, .inr (5, [.int newWide, .int (σ.2.2.1 1), .long (σ.2.2.2.1 0), .long (σ.2.2.2.1 1), .long (σ.2.2.2.1 2), .long (σ.2.2.2.1 3), .long (σ.2.2.2.1 4), .int (σ.2.2.1 2), .int (σ.2.2.1 3), .ref (ad 3)]))) (xin σ 0 newWide) := hX.setIn 0 2 (fun _ => hw) (by omega) rfl rfl
  have hFw2 : keepX G (yup G (ad 2) (2, .inr (5, [.int newWide, .int (σ.2.2.1 1), .long (σ.2.2.2.1 0), .long (σ.2.2.2.1 1), .long (σ.2.2.2.1 2), .long (σ.2.2.2.1 3), .long (σ.2.2.2.1 4), .int (σ.2.2.1 2), .int (σ.2.2.1 3), .ref (ad 3)]))) := (keepX.rfl' (G := G)).up (hX.1 2 _ rfl) (by omega) (by omega)
  show Y l S0 D K_X1_build 15 0 0 (fun r G1 => r = none ∧ ∃ σ1 : XS, atX aC ad G1 σ1 ∧ keepX G G1 ∧ xfr [48, 49, 50, 51, 56] σ σ1 ∧ σ1.2.2.1 0 = newWide ∧ σ1.2.2.1 1 = newHigh) (fun _ _ => False) (2 + 3) [(0, .ref (ad 2)), (1, .int newWide), (2, .int newHigh), (3, .int seed)] [] (yup G (ad 2) (2, .inr (5, [.int newWide, .int (σ.2.2.1 1), .long (σ.2.2.2.1 0), .long (σ.2.2.2.1 1), .long (σ.2.2.2.1 2), .long (σ.2.2.2.1 3), .long (σ.2.2.2.1 4), .int (σ.2.2.1 2), .int (σ.2.2.1 3), .ref (ad 3)]))) 0 0
  generalize yup G (ad 2) (2, .inr (5, [.int newWide, .int (σ.2.2.1 1), .long (σ.2.2.2.1 0), .long (σ.2.2.2.1 1), .long (σ.2.2.2.1 2), .long (σ.2.2.2.1 3), .long (σ.2.2.2.1 4), .int (σ.2.2.1 2), .int (σ.2.2.1 3), .ref (ad 3)])) = Gw2 at hXw2 hFw2 ⊢
  refine y_blk 2 tq_X1_build (z := (7, [(0, .ref (ad 2)), (1, .int newWide), (2, .int newHigh), (3, .int seed)], [.int newHigh, .ref (ad 2)])) rfl ?_
  refine y_put hS tq_X1_build rfl fp_X1_22_X1 (hXw2.1 2 _ rfl) (by omega) rfl rfl (Nat.le_of_ble_eq_true rfl) ?_
  have hXw7 : atX aC ad (yup Gw2 (ad 2) (2, .inr (5, [.int (((xin σ 0 newWide)).2.2.1 0), .int newHigh, .long (((xin σ 0 newWide)).2.2.2.1 0), .long (((xin σ 0 newWide)).2.2.2.1 1), .long (((xin σ 0 newWide)).2.2.2.1 2), .long (((xin σ 0 newWide)).2.2.2.1 3), .long (((xin σ 0 newWide)).2.2.2.1 4), .int (((xin σ 0 newWide)).2.2.1 2), .int (((xin σ 0 newWide)).2.2.1 3), .ref (ad 3)]))) (xin (xin σ 0 newWide) 1 newHigh) := hXw2.setIn 1 2 (fun q => absurd q (by decide)) (by omega) rfl rfl
  have hFw7 : keepX G (yup Gw2 (ad 2) (2, .inr (5, [.int (((xin σ 0 newWide)).2.2.1 0), .int newHigh, .long (((xin σ 0 newWide)).2.2.2.1 0), .long (((xin σ 0 newWide)).2.2.2.1 1), .long (((xin σ 0 newWide)).2.2.2.1 2), .long (((xin σ 0 newWide)).2.2.2.1 3), .long (((xin σ 0 newWide)).2.2.2.1 4), .int (((xin σ 0 newWide)).2.2.1 2), .int (((xin σ 0 newWide)).2.2.1 3), .ref (ad 3)]))) := hFw2.up (hXw2.1 2 _ rfl) (by omega) (by omega)
  show Y l S0 D K_X1_build 15 0 0 (fun r G1 => r = none ∧ ∃ σ1 : XS, atX aC ad G1 σ1 ∧ keepX G G1 ∧ xfr [48, 49, 50, 51, 56] σ σ1 ∧ σ1.2.2.1 0 = newWide ∧ σ1.2.2.1 1 = newHigh) (fun _ _ => False) (7 + 3) [(0, .ref (ad 2)), (1, .int newWide), (2, .int newHigh), (3, .int seed)] [] (yup Gw2 (ad 2) (2, .inr (5, [.int (((xin σ 0 newWide)).2.2.1 0), .int newHigh, .long (((xin σ 0 newWide)).2.2.2.1 0), .long (((xin σ 0 newWide)).2.2.2.1 1), .long (((xin σ 0 newWide)).2.2.2.1 2), .long (((xin σ 0 newWide)).2.2.2.1 3), .long (((xin σ 0 newWide)).2.2.2.1 4), .int (((xin σ 0 newWide)).2.2.1 2), .int (((xin σ 0 newWide)).2.2.1 3), .ref (ad 3)]))) 0 0
  generalize yup Gw2 (ad 2) (2, .inr (5, [.int (((xin σ 0 newWide)).2.2.1 0), .int newHigh, .long (((xin σ 0 newWide)).2.2.2.1 0), .long (((xin σ 0 newWide)).2.2.2.1 1), .long (((xin σ 0 newWide)).2.2.2.1 2), .long (((xin σ 0 newWide)).2.2.2.1 3), .long (((xin σ 0 newWide)).2.2.2.1 4), .int (((xin σ 0 newWide)).2.2.1 2), .int (((xin σ 0 newWide)).2.2.1 3), .ref (ad 3)])) = Gw7 at hXw7 hFw7 ⊢
  refine y_blk 1 tq_X1_build (z := (11, [(0, .ref (ad 2)), (1, .int newWide), (2, .int newHigh), (3, .int seed)], [.ref (ad 2)])) rfl ?_
  refine y_callV hS tq_X1_build rfl (As := []) rfl cv_X1_25 (hXw7.1 2 _ rfl) (m_X1_drawColumns hS hXw7 ) rfl (by decide) (Nat.le_of_ble_eq_true rfl) (fun r11 Gc11 q11 => ?_) (fun E9 G9 h9 => h9.elim)
  obtain ⟨rfl, σ11, hXc11, hFc11, knc11, hR11⟩ := q11
  refine y_blk 2 tq_X1_build (z := (16, [(0, .ref (ad 2)), (1, .int newWide), (2, .int newHigh), (3, .int seed)], [.long 0, .ref (ad 2)])) rfl ?_
  refine y_put hS tq_X1_build rfl fp_X1_28_X1 (hXc11.1 2 _ rfl) (by omega) rfl rfl (Nat.le_of_ble_eq_true rfl) ?_
  have hXw16 : atX aC ad (yup Gc11 (ad 2) (2, .inr (5, [.int (σ11.2.2.1 0), .int (σ11.2.2.1 1), .long (σ11.2.2.2.1 0), .long (σ11.2.2.2.1 1), .long 0, .long (σ11.2.2.2.1 3), .long (σ11.2.2.2.1 4), .int (σ11.2.2.1 2), .int (σ11.2.2.1 3), .ref (ad 3)]))) (xlo σ11 2 0) := hXc11.setLo 2 rfl rfl
  have hFw16 : keepX G (yup Gc11 (ad 2) (2, .inr (5, [.int (σ11.2.2.1 0), .int (σ11.2.2.1 1), .long (σ11.2.2.2.1 0), .long (σ11.2.2.2.1 1), .long 0, .long (σ11.2.2.2.1 3), .long (σ11.2.2.2.1 4), .int (σ11.2.2.1 2), .int (σ11.2.2.1 3), .ref (ad 3)]))) := (hFw7.trans hFc11).up (hXc11.1 2 _ rfl) (by omega) (by omega)
  show Y l S0 D K_X1_build 15 0 0 (fun r G1 => r = none ∧ ∃ σ1 : XS, atX aC ad G1 σ1 ∧ keepX G G1 ∧ xfr [48, 49, 50, 51, 56] σ σ1 ∧ σ1.2.2.1 0 = newWide ∧ σ1.2.2.1 1 = newHigh) (fun _ _ => False) (16 + 3) [(0, .ref (ad 2)), (1, .int newWide), (2, .int newHigh), (3, .int seed)] [] (yup Gc11 (ad 2) (2, .inr (5, [.int (σ11.2.2.1 0), .int (σ11.2.2.1 1), .long (σ11.2.2.2.1 0), .long (σ11.2.2.2.1 1), .long 0, .long (σ11.2.2.2.1 3), .long (σ11.2.2.2.1 4), .int (σ11.2.2.1 2), .int (σ11.2.2.1 3), .ref (ad 3)]))) 0 0
  generalize yup Gc11 (ad 2) (2, .inr (5, [.int (σ11.2.2.1 0), .int (σ11.2.2.1 1), .long (σ11.2.2.2.1 0), .long (σ11.2.2.2.1 1), .long 0, .long (σ11.2.2.2.1 3), .long (σ11.2.2.2.1 4), .int (σ11.2.2.1 2), .int (σ11.2.2.1 3), .ref (ad 3)])) = Gw16 at hXw16 hFw16 ⊢
  refine y_blk 2 tq_X1_build (z := (21, [(0, .ref (ad 2)), (1, .int newWide), (2, .int newHigh), (3, .int seed)], [.long 0, .ref (ad 2)])) rfl ?_
  refine y_put hS tq_X1_build rfl fp_X1_32_X1 (hXw16.1 2 _ rfl) (by omega) rfl rfl (Nat.le_of_ble_eq_true rfl) ?_
  have hXw21 : atX aC ad (yup Gw16 (ad 2) (2, .inr (5, [.int (((xlo σ11 2 0)).2.2.1 0), .int (((xlo σ11 2 0)).2.2.1 1), .long (((xlo σ11 2 0)).2.2.2.1 0), .long (((xlo σ11 2 0)).2.2.2.1 1), .long (((xlo σ11 2 0)).2.2.2.1 2), .long 0, .long (((xlo σ11 2 0)).2.2.2.1 4), .int (((xlo σ11 2 0)).2.2.1 2), .int (((xlo σ11 2 0)).2.2.1 3), .ref (ad 3)]))) (xlo (xlo σ11 2 0) 3 0) := hXw16.setLo 3 rfl rfl
  have hFw21 : keepX G (yup Gw16 (ad 2) (2, .inr (5, [.int (((xlo σ11 2 0)).2.2.1 0), .int (((xlo σ11 2 0)).2.2.1 1), .long (((xlo σ11 2 0)).2.2.2.1 0), .long (((xlo σ11 2 0)).2.2.2.1 1), .long (((xlo σ11 2 0)).2.2.2.1 2), .long 0, .long (((xlo σ11 2 0)).2.2.2.1 4), .int (((xlo σ11 2 0)).2.2.1 2), .int (((xlo σ11 2 0)).2.2.1 3), .ref (ad 3)]))) := hFw16.up (hXw16.1 2 _ rfl) (by omega) (by omega)
  show Y l S0 D K_X1_build 15 0 0 (fun r G1 => r = none ∧ ∃ σ1 : XS, atX aC ad G1 σ1 ∧ keepX G G1 ∧ xfr [48, 49, 50, 51, 56] σ σ1 ∧ σ1.2.2.1 0 = newWide ∧ σ1.2.2.1 1 = newHigh) (fun _ _ => False) (21 + 3) [(0, .ref (ad 2)), (1, .int newWide), (2, .int newHigh), (3, .int seed)] [] (yup Gw16 (ad 2) (2, .inr (5, [.int (((xlo σ11 2 0)).2.2.1 0), .int (((xlo σ11 2 0)).2.2.1 1), .long (((xlo σ11 2 0)).2.2.2.1 0), .long (((xlo σ11 2 0)).2.2.2.1 1), .long (((xlo σ11 2 0)).2.2.2.1 2), .long 0, .long (((xlo σ11 2 0)).2.2.2.1 4), .int (((xlo σ11 2 0)).2.2.1 2), .int (((xlo σ11 2 0)).2.2.1 3), .ref (ad 3)]))) 0 0
  generalize yup Gw16 (ad 2) (2, .inr (5, [.int (((xlo σ11 2 0)).2.2.1 0), .int (((xlo σ11 2 0)).2.2.1 1), .long (((xlo σ11 2 0)).2.2.2.1 0), .long (((xlo σ11 2 0)).2.2.2.1 1), .long (((xlo σ11 2 0)).2.2.2.1 2), .long 0, .long (((xlo σ11 2 0)).2.2.2.1 4), .int (((xlo σ11 2 0)).2.2.1 2), .int (((xlo σ11 2 0)).2.2.1 3), .ref (ad 3)])) = Gw21 at hXw21 hFw21 ⊢
  refine y_blk 2 tq_X1_build (z := (26, [(0, .ref (ad 2)), (1, .int newWide), (2, .int newHigh), (3, .int seed)], [.long 0, .ref (ad 2)])) rfl ?_
  refine y_put hS tq_X1_build rfl fp_X1_35_X1 (hXw21.1 2 _ rfl) (by omega) rfl rfl (Nat.le_of_ble_eq_true rfl) ?_
  have hXw26 : atX aC ad (yup Gw21 (ad 2) (2, .inr (5, [.int (((xlo (xlo σ11 2 0) 3 0)).2.2.1 0), .int (((xlo (xlo σ11 2 0) 3 0)).2.2.1 1), .long (((xlo (xlo σ11 2 0) 3 0)).2.2.2.1 0), .long (((xlo (xlo σ11 2 0) 3 0)).2.2.2.1 1), .long (((xlo (xlo σ11 2 0) 3 0)).2.2.2.1 2), .long (((xlo (xlo σ11 2 0) 3 0)).2.2.2.1 3), .long 0, .int (((xlo (xlo σ11 2 0) 3 0)).2.2.1 2), .int (((xlo (xlo σ11 2 0) 3 0)).2.2.1 3), .ref (ad 3)]))) (xlo (xlo (xlo σ11 2 0) 3 0) 4 0) := hXw21.setLo 4 rfl rfl
  have hFw26 : keepX G (yup Gw21 (ad 2) (2, .inr (5, [.int (((xlo (xlo σ11 2 0) 3 0)).2.2.1 0), .int (((xlo (xlo σ11 2 0) 3 0)).2.2.1 1), .long (((xlo (xlo σ11 2 0) 3 0)).2.2.2.1 0), .long (((xlo (xlo σ11 2 0) 3 0)).2.2.2.1 1), .long (((xlo (xlo σ11 2 0) 3 0)).2.2.2.1 2), .long (((xlo (xlo σ11 2 0) 3 0)).2.2.2.1 3), .long 0, .int (((xlo (xlo σ11 2 0) 3 0)).2.2.1 2), .int (((xlo (xlo σ11 2 0) 3 0)).2.2.1 3), .ref (ad 3)]))) := hFw21.up (hXw21.1 2 _ rfl) (by omega) (by omega)
  show Y l S0 D K_X1_build 15 0 0 (fun r G1 => r = none ∧ ∃ σ1 : XS, atX aC ad G1 σ1 ∧ keepX G G1 ∧ xfr [48, 49, 50, 51, 56] σ σ1 ∧ σ1.2.2.1 0 = newWide ∧ σ1.2.2.1 1 = newHigh) (fun _ _ => False) (26 + 3) [(0, .ref (ad 2)), (1, .int newWide), (2, .int newHigh), (3, .int seed)] [] (yup Gw21 (ad 2) (2, .inr (5, [.int (((xlo (xlo σ11 2 0) 3 0)).2.2.1 0), .int (((xlo (xlo σ11 2 0) 3 0)).2.2.1 1), .long (((xlo (xlo σ11 2 0) 3 0)).2.2.2.1 0), .long (((xlo (xlo σ11 2 0) 3 0)).2.2.2.1 1), .long (((xlo (xlo σ11 2 0) 3 0)).2.2.2.1 2), .long (((xlo (xlo σ11 2 0) 3 0)).2.2.2.1 3), .long 0, .int (((xlo (xlo σ11 2 0) 3 0)).2.2.1 2), .int (((xlo (xlo σ11 2 0) 3 0)).2.2.1 3), .ref (ad 3)]))) 0 0
  generalize yup Gw21 (ad 2) (2, .inr (5, [.int (((xlo (xlo σ11 2 0) 3 0)).2.2.1 0), .int (((xlo (xlo σ11 2 0) 3 0)).2.2.1 1), .long (((xlo (xlo σ11 2 0) 3 0)).2.2.2.1 0), .long (((xlo (xlo σ11 2 0) 3 0)).2.2.2.1 1), .long (((xlo (xlo σ11 2 0) 3 0)).2.2.2.1 2), .long (((xlo (xlo σ11 2 0) 3 0)).2.2.2.1 3), .long 0, .int (((xlo (xlo σ11 2 0) 3 0)).2.2.1 2), .int (((xlo (xlo σ11 2 0) 3 0)).2.2.1 3), .ref (ad 3)])) = Gw26 at hXw26 hFw26 ⊢
  refine y_blk 4 tq_X1_build (z := (35, [(5, .int 0), (4, .int seed), (0, .ref (ad 2)), (1, .int newWide), (2, .int newHigh), (3, .int seed)], [])) rfl ?_
  refine y_pick (L2 := [(0, .ref (ad 2)), (1, .int newWide), (2, .int newHigh), (3, .int seed), (4, .int seed), (5, .int 0)]) [2, 3, 4, 5, 1, 0] rfl ?_
  exact J35 _ seed 0 Gw26 (xlo (xlo (xlo σ11 2 0) 3 0) 4 0) hXw26 hFw26 (((xkn.trans (xkn.trans (xkn.trans (xkn.trans (xkn.trans (xkn.trans xkn.rfl' xkn_in) xkn_in) knc11) xgr_lo.kn) xgr_lo.kn) xgr_lo.kn)).w) (by first | exact ⟨knc72.i hwh.1, knc72.i hwh.2⟩ | exact ⟨knc11.i rfl, knc11.i rfl⟩) rfl
