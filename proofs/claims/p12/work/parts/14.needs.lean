/-! ===== contracts: what a call must be ===== -/
set_option maxHeartbeats 4000000 in
set_option maxRecDepth 100000 in
theorem m_X8_needLet {l : Launch} {S0 : State} {A0 : Array Value} {D : va_G} {aC : Nat → ClassId} {G : AH} (hS : yS l S0 A0 D aC) (isLet : Int32) : yM l S0 D yX8_needLet cX8_needLet 1 none 10 1 6 [.int isLet] G (fun r G1 => (r = none ∧ ¬ isLet = 0) ∧ G1 = G) (fun E G1 => (E = "java/lang/IllegalArgumentException" ∧ isLet = 0) ∧ G1 = G) := by
  refine yM.ofK K_X8_needLet rfl (by decide) (Nat.le_of_ble_eq_true rfl) ?_
  refine y_blk 1 tq_X8_needLet (z := (1, [(0, .int isLet)], [.int isLet])) rfl ?_
  refine y_if_ne tq_X8_needLet 15 rfl rfl (fun c1 => ?_) (fun c1 => ?_)
  · skip
    refine y_blk 0 tq_X8_needLet (z := (15, [(0, .int isLet)], [])) rfl ?_
    exact y_vret tq_X8_needLet rfl rfl (⟨⟨rfl, c1⟩, rfl⟩)
  · skip
    refine y_blk 0 tq_X8_needLet (z := (4, [(0, .int isLet)], [])) rfl ?_
    exact y_throwW hS tq_X8_needLet rfl rfl rfl rfl rfl rfl yth_let (by decide) (Nat.le_of_ble_eq_true rfl) (⟨⟨rfl, c1⟩, rfl⟩) (by decide) (by decide)
set_option maxHeartbeats 4000000 in
set_option maxRecDepth 100000 in
theorem m_X8_needPossible {l : Launch} {S0 : State} {A0 : Array Value} {D : va_G} {aC : Nat → ClassId} {G : AH} (hS : yS l S0 A0 D aC) (isLet : Int32) : yM l S0 D yX8_needPossible cX8_needPossible 1 none 10 1 6 [.int isLet] G (fun r G1 => (r = none ∧ ¬ isLet = 0) ∧ G1 = G) (fun E G1 => (E = "java/lang/IllegalStateException" ∧ isLet = 0) ∧ G1 = G) := by
  refine yM.ofK K_X8_needPossible rfl (by decide) (Nat.le_of_ble_eq_true rfl) ?_
  refine y_blk 1 tq_X8_needPossible (z := (1, [(0, .int isLet)], [.int isLet])) rfl ?_
  refine y_if_ne tq_X8_needPossible 15 rfl rfl (fun c1 => ?_) (fun c1 => ?_)
  · skip
    refine y_blk 0 tq_X8_needPossible (z := (15, [(0, .int isLet)], [])) rfl ?_
    exact y_vret tq_X8_needPossible rfl rfl (⟨⟨rfl, c1⟩, rfl⟩)
  · skip
    refine y_blk 0 tq_X8_needPossible (z := (4, [(0, .int isLet)], [])) rfl ?_
    exact y_throwW hS tq_X8_needPossible rfl rfl rfl rfl rfl rfl yth_442 (by decide) (Nat.le_of_ble_eq_true rfl) (⟨⟨rfl, c1⟩, rfl⟩) (by decide) (by decide)
set_option maxHeartbeats 4000000 in
set_option maxRecDepth 100000 in
theorem m_X8_needThere {l : Launch} {S0 : State} {A0 : Array Value} {D : va_G} {aC : Nat → ClassId} {G : AH} (hS : yS l S0 A0 D aC) (number : Int32) (count : Int32) : yM l S0 D yX8_needThere cX8_needThere 2 none 11 1 6 [.int number, .int count] G (fun r G1 => (r = none ∧ (0 ≤ number ∧ number ≤ count - 1)) ∧ G1 = G) (fun E G1 => (E = "java/lang/IndexOutOfBoundsException" ∧ ¬ (0 ≤ number ∧ number ≤ count - 1)) ∧ G1 = G) := by
  refine yM.ofK K_X8_needThere rfl (by decide) (Nat.le_of_ble_eq_true rfl) ?_
  refine y_blk 5 tq_X8_needThere (z := (5, [(0, .int number), (1, .int count)], [.int (count - 1), .int 0, .int number])) rfl ?_
  refine y_callS hS tq_X8_needThere rfl (As := [.int number, .int 0, .int (count - 1)]) rfl cs_X8_76 (m_X8_isIn hS  number 0 (count - 1)) rfl (by decide) (Nat.le_of_ble_eq_true rfl) (fun r5 Gc5 q5 => ?_) (fun E9 G9 h9 => h9.elim)
  obtain ⟨rfl, eG5⟩ := q5
  have eG5 := eG5.symm
  subst eG5
  refine y_blk 0 tq_X8_needThere (z := (8, [(0, .int number), (1, .int count)], [.int (if 0 ≤ number ∧ number ≤ (count - 1) then 1 else 0)])) rfl ?_
  refine y_if_ne tq_X8_needThere 22 rfl rfl (fun c8 => ?_) (fun c8 => ?_)
  · skip
    refine y_blk 0 tq_X8_needThere (z := (22, [(0, .int number), (1, .int count)], [])) rfl ?_
    exact y_vret tq_X8_needThere rfl rfl (⟨⟨rfl, by simp only [yif0, Classical.not_not] at c8; exact c8⟩, rfl⟩)
  · skip
    refine y_blk 0 tq_X8_needThere (z := (11, [(0, .int number), (1, .int count)], [])) rfl ?_
    exact y_throwW hS tq_X8_needThere rfl rfl rfl rfl rfl rfl yth_435 (by decide) (Nat.le_of_ble_eq_true rfl) (⟨⟨rfl, by simp only [yif0] at c8; exact c8⟩, rfl⟩) (by decide) (by decide)
set_option maxHeartbeats 4000000 in
set_option maxRecDepth 100000 in
theorem m_X8_needNoneOrThere {l : Launch} {S0 : State} {A0 : Array Value} {D : va_G} {aC : Nat → ClassId} {G : AH} (hS : yS l S0 A0 D aC) (number : Int32) (count : Int32) : yM l S0 D yX8_needNoneOrThere cX8_needNoneOrThere 2 none 12 1 6 [.int number, .int count] G (fun r G1 => (r = none ∧ (number = -1 ∨ (0 ≤ number ∧ number ≤ count - 1))) ∧ G1 = G) (fun E G1 => (E = "java/lang/IndexOutOfBoundsException" ∧ ¬ (number = -1 ∨ (0 ≤ number ∧ number ≤ count - 1))) ∧ G1 = G) := by
  refine yM.ofK K_X8_needNoneOrThere rfl (by decide) (Nat.le_of_ble_eq_true rfl) ?_
  refine y_blk 2 tq_X8_needNoneOrThere (z := (2, [(0, .int number), (1, .int count)], [.int (-1), .int number])) rfl ?_
  refine y_icmp_eq tq_X8_needNoneOrThere 10 rfl rfl (fun c2 => ?_) (fun c2 => ?_)
  · skip
    refine y_blk 0 tq_X8_needNoneOrThere (z := (10, [(0, .int number), (1, .int count)], [])) rfl ?_
    exact y_vret tq_X8_needNoneOrThere rfl rfl (⟨⟨rfl, by first | exact Or.inr hq7 | exact Or.inl c2⟩, rfl⟩)
  · skip
    refine y_blk 2 tq_X8_needNoneOrThere (z := (7, [(0, .int number), (1, .int count)], [.int count, .int number])) rfl ?_
    refine y_callS hS tq_X8_needNoneOrThere rfl (As := [.int number, .int count]) rfl cs_X8_164 (m_X8_needThere hS  number count) rfl (by decide) (Nat.le_of_ble_eq_true rfl) (fun r7 Gc7 q7 => ?_) (fun E9 G9 h9 => ⟨⟨h9.1.1, fun q9 => q9.elim c2 h9.1.2⟩, h9.2⟩)
    obtain ⟨⟨rfl, hq7⟩, eG7⟩ := q7
    have eG7 := eG7.symm
    subst eG7
    refine y_blk 0 tq_X8_needNoneOrThere (z := (10, [(0, .int number), (1, .int count)], [])) rfl ?_
    exact y_vret tq_X8_needNoneOrThere rfl rfl (⟨⟨rfl, by first | exact Or.inr hq7 | exact Or.inl c2⟩, rfl⟩)
set_option maxHeartbeats 4000000 in
set_option maxRecDepth 100000 in
theorem m_X8_needCell {l : Launch} {S0 : State} {A0 : Array Value} {D : va_G} {aC : Nat → ClassId} {ad : Nat → Nat} {G : AH} {σ : XS} (hS : yS l S0 A0 D aC) (hX : atX aC ad G σ) (number : Int32) : yM l S0 D yX8_needCell cX8_needCell 2 none 12 1 6 [.ref (ad 1), .int number] G (fun r G1 => (r = none ∧ (0 ≤ number ∧ number ≤ σ.2.2.1 0 * σ.2.2.1 1 - 1)) ∧ G1 = G) (fun E G1 => (E = "java/lang/IndexOutOfBoundsException" ∧ ¬ (0 ≤ number ∧ number ≤ σ.2.2.1 0 * σ.2.2.1 1 - 1)) ∧ G1 = G) := by
  refine yM.ofK K_X8_needCell rfl (by decide) (Nat.le_of_ble_eq_true rfl) ?_
  refine y_blk 2 tq_X8_needCell (z := (2, [(0, .ref (ad 1)), (1, .int number)], [.ref (ad 1), .int number])) rfl ?_
  refine y_get hS tq_X8_needCell (v := .ref (ad 2)) rfl fg_X8_10_X8 (hX.1 1 _ rfl) rfl ?_
  refine y_blk 0 tq_X8_needCell (z := (5, [(0, .ref (ad 1)), (1, .int number)], [.ref (ad 2), .int number])) rfl ?_
  refine y_callV hS tq_X8_needCell rfl (As := []) rfl cv_X8_350 (hX.1 2 _ rfl) (m_X1_cells hS hX ) rfl (by decide) (Nat.le_of_ble_eq_true rfl) (fun r5 Gc5 q5 => ?_) (fun E9 G9 h9 => h9.elim)
  obtain ⟨rfl, eG5⟩ := q5
  have eG5 := eG5.symm
  subst eG5
  refine y_blk 0 tq_X8_needCell (z := (8, [(0, .ref (ad 1)), (1, .int number)], [.int ((σ.2.2.1 0) * (σ.2.2.1 1)), .int number])) rfl ?_
  refine y_callS hS tq_X8_needCell rfl (As := [.int number, .int ((σ.2.2.1 0) * (σ.2.2.1 1))]) rfl cs_X8_164 (m_X8_needThere hS  number ((σ.2.2.1 0) * (σ.2.2.1 1))) rfl (by decide) (Nat.le_of_ble_eq_true rfl) (fun r8 Gc8 q8 => ?_) (fun E9 G9 h9 => h9)
  obtain ⟨⟨rfl, hq8⟩, eG8⟩ := q8
  have eG8 := eG8.symm
  subst eG8
  refine y_blk 0 tq_X8_needCell (z := (11, [(0, .ref (ad 1)), (1, .int number)], [])) rfl ?_
  exact y_vret tq_X8_needCell rfl rfl (⟨⟨rfl, hq8⟩, rfl⟩)
