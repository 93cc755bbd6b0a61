/-! ===== contracts: who sees what, who comes, what rings ===== -/
set_option maxHeartbeats 4000000 in
set_option maxRecDepth 100000 in
theorem m_X8_brightCells {l : Launch} {S0 : State} {A0 : Array Value} {D : va_G} {aC : Nat → ClassId} {ad : Nat → Nat} {G : AH} {σ : XS} (hS : yS l S0 A0 D aC) (hX : atX aC ad G σ) : yM l S0 D yX8_brightCells cX8_brightCells 1 (some .long) 12 0 0 [.ref (ad 1)] G (fun r G1 => (∃ v : Int64, r = some (.long v)) ∧ G1 = G) (fun _ _ => False) := by
  refine yM.ofK K_X8_brightCells rfl (by decide) (Nat.le_of_ble_eq_true rfl) ?_
  refine y_blk 1 tq_X8_brightCells (z := (1, [(0, .ref (ad 1))], [.ref (ad 1)])) rfl ?_
  refine y_get hS tq_X8_brightCells (v := .ref (ad 4)) rfl fg_X8_19_X8 (hX.1 1 _ rfl) rfl ?_
  refine y_blk 1 tq_X8_brightCells (z := (5, [(0, .ref (ad 1))], [.ref (ad 1), .ref (ad 4)])) rfl ?_
  refine y_get hS tq_X8_brightCells (v := .ref (ad 2)) rfl fg_X8_10_X8 (hX.1 1 _ rfl) rfl ?_
  refine y_blk 0 tq_X8_brightCells (z := (8, [(0, .ref (ad 1))], [.ref (ad 2), .ref (ad 4)])) rfl ?_
  refine y_callV hS tq_X8_brightCells rfl (As := [.ref (ad 2)]) rfl cv_X8_447 (hX.1 4 _ rfl) (m_X4_brightCells hS hX ) rfl (by decide) (Nat.le_of_ble_eq_true rfl) (fun r8 Gc8 q8 => ?_) (fun E9 G9 h9 => h9.elim)
  obtain ⟨⟨x8, rfl⟩, eG8⟩ := q8
  have eG8 := eG8.symm
  subst eG8
  refine y_blk 0 tq_X8_brightCells (z := (11, [(0, .ref (ad 1))], [.long x8])) rfl ?_
  exact y_lret tq_X8_brightCells rfl rfl (⟨⟨_, rfl⟩, rfl⟩)
set_option maxHeartbeats 4000000 in
set_option maxRecDepth 100000 in
theorem m_X8_sightOf {l : Launch} {S0 : State} {A0 : Array Value} {D : va_G} {aC : Nat → ClassId} {ad : Nat → Nat} {G : AH} {σ : XS} (hS : yS l S0 A0 D aC) (hX : atX aC ad G σ) (guard : Int32) (minute : Int32) (bright : Int64) (hg : guard.toInt < 1000) : yM l S0 D yX8_sightOf cX8_sightOf 13 (some .long) 12 0 0 [.ref (ad 1), .int guard, .int minute, .long bright] G (fun r G1 => (∃ v : Int64, r = some (.long v)) ∧ G1 = G) (fun _ _ => False) := by
  refine yM.ofK K_X8_sightOf rfl (by decide) (Nat.le_of_ble_eq_true rfl) ?_
  have J49 : ∀ (n49 : Nat) (v49_5 : Int32) (v49_6 : Int32) (v49_7 : Int32) (v49_8 : Int64) (v49_10 : Int32) (hl49 : v49_7.toInt < 1000), (v49_7.toInt + 1 - v49_10.toInt).toNat = n49 → Y l S0 D K_X8_sightOf 12 0 0 (fun r G1 => (∃ v : Int64, r = some (.long v)) ∧ G1 = G) (fun _ _ => False) 49 [(0, .ref (ad 1)), (1, .int guard), (2, .int minute), (3, .long bright), (5, .int v49_5), (6, .int v49_6), (7, .int v49_7), (8, .long v49_8), (10, .int v49_10)] [] G 0 0 := by
    intro n49
    induction n49 using Nat.strongRecOn with
    | _ n49 ih49 =>
    intro v49_5 v49_6 v49_7 v49_8 v49_10 hl49 hn49
    subst hn49
    have J86 : ∀ (v86_11 : Int32) (w86_0 : Int32) (hb_w86_0 : w86_0 = 0 ∨ w86_0 = 1) (c53 : ¬ v49_7 < v49_10), Y l S0 D K_X8_sightOf 12 0 0 (fun r G1 => (∃ v : Int64, r = some (.long v)) ∧ G1 = G) (fun _ _ => False) 86 [(0, .ref (ad 1)), (1, .int guard), (2, .int minute), (3, .long bright), (5, .int v49_5), (6, .int v49_6), (7, .int v49_7), (8, .long v49_8), (10, .int v49_10), (11, .int v86_11)] [.int w86_0] G 0 0 := by
      intro v86_11 w86_0 hb_w86_0 c53
      refine y_blk 3 tq_X8_sightOf (z := (91, [(12, .int w86_0), (0, .ref (ad 1)), (1, .int guard), (2, .int minute), (3, .long bright), (5, .int v49_5), (6, .int v49_6), (7, .int v49_7), (8, .long v49_8), (10, .int v49_10), (11, .int v86_11)], [.ref (ad 1), .long v49_8])) rfl ?_
      refine y_get hS tq_X8_sightOf (v := .ref (ad 2)) rfl fg_X8_10_X8 (hX.1 1 _ rfl) rfl ?_
      refine y_blk 4 tq_X8_sightOf (z := (100, [(12, .int w86_0), (0, .ref (ad 1)), (1, .int guard), (2, .int minute), (3, .long bright), (5, .int v49_5), (6, .int v49_6), (7, .int v49_7), (8, .long v49_8), (10, .int v49_10), (11, .int v86_11)], [.int 2, .int v49_5, .int 2, .int v86_11, .ref (ad 2), .long v49_8])) rfl ?_
      refine y_idiv tq_X8_sightOf rfl (by decide) ?_
      refine y_blk 3 tq_X8_sightOf (z := (105, [(12, .int w86_0), (0, .ref (ad 1)), (1, .int guard), (2, .int minute), (3, .long bright), (5, .int v49_5), (6, .int v49_6), (7, .int v49_7), (8, .long v49_8), (10, .int v49_10), (11, .int v86_11)], [.int ((2 - (v49_5 / 2)) - w86_0), .int v86_11, .ref (ad 2), .long v49_8])) rfl ?_
      refine y_callV hS tq_X8_sightOf rfl (As := [.int v86_11, .int ((2 - (v49_5 / 2)) - w86_0)]) rfl cv_X8_454 (hX.1 2 _ rfl) (m_X1_viewOf hS hX v86_11 ((2 - (v49_5 / 2)) - w86_0)) rfl (by decide) (Nat.le_of_ble_eq_true rfl) (fun r105 Gc105 q105 => ?_) (fun E9 G9 h9 => h9.elim)
      obtain ⟨⟨x105, rfl⟩, eG105⟩ := q105
      have eG105 := eG105.symm
      subst eG105
      refine y_blk 4 tq_X8_sightOf (z := (114, [(8, .long (v49_8 ||| x105)), (12, .int w86_0), (0, .ref (ad 1)), (1, .int guard), (2, .int minute), (3, .long bright), (5, .int v49_5), (6, .int v49_6), (7, .int v49_7), (10, .int v49_10), (11, .int v86_11)], [.ref (ad 1), .long (v49_8 ||| x105)])) rfl ?_
      refine y_get hS tq_X8_sightOf (v := .ref (ad 2)) rfl fg_X8_10_X8 (hX.1 1 _ rfl) rfl ?_
      refine y_blk 6 tq_X8_sightOf (z := (127, [(8, .long (v49_8 ||| x105)), (12, .int w86_0), (0, .ref (ad 1)), (1, .int guard), (2, .int minute), (3, .long bright), (5, .int v49_5), (6, .int v49_6), (7, .int v49_7), (10, .int v49_10), (11, .int v86_11)], [.int ((7 - v49_5) - w86_0), .int v86_11, .ref (ad 2), .long (v49_8 ||| x105)])) rfl ?_
      refine y_callV hS tq_X8_sightOf rfl (As := [.int v86_11, .int ((7 - v49_5) - w86_0)]) rfl cv_X8_454 (hX.1 2 _ rfl) (m_X1_viewOf hS hX v86_11 ((7 - v49_5) - w86_0)) rfl (by decide) (Nat.le_of_ble_eq_true rfl) (fun r127 Gc127 q127 => ?_) (fun E9 G9 h9 => h9.elim)
      obtain ⟨⟨x127, rfl⟩, eG127⟩ := q127
      have eG127 := eG127.symm
      subst eG127
      refine y_blk 6 tq_X8_sightOf (z := (49, [(10, .int (v49_10 + 1)), (8, .long ((v49_8 ||| x105) ||| (x127 &&& bright))), (12, .int w86_0), (0, .ref (ad 1)), (1, .int guard), (2, .int minute), (3, .long bright), (5, .int v49_5), (6, .int v49_6), (7, .int v49_7), (11, .int v86_11)], [])) rfl ?_
      refine y_pick (L2 := [(0, .ref (ad 1)), (1, .int guard), (2, .int minute), (3, .long bright), (5, .int v49_5), (6, .int v49_6), (7, .int v49_7), (8, .long ((v49_8 ||| x105) ||| (x127 &&& bright))), (10, .int (v49_10 + 1))]) [3, 4, 5, 6, 7, 8, 9, 1, 0] rfl ?_
      exact ih49 _ (by exact ydec2 c53 (by omega)) v49_5 v49_6 v49_7 ((v49_8 ||| x105) ||| (x127 &&& bright)) (v49_10 + 1) (by assumption) rfl
    refine y_blk 2 tq_X8_sightOf (z := (53, [(0, .ref (ad 1)), (1, .int guard), (2, .int minute), (3, .long bright), (5, .int v49_5), (6, .int v49_6), (7, .int v49_7), (8, .long v49_8), (10, .int v49_10)], [.int v49_7, .int v49_10])) rfl ?_
    refine y_icmp_gt tq_X8_sightOf 141 rfl rfl (fun c53 => ?_) (fun c53 => ?_)
    · skip
      refine y_blk 1 tq_X8_sightOf (z := (143, [(0, .ref (ad 1)), (1, .int guard), (2, .int minute), (3, .long bright), (5, .int v49_5), (6, .int v49_6), (7, .int v49_7), (8, .long v49_8), (10, .int v49_10)], [.long v49_8])) rfl ?_
      exact y_lret tq_X8_sightOf rfl rfl (⟨⟨_, rfl⟩, rfl⟩)
    · skip
      refine y_blk 1 tq_X8_sightOf (z := (57, [(0, .ref (ad 1)), (1, .int guard), (2, .int minute), (3, .long bright), (5, .int v49_5), (6, .int v49_6), (7, .int v49_7), (8, .long v49_8), (10, .int v49_10)], [.ref (ad 1)])) rfl ?_
      refine y_get hS tq_X8_sightOf (v := .ref (ad 6)) rfl fg_X8_33_X8 (hX.1 1 _ rfl) rfl ?_
      refine y_blk 2 tq_X8_sightOf (z := (63, [(0, .ref (ad 1)), (1, .int guard), (2, .int minute), (3, .long bright), (5, .int v49_5), (6, .int v49_6), (7, .int v49_7), (8, .long v49_8), (10, .int v49_10)], [.int minute, .int v49_10, .ref (ad 6)])) rfl ?_
      refine y_callV hS tq_X8_sightOf rfl (As := [.int v49_10, .int minute]) rfl cv_X8_196 (hX.1 6 _ rfl) (m_X2_standAt hS hX v49_10 minute) rfl (by decide) (Nat.le_of_ble_eq_true rfl) (fun r63 Gc63 q63 => ?_) (fun E9 G9 h9 => h9.elim)
      obtain ⟨⟨x63, rfl⟩, eG63⟩ := q63
      have eG63 := eG63.symm
      subst eG63
      refine y_blk 2 tq_X8_sightOf (z := (69, [(11, .int x63), (0, .ref (ad 1)), (1, .int guard), (2, .int minute), (3, .long bright), (5, .int v49_5), (6, .int v49_6), (7, .int v49_7), (8, .long v49_8), (10, .int v49_10)], [.ref (ad 1)])) rfl ?_
      refine y_get hS tq_X8_sightOf (v := .ref (ad 6)) rfl fg_X8_33_X8 (hX.1 1 _ rfl) rfl ?_
      refine y_blk 2 tq_X8_sightOf (z := (75, [(11, .int x63), (0, .ref (ad 1)), (1, .int guard), (2, .int minute), (3, .long bright), (5, .int v49_5), (6, .int v49_6), (7, .int v49_7), (8, .long v49_8), (10, .int v49_10)], [.int minute, .int v49_10, .ref (ad 6)])) rfl ?_
      refine y_callV hS tq_X8_sightOf rfl (As := [.int v49_10, .int minute]) rfl cv_X8_450 (hX.1 6 _ rfl) (m_X2_isTired hS hX v49_10 minute) rfl (by decide) (Nat.le_of_ble_eq_true rfl) (fun r75 Gc75 q75 => ?_) (fun E9 G9 h9 => h9.elim)
      obtain ⟨⟨x75, hb_x75, rfl⟩, eG75⟩ := q75
      have eG75 := eG75.symm
      subst eG75
      refine y_blk 0 tq_X8_sightOf (z := (78, [(11, .int x63), (0, .ref (ad 1)), (1, .int guard), (2, .int minute), (3, .long bright), (5, .int v49_5), (6, .int v49_6), (7, .int v49_7), (8, .long v49_8), (10, .int v49_10)], [.int x75])) rfl ?_
      refine y_if_eq tq_X8_sightOf 85 rfl rfl (fun c78 => ?_) (fun c78 => ?_)
      · skip
        refine y_blk 1 tq_X8_sightOf (z := (86, [(11, .int x63), (0, .ref (ad 1)), (1, .int guard), (2, .int minute), (3, .long bright), (5, .int v49_5), (6, .int v49_6), (7, .int v49_7), (8, .long v49_8), (10, .int v49_10)], [.int 0])) rfl ?_
        refine y_pick (L2 := [(0, .ref (ad 1)), (1, .int guard), (2, .int minute), (3, .long bright), (5, .int v49_5), (6, .int v49_6), (7, .int v49_7), (8, .long v49_8), (10, .int v49_10), (11, .int x63)]) [1, 2, 3, 4, 5, 6, 7, 8, 9, 0] rfl ?_
        exact J86 x63 0 (Or.inl rfl) (by exact c53)
      · skip
        refine y_blk 2 tq_X8_sightOf (z := (86, [(11, .int x63), (0, .ref (ad 1)), (1, .int guard), (2, .int minute), (3, .long bright), (5, .int v49_5), (6, .int v49_6), (7, .int v49_7), (8, .long v49_8), (10, .int v49_10)], [.int 1])) rfl ?_
        refine y_pick (L2 := [(0, .ref (ad 1)), (1, .int guard), (2, .int minute), (3, .long bright), (5, .int v49_5), (6, .int v49_6), (7, .int v49_7), (8, .long v49_8), (10, .int v49_10), (11, .int x63)]) [1, 2, 3, 4, 5, 6, 7, 8, 9, 0] rfl ?_
        exact J86 x63 1 (Or.inr rfl) (by exact c53)
  have J40 : ∀ (v40_5 : Int32) (v40_6 : Int32) (w40_0 : Int32) (hl40 : w40_0.toInt < 1000), Y l S0 D K_X8_sightOf 12 0 0 (fun r G1 => (∃ v : Int64, r = some (.long v)) ∧ G1 = G) (fun _ _ => False) 40 [(0, .ref (ad 1)), (1, .int guard), (2, .int minute), (3, .long bright), (5, .int v40_5), (6, .int v40_6)] [.int w40_0] G 0 0 := by
    intro v40_5 v40_6 w40_0 hl40
    refine y_blk 5 tq_X8_sightOf (z := (49, [(10, .int v40_6), (8, .long 0), (7, .int w40_0), (0, .ref (ad 1)), (1, .int guard), (2, .int minute), (3, .long bright), (5, .int v40_5), (6, .int v40_6)], [])) rfl ?_
    refine y_pick (L2 := [(0, .ref (ad 1)), (1, .int guard), (2, .int minute), (3, .long bright), (5, .int v40_5), (6, .int v40_6), (7, .int w40_0), (8, .long 0), (10, .int v40_6)]) [3, 4, 5, 6, 7, 8, 2, 1, 0] rfl ?_
    exact J49 _ v40_5 v40_6 w40_0 0 v40_6 (by assumption) rfl
  have J20 : ∀ (v20_5 : Int32) (w20_0 : Int32), Y l S0 D K_X8_sightOf 12 0 0 (fun r G1 => (∃ v : Int64, r = some (.long v)) ∧ G1 = G) (fun _ _ => False) 20 [(0, .ref (ad 1)), (1, .int guard), (2, .int minute), (3, .long bright), (5, .int v20_5)] [.int w20_0] G 0 0 := by
    intro v20_5 w20_0
    refine y_blk 3 tq_X8_sightOf (z := (24, [(6, .int w20_0), (0, .ref (ad 1)), (1, .int guard), (2, .int minute), (3, .long bright), (5, .int v20_5)], [.int (-1), .int guard])) rfl ?_
    refine y_icmp_ne tq_X8_sightOf 39 rfl rfl (fun c24 => ?_) (fun c24 => ?_)
    · skip
      refine y_blk 1 tq_X8_sightOf (z := (40, [(6, .int w20_0), (0, .ref (ad 1)), (1, .int guard), (2, .int minute), (3, .long bright), (5, .int v20_5)], [.int guard])) rfl ?_
      refine y_pick (L2 := [(0, .ref (ad 1)), (1, .int guard), (2, .int minute), (3, .long bright), (5, .int v20_5), (6, .int w20_0)]) [1, 2, 3, 4, 5, 0] rfl ?_
      exact J40 v20_5 w20_0 guard (by first | exact hg | (have h5 := hX.2.1 5; have h6 := xcap_le 5; rw [ysub (by rw [yl_1]; omega) (by rw [yl_1]; omega), yl_1]; omega))
    · skip
      refine y_blk 1 tq_X8_sightOf (z := (28, [(6, .int w20_0), (0, .ref (ad 1)), (1, .int guard), (2, .int minute), (3, .long bright), (5, .int v20_5)], [.ref (ad 1)])) rfl ?_
      refine y_get hS tq_X8_sightOf (v := .ref (ad 6)) rfl fg_X8_33_X8 (hX.1 1 _ rfl) rfl ?_
      refine y_blk 0 tq_X8_sightOf (z := (31, [(6, .int w20_0), (0, .ref (ad 1)), (1, .int guard), (2, .int minute), (3, .long bright), (5, .int v20_5)], [.ref (ad 6)])) rfl ?_
      refine y_callV hS tq_X8_sightOf rfl (As := []) rfl cv_X8_182 (hX.1 6 _ rfl) (m_X2_count hS hX ) rfl (by decide) (Nat.le_of_ble_eq_true rfl) (fun r31 Gc31 q31 => ?_) (fun E9 G9 h9 => h9.elim)
      obtain ⟨rfl, eG31⟩ := q31
      have eG31 := eG31.symm
      subst eG31
      refine y_blk 3 tq_X8_sightOf (z := (40, [(6, .int w20_0), (0, .ref (ad 1)), (1, .int guard), (2, .int minute), (3, .long bright), (5, .int v20_5)], [.int ((σ.1 5) - 1)])) rfl ?_
      refine y_pick (L2 := [(0, .ref (ad 1)), (1, .int guard), (2, .int minute), (3, .long bright), (5, .int v20_5), (6, .int w20_0)]) [1, 2, 3, 4, 5, 0] rfl ?_
      exact J40 v20_5 w20_0 ((σ.1 5) - 1) (by first | exact hg | (have h5 := hX.2.1 5; have h6 := xcap_le 5; rw [ysub (by rw [yl_1]; omega) (by rw [yl_1]; omega), yl_1]; omega))
  refine y_blk 1 tq_X8_sightOf (z := (1, [(0, .ref (ad 1)), (1, .int guard), (2, .int minute), (3, .long bright)], [.ref (ad 1)])) rfl ?_
  refine y_get hS tq_X8_sightOf (v := .ref (ad 5)) rfl fg_X8_26_X8 (hX.1 1 _ rfl) rfl ?_
  refine y_blk 1 tq_X8_sightOf (z := (5, [(0, .ref (ad 1)), (1, .int guard), (2, .int minute), (3, .long bright)], [.int minute, .ref (ad 5)])) rfl ?_
  refine y_callV hS tq_X8_sightOf rfl (As := [.int minute]) rfl cv_X8_216 (hX.1 5 _ rfl) (m_X0_fogAt hS hX minute) rfl (by decide) (Nat.le_of_ble_eq_true rfl) (fun r5 Gc5 q5 => ?_) (fun E9 G9 h9 => h9.elim)
  obtain ⟨⟨x5, rfl⟩, eG5⟩ := q5
  have eG5 := eG5.symm
  subst eG5
  refine y_blk 3 tq_X8_sightOf (z := (12, [(5, .int x5), (0, .ref (ad 1)), (1, .int guard), (2, .int minute), (3, .long bright)], [.int (-1), .int guard])) rfl ?_
  refine y_icmp_ne tq_X8_sightOf 19 rfl rfl (fun c12 => ?_) (fun c12 => ?_)
  · skip
    refine y_blk 1 tq_X8_sightOf (z := (20, [(5, .int x5), (0, .ref (ad 1)), (1, .int guard), (2, .int minute), (3, .long bright)], [.int guard])) rfl ?_
    refine y_pick (L2 := [(0, .ref (ad 1)), (1, .int guard), (2, .int minute), (3, .long bright), (5, .int x5)]) [1, 2, 3, 4, 0] rfl ?_
    exact J20 x5 guard
  · skip
    refine y_blk 2 tq_X8_sightOf (z := (20, [(5, .int x5), (0, .ref (ad 1)), (1, .int guard), (2, .int minute), (3, .long bright)], [.int 0])) rfl ?_
    refine y_pick (L2 := [(0, .ref (ad 1)), (1, .int guard), (2, .int minute), (3, .long bright), (5, .int x5)]) [1, 2, 3, 4, 0] rfl ?_
    exact J20 x5 0
set_option maxHeartbeats 4000000 in
set_option maxRecDepth 100000 in
theorem m_X8_watchedCells {l : Launch} {S0 : State} {A0 : Array Value} {D : va_G} {aC : Nat → ClassId} {ad : Nat → Nat} {G : AH} {σ : XS} (hS : yS l S0 A0 D aC) (hX : atX aC ad G σ) (minute : Int32) : yM l S0 D yX8_watchedCells cX8_watchedCells 2 (some .long) 13 0 0 [.ref (ad 1), .int minute] G (fun r G1 => (∃ v : Int64, r = some (.long v)) ∧ G1 = G) (fun _ _ => False) := by
  refine yM.ofK K_X8_watchedCells rfl (by decide) (Nat.le_of_ble_eq_true rfl) ?_
  refine y_blk 4 tq_X8_watchedCells (z := (4, [(0, .ref (ad 1)), (1, .int minute)], [.ref (ad 1), .int minute, .int (-1), .ref (ad 1)])) rfl ?_
  refine y_callV hS tq_X8_watchedCells rfl (As := []) rfl cv_X8_171 (hX.1 1 _ rfl) (m_X8_brightCells hS hX ) rfl (by decide) (Nat.le_of_ble_eq_true rfl) (fun r4 Gc4 q4 => ?_) (fun E9 G9 h9 => h9.elim)
  obtain ⟨⟨x4, rfl⟩, eG4⟩ := q4
  have eG4 := eG4.symm
  subst eG4
  refine y_blk 0 tq_X8_watchedCells (z := (7, [(0, .ref (ad 1)), (1, .int minute)], [.long x4, .int minute, .int (-1), .ref (ad 1)])) rfl ?_
  refine y_callV hS tq_X8_watchedCells rfl (As := [.int (-1), .int minute, .long x4]) rfl cv_X8_202 (hX.1 1 _ rfl) (m_X8_sightOf hS hX (-1) minute x4 (by decide)) rfl (by decide) (Nat.le_of_ble_eq_true rfl) (fun r7 Gc7 q7 => ?_) (fun E9 G9 h9 => h9.elim)
  obtain ⟨⟨x7, rfl⟩, eG7⟩ := q7
  have eG7 := eG7.symm
  subst eG7
  refine y_blk 0 tq_X8_watchedCells (z := (10, [(0, .ref (ad 1)), (1, .int minute)], [.long x7])) rfl ?_
  exact y_lret tq_X8_watchedCells rfl rfl (⟨⟨_, rfl⟩, rfl⟩)
set_option maxHeartbeats 4000000 in
set_option maxRecDepth 100000 in
theorem m_X8_guardsWhoSee {l : Launch} {S0 : State} {A0 : Array Value} {D : va_G} {aC : Nat → ClassId} {ad : Nat → Nat} {G : AH} {σ : XS} (hS : yS l S0 A0 D aC) (hX : atX aC ad G σ) (cell : Int32) (minute : Int32) : yM l S0 D yX8_guardsWhoSee cX8_guardsWhoSee 7 (some .int) 13 0 0 [.ref (ad 1), .int cell, .int minute] G (fun r G1 => (∃ v : Int32, r = some (.int v)) ∧ G1 = G) (fun _ _ => False) := by
  refine yM.ofK K_X8_guardsWhoSee rfl (by decide) (Nat.le_of_ble_eq_true rfl) ?_
  have J11 : ∀ (n11 : Nat) (v11_3 : Int64) (v11_5 : Int32) (v11_6 : Int32), ((σ.1 5 : Int32).toInt - v11_6.toInt).toNat = n11 → Y l S0 D K_X8_guardsWhoSee 13 0 0 (fun r G1 => (∃ v : Int32, r = some (.int v)) ∧ G1 = G) (fun _ _ => False) 11 [(0, .ref (ad 1)), (1, .int cell), (2, .int minute), (3, .long v11_3), (5, .int v11_5), (6, .int v11_6)] [] G 0 0 := by
    intro n11
    induction n11 using Nat.strongRecOn with
    | _ n11 ih11 =>
    intro v11_3 v11_5 v11_6 hn11
    subst hn11
    have J47 : ∀ (v47_5 : Int32) (c20 : ¬ (σ.1 5 : Int32) ≤ v11_6), Y l S0 D K_X8_guardsWhoSee 13 0 0 (fun r G1 => (∃ v : Int32, r = some (.int v)) ∧ G1 = G) (fun _ _ => False) 47 [(0, .ref (ad 1)), (1, .int cell), (2, .int minute), (3, .long v11_3), (5, .int v47_5), (6, .int v11_6)] [] G 0 0 := by
      intro v47_5 c20
      refine y_blk 2 tq_X8_guardsWhoSee (z := (11, [(6, .int (v11_6 + 1)), (0, .ref (ad 1)), (1, .int cell), (2, .int minute), (3, .long v11_3), (5, .int v47_5)], [])) rfl ?_
      refine y_pick (L2 := [(0, .ref (ad 1)), (1, .int cell), (2, .int minute), (3, .long v11_3), (5, .int v47_5), (6, .int (v11_6 + 1))]) [1, 2, 3, 4, 5, 0] rfl ?_
      exact ih11 _ (by exact ydec c20) v11_3 v47_5 (v11_6 + 1) rfl
    refine y_blk 2 tq_X8_guardsWhoSee (z := (14, [(0, .ref (ad 1)), (1, .int cell), (2, .int minute), (3, .long v11_3), (5, .int v11_5), (6, .int v11_6)], [.ref (ad 1), .int v11_6])) rfl ?_
    refine y_get hS tq_X8_guardsWhoSee (v := .ref (ad 6)) rfl fg_X8_33_X8 (hX.1 1 _ rfl) rfl ?_
    refine y_blk 0 tq_X8_guardsWhoSee (z := (17, [(0, .ref (ad 1)), (1, .int cell), (2, .int minute), (3, .long v11_3), (5, .int v11_5), (6, .int v11_6)], [.ref (ad 6), .int v11_6])) rfl ?_
    refine y_callV hS tq_X8_guardsWhoSee rfl (As := []) rfl cv_X8_182 (hX.1 6 _ rfl) (m_X2_count hS hX ) rfl (by decide) (Nat.le_of_ble_eq_true rfl) (fun r17 Gc17 q17 => ?_) (fun E9 G9 h9 => h9.elim)
    obtain ⟨rfl, eG17⟩ := q17
    have eG17 := eG17.symm
    subst eG17
    refine y_blk 0 tq_X8_guardsWhoSee (z := (20, [(0, .ref (ad 1)), (1, .int cell), (2, .int minute), (3, .long v11_3), (5, .int v11_5), (6, .int v11_6)], [.int (σ.1 5), .int v11_6])) rfl ?_
    refine y_icmp_ge tq_X8_guardsWhoSee 53 rfl rfl (fun c20 => ?_) (fun c20 => ?_)
    · skip
      refine y_blk 1 tq_X8_guardsWhoSee (z := (55, [(0, .ref (ad 1)), (1, .int cell), (2, .int minute), (3, .long v11_3), (5, .int v11_5), (6, .int v11_6)], [.int v11_5])) rfl ?_
      exact y_iret tq_X8_guardsWhoSee rfl rfl (⟨⟨_, rfl⟩, rfl⟩)
    · skip
      refine y_blk 4 tq_X8_guardsWhoSee (z := (28, [(0, .ref (ad 1)), (1, .int cell), (2, .int minute), (3, .long v11_3), (5, .int v11_5), (6, .int v11_6)], [.long v11_3, .int minute, .int v11_6, .ref (ad 1)])) rfl ?_
      refine y_callV hS tq_X8_guardsWhoSee rfl (As := [.int v11_6, .int minute, .long v11_3]) rfl cv_X8_202 (hX.1 1 _ rfl) (m_X8_sightOf hS hX v11_6 minute v11_3 (by rw [yle] at c20; have h5 := hX.2.1 5; have h6 := xcap_le 5; omega)) rfl (by decide) (Nat.le_of_ble_eq_true rfl) (fun r28 Gc28 q28 => ?_) (fun E9 G9 h9 => h9.elim)
      obtain ⟨⟨x28, rfl⟩, eG28⟩ := q28
      have eG28 := eG28.symm
      subst eG28
      refine y_blk 1 tq_X8_guardsWhoSee (z := (32, [(0, .ref (ad 1)), (1, .int cell), (2, .int minute), (3, .long v11_3), (5, .int v11_5), (6, .int v11_6)], [.int cell, .long x28])) rfl ?_
      refine y_callS hS tq_X8_guardsWhoSee rfl (As := [.long x28, .int cell]) rfl cs_X8_124 (m_X8_isOf hS  x28 cell) rfl (by decide) (Nat.le_of_ble_eq_true rfl) (fun r32 Gc32 q32 => ?_) (fun E9 G9 h9 => h9.elim)
      obtain ⟨rfl, eG32⟩ := q32
      have eG32 := eG32.symm
      subst eG32
      refine y_blk 0 tq_X8_guardsWhoSee (z := (35, [(0, .ref (ad 1)), (1, .int cell), (2, .int minute), (3, .long v11_3), (5, .int v11_5), (6, .int v11_6)], [.int (if xis x28 cell then 1 else 0)])) rfl ?_
      refine y_if_eq tq_X8_guardsWhoSee 47 rfl rfl (fun c35 => ?_) (fun c35 => ?_)
      · skip
        refine y_blk 0 tq_X8_guardsWhoSee (z := (47, [(0, .ref (ad 1)), (1, .int cell), (2, .int minute), (3, .long v11_3), (5, .int v11_5), (6, .int v11_6)], [])) rfl ?_
        exact J47 v11_5 (by exact c20)
      · skip
        refine y_blk 6 tq_X8_guardsWhoSee (z := (47, [(5, .int (v11_5 ||| (1 <<< (v11_6 &&& 31)))), (0, .ref (ad 1)), (1, .int cell), (2, .int minute), (3, .long v11_3), (6, .int v11_6)], [])) rfl ?_
        refine y_pick (L2 := [(0, .ref (ad 1)), (1, .int cell), (2, .int minute), (3, .long v11_3), (5, .int (v11_5 ||| (1 <<< (v11_6 &&& 31)))), (6, .int v11_6)]) [1, 2, 3, 4, 0, 5] rfl ?_
        exact J47 (v11_5 ||| (1 <<< (v11_6 &&& 31))) (by exact c20)
  refine y_blk 1 tq_X8_guardsWhoSee (z := (1, [(0, .ref (ad 1)), (1, .int cell), (2, .int minute)], [.ref (ad 1)])) rfl ?_
  refine y_callV hS tq_X8_guardsWhoSee rfl (As := []) rfl cv_X8_171 (hX.1 1 _ rfl) (m_X8_brightCells hS hX ) rfl (by decide) (Nat.le_of_ble_eq_true rfl) (fun r1 Gc1 q1 => ?_) (fun E9 G9 h9 => h9.elim)
  obtain ⟨⟨x1, rfl⟩, eG1⟩ := q1
  have eG1 := eG1.symm
  subst eG1
  refine y_blk 5 tq_X8_guardsWhoSee (z := (11, [(6, .int 0), (5, .int 0), (3, .long x1), (0, .ref (ad 1)), (1, .int cell), (2, .int minute)], [])) rfl ?_
  refine y_pick (L2 := [(0, .ref (ad 1)), (1, .int cell), (2, .int minute), (3, .long x1), (5, .int 0), (6, .int 0)]) [3, 4, 5, 2, 1, 0] rfl ?_
  exact J11 _ x1 0 0 rfl
set_option maxHeartbeats 4000000 in
set_option maxRecDepth 100000 in
theorem m_X8_unseenCells {l : Launch} {S0 : State} {A0 : Array Value} {D : va_G} {aC : Nat → ClassId} {ad : Nat → Nat} {G : AH} {σ : XS} (hS : yS l S0 A0 D aC) (hX : atX aC ad G σ) (minute : Int32) : yM l S0 D yX8_unseenCells cX8_unseenCells 2 (some .long) 14 0 0 [.ref (ad 1), .int minute] G (fun r G1 => (∃ v : Int64, r = some (.long v)) ∧ G1 = G) (fun _ _ => False) := by
  refine yM.ofK K_X8_unseenCells rfl (by decide) (Nat.le_of_ble_eq_true rfl) ?_
  refine y_blk 1 tq_X8_unseenCells (z := (1, [(0, .ref (ad 1)), (1, .int minute)], [.ref (ad 1)])) rfl ?_
  refine y_get hS tq_X8_unseenCells (v := .ref (ad 2)) rfl fg_X8_10_X8 (hX.1 1 _ rfl) rfl ?_
  refine y_blk 1 tq_X8_unseenCells (z := (5, [(0, .ref (ad 1)), (1, .int minute)], [.int minute, .ref (ad 2)])) rfl ?_
  refine y_callV hS tq_X8_unseenCells rfl (As := [.int minute]) rfl cv_X8_212 (hX.1 2 _ rfl) (m_X1_walkable hS hX minute) rfl (by decide) (Nat.le_of_ble_eq_true rfl) (fun r5 Gc5 q5 => ?_) (fun E9 G9 h9 => h9.elim)
  obtain ⟨⟨x5, rfl⟩, eG5⟩ := q5
  have eG5 := eG5.symm
  subst eG5
  refine y_blk 2 tq_X8_unseenCells (z := (10, [(0, .ref (ad 1)), (1, .int minute)], [.int minute, .ref (ad 1), .long x5])) rfl ?_
  refine y_callV hS tq_X8_unseenCells rfl (As := [.int minute]) rfl cv_X8_219 (hX.1 1 _ rfl) (m_X8_watchedCells hS hX minute) rfl (by decide) (Nat.le_of_ble_eq_true rfl) (fun r10 Gc10 q10 => ?_) (fun E9 G9 h9 => h9.elim)
  obtain ⟨⟨x10, rfl⟩, eG10⟩ := q10
  have eG10 := eG10.symm
  subst eG10
  refine y_blk 0 tq_X8_unseenCells (z := (13, [(0, .ref (ad 1)), (1, .int minute)], [.long x10, .long x5])) rfl ?_
  refine y_ldc2 hS tq_X8_unseenCells rfl ld_X8_222 ?_
  refine y_blk 2 tq_X8_unseenCells (z := (18, [(0, .ref (ad 1)), (1, .int minute)], [.long (x5 &&& (x10 ^^^ (-1)))])) rfl ?_
  exact y_lret tq_X8_unseenCells rfl rfl (⟨⟨_, rfl⟩, rfl⟩)
set_option maxHeartbeats 4000000 in
set_option maxRecDepth 100000 in
theorem m_X8_gainOfLamp {l : Launch} {S0 : State} {A0 : Array Value} {D : va_G} {aC : Nat → ClassId} {ad : Nat → Nat} {G : AH} {σ : XS} (hS : yS l S0 A0 D aC) (hX : atX aC ad G σ) (cell : Int32) (reach : Int32) (minute : Int32) : yM l S0 D yX8_gainOfLamp cX8_gainOfLamp 10 (some .int) 13 0 0 [.ref (ad 1), .int cell, .int reach, .int minute] G (fun r G1 => (∃ v : Int32, r = some (.int v)) ∧ G1 = G) (fun _ _ => False) := by
  refine yM.ofK K_X8_gainOfLamp rfl (by decide) (Nat.le_of_ble_eq_true rfl) ?_
  refine y_blk 1 tq_X8_gainOfLamp (z := (1, [(0, .ref (ad 1)), (1, .int cell), (2, .int reach), (3, .int minute)], [.ref (ad 1)])) rfl ?_
  refine y_callV hS tq_X8_gainOfLamp rfl (As := []) rfl cv_X8_171 (hX.1 1 _ rfl) (m_X8_brightCells hS hX ) rfl (by decide) (Nat.le_of_ble_eq_true rfl) (fun r1 Gc1 q1 => ?_) (fun E9 G9 h9 => h9.elim)
  obtain ⟨⟨x1, rfl⟩, eG1⟩ := q1
  have eG1 := eG1.symm
  subst eG1
  refine y_blk 5 tq_X8_gainOfLamp (z := (11, [(4, .long x1), (0, .ref (ad 1)), (1, .int cell), (2, .int reach), (3, .int minute)], [.long x1, .int minute, .int (-1), .ref (ad 1)])) rfl ?_
  refine y_callV hS tq_X8_gainOfLamp rfl (As := [.int (-1), .int minute, .long x1]) rfl cv_X8_202 (hX.1 1 _ rfl) (m_X8_sightOf hS hX (-1) minute x1 (by decide)) rfl (by decide) (Nat.le_of_ble_eq_true rfl) (fun r11 Gc11 q11 => ?_) (fun E9 G9 h9 => h9.elim)
  obtain ⟨⟨x11, rfl⟩, eG11⟩ := q11
  have eG11 := eG11.symm
  subst eG11
  refine y_blk 6 tq_X8_gainOfLamp (z := (22, [(6, .long x11), (4, .long x1), (0, .ref (ad 1)), (1, .int cell), (2, .int reach), (3, .int minute)], [.ref (ad 1), .long x1, .int minute, .int (-1), .ref (ad 1)])) rfl ?_
  refine y_get hS tq_X8_gainOfLamp (v := .ref (ad 2)) rfl fg_X8_10_X8 (hX.1 1 _ rfl) rfl ?_
  refine y_blk 2 tq_X8_gainOfLamp (z := (27, [(6, .long x11), (4, .long x1), (0, .ref (ad 1)), (1, .int cell), (2, .int reach), (3, .int minute)], [.int reach, .int cell, .ref (ad 2), .long x1, .int minute, .int (-1), .ref (ad 1)])) rfl ?_
  refine y_callV hS tq_X8_gainOfLamp rfl (As := [.int cell, .int reach]) rfl cv_X8_454 (hX.1 2 _ rfl) (m_X1_viewOf hS hX cell reach) rfl (by decide) (Nat.le_of_ble_eq_true rfl) (fun r27 Gc27 q27 => ?_) (fun E9 G9 h9 => h9.elim)
  obtain ⟨⟨x27, rfl⟩, eG27⟩ := q27
  have eG27 := eG27.symm
  subst eG27
  refine y_blk 1 tq_X8_gainOfLamp (z := (31, [(6, .long x11), (4, .long x1), (0, .ref (ad 1)), (1, .int cell), (2, .int reach), (3, .int minute)], [.long (x1 ||| x27), .int minute, .int (-1), .ref (ad 1)])) rfl ?_
  refine y_callV hS tq_X8_gainOfLamp rfl (As := [.int (-1), .int minute, .long (x1 ||| x27)]) rfl cv_X8_202 (hX.1 1 _ rfl) (m_X8_sightOf hS hX (-1) minute (x1 ||| x27) (by decide)) rfl (by decide) (Nat.le_of_ble_eq_true rfl) (fun r31 Gc31 q31 => ?_) (fun E9 G9 h9 => h9.elim)
  obtain ⟨⟨x31, rfl⟩, eG31⟩ := q31
  have eG31 := eG31.symm
  subst eG31
  refine y_blk 3 tq_X8_gainOfLamp (z := (40, [(8, .long x31), (6, .long x11), (4, .long x1), (0, .ref (ad 1)), (1, .int cell), (2, .int reach), (3, .int minute)], [.long x11, .long x31])) rfl ?_
  refine y_ldc2 hS tq_X8_gainOfLamp rfl ld_X8_222 ?_
  refine y_blk 3 tq_X8_gainOfLamp (z := (46, [(8, .long x31), (6, .long x11), (4, .long x1), (0, .ref (ad 1)), (1, .int cell), (2, .int reach), (3, .int minute)], [.ref (ad 1), .long (x31 &&& (x11 ^^^ (-1)))])) rfl ?_
  refine y_get hS tq_X8_gainOfLamp (v := .ref (ad 2)) rfl fg_X8_10_X8 (hX.1 1 _ rfl) rfl ?_
  refine y_blk 0 tq_X8_gainOfLamp (z := (49, [(8, .long x31), (6, .long x11), (4, .long x1), (0, .ref (ad 1)), (1, .int cell), (2, .int reach), (3, .int minute)], [.ref (ad 2), .long (x31 &&& (x11 ^^^ (-1)))])) rfl ?_
  refine y_callV hS tq_X8_gainOfLamp rfl (As := []) rfl cv_X8_104 (hX.1 2 _ rfl) (m_X1_openCells hS hX ) rfl (by decide) (Nat.le_of_ble_eq_true rfl) (fun r49 Gc49 q49 => ?_) (fun E9 G9 h9 => h9.elim)
  obtain ⟨rfl, eG49⟩ := q49
  have eG49 := eG49.symm
  subst eG49
  refine y_blk 1 tq_X8_gainOfLamp (z := (53, [(8, .long x31), (6, .long x11), (4, .long x1), (0, .ref (ad 1)), (1, .int cell), (2, .int reach), (3, .int minute)], [.long ((x31 &&& (x11 ^^^ (-1))) &&& ((xall (σ.2.2.1 0 * σ.2.2.1 1)) &&& ((σ.2.2.2.1 2) ^^^ (-1))))])) rfl ?_
  refine y_callS hS tq_X8_gainOfLamp rfl (As := [.long ((x31 &&& (x11 ^^^ (-1))) &&& ((xall (σ.2.2.1 0 * σ.2.2.1 1)) &&& ((σ.2.2.2.1 2) ^^^ (-1))))]) rfl cs_X8_108 (m_J13_bitCount_95d88 hS  ((x31 &&& (x11 ^^^ (-1))) &&& ((xall (σ.2.2.1 0 * σ.2.2.1 1)) &&& ((σ.2.2.2.1 2) ^^^ (-1))))) rfl (by decide) (Nat.le_of_ble_eq_true rfl) (fun r53 Gc53 q53 => ?_) (fun E9 G9 h9 => h9.elim)
  obtain ⟨rfl, eG53⟩ := q53
  have eG53 := eG53.symm
  subst eG53
  refine y_blk 0 tq_X8_gainOfLamp (z := (56, [(8, .long x31), (6, .long x11), (4, .long x1), (0, .ref (ad 1)), (1, .int cell), (2, .int reach), (3, .int minute)], [.int (bcL ((x31 &&& (x11 ^^^ (-1))) &&& ((xall (σ.2.2.1 0 * σ.2.2.1 1)) &&& ((σ.2.2.2.1 2) ^^^ (-1)))))])) rfl ?_
  exact y_iret tq_X8_gainOfLamp rfl rfl (⟨⟨_, rfl⟩, rfl⟩)
set_option maxHeartbeats 4000000 in
set_option maxRecDepth 100000 in
theorem m_X8_takenCells {l : Launch} {S0 : State} {A0 : Array Value} {D : va_G} {aC : Nat → ClassId} {ad : Nat → Nat} {G : AH} {σ : XS} (hS : yS l S0 A0 D aC) (hX : atX aC ad G σ) : yM l S0 D yX8_takenCells cX8_takenCells 1 (some .long) 13 0 0 [.ref (ad 1)] G (fun r G1 => (∃ v : Int64, xse v (xtkQ σ) ∧ r = some (.long v)) ∧ G1 = G) (fun _ _ => False) := by
  refine yM.ofK K_X8_takenCells rfl (by decide) (Nat.le_of_ble_eq_true rfl) ?_
  refine y_blk 1 tq_X8_takenCells (z := (1, [(0, .ref (ad 1))], [.ref (ad 1)])) rfl ?_
  refine y_get hS tq_X8_takenCells (v := .ref (ad 4)) rfl fg_X8_19_X8 (hX.1 1 _ rfl) rfl ?_
  refine y_blk 0 tq_X8_takenCells (z := (4, [(0, .ref (ad 1))], [.ref (ad 4)])) rfl ?_
  refine y_callV hS tq_X8_takenCells rfl (As := []) rfl cv_X8_461 (hX.1 4 _ rfl) (m_X4_cells hS hX ) rfl (by decide) (Nat.le_of_ble_eq_true rfl) (fun r4 Gc4 q4 => ?_) (fun E9 G9 h9 => h9.elim)
  obtain ⟨⟨x4, hr_x4, rfl⟩, eG4⟩ := q4
  have eG4 := eG4.symm
  subst eG4
  refine y_blk 1 tq_X8_takenCells (z := (8, [(0, .ref (ad 1))], [.ref (ad 1), .long x4])) rfl ?_
  refine y_get hS tq_X8_takenCells (v := .ref (ad 120)) rfl fg_X8_42_X8 (hX.1 1 _ rfl) rfl ?_
  refine y_blk 0 tq_X8_takenCells (z := (11, [(0, .ref (ad 1))], [.ref (ad 120), .long x4])) rfl ?_
  refine y_callV hS tq_X8_takenCells rfl (As := []) rfl cv_X8_463 (hX.num (k := 10) (by decide)) (m_X5_asCells hS hX (k := 10) (by decide) ) rfl (by decide) (Nat.le_of_ble_eq_true rfl) (fun r11 Gc11 q11 => ?_) (fun E9 G9 h9 => h9.elim)
  obtain ⟨⟨x11, hr_x11, rfl⟩, eG11⟩ := q11
  have eG11 := eG11.symm
  subst eG11
  refine y_blk 2 tq_X8_takenCells (z := (16, [(0, .ref (ad 1))], [.ref (ad 1), .long (x4 ||| x11)])) rfl ?_
  refine y_get hS tq_X8_takenCells (v := .ref (ad 6)) rfl fg_X8_33_X8 (hX.1 1 _ rfl) rfl ?_
  refine y_blk 0 tq_X8_takenCells (z := (19, [(0, .ref (ad 1))], [.ref (ad 6), .long (x4 ||| x11)])) rfl ?_
  refine y_callV hS tq_X8_takenCells rfl (As := []) rfl cv_X8_466 (hX.1 6 _ rfl) (m_X2_roundCells hS hX ) rfl (by decide) (Nat.le_of_ble_eq_true rfl) (fun r19 Gc19 q19 => ?_) (fun E9 G9 h9 => h9.elim)
  obtain ⟨⟨x19, hr_x19, rfl⟩, eG19⟩ := q19
  have eG19 := eG19.symm
  subst eG19
  refine y_blk 2 tq_X8_takenCells (z := (24, [(0, .ref (ad 1))], [.ref (ad 1), .long ((x4 ||| x11) ||| x19)])) rfl ?_
  refine y_get hS tq_X8_takenCells (v := .ref (ad 8)) rfl fg_X8_59_X8 (hX.1 1 _ rfl) rfl ?_
  refine y_blk 0 tq_X8_takenCells (z := (27, [(0, .ref (ad 1))], [.ref (ad 8), .long ((x4 ||| x11) ||| x19)])) rfl ?_
  refine y_callV hS tq_X8_takenCells rfl (As := []) rfl cv_X8_469 (hX.1 8 _ rfl) (m_X3_wayCells hS hX ) rfl (by decide) (Nat.le_of_ble_eq_true rfl) (fun r27 Gc27 q27 => ?_) (fun E9 G9 h9 => h9.elim)
  obtain ⟨⟨x27, hr_x27, rfl⟩, eG27⟩ := q27
  have eG27 := eG27.symm
  subst eG27
  refine y_blk 1 tq_X8_takenCells (z := (31, [(0, .ref (ad 1))], [.long (((x4 ||| x11) ||| x19) ||| x27)])) rfl ?_
  exact y_lret tq_X8_takenCells rfl rfl (⟨⟨_, ((hr_x4.or hr_x11).or hr_x19).or hr_x27, rfl⟩, rfl⟩)
set_option maxHeartbeats 4000000 in
set_option maxRecDepth 100000 in
theorem m_X8_countEmptyPosts {l : Launch} {S0 : State} {A0 : Array Value} {D : va_G} {aC : Nat → ClassId} {ad : Nat → Nat} {G : AH} {σ : XS} (hS : yS l S0 A0 D aC) (hX : atX aC ad G σ) (minute : Int32) : yM l S0 D yX8_countEmptyPosts cX8_countEmptyPosts 6 (some .int) 13 0 0 [.ref (ad 1), .int minute] G (fun r G1 => (∃ v : Int32, r = some (.int v)) ∧ G1 = G) (fun _ _ => False) := by
  refine yM.ofK K_X8_countEmptyPosts rfl (by decide) (Nat.le_of_ble_eq_true rfl) ?_
  have J15 : ∀ (n15 : Nat) (v15_2 : Int64) (v15_4 : Int32) (v15_5 : Int32), ((σ.1 10 : Int32).toInt - v15_5.toInt).toNat = n15 → Y l S0 D K_X8_countEmptyPosts 13 0 0 (fun r G1 => (∃ v : Int32, r = some (.int v)) ∧ G1 = G) (fun _ _ => False) 15 [(0, .ref (ad 1)), (1, .int minute), (2, .long v15_2), (4, .int v15_4), (5, .int v15_5)] [] G 0 0 := by
    intro n15
    induction n15 using Nat.strongRecOn with
    | _ n15 ih15 =>
    intro v15_2 v15_4 v15_5 hn15
    subst hn15
    have J46 : ∀ (v46_4 : Int32) (c24 : ¬ (σ.1 10 : Int32) ≤ v15_5), Y l S0 D K_X8_countEmptyPosts 13 0 0 (fun r G1 => (∃ v : Int32, r = some (.int v)) ∧ G1 = G) (fun _ _ => False) 46 [(0, .ref (ad 1)), (1, .int minute), (2, .long v15_2), (4, .int v46_4), (5, .int v15_5)] [] G 0 0 := by
      intro v46_4 c24
      refine y_blk 2 tq_X8_countEmptyPosts (z := (15, [(5, .int (v15_5 + 1)), (0, .ref (ad 1)), (1, .int minute), (2, .long v15_2), (4, .int v46_4)], [])) rfl ?_
      refine y_pick (L2 := [(0, .ref (ad 1)), (1, .int minute), (2, .long v15_2), (4, .int v46_4), (5, .int (v15_5 + 1))]) [1, 2, 3, 4, 0] rfl ?_
      exact ih15 _ (by exact ydec c24) v15_2 v46_4 (v15_5 + 1) rfl
    refine y_blk 2 tq_X8_countEmptyPosts (z := (18, [(0, .ref (ad 1)), (1, .int minute), (2, .long v15_2), (4, .int v15_4), (5, .int v15_5)], [.ref (ad 1), .int v15_5])) rfl ?_
    refine y_get hS tq_X8_countEmptyPosts (v := .ref (ad 120)) rfl fg_X8_42_X8 (hX.1 1 _ rfl) rfl ?_
    refine y_blk 0 tq_X8_countEmptyPosts (z := (21, [(0, .ref (ad 1)), (1, .int minute), (2, .long v15_2), (4, .int v15_4), (5, .int v15_5)], [.ref (ad 120), .int v15_5])) rfl ?_
    refine y_callV hS tq_X8_countEmptyPosts rfl (As := []) rfl cv_X8_193 (hX.num (k := 10) (by decide)) (m_X5_size hS hX (k := 10) (by decide) ) rfl (by decide) (Nat.le_of_ble_eq_true rfl) (fun r21 Gc21 q21 => ?_) (fun E9 G9 h9 => h9.elim)
    obtain ⟨rfl, eG21⟩ := q21
    have eG21 := eG21.symm
    subst eG21
    refine y_blk 0 tq_X8_countEmptyPosts (z := (24, [(0, .ref (ad 1)), (1, .int minute), (2, .long v15_2), (4, .int v15_4), (5, .int v15_5)], [.int (σ.1 10), .int v15_5])) rfl ?_
    refine y_icmp_ge tq_X8_countEmptyPosts 52 rfl rfl (fun c24 => ?_) (fun c24 => ?_)
    · skip
      refine y_blk 1 tq_X8_countEmptyPosts (z := (54, [(0, .ref (ad 1)), (1, .int minute), (2, .long v15_2), (4, .int v15_4), (5, .int v15_5)], [.int v15_4])) rfl ?_
      exact y_iret tq_X8_countEmptyPosts rfl rfl (⟨⟨_, rfl⟩, rfl⟩)
    · skip
      refine y_blk 2 tq_X8_countEmptyPosts (z := (29, [(0, .ref (ad 1)), (1, .int minute), (2, .long v15_2), (4, .int v15_4), (5, .int v15_5)], [.ref (ad 1), .long v15_2])) rfl ?_
      refine y_get hS tq_X8_countEmptyPosts (v := .ref (ad 120)) rfl fg_X8_42_X8 (hX.1 1 _ rfl) rfl ?_
      refine y_blk 1 tq_X8_countEmptyPosts (z := (34, [(0, .ref (ad 1)), (1, .int minute), (2, .long v15_2), (4, .int v15_4), (5, .int v15_5)], [.int v15_5, .ref (ad 120), .long v15_2])) rfl ?_
      refine y_callV hS tq_X8_countEmptyPosts rfl (As := [.int v15_5]) rfl cv_X8_239 (hX.num (k := 10) (by decide)) (m_X5_at hS hX (k := 10) (by decide) v15_5) rfl (by decide) (Nat.le_of_ble_eq_true rfl) (fun r34 Gc34 q34 => ?_) (fun E9 G9 h9 => h9.elim)
      obtain ⟨rfl, eG34⟩ := q34
      have eG34 := eG34.symm
      subst eG34
      refine y_blk 0 tq_X8_countEmptyPosts (z := (37, [(0, .ref (ad 1)), (1, .int minute), (2, .long v15_2), (4, .int v15_4), (5, .int v15_5)], [.int (xat σ 10 v15_5), .long v15_2])) rfl ?_
      refine y_callS hS tq_X8_countEmptyPosts rfl (As := [.long v15_2, .int (xat σ 10 v15_5)]) rfl cs_X8_124 (m_X8_isOf hS  v15_2 (xat σ 10 v15_5)) rfl (by decide) (Nat.le_of_ble_eq_true rfl) (fun r37 Gc37 q37 => ?_) (fun E9 G9 h9 => h9.elim)
      obtain ⟨rfl, eG37⟩ := q37
      have eG37 := eG37.symm
      subst eG37
      refine y_blk 0 tq_X8_countEmptyPosts (z := (40, [(0, .ref (ad 1)), (1, .int minute), (2, .long v15_2), (4, .int v15_4), (5, .int v15_5)], [.int (if xis v15_2 (xat σ 10 v15_5) then 1 else 0)])) rfl ?_
      refine y_if_ne tq_X8_countEmptyPosts 46 rfl rfl (fun c40 => ?_) (fun c40 => ?_)
      · skip
        refine y_blk 0 tq_X8_countEmptyPosts (z := (46, [(0, .ref (ad 1)), (1, .int minute), (2, .long v15_2), (4, .int v15_4), (5, .int v15_5)], [])) rfl ?_
        exact J46 v15_4 (by exact c24)
      · skip
        refine y_blk 1 tq_X8_countEmptyPosts (z := (46, [(4, .int (v15_4 + 1)), (0, .ref (ad 1)), (1, .int minute), (2, .long v15_2), (5, .int v15_5)], [])) rfl ?_
        refine y_pick (L2 := [(0, .ref (ad 1)), (1, .int minute), (2, .long v15_2), (4, .int (v15_4 + 1)), (5, .int v15_5)]) [1, 2, 3, 0, 4] rfl ?_
        exact J46 (v15_4 + 1) (by exact c24)
  refine y_blk 1 tq_X8_countEmptyPosts (z := (1, [(0, .ref (ad 1)), (1, .int minute)], [.ref (ad 1)])) rfl ?_
  refine y_get hS tq_X8_countEmptyPosts (v := .ref (ad 6)) rfl fg_X8_33_X8 (hX.1 1 _ rfl) rfl ?_
  refine y_blk 1 tq_X8_countEmptyPosts (z := (5, [(0, .ref (ad 1)), (1, .int minute)], [.int minute, .ref (ad 6)])) rfl ?_
  refine y_callV hS tq_X8_countEmptyPosts rfl (As := [.int minute]) rfl cv_X8_236 (hX.1 6 _ rfl) (m_X2_cellsHeld hS hX minute) rfl (by decide) (Nat.le_of_ble_eq_true rfl) (fun r5 Gc5 q5 => ?_) (fun E9 G9 h9 => h9.elim)
  obtain ⟨⟨x5, rfl⟩, eG5⟩ := q5
  have eG5 := eG5.symm
  subst eG5
  refine y_blk 5 tq_X8_countEmptyPosts (z := (15, [(5, .int 0), (4, .int 0), (2, .long x5), (0, .ref (ad 1)), (1, .int minute)], [])) rfl ?_
  refine y_pick (L2 := [(0, .ref (ad 1)), (1, .int minute), (2, .long x5), (4, .int 0), (5, .int 0)]) [3, 4, 2, 1, 0] rfl ?_
  exact J15 _ x5 0 0 rfl
set_option maxHeartbeats 4000000 in
set_option maxRecDepth 100000 in
theorem m_X8_countMinutesOfEmptyPosts {l : Launch} {S0 : State} {A0 : Array Value} {D : va_G} {aC : Nat → ClassId} {ad : Nat → Nat} {G : AH} {σ : XS} (hS : yS l S0 A0 D aC) (hX : atX aC ad G σ) : yM l S0 D yX8_countMinutesOfEmptyPosts cX8_countMinutesOfEmptyPosts 3 (some .int) 14 0 0 [.ref (ad 1)] G (fun r G1 => (∃ v : Int32, r = some (.int v)) ∧ G1 = G) (fun _ _ => False) := by
  refine yM.ofK K_X8_countMinutesOfEmptyPosts rfl (by decide) (Nat.le_of_ble_eq_true rfl) ?_
  have J4 : ∀ (n4 : Nat) (v4_1 : Int32) (v4_2 : Int32), ((240 : Int32).toInt - v4_2.toInt).toNat = n4 → Y l S0 D K_X8_countMinutesOfEmptyPosts 14 0 0 (fun r G1 => (∃ v : Int32, r = some (.int v)) ∧ G1 = G) (fun _ _ => False) 4 [(0, .ref (ad 1)), (1, .int v4_1), (2, .int v4_2)] [] G 0 0 := by
    intro n4
    induction n4 using Nat.strongRecOn with
    | _ n4 ih4 =>
    intro v4_1 v4_2 hn4
    subst hn4
    have J22 : ∀ (v22_1 : Int32) (c8 : ¬ (240 : Int32) ≤ v4_2), Y l S0 D K_X8_countMinutesOfEmptyPosts 14 0 0 (fun r G1 => (∃ v : Int32, r = some (.int v)) ∧ G1 = G) (fun _ _ => False) 22 [(0, .ref (ad 1)), (1, .int v22_1), (2, .int v4_2)] [] G 0 0 := by
      intro v22_1 c8
      refine y_blk 2 tq_X8_countMinutesOfEmptyPosts (z := (4, [(2, .int (v4_2 + 1)), (0, .ref (ad 1)), (1, .int v22_1)], [])) rfl ?_
      refine y_pick (L2 := [(0, .ref (ad 1)), (1, .int v22_1), (2, .int (v4_2 + 1))]) [1, 2, 0] rfl ?_
      exact ih4 _ (by exact ydec c8) v22_1 (v4_2 + 1) rfl
    refine y_blk 2 tq_X8_countMinutesOfEmptyPosts (z := (8, [(0, .ref (ad 1)), (1, .int v4_1), (2, .int v4_2)], [.int 240, .int v4_2])) rfl ?_
    refine y_icmp_ge tq_X8_countMinutesOfEmptyPosts 28 rfl rfl (fun c8 => ?_) (fun c8 => ?_)
    · skip
      refine y_blk 1 tq_X8_countMinutesOfEmptyPosts (z := (29, [(0, .ref (ad 1)), (1, .int v4_1), (2, .int v4_2)], [.int v4_1])) rfl ?_
      exact y_iret tq_X8_countMinutesOfEmptyPosts rfl rfl (⟨⟨_, rfl⟩, rfl⟩)
    · skip
      refine y_blk 2 tq_X8_countMinutesOfEmptyPosts (z := (13, [(0, .ref (ad 1)), (1, .int v4_1), (2, .int v4_2)], [.int v4_2, .ref (ad 1)])) rfl ?_
      refine y_callV hS tq_X8_countMinutesOfEmptyPosts rfl (As := [.int v4_2]) rfl cv_X8_230 (hX.1 1 _ rfl) (m_X8_countEmptyPosts hS hX v4_2) rfl (by decide) (Nat.le_of_ble_eq_true rfl) (fun r13 Gc13 q13 => ?_) (fun E9 G9 h9 => h9.elim)
      obtain ⟨⟨x13, rfl⟩, eG13⟩ := q13
      have eG13 := eG13.symm
      subst eG13
      refine y_blk 0 tq_X8_countMinutesOfEmptyPosts (z := (16, [(0, .ref (ad 1)), (1, .int v4_1), (2, .int v4_2)], [.int x13])) rfl ?_
      refine y_if_le tq_X8_countMinutesOfEmptyPosts 22 rfl rfl (fun c16 => ?_) (fun c16 => ?_)
      · skip
        refine y_blk 0 tq_X8_countMinutesOfEmptyPosts (z := (22, [(0, .ref (ad 1)), (1, .int v4_1), (2, .int v4_2)], [])) rfl ?_
        exact J22 v4_1 (by exact c8)
      · skip
        refine y_blk 1 tq_X8_countMinutesOfEmptyPosts (z := (22, [(1, .int (v4_1 + 1)), (0, .ref (ad 1)), (2, .int v4_2)], [])) rfl ?_
        refine y_pick (L2 := [(0, .ref (ad 1)), (1, .int (v4_1 + 1)), (2, .int v4_2)]) [1, 0, 2] rfl ?_
        exact J22 (v4_1 + 1) (by exact c8)
  refine y_blk 4 tq_X8_countMinutesOfEmptyPosts (z := (4, [(2, .int 0), (1, .int 0), (0, .ref (ad 1))], [])) rfl ?_
  refine y_pick (L2 := [(0, .ref (ad 1)), (1, .int 0), (2, .int 0)]) [2, 1, 0] rfl ?_
  exact J4 _ 0 0 rfl
set_option maxHeartbeats 4000000 in
set_option maxRecDepth 100000 in
theorem m_X8_countKeysOffDuty {l : Launch} {S0 : State} {A0 : Array Value} {D : va_G} {aC : Nat → ClassId} {ad : Nat → Nat} {G : AH} {σ : XS} (hS : yS l S0 A0 D aC) (hX : atX aC ad G σ) (minute : Int32) : yM l S0 D yX8_countKeysOffDuty cX8_countKeysOffDuty 5 (some .int) 13 0 0 [.ref (ad 1), .int minute] G (fun r G1 => (∃ v : Int32, r = some (.int v)) ∧ G1 = G) (fun _ _ => False) := by
  refine yM.ofK K_X8_countKeysOffDuty rfl (by decide) (Nat.le_of_ble_eq_true rfl) ?_
  have J4 : ∀ (n4 : Nat) (v4_2 : Int32) (v4_3 : Int32), ((6 : Int32).toInt - v4_3.toInt).toNat = n4 → Y l S0 D K_X8_countKeysOffDuty 13 0 0 (fun r G1 => (∃ v : Int32, r = some (.int v)) ∧ G1 = G) (fun _ _ => False) 4 [(0, .ref (ad 1)), (1, .int minute), (2, .int v4_2), (3, .int v4_3)] [] G 0 0 := by
    intro n4
    induction n4 using Nat.strongRecOn with
    | _ n4 ih4 =>
    intro v4_2 v4_3 hn4
    subst hn4
    have J42 : ∀ (v42_2 : Int32) (v42_4 : Int32) (c7 : ¬ (6 : Int32) ≤ v4_3), Y l S0 D K_X8_countKeysOffDuty 13 0 0 (fun r G1 => (∃ v : Int32, r = some (.int v)) ∧ G1 = G) (fun _ _ => False) 42 [(0, .ref (ad 1)), (1, .int minute), (2, .int v42_2), (3, .int v4_3), (4, .int v42_4)] [] G 0 0 := by
      intro v42_2 v42_4 c7
      refine y_blk 2 tq_X8_countKeysOffDuty (z := (4, [(3, .int (v4_3 + 1)), (0, .ref (ad 1)), (1, .int minute), (2, .int v42_2), (4, .int v42_4)], [])) rfl ?_
      refine y_pick (L2 := [(0, .ref (ad 1)), (1, .int minute), (2, .int v42_2), (3, .int (v4_3 + 1))]) [1, 2, 3, 0] rfl ?_
      exact ih4 _ (by exact ydec c7) v42_2 (v4_3 + 1) rfl
    refine y_blk 2 tq_X8_countKeysOffDuty (z := (7, [(0, .ref (ad 1)), (1, .int minute), (2, .int v4_2), (3, .int v4_3)], [.int 6, .int v4_3])) rfl ?_
    refine y_icmp_ge tq_X8_countKeysOffDuty 48 rfl rfl (fun c7 => ?_) (fun c7 => ?_)
    · skip
      refine y_blk 1 tq_X8_countKeysOffDuty (z := (49, [(0, .ref (ad 1)), (1, .int minute), (2, .int v4_2), (3, .int v4_3)], [.int v4_2])) rfl ?_
      exact y_iret tq_X8_countKeysOffDuty rfl rfl (⟨⟨_, rfl⟩, rfl⟩)
    · skip
      refine y_blk 1 tq_X8_countKeysOffDuty (z := (11, [(0, .ref (ad 1)), (1, .int minute), (2, .int v4_2), (3, .int v4_3)], [.ref (ad 1)])) rfl ?_
      refine y_get hS tq_X8_countKeysOffDuty (v := .ref (ad 130)) rfl fg_X8_53_X8 (hX.1 1 _ rfl) rfl ?_
      refine y_blk 1 tq_X8_countKeysOffDuty (z := (15, [(0, .ref (ad 1)), (1, .int minute), (2, .int v4_2), (3, .int v4_3)], [.int v4_3, .ref (ad 130)])) rfl ?_
      refine y_callV hS tq_X8_countKeysOffDuty rfl (As := [.int v4_3]) rfl cv_X8_239 (hX.num (k := 15) (by decide)) (m_X5_at hS hX (k := 15) (by decide) v4_3) rfl (by decide) (Nat.le_of_ble_eq_true rfl) (fun r15 Gc15 q15 => ?_) (fun E9 G9 h9 => h9.elim)
      obtain ⟨rfl, eG15⟩ := q15
      have eG15 := eG15.symm
      subst eG15
      refine y_blk 3 tq_X8_countKeysOffDuty (z := (23, [(4, .int (xat σ 15 v4_3)), (0, .ref (ad 1)), (1, .int minute), (2, .int v4_2), (3, .int v4_3)], [.int (-1), .int (xat σ 15 v4_3)])) rfl ?_
      refine y_icmp_eq tq_X8_countKeysOffDuty 42 rfl rfl (fun c23 => ?_) (fun c23 => ?_)
      · skip
        refine y_blk 0 tq_X8_countKeysOffDuty (z := (42, [(4, .int (xat σ 15 v4_3)), (0, .ref (ad 1)), (1, .int minute), (2, .int v4_2), (3, .int v4_3)], [])) rfl ?_
        refine y_pick (L2 := [(0, .ref (ad 1)), (1, .int minute), (2, .int v4_2), (3, .int v4_3), (4, .int (xat σ 15 v4_3))]) [1, 2, 3, 4, 0] rfl ?_
        exact J42 v4_2 (xat σ 15 v4_3) (by exact c7)
      · skip
        refine y_blk 1 tq_X8_countKeysOffDuty (z := (27, [(4, .int (xat σ 15 v4_3)), (0, .ref (ad 1)), (1, .int minute), (2, .int v4_2), (3, .int v4_3)], [.ref (ad 1)])) rfl ?_
        refine y_get hS tq_X8_countKeysOffDuty (v := .ref (ad 6)) rfl fg_X8_33_X8 (hX.1 1 _ rfl) rfl ?_
        refine y_blk 2 tq_X8_countKeysOffDuty (z := (33, [(4, .int (xat σ 15 v4_3)), (0, .ref (ad 1)), (1, .int minute), (2, .int v4_2), (3, .int v4_3)], [.int minute, .int (xat σ 15 v4_3), .ref (ad 6)])) rfl ?_
        refine y_callV hS tq_X8_countKeysOffDuty rfl (As := [.int (xat σ 15 v4_3), .int minute]) rfl cv_X8_472 (hX.1 6 _ rfl) (m_X2_isOnDuty hS hX (xat σ 15 v4_3) minute) rfl (by decide) (Nat.le_of_ble_eq_true rfl) (fun r33 Gc33 q33 => ?_) (fun E9 G9 h9 => h9.elim)
        obtain ⟨⟨x33, hb_x33, rfl⟩, eG33⟩ := q33
        have eG33 := eG33.symm
        subst eG33
        refine y_blk 0 tq_X8_countKeysOffDuty (z := (36, [(4, .int (xat σ 15 v4_3)), (0, .ref (ad 1)), (1, .int minute), (2, .int v4_2), (3, .int v4_3)], [.int x33])) rfl ?_
        refine y_if_ne tq_X8_countKeysOffDuty 42 rfl rfl (fun c36 => ?_) (fun c36 => ?_)
        · skip
          refine y_blk 0 tq_X8_countKeysOffDuty (z := (42, [(4, .int (xat σ 15 v4_3)), (0, .ref (ad 1)), (1, .int minute), (2, .int v4_2), (3, .int v4_3)], [])) rfl ?_
          refine y_pick (L2 := [(0, .ref (ad 1)), (1, .int minute), (2, .int v4_2), (3, .int v4_3), (4, .int (xat σ 15 v4_3))]) [1, 2, 3, 4, 0] rfl ?_
          exact J42 v4_2 (xat σ 15 v4_3) (by exact c7)
        · skip
          refine y_blk 1 tq_X8_countKeysOffDuty (z := (42, [(2, .int (v4_2 + 1)), (4, .int (xat σ 15 v4_3)), (0, .ref (ad 1)), (1, .int minute), (3, .int v4_3)], [])) rfl ?_
          refine y_pick (L2 := [(0, .ref (ad 1)), (1, .int minute), (2, .int (v4_2 + 1)), (3, .int v4_3), (4, .int (xat σ 15 v4_3))]) [2, 3, 0, 4, 1] rfl ?_
          exact J42 (v4_2 + 1) (xat σ 15 v4_3) (by exact c7)
  refine y_blk 4 tq_X8_countKeysOffDuty (z := (4, [(3, .int 0), (2, .int 0), (0, .ref (ad 1)), (1, .int minute)], [])) rfl ?_
  refine y_pick (L2 := [(0, .ref (ad 1)), (1, .int minute), (2, .int 0), (3, .int 0)]) [2, 3, 1, 0] rfl ?_
  exact J4 _ 0 0 rfl
set_option maxHeartbeats 4000000 in
set_option maxRecDepth 100000 in
theorem m_X8_foundAt {l : Launch} {S0 : State} {A0 : Array Value} {D : va_G} {aC : Nat → ClassId} {ad : Nat → Nat} {G : AH} {σ : XS} (hS : yS l S0 A0 D aC) (hX : atX aC ad G σ) (intruder : Int32) : yM l S0 D yX8_foundAt cX8_foundAt 6 (some .int) 13 0 0 [.ref (ad 1), .int intruder] G (fun r G1 => (∃ v : Int32, r = some (.int v)) ∧ G1 = G) (fun _ _ => False) := by
  refine yM.ofK K_X8_foundAt rfl (by decide) (Nat.le_of_ble_eq_true rfl) ?_
  have J8 : ∀ (n8 : Nat) (v8_2 : Int64) (v8_4 : Int32), ((240 : Int32).toInt - v8_4.toInt).toNat = n8 → Y l S0 D K_X8_foundAt 13 0 0 (fun r G1 => (∃ v : Int32, r = some (.int v)) ∧ G1 = G) (fun _ _ => False) 8 [(0, .ref (ad 1)), (1, .int intruder), (2, .long v8_2), (4, .int v8_4)] [] G 0 0 := by
    intro n8
    induction n8 using Nat.strongRecOn with
    | _ n8 ih8 =>
    intro v8_2 v8_4 hn8
    subst hn8
    have J53 : ∀ (v53_5 : Int32) (c13 : ¬ (240 : Int32) ≤ v8_4), Y l S0 D K_X8_foundAt 13 0 0 (fun r G1 => (∃ v : Int32, r = some (.int v)) ∧ G1 = G) (fun _ _ => False) 53 [(0, .ref (ad 1)), (1, .int intruder), (2, .long v8_2), (4, .int v8_4), (5, .int v53_5)] [] G 0 0 := by
      intro v53_5 c13
      refine y_blk 2 tq_X8_foundAt (z := (8, [(4, .int (v8_4 + 1)), (0, .ref (ad 1)), (1, .int intruder), (2, .long v8_2), (5, .int v53_5)], [])) rfl ?_
      refine y_pick (L2 := [(0, .ref (ad 1)), (1, .int intruder), (2, .long v8_2), (4, .int (v8_4 + 1))]) [1, 2, 3, 0] rfl ?_
      exact ih8 _ (by exact ydec c13) v8_2 (v8_4 + 1) rfl
    refine y_blk 2 tq_X8_foundAt (z := (13, [(0, .ref (ad 1)), (1, .int intruder), (2, .long v8_2), (4, .int v8_4)], [.int 240, .int v8_4])) rfl ?_
    refine y_icmp_ge tq_X8_foundAt 59 rfl rfl (fun c13 => ?_) (fun c13 => ?_)
    · skip
      refine y_blk 1 tq_X8_foundAt (z := (60, [(0, .ref (ad 1)), (1, .int intruder), (2, .long v8_2), (4, .int v8_4)], [.int (-1)])) rfl ?_
      exact y_iret tq_X8_foundAt rfl rfl (⟨⟨_, rfl⟩, rfl⟩)
    · skip
      refine y_blk 1 tq_X8_foundAt (z := (17, [(0, .ref (ad 1)), (1, .int intruder), (2, .long v8_2), (4, .int v8_4)], [.ref (ad 1)])) rfl ?_
      refine y_get hS tq_X8_foundAt (v := .ref (ad 8)) rfl fg_X8_59_X8 (hX.1 1 _ rfl) rfl ?_
      refine y_blk 2 tq_X8_foundAt (z := (23, [(0, .ref (ad 1)), (1, .int intruder), (2, .long v8_2), (4, .int v8_4)], [.int v8_4, .int intruder, .ref (ad 8)])) rfl ?_
      refine y_callV hS tq_X8_foundAt rfl (As := [.int intruder, .int v8_4]) rfl cv_X8_295 (hX.1 8 _ rfl) (m_X3_cellAt hS hX intruder v8_4) rfl (by decide) (Nat.le_of_ble_eq_true rfl) (fun r23 Gc23 q23 => ?_) (fun E9 G9 h9 => h9.elim)
      obtain ⟨⟨x23, rfl⟩, eG23⟩ := q23
      have eG23 := eG23.symm
      subst eG23
      refine y_blk 3 tq_X8_foundAt (z := (31, [(5, .int x23), (0, .ref (ad 1)), (1, .int intruder), (2, .long v8_2), (4, .int v8_4)], [.int (-1), .int x23])) rfl ?_
      refine y_icmp_eq tq_X8_foundAt 53 rfl rfl (fun c31 => ?_) (fun c31 => ?_)
      · skip
        refine y_blk 0 tq_X8_foundAt (z := (53, [(5, .int x23), (0, .ref (ad 1)), (1, .int intruder), (2, .long v8_2), (4, .int v8_4)], [])) rfl ?_
        refine y_pick (L2 := [(0, .ref (ad 1)), (1, .int intruder), (2, .long v8_2), (4, .int v8_4), (5, .int x23)]) [1, 2, 3, 4, 0] rfl ?_
        exact J53 x23 (by exact c13)
      · skip
        refine y_blk 4 tq_X8_foundAt (z := (39, [(5, .int x23), (0, .ref (ad 1)), (1, .int intruder), (2, .long v8_2), (4, .int v8_4)], [.long v8_2, .int v8_4, .int (-1), .ref (ad 1)])) rfl ?_
        refine y_callV hS tq_X8_foundAt rfl (As := [.int (-1), .int v8_4, .long v8_2]) rfl cv_X8_202 (hX.1 1 _ rfl) (m_X8_sightOf hS hX (-1) v8_4 v8_2 (by decide)) rfl (by decide) (Nat.le_of_ble_eq_true rfl) (fun r39 Gc39 q39 => ?_) (fun E9 G9 h9 => h9.elim)
        obtain ⟨⟨x39, rfl⟩, eG39⟩ := q39
        have eG39 := eG39.symm
        subst eG39
        refine y_blk 1 tq_X8_foundAt (z := (44, [(5, .int x23), (0, .ref (ad 1)), (1, .int intruder), (2, .long v8_2), (4, .int v8_4)], [.int x23, .long x39])) rfl ?_
        refine y_callS hS tq_X8_foundAt rfl (As := [.long x39, .int x23]) rfl cs_X8_124 (m_X8_isOf hS  x39 x23) rfl (by decide) (Nat.le_of_ble_eq_true rfl) (fun r44 Gc44 q44 => ?_) (fun E9 G9 h9 => h9.elim)
        obtain ⟨rfl, eG44⟩ := q44
        have eG44 := eG44.symm
        subst eG44
        refine y_blk 0 tq_X8_foundAt (z := (47, [(5, .int x23), (0, .ref (ad 1)), (1, .int intruder), (2, .long v8_2), (4, .int v8_4)], [.int (if xis x39 x23 then 1 else 0)])) rfl ?_
        refine y_if_eq tq_X8_foundAt 53 rfl rfl (fun c47 => ?_) (fun c47 => ?_)
        · skip
          refine y_blk 0 tq_X8_foundAt (z := (53, [(5, .int x23), (0, .ref (ad 1)), (1, .int intruder), (2, .long v8_2), (4, .int v8_4)], [])) rfl ?_
          refine y_pick (L2 := [(0, .ref (ad 1)), (1, .int intruder), (2, .long v8_2), (4, .int v8_4), (5, .int x23)]) [1, 2, 3, 4, 0] rfl ?_
          exact J53 x23 (by exact c13)
        · skip
          refine y_blk 1 tq_X8_foundAt (z := (52, [(5, .int x23), (0, .ref (ad 1)), (1, .int intruder), (2, .long v8_2), (4, .int v8_4)], [.int v8_4])) rfl ?_
          exact y_iret tq_X8_foundAt rfl rfl (⟨⟨_, rfl⟩, rfl⟩)
  refine y_blk 1 tq_X8_foundAt (z := (1, [(0, .ref (ad 1)), (1, .int intruder)], [.ref (ad 1)])) rfl ?_
  refine y_callV hS tq_X8_foundAt rfl (As := []) rfl cv_X8_171 (hX.1 1 _ rfl) (m_X8_brightCells hS hX ) rfl (by decide) (Nat.le_of_ble_eq_true rfl) (fun r1 Gc1 q1 => ?_) (fun E9 G9 h9 => h9.elim)
  obtain ⟨⟨x1, rfl⟩, eG1⟩ := q1
  have eG1 := eG1.symm
  subst eG1
  refine y_blk 3 tq_X8_foundAt (z := (8, [(4, .int 0), (2, .long x1), (0, .ref (ad 1)), (1, .int intruder)], [])) rfl ?_
  refine y_pick (L2 := [(0, .ref (ad 1)), (1, .int intruder), (2, .long x1), (4, .int 0)]) [2, 3, 1, 0] rfl ?_
  exact J8 _ x1 0 rfl
set_option maxHeartbeats 4000000 in
set_option maxRecDepth 100000 in
theorem m_X8_countFound {l : Launch} {S0 : State} {A0 : Array Value} {D : va_G} {aC : Nat → ClassId} {ad : Nat → Nat} {G : AH} {σ : XS} (hS : yS l S0 A0 D aC) (hX : atX aC ad G σ) : yM l S0 D yX8_countFound cX8_countFound 3 (some .int) 14 0 0 [.ref (ad 1)] G (fun r G1 => (∃ v : Int32, r = some (.int v)) ∧ G1 = G) (fun _ _ => False) := by
  refine yM.ofK K_X8_countFound rfl (by decide) (Nat.le_of_ble_eq_true rfl) ?_
  have J4 : ∀ (n4 : Nat) (v4_1 : Int32) (v4_2 : Int32), ((σ.1 16 : Int32).toInt - v4_2.toInt).toNat = n4 → Y l S0 D K_X8_countFound 14 0 0 (fun r G1 => (∃ v : Int32, r = some (.int v)) ∧ G1 = G) (fun _ _ => False) 4 [(0, .ref (ad 1)), (1, .int v4_1), (2, .int v4_2)] [] G 0 0 := by
    intro n4
    induction n4 using Nat.strongRecOn with
    | _ n4 ih4 =>
    intro v4_1 v4_2 hn4
    subst hn4
    have J27 : ∀ (v27_1 : Int32) (c12 : ¬ (σ.1 16 : Int32) ≤ v4_2), Y l S0 D K_X8_countFound 14 0 0 (fun r G1 => (∃ v : Int32, r = some (.int v)) ∧ G1 = G) (fun _ _ => False) 27 [(0, .ref (ad 1)), (1, .int v27_1), (2, .int v4_2)] [] G 0 0 := by
      intro v27_1 c12
      refine y_blk 2 tq_X8_countFound (z := (4, [(2, .int (v4_2 + 1)), (0, .ref (ad 1)), (1, .int v27_1)], [])) rfl ?_
      refine y_pick (L2 := [(0, .ref (ad 1)), (1, .int v27_1), (2, .int (v4_2 + 1))]) [1, 2, 0] rfl ?_
      exact ih4 _ (by exact ydec c12) v27_1 (v4_2 + 1) rfl
    refine y_blk 2 tq_X8_countFound (z := (6, [(0, .ref (ad 1)), (1, .int v4_1), (2, .int v4_2)], [.ref (ad 1), .int v4_2])) rfl ?_
    refine y_get hS tq_X8_countFound (v := .ref (ad 8)) rfl fg_X8_59_X8 (hX.1 1 _ rfl) rfl ?_
    refine y_blk 0 tq_X8_countFound (z := (9, [(0, .ref (ad 1)), (1, .int v4_1), (2, .int v4_2)], [.ref (ad 8), .int v4_2])) rfl ?_
    refine y_callV hS tq_X8_countFound rfl (As := []) rfl cv_X8_290 (hX.1 8 _ rfl) (m_X3_count hS hX ) rfl (by decide) (Nat.le_of_ble_eq_true rfl) (fun r9 Gc9 q9 => ?_) (fun E9 G9 h9 => h9.elim)
    obtain ⟨rfl, eG9⟩ := q9
    have eG9 := eG9.symm
    subst eG9
    refine y_blk 0 tq_X8_countFound (z := (12, [(0, .ref (ad 1)), (1, .int v4_1), (2, .int v4_2)], [.int (σ.1 16), .int v4_2])) rfl ?_
    refine y_icmp_ge tq_X8_countFound 33 rfl rfl (fun c12 => ?_) (fun c12 => ?_)
    · skip
      refine y_blk 1 tq_X8_countFound (z := (34, [(0, .ref (ad 1)), (1, .int v4_1), (2, .int v4_2)], [.int v4_1])) rfl ?_
      exact y_iret tq_X8_countFound rfl rfl (⟨⟨_, rfl⟩, rfl⟩)
    · skip
      refine y_blk 2 tq_X8_countFound (z := (17, [(0, .ref (ad 1)), (1, .int v4_1), (2, .int v4_2)], [.int v4_2, .ref (ad 1)])) rfl ?_
      refine y_callV hS tq_X8_countFound rfl (As := [.int v4_2]) rfl cv_X8_302 (hX.1 1 _ rfl) (m_X8_foundAt hS hX v4_2) rfl (by decide) (Nat.le_of_ble_eq_true rfl) (fun r17 Gc17 q17 => ?_) (fun E9 G9 h9 => h9.elim)
      obtain ⟨⟨x17, rfl⟩, eG17⟩ := q17
      have eG17 := eG17.symm
      subst eG17
      refine y_blk 1 tq_X8_countFound (z := (21, [(0, .ref (ad 1)), (1, .int v4_1), (2, .int v4_2)], [.int (-1), .int x17])) rfl ?_
      refine y_icmp_eq tq_X8_countFound 27 rfl rfl (fun c21 => ?_) (fun c21 => ?_)
      · skip
        refine y_blk 0 tq_X8_countFound (z := (27, [(0, .ref (ad 1)), (1, .int v4_1), (2, .int v4_2)], [])) rfl ?_
        exact J27 v4_1 (by exact c12)
      · skip
        refine y_blk 1 tq_X8_countFound (z := (27, [(1, .int (v4_1 + 1)), (0, .ref (ad 1)), (2, .int v4_2)], [])) rfl ?_
        refine y_pick (L2 := [(0, .ref (ad 1)), (1, .int (v4_1 + 1)), (2, .int v4_2)]) [1, 0, 2] rfl ?_
        exact J27 (v4_1 + 1) (by exact c12)
  refine y_blk 4 tq_X8_countFound (z := (4, [(2, .int 0), (1, .int 0), (0, .ref (ad 1))], [])) rfl ?_
  refine y_pick (L2 := [(0, .ref (ad 1)), (1, .int 0), (2, .int 0)]) [2, 1, 0] rfl ?_
  exact J4 _ 0 0 rfl
set_option maxHeartbeats 4000000 in
set_option maxRecDepth 100000 in
theorem m_X8_findersOf {l : Launch} {S0 : State} {A0 : Array Value} {D : va_G} {aC : Nat → ClassId} {ad : Nat → Nat} {G : AH} {σ : XS} (hS : yS l S0 A0 D aC) (hX : atX aC ad G σ) (intruder : Int32) (found : Int32) : yM l S0 D yX8_findersOf cX8_findersOf 3 (some .int) 14 0 0 [.ref (ad 1), .int intruder, .int found] G (fun r G1 => (∃ v : Int32, r = some (.int v)) ∧ G1 = G) (fun _ _ => False) := by
  refine yM.ofK K_X8_findersOf rfl (by decide) (Nat.le_of_ble_eq_true rfl) ?_
  have J23 : ∀ (w23_0 : Int32), Y l S0 D K_X8_findersOf 14 0 0 (fun r G1 => (∃ v : Int32, r = some (.int v)) ∧ G1 = G) (fun _ _ => False) 23 [(0, .ref (ad 1)), (1, .int intruder), (2, .int found)] [.int w23_0] G 0 0 := by
    intro w23_0
    exact y_iret tq_X8_findersOf rfl rfl (⟨⟨_, rfl⟩, rfl⟩)
  refine y_blk 2 tq_X8_findersOf (z := (2, [(0, .ref (ad 1)), (1, .int intruder), (2, .int found)], [.int (-1), .int found])) rfl ?_
  refine y_icmp_ne tq_X8_findersOf 9 rfl rfl (fun c2 => ?_) (fun c2 => ?_)
  · skip
    refine y_blk 2 tq_X8_findersOf (z := (11, [(0, .ref (ad 1)), (1, .int intruder), (2, .int found)], [.ref (ad 1), .ref (ad 1)])) rfl ?_
    refine y_get hS tq_X8_findersOf (v := .ref (ad 8)) rfl fg_X8_59_X8 (hX.1 1 _ rfl) rfl ?_
    refine y_blk 2 tq_X8_findersOf (z := (16, [(0, .ref (ad 1)), (1, .int intruder), (2, .int found)], [.int found, .int intruder, .ref (ad 8), .ref (ad 1)])) rfl ?_
    refine y_callV hS tq_X8_findersOf rfl (As := [.int intruder, .int found]) rfl cv_X8_295 (hX.1 8 _ rfl) (m_X3_cellAt hS hX intruder found) rfl (by decide) (Nat.le_of_ble_eq_true rfl) (fun r16 Gc16 q16 => ?_) (fun E9 G9 h9 => h9.elim)
    obtain ⟨⟨x16, rfl⟩, eG16⟩ := q16
    have eG16 := eG16.symm
    subst eG16
    refine y_blk 1 tq_X8_findersOf (z := (20, [(0, .ref (ad 1)), (1, .int intruder), (2, .int found)], [.int found, .int x16, .ref (ad 1)])) rfl ?_
    refine y_callV hS tq_X8_findersOf rfl (As := [.int x16, .int found]) rfl cv_X8_206 (hX.1 1 _ rfl) (m_X8_guardsWhoSee hS hX x16 found) rfl (by decide) (Nat.le_of_ble_eq_true rfl) (fun r20 Gc20 q20 => ?_) (fun E9 G9 h9 => h9.elim)
    obtain ⟨⟨x20, rfl⟩, eG20⟩ := q20
    have eG20 := eG20.symm
    subst eG20
    refine y_blk 0 tq_X8_findersOf (z := (23, [(0, .ref (ad 1)), (1, .int intruder), (2, .int found)], [.int x20])) rfl ?_
    exact J23 x20
  · skip
    refine y_blk 2 tq_X8_findersOf (z := (23, [(0, .ref (ad 1)), (1, .int intruder), (2, .int found)], [.int 0])) rfl ?_
    exact J23 0
set_option maxHeartbeats 4000000 in
set_option maxRecDepth 100000 in
theorem m_X8_arrival {l : Launch} {S0 : State} {A0 : Array Value} {D : va_G} {aC : Nat → ClassId} {ad : Nat → Nat} {G : AH} {σ : XS} (hS : yS l S0 A0 D aC) (hX : atX aC ad G σ) (guard : Int32) (intruder : Int32) (found : Int32) : yM l S0 D yX8_arrival cX8_arrival 7 (some .int) 12 0 0 [.ref (ad 1), .int guard, .int intruder, .int found] G (fun r G1 => (∃ v : Int32, r = some (.int v)) ∧ G1 = G) (fun _ _ => False) := by
  refine yM.ofK K_X8_arrival rfl (by decide) (Nat.le_of_ble_eq_true rfl) ?_
  have J87 : ∀ (v87_4 : Int64) (v87_6 : Int32), Y l S0 D K_X8_arrival 12 0 0 (fun r G1 => (∃ v : Int32, r = some (.int v)) ∧ G1 = G) (fun _ _ => False) 87 [(0, .ref (ad 1)), (1, .int guard), (2, .int intruder), (3, .int found), (4, .long v87_4), (6, .int v87_6)] [] G 0 0 := by
    intro v87_4 v87_6
    refine y_blk 1 tq_X8_arrival (z := (88, [(0, .ref (ad 1)), (1, .int guard), (2, .int intruder), (3, .int found), (4, .long v87_4), (6, .int v87_6)], [.int (-1)])) rfl ?_
    exact y_iret tq_X8_arrival rfl rfl (⟨⟨_, rfl⟩, rfl⟩)
  have J26 : ∀ (n26 : Nat) (v26_4 : Int64) (v26_6 : Int32), ((240 : Int32).toInt - v26_6.toInt).toNat = n26 → Y l S0 D K_X8_arrival 12 0 0 (fun r G1 => (∃ v : Int32, r = some (.int v)) ∧ G1 = G) (fun _ _ => False) 26 [(0, .ref (ad 1)), (1, .int guard), (2, .int intruder), (3, .int found), (4, .long v26_4), (6, .int v26_6)] [] G 0 0 := by
    intro n26
    induction n26 using Nat.strongRecOn with
    | _ n26 ih26 =>
    intro v26_4 v26_6 hn26
    subst hn26
    refine y_blk 3 tq_X8_arrival (z := (30, [(0, .ref (ad 1)), (1, .int guard), (2, .int intruder), (3, .int found), (4, .long v26_4), (6, .int v26_6)], [.int (lg_cmp v26_4 0)])) rfl ?_
    refine y_if_eq tq_X8_arrival 87 rfl rfl (fun c30 => ?_) (fun c30 => ?_)
    · skip
      refine y_blk 0 tq_X8_arrival (z := (87, [(0, .ref (ad 1)), (1, .int guard), (2, .int intruder), (3, .int found), (4, .long v26_4), (6, .int v26_6)], [])) rfl ?_
      exact J87 v26_4 v26_6
    · skip
      refine y_blk 2 tq_X8_arrival (z := (38, [(0, .ref (ad 1)), (1, .int guard), (2, .int intruder), (3, .int found), (4, .long v26_4), (6, .int v26_6)], [.int 240, .int v26_6])) rfl ?_
      refine y_icmp_ge tq_X8_arrival 87 rfl rfl (fun c38 => ?_) (fun c38 => ?_)
      · skip
        refine y_blk 0 tq_X8_arrival (z := (87, [(0, .ref (ad 1)), (1, .int guard), (2, .int intruder), (3, .int found), (4, .long v26_4), (6, .int v26_6)], [])) rfl ?_
        exact J87 v26_4 v26_6
      · skip
        refine y_blk 2 tq_X8_arrival (z := (44, [(0, .ref (ad 1)), (1, .int guard), (2, .int intruder), (3, .int found), (4, .long v26_4), (6, .int v26_6)], [.ref (ad 1), .long v26_4])) rfl ?_
        refine y_get hS tq_X8_arrival (v := .ref (ad 8)) rfl fg_X8_59_X8 (hX.1 1 _ rfl) rfl ?_
        refine y_blk 2 tq_X8_arrival (z := (50, [(0, .ref (ad 1)), (1, .int guard), (2, .int intruder), (3, .int found), (4, .long v26_4), (6, .int v26_6)], [.int v26_6, .int intruder, .ref (ad 8), .long v26_4])) rfl ?_
        refine y_callV hS tq_X8_arrival rfl (As := [.int intruder, .int v26_6]) rfl cv_X8_295 (hX.1 8 _ rfl) (m_X3_cellAt hS hX intruder v26_6) rfl (by decide) (Nat.le_of_ble_eq_true rfl) (fun r50 Gc50 q50 => ?_) (fun E9 G9 h9 => h9.elim)
        obtain ⟨⟨x50, rfl⟩, eG50⟩ := q50
        have eG50 := eG50.symm
        subst eG50
        refine y_blk 0 tq_X8_arrival (z := (53, [(0, .ref (ad 1)), (1, .int guard), (2, .int intruder), (3, .int found), (4, .long v26_4), (6, .int v26_6)], [.int x50, .long v26_4])) rfl ?_
        refine y_callS hS tq_X8_arrival rfl (As := [.long v26_4, .int x50]) rfl cs_X8_124 (m_X8_isOf hS  v26_4 x50) rfl (by decide) (Nat.le_of_ble_eq_true rfl) (fun r53 Gc53 q53 => ?_) (fun E9 G9 h9 => h9.elim)
        obtain ⟨rfl, eG53⟩ := q53
        have eG53 := eG53.symm
        subst eG53
        refine y_blk 0 tq_X8_arrival (z := (56, [(0, .ref (ad 1)), (1, .int guard), (2, .int intruder), (3, .int found), (4, .long v26_4), (6, .int v26_6)], [.int (if xis v26_4 x50 then 1 else 0)])) rfl ?_
        refine y_if_eq tq_X8_arrival 62 rfl rfl (fun c56 => ?_) (fun c56 => ?_)
        · skip
          refine y_blk 1 tq_X8_arrival (z := (63, [(0, .ref (ad 1)), (1, .int guard), (2, .int intruder), (3, .int found), (4, .long v26_4), (6, .int v26_6)], [.ref (ad 1)])) rfl ?_
          refine y_get hS tq_X8_arrival (v := .ref (ad 2)) rfl fg_X8_10_X8 (hX.1 1 _ rfl) rfl ?_
          refine y_blk 1 tq_X8_arrival (z := (68, [(0, .ref (ad 1)), (1, .int guard), (2, .int intruder), (3, .int found), (4, .long v26_4), (6, .int v26_6)], [.long v26_4, .ref (ad 2)])) rfl ?_
          refine y_callV hS tq_X8_arrival rfl (As := [.long v26_4]) rfl cv_X8_346 (hX.1 2 _ rfl) (m_X1_spread hS hX v26_4) rfl (by decide) (Nat.le_of_ble_eq_true rfl) (fun r68 Gc68 q68 => ?_) (fun E9 G9 h9 => h9.elim)
          obtain ⟨⟨x68, rfl⟩, eG68⟩ := q68
          have eG68 := eG68.symm
          subst eG68
          refine y_blk 1 tq_X8_arrival (z := (72, [(0, .ref (ad 1)), (1, .int guard), (2, .int intruder), (3, .int found), (4, .long v26_4), (6, .int v26_6)], [.ref (ad 1), .long x68])) rfl ?_
          refine y_get hS tq_X8_arrival (v := .ref (ad 2)) rfl fg_X8_10_X8 (hX.1 1 _ rfl) rfl ?_
          refine y_blk 0 tq_X8_arrival (z := (75, [(0, .ref (ad 1)), (1, .int guard), (2, .int intruder), (3, .int found), (4, .long v26_4), (6, .int v26_6)], [.ref (ad 2), .long x68])) rfl ?_
          refine y_callV hS tq_X8_arrival rfl (As := []) rfl cv_X8_104 (hX.1 2 _ rfl) (m_X1_openCells hS hX ) rfl (by decide) (Nat.le_of_ble_eq_true rfl) (fun r75 Gc75 q75 => ?_) (fun E9 G9 h9 => h9.elim)
          obtain ⟨rfl, eG75⟩ := q75
          have eG75 := eG75.symm
          subst eG75
          refine y_blk 4 tq_X8_arrival (z := (26, [(6, .int (v26_6 + 1)), (4, .long (x68 &&& ((xall (σ.2.2.1 0 * σ.2.2.1 1)) &&& ((σ.2.2.2.1 2) ^^^ (-1))))), (0, .ref (ad 1)), (1, .int guard), (2, .int intruder), (3, .int found)], [])) rfl ?_
          refine y_pick (L2 := [(0, .ref (ad 1)), (1, .int guard), (2, .int intruder), (3, .int found), (4, .long (x68 &&& ((xall (σ.2.2.1 0 * σ.2.2.1 1)) &&& ((σ.2.2.2.1 2) ^^^ (-1))))), (6, .int (v26_6 + 1))]) [2, 3, 4, 5, 1, 0] rfl ?_
          exact ih26 _ (by exact ydec c38) (x68 &&& ((xall (σ.2.2.1 0 * σ.2.2.1 1)) &&& ((σ.2.2.2.1 2) ^^^ (-1)))) (v26_6 + 1) rfl
        · skip
          refine y_blk 1 tq_X8_arrival (z := (61, [(0, .ref (ad 1)), (1, .int guard), (2, .int intruder), (3, .int found), (4, .long v26_4), (6, .int v26_6)], [.int v26_6])) rfl ?_
          exact y_iret tq_X8_arrival rfl rfl (⟨⟨_, rfl⟩, rfl⟩)
  have J21 : ∀ (w21_0 : Int64), Y l S0 D K_X8_arrival 12 0 0 (fun r G1 => (∃ v : Int32, r = some (.int v)) ∧ G1 = G) (fun _ _ => False) 21 [(0, .ref (ad 1)), (1, .int guard), (2, .int intruder), (3, .int found)] [.long w21_0] G 0 0 := by
    intro w21_0
    refine y_blk 3 tq_X8_arrival (z := (26, [(6, .int found), (4, .long w21_0), (0, .ref (ad 1)), (1, .int guard), (2, .int intruder), (3, .int found)], [])) rfl ?_
    refine y_pick (L2 := [(0, .ref (ad 1)), (1, .int guard), (2, .int intruder), (3, .int found), (4, .long w21_0), (6, .int found)]) [2, 3, 4, 5, 1, 0] rfl ?_
    exact J26 _ w21_0 found rfl
  refine y_blk 2 tq_X8_arrival (z := (2, [(0, .ref (ad 1)), (1, .int guard), (2, .int intruder), (3, .int found)], [.int (-1), .int found])) rfl ?_
  refine y_icmp_ne tq_X8_arrival 9 rfl rfl (fun c2 => ?_) (fun c2 => ?_)
  · skip
    refine y_blk 1 tq_X8_arrival (z := (10, [(0, .ref (ad 1)), (1, .int guard), (2, .int intruder), (3, .int found)], [.ref (ad 1)])) rfl ?_
    refine y_get hS tq_X8_arrival (v := .ref (ad 6)) rfl fg_X8_33_X8 (hX.1 1 _ rfl) rfl ?_
    refine y_blk 2 tq_X8_arrival (z := (15, [(0, .ref (ad 1)), (1, .int guard), (2, .int intruder), (3, .int found)], [.int found, .int guard, .ref (ad 6)])) rfl ?_
    refine y_callV hS tq_X8_arrival rfl (As := [.int guard, .int found]) rfl cv_X8_196 (hX.1 6 _ rfl) (m_X2_standAt hS hX guard found) rfl (by decide) (Nat.le_of_ble_eq_true rfl) (fun r15 Gc15 q15 => ?_) (fun E9 G9 h9 => h9.elim)
    obtain ⟨⟨x15, rfl⟩, eG15⟩ := q15
    have eG15 := eG15.symm
    subst eG15
    refine y_blk 0 tq_X8_arrival (z := (18, [(0, .ref (ad 1)), (1, .int guard), (2, .int intruder), (3, .int found)], [.int x15])) rfl ?_
    refine y_callS hS tq_X8_arrival rfl (As := [.int x15]) rfl cs_X8_340 (m_X8_setOf hS  x15) rfl (by decide) (Nat.le_of_ble_eq_true rfl) (fun r18 Gc18 q18 => ?_) (fun E9 G9 h9 => h9.elim)
    obtain ⟨rfl, eG18⟩ := q18
    have eG18 := eG18.symm
    subst eG18
    refine y_blk 0 tq_X8_arrival (z := (21, [(0, .ref (ad 1)), (1, .int guard), (2, .int intruder), (3, .int found)], [.long (xset x15)])) rfl ?_
    exact J21 (xset x15)
  · skip
    refine y_blk 2 tq_X8_arrival (z := (21, [(0, .ref (ad 1)), (1, .int guard), (2, .int intruder), (3, .int found)], [.long 0])) rfl ?_
    exact J21 0
set_option maxHeartbeats 4000000 in
set_option maxRecDepth 100000 in
theorem m_X8_firstArrival {l : Launch} {S0 : State} {A0 : Array Value} {D : va_G} {aC : Nat → ClassId} {ad : Nat → Nat} {G : AH} {σ : XS} (hS : yS l S0 A0 D aC) (hX : atX aC ad G σ) (intruder : Int32) (found : Int32) : yM l S0 D yX8_firstArrival cX8_firstArrival 6 (some .int) 13 0 0 [.ref (ad 1), .int intruder, .int found] G (fun r G1 => (∃ v : Int32, r = some (.int v)) ∧ G1 = G) (fun _ _ => False) := by
  refine yM.ofK K_X8_firstArrival rfl (by decide) (Nat.le_of_ble_eq_true rfl) ?_
  have J5 : ∀ (n5 : Nat) (v5_3 : Int32) (v5_4 : Int32), ((σ.1 5 : Int32).toInt - v5_4.toInt).toNat = n5 → Y l S0 D K_X8_firstArrival 13 0 0 (fun r G1 => (∃ v : Int32, r = some (.int v)) ∧ G1 = G) (fun _ _ => False) 5 [(0, .ref (ad 1)), (1, .int intruder), (2, .int found), (3, .int v5_3), (4, .int v5_4)] [] G 0 0 := by
    intro n5
    induction n5 using Nat.strongRecOn with
    | _ n5 ih5 =>
    intro v5_3 v5_4 hn5
    subst hn5
    have J47 : ∀ (v47_3 : Int32) (v47_5 : Int32) (c14 : ¬ (σ.1 5 : Int32) ≤ v5_4), Y l S0 D K_X8_firstArrival 13 0 0 (fun r G1 => (∃ v : Int32, r = some (.int v)) ∧ G1 = G) (fun _ _ => False) 47 [(0, .ref (ad 1)), (1, .int intruder), (2, .int found), (3, .int v47_3), (4, .int v5_4), (5, .int v47_5)] [] G 0 0 := by
      intro v47_3 v47_5 c14
      refine y_blk 2 tq_X8_firstArrival (z := (5, [(4, .int (v5_4 + 1)), (0, .ref (ad 1)), (1, .int intruder), (2, .int found), (3, .int v47_3), (5, .int v47_5)], [])) rfl ?_
      refine y_pick (L2 := [(0, .ref (ad 1)), (1, .int intruder), (2, .int found), (3, .int v47_3), (4, .int (v5_4 + 1))]) [1, 2, 3, 4, 0] rfl ?_
      exact ih5 _ (by exact ydec c14) v47_3 (v5_4 + 1) rfl
    have J44 : ∀ (v44_5 : Int32) (c14 : ¬ (σ.1 5 : Int32) ≤ v5_4), Y l S0 D K_X8_firstArrival 13 0 0 (fun r G1 => (∃ v : Int32, r = some (.int v)) ∧ G1 = G) (fun _ _ => False) 44 [(0, .ref (ad 1)), (1, .int intruder), (2, .int found), (3, .int v5_3), (4, .int v5_4), (5, .int v44_5)] [] G 0 0 := by
      intro v44_5 c14
      refine y_blk 2 tq_X8_firstArrival (z := (47, [(3, .int v44_5), (0, .ref (ad 1)), (1, .int intruder), (2, .int found), (4, .int v5_4), (5, .int v44_5)], [])) rfl ?_
      refine y_pick (L2 := [(0, .ref (ad 1)), (1, .int intruder), (2, .int found), (3, .int v44_5), (4, .int v5_4), (5, .int v44_5)]) [1, 2, 3, 0, 4, 5] rfl ?_
      exact J47 v44_5 v44_5 (by exact c14)
    refine y_blk 2 tq_X8_firstArrival (z := (8, [(0, .ref (ad 1)), (1, .int intruder), (2, .int found), (3, .int v5_3), (4, .int v5_4)], [.ref (ad 1), .int v5_4])) rfl ?_
    refine y_get hS tq_X8_firstArrival (v := .ref (ad 6)) rfl fg_X8_33_X8 (hX.1 1 _ rfl) rfl ?_
    refine y_blk 0 tq_X8_firstArrival (z := (11, [(0, .ref (ad 1)), (1, .int intruder), (2, .int found), (3, .int v5_3), (4, .int v5_4)], [.ref (ad 6), .int v5_4])) rfl ?_
    refine y_callV hS tq_X8_firstArrival rfl (As := []) rfl cv_X8_182 (hX.1 6 _ rfl) (m_X2_count hS hX ) rfl (by decide) (Nat.le_of_ble_eq_true rfl) (fun r11 Gc11 q11 => ?_) (fun E9 G9 h9 => h9.elim)
    obtain ⟨rfl, eG11⟩ := q11
    have eG11 := eG11.symm
    subst eG11
    refine y_blk 0 tq_X8_firstArrival (z := (14, [(0, .ref (ad 1)), (1, .int intruder), (2, .int found), (3, .int v5_3), (4, .int v5_4)], [.int (σ.1 5), .int v5_4])) rfl ?_
    refine y_icmp_ge tq_X8_firstArrival 53 rfl rfl (fun c14 => ?_) (fun c14 => ?_)
    · skip
      refine y_blk 1 tq_X8_firstArrival (z := (54, [(0, .ref (ad 1)), (1, .int intruder), (2, .int found), (3, .int v5_3), (4, .int v5_4)], [.int v5_3])) rfl ?_
      exact y_iret tq_X8_firstArrival rfl rfl (⟨⟨_, rfl⟩, rfl⟩)
    · skip
      refine y_blk 4 tq_X8_firstArrival (z := (22, [(0, .ref (ad 1)), (1, .int intruder), (2, .int found), (3, .int v5_3), (4, .int v5_4)], [.int found, .int intruder, .int v5_4, .ref (ad 1)])) rfl ?_
      refine y_callV hS tq_X8_firstArrival rfl (As := [.int v5_4, .int intruder, .int found]) rfl cv_X8_475 (hX.1 1 _ rfl) (m_X8_arrival hS hX v5_4 intruder found) rfl (by decide) (Nat.le_of_ble_eq_true rfl) (fun r22 Gc22 q22 => ?_) (fun E9 G9 h9 => h9.elim)
      obtain ⟨⟨x22, rfl⟩, eG22⟩ := q22
      have eG22 := eG22.symm
      subst eG22
      refine y_blk 3 tq_X8_firstArrival (z := (30, [(5, .int x22), (0, .ref (ad 1)), (1, .int intruder), (2, .int found), (3, .int v5_3), (4, .int v5_4)], [.int (-1), .int x22])) rfl ?_
      refine y_icmp_eq tq_X8_firstArrival 47 rfl rfl (fun c30 => ?_) (fun c30 => ?_)
      · skip
        refine y_blk 0 tq_X8_firstArrival (z := (47, [(5, .int x22), (0, .ref (ad 1)), (1, .int intruder), (2, .int found), (3, .int v5_3), (4, .int v5_4)], [])) rfl ?_
        refine y_pick (L2 := [(0, .ref (ad 1)), (1, .int intruder), (2, .int found), (3, .int v5_3), (4, .int v5_4), (5, .int x22)]) [1, 2, 3, 4, 5, 0] rfl ?_
        exact J47 v5_3 x22 (by exact c14)
      · skip
        refine y_blk 2 tq_X8_firstArrival (z := (35, [(5, .int x22), (0, .ref (ad 1)), (1, .int intruder), (2, .int found), (3, .int v5_3), (4, .int v5_4)], [.int (-1), .int v5_3])) rfl ?_
        refine y_icmp_eq tq_X8_firstArrival 44 rfl rfl (fun c35 => ?_) (fun c35 => ?_)
        · skip
          refine y_blk 0 tq_X8_firstArrival (z := (44, [(5, .int x22), (0, .ref (ad 1)), (1, .int intruder), (2, .int found), (3, .int v5_3), (4, .int v5_4)], [])) rfl ?_
          refine y_pick (L2 := [(0, .ref (ad 1)), (1, .int intruder), (2, .int found), (3, .int v5_3), (4, .int v5_4), (5, .int x22)]) [1, 2, 3, 4, 5, 0] rfl ?_
          exact J44 x22 (by exact c14)
        · skip
          refine y_blk 2 tq_X8_firstArrival (z := (41, [(5, .int x22), (0, .ref (ad 1)), (1, .int intruder), (2, .int found), (3, .int v5_3), (4, .int v5_4)], [.int v5_3, .int x22])) rfl ?_
          refine y_icmp_ge tq_X8_firstArrival 47 rfl rfl (fun c41 => ?_) (fun c41 => ?_)
          · skip
            refine y_blk 0 tq_X8_firstArrival (z := (47, [(5, .int x22), (0, .ref (ad 1)), (1, .int intruder), (2, .int found), (3, .int v5_3), (4, .int v5_4)], [])) rfl ?_
            refine y_pick (L2 := [(0, .ref (ad 1)), (1, .int intruder), (2, .int found), (3, .int v5_3), (4, .int v5_4), (5, .int x22)]) [1, 2, 3, 4, 5, 0] rfl ?_
            exact J47 v5_3 x22 (by exact c14)
          · skip
            refine y_blk 0 tq_X8_firstArrival (z := (44, [(5, .int x22), (0, .ref (ad 1)), (1, .int intruder), (2, .int found), (3, .int v5_3), (4, .int v5_4)], [])) rfl ?_
            refine y_pick (L2 := [(0, .ref (ad 1)), (1, .int intruder), (2, .int found), (3, .int v5_3), (4, .int v5_4), (5, .int x22)]) [1, 2, 3, 4, 5, 0] rfl ?_
            exact J44 x22 (by exact c14)
  refine y_blk 4 tq_X8_firstArrival (z := (5, [(4, .int 0), (3, .int (-1)), (0, .ref (ad 1)), (1, .int intruder), (2, .int found)], [])) rfl ?_
  refine y_pick (L2 := [(0, .ref (ad 1)), (1, .int intruder), (2, .int found), (3, .int (-1)), (4, .int 0)]) [2, 3, 4, 1, 0] rfl ?_
  exact J5 _ (-1) 0 rfl
set_option maxHeartbeats 4000000 in
set_option maxRecDepth 100000 in
theorem m_X8_responder {l : Launch} {S0 : State} {A0 : Array Value} {D : va_G} {aC : Nat → ClassId} {ad : Nat → Nat} {G : AH} {σ : XS} (hS : yS l S0 A0 D aC) (hX : atX aC ad G σ) (intruder : Int32) (found : Int32) : yM l S0 D yX8_responder cX8_responder 5 (some .int) 14 0 0 [.ref (ad 1), .int intruder, .int found] G (fun r G1 => (∃ v : Int32, r = some (.int v)) ∧ G1 = G) (fun _ _ => False) := by
  refine yM.ofK K_X8_responder rfl (by decide) (Nat.le_of_ble_eq_true rfl) ?_
  have J10 : ∀ (n10 : Nat) (v10_3 : Int32) (v10_4 : Int32), ((σ.1 5 : Int32).toInt - v10_4.toInt).toNat = n10 → Y l S0 D K_X8_responder 14 0 0 (fun r G1 => (∃ v : Int32, r = some (.int v)) ∧ G1 = G) (fun _ _ => False) 10 [(0, .ref (ad 1)), (1, .int intruder), (2, .int found), (3, .int v10_3), (4, .int v10_4)] [] G 0 0 := by
    intro n10
    induction n10 using Nat.strongRecOn with
    | _ n10 ih10 =>
    intro v10_3 v10_4 hn10
    subst hn10
    have J42 : ∀ (c19 : ¬ (σ.1 5 : Int32) ≤ v10_4), Y l S0 D K_X8_responder 14 0 0 (fun r G1 => (∃ v : Int32, r = some (.int v)) ∧ G1 = G) (fun _ _ => False) 42 [(0, .ref (ad 1)), (1, .int intruder), (2, .int found), (3, .int v10_3), (4, .int v10_4)] [] G 0 0 := by
      intro c19
      refine y_blk 2 tq_X8_responder (z := (10, [(4, .int (v10_4 + 1)), (0, .ref (ad 1)), (1, .int intruder), (2, .int found), (3, .int v10_3)], [])) rfl ?_
      refine y_pick (L2 := [(0, .ref (ad 1)), (1, .int intruder), (2, .int found), (3, .int v10_3), (4, .int (v10_4 + 1))]) [1, 2, 3, 4, 0] rfl ?_
      exact ih10 _ (by exact ydec c19) v10_3 (v10_4 + 1) rfl
    refine y_blk 2 tq_X8_responder (z := (13, [(0, .ref (ad 1)), (1, .int intruder), (2, .int found), (3, .int v10_3), (4, .int v10_4)], [.ref (ad 1), .int v10_4])) rfl ?_
    refine y_get hS tq_X8_responder (v := .ref (ad 6)) rfl fg_X8_33_X8 (hX.1 1 _ rfl) rfl ?_
    refine y_blk 0 tq_X8_responder (z := (16, [(0, .ref (ad 1)), (1, .int intruder), (2, .int found), (3, .int v10_3), (4, .int v10_4)], [.ref (ad 6), .int v10_4])) rfl ?_
    refine y_callV hS tq_X8_responder rfl (As := []) rfl cv_X8_182 (hX.1 6 _ rfl) (m_X2_count hS hX ) rfl (by decide) (Nat.le_of_ble_eq_true rfl) (fun r16 Gc16 q16 => ?_) (fun E9 G9 h9 => h9.elim)
    obtain ⟨rfl, eG16⟩ := q16
    have eG16 := eG16.symm
    subst eG16
    refine y_blk 0 tq_X8_responder (z := (19, [(0, .ref (ad 1)), (1, .int intruder), (2, .int found), (3, .int v10_3), (4, .int v10_4)], [.int (σ.1 5), .int v10_4])) rfl ?_
    refine y_icmp_ge tq_X8_responder 48 rfl rfl (fun c19 => ?_) (fun c19 => ?_)
    · skip
      refine y_blk 1 tq_X8_responder (z := (49, [(0, .ref (ad 1)), (1, .int intruder), (2, .int found), (3, .int v10_3), (4, .int v10_4)], [.int (-1)])) rfl ?_
      exact y_iret tq_X8_responder rfl rfl (⟨⟨_, rfl⟩, rfl⟩)
    · skip
      refine y_blk 2 tq_X8_responder (z := (24, [(0, .ref (ad 1)), (1, .int intruder), (2, .int found), (3, .int v10_3), (4, .int v10_4)], [.int (-1), .int v10_3])) rfl ?_
      refine y_icmp_eq tq_X8_responder 42 rfl rfl (fun c24 => ?_) (fun c24 => ?_)
      · skip
        refine y_blk 0 tq_X8_responder (z := (42, [(0, .ref (ad 1)), (1, .int intruder), (2, .int found), (3, .int v10_3), (4, .int v10_4)], [])) rfl ?_
        exact J42 (by exact c19)
      · skip
        refine y_blk 4 tq_X8_responder (z := (32, [(0, .ref (ad 1)), (1, .int intruder), (2, .int found), (3, .int v10_3), (4, .int v10_4)], [.int found, .int intruder, .int v10_4, .ref (ad 1)])) rfl ?_
        refine y_callV hS tq_X8_responder rfl (As := [.int v10_4, .int intruder, .int found]) rfl cv_X8_475 (hX.1 1 _ rfl) (m_X8_arrival hS hX v10_4 intruder found) rfl (by decide) (Nat.le_of_ble_eq_true rfl) (fun r32 Gc32 q32 => ?_) (fun E9 G9 h9 => h9.elim)
        obtain ⟨⟨x32, rfl⟩, eG32⟩ := q32
        have eG32 := eG32.symm
        subst eG32
        refine y_blk 1 tq_X8_responder (z := (36, [(0, .ref (ad 1)), (1, .int intruder), (2, .int found), (3, .int v10_3), (4, .int v10_4)], [.int v10_3, .int x32])) rfl ?_
        refine y_icmp_ne tq_X8_responder 42 rfl rfl (fun c36 => ?_) (fun c36 => ?_)
        · skip
          refine y_blk 0 tq_X8_responder (z := (42, [(0, .ref (ad 1)), (1, .int intruder), (2, .int found), (3, .int v10_3), (4, .int v10_4)], [])) rfl ?_
          exact J42 (by exact c19)
        · skip
          refine y_blk 1 tq_X8_responder (z := (41, [(0, .ref (ad 1)), (1, .int intruder), (2, .int found), (3, .int v10_3), (4, .int v10_4)], [.int v10_4])) rfl ?_
          exact y_iret tq_X8_responder rfl rfl (⟨⟨_, rfl⟩, rfl⟩)
  refine y_blk 3 tq_X8_responder (z := (3, [(0, .ref (ad 1)), (1, .int intruder), (2, .int found)], [.int found, .int intruder, .ref (ad 1)])) rfl ?_
  refine y_callV hS tq_X8_responder rfl (As := [.int intruder, .int found]) rfl cv_X8_308 (hX.1 1 _ rfl) (m_X8_firstArrival hS hX intruder found) rfl (by decide) (Nat.le_of_ble_eq_true rfl) (fun r3 Gc3 q3 => ?_) (fun E9 G9 h9 => h9.elim)
  obtain ⟨⟨x3, rfl⟩, eG3⟩ := q3
  have eG3 := eG3.symm
  subst eG3
  refine y_blk 3 tq_X8_responder (z := (10, [(4, .int 0), (3, .int x3), (0, .ref (ad 1)), (1, .int intruder), (2, .int found)], [])) rfl ?_
  refine y_pick (L2 := [(0, .ref (ad 1)), (1, .int intruder), (2, .int found), (3, .int x3), (4, .int 0)]) [2, 3, 4, 1, 0] rfl ?_
  exact J10 _ x3 0 rfl
set_option maxHeartbeats 4000000 in
set_option maxRecDepth 100000 in
theorem m_X8_rings {l : Launch} {S0 : State} {A0 : Array Value} {D : va_G} {aC : Nat → ClassId} {ad : Nat → Nat} {G : AH} {σ : XS} (hS : yS l S0 A0 D aC) (hX : atX aC ad G σ) (wire : Int32) (minute : Int32) : yM l S0 D yX8_rings cX8_rings 4 (some .boolean) 13 0 0 [.ref (ad 1), .int wire, .int minute] G (fun r G1 => (∃ v : Int32, (v = 0 ∨ v = 1) ∧ r = some (.int v)) ∧ G1 = G) (fun _ _ => False) := by
  refine yM.ofK K_X8_rings rfl (by decide) (Nat.le_of_ble_eq_true rfl) ?_
  have J46 : ∀ (v46_3 : Int32) (w46_0 : Int32) (hb_w46_0 : w46_0 = 0 ∨ w46_0 = 1), Y l S0 D K_X8_rings 13 0 0 (fun r G1 => (∃ v : Int32, (v = 0 ∨ v = 1) ∧ r = some (.int v)) ∧ G1 = G) (fun _ _ => False) 46 [(0, .ref (ad 1)), (1, .int wire), (2, .int minute), (3, .int v46_3)] [.int w46_0] G 0 0 := by
    intro v46_3 w46_0 hb_w46_0
    exact y_zret tq_X8_rings rfl rfl (y01 hb_w46_0) (⟨⟨_, hb_w46_0, rfl⟩, rfl⟩)
  refine y_blk 1 tq_X8_rings (z := (1, [(0, .ref (ad 1)), (1, .int wire), (2, .int minute)], [.ref (ad 1)])) rfl ?_
  refine y_get hS tq_X8_rings (v := .ref (ad 8)) rfl fg_X8_59_X8 (hX.1 1 _ rfl) rfl ?_
  refine y_blk 1 tq_X8_rings (z := (5, [(0, .ref (ad 1)), (1, .int wire), (2, .int minute)], [.ref (ad 1), .ref (ad 8)])) rfl ?_
  refine y_get hS tq_X8_rings (v := .ref (ad 9)) rfl fg_X8_66_X8 (hX.1 1 _ rfl) rfl ?_
  refine y_blk 1 tq_X8_rings (z := (9, [(0, .ref (ad 1)), (1, .int wire), (2, .int minute)], [.int wire, .ref (ad 9), .ref (ad 8)])) rfl ?_
  refine y_callV hS tq_X8_rings rfl (As := [.int wire]) rfl cv_X8_327 (hX.1 9 _ rfl) (m_X6_cellOf hS hX wire) rfl (by decide) (Nat.le_of_ble_eq_true rfl) (fun r9 Gc9 q9 => ?_) (fun E9 G9 h9 => h9.elim)
  obtain ⟨rfl, eG9⟩ := q9
  have eG9 := eG9.symm
  subst eG9
  refine y_blk 1 tq_X8_rings (z := (13, [(0, .ref (ad 1)), (1, .int wire), (2, .int minute)], [.int minute, .int (xat σ 22 wire), .ref (ad 8)])) rfl ?_
  refine y_callV hS tq_X8_rings rfl (As := [.int (xat σ 22 wire), .int minute]) rfl cv_X8_478 (hX.1 8 _ rfl) (m_X3_countOn hS hX (xat σ 22 wire) minute) rfl (by decide) (Nat.le_of_ble_eq_true rfl) (fun r13 Gc13 q13 => ?_) (fun E9 G9 h9 => h9.elim)
  obtain ⟨⟨x13, rfl⟩, eG13⟩ := q13
  have eG13 := eG13.symm
  subst eG13
  refine y_blk 2 tq_X8_rings (z := (18, [(3, .int x13), (0, .ref (ad 1)), (1, .int wire), (2, .int minute)], [.ref (ad 1)])) rfl ?_
  refine y_get hS tq_X8_rings (v := .ref (ad 9)) rfl fg_X8_66_X8 (hX.1 1 _ rfl) rfl ?_
  refine y_blk 2 tq_X8_rings (z := (23, [(3, .int x13), (0, .ref (ad 1)), (1, .int wire), (2, .int minute)], [.int minute, .int wire, .ref (ad 9)])) rfl ?_
  refine y_callV hS tq_X8_rings rfl (As := [.int wire, .int minute]) rfl cv_X8_481 (hX.1 9 _ rfl) (m_X6_ownNoise hS hX wire minute) rfl (by decide) (Nat.le_of_ble_eq_true rfl) (fun r23 Gc23 q23 => ?_) (fun E9 G9 h9 => h9.elim)
  obtain ⟨⟨x23, rfl⟩, eG23⟩ := q23
  have eG23 := eG23.symm
  subst eG23
  refine y_blk 5 tq_X8_rings (z := (31, [(3, .int x13), (0, .ref (ad 1)), (1, .int wire), (2, .int minute)], [.ref (ad 1), .int (x23 + (5 * x13))])) rfl ?_
  refine y_get hS tq_X8_rings (v := .ref (ad 9)) rfl fg_X8_66_X8 (hX.1 1 _ rfl) rfl ?_
  refine y_blk 1 tq_X8_rings (z := (35, [(3, .int x13), (0, .ref (ad 1)), (1, .int wire), (2, .int minute)], [.int wire, .ref (ad 9), .int (x23 + (5 * x13))])) rfl ?_
  refine y_callV hS tq_X8_rings rfl (As := [.int wire]) rfl cv_X8_330 (hX.1 9 _ rfl) (m_X6_barOf hS hX wire) rfl (by decide) (Nat.le_of_ble_eq_true rfl) (fun r35 Gc35 q35 => ?_) (fun E9 G9 h9 => h9.elim)
  obtain ⟨rfl, eG35⟩ := q35
  have eG35 := eG35.symm
  subst eG35
  refine y_blk 0 tq_X8_rings (z := (38, [(3, .int x13), (0, .ref (ad 1)), (1, .int wire), (2, .int minute)], [.int (xat σ 23 wire), .int (x23 + (5 * x13))])) rfl ?_
  refine y_icmp_lt tq_X8_rings 45 rfl rfl (fun c38 => ?_) (fun c38 => ?_)
  · skip
    refine y_blk 1 tq_X8_rings (z := (46, [(3, .int x13), (0, .ref (ad 1)), (1, .int wire), (2, .int minute)], [.int 0])) rfl ?_
    refine y_pick (L2 := [(0, .ref (ad 1)), (1, .int wire), (2, .int minute), (3, .int x13)]) [1, 2, 3, 0] rfl ?_
    exact J46 x13 0 (Or.inl rfl)
  · skip
    refine y_blk 2 tq_X8_rings (z := (46, [(3, .int x13), (0, .ref (ad 1)), (1, .int wire), (2, .int minute)], [.int 1])) rfl ?_
    refine y_pick (L2 := [(0, .ref (ad 1)), (1, .int wire), (2, .int minute), (3, .int x13)]) [1, 2, 3, 0] rfl ?_
    exact J46 x13 1 (Or.inr rfl)
set_option maxHeartbeats 4000000 in
set_option maxRecDepth 100000 in
theorem m_X8_isIntruded {l : Launch} {S0 : State} {A0 : Array Value} {D : va_G} {aC : Nat → ClassId} {ad : Nat → Nat} {G : AH} {σ : XS} (hS : yS l S0 A0 D aC) (hX : atX aC ad G σ) (wire : Int32) (minute : Int32) : yM l S0 D yX8_isIntruded cX8_isIntruded 3 (some .boolean) 13 0 0 [.ref (ad 1), .int wire, .int minute] G (fun r G1 => (∃ v : Int32, (v = 0 ∨ v = 1) ∧ r = some (.int v)) ∧ G1 = G) (fun _ _ => False) := by
  refine yM.ofK K_X8_isIntruded rfl (by decide) (Nat.le_of_ble_eq_true rfl) ?_
  have J24 : ∀ (w24_0 : Int32) (hb_w24_0 : w24_0 = 0 ∨ w24_0 = 1), Y l S0 D K_X8_isIntruded 13 0 0 (fun r G1 => (∃ v : Int32, (v = 0 ∨ v = 1) ∧ r = some (.int v)) ∧ G1 = G) (fun _ _ => False) 24 [(0, .ref (ad 1)), (1, .int wire), (2, .int minute)] [.int w24_0] G 0 0 := by
    intro w24_0 hb_w24_0
    exact y_zret tq_X8_isIntruded rfl rfl (y01 hb_w24_0) (⟨⟨_, hb_w24_0, rfl⟩, rfl⟩)
  refine y_blk 1 tq_X8_isIntruded (z := (1, [(0, .ref (ad 1)), (1, .int wire), (2, .int minute)], [.ref (ad 1)])) rfl ?_
  refine y_get hS tq_X8_isIntruded (v := .ref (ad 8)) rfl fg_X8_59_X8 (hX.1 1 _ rfl) rfl ?_
  refine y_blk 1 tq_X8_isIntruded (z := (5, [(0, .ref (ad 1)), (1, .int wire), (2, .int minute)], [.ref (ad 1), .ref (ad 8)])) rfl ?_
  refine y_get hS tq_X8_isIntruded (v := .ref (ad 9)) rfl fg_X8_66_X8 (hX.1 1 _ rfl) rfl ?_
  refine y_blk 1 tq_X8_isIntruded (z := (9, [(0, .ref (ad 1)), (1, .int wire), (2, .int minute)], [.int wire, .ref (ad 9), .ref (ad 8)])) rfl ?_
  refine y_callV hS tq_X8_isIntruded rfl (As := [.int wire]) rfl cv_X8_327 (hX.1 9 _ rfl) (m_X6_cellOf hS hX wire) rfl (by decide) (Nat.le_of_ble_eq_true rfl) (fun r9 Gc9 q9 => ?_) (fun E9 G9 h9 => h9.elim)
  obtain ⟨rfl, eG9⟩ := q9
  have eG9 := eG9.symm
  subst eG9
  refine y_blk 1 tq_X8_isIntruded (z := (13, [(0, .ref (ad 1)), (1, .int wire), (2, .int minute)], [.int minute, .int (xat σ 22 wire), .ref (ad 8)])) rfl ?_
  refine y_callV hS tq_X8_isIntruded rfl (As := [.int (xat σ 22 wire), .int minute]) rfl cv_X8_478 (hX.1 8 _ rfl) (m_X3_countOn hS hX (xat σ 22 wire) minute) rfl (by decide) (Nat.le_of_ble_eq_true rfl) (fun r13 Gc13 q13 => ?_) (fun E9 G9 h9 => h9.elim)
  obtain ⟨⟨x13, rfl⟩, eG13⟩ := q13
  have eG13 := eG13.symm
  subst eG13
  refine y_blk 0 tq_X8_isIntruded (z := (16, [(0, .ref (ad 1)), (1, .int wire), (2, .int minute)], [.int x13])) rfl ?_
  refine y_if_le tq_X8_isIntruded 23 rfl rfl (fun c16 => ?_) (fun c16 => ?_)
  · skip
    refine y_blk 1 tq_X8_isIntruded (z := (24, [(0, .ref (ad 1)), (1, .int wire), (2, .int minute)], [.int 0])) rfl ?_
    exact J24 0 (Or.inl rfl)
  · skip
    refine y_blk 2 tq_X8_isIntruded (z := (24, [(0, .ref (ad 1)), (1, .int wire), (2, .int minute)], [.int 1])) rfl ?_
    exact J24 1 (Or.inr rfl)
set_option maxHeartbeats 4000000 in
set_option maxRecDepth 100000 in
theorem m_X8_countRings {l : Launch} {S0 : State} {A0 : Array Value} {D : va_G} {aC : Nat → ClassId} {ad : Nat → Nat} {G : AH} {σ : XS} (hS : yS l S0 A0 D aC) (hX : atX aC ad G σ) (wire : Int32) (onlyFalseOnes : Int32) : yM l S0 D yX8_countRings cX8_countRings 5 (some .int) 14 0 0 [.ref (ad 1), .int wire, .int onlyFalseOnes] G (fun r G1 => (∃ v : Int32, r = some (.int v)) ∧ G1 = G) (fun _ _ => False) := by
  refine yM.ofK K_X8_countRings rfl (by decide) (Nat.le_of_ble_eq_true rfl) ?_
  have J5 : ∀ (n5 : Nat) (v5_3 : Int32) (v5_4 : Int32), ((240 : Int32).toInt - v5_4.toInt).toNat = n5 → Y l S0 D K_X8_countRings 14 0 0 (fun r G1 => (∃ v : Int32, r = some (.int v)) ∧ G1 = G) (fun _ _ => False) 5 [(0, .ref (ad 1)), (1, .int wire), (2, .int onlyFalseOnes), (3, .int v5_3), (4, .int v5_4)] [] G 0 0 := by
    intro n5
    induction n5 using Nat.strongRecOn with
    | _ n5 ih5 =>
    intro v5_3 v5_4 hn5
    subst hn5
    have J40 : ∀ (v40_3 : Int32) (c10 : ¬ (240 : Int32) ≤ v5_4), Y l S0 D K_X8_countRings 14 0 0 (fun r G1 => (∃ v : Int32, r = some (.int v)) ∧ G1 = G) (fun _ _ => False) 40 [(0, .ref (ad 1)), (1, .int wire), (2, .int onlyFalseOnes), (3, .int v40_3), (4, .int v5_4)] [] G 0 0 := by
      intro v40_3 c10
      refine y_blk 2 tq_X8_countRings (z := (5, [(4, .int (v5_4 + 1)), (0, .ref (ad 1)), (1, .int wire), (2, .int onlyFalseOnes), (3, .int v40_3)], [])) rfl ?_
      refine y_pick (L2 := [(0, .ref (ad 1)), (1, .int wire), (2, .int onlyFalseOnes), (3, .int v40_3), (4, .int (v5_4 + 1))]) [1, 2, 3, 4, 0] rfl ?_
      exact ih5 _ (by exact ydec c10) v40_3 (v5_4 + 1) rfl
    have J37 : ∀ (c10 : ¬ (240 : Int32) ≤ v5_4), Y l S0 D K_X8_countRings 14 0 0 (fun r G1 => (∃ v : Int32, r = some (.int v)) ∧ G1 = G) (fun _ _ => False) 37 [(0, .ref (ad 1)), (1, .int wire), (2, .int onlyFalseOnes), (3, .int v5_3), (4, .int v5_4)] [] G 0 0 := by
      intro c10
      refine y_blk 1 tq_X8_countRings (z := (40, [(3, .int (v5_3 + 1)), (0, .ref (ad 1)), (1, .int wire), (2, .int onlyFalseOnes), (4, .int v5_4)], [])) rfl ?_
      refine y_pick (L2 := [(0, .ref (ad 1)), (1, .int wire), (2, .int onlyFalseOnes), (3, .int (v5_3 + 1)), (4, .int v5_4)]) [1, 2, 3, 0, 4] rfl ?_
      exact J40 (v5_3 + 1) (by exact c10)
    refine y_blk 2 tq_X8_countRings (z := (10, [(0, .ref (ad 1)), (1, .int wire), (2, .int onlyFalseOnes), (3, .int v5_3), (4, .int v5_4)], [.int 240, .int v5_4])) rfl ?_
    refine y_icmp_ge tq_X8_countRings 46 rfl rfl (fun c10 => ?_) (fun c10 => ?_)
    · skip
      refine y_blk 1 tq_X8_countRings (z := (47, [(0, .ref (ad 1)), (1, .int wire), (2, .int onlyFalseOnes), (3, .int v5_3), (4, .int v5_4)], [.int v5_3])) rfl ?_
      exact y_iret tq_X8_countRings rfl rfl (⟨⟨_, rfl⟩, rfl⟩)
    · skip
      refine y_blk 3 tq_X8_countRings (z := (17, [(0, .ref (ad 1)), (1, .int wire), (2, .int onlyFalseOnes), (3, .int v5_3), (4, .int v5_4)], [.int v5_4, .int wire, .ref (ad 1)])) rfl ?_
      refine y_callV hS tq_X8_countRings rfl (As := [.int wire, .int v5_4]) rfl cv_X8_484 (hX.1 1 _ rfl) (m_X8_rings hS hX wire v5_4) rfl (by decide) (Nat.le_of_ble_eq_true rfl) (fun r17 Gc17 q17 => ?_) (fun E9 G9 h9 => h9.elim)
      obtain ⟨⟨x17, hb_x17, rfl⟩, eG17⟩ := q17
      have eG17 := eG17.symm
      subst eG17
      refine y_blk 0 tq_X8_countRings (z := (20, [(0, .ref (ad 1)), (1, .int wire), (2, .int onlyFalseOnes), (3, .int v5_3), (4, .int v5_4)], [.int x17])) rfl ?_
      refine y_if_eq tq_X8_countRings 40 rfl rfl (fun c20 => ?_) (fun c20 => ?_)
      · skip
        refine y_blk 0 tq_X8_countRings (z := (40, [(0, .ref (ad 1)), (1, .int wire), (2, .int onlyFalseOnes), (3, .int v5_3), (4, .int v5_4)], [])) rfl ?_
        exact J40 v5_3 (by exact c10)
      · skip
        refine y_blk 1 tq_X8_countRings (z := (24, [(0, .ref (ad 1)), (1, .int wire), (2, .int onlyFalseOnes), (3, .int v5_3), (4, .int v5_4)], [.int onlyFalseOnes])) rfl ?_
        refine y_if_eq tq_X8_countRings 37 rfl rfl (fun c24 => ?_) (fun c24 => ?_)
        · skip
          refine y_blk 0 tq_X8_countRings (z := (37, [(0, .ref (ad 1)), (1, .int wire), (2, .int onlyFalseOnes), (3, .int v5_3), (4, .int v5_4)], [])) rfl ?_
          exact J37 (by exact c10)
        · skip
          refine y_blk 3 tq_X8_countRings (z := (31, [(0, .ref (ad 1)), (1, .int wire), (2, .int onlyFalseOnes), (3, .int v5_3), (4, .int v5_4)], [.int v5_4, .int wire, .ref (ad 1)])) rfl ?_
          refine y_callV hS tq_X8_countRings rfl (As := [.int wire, .int v5_4]) rfl cv_X8_487 (hX.1 1 _ rfl) (m_X8_isIntruded hS hX wire v5_4) rfl (by decide) (Nat.le_of_ble_eq_true rfl) (fun r31 Gc31 q31 => ?_) (fun E9 G9 h9 => h9.elim)
          obtain ⟨⟨x31, hb_x31, rfl⟩, eG31⟩ := q31
          have eG31 := eG31.symm
          subst eG31
          refine y_blk 0 tq_X8_countRings (z := (34, [(0, .ref (ad 1)), (1, .int wire), (2, .int onlyFalseOnes), (3, .int v5_3), (4, .int v5_4)], [.int x31])) rfl ?_
          refine y_if_ne tq_X8_countRings 40 rfl rfl (fun c34 => ?_) (fun c34 => ?_)
          · skip
            refine y_blk 0 tq_X8_countRings (z := (40, [(0, .ref (ad 1)), (1, .int wire), (2, .int onlyFalseOnes), (3, .int v5_3), (4, .int v5_4)], [])) rfl ?_
            exact J40 v5_3 (by exact c10)
          · skip
            refine y_blk 0 tq_X8_countRings (z := (37, [(0, .ref (ad 1)), (1, .int wire), (2, .int onlyFalseOnes), (3, .int v5_3), (4, .int v5_4)], [])) rfl ?_
            exact J37 (by exact c10)
  refine y_blk 4 tq_X8_countRings (z := (5, [(4, .int 0), (3, .int 0), (0, .ref (ad 1)), (1, .int wire), (2, .int onlyFalseOnes)], [])) rfl ?_
  refine y_pick (L2 := [(0, .ref (ad 1)), (1, .int wire), (2, .int onlyFalseOnes), (3, .int 0), (4, .int 0)]) [2, 3, 4, 1, 0] rfl ?_
  exact J5 _ 0 0 rfl
set_option maxHeartbeats 4000000 in
set_option maxRecDepth 100000 in
theorem m_X8_firstTrueRing {l : Launch} {S0 : State} {A0 : Array Value} {D : va_G} {aC : Nat → ClassId} {ad : Nat → Nat} {G : AH} {σ : XS} (hS : yS l S0 A0 D aC) (hX : atX aC ad G σ) (wire : Int32) : yM l S0 D yX8_firstTrueRing cX8_firstTrueRing 3 (some .int) 14 0 0 [.ref (ad 1), .int wire] G (fun r G1 => (∃ v : Int32, r = some (.int v)) ∧ G1 = G) (fun _ _ => False) := by
  refine yM.ofK K_X8_firstTrueRing rfl (by decide) (Nat.le_of_ble_eq_true rfl) ?_
  have J2 : ∀ (n2 : Nat) (v2_2 : Int32), ((240 : Int32).toInt - v2_2.toInt).toNat = n2 → Y l S0 D K_X8_firstTrueRing 14 0 0 (fun r G1 => (∃ v : Int32, r = some (.int v)) ∧ G1 = G) (fun _ _ => False) 2 [(0, .ref (ad 1)), (1, .int wire), (2, .int v2_2)] [] G 0 0 := by
    intro n2
    induction n2 using Nat.strongRecOn with
    | _ n2 ih2 =>
    intro v2_2 hn2
    subst hn2
    have J29 : ∀ (c6 : ¬ (240 : Int32) ≤ v2_2), Y l S0 D K_X8_firstTrueRing 14 0 0 (fun r G1 => (∃ v : Int32, r = some (.int v)) ∧ G1 = G) (fun _ _ => False) 29 [(0, .ref (ad 1)), (1, .int wire), (2, .int v2_2)] [] G 0 0 := by
      intro c6
      refine y_blk 2 tq_X8_firstTrueRing (z := (2, [(2, .int (v2_2 + 1)), (0, .ref (ad 1)), (1, .int wire)], [])) rfl ?_
      refine y_pick (L2 := [(0, .ref (ad 1)), (1, .int wire), (2, .int (v2_2 + 1))]) [1, 2, 0] rfl ?_
      exact ih2 _ (by exact ydec c6) (v2_2 + 1) rfl
    refine y_blk 2 tq_X8_firstTrueRing (z := (6, [(0, .ref (ad 1)), (1, .int wire), (2, .int v2_2)], [.int 240, .int v2_2])) rfl ?_
    refine y_icmp_ge tq_X8_firstTrueRing 35 rfl rfl (fun c6 => ?_) (fun c6 => ?_)
    · skip
      refine y_blk 1 tq_X8_firstTrueRing (z := (36, [(0, .ref (ad 1)), (1, .int wire), (2, .int v2_2)], [.int (-1)])) rfl ?_
      exact y_iret tq_X8_firstTrueRing rfl rfl (⟨⟨_, rfl⟩, rfl⟩)
    · skip
      refine y_blk 3 tq_X8_firstTrueRing (z := (12, [(0, .ref (ad 1)), (1, .int wire), (2, .int v2_2)], [.int v2_2, .int wire, .ref (ad 1)])) rfl ?_
      refine y_callV hS tq_X8_firstTrueRing rfl (As := [.int wire, .int v2_2]) rfl cv_X8_487 (hX.1 1 _ rfl) (m_X8_isIntruded hS hX wire v2_2) rfl (by decide) (Nat.le_of_ble_eq_true rfl) (fun r12 Gc12 q12 => ?_) (fun E9 G9 h9 => h9.elim)
      obtain ⟨⟨x12, hb_x12, rfl⟩, eG12⟩ := q12
      have eG12 := eG12.symm
      subst eG12
      refine y_blk 0 tq_X8_firstTrueRing (z := (15, [(0, .ref (ad 1)), (1, .int wire), (2, .int v2_2)], [.int x12])) rfl ?_
      refine y_if_eq tq_X8_firstTrueRing 29 rfl rfl (fun c15 => ?_) (fun c15 => ?_)
      · skip
        refine y_blk 0 tq_X8_firstTrueRing (z := (29, [(0, .ref (ad 1)), (1, .int wire), (2, .int v2_2)], [])) rfl ?_
        exact J29 (by exact c6)
      · skip
        refine y_blk 3 tq_X8_firstTrueRing (z := (21, [(0, .ref (ad 1)), (1, .int wire), (2, .int v2_2)], [.int v2_2, .int wire, .ref (ad 1)])) rfl ?_
        refine y_callV hS tq_X8_firstTrueRing rfl (As := [.int wire, .int v2_2]) rfl cv_X8_484 (hX.1 1 _ rfl) (m_X8_rings hS hX wire v2_2) rfl (by decide) (Nat.le_of_ble_eq_true rfl) (fun r21 Gc21 q21 => ?_) (fun E9 G9 h9 => h9.elim)
        obtain ⟨⟨x21, hb_x21, rfl⟩, eG21⟩ := q21
        have eG21 := eG21.symm
        subst eG21
        refine y_blk 0 tq_X8_firstTrueRing (z := (24, [(0, .ref (ad 1)), (1, .int wire), (2, .int v2_2)], [.int x21])) rfl ?_
        refine y_if_eq tq_X8_firstTrueRing 29 rfl rfl (fun c24 => ?_) (fun c24 => ?_)
        · skip
          refine y_blk 0 tq_X8_firstTrueRing (z := (29, [(0, .ref (ad 1)), (1, .int wire), (2, .int v2_2)], [])) rfl ?_
          exact J29 (by exact c6)
        · skip
          refine y_blk 1 tq_X8_firstTrueRing (z := (28, [(0, .ref (ad 1)), (1, .int wire), (2, .int v2_2)], [.int v2_2])) rfl ?_
          exact y_iret tq_X8_firstTrueRing rfl rfl (⟨⟨_, rfl⟩, rfl⟩)
  refine y_blk 2 tq_X8_firstTrueRing (z := (2, [(2, .int 0), (0, .ref (ad 1)), (1, .int wire)], [])) rfl ?_
  refine y_pick (L2 := [(0, .ref (ad 1)), (1, .int wire), (2, .int 0)]) [1, 2, 0] rfl ?_
  exact J2 _ 0 rfl
