/-! ===== contracts: the face of the class ===== -/
theorem xfr.bf {m : List Nat} {σ σ1 : XS} {n : Nat} {seed : Int32} (hx : xfr m σ σ1) (h : xbf n seed σ) (h2 : ¬ 56 + 2 ∈ m := by decide) (h3 : ¬ 56 + 3 ∈ m := by decide) (h4 : ¬ 56 + 4 ∈ m := by decide) : xbf n seed σ1 := h.fr hx h2 h3 h4
set_option maxHeartbeats 4000000 in
set_option maxRecDepth 100000 in
theorem m_X8_base {l : Launch} {S0 : State} {A0 : Array Value} {D : va_G} {aC : Nat → ClassId} {ad : Nat → Nat} {G : AH} {σ : XS} (hS : yS l S0 A0 D aC) (hX : atX aC ad G σ) (wide : Int32) (high : Int32) (seed : Int32) : yM l S0 D yX8_base cX8_base 4 (some .int) 16 1 6 [.ref (ad 1), .int wide, .int high, .int seed] G (fun r G1 => (r = some (.int (Int32.ofNat (cnt (kop seed) (wide * high).toInt.toNat))) ∧ ((3 ≤ wide ∧ wide ≤ 8) ∧ (3 ≤ high ∧ high ≤ 8) ∧ (0 ≤ seed ∧ seed ≤ 100))) ∧ ∃ σ1 : XS, atX aC ad G1 σ1 ∧ keepX G G1 ∧ xfr [0, 1, 2, 3, 4, 5, 6, 7, 8, 10, 11, 12, 13, 14, 15, 16, 17, 18, 20, 21, 22, 23, 35, 37, 38, 39, 48, 49, 50, 51, 53, 54, 56, 57, 58, 59, 60, 61] σ σ1 ∧ xbase σ σ1 wide high seed) (fun E G1 => ((E = "java/lang/IllegalArgumentException" ∧ (¬ ((3 ≤ wide ∧ wide ≤ 8) ∧ (3 ≤ high ∧ high ≤ 8) ∧ (0 ≤ seed ∧ seed ≤ 100))))) ∧ G1 = G) := by
  refine yM.ofK K_X8_base rfl (by decide) (Nat.le_of_ble_eq_true rfl) ?_
  refine y_blk 3 tq_X8_base (z := (4, [(0, .ref (ad 1)), (1, .int wide), (2, .int high), (3, .int seed)], [.int 8, .int 3, .int wide])) rfl ?_
  refine y_callS hS tq_X8_base rfl (As := [.int wide, .int 3, .int 8]) rfl cs_X8_76 (m_X8_isIn hS  wide 3 8) rfl (by decide) (Nat.le_of_ble_eq_true rfl) (fun r4 Gc4 q4 => ?_) (fun E9 G9 h9 => h9.elim)
  obtain ⟨rfl, eG4⟩ := q4
  have eG4 := eG4.symm
  subst eG4
  refine y_blk 0 tq_X8_base (z := (7, [(0, .ref (ad 1)), (1, .int wide), (2, .int high), (3, .int seed)], [.int (if 3 ≤ wide ∧ wide ≤ 8 then 1 else 0)])) rfl ?_
  refine y_if_eq tq_X8_base 30 rfl rfl (fun c7 => ?_) (fun c7 => ?_)
  · skip
    refine y_blk 0 tq_X8_base (z := (30, [(0, .ref (ad 1)), (1, .int wide), (2, .int high), (3, .int seed)], [])) rfl ?_
    exact y_throwL hS tq_X8_base rfl rfl rfl rfl rfl rfl yth_base (by decide) (Nat.le_of_ble_eq_true rfl) (⟨⟨rfl, by intro q9; (simp only [yif0, Classical.not_not, ylt, yle, yl_m1, yl_0, yl_1, yl_2, yl_3, yl_4, yl_5, yl_6, yl_7, yl_8, yl_9, yl_10, yl_11, yl_12, yl_15, yl_16, yl_20, yl_60, yl_64, yl_90, yl_97, yl_99, yl_100, yl_120, yl_239, yl_240] at *; omega)⟩, rfl⟩) (by decide) (by decide)
  · skip
    refine y_blk 3 tq_X8_base (z := (14, [(0, .ref (ad 1)), (1, .int wide), (2, .int high), (3, .int seed)], [.int 8, .int 3, .int high])) rfl ?_
    refine y_callS hS tq_X8_base rfl (As := [.int high, .int 3, .int 8]) rfl cs_X8_76 (m_X8_isIn hS  high 3 8) rfl (by decide) (Nat.le_of_ble_eq_true rfl) (fun r14 Gc14 q14 => ?_) (fun E9 G9 h9 => h9.elim)
    obtain ⟨rfl, eG14⟩ := q14
    have eG14 := eG14.symm
    subst eG14
    refine y_blk 0 tq_X8_base (z := (17, [(0, .ref (ad 1)), (1, .int wide), (2, .int high), (3, .int seed)], [.int (if 3 ≤ high ∧ high ≤ 8 then 1 else 0)])) rfl ?_
    refine y_if_eq tq_X8_base 30 rfl rfl (fun c17 => ?_) (fun c17 => ?_)
    · skip
      refine y_blk 0 tq_X8_base (z := (30, [(0, .ref (ad 1)), (1, .int wide), (2, .int high), (3, .int seed)], [])) rfl ?_
      exact y_throwL hS tq_X8_base rfl rfl rfl rfl rfl rfl yth_base (by decide) (Nat.le_of_ble_eq_true rfl) (⟨⟨rfl, by intro q9; (simp only [yif0, Classical.not_not, ylt, yle, yl_m1, yl_0, yl_1, yl_2, yl_3, yl_4, yl_5, yl_6, yl_7, yl_8, yl_9, yl_10, yl_11, yl_12, yl_15, yl_16, yl_20, yl_60, yl_64, yl_90, yl_97, yl_99, yl_100, yl_120, yl_239, yl_240] at *; omega)⟩, rfl⟩) (by decide) (by decide)
    · skip
      refine y_blk 3 tq_X8_base (z := (24, [(0, .ref (ad 1)), (1, .int wide), (2, .int high), (3, .int seed)], [.int 100, .int 0, .int seed])) rfl ?_
      refine y_callS hS tq_X8_base rfl (As := [.int seed, .int 0, .int 100]) rfl cs_X8_76 (m_X8_isIn hS  seed 0 100) rfl (by decide) (Nat.le_of_ble_eq_true rfl) (fun r24 Gc24 q24 => ?_) (fun E9 G9 h9 => h9.elim)
      obtain ⟨rfl, eG24⟩ := q24
      have eG24 := eG24.symm
      subst eG24
      refine y_blk 0 tq_X8_base (z := (27, [(0, .ref (ad 1)), (1, .int wide), (2, .int high), (3, .int seed)], [.int (if 0 ≤ seed ∧ seed ≤ 100 then 1 else 0)])) rfl ?_
      refine y_if_ne tq_X8_base 40 rfl rfl (fun c27 => ?_) (fun c27 => ?_)
      · skip
        refine y_blk 1 tq_X8_base (z := (41, [(0, .ref (ad 1)), (1, .int wide), (2, .int high), (3, .int seed)], [.ref (ad 1)])) rfl ?_
        refine y_get hS tq_X8_base (v := .ref (ad 2)) rfl fg_X8_10_X8 (hX.1 1 _ rfl) rfl ?_
        refine y_blk 3 tq_X8_base (z := (47, [(0, .ref (ad 1)), (1, .int wide), (2, .int high), (3, .int seed)], [.int seed, .int high, .int wide, .ref (ad 2)])) rfl ?_
        refine y_callV hS tq_X8_base rfl (As := [.int wide, .int high, .int seed]) rfl cv_X8_87 (hX.1 2 _ rfl) (m_X1_build hS hX wide high seed (by (simp only [yif0, Classical.not_not, ylt, yle, yl_m1, yl_0, yl_1, yl_2, yl_3, yl_4, yl_5, yl_6, yl_7, yl_8, yl_9, yl_10, yl_11, yl_12, yl_15, yl_16, yl_20, yl_60, yl_64, yl_90, yl_97, yl_99, yl_100, yl_120, yl_239, yl_240] at *; omega)) (xwh (by (simp only [yif0, Classical.not_not, ylt, yle, yl_m1, yl_0, yl_1, yl_2, yl_3, yl_4, yl_5, yl_6, yl_7, yl_8, yl_9, yl_10, yl_11, yl_12, yl_15, yl_16, yl_20, yl_60, yl_64, yl_90, yl_97, yl_99, yl_100, yl_120, yl_239, yl_240] at *; omega)) (by (simp only [yif0, Classical.not_not, ylt, yle, yl_m1, yl_0, yl_1, yl_2, yl_3, yl_4, yl_5, yl_6, yl_7, yl_8, yl_9, yl_10, yl_11, yl_12, yl_15, yl_16, yl_20, yl_60, yl_64, yl_90, yl_97, yl_99, yl_100, yl_120, yl_239, yl_240] at *; omega)) (by (simp only [yif0, Classical.not_not, ylt, yle, yl_m1, yl_0, yl_1, yl_2, yl_3, yl_4, yl_5, yl_6, yl_7, yl_8, yl_9, yl_10, yl_11, yl_12, yl_15, yl_16, yl_20, yl_60, yl_64, yl_90, yl_97, yl_99, yl_100, yl_120, yl_239, yl_240] at *; omega)) (by (simp only [yif0, Classical.not_not, ylt, yle, yl_m1, yl_0, yl_1, yl_2, yl_3, yl_4, yl_5, yl_6, yl_7, yl_8, yl_9, yl_10, yl_11, yl_12, yl_15, yl_16, yl_20, yl_60, yl_64, yl_90, yl_97, yl_99, yl_100, yl_120, yl_239, yl_240] at *; omega)))) rfl (by decide) (Nat.le_of_ble_eq_true rfl) (fun r47 Gc47 q47 => ?_) (fun E9 G9 h9 => h9.elim)
        obtain ⟨rfl, σ47, hXc47, hFc47, knc47, hR47⟩ := q47
        refine y_blk 1 tq_X8_base (z := (51, [(0, .ref (ad 1)), (1, .int wide), (2, .int high), (3, .int seed)], [.ref (ad 1)])) rfl ?_
        refine y_get hS tq_X8_base (v := .ref (ad 4)) rfl fg_X8_19_X8 (hXc47.1 1 _ rfl) rfl ?_
        refine y_blk 0 tq_X8_base (z := (54, [(0, .ref (ad 1)), (1, .int wide), (2, .int high), (3, .int seed)], [.ref (ad 4)])) rfl ?_
        refine y_callV hS tq_X8_base rfl (As := []) rfl cv_X8_91 (hXc47.1 4 _ rfl) (m_X4_forget hS hXc47 ) rfl (by decide) (Nat.le_of_ble_eq_true rfl) (fun r54 Gc54 q54 => ?_) (fun E9 G9 h9 => h9.elim)
        obtain ⟨rfl, hXc54, hFc54⟩ := q54
        refine y_blk 1 tq_X8_base (z := (58, [(0, .ref (ad 1)), (1, .int wide), (2, .int high), (3, .int seed)], [.ref (ad 1)])) rfl ?_
        refine y_get hS tq_X8_base (v := .ref (ad 5)) rfl fg_X8_26_X8 (hXc54.1 1 _ rfl) rfl ?_
        refine y_blk 0 tq_X8_base (z := (61, [(0, .ref (ad 1)), (1, .int wide), (2, .int high), (3, .int seed)], [.ref (ad 5)])) rfl ?_
        refine y_callV hS tq_X8_base rfl (As := []) rfl cv_X8_94 (hXc54.1 5 _ rfl) (m_X0_forget hS hXc54 ) rfl (by decide) (Nat.le_of_ble_eq_true rfl) (fun r61 Gc61 q61 => ?_) (fun E9 G9 h9 => h9.elim)
        obtain ⟨rfl, hXc61, hFc61⟩ := q61
        refine y_blk 1 tq_X8_base (z := (65, [(0, .ref (ad 1)), (1, .int wide), (2, .int high), (3, .int seed)], [.ref (ad 1)])) rfl ?_
        refine y_get hS tq_X8_base (v := .ref (ad 6)) rfl fg_X8_33_X8 (hXc61.1 1 _ rfl) rfl ?_
        refine y_blk 0 tq_X8_base (z := (68, [(0, .ref (ad 1)), (1, .int wide), (2, .int high), (3, .int seed)], [.ref (ad 6)])) rfl ?_
        refine y_callV hS tq_X8_base rfl (As := []) rfl cv_X8_95 (hXc61.1 6 _ rfl) (m_X2_forget hS hXc61 ) rfl (by decide) (Nat.le_of_ble_eq_true rfl) (fun r68 Gc68 q68 => ?_) (fun E9 G9 h9 => h9.elim)
        obtain ⟨rfl, hXc68, hFc68⟩ := q68
        refine y_blk 1 tq_X8_base (z := (72, [(0, .ref (ad 1)), (1, .int wide), (2, .int high), (3, .int seed)], [.ref (ad 1)])) rfl ?_
        refine y_get hS tq_X8_base (v := .ref (ad 120)) rfl fg_X8_42_X8 (hXc68.1 1 _ rfl) rfl ?_
        refine y_blk 0 tq_X8_base (z := (75, [(0, .ref (ad 1)), (1, .int wide), (2, .int high), (3, .int seed)], [.ref (ad 120)])) rfl ?_
        refine y_callV hS tq_X8_base rfl (As := []) rfl cv_X8_96 (hXc68.num (k := 10) (by decide)) (m_X5_clear hS hXc68 (k := 10) (by decide) ) rfl (by decide) (Nat.le_of_ble_eq_true rfl) (fun r75 Gc75 q75 => ?_) (fun E9 G9 h9 => h9.elim)
        obtain ⟨rfl, hXc75, hFc75⟩ := q75
        refine y_blk 1 tq_X8_base (z := (79, [(0, .ref (ad 1)), (1, .int wide), (2, .int high), (3, .int seed)], [.ref (ad 1)])) rfl ?_
        refine y_get hS tq_X8_base (v := .ref (ad 7)) rfl fg_X8_49_X8 (hXc75.1 1 _ rfl) rfl ?_
        refine y_blk 0 tq_X8_base (z := (82, [(0, .ref (ad 1)), (1, .int wide), (2, .int high), (3, .int seed)], [.ref (ad 7)])) rfl ?_
        refine y_callV hS tq_X8_base rfl (As := []) rfl cv_X8_99 (hXc75.1 7 _ rfl) (m_X7_startAnew hS hXc75 ) rfl (by decide) (Nat.le_of_ble_eq_true rfl) (fun r82 Gc82 q82 => ?_) (fun E9 G9 h9 => h9.elim)
        obtain ⟨rfl, σ82, hXc82, hFc82, knc82, hR82⟩ := q82
        refine y_blk 1 tq_X8_base (z := (86, [(0, .ref (ad 1)), (1, .int wide), (2, .int high), (3, .int seed)], [.ref (ad 1)])) rfl ?_
        refine y_get hS tq_X8_base (v := .ref (ad 130)) rfl fg_X8_53_X8 (hXc82.1 1 _ rfl) rfl ?_
        refine y_blk 1 tq_X8_base (z := (90, [(0, .ref (ad 1)), (1, .int wide), (2, .int high), (3, .int seed)], [.int (-1), .ref (ad 130)])) rfl ?_
        refine y_callV hS tq_X8_base rfl (As := [.int (-1)]) rfl cv_X8_73 (hXc82.num (k := 15) (by decide)) (m_X5_fill hS hXc82 (k := 15) (by decide) (-1) (fun q => absurd q (by decide))) rfl (by decide) (Nat.le_of_ble_eq_true rfl) (fun r90 Gc90 q90 => ?_) (fun E9 G9 h9 => h9.elim)
        obtain ⟨rfl, σ90, hXc90, hFc90, knc90, hR90⟩ := q90
        refine y_blk 1 tq_X8_base (z := (94, [(0, .ref (ad 1)), (1, .int wide), (2, .int high), (3, .int seed)], [.ref (ad 1)])) rfl ?_
        refine y_get hS tq_X8_base (v := .ref (ad 8)) rfl fg_X8_59_X8 (hXc90.1 1 _ rfl) rfl ?_
        refine y_blk 0 tq_X8_base (z := (97, [(0, .ref (ad 1)), (1, .int wide), (2, .int high), (3, .int seed)], [.ref (ad 8)])) rfl ?_
        refine y_callV hS tq_X8_base rfl (As := []) rfl cv_X8_102 (hXc90.1 8 _ rfl) (m_X3_forget hS hXc90 ) rfl (by decide) (Nat.le_of_ble_eq_true rfl) (fun r97 Gc97 q97 => ?_) (fun E9 G9 h9 => h9.elim)
        obtain ⟨rfl, hXc97, hFc97⟩ := q97
        refine y_blk 1 tq_X8_base (z := (101, [(0, .ref (ad 1)), (1, .int wide), (2, .int high), (3, .int seed)], [.ref (ad 1)])) rfl ?_
        refine y_get hS tq_X8_base (v := .ref (ad 9)) rfl fg_X8_66_X8 (hXc97.1 1 _ rfl) rfl ?_
        refine y_blk 0 tq_X8_base (z := (104, [(0, .ref (ad 1)), (1, .int wide), (2, .int high), (3, .int seed)], [.ref (ad 9)])) rfl ?_
        refine y_callV hS tq_X8_base rfl (As := []) rfl cv_X8_103 (hXc97.1 9 _ rfl) (m_X6_forget hS hXc97 ) rfl (by decide) (Nat.le_of_ble_eq_true rfl) (fun r104 Gc104 q104 => ?_) (fun E9 G9 h9 => h9.elim)
        obtain ⟨rfl, hXc104, hFc104⟩ := q104
        refine y_blk 1 tq_X8_base (z := (108, [(0, .ref (ad 1)), (1, .int wide), (2, .int high), (3, .int seed)], [.ref (ad 1)])) rfl ?_
        refine y_get hS tq_X8_base (v := .ref (ad 2)) rfl fg_X8_10_X8 (hXc104.1 1 _ rfl) rfl ?_
        refine y_blk 0 tq_X8_base (z := (111, [(0, .ref (ad 1)), (1, .int wide), (2, .int high), (3, .int seed)], [.ref (ad 2)])) rfl ?_
        refine y_callV hS tq_X8_base rfl (As := []) rfl cv_X8_104 (hXc104.1 2 _ rfl) (m_X1_openCells hS hXc104 ) rfl (by decide) (Nat.le_of_ble_eq_true rfl) (fun r111 Gc111 q111 => ?_) (fun E9 G9 h9 => h9.elim)
        obtain ⟨rfl, eG111⟩ := q111
        have eG111 := eG111.symm
        subst eG111
        refine y_blk 0 tq_X8_base (z := (114, [(0, .ref (ad 1)), (1, .int wide), (2, .int high), (3, .int seed)], [.long ((xall (((xsz (xsz ((xsz (xsz (xsz (xsz (xsz σ90 16 0) 17 0) 18 0) 20 0) 21 0)) 22 0) 23 0)).2.2.1 0 * ((xsz (xsz ((xsz (xsz (xsz (xsz (xsz σ90 16 0) 17 0) 18 0) 20 0) 21 0)) 22 0) 23 0)).2.2.1 1)) &&& ((((xsz (xsz ((xsz (xsz (xsz (xsz (xsz σ90 16 0) 17 0) 18 0) 20 0) 21 0)) 22 0) 23 0)).2.2.2.1 2) ^^^ (-1)))])) rfl ?_
        refine y_callS hS tq_X8_base rfl (As := [.long ((xall (((xsz (xsz ((xsz (xsz (xsz (xsz (xsz σ90 16 0) 17 0) 18 0) 20 0) 21 0)) 22 0) 23 0)).2.2.1 0 * ((xsz (xsz ((xsz (xsz (xsz (xsz (xsz σ90 16 0) 17 0) 18 0) 20 0) 21 0)) 22 0) 23 0)).2.2.1 1)) &&& ((((xsz (xsz ((xsz (xsz (xsz (xsz (xsz σ90 16 0) 17 0) 18 0) 20 0) 21 0)) 22 0) 23 0)).2.2.2.1 2) ^^^ (-1)))]) rfl cs_X8_108 (m_J13_bitCount_95d88 hS  ((xall (((xsz (xsz ((xsz (xsz (xsz (xsz (xsz σ90 16 0) 17 0) 18 0) 20 0) 21 0)) 22 0) 23 0)).2.2.1 0 * ((xsz (xsz ((xsz (xsz (xsz (xsz (xsz σ90 16 0) 17 0) 18 0) 20 0) 21 0)) 22 0) 23 0)).2.2.1 1)) &&& ((((xsz (xsz ((xsz (xsz (xsz (xsz (xsz σ90 16 0) 17 0) 18 0) 20 0) 21 0)) 22 0) 23 0)).2.2.2.1 2) ^^^ (-1)))) rfl (by decide) (Nat.le_of_ble_eq_true rfl) (fun r114 Gc114 q114 => ?_) (fun E9 G9 h9 => h9.elim)
        obtain ⟨rfl, eG114⟩ := q114
        have eG114 := eG114.symm
        subst eG114
        refine y_blk 0 tq_X8_base (z := (117, [(0, .ref (ad 1)), (1, .int wide), (2, .int high), (3, .int seed)], [.int (bcL ((xall (((xsz (xsz ((xsz (xsz (xsz (xsz (xsz σ90 16 0) 17 0) 18 0) 20 0) 21 0)) 22 0) 23 0)).2.2.1 0 * ((xsz (xsz ((xsz (xsz (xsz (xsz (xsz σ90 16 0) 17 0) 18 0) 20 0) 21 0)) 22 0) 23 0)).2.2.1 1)) &&& ((((xsz (xsz ((xsz (xsz (xsz (xsz (xsz σ90 16 0) 17 0) 18 0) 20 0) 21 0)) 22 0) 23 0)).2.2.2.1 2) ^^^ (-1))))])) rfl ?_
        exact y_iret tq_X8_base rfl rfl (⟨⟨congrArg (fun z => some (Value.int z)) (xopen (knc90.i (k := 0) (knc82.i (k := 0) hR47.1)) (knc90.i (k := 1) (knc82.i (k := 1) hR47.2.1)) ((have h9 := knc90.bf (knc82.bf hR47.2.2.1); h9)) (xwh (by (simp only [yif0, Classical.not_not, ylt, yle, yl_m1, yl_0, yl_1, yl_2, yl_3, yl_4, yl_5, yl_6, yl_7, yl_8, yl_9, yl_10, yl_11, yl_12, yl_15, yl_16, yl_20, yl_60, yl_64, yl_90, yl_97, yl_99, yl_100, yl_120, yl_239, yl_240] at *; omega)) (by (simp only [yif0, Classical.not_not, ylt, yle, yl_m1, yl_0, yl_1, yl_2, yl_3, yl_4, yl_5, yl_6, yl_7, yl_8, yl_9, yl_10, yl_11, yl_12, yl_15, yl_16, yl_20, yl_60, yl_64, yl_90, yl_97, yl_99, yl_100, yl_120, yl_239, yl_240] at *; omega)) (by (simp only [yif0, Classical.not_not, ylt, yle, yl_m1, yl_0, yl_1, yl_2, yl_3, yl_4, yl_5, yl_6, yl_7, yl_8, yl_9, yl_10, yl_11, yl_12, yl_15, yl_16, yl_20, yl_60, yl_64, yl_90, yl_97, yl_99, yl_100, yl_120, yl_239, yl_240] at *; omega)) (by (simp only [yif0, Classical.not_not, ylt, yle, yl_m1, yl_0, yl_1, yl_2, yl_3, yl_4, yl_5, yl_6, yl_7, yl_8, yl_9, yl_10, yl_11, yl_12, yl_15, yl_16, yl_20, yl_60, yl_64, yl_90, yl_97, yl_99, yl_100, yl_120, yl_239, yl_240] at *; omega)))), (by first | exact absurd rfl hq21 | exact absurd rfl hq39 | exact absurd rfl hq30 | exact absurd rfl hq24 | (refine ⟨?_, ?_⟩ <;> (simp only [yif0, Classical.not_not, ylt, yle, yl_m1, yl_0, yl_1, yl_2, yl_3, yl_4, yl_5, yl_6, yl_7, yl_8, yl_9, yl_10, yl_11, yl_12, yl_15, yl_16, yl_20, yl_60, yl_64, yl_90, yl_97, yl_99, yl_100, yl_120, yl_239, yl_240] at *; omega)) | (simp only [yif0, Classical.not_not, ylt, yle, yl_m1, yl_0, yl_1, yl_2, yl_3, yl_4, yl_5, yl_6, yl_7, yl_8, yl_9, yl_10, yl_11, yl_12, yl_15, yl_16, yl_20, yl_60, yl_64, yl_90, yl_97, yl_99, yl_100, yl_120, yl_239, yl_240] at *; omega))⟩, _, hXc104, (((((((((keepX.rfl'.trans hFc47).trans hFc54).trans hFc61).trans hFc68).trans hFc75).trans hFc82).trans hFc90).trans hFc97).trans hFc104), ((xkn.trans (xkn.trans (xkn.trans (xkn.trans (xkn.trans (xkn.trans (xkn.trans (xkn.trans (xkn.trans xkn.rfl' knc47) (xkn.trans (xkn.trans xkn_sz xkn_sz) xkn_sz)) (xkn.trans xkn_sz xkn_sz)) (xkn.trans (xkn.trans (xkn.trans xkn_sz xkn_sz) xkn_sz) xkn_sz)) xkn_sz) knc82) knc90) (xkn.trans (xkn.trans (xkn.trans (xkn.trans xkn_sz xkn_sz) xkn_sz) xkn_sz) xkn_sz)) (xkn.trans xkn_sz xkn_sz))).w, ⟨(fun k hk => by simp only [List.mem_cons, List.not_mem_nil, or_false] at hk; rcases hk with rfl | rfl | rfl | rfl | rfl | rfl | rfl | rfl | rfl | rfl | rfl | rfl | rfl | rfl | rfl | rfl | rfl <;> first | rfl | exact knc90.z (knc82.z rfl)), ⟨(knc90.i (k := 0) (knc82.i (k := 0) hR47.1)), (knc90.i (k := 1) (knc82.i (k := 1) hR47.2.1)), (knc90.i (k := 2) (knc82.i (k := 2) hR47.2.2.2.1)), (knc90.i (k := 3) (knc82.i (k := 3) hR47.2.2.2.2))⟩, (have h9 := knc90.bf (knc82.bf hR47.2.2.1); h9), (knc90.nw (by have e9 : σ47.2.2.1 4 = σ.2.2.1 4 := knc47.i rfl; rw [← e9]; exact hR82.1)).eq, (hR82.2.fr knc90).eq, hR90.eq⟩⟩)
      · skip
        refine y_blk 0 tq_X8_base (z := (30, [(0, .ref (ad 1)), (1, .int wide), (2, .int high), (3, .int seed)], [])) rfl ?_
        exact y_throwL hS tq_X8_base rfl rfl rfl rfl rfl rfl yth_base (by decide) (Nat.le_of_ble_eq_true rfl) (⟨⟨rfl, by intro q9; (simp only [yif0, Classical.not_not, ylt, yle, yl_m1, yl_0, yl_1, yl_2, yl_3, yl_4, yl_5, yl_6, yl_7, yl_8, yl_9, yl_10, yl_11, yl_12, yl_15, yl_16, yl_20, yl_60, yl_64, yl_90, yl_97, yl_99, yl_100, yl_120, yl_239, yl_240] at *; omega)⟩, rfl⟩) (by decide) (by decide)
set_option maxHeartbeats 4000000 in
set_option maxRecDepth 100000 in
theorem m_X8_lay {l : Launch} {S0 : State} {A0 : Array Value} {D : va_G} {aC : Nat → ClassId} {ad : Nat → Nat} {G : AH} {σ : XS} (hS : yS l S0 A0 D aC) (hX : atX aC ad G σ) (cell : Int32) (kind : Int32) : yM l S0 D yX8_lay cX8_lay 4 (some .int) 16 3 18 [.ref (ad 1), .int cell, .int kind] G (fun r G1 => (r = some (.int (xkf σ cell)) ∧ ((0 ≤ cell ∧ cell ≤ σ.2.2.1 0 * σ.2.2.1 1 - 1) ∧ ((0 ≤ kind ∧ kind ≤ 3) ∧ (kind = 1 → ∃ v : Int64, xse v (xtkQ σ) ∧ ¬ xis v cell)))) ∧ ∃ σ1 : XS, atX aC ad G1 σ1 ∧ keepX G G1 ∧ xfr [58, 59, 60, 61] σ σ1 ∧ xsk σ σ1 cell kind) (fun E G1 => ((E = "java/lang/IndexOutOfBoundsException" ∧ (¬ (0 ≤ cell ∧ cell ≤ σ.2.2.1 0 * σ.2.2.1 1 - 1))) ∨ (E = "java/lang/IllegalArgumentException" ∧ ((0 ≤ cell ∧ cell ≤ σ.2.2.1 0 * σ.2.2.1 1 - 1) ∧ (¬ (0 ≤ kind ∧ kind ≤ 3)))) ∨ (E = "java/lang/IllegalStateException" ∧ ((0 ≤ cell ∧ cell ≤ σ.2.2.1 0 * σ.2.2.1 1 - 1) ∧ ((0 ≤ kind ∧ kind ≤ 3) ∧ (¬ (kind = 1 → ∃ v : Int64, xse v (xtkQ σ) ∧ ¬ xis v cell)))))) ∧ G1 = G) := by
  refine yM.ofK K_X8_lay rfl (by decide) (Nat.le_of_ble_eq_true rfl) ?_
  refine y_blk 2 tq_X8_lay (z := (2, [(0, .ref (ad 1)), (1, .int cell), (2, .int kind)], [.int cell, .ref (ad 1)])) rfl ?_
  refine y_callV hS tq_X8_lay rfl (As := [.int cell]) rfl cv_X8_114 (hX.1 1 _ rfl) (m_X8_needCell hS hX cell) rfl (by decide) (Nat.le_of_ble_eq_true rfl) (fun r2 Gc2 q2 => ?_) (fun E9 G9 h9 => ⟨(Or.inl (And.intro h9.1.1 (by first | exact h9.1.2 | exact absurd h9.1.2 (by decide) | exact absurd rfl hq2 | exact absurd rfl hq11 | exact absurd rfl hq19 | exact absurd rfl hq21 | exact absurd rfl hq24 | exact absurd rfl hq30 | exact absurd rfl hq35 | exact absurd rfl hq39 | exact absurd rfl hq40 | exact absurd rfl hq57 | exact absurd rfl hq45 | exact absurd rfl hq38 | exact absurd rfl hq34 | exact absurd rfl hq33 | exact absurd rfl hq29 | (have z9 := h9.1.2; clear h9; (repeat' apply And.intro) <;> first | (first | assumption | (simp only [yif0, Classical.not_not, ylt, yle, xcp0, xcp3, xcp5, xcp10, xcp12, xcp16, xcp22, yl_m1, yl_0, yl_1, yl_2, yl_3, yl_4, yl_5, yl_6, yl_7, yl_8, yl_9, yl_10, yl_11, yl_12, yl_15, yl_16, yl_20, yl_60, yl_64, yl_90, yl_97, yl_99, yl_100, yl_120, yl_239, yl_240] at *; first | omega | assumption | contradiction)) | (intro q9; (simp only [yif0, Classical.not_not, ylt, yle, xcp0, xcp3, xcp5, xcp10, xcp12, xcp16, xcp22, yl_m1, yl_0, yl_1, yl_2, yl_3, yl_4, yl_5, yl_6, yl_7, yl_8, yl_9, yl_10, yl_11, yl_12, yl_15, yl_16, yl_20, yl_60, yl_64, yl_90, yl_97, yl_99, yl_100, yl_120, yl_239, yl_240] at *; first | omega | contradiction | (obtain ⟨qa, qb⟩ := q9; contradiction))))))), h9.2⟩)
  obtain ⟨⟨rfl, hq2⟩, eG2⟩ := q2
  have eG2 := eG2.symm
  subst eG2
  refine y_blk 3 tq_X8_lay (z := (8, [(0, .ref (ad 1)), (1, .int cell), (2, .int kind)], [.int 3, .int 0, .int kind])) rfl ?_
  refine y_callS hS tq_X8_lay rfl (As := [.int kind, .int 0, .int 3]) rfl cs_X8_76 (m_X8_isIn hS  kind 0 3) rfl (by decide) (Nat.le_of_ble_eq_true rfl) (fun r8 Gc8 q8 => ?_) (fun E9 G9 h9 => h9.elim)
  obtain ⟨rfl, eG8⟩ := q8
  have eG8 := eG8.symm
  subst eG8
  refine y_blk 0 tq_X8_lay (z := (11, [(0, .ref (ad 1)), (1, .int cell), (2, .int kind)], [.int (if 0 ≤ kind ∧ kind ≤ 3 then 1 else 0)])) rfl ?_
  refine y_callS hS tq_X8_lay rfl (As := [.int (if 0 ≤ kind ∧ kind ≤ 3 then 1 else 0)]) rfl cs_X8_117 (m_X8_needLet hS  (if 0 ≤ kind ∧ kind ≤ 3 then 1 else 0)) rfl (by decide) (Nat.le_of_ble_eq_true rfl) (fun r11 Gc11 q11 => ?_) (fun E9 G9 h9 => ⟨(Or.inr (Or.inl (And.intro h9.1.1 (by first | exact h9.1.2 | exact absurd h9.1.2 (by decide) | exact absurd rfl hq2 | exact absurd rfl hq11 | exact absurd rfl hq19 | exact absurd rfl hq21 | exact absurd rfl hq24 | exact absurd rfl hq30 | exact absurd rfl hq35 | exact absurd rfl hq39 | exact absurd rfl hq40 | exact absurd rfl hq57 | exact absurd rfl hq45 | exact absurd rfl hq38 | exact absurd rfl hq34 | exact absurd rfl hq33 | exact absurd rfl hq29 | (have z9 := h9.1.2; clear h9; (repeat' apply And.intro) <;> first | (first | assumption | (simp only [yif0, Classical.not_not, ylt, yle, xcp0, xcp3, xcp5, xcp10, xcp12, xcp16, xcp22, yl_m1, yl_0, yl_1, yl_2, yl_3, yl_4, yl_5, yl_6, yl_7, yl_8, yl_9, yl_10, yl_11, yl_12, yl_15, yl_16, yl_20, yl_60, yl_64, yl_90, yl_97, yl_99, yl_100, yl_120, yl_239, yl_240] at *; first | omega | assumption | contradiction)) | (intro q9; (simp only [yif0, Classical.not_not, ylt, yle, xcp0, xcp3, xcp5, xcp10, xcp12, xcp16, xcp22, yl_m1, yl_0, yl_1, yl_2, yl_3, yl_4, yl_5, yl_6, yl_7, yl_8, yl_9, yl_10, yl_11, yl_12, yl_15, yl_16, yl_20, yl_60, yl_64, yl_90, yl_97, yl_99, yl_100, yl_120, yl_239, yl_240] at *; first | omega | contradiction | (obtain ⟨qa, qb⟩ := q9; contradiction)))))))), h9.2⟩)
  obtain ⟨⟨rfl, hq11⟩, eG11⟩ := q11
  have eG11 := eG11.symm
  subst eG11
  refine y_blk 2 tq_X8_lay (z := (16, [(0, .ref (ad 1)), (1, .int cell), (2, .int kind)], [.int 1, .int kind])) rfl ?_
  refine y_icmp_ne tq_X8_lay 30 rfl rfl (fun c16 => ?_) (fun c16 => ?_)
  · skip
    refine y_blk 2 tq_X8_lay (z := (35, [(0, .ref (ad 1)), (1, .int cell), (2, .int kind)], [.int 1])) rfl ?_
    refine y_callS hS tq_X8_lay rfl (As := [.int 1]) rfl cs_X8_128 (m_X8_needPossible hS  1) rfl (by decide) (Nat.le_of_ble_eq_true rfl) (fun r35 Gc35 q35 => ?_) (fun E9 G9 h9 => ⟨(Or.inr (Or.inr (And.intro h9.1.1 (by first | exact absurd h9.1.2 (by decide) | exact ⟨hq2, Classical.not_not.mp (fun q => hq11 ((yif0 _).mpr q)), fun q => xlay_no (q c16) hr_x20 (Classical.not_not.mp (fun q => c27 ((yif0 _).mpr q)))⟩)))), h9.2⟩)
    obtain ⟨⟨rfl, hq35⟩, eG35⟩ := q35
    have eG35 := eG35.symm
    subst eG35
    refine y_blk 1 tq_X8_lay (z := (39, [(0, .ref (ad 1)), (1, .int cell), (2, .int kind)], [.ref (ad 1)])) rfl ?_
    refine y_get hS tq_X8_lay (v := .ref (ad 2)) rfl fg_X8_10_X8 (hX.1 1 _ rfl) rfl ?_
    refine y_blk 1 tq_X8_lay (z := (43, [(0, .ref (ad 1)), (1, .int cell), (2, .int kind)], [.int cell, .ref (ad 2)])) rfl ?_
    refine y_callV hS tq_X8_lay rfl (As := [.int cell]) rfl cv_X8_131 (hX.1 2 _ rfl) (m_X1_kindOf hS hX cell) rfl (by decide) (Nat.le_of_ble_eq_true rfl) (fun r43 Gc43 q43 => ?_) (fun E9 G9 h9 => h9.elim)
    obtain ⟨rfl, eG43⟩ := q43
    have eG43 := eG43.symm
    subst eG43
    refine y_blk 2 tq_X8_lay (z := (48, [(3, .int (xkf σ cell)), (0, .ref (ad 1)), (1, .int cell), (2, .int kind)], [.ref (ad 1)])) rfl ?_
    refine y_get hS tq_X8_lay (v := .ref (ad 2)) rfl fg_X8_10_X8 (hX.1 1 _ rfl) rfl ?_
    refine y_blk 2 tq_X8_lay (z := (53, [(3, .int (xkf σ cell)), (0, .ref (ad 1)), (1, .int cell), (2, .int kind)], [.int kind, .int cell, .ref (ad 2)])) rfl ?_
    refine y_callV hS tq_X8_lay rfl (As := [.int cell, .int kind]) rfl cv_X8_135 (hX.1 2 _ rfl) (m_X1_change hS hX cell kind) rfl (by decide) (Nat.le_of_ble_eq_true rfl) (fun r53 Gc53 q53 => ?_) (fun E9 G9 h9 => h9.elim)
    obtain ⟨rfl, σ53, hXc53, hFc53, knc53, hR53, hS53⟩ := q53
    refine y_blk 1 tq_X8_lay (z := (57, [(3, .int (xkf σ cell)), (0, .ref (ad 1)), (1, .int cell), (2, .int kind)], [.int (xkf σ cell)])) rfl ?_
    exact y_iret tq_X8_lay rfl rfl (⟨⟨rfl, (by first | exact absurd rfl hq35 | exact ⟨hq2, Classical.not_not.mp (fun q => hq11 ((yif0 _).mpr q)), fun q => absurd q c16⟩ | exact ⟨hq2, Classical.not_not.mp (fun q => hq11 ((yif0 _).mpr q)), fun _ => ⟨x20, hr_x20, (yif0 _).mp c27⟩⟩)⟩, _, hXc53, (keepX.rfl'.trans hFc53), ((xkn.trans xkn.rfl' knc53)).w, hS53⟩)
  · skip
    refine y_blk 1 tq_X8_lay (z := (20, [(0, .ref (ad 1)), (1, .int cell), (2, .int kind)], [.ref (ad 1)])) rfl ?_
    refine y_callV hS tq_X8_lay rfl (As := []) rfl cv_X8_121 (hX.1 1 _ rfl) (m_X8_takenCells hS hX ) rfl (by decide) (Nat.le_of_ble_eq_true rfl) (fun r20 Gc20 q20 => ?_) (fun E9 G9 h9 => h9.elim)
    obtain ⟨⟨x20, hr_x20, rfl⟩, eG20⟩ := q20
    have eG20 := eG20.symm
    subst eG20
    refine y_blk 1 tq_X8_lay (z := (24, [(0, .ref (ad 1)), (1, .int cell), (2, .int kind)], [.int cell, .long x20])) rfl ?_
    refine y_callS hS tq_X8_lay rfl (As := [.long x20, .int cell]) rfl cs_X8_124 (m_X8_isOf hS  x20 cell) rfl (by decide) (Nat.le_of_ble_eq_true rfl) (fun r24 Gc24 q24 => ?_) (fun E9 G9 h9 => h9.elim)
    obtain ⟨rfl, eG24⟩ := q24
    have eG24 := eG24.symm
    subst eG24
    refine y_blk 0 tq_X8_lay (z := (27, [(0, .ref (ad 1)), (1, .int cell), (2, .int kind)], [.int (if xis x20 cell then 1 else 0)])) rfl ?_
    refine y_if_ne tq_X8_lay 34 rfl rfl (fun c27 => ?_) (fun c27 => ?_)
    · skip
      refine y_blk 1 tq_X8_lay (z := (35, [(0, .ref (ad 1)), (1, .int cell), (2, .int kind)], [.int 0])) rfl ?_
      refine y_callS hS tq_X8_lay rfl (As := [.int 0]) rfl cs_X8_128 (m_X8_needPossible hS  0) rfl (by decide) (Nat.le_of_ble_eq_true rfl) (fun r35 Gc35 q35 => ?_) (fun E9 G9 h9 => ⟨(Or.inr (Or.inr (And.intro h9.1.1 (by first | exact absurd h9.1.2 (by decide) | exact ⟨hq2, Classical.not_not.mp (fun q => hq11 ((yif0 _).mpr q)), fun q => xlay_no (q c16) hr_x20 (Classical.not_not.mp (fun q => c27 ((yif0 _).mpr q)))⟩)))), h9.2⟩)
      obtain ⟨⟨rfl, hq35⟩, eG35⟩ := q35
      have eG35 := eG35.symm
      subst eG35
      refine y_blk 1 tq_X8_lay (z := (39, [(0, .ref (ad 1)), (1, .int cell), (2, .int kind)], [.ref (ad 1)])) rfl ?_
      refine y_get hS tq_X8_lay (v := .ref (ad 2)) rfl fg_X8_10_X8 (hX.1 1 _ rfl) rfl ?_
      refine y_blk 1 tq_X8_lay (z := (43, [(0, .ref (ad 1)), (1, .int cell), (2, .int kind)], [.int cell, .ref (ad 2)])) rfl ?_
      refine y_callV hS tq_X8_lay rfl (As := [.int cell]) rfl cv_X8_131 (hX.1 2 _ rfl) (m_X1_kindOf hS hX cell) rfl (by decide) (Nat.le_of_ble_eq_true rfl) (fun r43 Gc43 q43 => ?_) (fun E9 G9 h9 => h9.elim)
      obtain ⟨rfl, eG43⟩ := q43
      have eG43 := eG43.symm
      subst eG43
      refine y_blk 2 tq_X8_lay (z := (48, [(3, .int (xkf σ cell)), (0, .ref (ad 1)), (1, .int cell), (2, .int kind)], [.ref (ad 1)])) rfl ?_
      refine y_get hS tq_X8_lay (v := .ref (ad 2)) rfl fg_X8_10_X8 (hX.1 1 _ rfl) rfl ?_
      refine y_blk 2 tq_X8_lay (z := (53, [(3, .int (xkf σ cell)), (0, .ref (ad 1)), (1, .int cell), (2, .int kind)], [.int kind, .int cell, .ref (ad 2)])) rfl ?_
      refine y_callV hS tq_X8_lay rfl (As := [.int cell, .int kind]) rfl cv_X8_135 (hX.1 2 _ rfl) (m_X1_change hS hX cell kind) rfl (by decide) (Nat.le_of_ble_eq_true rfl) (fun r53 Gc53 q53 => ?_) (fun E9 G9 h9 => h9.elim)
      obtain ⟨rfl, σ53, hXc53, hFc53, knc53, hR53, hS53⟩ := q53
      refine y_blk 1 tq_X8_lay (z := (57, [(3, .int (xkf σ cell)), (0, .ref (ad 1)), (1, .int cell), (2, .int kind)], [.int (xkf σ cell)])) rfl ?_
      exact y_iret tq_X8_lay rfl rfl (⟨⟨rfl, (by first | exact absurd rfl hq35 | exact ⟨hq2, Classical.not_not.mp (fun q => hq11 ((yif0 _).mpr q)), fun q => absurd q c16⟩ | exact ⟨hq2, Classical.not_not.mp (fun q => hq11 ((yif0 _).mpr q)), fun _ => ⟨x20, hr_x20, (yif0 _).mp c27⟩⟩)⟩, _, hXc53, (keepX.rfl'.trans hFc53), ((xkn.trans xkn.rfl' knc53)).w, hS53⟩)
    · skip
      refine y_blk 2 tq_X8_lay (z := (35, [(0, .ref (ad 1)), (1, .int cell), (2, .int kind)], [.int 1])) rfl ?_
      refine y_callS hS tq_X8_lay rfl (As := [.int 1]) rfl cs_X8_128 (m_X8_needPossible hS  1) rfl (by decide) (Nat.le_of_ble_eq_true rfl) (fun r35 Gc35 q35 => ?_) (fun E9 G9 h9 => ⟨(Or.inr (Or.inr (And.intro h9.1.1 (by first | exact absurd h9.1.2 (by decide) | exact ⟨hq2, Classical.not_not.mp (fun q => hq11 ((yif0 _).mpr q)), fun q => xlay_no (q c16) hr_x20 (Classical.not_not.mp (fun q => c27 ((yif0 _).mpr q)))⟩)))), h9.2⟩)
      obtain ⟨⟨rfl, hq35⟩, eG35⟩ := q35
      have eG35 := eG35.symm
      subst eG35
      refine y_blk 1 tq_X8_lay (z := (39, [(0, .ref (ad 1)), (1, .int cell), (2, .int kind)], [.ref (ad 1)])) rfl ?_
      refine y_get hS tq_X8_lay (v := .ref (ad 2)) rfl fg_X8_10_X8 (hX.1 1 _ rfl) rfl ?_
      refine y_blk 1 tq_X8_lay (z := (43, [(0, .ref (ad 1)), (1, .int cell), (2, .int kind)], [.int cell, .ref (ad 2)])) rfl ?_
      refine y_callV hS tq_X8_lay rfl (As := [.int cell]) rfl cv_X8_131 (hX.1 2 _ rfl) (m_X1_kindOf hS hX cell) rfl (by decide) (Nat.le_of_ble_eq_true rfl) (fun r43 Gc43 q43 => ?_) (fun E9 G9 h9 => h9.elim)
      obtain ⟨rfl, eG43⟩ := q43
      have eG43 := eG43.symm
      subst eG43
      refine y_blk 2 tq_X8_lay (z := (48, [(3, .int (xkf σ cell)), (0, .ref (ad 1)), (1, .int cell), (2, .int kind)], [.ref (ad 1)])) rfl ?_
      refine y_get hS tq_X8_lay (v := .ref (ad 2)) rfl fg_X8_10_X8 (hX.1 1 _ rfl) rfl ?_
      refine y_blk 2 tq_X8_lay (z := (53, [(3, .int (xkf σ cell)), (0, .ref (ad 1)), (1, .int cell), (2, .int kind)], [.int kind, .int cell, .ref (ad 2)])) rfl ?_
      refine y_callV hS tq_X8_lay rfl (As := [.int cell, .int kind]) rfl cv_X8_135 (hX.1 2 _ rfl) (m_X1_change hS hX cell kind) rfl (by decide) (Nat.le_of_ble_eq_true rfl) (fun r53 Gc53 q53 => ?_) (fun E9 G9 h9 => h9.elim)
      obtain ⟨rfl, σ53, hXc53, hFc53, knc53, hR53, hS53⟩ := q53
      refine y_blk 1 tq_X8_lay (z := (57, [(3, .int (xkf σ cell)), (0, .ref (ad 1)), (1, .int cell), (2, .int kind)], [.int (xkf σ cell)])) rfl ?_
      exact y_iret tq_X8_lay rfl rfl (⟨⟨rfl, (by first | exact absurd rfl hq35 | exact ⟨hq2, Classical.not_not.mp (fun q => hq11 ((yif0 _).mpr q)), fun q => absurd q c16⟩ | exact ⟨hq2, Classical.not_not.mp (fun q => hq11 ((yif0 _).mpr q)), fun _ => ⟨x20, hr_x20, (yif0 _).mp c27⟩⟩)⟩, _, hXc53, (keepX.rfl'.trans hFc53), ((xkn.trans xkn.rfl' knc53)).w, hS53⟩)
set_option maxHeartbeats 4000000 in
set_option maxRecDepth 100000 in
theorem m_X8_gates {l : Launch} {S0 : State} {A0 : Array Value} {D : va_G} {aC : Nat → ClassId} {ad : Nat → Nat} {G : AH} {σ : XS} (hS : yS l S0 A0 D aC) (hX : atX aC ad G σ) (from_ : Int32) (to : Int32) : yM l S0 D yX8_gates cX8_gates 3 (some .int) 12 1 6 [.ref (ad 1), .int from_, .int to] G (fun r G1 => (r = some (.int (bcL (σ.2.2.2.1 4))) ∧ ((0 ≤ from_ ∧ from_ ≤ 239) ∧ (0 ≤ to ∧ to ≤ 239))) ∧ ∃ σ1 : XS, atX aC ad G1 σ1 ∧ keepX G G1 ∧ xfr [50, 51] σ σ1 ∧ σ1 = xin (xin σ 2 from_) 3 to) (fun E G1 => ((E = "java/lang/IllegalArgumentException" ∧ (¬ ((0 ≤ from_ ∧ from_ ≤ 239) ∧ (0 ≤ to ∧ to ≤ 239))))) ∧ G1 = G) := by
  refine yM.ofK K_X8_gates rfl (by decide) (Nat.le_of_ble_eq_true rfl) ?_
  refine y_blk 1 tq_X8_gates (z := (1, [(0, .ref (ad 1)), (1, .int from_), (2, .int to)], [.int from_])) rfl ?_
  refine y_callS hS tq_X8_gates rfl (As := [.int from_]) rfl cs_X8_139 (m_X8_isMinute hS  from_) rfl (by decide) (Nat.le_of_ble_eq_true rfl) (fun r1 Gc1 q1 => ?_) (fun E9 G9 h9 => h9.elim)
  obtain ⟨rfl, eG1⟩ := q1
  have eG1 := eG1.symm
  subst eG1
  refine y_blk 0 tq_X8_gates (z := (4, [(0, .ref (ad 1)), (1, .int from_), (2, .int to)], [.int (if 0 ≤ from_ ∧ from_ ≤ 239 then 1 else 0)])) rfl ?_
  refine y_if_eq tq_X8_gates 18 rfl rfl (fun c4 => ?_) (fun c4 => ?_)
  · skip
    refine y_blk 1 tq_X8_gates (z := (19, [(0, .ref (ad 1)), (1, .int from_), (2, .int to)], [.int 0])) rfl ?_
    refine y_callS hS tq_X8_gates rfl (As := [.int 0]) rfl cs_X8_117 (m_X8_needLet hS  0) rfl (by decide) (Nat.le_of_ble_eq_true rfl) (fun r19 Gc19 q19 => ?_) (fun E9 G9 h9 => ⟨(And.intro h9.1.1 (by first | exact h9.1.2 | exact absurd h9.1.2 (by decide) | exact absurd rfl hq2 | exact absurd rfl hq11 | exact absurd rfl hq19 | exact absurd rfl hq21 | exact absurd rfl hq24 | exact absurd rfl hq30 | exact absurd rfl hq35 | exact absurd rfl hq39 | exact absurd rfl hq40 | exact absurd rfl hq57 | exact absurd rfl hq45 | exact absurd rfl hq38 | exact absurd rfl hq34 | exact absurd rfl hq33 | exact absurd rfl hq29 | (have z9 := h9.1.2; clear h9; (repeat' apply And.intro) <;> first | (first | assumption | (simp only [yif0, Classical.not_not, ylt, yle, xcp0, xcp3, xcp5, xcp10, xcp12, xcp16, xcp22, yl_m1, yl_0, yl_1, yl_2, yl_3, yl_4, yl_5, yl_6, yl_7, yl_8, yl_9, yl_10, yl_11, yl_12, yl_15, yl_16, yl_20, yl_60, yl_64, yl_90, yl_97, yl_99, yl_100, yl_120, yl_239, yl_240] at *; first | omega | assumption | contradiction)) | (intro q9; (simp only [yif0, Classical.not_not, ylt, yle, xcp0, xcp3, xcp5, xcp10, xcp12, xcp16, xcp22, yl_m1, yl_0, yl_1, yl_2, yl_3, yl_4, yl_5, yl_6, yl_7, yl_8, yl_9, yl_10, yl_11, yl_12, yl_15, yl_16, yl_20, yl_60, yl_64, yl_90, yl_97, yl_99, yl_100, yl_120, yl_239, yl_240] at *; first | omega | contradiction | (obtain ⟨qa, qb⟩ := q9; contradiction)))))), h9.2⟩)
    obtain ⟨⟨rfl, hq19⟩, eG19⟩ := q19
    have eG19 := eG19.symm
    subst eG19
    refine y_blk 1 tq_X8_gates (z := (23, [(0, .ref (ad 1)), (1, .int from_), (2, .int to)], [.ref (ad 1)])) rfl ?_
    refine y_get hS tq_X8_gates (v := .ref (ad 2)) rfl fg_X8_10_X8 (hX.1 1 _ rfl) rfl ?_
    refine y_blk 2 tq_X8_gates (z := (28, [(0, .ref (ad 1)), (1, .int from_), (2, .int to)], [.int to, .int from_, .ref (ad 2)])) rfl ?_
    refine y_callV hS tq_X8_gates rfl (As := [.int from_, .int to]) rfl cv_X8_143 (hX.1 2 _ rfl) (m_X1_openGates hS hX from_ to) rfl (by decide) (Nat.le_of_ble_eq_true rfl) (fun r28 Gc28 q28 => ?_) (fun E9 G9 h9 => h9.elim)
    obtain ⟨rfl, hXc28, hFc28⟩ := q28
    refine y_blk 1 tq_X8_gates (z := (32, [(0, .ref (ad 1)), (1, .int from_), (2, .int to)], [.ref (ad 1)])) rfl ?_
    refine y_get hS tq_X8_gates (v := .ref (ad 2)) rfl fg_X8_10_X8 (hXc28.1 1 _ rfl) rfl ?_
    refine y_blk 0 tq_X8_gates (z := (35, [(0, .ref (ad 1)), (1, .int from_), (2, .int to)], [.ref (ad 2)])) rfl ?_
    refine y_callV hS tq_X8_gates rfl (As := []) rfl cv_X8_146 (hXc28.1 2 _ rfl) (m_X1_gateCount hS hXc28 ) rfl (by decide) (Nat.le_of_ble_eq_true rfl) (fun r35 Gc35 q35 => ?_) (fun E9 G9 h9 => h9.elim)
    obtain ⟨rfl, eG35⟩ := q35
    have eG35 := eG35.symm
    subst eG35
    refine y_blk 0 tq_X8_gates (z := (38, [(0, .ref (ad 1)), (1, .int from_), (2, .int to)], [.int (bcL (((xin (xin σ 2 from_) 3 to)).2.2.2.1 4))])) rfl ?_
    exact y_iret tq_X8_gates rfl rfl (⟨⟨rfl, (by first | exact absurd rfl hq2 | exact absurd rfl hq11 | exact absurd rfl hq19 | exact absurd rfl hq21 | exact absurd rfl hq24 | exact absurd rfl hq30 | exact absurd rfl hq35 | exact absurd rfl hq39 | exact absurd rfl hq40 | exact absurd rfl hq57 | exact absurd rfl hq45 | exact absurd rfl hq38 | exact absurd rfl hq34 | exact absurd rfl hq33 | exact absurd rfl hq29 | ((repeat' apply And.intro) <;> first | assumption | (simp only [yif0, Classical.not_not, ylt, yle, xcp0, xcp3, xcp5, xcp10, xcp12, xcp16, xcp22, yl_m1, yl_0, yl_1, yl_2, yl_3, yl_4, yl_5, yl_6, yl_7, yl_8, yl_9, yl_10, yl_11, yl_12, yl_15, yl_16, yl_20, yl_60, yl_64, yl_90, yl_97, yl_99, yl_100, yl_120, yl_239, yl_240] at *; first | omega | assumption | contradiction)))⟩, _, hXc28, (keepX.rfl'.trans hFc28), ((xkn.trans xkn.rfl' (xkn.trans xkn_in xkn_in))).w, rfl⟩)
  · skip
    refine y_blk 1 tq_X8_gates (z := (8, [(0, .ref (ad 1)), (1, .int from_), (2, .int to)], [.int to])) rfl ?_
    refine y_callS hS tq_X8_gates rfl (As := [.int to]) rfl cs_X8_139 (m_X8_isMinute hS  to) rfl (by decide) (Nat.le_of_ble_eq_true rfl) (fun r8 Gc8 q8 => ?_) (fun E9 G9 h9 => h9.elim)
    obtain ⟨rfl, eG8⟩ := q8
    have eG8 := eG8.symm
    subst eG8
    refine y_blk 0 tq_X8_gates (z := (11, [(0, .ref (ad 1)), (1, .int from_), (2, .int to)], [.int (if 0 ≤ to ∧ to ≤ 239 then 1 else 0)])) rfl ?_
    refine y_if_eq tq_X8_gates 18 rfl rfl (fun c11 => ?_) (fun c11 => ?_)
    · skip
      refine y_blk 1 tq_X8_gates (z := (19, [(0, .ref (ad 1)), (1, .int from_), (2, .int to)], [.int 0])) rfl ?_
      refine y_callS hS tq_X8_gates rfl (As := [.int 0]) rfl cs_X8_117 (m_X8_needLet hS  0) rfl (by decide) (Nat.le_of_ble_eq_true rfl) (fun r19 Gc19 q19 => ?_) (fun E9 G9 h9 => ⟨(And.intro h9.1.1 (by first | exact h9.1.2 | exact absurd h9.1.2 (by decide) | exact absurd rfl hq2 | exact absurd rfl hq11 | exact absurd rfl hq19 | exact absurd rfl hq21 | exact absurd rfl hq24 | exact absurd rfl hq30 | exact absurd rfl hq35 | exact absurd rfl hq39 | exact absurd rfl hq40 | exact absurd rfl hq57 | exact absurd rfl hq45 | exact absurd rfl hq38 | exact absurd rfl hq34 | exact absurd rfl hq33 | exact absurd rfl hq29 | (have z9 := h9.1.2; clear h9; (repeat' apply And.intro) <;> first | (first | assumption | (simp only [yif0, Classical.not_not, ylt, yle, xcp0, xcp3, xcp5, xcp10, xcp12, xcp16, xcp22, yl_m1, yl_0, yl_1, yl_2, yl_3, yl_4, yl_5, yl_6, yl_7, yl_8, yl_9, yl_10, yl_11, yl_12, yl_15, yl_16, yl_20, yl_60, yl_64, yl_90, yl_97, yl_99, yl_100, yl_120, yl_239, yl_240] at *; first | omega | assumption | contradiction)) | (intro q9; (simp only [yif0, Classical.not_not, ylt, yle, xcp0, xcp3, xcp5, xcp10, xcp12, xcp16, xcp22, yl_m1, yl_0, yl_1, yl_2, yl_3, yl_4, yl_5, yl_6, yl_7, yl_8, yl_9, yl_10, yl_11, yl_12, yl_15, yl_16, yl_20, yl_60, yl_64, yl_90, yl_97, yl_99, yl_100, yl_120, yl_239, yl_240] at *; first | omega | contradiction | (obtain ⟨qa, qb⟩ := q9; contradiction)))))), h9.2⟩)
      obtain ⟨⟨rfl, hq19⟩, eG19⟩ := q19
      have eG19 := eG19.symm
      subst eG19
      refine y_blk 1 tq_X8_gates (z := (23, [(0, .ref (ad 1)), (1, .int from_), (2, .int to)], [.ref (ad 1)])) rfl ?_
      refine y_get hS tq_X8_gates (v := .ref (ad 2)) rfl fg_X8_10_X8 (hX.1 1 _ rfl) rfl ?_
      refine y_blk 2 tq_X8_gates (z := (28, [(0, .ref (ad 1)), (1, .int from_), (2, .int to)], [.int to, .int from_, .ref (ad 2)])) rfl ?_
      refine y_callV hS tq_X8_gates rfl (As := [.int from_, .int to]) rfl cv_X8_143 (hX.1 2 _ rfl) (m_X1_openGates hS hX from_ to) rfl (by decide) (Nat.le_of_ble_eq_true rfl) (fun r28 Gc28 q28 => ?_) (fun E9 G9 h9 => h9.elim)
      obtain ⟨rfl, hXc28, hFc28⟩ := q28
      refine y_blk 1 tq_X8_gates (z := (32, [(0, .ref (ad 1)), (1, .int from_), (2, .int to)], [.ref (ad 1)])) rfl ?_
      refine y_get hS tq_X8_gates (v := .ref (ad 2)) rfl fg_X8_10_X8 (hXc28.1 1 _ rfl) rfl ?_
      refine y_blk 0 tq_X8_gates (z := (35, [(0, .ref (ad 1)), (1, .int from_), (2, .int to)], [.ref (ad 2)])) rfl ?_
      refine y_callV hS tq_X8_gates rfl (As := []) rfl cv_X8_146 (hXc28.1 2 _ rfl) (m_X1_gateCount hS hXc28 ) rfl (by decide) (Nat.le_of_ble_eq_true rfl) (fun r35 Gc35 q35 => ?_) (fun E9 G9 h9 => h9.elim)
      obtain ⟨rfl, eG35⟩ := q35
      have eG35 := eG35.symm
      subst eG35
      refine y_blk 0 tq_X8_gates (z := (38, [(0, .ref (ad 1)), (1, .int from_), (2, .int to)], [.int (bcL (((xin (xin σ 2 from_) 3 to)).2.2.2.1 4))])) rfl ?_
      exact y_iret tq_X8_gates rfl rfl (⟨⟨rfl, (by first | exact absurd rfl hq2 | exact absurd rfl hq11 | exact absurd rfl hq19 | exact absurd rfl hq21 | exact absurd rfl hq24 | exact absurd rfl hq30 | exact absurd rfl hq35 | exact absurd rfl hq39 | exact absurd rfl hq40 | exact absurd rfl hq57 | exact absurd rfl hq45 | exact absurd rfl hq38 | exact absurd rfl hq34 | exact absurd rfl hq33 | exact absurd rfl hq29 | ((repeat' apply And.intro) <;> first | assumption | (simp only [yif0, Classical.not_not, ylt, yle, xcp0, xcp3, xcp5, xcp10, xcp12, xcp16, xcp22, yl_m1, yl_0, yl_1, yl_2, yl_3, yl_4, yl_5, yl_6, yl_7, yl_8, yl_9, yl_10, yl_11, yl_12, yl_15, yl_16, yl_20, yl_60, yl_64, yl_90, yl_97, yl_99, yl_100, yl_120, yl_239, yl_240] at *; first | omega | assumption | contradiction)))⟩, _, hXc28, (keepX.rfl'.trans hFc28), ((xkn.trans xkn.rfl' (xkn.trans xkn_in xkn_in))).w, rfl⟩)
    · skip
      refine y_blk 2 tq_X8_gates (z := (19, [(0, .ref (ad 1)), (1, .int from_), (2, .int to)], [.int 1])) rfl ?_
      refine y_callS hS tq_X8_gates rfl (As := [.int 1]) rfl cs_X8_117 (m_X8_needLet hS  1) rfl (by decide) (Nat.le_of_ble_eq_true rfl) (fun r19 Gc19 q19 => ?_) (fun E9 G9 h9 => ⟨(And.intro h9.1.1 (by first | exact h9.1.2 | exact absurd h9.1.2 (by decide) | exact absurd rfl hq2 | exact absurd rfl hq11 | exact absurd rfl hq19 | exact absurd rfl hq21 | exact absurd rfl hq24 | exact absurd rfl hq30 | exact absurd rfl hq35 | exact absurd rfl hq39 | exact absurd rfl hq40 | exact absurd rfl hq57 | exact absurd rfl hq45 | exact absurd rfl hq38 | exact absurd rfl hq34 | exact absurd rfl hq33 | exact absurd rfl hq29 | (have z9 := h9.1.2; clear h9; (repeat' apply And.intro) <;> first | (first | assumption | (simp only [yif0, Classical.not_not, ylt, yle, xcp0, xcp3, xcp5, xcp10, xcp12, xcp16, xcp22, yl_m1, yl_0, yl_1, yl_2, yl_3, yl_4, yl_5, yl_6, yl_7, yl_8, yl_9, yl_10, yl_11, yl_12, yl_15, yl_16, yl_20, yl_60, yl_64, yl_90, yl_97, yl_99, yl_100, yl_120, yl_239, yl_240] at *; first | omega | assumption | contradiction)) | (intro q9; (simp only [yif0, Classical.not_not, ylt, yle, xcp0, xcp3, xcp5, xcp10, xcp12, xcp16, xcp22, yl_m1, yl_0, yl_1, yl_2, yl_3, yl_4, yl_5, yl_6, yl_7, yl_8, yl_9, yl_10, yl_11, yl_12, yl_15, yl_16, yl_20, yl_60, yl_64, yl_90, yl_97, yl_99, yl_100, yl_120, yl_239, yl_240] at *; first | omega | contradiction | (obtain ⟨qa, qb⟩ := q9; contradiction)))))), h9.2⟩)
      obtain ⟨⟨rfl, hq19⟩, eG19⟩ := q19
      have eG19 := eG19.symm
      subst eG19
      refine y_blk 1 tq_X8_gates (z := (23, [(0, .ref (ad 1)), (1, .int from_), (2, .int to)], [.ref (ad 1)])) rfl ?_
      refine y_get hS tq_X8_gates (v := .ref (ad 2)) rfl fg_X8_10_X8 (hX.1 1 _ rfl) rfl ?_
      refine y_blk 2 tq_X8_gates (z := (28, [(0, .ref (ad 1)), (1, .int from_), (2, .int to)], [.int to, .int from_, .ref (ad 2)])) rfl ?_
      refine y_callV hS tq_X8_gates rfl (As := [.int from_, .int to]) rfl cv_X8_143 (hX.1 2 _ rfl) (m_X1_openGates hS hX from_ to) rfl (by decide) (Nat.le_of_ble_eq_true rfl) (fun r28 Gc28 q28 => ?_) (fun E9 G9 h9 => h9.elim)
      obtain ⟨rfl, hXc28, hFc28⟩ := q28
      refine y_blk 1 tq_X8_gates (z := (32, [(0, .ref (ad 1)), (1, .int from_), (2, .int to)], [.ref (ad 1)])) rfl ?_
      refine y_get hS tq_X8_gates (v := .ref (ad 2)) rfl fg_X8_10_X8 (hXc28.1 1 _ rfl) rfl ?_
      refine y_blk 0 tq_X8_gates (z := (35, [(0, .ref (ad 1)), (1, .int from_), (2, .int to)], [.ref (ad 2)])) rfl ?_
      refine y_callV hS tq_X8_gates rfl (As := []) rfl cv_X8_146 (hXc28.1 2 _ rfl) (m_X1_gateCount hS hXc28 ) rfl (by decide) (Nat.le_of_ble_eq_true rfl) (fun r35 Gc35 q35 => ?_) (fun E9 G9 h9 => h9.elim)
      obtain ⟨rfl, eG35⟩ := q35
      have eG35 := eG35.symm
      subst eG35
      refine y_blk 0 tq_X8_gates (z := (38, [(0, .ref (ad 1)), (1, .int from_), (2, .int to)], [.int (bcL (((xin (xin σ 2 from_) 3 to)).2.2.2.1 4))])) rfl ?_
      exact y_iret tq_X8_gates rfl rfl (⟨⟨rfl, (by first | exact absurd rfl hq2 | exact absurd rfl hq11 | exact absurd rfl hq19 | exact absurd rfl hq21 | exact absurd rfl hq24 | exact absurd rfl hq30 | exact absurd rfl hq35 | exact absurd rfl hq39 | exact absurd rfl hq40 | exact absurd rfl hq57 | exact absurd rfl hq45 | exact absurd rfl hq38 | exact absurd rfl hq34 | exact absurd rfl hq33 | exact absurd rfl hq29 | ((repeat' apply And.intro) <;> first | assumption | (simp only [yif0, Classical.not_not, ylt, yle, xcp0, xcp3, xcp5, xcp10, xcp12, xcp16, xcp22, yl_m1, yl_0, yl_1, yl_2, yl_3, yl_4, yl_5, yl_6, yl_7, yl_8, yl_9, yl_10, yl_11, yl_12, yl_15, yl_16, yl_20, yl_60, yl_64, yl_90, yl_97, yl_99, yl_100, yl_120, yl_239, yl_240] at *; first | omega | assumption | contradiction)))⟩, _, hXc28, (keepX.rfl'.trans hFc28), ((xkn.trans xkn.rfl' (xkn.trans xkn_in xkn_in))).w, rfl⟩)
set_option maxHeartbeats 4000000 in
set_option maxRecDepth 100000 in
theorem m_X8_lamp {l : Launch} {S0 : State} {A0 : Array Value} {D : va_G} {aC : Nat → ClassId} {ad : Nat → Nat} {G : AH} {σ : XS} (hS : yS l S0 A0 D aC) (hX : atX aC ad G σ) (cell : Int32) (reach : Int32) : yM l S0 D yX8_lamp cX8_lamp 3 (some .int) 13 3 18 [.ref (ad 1), .int cell, .int reach] G (fun r G1 => (r = some (.int ((xlampU σ cell reach).1 0 - 1)) ∧ ((0 ≤ cell ∧ cell ≤ σ.2.2.1 0 * σ.2.2.1 1 - 1) ∧ ((1 ≤ reach ∧ reach ≤ 4) ∧ ((σ.1 0).toInt < 6 ∧ ¬ xis (σ.2.2.2.1 2) cell)))) ∧ ∃ σ1 : XS, atX aC ad G1 σ1 ∧ keepX G G1 ∧ xfr [0, 1, 2, 24, 25, 26] σ σ1 ∧ σ1 = xlampU σ cell reach) (fun E G1 => ((E = "java/lang/IndexOutOfBoundsException" ∧ (¬ (0 ≤ cell ∧ cell ≤ σ.2.2.1 0 * σ.2.2.1 1 - 1))) ∨ (E = "java/lang/IllegalArgumentException" ∧ ((0 ≤ cell ∧ cell ≤ σ.2.2.1 0 * σ.2.2.1 1 - 1) ∧ (¬ (1 ≤ reach ∧ reach ≤ 4)))) ∨ (E = "java/lang/IllegalStateException" ∧ ((0 ≤ cell ∧ cell ≤ σ.2.2.1 0 * σ.2.2.1 1 - 1) ∧ ((1 ≤ reach ∧ reach ≤ 4) ∧ (¬ ((σ.1 0).toInt < 6 ∧ ¬ xis (σ.2.2.2.1 2) cell)))))) ∧ G1 = G) := by
  refine yM.ofK K_X8_lamp rfl (by decide) (Nat.le_of_ble_eq_true rfl) ?_
  refine y_blk 2 tq_X8_lamp (z := (2, [(0, .ref (ad 1)), (1, .int cell), (2, .int reach)], [.int cell, .ref (ad 1)])) rfl ?_
  refine y_callV hS tq_X8_lamp rfl (As := [.int cell]) rfl cv_X8_114 (hX.1 1 _ rfl) (m_X8_needCell hS hX cell) rfl (by decide) (Nat.le_of_ble_eq_true rfl) (fun r2 Gc2 q2 => ?_) (fun E9 G9 h9 => ⟨(Or.inl (And.intro h9.1.1 (by first | exact h9.1.2 | exact absurd h9.1.2 (by decide) | exact absurd rfl hq2 | exact absurd rfl hq11 | exact absurd rfl hq19 | exact absurd rfl hq21 | exact absurd rfl hq24 | exact absurd rfl hq30 | exact absurd rfl hq35 | exact absurd rfl hq39 | exact absurd rfl hq40 | exact absurd rfl hq57 | exact absurd rfl hq45 | exact absurd rfl hq38 | exact absurd rfl hq34 | exact absurd rfl hq33 | exact absurd rfl hq29 | (have z9 := h9.1.2; clear h9; (repeat' apply And.intro) <;> first | (first | assumption | (simp only [yif0, Classical.not_not, ylt, yle, xcp0, xcp3, xcp5, xcp10, xcp12, xcp16, xcp22, yl_m1, yl_0, yl_1, yl_2, yl_3, yl_4, yl_5, yl_6, yl_7, yl_8, yl_9, yl_10, yl_11, yl_12, yl_15, yl_16, yl_20, yl_60, yl_64, yl_90, yl_97, yl_99, yl_100, yl_120, yl_239, yl_240] at *; first | omega | assumption | contradiction)) | (intro q9; (simp only [yif0, Classical.not_not, ylt, yle, xcp0, xcp3, xcp5, xcp10, xcp12, xcp16, xcp22, yl_m1, yl_0, yl_1, yl_2, yl_3, yl_4, yl_5, yl_6, yl_7, yl_8, yl_9, yl_10, yl_11, yl_12, yl_15, yl_16, yl_20, yl_60, yl_64, yl_90, yl_97, yl_99, yl_100, yl_120, yl_239, yl_240] at *; first | omega | contradiction | (obtain ⟨qa, qb⟩ := q9; contradiction))))))), h9.2⟩)
  obtain ⟨⟨rfl, hq2⟩, eG2⟩ := q2
  have eG2 := eG2.symm
  subst eG2
  refine y_blk 3 tq_X8_lamp (z := (8, [(0, .ref (ad 1)), (1, .int cell), (2, .int reach)], [.int 4, .int 1, .int reach])) rfl ?_
  refine y_callS hS tq_X8_lamp rfl (As := [.int reach, .int 1, .int 4]) rfl cs_X8_76 (m_X8_isIn hS  reach 1 4) rfl (by decide) (Nat.le_of_ble_eq_true rfl) (fun r8 Gc8 q8 => ?_) (fun E9 G9 h9 => h9.elim)
  obtain ⟨rfl, eG8⟩ := q8
  have eG8 := eG8.symm
  subst eG8
  refine y_blk 0 tq_X8_lamp (z := (11, [(0, .ref (ad 1)), (1, .int cell), (2, .int reach)], [.int (if 1 ≤ reach ∧ reach ≤ 4 then 1 else 0)])) rfl ?_
  refine y_callS hS tq_X8_lamp rfl (As := [.int (if 1 ≤ reach ∧ reach ≤ 4 then 1 else 0)]) rfl cs_X8_117 (m_X8_needLet hS  (if 1 ≤ reach ∧ reach ≤ 4 then 1 else 0)) rfl (by decide) (Nat.le_of_ble_eq_true rfl) (fun r11 Gc11 q11 => ?_) (fun E9 G9 h9 => ⟨(Or.inr (Or.inl (And.intro h9.1.1 (by first | exact h9.1.2 | exact absurd h9.1.2 (by decide) | exact absurd rfl hq2 | exact absurd rfl hq11 | exact absurd rfl hq19 | exact absurd rfl hq21 | exact absurd rfl hq24 | exact absurd rfl hq30 | exact absurd rfl hq35 | exact absurd rfl hq39 | exact absurd rfl hq40 | exact absurd rfl hq57 | exact absurd rfl hq45 | exact absurd rfl hq38 | exact absurd rfl hq34 | exact absurd rfl hq33 | exact absurd rfl hq29 | (have z9 := h9.1.2; clear h9; (repeat' apply And.intro) <;> first | (first | assumption | (simp only [yif0, Classical.not_not, ylt, yle, xcp0, xcp3, xcp5, xcp10, xcp12, xcp16, xcp22, yl_m1, yl_0, yl_1, yl_2, yl_3, yl_4, yl_5, yl_6, yl_7, yl_8, yl_9, yl_10, yl_11, yl_12, yl_15, yl_16, yl_20, yl_60, yl_64, yl_90, yl_97, yl_99, yl_100, yl_120, yl_239, yl_240] at *; first | omega | assumption | contradiction)) | (intro q9; (simp only [yif0, Classical.not_not, ylt, yle, xcp0, xcp3, xcp5, xcp10, xcp12, xcp16, xcp22, yl_m1, yl_0, yl_1, yl_2, yl_3, yl_4, yl_5, yl_6, yl_7, yl_8, yl_9, yl_10, yl_11, yl_12, yl_15, yl_16, yl_20, yl_60, yl_64, yl_90, yl_97, yl_99, yl_100, yl_120, yl_239, yl_240] at *; first | omega | contradiction | (obtain ⟨qa, qb⟩ := q9; contradiction)))))))), h9.2⟩)
  obtain ⟨⟨rfl, hq11⟩, eG11⟩ := q11
  have eG11 := eG11.symm
  subst eG11
  refine y_blk 1 tq_X8_lamp (z := (15, [(0, .ref (ad 1)), (1, .int cell), (2, .int reach)], [.ref (ad 1)])) rfl ?_
  refine y_get hS tq_X8_lamp (v := .ref (ad 4)) rfl fg_X8_19_X8 (hX.1 1 _ rfl) rfl ?_
  refine y_blk 0 tq_X8_lamp (z := (18, [(0, .ref (ad 1)), (1, .int cell), (2, .int reach)], [.ref (ad 4)])) rfl ?_
  refine y_callV hS tq_X8_lamp rfl (As := []) rfl cv_X8_150 (hX.1 4 _ rfl) (m_X4_isFull hS hX ) rfl (by decide) (Nat.le_of_ble_eq_true rfl) (fun r18 Gc18 q18 => ?_) (fun E9 G9 h9 => h9.elim)
  obtain ⟨rfl, eG18⟩ := q18
  have eG18 := eG18.symm
  subst eG18
  refine y_blk 0 tq_X8_lamp (z := (21, [(0, .ref (ad 1)), (1, .int cell), (2, .int reach)], [.int (if (xcap 0 : Int) ≤ (σ.1 0).toInt then 1 else 0)])) rfl ?_
  refine y_if_ne tq_X8_lamp 39 rfl rfl (fun c21 => ?_) (fun c21 => ?_)
  · skip
    refine y_blk 1 tq_X8_lamp (z := (40, [(0, .ref (ad 1)), (1, .int cell), (2, .int reach)], [.int 0])) rfl ?_
    refine y_callS hS tq_X8_lamp rfl (As := [.int 0]) rfl cs_X8_128 (m_X8_needPossible hS  0) rfl (by decide) (Nat.le_of_ble_eq_true rfl) (fun r40 Gc40 q40 => ?_) (fun E9 G9 h9 => ⟨(Or.inr (Or.inr (And.intro h9.1.1 (by first | exact h9.1.2 | exact absurd h9.1.2 (by decide) | exact absurd rfl hq2 | exact absurd rfl hq11 | exact absurd rfl hq19 | exact absurd rfl hq21 | exact absurd rfl hq24 | exact absurd rfl hq30 | exact absurd rfl hq35 | exact absurd rfl hq39 | exact absurd rfl hq40 | exact absurd rfl hq57 | exact absurd rfl hq45 | exact absurd rfl hq38 | exact absurd rfl hq34 | exact absurd rfl hq33 | exact absurd rfl hq29 | (have z9 := h9.1.2; clear h9; (repeat' apply And.intro) <;> first | (first | assumption | (simp only [yif0, Classical.not_not, ylt, yle, xcp0, xcp3, xcp5, xcp10, xcp12, xcp16, xcp22, yl_m1, yl_0, yl_1, yl_2, yl_3, yl_4, yl_5, yl_6, yl_7, yl_8, yl_9, yl_10, yl_11, yl_12, yl_15, yl_16, yl_20, yl_60, yl_64, yl_90, yl_97, yl_99, yl_100, yl_120, yl_239, yl_240] at *; first | omega | assumption | contradiction)) | (intro q9; (simp only [yif0, Classical.not_not, ylt, yle, xcp0, xcp3, xcp5, xcp10, xcp12, xcp16, xcp22, yl_m1, yl_0, yl_1, yl_2, yl_3, yl_4, yl_5, yl_6, yl_7, yl_8, yl_9, yl_10, yl_11, yl_12, yl_15, yl_16, yl_20, yl_60, yl_64, yl_90, yl_97, yl_99, yl_100, yl_120, yl_239, yl_240] at *; first | omega | contradiction | (obtain ⟨qa, qb⟩ := q9; contradiction)))))))), h9.2⟩)
    obtain ⟨⟨rfl, hq40⟩, eG40⟩ := q40
    have eG40 := eG40.symm
    subst eG40
    refine y_blk 1 tq_X8_lamp (z := (44, [(0, .ref (ad 1)), (1, .int cell), (2, .int reach)], [.ref (ad 1)])) rfl ?_
    refine y_get hS tq_X8_lamp (v := .ref (ad 4)) rfl fg_X8_19_X8 (hX.1 1 _ rfl) rfl ?_
    refine y_blk 2 tq_X8_lamp (z := (49, [(0, .ref (ad 1)), (1, .int cell), (2, .int reach)], [.int reach, .int cell, .ref (ad 4)])) rfl ?_
    refine y_callV hS tq_X8_lamp rfl (As := [.int cell, .int reach]) rfl cv_X8_157 (hX.1 4 _ rfl) (m_X4_putUp hS hX cell reach) rfl (by decide) (Nat.le_of_ble_eq_true rfl) (fun r49 Gc49 q49 => ?_) (fun E9 G9 h9 => h9.elim)
    obtain ⟨rfl, hXc49, hFc49⟩ := q49
    refine y_blk 0 tq_X8_lamp (z := (52, [(0, .ref (ad 1)), (1, .int cell), (2, .int reach)], [.int ((xlampU σ cell reach).1 0 - 1)])) rfl ?_
    exact y_iret tq_X8_lamp rfl rfl (⟨⟨rfl, (by first | exact absurd rfl hq2 | exact absurd rfl hq11 | exact absurd rfl hq19 | exact absurd rfl hq21 | exact absurd rfl hq24 | exact absurd rfl hq30 | exact absurd rfl hq35 | exact absurd rfl hq39 | exact absurd rfl hq40 | exact absurd rfl hq57 | exact absurd rfl hq45 | exact absurd rfl hq38 | exact absurd rfl hq34 | exact absurd rfl hq33 | exact absurd rfl hq29 | ((repeat' apply And.intro) <;> first | assumption | (simp only [yif0, Classical.not_not, ylt, yle, xcp0, xcp3, xcp5, xcp10, xcp12, xcp16, xcp22, yl_m1, yl_0, yl_1, yl_2, yl_3, yl_4, yl_5, yl_6, yl_7, yl_8, yl_9, yl_10, yl_11, yl_12, yl_15, yl_16, yl_20, yl_60, yl_64, yl_90, yl_97, yl_99, yl_100, yl_120, yl_239, yl_240] at *; first | omega | assumption | contradiction)))⟩, _, hXc49, (keepX.rfl'.trans hFc49), ((xkn.trans xkn.rfl' xlampU.kn)).w, rfl⟩)
  · skip
    refine y_blk 1 tq_X8_lamp (z := (25, [(0, .ref (ad 1)), (1, .int cell), (2, .int reach)], [.ref (ad 1)])) rfl ?_
    refine y_get hS tq_X8_lamp (v := .ref (ad 2)) rfl fg_X8_10_X8 (hX.1 1 _ rfl) rfl ?_
    refine y_blk 1 tq_X8_lamp (z := (29, [(0, .ref (ad 1)), (1, .int cell), (2, .int reach)], [.int cell, .ref (ad 2)])) rfl ?_
    refine y_callV hS tq_X8_lamp rfl (As := [.int cell]) rfl cv_X8_154 (hX.1 2 _ rfl) (m_X1_isWall hS hX cell) rfl (by decide) (Nat.le_of_ble_eq_true rfl) (fun r29 Gc29 q29 => ?_) (fun E9 G9 h9 => h9.elim)
    obtain ⟨rfl, eG29⟩ := q29
    have eG29 := eG29.symm
    subst eG29
    refine y_blk 0 tq_X8_lamp (z := (32, [(0, .ref (ad 1)), (1, .int cell), (2, .int reach)], [.int (if xis (σ.2.2.2.1 2) cell then 1 else 0)])) rfl ?_
    refine y_if_ne tq_X8_lamp 39 rfl rfl (fun c32 => ?_) (fun c32 => ?_)
    · skip
      refine y_blk 1 tq_X8_lamp (z := (40, [(0, .ref (ad 1)), (1, .int cell), (2, .int reach)], [.int 0])) rfl ?_
      refine y_callS hS tq_X8_lamp rfl (As := [.int 0]) rfl cs_X8_128 (m_X8_needPossible hS  0) rfl (by decide) (Nat.le_of_ble_eq_true rfl) (fun r40 Gc40 q40 => ?_) (fun E9 G9 h9 => ⟨(Or.inr (Or.inr (And.intro h9.1.1 (by first | exact h9.1.2 | exact absurd h9.1.2 (by decide) | exact absurd rfl hq2 | exact absurd rfl hq11 | exact absurd rfl hq19 | exact absurd rfl hq21 | exact absurd rfl hq24 | exact absurd rfl hq30 | exact absurd rfl hq35 | exact absurd rfl hq39 | exact absurd rfl hq40 | exact absurd rfl hq57 | exact absurd rfl hq45 | exact absurd rfl hq38 | exact absurd rfl hq34 | exact absurd rfl hq33 | exact absurd rfl hq29 | (have z9 := h9.1.2; clear h9; (repeat' apply And.intro) <;> first | (first | assumption | (simp only [yif0, Classical.not_not, ylt, yle, xcp0, xcp3, xcp5, xcp10, xcp12, xcp16, xcp22, yl_m1, yl_0, yl_1, yl_2, yl_3, yl_4, yl_5, yl_6, yl_7, yl_8, yl_9, yl_10, yl_11, yl_12, yl_15, yl_16, yl_20, yl_60, yl_64, yl_90, yl_97, yl_99, yl_100, yl_120, yl_239, yl_240] at *; first | omega | assumption | contradiction)) | (intro q9; (simp only [yif0, Classical.not_not, ylt, yle, xcp0, xcp3, xcp5, xcp10, xcp12, xcp16, xcp22, yl_m1, yl_0, yl_1, yl_2, yl_3, yl_4, yl_5, yl_6, yl_7, yl_8, yl_9, yl_10, yl_11, yl_12, yl_15, yl_16, yl_20, yl_60, yl_64, yl_90, yl_97, yl_99, yl_100, yl_120, yl_239, yl_240] at *; first | omega | contradiction | (obtain ⟨qa, qb⟩ := q9; contradiction)))))))), h9.2⟩)
      obtain ⟨⟨rfl, hq40⟩, eG40⟩ := q40
      have eG40 := eG40.symm
      subst eG40
      refine y_blk 1 tq_X8_lamp (z := (44, [(0, .ref (ad 1)), (1, .int cell), (2, .int reach)], [.ref (ad 1)])) rfl ?_
      refine y_get hS tq_X8_lamp (v := .ref (ad 4)) rfl fg_X8_19_X8 (hX.1 1 _ rfl) rfl ?_
      refine y_blk 2 tq_X8_lamp (z := (49, [(0, .ref (ad 1)), (1, .int cell), (2, .int reach)], [.int reach, .int cell, .ref (ad 4)])) rfl ?_
      refine y_callV hS tq_X8_lamp rfl (As := [.int cell, .int reach]) rfl cv_X8_157 (hX.1 4 _ rfl) (m_X4_putUp hS hX cell reach) rfl (by decide) (Nat.le_of_ble_eq_true rfl) (fun r49 Gc49 q49 => ?_) (fun E9 G9 h9 => h9.elim)
      obtain ⟨rfl, hXc49, hFc49⟩ := q49
      refine y_blk 0 tq_X8_lamp (z := (52, [(0, .ref (ad 1)), (1, .int cell), (2, .int reach)], [.int ((xlampU σ cell reach).1 0 - 1)])) rfl ?_
      exact y_iret tq_X8_lamp rfl rfl (⟨⟨rfl, (by first | exact absurd rfl hq2 | exact absurd rfl hq11 | exact absurd rfl hq19 | exact absurd rfl hq21 | exact absurd rfl hq24 | exact absurd rfl hq30 | exact absurd rfl hq35 | exact absurd rfl hq39 | exact absurd rfl hq40 | exact absurd rfl hq57 | exact absurd rfl hq45 | exact absurd rfl hq38 | exact absurd rfl hq34 | exact absurd rfl hq33 | exact absurd rfl hq29 | ((repeat' apply And.intro) <;> first | assumption | (simp only [yif0, Classical.not_not, ylt, yle, xcp0, xcp3, xcp5, xcp10, xcp12, xcp16, xcp22, yl_m1, yl_0, yl_1, yl_2, yl_3, yl_4, yl_5, yl_6, yl_7, yl_8, yl_9, yl_10, yl_11, yl_12, yl_15, yl_16, yl_20, yl_60, yl_64, yl_90, yl_97, yl_99, yl_100, yl_120, yl_239, yl_240] at *; first | omega | assumption | contradiction)))⟩, _, hXc49, (keepX.rfl'.trans hFc49), ((xkn.trans xkn.rfl' xlampU.kn)).w, rfl⟩)
    · skip
      refine y_blk 2 tq_X8_lamp (z := (40, [(0, .ref (ad 1)), (1, .int cell), (2, .int reach)], [.int 1])) rfl ?_
      refine y_callS hS tq_X8_lamp rfl (As := [.int 1]) rfl cs_X8_128 (m_X8_needPossible hS  1) rfl (by decide) (Nat.le_of_ble_eq_true rfl) (fun r40 Gc40 q40 => ?_) (fun E9 G9 h9 => ⟨(Or.inr (Or.inr (And.intro h9.1.1 (by first | exact h9.1.2 | exact absurd h9.1.2 (by decide) | exact absurd rfl hq2 | exact absurd rfl hq11 | exact absurd rfl hq19 | exact absurd rfl hq21 | exact absurd rfl hq24 | exact absurd rfl hq30 | exact absurd rfl hq35 | exact absurd rfl hq39 | exact absurd rfl hq40 | exact absurd rfl hq57 | exact absurd rfl hq45 | exact absurd rfl hq38 | exact absurd rfl hq34 | exact absurd rfl hq33 | exact absurd rfl hq29 | (have z9 := h9.1.2; clear h9; (repeat' apply And.intro) <;> first | (first | assumption | (simp only [yif0, Classical.not_not, ylt, yle, xcp0, xcp3, xcp5, xcp10, xcp12, xcp16, xcp22, yl_m1, yl_0, yl_1, yl_2, yl_3, yl_4, yl_5, yl_6, yl_7, yl_8, yl_9, yl_10, yl_11, yl_12, yl_15, yl_16, yl_20, yl_60, yl_64, yl_90, yl_97, yl_99, yl_100, yl_120, yl_239, yl_240] at *; first | omega | assumption | contradiction)) | (intro q9; (simp only [yif0, Classical.not_not, ylt, yle, xcp0, xcp3, xcp5, xcp10, xcp12, xcp16, xcp22, yl_m1, yl_0, yl_1, yl_2, yl_3, yl_4, yl_5, yl_6, yl_7, yl_8, yl_9, yl_10, yl_11, yl_12, yl_15, yl_16, yl_20, yl_60, yl_64, yl_90, yl_97, yl_99, yl_100, yl_120, yl_239, yl_240] at *; first | omega | contradiction | (obtain ⟨qa, qb⟩ := q9; contradiction)))))))), h9.2⟩)
      obtain ⟨⟨rfl, hq40⟩, eG40⟩ := q40
      have eG40 := eG40.symm
      subst eG40
      refine y_blk 1 tq_X8_lamp (z := (44, [(0, .ref (ad 1)), (1, .int cell), (2, .int reach)], [.ref (ad 1)])) rfl ?_
      refine y_get hS tq_X8_lamp (v := .ref (ad 4)) rfl fg_X8_19_X8 (hX.1 1 _ rfl) rfl ?_
      refine y_blk 2 tq_X8_lamp (z := (49, [(0, .ref (ad 1)), (1, .int cell), (2, .int reach)], [.int reach, .int cell, .ref (ad 4)])) rfl ?_
      refine y_callV hS tq_X8_lamp rfl (As := [.int cell, .int reach]) rfl cv_X8_157 (hX.1 4 _ rfl) (m_X4_putUp hS hX cell reach) rfl (by decide) (Nat.le_of_ble_eq_true rfl) (fun r49 Gc49 q49 => ?_) (fun E9 G9 h9 => h9.elim)
      obtain ⟨rfl, hXc49, hFc49⟩ := q49
      refine y_blk 0 tq_X8_lamp (z := (52, [(0, .ref (ad 1)), (1, .int cell), (2, .int reach)], [.int ((xlampU σ cell reach).1 0 - 1)])) rfl ?_
      exact y_iret tq_X8_lamp rfl rfl (⟨⟨rfl, (by first | exact absurd rfl hq2 | exact absurd rfl hq11 | exact absurd rfl hq19 | exact absurd rfl hq21 | exact absurd rfl hq24 | exact absurd rfl hq30 | exact absurd rfl hq35 | exact absurd rfl hq39 | exact absurd rfl hq40 | exact absurd rfl hq57 | exact absurd rfl hq45 | exact absurd rfl hq38 | exact absurd rfl hq34 | exact absurd rfl hq33 | exact absurd rfl hq29 | ((repeat' apply And.intro) <;> first | assumption | (simp only [yif0, Classical.not_not, ylt, yle, xcp0, xcp3, xcp5, xcp10, xcp12, xcp16, xcp22, yl_m1, yl_0, yl_1, yl_2, yl_3, yl_4, yl_5, yl_6, yl_7, yl_8, yl_9, yl_10, yl_11, yl_12, yl_15, yl_16, yl_20, yl_60, yl_64, yl_90, yl_97, yl_99, yl_100, yl_120, yl_239, yl_240] at *; first | omega | assumption | contradiction)))⟩, _, hXc49, (keepX.rfl'.trans hFc49), ((xkn.trans xkn.rfl' xlampU.kn)).w, rfl⟩)
set_option maxHeartbeats 4000000 in
set_option maxRecDepth 100000 in
theorem m_X8_light {l : Launch} {S0 : State} {A0 : Array Value} {D : va_G} {aC : Nat → ClassId} {ad : Nat → Nat} {G : AH} {σ : XS} (hS : yS l S0 A0 D aC) (hX : atX aC ad G σ) (lamp : Int32) (isLit : Int32) : yM l S0 D yX8_light cX8_light 3 (some .int) 13 1 6 [.ref (ad 1), .int lamp, .int isLit] G (fun r G1 => ((∃ v : Int32, r = some (.int v)) ∧ (0 ≤ lamp ∧ lamp ≤ σ.1 0 - 1)) ∧ ∃ σ1 : XS, atX aC ad G1 σ1 ∧ keepX G G1 ∧ xfr [26] σ σ1 ∧ σ1 = xput σ 2 lamp (if isLit = 0 then 0 else 1)) (fun E G1 => ((E = "java/lang/IndexOutOfBoundsException" ∧ (¬ (0 ≤ lamp ∧ lamp ≤ σ.1 0 - 1)))) ∧ G1 = G) := by
  refine yM.ofK K_X8_light rfl (by decide) (Nat.le_of_ble_eq_true rfl) ?_
  refine y_blk 2 tq_X8_light (z := (2, [(0, .ref (ad 1)), (1, .int lamp), (2, .int isLit)], [.ref (ad 1), .int lamp])) rfl ?_
  refine y_get hS tq_X8_light (v := .ref (ad 4)) rfl fg_X8_19_X8 (hX.1 1 _ rfl) rfl ?_
  refine y_blk 0 tq_X8_light (z := (5, [(0, .ref (ad 1)), (1, .int lamp), (2, .int isLit)], [.ref (ad 4), .int lamp])) rfl ?_
  refine y_callV hS tq_X8_light rfl (As := []) rfl cv_X8_161 (hX.1 4 _ rfl) (m_X4_count hS hX ) rfl (by decide) (Nat.le_of_ble_eq_true rfl) (fun r5 Gc5 q5 => ?_) (fun E9 G9 h9 => h9.elim)
  obtain ⟨rfl, eG5⟩ := q5
  have eG5 := eG5.symm
  subst eG5
  refine y_blk 0 tq_X8_light (z := (8, [(0, .ref (ad 1)), (1, .int lamp), (2, .int isLit)], [.int (σ.1 0), .int lamp])) rfl ?_
  refine y_callS hS tq_X8_light rfl (As := [.int lamp, .int (σ.1 0)]) rfl cs_X8_164 (m_X8_needThere hS  lamp (σ.1 0)) rfl (by decide) (Nat.le_of_ble_eq_true rfl) (fun r8 Gc8 q8 => ?_) (fun E9 G9 h9 => ⟨(And.intro h9.1.1 (by first | exact h9.1.2 | exact absurd h9.1.2 (by decide) | exact absurd rfl hq2 | exact absurd rfl hq11 | exact absurd rfl hq19 | exact absurd rfl hq21 | exact absurd rfl hq24 | exact absurd rfl hq30 | exact absurd rfl hq35 | exact absurd rfl hq39 | exact absurd rfl hq40 | exact absurd rfl hq57 | exact absurd rfl hq45 | exact absurd rfl hq38 | exact absurd rfl hq34 | exact absurd rfl hq33 | exact absurd rfl hq29 | (have z9 := h9.1.2; clear h9; (repeat' apply And.intro) <;> first | (first | assumption | (simp only [yif0, Classical.not_not, ylt, yle, xcp0, xcp3, xcp5, xcp10, xcp12, xcp16, xcp22, yl_m1, yl_0, yl_1, yl_2, yl_3, yl_4, yl_5, yl_6, yl_7, yl_8, yl_9, yl_10, yl_11, yl_12, yl_15, yl_16, yl_20, yl_60, yl_64, yl_90, yl_97, yl_99, yl_100, yl_120, yl_239, yl_240] at *; first | omega | assumption | contradiction)) | (intro q9; (simp only [yif0, Classical.not_not, ylt, yle, xcp0, xcp3, xcp5, xcp10, xcp12, xcp16, xcp22, yl_m1, yl_0, yl_1, yl_2, yl_3, yl_4, yl_5, yl_6, yl_7, yl_8, yl_9, yl_10, yl_11, yl_12, yl_15, yl_16, yl_20, yl_60, yl_64, yl_90, yl_97, yl_99, yl_100, yl_120, yl_239, yl_240] at *; first | omega | contradiction | (obtain ⟨qa, qb⟩ := q9; contradiction)))))), h9.2⟩)
  obtain ⟨⟨rfl, hq8⟩, eG8⟩ := q8
  have eG8 := eG8.symm
  subst eG8
  refine y_blk 1 tq_X8_light (z := (12, [(0, .ref (ad 1)), (1, .int lamp), (2, .int isLit)], [.ref (ad 1)])) rfl ?_
  refine y_get hS tq_X8_light (v := .ref (ad 4)) rfl fg_X8_19_X8 (hX.1 1 _ rfl) rfl ?_
  refine y_blk 2 tq_X8_light (z := (17, [(0, .ref (ad 1)), (1, .int lamp), (2, .int isLit)], [.int isLit, .int lamp, .ref (ad 4)])) rfl ?_
  refine y_callV hS tq_X8_light rfl (As := [.int lamp, .int isLit]) rfl cv_X8_167 (hX.1 4 _ rfl) (m_X4_turn hS hX lamp isLit) rfl (by decide) (Nat.le_of_ble_eq_true rfl) (fun r17 Gc17 q17 => ?_) (fun E9 G9 h9 => h9.elim)
  obtain ⟨rfl, hXc17, hFc17⟩ := q17
  refine y_blk 1 tq_X8_light (z := (21, [(0, .ref (ad 1)), (1, .int lamp), (2, .int isLit)], [.ref (ad 1)])) rfl ?_
  refine y_callV hS tq_X8_light rfl (As := []) rfl cv_X8_171 (hXc17.1 1 _ rfl) (m_X8_brightCells hS hXc17 ) rfl (by decide) (Nat.le_of_ble_eq_true rfl) (fun r21 Gc21 q21 => ?_) (fun E9 G9 h9 => h9.elim)
  obtain ⟨⟨x21, rfl⟩, eG21⟩ := q21
  have eG21 := eG21.symm
  subst eG21
  refine y_blk 0 tq_X8_light (z := (24, [(0, .ref (ad 1)), (1, .int lamp), (2, .int isLit)], [.long x21])) rfl ?_
  refine y_callS hS tq_X8_light rfl (As := [.long x21]) rfl cs_X8_108 (m_J13_bitCount_95d88 hS  x21) rfl (by decide) (Nat.le_of_ble_eq_true rfl) (fun r24 Gc24 q24 => ?_) (fun E9 G9 h9 => h9.elim)
  obtain ⟨rfl, eG24⟩ := q24
  have eG24 := eG24.symm
  subst eG24
  refine y_blk 0 tq_X8_light (z := (27, [(0, .ref (ad 1)), (1, .int lamp), (2, .int isLit)], [.int (bcL x21)])) rfl ?_
  exact y_iret tq_X8_light rfl rfl (⟨⟨⟨_, rfl⟩, (by first | exact absurd rfl hq2 | exact absurd rfl hq11 | exact absurd rfl hq19 | exact absurd rfl hq21 | exact absurd rfl hq24 | exact absurd rfl hq30 | exact absurd rfl hq35 | exact absurd rfl hq39 | exact absurd rfl hq40 | exact absurd rfl hq57 | exact absurd rfl hq45 | exact absurd rfl hq38 | exact absurd rfl hq34 | exact absurd rfl hq33 | exact absurd rfl hq29 | ((repeat' apply And.intro) <;> first | assumption | (simp only [yif0, Classical.not_not, ylt, yle, xcp0, xcp3, xcp5, xcp10, xcp12, xcp16, xcp22, yl_m1, yl_0, yl_1, yl_2, yl_3, yl_4, yl_5, yl_6, yl_7, yl_8, yl_9, yl_10, yl_11, yl_12, yl_15, yl_16, yl_20, yl_60, yl_64, yl_90, yl_97, yl_99, yl_100, yl_120, yl_239, yl_240] at *; first | omega | assumption | contradiction)))⟩, _, hXc17, (keepX.rfl'.trans hFc17), ((xkn.trans xkn.rfl' xkn_put)).w, rfl⟩)
set_option maxHeartbeats 4000000 in
set_option maxRecDepth 100000 in
theorem m_X8_fog {l : Launch} {S0 : State} {A0 : Array Value} {D : va_G} {aC : Nat → ClassId} {ad : Nat → Nat} {G : AH} {σ : XS} (hS : yS l S0 A0 D aC) (hX : atX aC ad G σ) (minute : Int32) (fog : Int32) : yM l S0 D yX8_fog cX8_fog 3 (some .int) 13 2 12 [.ref (ad 1), .int minute, .int fog] G (fun r G1 => (r = some (.int ((xfogT σ minute fog).1 3)) ∧ (((0 ≤ minute ∧ minute ≤ 239) ∧ (0 ≤ fog ∧ fog ≤ 5)) ∧ ((σ.1 3).toInt < 8))) ∧ ∃ σ1 : XS, atX aC ad G1 σ1 ∧ keepX G G1 ∧ xfr [3, 4, 27, 28] σ σ1 ∧ σ1 = xfogT σ minute fog) (fun E G1 => ((E = "java/lang/IllegalArgumentException" ∧ (¬ ((0 ≤ minute ∧ minute ≤ 239) ∧ (0 ≤ fog ∧ fog ≤ 5)))) ∨ (E = "java/lang/IllegalStateException" ∧ (((0 ≤ minute ∧ minute ≤ 239) ∧ (0 ≤ fog ∧ fog ≤ 5)) ∧ (¬ ((σ.1 3).toInt < 8))))) ∧ G1 = G) := by
  refine yM.ofK K_X8_fog rfl (by decide) (Nat.le_of_ble_eq_true rfl) ?_
  refine y_blk 1 tq_X8_fog (z := (1, [(0, .ref (ad 1)), (1, .int minute), (2, .int fog)], [.int minute])) rfl ?_
  refine y_callS hS tq_X8_fog rfl (As := [.int minute]) rfl cs_X8_139 (m_X8_isMinute hS  minute) rfl (by decide) (Nat.le_of_ble_eq_true rfl) (fun r1 Gc1 q1 => ?_) (fun E9 G9 h9 => h9.elim)
  obtain ⟨rfl, eG1⟩ := q1
  have eG1 := eG1.symm
  subst eG1
  refine y_blk 0 tq_X8_fog (z := (4, [(0, .ref (ad 1)), (1, .int minute), (2, .int fog)], [.int (if 0 ≤ minute ∧ minute ≤ 239 then 1 else 0)])) rfl ?_
  refine y_if_eq tq_X8_fog 20 rfl rfl (fun c4 => ?_) (fun c4 => ?_)
  · skip
    refine y_blk 1 tq_X8_fog (z := (21, [(0, .ref (ad 1)), (1, .int minute), (2, .int fog)], [.int 0])) rfl ?_
    refine y_callS hS tq_X8_fog rfl (As := [.int 0]) rfl cs_X8_117 (m_X8_needLet hS  0) rfl (by decide) (Nat.le_of_ble_eq_true rfl) (fun r21 Gc21 q21 => ?_) (fun E9 G9 h9 => ⟨(Or.inl (And.intro h9.1.1 (by first | exact h9.1.2 | exact absurd h9.1.2 (by decide) | exact absurd rfl hq2 | exact absurd rfl hq11 | exact absurd rfl hq19 | exact absurd rfl hq21 | exact absurd rfl hq24 | exact absurd rfl hq30 | exact absurd rfl hq35 | exact absurd rfl hq39 | exact absurd rfl hq40 | exact absurd rfl hq57 | exact absurd rfl hq45 | exact absurd rfl hq38 | exact absurd rfl hq34 | exact absurd rfl hq33 | exact absurd rfl hq29 | (have z9 := h9.1.2; clear h9; (repeat' apply And.intro) <;> first | (first | assumption | (simp only [yif0, Classical.not_not, ylt, yle, xcp0, xcp3, xcp5, xcp10, xcp12, xcp16, xcp22, yl_m1, yl_0, yl_1, yl_2, yl_3, yl_4, yl_5, yl_6, yl_7, yl_8, yl_9, yl_10, yl_11, yl_12, yl_15, yl_16, yl_20, yl_60, yl_64, yl_90, yl_97, yl_99, yl_100, yl_120, yl_239, yl_240] at *; first | omega | assumption | contradiction)) | (intro q9; (simp only [yif0, Classical.not_not, ylt, yle, xcp0, xcp3, xcp5, xcp10, xcp12, xcp16, xcp22, yl_m1, yl_0, yl_1, yl_2, yl_3, yl_4, yl_5, yl_6, yl_7, yl_8, yl_9, yl_10, yl_11, yl_12, yl_15, yl_16, yl_20, yl_60, yl_64, yl_90, yl_97, yl_99, yl_100, yl_120, yl_239, yl_240] at *; first | omega | contradiction | (obtain ⟨qa, qb⟩ := q9; contradiction))))))), h9.2⟩)
    obtain ⟨⟨rfl, hq21⟩, eG21⟩ := q21
    have eG21 := eG21.symm
    subst eG21
    refine y_blk 1 tq_X8_fog (z := (25, [(0, .ref (ad 1)), (1, .int minute), (2, .int fog)], [.ref (ad 1)])) rfl ?_
    refine y_get hS tq_X8_fog (v := .ref (ad 5)) rfl fg_X8_26_X8 (hX.1 1 _ rfl) rfl ?_
    refine y_blk 0 tq_X8_fog (z := (28, [(0, .ref (ad 1)), (1, .int minute), (2, .int fog)], [.ref (ad 5)])) rfl ?_
    refine y_callV hS tq_X8_fog rfl (As := []) rfl cv_X8_174 (hX.1 5 _ rfl) (m_X0_isFull hS hX ) rfl (by decide) (Nat.le_of_ble_eq_true rfl) (fun r28 Gc28 q28 => ?_) (fun E9 G9 h9 => h9.elim)
    obtain ⟨rfl, eG28⟩ := q28
    have eG28 := eG28.symm
    subst eG28
    refine y_blk 0 tq_X8_fog (z := (31, [(0, .ref (ad 1)), (1, .int minute), (2, .int fog)], [.int (if (xcap 3 : Int) ≤ (σ.1 3).toInt then 1 else 0)])) rfl ?_
    refine y_if_ne tq_X8_fog 38 rfl rfl (fun c31 => ?_) (fun c31 => ?_)
    · skip
      refine y_blk 1 tq_X8_fog (z := (39, [(0, .ref (ad 1)), (1, .int minute), (2, .int fog)], [.int 0])) rfl ?_
      refine y_callS hS tq_X8_fog rfl (As := [.int 0]) rfl cs_X8_128 (m_X8_needPossible hS  0) rfl (by decide) (Nat.le_of_ble_eq_true rfl) (fun r39 Gc39 q39 => ?_) (fun E9 G9 h9 => ⟨(Or.inr (And.intro h9.1.1 (by first | exact h9.1.2 | exact absurd h9.1.2 (by decide) | exact absurd rfl hq2 | exact absurd rfl hq11 | exact absurd rfl hq19 | exact absurd rfl hq21 | exact absurd rfl hq24 | exact absurd rfl hq30 | exact absurd rfl hq35 | exact absurd rfl hq39 | exact absurd rfl hq40 | exact absurd rfl hq57 | exact absurd rfl hq45 | exact absurd rfl hq38 | exact absurd rfl hq34 | exact absurd rfl hq33 | exact absurd rfl hq29 | (have z9 := h9.1.2; clear h9; (repeat' apply And.intro) <;> first | (first | assumption | (simp only [yif0, Classical.not_not, ylt, yle, xcp0, xcp3, xcp5, xcp10, xcp12, xcp16, xcp22, yl_m1, yl_0, yl_1, yl_2, yl_3, yl_4, yl_5, yl_6, yl_7, yl_8, yl_9, yl_10, yl_11, yl_12, yl_15, yl_16, yl_20, yl_60, yl_64, yl_90, yl_97, yl_99, yl_100, yl_120, yl_239, yl_240] at *; first | omega | assumption | contradiction)) | (intro q9; (simp only [yif0, Classical.not_not, ylt, yle, xcp0, xcp3, xcp5, xcp10, xcp12, xcp16, xcp22, yl_m1, yl_0, yl_1, yl_2, yl_3, yl_4, yl_5, yl_6, yl_7, yl_8, yl_9, yl_10, yl_11, yl_12, yl_15, yl_16, yl_20, yl_60, yl_64, yl_90, yl_97, yl_99, yl_100, yl_120, yl_239, yl_240] at *; first | omega | contradiction | (obtain ⟨qa, qb⟩ := q9; contradiction))))))), h9.2⟩)
      obtain ⟨⟨rfl, hq39⟩, eG39⟩ := q39
      have eG39 := eG39.symm
      subst eG39
      refine y_blk 1 tq_X8_fog (z := (43, [(0, .ref (ad 1)), (1, .int minute), (2, .int fog)], [.ref (ad 1)])) rfl ?_
      refine y_get hS tq_X8_fog (v := .ref (ad 5)) rfl fg_X8_26_X8 (hX.1 1 _ rfl) rfl ?_
      refine y_blk 2 tq_X8_fog (z := (48, [(0, .ref (ad 1)), (1, .int minute), (2, .int fog)], [.int fog, .int minute, .ref (ad 5)])) rfl ?_
      refine y_callV hS tq_X8_fog rfl (As := [.int minute, .int fog]) rfl cv_X8_175 (hX.1 5 _ rfl) (m_X0_tell hS hX minute fog) rfl (by decide) (Nat.le_of_ble_eq_true rfl) (fun r48 Gc48 q48 => ?_) (fun E9 G9 h9 => h9.elim)
      obtain ⟨rfl, hXc48, hFc48⟩ := q48
      refine y_blk 0 tq_X8_fog (z := (51, [(0, .ref (ad 1)), (1, .int minute), (2, .int fog)], [.int ((xfogT σ minute fog).1 3)])) rfl ?_
      exact y_iret tq_X8_fog rfl rfl (⟨⟨rfl, (by first | exact absurd rfl hq2 | exact absurd rfl hq11 | exact absurd rfl hq19 | exact absurd rfl hq21 | exact absurd rfl hq24 | exact absurd rfl hq30 | exact absurd rfl hq35 | exact absurd rfl hq39 | exact absurd rfl hq40 | exact absurd rfl hq57 | exact absurd rfl hq45 | exact absurd rfl hq38 | exact absurd rfl hq34 | exact absurd rfl hq33 | exact absurd rfl hq29 | ((repeat' apply And.intro) <;> first | assumption | (simp only [yif0, Classical.not_not, ylt, yle, xcp0, xcp3, xcp5, xcp10, xcp12, xcp16, xcp22, yl_m1, yl_0, yl_1, yl_2, yl_3, yl_4, yl_5, yl_6, yl_7, yl_8, yl_9, yl_10, yl_11, yl_12, yl_15, yl_16, yl_20, yl_60, yl_64, yl_90, yl_97, yl_99, yl_100, yl_120, yl_239, yl_240] at *; first | omega | assumption | contradiction)))⟩, _, hXc48, (keepX.rfl'.trans hFc48), ((xkn.trans xkn.rfl' xfogT.kn)).w, rfl⟩)
    · skip
      refine y_blk 2 tq_X8_fog (z := (39, [(0, .ref (ad 1)), (1, .int minute), (2, .int fog)], [.int 1])) rfl ?_
      refine y_callS hS tq_X8_fog rfl (As := [.int 1]) rfl cs_X8_128 (m_X8_needPossible hS  1) rfl (by decide) (Nat.le_of_ble_eq_true rfl) (fun r39 Gc39 q39 => ?_) (fun E9 G9 h9 => ⟨(Or.inr (And.intro h9.1.1 (by first | exact h9.1.2 | exact absurd h9.1.2 (by decide) | exact absurd rfl hq2 | exact absurd rfl hq11 | exact absurd rfl hq19 | exact absurd rfl hq21 | exact absurd rfl hq24 | exact absurd rfl hq30 | exact absurd rfl hq35 | exact absurd rfl hq39 | exact absurd rfl hq40 | exact absurd rfl hq57 | exact absurd rfl hq45 | exact absurd rfl hq38 | exact absurd rfl hq34 | exact absurd rfl hq33 | exact absurd rfl hq29 | (have z9 := h9.1.2; clear h9; (repeat' apply And.intro) <;> first | (first | assumption | (simp only [yif0, Classical.not_not, ylt, yle, xcp0, xcp3, xcp5, xcp10, xcp12, xcp16, xcp22, yl_m1, yl_0, yl_1, yl_2, yl_3, yl_4, yl_5, yl_6, yl_7, yl_8, yl_9, yl_10, yl_11, yl_12, yl_15, yl_16, yl_20, yl_60, yl_64, yl_90, yl_97, yl_99, yl_100, yl_120, yl_239, yl_240] at *; first | omega | assumption | contradiction)) | (intro q9; (simp only [yif0, Classical.not_not, ylt, yle, xcp0, xcp3, xcp5, xcp10, xcp12, xcp16, xcp22, yl_m1, yl_0, yl_1, yl_2, yl_3, yl_4, yl_5, yl_6, yl_7, yl_8, yl_9, yl_10, yl_11, yl_12, yl_15, yl_16, yl_20, yl_60, yl_64, yl_90, yl_97, yl_99, yl_100, yl_120, yl_239, yl_240] at *; first | omega | contradiction | (obtain ⟨qa, qb⟩ := q9; contradiction))))))), h9.2⟩)
      obtain ⟨⟨rfl, hq39⟩, eG39⟩ := q39
      have eG39 := eG39.symm
      subst eG39
      refine y_blk 1 tq_X8_fog (z := (43, [(0, .ref (ad 1)), (1, .int minute), (2, .int fog)], [.ref (ad 1)])) rfl ?_
      refine y_get hS tq_X8_fog (v := .ref (ad 5)) rfl fg_X8_26_X8 (hX.1 1 _ rfl) rfl ?_
      refine y_blk 2 tq_X8_fog (z := (48, [(0, .ref (ad 1)), (1, .int minute), (2, .int fog)], [.int fog, .int minute, .ref (ad 5)])) rfl ?_
      refine y_callV hS tq_X8_fog rfl (As := [.int minute, .int fog]) rfl cv_X8_175 (hX.1 5 _ rfl) (m_X0_tell hS hX minute fog) rfl (by decide) (Nat.le_of_ble_eq_true rfl) (fun r48 Gc48 q48 => ?_) (fun E9 G9 h9 => h9.elim)
      obtain ⟨rfl, hXc48, hFc48⟩ := q48
      refine y_blk 0 tq_X8_fog (z := (51, [(0, .ref (ad 1)), (1, .int minute), (2, .int fog)], [.int ((xfogT σ minute fog).1 3)])) rfl ?_
      exact y_iret tq_X8_fog rfl rfl (⟨⟨rfl, (by first | exact absurd rfl hq2 | exact absurd rfl hq11 | exact absurd rfl hq19 | exact absurd rfl hq21 | exact absurd rfl hq24 | exact absurd rfl hq30 | exact absurd rfl hq35 | exact absurd rfl hq39 | exact absurd rfl hq40 | exact absurd rfl hq57 | exact absurd rfl hq45 | exact absurd rfl hq38 | exact absurd rfl hq34 | exact absurd rfl hq33 | exact absurd rfl hq29 | ((repeat' apply And.intro) <;> first | assumption | (simp only [yif0, Classical.not_not, ylt, yle, xcp0, xcp3, xcp5, xcp10, xcp12, xcp16, xcp22, yl_m1, yl_0, yl_1, yl_2, yl_3, yl_4, yl_5, yl_6, yl_7, yl_8, yl_9, yl_10, yl_11, yl_12, yl_15, yl_16, yl_20, yl_60, yl_64, yl_90, yl_97, yl_99, yl_100, yl_120, yl_239, yl_240] at *; first | omega | assumption | contradiction)))⟩, _, hXc48, (keepX.rfl'.trans hFc48), ((xkn.trans xkn.rfl' xfogT.kn)).w, rfl⟩)
  · skip
    refine y_blk 3 tq_X8_fog (z := (10, [(0, .ref (ad 1)), (1, .int minute), (2, .int fog)], [.int 5, .int 0, .int fog])) rfl ?_
    refine y_callS hS tq_X8_fog rfl (As := [.int fog, .int 0, .int 5]) rfl cs_X8_76 (m_X8_isIn hS  fog 0 5) rfl (by decide) (Nat.le_of_ble_eq_true rfl) (fun r10 Gc10 q10 => ?_) (fun E9 G9 h9 => h9.elim)
    obtain ⟨rfl, eG10⟩ := q10
    have eG10 := eG10.symm
    subst eG10
    refine y_blk 0 tq_X8_fog (z := (13, [(0, .ref (ad 1)), (1, .int minute), (2, .int fog)], [.int (if 0 ≤ fog ∧ fog ≤ 5 then 1 else 0)])) rfl ?_
    refine y_if_eq tq_X8_fog 20 rfl rfl (fun c13 => ?_) (fun c13 => ?_)
    · skip
      refine y_blk 1 tq_X8_fog (z := (21, [(0, .ref (ad 1)), (1, .int minute), (2, .int fog)], [.int 0])) rfl ?_
      refine y_callS hS tq_X8_fog rfl (As := [.int 0]) rfl cs_X8_117 (m_X8_needLet hS  0) rfl (by decide) (Nat.le_of_ble_eq_true rfl) (fun r21 Gc21 q21 => ?_) (fun E9 G9 h9 => ⟨(Or.inl (And.intro h9.1.1 (by first | exact h9.1.2 | exact absurd h9.1.2 (by decide) | exact absurd rfl hq2 | exact absurd rfl hq11 | exact absurd rfl hq19 | exact absurd rfl hq21 | exact absurd rfl hq24 | exact absurd rfl hq30 | exact absurd rfl hq35 | exact absurd rfl hq39 | exact absurd rfl hq40 | exact absurd rfl hq57 | exact absurd rfl hq45 | exact absurd rfl hq38 | exact absurd rfl hq34 | exact absurd rfl hq33 | exact absurd rfl hq29 | (have z9 := h9.1.2; clear h9; (repeat' apply And.intro) <;> first | (first | assumption | (simp only [yif0, Classical.not_not, ylt, yle, xcp0, xcp3, xcp5, xcp10, xcp12, xcp16, xcp22, yl_m1, yl_0, yl_1, yl_2, yl_3, yl_4, yl_5, yl_6, yl_7, yl_8, yl_9, yl_10, yl_11, yl_12, yl_15, yl_16, yl_20, yl_60, yl_64, yl_90, yl_97, yl_99, yl_100, yl_120, yl_239, yl_240] at *; first | omega | assumption | contradiction)) | (intro q9; (simp only [yif0, Classical.not_not, ylt, yle, xcp0, xcp3, xcp5, xcp10, xcp12, xcp16, xcp22, yl_m1, yl_0, yl_1, yl_2, yl_3, yl_4, yl_5, yl_6, yl_7, yl_8, yl_9, yl_10, yl_11, yl_12, yl_15, yl_16, yl_20, yl_60, yl_64, yl_90, yl_97, yl_99, yl_100, yl_120, yl_239, yl_240] at *; first | omega | contradiction | (obtain ⟨qa, qb⟩ := q9; contradiction))))))), h9.2⟩)
      obtain ⟨⟨rfl, hq21⟩, eG21⟩ := q21
      have eG21 := eG21.symm
      subst eG21
      refine y_blk 1 tq_X8_fog (z := (25, [(0, .ref (ad 1)), (1, .int minute), (2, .int fog)], [.ref (ad 1)])) rfl ?_
      refine y_get hS tq_X8_fog (v := .ref (ad 5)) rfl fg_X8_26_X8 (hX.1 1 _ rfl) rfl ?_
      refine y_blk 0 tq_X8_fog (z := (28, [(0, .ref (ad 1)), (1, .int minute), (2, .int fog)], [.ref (ad 5)])) rfl ?_
      refine y_callV hS tq_X8_fog rfl (As := []) rfl cv_X8_174 (hX.1 5 _ rfl) (m_X0_isFull hS hX ) rfl (by decide) (Nat.le_of_ble_eq_true rfl) (fun r28 Gc28 q28 => ?_) (fun E9 G9 h9 => h9.elim)
      obtain ⟨rfl, eG28⟩ := q28
      have eG28 := eG28.symm
      subst eG28
      refine y_blk 0 tq_X8_fog (z := (31, [(0, .ref (ad 1)), (1, .int minute), (2, .int fog)], [.int (if (xcap 3 : Int) ≤ (σ.1 3).toInt then 1 else 0)])) rfl ?_
      refine y_if_ne tq_X8_fog 38 rfl rfl (fun c31 => ?_) (fun c31 => ?_)
      · skip
        refine y_blk 1 tq_X8_fog (z := (39, [(0, .ref (ad 1)), (1, .int minute), (2, .int fog)], [.int 0])) rfl ?_
        refine y_callS hS tq_X8_fog rfl (As := [.int 0]) rfl cs_X8_128 (m_X8_needPossible hS  0) rfl (by decide) (Nat.le_of_ble_eq_true rfl) (fun r39 Gc39 q39 => ?_) (fun E9 G9 h9 => ⟨(Or.inr (And.intro h9.1.1 (by first | exact h9.1.2 | exact absurd h9.1.2 (by decide) | exact absurd rfl hq2 | exact absurd rfl hq11 | exact absurd rfl hq19 | exact absurd rfl hq21 | exact absurd rfl hq24 | exact absurd rfl hq30 | exact absurd rfl hq35 | exact absurd rfl hq39 | exact absurd rfl hq40 | exact absurd rfl hq57 | exact absurd rfl hq45 | exact absurd rfl hq38 | exact absurd rfl hq34 | exact absurd rfl hq33 | exact absurd rfl hq29 | (have z9 := h9.1.2; clear h9; (repeat' apply And.intro) <;> first | (first | assumption | (simp only [yif0, Classical.not_not, ylt, yle, xcp0, xcp3, xcp5, xcp10, xcp12, xcp16, xcp22, yl_m1, yl_0, yl_1, yl_2, yl_3, yl_4, yl_5, yl_6, yl_7, yl_8, yl_9, yl_10, yl_11, yl_12, yl_15, yl_16, yl_20, yl_60, yl_64, yl_90, yl_97, yl_99, yl_100, yl_120, yl_239, yl_240] at *; first | omega | assumption | contradiction)) | (intro q9; (simp only [yif0, Classical.not_not, ylt, yle, xcp0, xcp3, xcp5, xcp10, xcp12, xcp16, xcp22, yl_m1, yl_0, yl_1, yl_2, yl_3, yl_4, yl_5, yl_6, yl_7, yl_8, yl_9, yl_10, yl_11, yl_12, yl_15, yl_16, yl_20, yl_60, yl_64, yl_90, yl_97, yl_99, yl_100, yl_120, yl_239, yl_240] at *; first | omega | contradiction | (obtain ⟨qa, qb⟩ := q9; contradiction))))))), h9.2⟩)
        obtain ⟨⟨rfl, hq39⟩, eG39⟩ := q39
        have eG39 := eG39.symm
        subst eG39
        refine y_blk 1 tq_X8_fog (z := (43, [(0, .ref (ad 1)), (1, .int minute), (2, .int fog)], [.ref (ad 1)])) rfl ?_
        refine y_get hS tq_X8_fog (v := .ref (ad 5)) rfl fg_X8_26_X8 (hX.1 1 _ rfl) rfl ?_
        refine y_blk 2 tq_X8_fog (z := (48, [(0, .ref (ad 1)), (1, .int minute), (2, .int fog)], [.int fog, .int minute, .ref (ad 5)])) rfl ?_
        refine y_callV hS tq_X8_fog rfl (As := [.int minute, .int fog]) rfl cv_X8_175 (hX.1 5 _ rfl) (m_X0_tell hS hX minute fog) rfl (by decide) (Nat.le_of_ble_eq_true rfl) (fun r48 Gc48 q48 => ?_) (fun E9 G9 h9 => h9.elim)
        obtain ⟨rfl, hXc48, hFc48⟩ := q48
        refine y_blk 0 tq_X8_fog (z := (51, [(0, .ref (ad 1)), (1, .int minute), (2, .int fog)], [.int ((xfogT σ minute fog).1 3)])) rfl ?_
        exact y_iret tq_X8_fog rfl rfl (⟨⟨rfl, (by first | exact absurd rfl hq2 | exact absurd rfl hq11 | exact absurd rfl hq19 | exact absurd rfl hq21 | exact absurd rfl hq24 | exact absurd rfl hq30 | exact absurd rfl hq35 | exact absurd rfl hq39 | exact absurd rfl hq40 | exact absurd rfl hq57 | exact absurd rfl hq45 | exact absurd rfl hq38 | exact absurd rfl hq34 | exact absurd rfl hq33 | exact absurd rfl hq29 | ((repeat' apply And.intro) <;> first | assumption | (simp only [yif0, Classical.not_not, ylt, yle, xcp0, xcp3, xcp5, xcp10, xcp12, xcp16, xcp22, yl_m1, yl_0, yl_1, yl_2, yl_3, yl_4, yl_5, yl_6, yl_7, yl_8, yl_9, yl_10, yl_11, yl_12, yl_15, yl_16, yl_20, yl_60, yl_64, yl_90, yl_97, yl_99, yl_100, yl_120, yl_239, yl_240] at *; first | omega | assumption | contradiction)))⟩, _, hXc48, (keepX.rfl'.trans hFc48), ((xkn.trans xkn.rfl' xfogT.kn)).w, rfl⟩)
      · skip
        refine y_blk 2 tq_X8_fog (z := (39, [(0, .ref (ad 1)), (1, .int minute), (2, .int fog)], [.int 1])) rfl ?_
        refine y_callS hS tq_X8_fog rfl (As := [.int 1]) rfl cs_X8_128 (m_X8_needPossible hS  1) rfl (by decide) (Nat.le_of_ble_eq_true rfl) (fun r39 Gc39 q39 => ?_) (fun E9 G9 h9 => ⟨(Or.inr (And.intro h9.1.1 (by first | exact h9.1.2 | exact absurd h9.1.2 (by decide) | exact absurd rfl hq2 | exact absurd rfl hq11 | exact absurd rfl hq19 | exact absurd rfl hq21 | exact absurd rfl hq24 | exact absurd rfl hq30 | exact absurd rfl hq35 | exact absurd rfl hq39 | exact absurd rfl hq40 | exact absurd rfl hq57 | exact absurd rfl hq45 | exact absurd rfl hq38 | exact absurd rfl hq34 | exact absurd rfl hq33 | exact absurd rfl hq29 | (have z9 := h9.1.2; clear h9; (repeat' apply And.intro) <;> first | (first | assumption | (simp only [yif0, Classical.not_not, ylt, yle, xcp0, xcp3, xcp5, xcp10, xcp12, xcp16, xcp22, yl_m1, yl_0, yl_1, yl_2, yl_3, yl_4, yl_5, yl_6, yl_7, yl_8, yl_9, yl_10, yl_11, yl_12, yl_15, yl_16, yl_20, yl_60, yl_64, yl_90, yl_97, yl_99, yl_100, yl_120, yl_239, yl_240] at *; first | omega | assumption | contradiction)) | (intro q9; (simp only [yif0, Classical.not_not, ylt, yle, xcp0, xcp3, xcp5, xcp10, xcp12, xcp16, xcp22, yl_m1, yl_0, yl_1, yl_2, yl_3, yl_4, yl_5, yl_6, yl_7, yl_8, yl_9, yl_10, yl_11, yl_12, yl_15, yl_16, yl_20, yl_60, yl_64, yl_90, yl_97, yl_99, yl_100, yl_120, yl_239, yl_240] at *; first | omega | contradiction | (obtain ⟨qa, qb⟩ := q9; contradiction))))))), h9.2⟩)
        obtain ⟨⟨rfl, hq39⟩, eG39⟩ := q39
        have eG39 := eG39.symm
        subst eG39
        refine y_blk 1 tq_X8_fog (z := (43, [(0, .ref (ad 1)), (1, .int minute), (2, .int fog)], [.ref (ad 1)])) rfl ?_
        refine y_get hS tq_X8_fog (v := .ref (ad 5)) rfl fg_X8_26_X8 (hX.1 1 _ rfl) rfl ?_
        refine y_blk 2 tq_X8_fog (z := (48, [(0, .ref (ad 1)), (1, .int minute), (2, .int fog)], [.int fog, .int minute, .ref (ad 5)])) rfl ?_
        refine y_callV hS tq_X8_fog rfl (As := [.int minute, .int fog]) rfl cv_X8_175 (hX.1 5 _ rfl) (m_X0_tell hS hX minute fog) rfl (by decide) (Nat.le_of_ble_eq_true rfl) (fun r48 Gc48 q48 => ?_) (fun E9 G9 h9 => h9.elim)
        obtain ⟨rfl, hXc48, hFc48⟩ := q48
        refine y_blk 0 tq_X8_fog (z := (51, [(0, .ref (ad 1)), (1, .int minute), (2, .int fog)], [.int ((xfogT σ minute fog).1 3)])) rfl ?_
        exact y_iret tq_X8_fog rfl rfl (⟨⟨rfl, (by first | exact absurd rfl hq2 | exact absurd rfl hq11 | exact absurd rfl hq19 | exact absurd rfl hq21 | exact absurd rfl hq24 | exact absurd rfl hq30 | exact absurd rfl hq35 | exact absurd rfl hq39 | exact absurd rfl hq40 | exact absurd rfl hq57 | exact absurd rfl hq45 | exact absurd rfl hq38 | exact absurd rfl hq34 | exact absurd rfl hq33 | exact absurd rfl hq29 | ((repeat' apply And.intro) <;> first | assumption | (simp only [yif0, Classical.not_not, ylt, yle, xcp0, xcp3, xcp5, xcp10, xcp12, xcp16, xcp22, yl_m1, yl_0, yl_1, yl_2, yl_3, yl_4, yl_5, yl_6, yl_7, yl_8, yl_9, yl_10, yl_11, yl_12, yl_15, yl_16, yl_20, yl_60, yl_64, yl_90, yl_97, yl_99, yl_100, yl_120, yl_239, yl_240] at *; first | omega | assumption | contradiction)))⟩, _, hXc48, (keepX.rfl'.trans hFc48), ((xkn.trans xkn.rfl' xfogT.kn)).w, rfl⟩)
    · skip
      refine y_blk 2 tq_X8_fog (z := (21, [(0, .ref (ad 1)), (1, .int minute), (2, .int fog)], [.int 1])) rfl ?_
      refine y_callS hS tq_X8_fog rfl (As := [.int 1]) rfl cs_X8_117 (m_X8_needLet hS  1) rfl (by decide) (Nat.le_of_ble_eq_true rfl) (fun r21 Gc21 q21 => ?_) (fun E9 G9 h9 => ⟨(Or.inl (And.intro h9.1.1 (by first | exact h9.1.2 | exact absurd h9.1.2 (by decide) | exact absurd rfl hq2 | exact absurd rfl hq11 | exact absurd rfl hq19 | exact absurd rfl hq21 | exact absurd rfl hq24 | exact absurd rfl hq30 | exact absurd rfl hq35 | exact absurd rfl hq39 | exact absurd rfl hq40 | exact absurd rfl hq57 | exact absurd rfl hq45 | exact absurd rfl hq38 | exact absurd rfl hq34 | exact absurd rfl hq33 | exact absurd rfl hq29 | (have z9 := h9.1.2; clear h9; (repeat' apply And.intro) <;> first | (first | assumption | (simp only [yif0, Classical.not_not, ylt, yle, xcp0, xcp3, xcp5, xcp10, xcp12, xcp16, xcp22, yl_m1, yl_0, yl_1, yl_2, yl_3, yl_4, yl_5, yl_6, yl_7, yl_8, yl_9, yl_10, yl_11, yl_12, yl_15, yl_16, yl_20, yl_60, yl_64, yl_90, yl_97, yl_99, yl_100, yl_120, yl_239, yl_240] at *; first | omega | assumption | contradiction)) | (intro q9; (simp only [yif0, Classical.not_not, ylt, yle, xcp0, xcp3, xcp5, xcp10, xcp12, xcp16, xcp22, yl_m1, yl_0, yl_1, yl_2, yl_3, yl_4, yl_5, yl_6, yl_7, yl_8, yl_9, yl_10, yl_11, yl_12, yl_15, yl_16, yl_20, yl_60, yl_64, yl_90, yl_97, yl_99, yl_100, yl_120, yl_239, yl_240] at *; first | omega | contradiction | (obtain ⟨qa, qb⟩ := q9; contradiction))))))), h9.2⟩)
      obtain ⟨⟨rfl, hq21⟩, eG21⟩ := q21
      have eG21 := eG21.symm
      subst eG21
      refine y_blk 1 tq_X8_fog (z := (25, [(0, .ref (ad 1)), (1, .int minute), (2, .int fog)], [.ref (ad 1)])) rfl ?_
      refine y_get hS tq_X8_fog (v := .ref (ad 5)) rfl fg_X8_26_X8 (hX.1 1 _ rfl) rfl ?_
      refine y_blk 0 tq_X8_fog (z := (28, [(0, .ref (ad 1)), (1, .int minute), (2, .int fog)], [.ref (ad 5)])) rfl ?_
      refine y_callV hS tq_X8_fog rfl (As := []) rfl cv_X8_174 (hX.1 5 _ rfl) (m_X0_isFull hS hX ) rfl (by decide) (Nat.le_of_ble_eq_true rfl) (fun r28 Gc28 q28 => ?_) (fun E9 G9 h9 => h9.elim)
      obtain ⟨rfl, eG28⟩ := q28
      have eG28 := eG28.symm
      subst eG28
      refine y_blk 0 tq_X8_fog (z := (31, [(0, .ref (ad 1)), (1, .int minute), (2, .int fog)], [.int (if (xcap 3 : Int) ≤ (σ.1 3).toInt then 1 else 0)])) rfl ?_
      refine y_if_ne tq_X8_fog 38 rfl rfl (fun c31 => ?_) (fun c31 => ?_)
      · skip
        refine y_blk 1 tq_X8_fog (z := (39, [(0, .ref (ad 1)), (1, .int minute), (2, .int fog)], [.int 0])) rfl ?_
        refine y_callS hS tq_X8_fog rfl (As := [.int 0]) rfl cs_X8_128 (m_X8_needPossible hS  0) rfl (by decide) (Nat.le_of_ble_eq_true rfl) (fun r39 Gc39 q39 => ?_) (fun E9 G9 h9 => ⟨(Or.inr (And.intro h9.1.1 (by first | exact h9.1.2 | exact absurd h9.1.2 (by decide) | exact absurd rfl hq2 | exact absurd rfl hq11 | exact absurd rfl hq19 | exact absurd rfl hq21 | exact absurd rfl hq24 | exact absurd rfl hq30 | exact absurd rfl hq35 | exact absurd rfl hq39 | exact absurd rfl hq40 | exact absurd rfl hq57 | exact absurd rfl hq45 | exact absurd rfl hq38 | exact absurd rfl hq34 | exact absurd rfl hq33 | exact absurd rfl hq29 | (have z9 := h9.1.2; clear h9; (repeat' apply And.intro) <;> first | (first | assumption | (simp only [yif0, Classical.not_not, ylt, yle, xcp0, xcp3, xcp5, xcp10, xcp12, xcp16, xcp22, yl_m1, yl_0, yl_1, yl_2, yl_3, yl_4, yl_5, yl_6, yl_7, yl_8, yl_9, yl_10, yl_11, yl_12, yl_15, yl_16, yl_20, yl_60, yl_64, yl_90, yl_97, yl_99, yl_100, yl_120, yl_239, yl_240] at *; first | omega | assumption | contradiction)) | (intro q9; (simp only [yif0, Classical.not_not, ylt, yle, xcp0, xcp3, xcp5, xcp10, xcp12, xcp16, xcp22, yl_m1, yl_0, yl_1, yl_2, yl_3, yl_4, yl_5, yl_6, yl_7, yl_8, yl_9, yl_10, yl_11, yl_12, yl_15, yl_16, yl_20, yl_60, yl_64, yl_90, yl_97, yl_99, yl_100, yl_120, yl_239, yl_240] at *; first | omega | contradiction | (obtain ⟨qa, qb⟩ := q9; contradiction))))))), h9.2⟩)
        obtain ⟨⟨rfl, hq39⟩, eG39⟩ := q39
        have eG39 := eG39.symm
        subst eG39
        refine y_blk 1 tq_X8_fog (z := (43, [(0, .ref (ad 1)), (1, .int minute), (2, .int fog)], [.ref (ad 1)])) rfl ?_
        refine y_get hS tq_X8_fog (v := .ref (ad 5)) rfl fg_X8_26_X8 (hX.1 1 _ rfl) rfl ?_
        refine y_blk 2 tq_X8_fog (z := (48, [(0, .ref (ad 1)), (1, .int minute), (2, .int fog)], [.int fog, .int minute, .ref (ad 5)])) rfl ?_
        refine y_callV hS tq_X8_fog rfl (As := [.int minute, .int fog]) rfl cv_X8_175 (hX.1 5 _ rfl) (m_X0_tell hS hX minute fog) rfl (by decide) (Nat.le_of_ble_eq_true rfl) (fun r48 Gc48 q48 => ?_) (fun E9 G9 h9 => h9.elim)
        obtain ⟨rfl, hXc48, hFc48⟩ := q48
        refine y_blk 0 tq_X8_fog (z := (51, [(0, .ref (ad 1)), (1, .int minute), (2, .int fog)], [.int ((xfogT σ minute fog).1 3)])) rfl ?_
        exact y_iret tq_X8_fog rfl rfl (⟨⟨rfl, (by first | exact absurd rfl hq2 | exact absurd rfl hq11 | exact absurd rfl hq19 | exact absurd rfl hq21 | exact absurd rfl hq24 | exact absurd rfl hq30 | exact absurd rfl hq35 | exact absurd rfl hq39 | exact absurd rfl hq40 | exact absurd rfl hq57 | exact absurd rfl hq45 | exact absurd rfl hq38 | exact absurd rfl hq34 | exact absurd rfl hq33 | exact absurd rfl hq29 | ((repeat' apply And.intro) <;> first | assumption | (simp only [yif0, Classical.not_not, ylt, yle, xcp0, xcp3, xcp5, xcp10, xcp12, xcp16, xcp22, yl_m1, yl_0, yl_1, yl_2, yl_3, yl_4, yl_5, yl_6, yl_7, yl_8, yl_9, yl_10, yl_11, yl_12, yl_15, yl_16, yl_20, yl_60, yl_64, yl_90, yl_97, yl_99, yl_100, yl_120, yl_239, yl_240] at *; first | omega | assumption | contradiction)))⟩, _, hXc48, (keepX.rfl'.trans hFc48), ((xkn.trans xkn.rfl' xfogT.kn)).w, rfl⟩)
      · skip
        refine y_blk 2 tq_X8_fog (z := (39, [(0, .ref (ad 1)), (1, .int minute), (2, .int fog)], [.int 1])) rfl ?_
        refine y_callS hS tq_X8_fog rfl (As := [.int 1]) rfl cs_X8_128 (m_X8_needPossible hS  1) rfl (by decide) (Nat.le_of_ble_eq_true rfl) (fun r39 Gc39 q39 => ?_) (fun E9 G9 h9 => ⟨(Or.inr (And.intro h9.1.1 (by first | exact h9.1.2 | exact absurd h9.1.2 (by decide) | exact absurd rfl hq2 | exact absurd rfl hq11 | exact absurd rfl hq19 | exact absurd rfl hq21 | exact absurd rfl hq24 | exact absurd rfl hq30 | exact absurd rfl hq35 | exact absurd rfl hq39 | exact absurd rfl hq40 | exact absurd rfl hq57 | exact absurd rfl hq45 | exact absurd rfl hq38 | exact absurd rfl hq34 | exact absurd rfl hq33 | exact absurd rfl hq29 | (have z9 := h9.1.2; clear h9; (repeat' apply And.intro) <;> first | (first | assumption | (simp only [yif0, Classical.not_not, ylt, yle, xcp0, xcp3, xcp5, xcp10, xcp12, xcp16, xcp22, yl_m1, yl_0, yl_1, yl_2, yl_3, yl_4, yl_5, yl_6, yl_7, yl_8, yl_9, yl_10, yl_11, yl_12, yl_15, yl_16, yl_20, yl_60, yl_64, yl_90, yl_97, yl_99, yl_100, yl_120, yl_239, yl_240] at *; first | omega | assumption | contradiction)) | (intro q9; (simp only [yif0, Classical.not_not, ylt, yle, xcp0, xcp3, xcp5, xcp10, xcp12, xcp16, xcp22, yl_m1, yl_0, yl_1, yl_2, yl_3, yl_4, yl_5, yl_6, yl_7, yl_8, yl_9, yl_10, yl_11, yl_12, yl_15, yl_16, yl_20, yl_60, yl_64, yl_90, yl_97, yl_99, yl_100, yl_120, yl_239, yl_240] at *; first | omega | contradiction | (obtain ⟨qa, qb⟩ := q9; contradiction))))))), h9.2⟩)
        obtain ⟨⟨rfl, hq39⟩, eG39⟩ := q39
        have eG39 := eG39.symm
        subst eG39
        refine y_blk 1 tq_X8_fog (z := (43, [(0, .ref (ad 1)), (1, .int minute), (2, .int fog)], [.ref (ad 1)])) rfl ?_
        refine y_get hS tq_X8_fog (v := .ref (ad 5)) rfl fg_X8_26_X8 (hX.1 1 _ rfl) rfl ?_
        refine y_blk 2 tq_X8_fog (z := (48, [(0, .ref (ad 1)), (1, .int minute), (2, .int fog)], [.int fog, .int minute, .ref (ad 5)])) rfl ?_
        refine y_callV hS tq_X8_fog rfl (As := [.int minute, .int fog]) rfl cv_X8_175 (hX.1 5 _ rfl) (m_X0_tell hS hX minute fog) rfl (by decide) (Nat.le_of_ble_eq_true rfl) (fun r48 Gc48 q48 => ?_) (fun E9 G9 h9 => h9.elim)
        obtain ⟨rfl, hXc48, hFc48⟩ := q48
        refine y_blk 0 tq_X8_fog (z := (51, [(0, .ref (ad 1)), (1, .int minute), (2, .int fog)], [.int ((xfogT σ minute fog).1 3)])) rfl ?_
        exact y_iret tq_X8_fog rfl rfl (⟨⟨rfl, (by first | exact absurd rfl hq2 | exact absurd rfl hq11 | exact absurd rfl hq19 | exact absurd rfl hq21 | exact absurd rfl hq24 | exact absurd rfl hq30 | exact absurd rfl hq35 | exact absurd rfl hq39 | exact absurd rfl hq40 | exact absurd rfl hq57 | exact absurd rfl hq45 | exact absurd rfl hq38 | exact absurd rfl hq34 | exact absurd rfl hq33 | exact absurd rfl hq29 | ((repeat' apply And.intro) <;> first | assumption | (simp only [yif0, Classical.not_not, ylt, yle, xcp0, xcp3, xcp5, xcp10, xcp12, xcp16, xcp22, yl_m1, yl_0, yl_1, yl_2, yl_3, yl_4, yl_5, yl_6, yl_7, yl_8, yl_9, yl_10, yl_11, yl_12, yl_15, yl_16, yl_20, yl_60, yl_64, yl_90, yl_97, yl_99, yl_100, yl_120, yl_239, yl_240] at *; first | omega | assumption | contradiction)))⟩, _, hXc48, (keepX.rfl'.trans hFc48), ((xkn.trans xkn.rfl' xfogT.kn)).w, rfl⟩)
set_option maxHeartbeats 4000000 in
set_option maxRecDepth 100000 in
theorem m_X8_guard {l : Launch} {S0 : State} {A0 : Array Value} {D : va_G} {aC : Nat → ClassId} {ad : Nat → Nat} {G : AH} {σ : XS} (hS : yS l S0 A0 D aC) (hX : atX aC ad G σ) (cell : Int32) (from_ : Int32) (to : Int32) (stay : Int32) : yM l S0 D yX8_guard cX8_guard 5 (some .int) 13 3 18 [.ref (ad 1), .int cell, .int from_, .int to, .int stay] G (fun r G1 => (r = some (.int ((xenl σ cell from_ to stay).1 5 - 1)) ∧ ((0 ≤ cell ∧ cell ≤ σ.2.2.1 0 * σ.2.2.1 1 - 1) ∧ (((0 ≤ from_ ∧ from_ ≤ 239) ∧ (0 ≤ to ∧ to ≤ 239) ∧ from_ ≤ to ∧ (1 ≤ stay ∧ stay ≤ 20)) ∧ ((σ.1 5).toInt < 6 ∧ ¬ xis (σ.2.2.2.1 2) cell)))) ∧ ∃ σ1 : XS, atX aC ad G1 σ1 ∧ keepX G G1 ∧ xfr [5, 6, 7, 8, 29, 30, 31, 32, 33] σ σ1 ∧ σ1 = xenl σ cell from_ to stay) (fun E G1 => ((E = "java/lang/IndexOutOfBoundsException" ∧ (¬ (0 ≤ cell ∧ cell ≤ σ.2.2.1 0 * σ.2.2.1 1 - 1))) ∨ (E = "java/lang/IllegalArgumentException" ∧ ((0 ≤ cell ∧ cell ≤ σ.2.2.1 0 * σ.2.2.1 1 - 1) ∧ (¬ ((0 ≤ from_ ∧ from_ ≤ 239) ∧ (0 ≤ to ∧ to ≤ 239) ∧ from_ ≤ to ∧ (1 ≤ stay ∧ stay ≤ 20))))) ∨ (E = "java/lang/IllegalStateException" ∧ ((0 ≤ cell ∧ cell ≤ σ.2.2.1 0 * σ.2.2.1 1 - 1) ∧ (((0 ≤ from_ ∧ from_ ≤ 239) ∧ (0 ≤ to ∧ to ≤ 239) ∧ from_ ≤ to ∧ (1 ≤ stay ∧ stay ≤ 20)) ∧ (¬ ((σ.1 5).toInt < 6 ∧ ¬ xis (σ.2.2.2.1 2) cell)))))) ∧ G1 = G) := by
  refine yM.ofK K_X8_guard rfl (by decide) (Nat.le_of_ble_eq_true rfl) ?_
  refine y_blk 2 tq_X8_guard (z := (2, [(0, .ref (ad 1)), (1, .int cell), (2, .int from_), (3, .int to), (4, .int stay)], [.int cell, .ref (ad 1)])) rfl ?_
  refine y_callV hS tq_X8_guard rfl (As := [.int cell]) rfl cv_X8_114 (hX.1 1 _ rfl) (m_X8_needCell hS hX cell) rfl (by decide) (Nat.le_of_ble_eq_true rfl) (fun r2 Gc2 q2 => ?_) (fun E9 G9 h9 => ⟨(Or.inl (And.intro h9.1.1 (by first | exact h9.1.2 | exact absurd h9.1.2 (by decide) | exact absurd rfl hq2 | exact absurd rfl hq11 | exact absurd rfl hq19 | exact absurd rfl hq21 | exact absurd rfl hq24 | exact absurd rfl hq30 | exact absurd rfl hq35 | exact absurd rfl hq39 | exact absurd rfl hq40 | exact absurd rfl hq57 | exact absurd rfl hq45 | exact absurd rfl hq38 | exact absurd rfl hq34 | exact absurd rfl hq33 | exact absurd rfl hq29 | (have z9 := h9.1.2; clear h9; (repeat' apply And.intro) <;> first | (first | assumption | (simp only [yif0, Classical.not_not, ylt, yle, xcp0, xcp3, xcp5, xcp10, xcp12, xcp16, xcp22, yl_m1, yl_0, yl_1, yl_2, yl_3, yl_4, yl_5, yl_6, yl_7, yl_8, yl_9, yl_10, yl_11, yl_12, yl_15, yl_16, yl_20, yl_60, yl_64, yl_90, yl_97, yl_99, yl_100, yl_120, yl_239, yl_240] at *; first | omega | assumption | contradiction)) | (intro q9; (simp only [yif0, Classical.not_not, ylt, yle, xcp0, xcp3, xcp5, xcp10, xcp12, xcp16, xcp22, yl_m1, yl_0, yl_1, yl_2, yl_3, yl_4, yl_5, yl_6, yl_7, yl_8, yl_9, yl_10, yl_11, yl_12, yl_15, yl_16, yl_20, yl_60, yl_64, yl_90, yl_97, yl_99, yl_100, yl_120, yl_239, yl_240] at *; first | omega | contradiction | (obtain ⟨qa, qb⟩ := q9; contradiction))))))), h9.2⟩)
  obtain ⟨⟨rfl, hq2⟩, eG2⟩ := q2
  have eG2 := eG2.symm
  subst eG2
  refine y_blk 1 tq_X8_guard (z := (6, [(0, .ref (ad 1)), (1, .int cell), (2, .int from_), (3, .int to), (4, .int stay)], [.int from_])) rfl ?_
  refine y_callS hS tq_X8_guard rfl (As := [.int from_]) rfl cs_X8_139 (m_X8_isMinute hS  from_) rfl (by decide) (Nat.le_of_ble_eq_true rfl) (fun r6 Gc6 q6 => ?_) (fun E9 G9 h9 => h9.elim)
  obtain ⟨rfl, eG6⟩ := q6
  have eG6 := eG6.symm
  subst eG6
  refine y_blk 0 tq_X8_guard (z := (9, [(0, .ref (ad 1)), (1, .int cell), (2, .int from_), (3, .int to), (4, .int stay)], [.int (if 0 ≤ from_ ∧ from_ ≤ 239 then 1 else 0)])) rfl ?_
  refine y_if_eq tq_X8_guard 39 rfl rfl (fun c9 => ?_) (fun c9 => ?_)
  · skip
    refine y_blk 1 tq_X8_guard (z := (40, [(0, .ref (ad 1)), (1, .int cell), (2, .int from_), (3, .int to), (4, .int stay)], [.int 0])) rfl ?_
    refine y_callS hS tq_X8_guard rfl (As := [.int 0]) rfl cs_X8_117 (m_X8_needLet hS  0) rfl (by decide) (Nat.le_of_ble_eq_true rfl) (fun r40 Gc40 q40 => ?_) (fun E9 G9 h9 => ⟨(Or.inr (Or.inl (And.intro h9.1.1 (by first | exact h9.1.2 | exact absurd h9.1.2 (by decide) | exact absurd rfl hq2 | exact absurd rfl hq11 | exact absurd rfl hq19 | exact absurd rfl hq21 | exact absurd rfl hq24 | exact absurd rfl hq30 | exact absurd rfl hq35 | exact absurd rfl hq39 | exact absurd rfl hq40 | exact absurd rfl hq57 | exact absurd rfl hq45 | exact absurd rfl hq38 | exact absurd rfl hq34 | exact absurd rfl hq33 | exact absurd rfl hq29 | (have z9 := h9.1.2; clear h9; (repeat' apply And.intro) <;> first | (first | assumption | (simp only [yif0, Classical.not_not, ylt, yle, xcp0, xcp3, xcp5, xcp10, xcp12, xcp16, xcp22, yl_m1, yl_0, yl_1, yl_2, yl_3, yl_4, yl_5, yl_6, yl_7, yl_8, yl_9, yl_10, yl_11, yl_12, yl_15, yl_16, yl_20, yl_60, yl_64, yl_90, yl_97, yl_99, yl_100, yl_120, yl_239, yl_240] at *; first | omega | assumption | contradiction)) | (intro q9; (simp only [yif0, Classical.not_not, ylt, yle, xcp0, xcp3, xcp5, xcp10, xcp12, xcp16, xcp22, yl_m1, yl_0, yl_1, yl_2, yl_3, yl_4, yl_5, yl_6, yl_7, yl_8, yl_9, yl_10, yl_11, yl_12, yl_15, yl_16, yl_20, yl_60, yl_64, yl_90, yl_97, yl_99, yl_100, yl_120, yl_239, yl_240] at *; first | omega | contradiction | (obtain ⟨qa, qb⟩ := q9; contradiction)))))))), h9.2⟩)
    obtain ⟨⟨rfl, hq40⟩, eG40⟩ := q40
    have eG40 := eG40.symm
    subst eG40
    refine y_blk 1 tq_X8_guard (z := (44, [(0, .ref (ad 1)), (1, .int cell), (2, .int from_), (3, .int to), (4, .int stay)], [.ref (ad 1)])) rfl ?_
    refine y_get hS tq_X8_guard (v := .ref (ad 6)) rfl fg_X8_33_X8 (hX.1 1 _ rfl) rfl ?_
    refine y_blk 0 tq_X8_guard (z := (47, [(0, .ref (ad 1)), (1, .int cell), (2, .int from_), (3, .int to), (4, .int stay)], [.ref (ad 6)])) rfl ?_
    refine y_callV hS tq_X8_guard rfl (As := []) rfl cv_X8_177 (hX.1 6 _ rfl) (m_X2_isFull hS hX ) rfl (by decide) (Nat.le_of_ble_eq_true rfl) (fun r47 Gc47 q47 => ?_) (fun E9 G9 h9 => h9.elim)
    obtain ⟨rfl, eG47⟩ := q47
    have eG47 := eG47.symm
    subst eG47
    refine y_blk 0 tq_X8_guard (z := (50, [(0, .ref (ad 1)), (1, .int cell), (2, .int from_), (3, .int to), (4, .int stay)], [.int (if (xcap 5 : Int) ≤ (σ.1 5).toInt then 1 else 0)])) rfl ?_
    refine y_if_ne tq_X8_guard 68 rfl rfl (fun c50 => ?_) (fun c50 => ?_)
    · skip
      refine y_blk 1 tq_X8_guard (z := (69, [(0, .ref (ad 1)), (1, .int cell), (2, .int from_), (3, .int to), (4, .int stay)], [.int 0])) rfl ?_
      refine y_callS hS tq_X8_guard rfl (As := [.int 0]) rfl cs_X8_128 (m_X8_needPossible hS  0) rfl (by decide) (Nat.le_of_ble_eq_true rfl) (fun r69 Gc69 q69 => ?_) (fun E9 G9 h9 => ⟨(Or.inr (Or.inr (And.intro h9.1.1 (by first | exact h9.1.2 | exact absurd h9.1.2 (by decide) | exact absurd rfl hq2 | exact absurd rfl hq11 | exact absurd rfl hq19 | exact absurd rfl hq21 | exact absurd rfl hq24 | exact absurd rfl hq30 | exact absurd rfl hq35 | exact absurd rfl hq39 | exact absurd rfl hq40 | exact absurd rfl hq57 | exact absurd rfl hq45 | exact absurd rfl hq38 | exact absurd rfl hq34 | exact absurd rfl hq33 | exact absurd rfl hq29 | (have z9 := h9.1.2; clear h9; (repeat' apply And.intro) <;> first | (first | assumption | (simp only [yif0, Classical.not_not, ylt, yle, xcp0, xcp3, xcp5, xcp10, xcp12, xcp16, xcp22, yl_m1, yl_0, yl_1, yl_2, yl_3, yl_4, yl_5, yl_6, yl_7, yl_8, yl_9, yl_10, yl_11, yl_12, yl_15, yl_16, yl_20, yl_60, yl_64, yl_90, yl_97, yl_99, yl_100, yl_120, yl_239, yl_240] at *; first | omega | assumption | contradiction)) | (intro q9; (simp only [yif0, Classical.not_not, ylt, yle, xcp0, xcp3, xcp5, xcp10, xcp12, xcp16, xcp22, yl_m1, yl_0, yl_1, yl_2, yl_3, yl_4, yl_5, yl_6, yl_7, yl_8, yl_9, yl_10, yl_11, yl_12, yl_15, yl_16, yl_20, yl_60, yl_64, yl_90, yl_97, yl_99, yl_100, yl_120, yl_239, yl_240] at *; first | omega | contradiction | (obtain ⟨qa, qb⟩ := q9; contradiction)))))))), h9.2⟩)
      obtain ⟨⟨rfl, hq69⟩, eG69⟩ := q69
      have eG69 := eG69.symm
      subst eG69
      refine y_blk 1 tq_X8_guard (z := (73, [(0, .ref (ad 1)), (1, .int cell), (2, .int from_), (3, .int to), (4, .int stay)], [.ref (ad 1)])) rfl ?_
      refine y_get hS tq_X8_guard (v := .ref (ad 6)) rfl fg_X8_33_X8 (hX.1 1 _ rfl) rfl ?_
      refine y_blk 4 tq_X8_guard (z := (81, [(0, .ref (ad 1)), (1, .int cell), (2, .int from_), (3, .int to), (4, .int stay)], [.int stay, .int to, .int from_, .int cell, .ref (ad 6)])) rfl ?_
      refine y_callV hS tq_X8_guard rfl (As := [.int cell, .int from_, .int to, .int stay]) rfl cv_X8_178 (hX.1 6 _ rfl) (m_X2_enlist hS hX cell from_ to stay) rfl (by decide) (Nat.le_of_ble_eq_true rfl) (fun r81 Gc81 q81 => ?_) (fun E9 G9 h9 => h9.elim)
      obtain ⟨rfl, hXc81, hFc81⟩ := q81
      refine y_blk 0 tq_X8_guard (z := (84, [(0, .ref (ad 1)), (1, .int cell), (2, .int from_), (3, .int to), (4, .int stay)], [.int ((xenl σ cell from_ to stay).1 5 - 1)])) rfl ?_
      exact y_iret tq_X8_guard rfl rfl (⟨⟨rfl, (by first | exact absurd rfl hq2 | exact absurd rfl hq11 | exact absurd rfl hq19 | exact absurd rfl hq21 | exact absurd rfl hq24 | exact absurd rfl hq30 | exact absurd rfl hq35 | exact absurd rfl hq39 | exact absurd rfl hq40 | exact absurd rfl hq57 | exact absurd rfl hq45 | exact absurd rfl hq38 | exact absurd rfl hq34 | exact absurd rfl hq33 | exact absurd rfl hq29 | ((repeat' apply And.intro) <;> first | assumption | (simp only [yif0, Classical.not_not, ylt, yle, xcp0, xcp3, xcp5, xcp10, xcp12, xcp16, xcp22, yl_m1, yl_0, yl_1, yl_2, yl_3, yl_4, yl_5, yl_6, yl_7, yl_8, yl_9, yl_10, yl_11, yl_12, yl_15, yl_16, yl_20, yl_60, yl_64, yl_90, yl_97, yl_99, yl_100, yl_120, yl_239, yl_240] at *; first | omega | assumption | contradiction)))⟩, _, hXc81, (keepX.rfl'.trans hFc81), ((xkn.trans xkn.rfl' xenl.kn)).w, rfl⟩)
    · skip
      refine y_blk 1 tq_X8_guard (z := (54, [(0, .ref (ad 1)), (1, .int cell), (2, .int from_), (3, .int to), (4, .int stay)], [.ref (ad 1)])) rfl ?_
      refine y_get hS tq_X8_guard (v := .ref (ad 2)) rfl fg_X8_10_X8 (hX.1 1 _ rfl) rfl ?_
      refine y_blk 1 tq_X8_guard (z := (58, [(0, .ref (ad 1)), (1, .int cell), (2, .int from_), (3, .int to), (4, .int stay)], [.int cell, .ref (ad 2)])) rfl ?_
      refine y_callV hS tq_X8_guard rfl (As := [.int cell]) rfl cv_X8_154 (hX.1 2 _ rfl) (m_X1_isWall hS hX cell) rfl (by decide) (Nat.le_of_ble_eq_true rfl) (fun r58 Gc58 q58 => ?_) (fun E9 G9 h9 => h9.elim)
      obtain ⟨rfl, eG58⟩ := q58
      have eG58 := eG58.symm
      subst eG58
      refine y_blk 0 tq_X8_guard (z := (61, [(0, .ref (ad 1)), (1, .int cell), (2, .int from_), (3, .int to), (4, .int stay)], [.int (if xis (σ.2.2.2.1 2) cell then 1 else 0)])) rfl ?_
      refine y_if_ne tq_X8_guard 68 rfl rfl (fun c61 => ?_) (fun c61 => ?_)
      · skip
        refine y_blk 1 tq_X8_guard (z := (69, [(0, .ref (ad 1)), (1, .int cell), (2, .int from_), (3, .int to), (4, .int stay)], [.int 0])) rfl ?_
        refine y_callS hS tq_X8_guard rfl (As := [.int 0]) rfl cs_X8_128 (m_X8_needPossible hS  0) rfl (by decide) (Nat.le_of_ble_eq_true rfl) (fun r69 Gc69 q69 => ?_) (fun E9 G9 h9 => ⟨(Or.inr (Or.inr (And.intro h9.1.1 (by first | exact h9.1.2 | exact absurd h9.1.2 (by decide) | exact absurd rfl hq2 | exact absurd rfl hq11 | exact absurd rfl hq19 | exact absurd rfl hq21 | exact absurd rfl hq24 | exact absurd rfl hq30 | exact absurd rfl hq35 | exact absurd rfl hq39 | exact absurd rfl hq40 | exact absurd rfl hq57 | exact absurd rfl hq45 | exact absurd rfl hq38 | exact absurd rfl hq34 | exact absurd rfl hq33 | exact absurd rfl hq29 | (have z9 := h9.1.2; clear h9; (repeat' apply And.intro) <;> first | (first | assumption | (simp only [yif0, Classical.not_not, ylt, yle, xcp0, xcp3, xcp5, xcp10, xcp12, xcp16, xcp22, yl_m1, yl_0, yl_1, yl_2, yl_3, yl_4, yl_5, yl_6, yl_7, yl_8, yl_9, yl_10, yl_11, yl_12, yl_15, yl_16, yl_20, yl_60, yl_64, yl_90, yl_97, yl_99, yl_100, yl_120, yl_239, yl_240] at *; first | omega | assumption | contradiction)) | (intro q9; (simp only [yif0, Classical.not_not, ylt, yle, xcp0, xcp3, xcp5, xcp10, xcp12, xcp16, xcp22, yl_m1, yl_0, yl_1, yl_2, yl_3, yl_4, yl_5, yl_6, yl_7, yl_8, yl_9, yl_10, yl_11, yl_12, yl_15, yl_16, yl_20, yl_60, yl_64, yl_90, yl_97, yl_99, yl_100, yl_120, yl_239, yl_240] at *; first | omega | contradiction | (obtain ⟨qa, qb⟩ := q9; contradiction)))))))), h9.2⟩)
        obtain ⟨⟨rfl, hq69⟩, eG69⟩ := q69
        have eG69 := eG69.symm
        subst eG69
        refine y_blk 1 tq_X8_guard (z := (73, [(0, .ref (ad 1)), (1, .int cell), (2, .int from_), (3, .int to), (4, .int stay)], [.ref (ad 1)])) rfl ?_
        refine y_get hS tq_X8_guard (v := .ref (ad 6)) rfl fg_X8_33_X8 (hX.1 1 _ rfl) rfl ?_
        refine y_blk 4 tq_X8_guard (z := (81, [(0, .ref (ad 1)), (1, .int cell), (2, .int from_), (3, .int to), (4, .int stay)], [.int stay, .int to, .int from_, .int cell, .ref (ad 6)])) rfl ?_
        refine y_callV hS tq_X8_guard rfl (As := [.int cell, .int from_, .int to, .int stay]) rfl cv_X8_178 (hX.1 6 _ rfl) (m_X2_enlist hS hX cell from_ to stay) rfl (by decide) (Nat.le_of_ble_eq_true rfl) (fun r81 Gc81 q81 => ?_) (fun E9 G9 h9 => h9.elim)
        obtain ⟨rfl, hXc81, hFc81⟩ := q81
        refine y_blk 0 tq_X8_guard (z := (84, [(0, .ref (ad 1)), (1, .int cell), (2, .int from_), (3, .int to), (4, .int stay)], [.int ((xenl σ cell from_ to stay).1 5 - 1)])) rfl ?_
        exact y_iret tq_X8_guard rfl rfl (⟨⟨rfl, (by first | exact absurd rfl hq2 | exact absurd rfl hq11 | exact absurd rfl hq19 | exact absurd rfl hq21 | exact absurd rfl hq24 | exact absurd rfl hq30 | exact absurd rfl hq35 | exact absurd rfl hq39 | exact absurd rfl hq40 | exact absurd rfl hq57 | exact absurd rfl hq45 | exact absurd rfl hq38 | exact absurd rfl hq34 | exact absurd rfl hq33 | exact absurd rfl hq29 | ((repeat' apply And.intro) <;> first | assumption | (simp only [yif0, Classical.not_not, ylt, yle, xcp0, xcp3, xcp5, xcp10, xcp12, xcp16, xcp22, yl_m1, yl_0, yl_1, yl_2, yl_3, yl_4, yl_5, yl_6, yl_7, yl_8, yl_9, yl_10, yl_11, yl_12, yl_15, yl_16, yl_20, yl_60, yl_64, yl_90, yl_97, yl_99, yl_100, yl_120, yl_239, yl_240] at *; first | omega | assumption | contradiction)))⟩, _, hXc81, (keepX.rfl'.trans hFc81), ((xkn.trans xkn.rfl' xenl.kn)).w, rfl⟩)
      · skip
        refine y_blk 2 tq_X8_guard (z := (69, [(0, .ref (ad 1)), (1, .int cell), (2, .int from_), (3, .int to), (4, .int stay)], [.int 1])) rfl ?_
        refine y_callS hS tq_X8_guard rfl (As := [.int 1]) rfl cs_X8_128 (m_X8_needPossible hS  1) rfl (by decide) (Nat.le_of_ble_eq_true rfl) (fun r69 Gc69 q69 => ?_) (fun E9 G9 h9 => ⟨(Or.inr (Or.inr (And.intro h9.1.1 (by first | exact h9.1.2 | exact absurd h9.1.2 (by decide) | exact absurd rfl hq2 | exact absurd rfl hq11 | exact absurd rfl hq19 | exact absurd rfl hq21 | exact absurd rfl hq24 | exact absurd rfl hq30 | exact absurd rfl hq35 | exact absurd rfl hq39 | exact absurd rfl hq40 | exact absurd rfl hq57 | exact absurd rfl hq45 | exact absurd rfl hq38 | exact absurd rfl hq34 | exact absurd rfl hq33 | exact absurd rfl hq29 | (have z9 := h9.1.2; clear h9; (repeat' apply And.intro) <;> first | (first | assumption | (simp only [yif0, Classical.not_not, ylt, yle, xcp0, xcp3, xcp5, xcp10, xcp12, xcp16, xcp22, yl_m1, yl_0, yl_1, yl_2, yl_3, yl_4, yl_5, yl_6, yl_7, yl_8, yl_9, yl_10, yl_11, yl_12, yl_15, yl_16, yl_20, yl_60, yl_64, yl_90, yl_97, yl_99, yl_100, yl_120, yl_239, yl_240] at *; first | omega | assumption | contradiction)) | (intro q9; (simp only [yif0, Classical.not_not, ylt, yle, xcp0, xcp3, xcp5, xcp10, xcp12, xcp16, xcp22, yl_m1, yl_0, yl_1, yl_2, yl_3, yl_4, yl_5, yl_6, yl_7, yl_8, yl_9, yl_10, yl_11, yl_12, yl_15, yl_16, yl_20, yl_60, yl_64, yl_90, yl_97, yl_99, yl_100, yl_120, yl_239, yl_240] at *; first | omega | contradiction | (obtain ⟨qa, qb⟩ := q9; contradiction)))))))), h9.2⟩)
        obtain ⟨⟨rfl, hq69⟩, eG69⟩ := q69
        have eG69 := eG69.symm
        subst eG69
        refine y_blk 1 tq_X8_guard (z := (73, [(0, .ref (ad 1)), (1, .int cell), (2, .int from_), (3, .int to), (4, .int stay)], [.ref (ad 1)])) rfl ?_
        refine y_get hS tq_X8_guard (v := .ref (ad 6)) rfl fg_X8_33_X8 (hX.1 1 _ rfl) rfl ?_
        refine y_blk 4 tq_X8_guard (z := (81, [(0, .ref (ad 1)), (1, .int cell), (2, .int from_), (3, .int to), (4, .int stay)], [.int stay, .int to, .int from_, .int cell, .ref (ad 6)])) rfl ?_
        refine y_callV hS tq_X8_guard rfl (As := [.int cell, .int from_, .int to, .int stay]) rfl cv_X8_178 (hX.1 6 _ rfl) (m_X2_enlist hS hX cell from_ to stay) rfl (by decide) (Nat.le_of_ble_eq_true rfl) (fun r81 Gc81 q81 => ?_) (fun E9 G9 h9 => h9.elim)
        obtain ⟨rfl, hXc81, hFc81⟩ := q81
        refine y_blk 0 tq_X8_guard (z := (84, [(0, .ref (ad 1)), (1, .int cell), (2, .int from_), (3, .int to), (4, .int stay)], [.int ((xenl σ cell from_ to stay).1 5 - 1)])) rfl ?_
        exact y_iret tq_X8_guard rfl rfl (⟨⟨rfl, (by first | exact absurd rfl hq2 | exact absurd rfl hq11 | exact absurd rfl hq19 | exact absurd rfl hq21 | exact absurd rfl hq24 | exact absurd rfl hq30 | exact absurd rfl hq35 | exact absurd rfl hq39 | exact absurd rfl hq40 | exact absurd rfl hq57 | exact absurd rfl hq45 | exact absurd rfl hq38 | exact absurd rfl hq34 | exact absurd rfl hq33 | exact absurd rfl hq29 | ((repeat' apply And.intro) <;> first | assumption | (simp only [yif0, Classical.not_not, ylt, yle, xcp0, xcp3, xcp5, xcp10, xcp12, xcp16, xcp22, yl_m1, yl_0, yl_1, yl_2, yl_3, yl_4, yl_5, yl_6, yl_7, yl_8, yl_9, yl_10, yl_11, yl_12, yl_15, yl_16, yl_20, yl_60, yl_64, yl_90, yl_97, yl_99, yl_100, yl_120, yl_239, yl_240] at *; first | omega | assumption | contradiction)))⟩, _, hXc81, (keepX.rfl'.trans hFc81), ((xkn.trans xkn.rfl' xenl.kn)).w, rfl⟩)
  · skip
    refine y_blk 1 tq_X8_guard (z := (13, [(0, .ref (ad 1)), (1, .int cell), (2, .int from_), (3, .int to), (4, .int stay)], [.int to])) rfl ?_
    refine y_callS hS tq_X8_guard rfl (As := [.int to]) rfl cs_X8_139 (m_X8_isMinute hS  to) rfl (by decide) (Nat.le_of_ble_eq_true rfl) (fun r13 Gc13 q13 => ?_) (fun E9 G9 h9 => h9.elim)
    obtain ⟨rfl, eG13⟩ := q13
    have eG13 := eG13.symm
    subst eG13
    refine y_blk 0 tq_X8_guard (z := (16, [(0, .ref (ad 1)), (1, .int cell), (2, .int from_), (3, .int to), (4, .int stay)], [.int (if 0 ≤ to ∧ to ≤ 239 then 1 else 0)])) rfl ?_
    refine y_if_eq tq_X8_guard 39 rfl rfl (fun c16 => ?_) (fun c16 => ?_)
    · skip
      refine y_blk 1 tq_X8_guard (z := (40, [(0, .ref (ad 1)), (1, .int cell), (2, .int from_), (3, .int to), (4, .int stay)], [.int 0])) rfl ?_
      refine y_callS hS tq_X8_guard rfl (As := [.int 0]) rfl cs_X8_117 (m_X8_needLet hS  0) rfl (by decide) (Nat.le_of_ble_eq_true rfl) (fun r40 Gc40 q40 => ?_) (fun E9 G9 h9 => ⟨(Or.inr (Or.inl (And.intro h9.1.1 (by first | exact h9.1.2 | exact absurd h9.1.2 (by decide) | exact absurd rfl hq2 | exact absurd rfl hq11 | exact absurd rfl hq19 | exact absurd rfl hq21 | exact absurd rfl hq24 | exact absurd rfl hq30 | exact absurd rfl hq35 | exact absurd rfl hq39 | exact absurd rfl hq40 | exact absurd rfl hq57 | exact absurd rfl hq45 | exact absurd rfl hq38 | exact absurd rfl hq34 | exact absurd rfl hq33 | exact absurd rfl hq29 | (have z9 := h9.1.2; clear h9; (repeat' apply And.intro) <;> first | (first | assumption | (simp only [yif0, Classical.not_not, ylt, yle, xcp0, xcp3, xcp5, xcp10, xcp12, xcp16, xcp22, yl_m1, yl_0, yl_1, yl_2, yl_3, yl_4, yl_5, yl_6, yl_7, yl_8, yl_9, yl_10, yl_11, yl_12, yl_15, yl_16, yl_20, yl_60, yl_64, yl_90, yl_97, yl_99, yl_100, yl_120, yl_239, yl_240] at *; first | omega | assumption | contradiction)) | (intro q9; (simp only [yif0, Classical.not_not, ylt, yle, xcp0, xcp3, xcp5, xcp10, xcp12, xcp16, xcp22, yl_m1, yl_0, yl_1, yl_2, yl_3, yl_4, yl_5, yl_6, yl_7, yl_8, yl_9, yl_10, yl_11, yl_12, yl_15, yl_16, yl_20, yl_60, yl_64, yl_90, yl_97, yl_99, yl_100, yl_120, yl_239, yl_240] at *; first | omega | contradiction | (obtain ⟨qa, qb⟩ := q9; contradiction)))))))), h9.2⟩)
      obtain ⟨⟨rfl, hq40⟩, eG40⟩ := q40
      have eG40 := eG40.symm
      subst eG40
      refine y_blk 1 tq_X8_guard (z := (44, [(0, .ref (ad 1)), (1, .int cell), (2, .int from_), (3, .int to), (4, .int stay)], [.ref (ad 1)])) rfl ?_
      refine y_get hS tq_X8_guard (v := .ref (ad 6)) rfl fg_X8_33_X8 (hX.1 1 _ rfl) rfl ?_
      refine y_blk 0 tq_X8_guard (z := (47, [(0, .ref (ad 1)), (1, .int cell), (2, .int from_), (3, .int to), (4, .int stay)], [.ref (ad 6)])) rfl ?_
      refine y_callV hS tq_X8_guard rfl (As := []) rfl cv_X8_177 (hX.1 6 _ rfl) (m_X2_isFull hS hX ) rfl (by decide) (Nat.le_of_ble_eq_true rfl) (fun r47 Gc47 q47 => ?_) (fun E9 G9 h9 => h9.elim)
      obtain ⟨rfl, eG47⟩ := q47
      have eG47 := eG47.symm
      subst eG47
      refine y_blk 0 tq_X8_guard (z := (50, [(0, .ref (ad 1)), (1, .int cell), (2, .int from_), (3, .int to), (4, .int stay)], [.int (if (xcap 5 : Int) ≤ (σ.1 5).toInt then 1 else 0)])) rfl ?_
      refine y_if_ne tq_X8_guard 68 rfl rfl (fun c50 => ?_) (fun c50 => ?_)
      · skip
        refine y_blk 1 tq_X8_guard (z := (69, [(0, .ref (ad 1)), (1, .int cell), (2, .int from_), (3, .int to), (4, .int stay)], [.int 0])) rfl ?_
        refine y_callS hS tq_X8_guard rfl (As := [.int 0]) rfl cs_X8_128 (m_X8_needPossible hS  0) rfl (by decide) (Nat.le_of_ble_eq_true rfl) (fun r69 Gc69 q69 => ?_) (fun E9 G9 h9 => ⟨(Or.inr (Or.inr (And.intro h9.1.1 (by first | exact h9.1.2 | exact absurd h9.1.2 (by decide) | exact absurd rfl hq2 | exact absurd rfl hq11 | exact absurd rfl hq19 | exact absurd rfl hq21 | exact absurd rfl hq24 | exact absurd rfl hq30 | exact absurd rfl hq35 | exact absurd rfl hq39 | exact absurd rfl hq40 | exact absurd rfl hq57 | exact absurd rfl hq45 | exact absurd rfl hq38 | exact absurd rfl hq34 | exact absurd rfl hq33 | exact absurd rfl hq29 | (have z9 := h9.1.2; clear h9; (repeat' apply And.intro) <;> first | (first | assumption | (simp only [yif0, Classical.not_not, ylt, yle, xcp0, xcp3, xcp5, xcp10, xcp12, xcp16, xcp22, yl_m1, yl_0, yl_1, yl_2, yl_3, yl_4, yl_5, yl_6, yl_7, yl_8, yl_9, yl_10, yl_11, yl_12, yl_15, yl_16, yl_20, yl_60, yl_64, yl_90, yl_97, yl_99, yl_100, yl_120, yl_239, yl_240] at *; first | omega | assumption | contradiction)) | (intro q9; (simp only [yif0, Classical.not_not, ylt, yle, xcp0, xcp3, xcp5, xcp10, xcp12, xcp16, xcp22, yl_m1, yl_0, yl_1, yl_2, yl_3, yl_4, yl_5, yl_6, yl_7, yl_8, yl_9, yl_10, yl_11, yl_12, yl_15, yl_16, yl_20, yl_60, yl_64, yl_90, yl_97, yl_99, yl_100, yl_120, yl_239, yl_240] at *; first | omega | contradiction | (obtain ⟨qa, qb⟩ := q9; contradiction)))))))), h9.2⟩)
        obtain ⟨⟨rfl, hq69⟩, eG69⟩ := q69
        have eG69 := eG69.symm
        subst eG69
        refine y_blk 1 tq_X8_guard (z := (73, [(0, .ref (ad 1)), (1, .int cell), (2, .int from_), (3, .int to), (4, .int stay)], [.ref (ad 1)])) rfl ?_
        refine y_get hS tq_X8_guard (v := .ref (ad 6)) rfl fg_X8_33_X8 (hX.1 1 _ rfl) rfl ?_
        refine y_blk 4 tq_X8_guard (z := (81, [(0, .ref (ad 1)), (1, .int cell), (2, .int from_), (3, .int to), (4, .int stay)], [.int stay, .int to, .int from_, .int cell, .ref (ad 6)])) rfl ?_
        refine y_callV hS tq_X8_guard rfl (As := [.int cell, .int from_, .int to, .int stay]) rfl cv_X8_178 (hX.1 6 _ rfl) (m_X2_enlist hS hX cell from_ to stay) rfl (by decide) (Nat.le_of_ble_eq_true rfl) (fun r81 Gc81 q81 => ?_) (fun E9 G9 h9 => h9.elim)
        obtain ⟨rfl, hXc81, hFc81⟩ := q81
        refine y_blk 0 tq_X8_guard (z := (84, [(0, .ref (ad 1)), (1, .int cell), (2, .int from_), (3, .int to), (4, .int stay)], [.int ((xenl σ cell from_ to stay).1 5 - 1)])) rfl ?_
        exact y_iret tq_X8_guard rfl rfl (⟨⟨rfl, (by first | exact absurd rfl hq2 | exact absurd rfl hq11 | exact absurd rfl hq19 | exact absurd rfl hq21 | exact absurd rfl hq24 | exact absurd rfl hq30 | exact absurd rfl hq35 | exact absurd rfl hq39 | exact absurd rfl hq40 | exact absurd rfl hq57 | exact absurd rfl hq45 | exact absurd rfl hq38 | exact absurd rfl hq34 | exact absurd rfl hq33 | exact absurd rfl hq29 | ((repeat' apply And.intro) <;> first | assumption | (simp only [yif0, Classical.not_not, ylt, yle, xcp0, xcp3, xcp5, xcp10, xcp12, xcp16, xcp22, yl_m1, yl_0, yl_1, yl_2, yl_3, yl_4, yl_5, yl_6, yl_7, yl_8, yl_9, yl_10, yl_11, yl_12, yl_15, yl_16, yl_20, yl_60, yl_64, yl_90, yl_97, yl_99, yl_100, yl_120, yl_239, yl_240] at *; first | omega | assumption | contradiction)))⟩, _, hXc81, (keepX.rfl'.trans hFc81), ((xkn.trans xkn.rfl' xenl.kn)).w, rfl⟩)
      · skip
        refine y_blk 1 tq_X8_guard (z := (54, [(0, .ref (ad 1)), (1, .int cell), (2, .int from_), (3, .int to), (4, .int stay)], [.ref (ad 1)])) rfl ?_
        refine y_get hS tq_X8_guard (v := .ref (ad 2)) rfl fg_X8_10_X8 (hX.1 1 _ rfl) rfl ?_
        refine y_blk 1 tq_X8_guard (z := (58, [(0, .ref (ad 1)), (1, .int cell), (2, .int from_), (3, .int to), (4, .int stay)], [.int cell, .ref (ad 2)])) rfl ?_
        refine y_callV hS tq_X8_guard rfl (As := [.int cell]) rfl cv_X8_154 (hX.1 2 _ rfl) (m_X1_isWall hS hX cell) rfl (by decide) (Nat.le_of_ble_eq_true rfl) (fun r58 Gc58 q58 => ?_) (fun E9 G9 h9 => h9.elim)
        obtain ⟨rfl, eG58⟩ := q58
        have eG58 := eG58.symm
        subst eG58
        refine y_blk 0 tq_X8_guard (z := (61, [(0, .ref (ad 1)), (1, .int cell), (2, .int from_), (3, .int to), (4, .int stay)], [.int (if xis (σ.2.2.2.1 2) cell then 1 else 0)])) rfl ?_
        refine y_if_ne tq_X8_guard 68 rfl rfl (fun c61 => ?_) (fun c61 => ?_)
        · skip
          refine y_blk 1 tq_X8_guard (z := (69, [(0, .ref (ad 1)), (1, .int cell), (2, .int from_), (3, .int to), (4, .int stay)], [.int 0])) rfl ?_
          refine y_callS hS tq_X8_guard rfl (As := [.int 0]) rfl cs_X8_128 (m_X8_needPossible hS  0) rfl (by decide) (Nat.le_of_ble_eq_true rfl) (fun r69 Gc69 q69 => ?_) (fun E9 G9 h9 => ⟨(Or.inr (Or.inr (And.intro h9.1.1 (by first | exact h9.1.2 | exact absurd h9.1.2 (by decide) | exact absurd rfl hq2 | exact absurd rfl hq11 | exact absurd rfl hq19 | exact absurd rfl hq21 | exact absurd rfl hq24 | exact absurd rfl hq30 | exact absurd rfl hq35 | exact absurd rfl hq39 | exact absurd rfl hq40 | exact absurd rfl hq57 | exact absurd rfl hq45 | exact absurd rfl hq38 | exact absurd rfl hq34 | exact absurd rfl hq33 | exact absurd rfl hq29 | (have z9 := h9.1.2; clear h9; (repeat' apply And.intro) <;> first | (first | assumption | (simp only [yif0, Classical.not_not, ylt, yle, xcp0, xcp3, xcp5, xcp10, xcp12, xcp16, xcp22, yl_m1, yl_0, yl_1, yl_2, yl_3, yl_4, yl_5, yl_6, yl_7, yl_8, yl_9, yl_10, yl_11, yl_12, yl_15, yl_16, yl_20, yl_60, yl_64, yl_90, yl_97, yl_99, yl_100, yl_120, yl_239, yl_240] at *; first | omega | assumption | contradiction)) | (intro q9; (simp only [yif0, Classical.not_not, ylt, yle, xcp0, xcp3, xcp5, xcp10, xcp12, xcp16, xcp22, yl_m1, yl_0, yl_1, yl_2, yl_3, yl_4, yl_5, yl_6, yl_7, yl_8, yl_9, yl_10, yl_11, yl_12, yl_15, yl_16, yl_20, yl_60, yl_64, yl_90, yl_97, yl_99, yl_100, yl_120, yl_239, yl_240] at *; first | omega | contradiction | (obtain ⟨qa, qb⟩ := q9; contradiction)))))))), h9.2⟩)
          obtain ⟨⟨rfl, hq69⟩, eG69⟩ := q69
          have eG69 := eG69.symm
          subst eG69
          refine y_blk 1 tq_X8_guard (z := (73, [(0, .ref (ad 1)), (1, .int cell), (2, .int from_), (3, .int to), (4, .int stay)], [.ref (ad 1)])) rfl ?_
          refine y_get hS tq_X8_guard (v := .ref (ad 6)) rfl fg_X8_33_X8 (hX.1 1 _ rfl) rfl ?_
          refine y_blk 4 tq_X8_guard (z := (81, [(0, .ref (ad 1)), (1, .int cell), (2, .int from_), (3, .int to), (4, .int stay)], [.int stay, .int to, .int from_, .int cell, .ref (ad 6)])) rfl ?_
          refine y_callV hS tq_X8_guard rfl (As := [.int cell, .int from_, .int to, .int stay]) rfl cv_X8_178 (hX.1 6 _ rfl) (m_X2_enlist hS hX cell from_ to stay) rfl (by decide) (Nat.le_of_ble_eq_true rfl) (fun r81 Gc81 q81 => ?_) (fun E9 G9 h9 => h9.elim)
          obtain ⟨rfl, hXc81, hFc81⟩ := q81
          refine y_blk 0 tq_X8_guard (z := (84, [(0, .ref (ad 1)), (1, .int cell), (2, .int from_), (3, .int to), (4, .int stay)], [.int ((xenl σ cell from_ to stay).1 5 - 1)])) rfl ?_
          exact y_iret tq_X8_guard rfl rfl (⟨⟨rfl, (by first | exact absurd rfl hq2 | exact absurd rfl hq11 | exact absurd rfl hq19 | exact absurd rfl hq21 | exact absurd rfl hq24 | exact absurd rfl hq30 | exact absurd rfl hq35 | exact absurd rfl hq39 | exact absurd rfl hq40 | exact absurd rfl hq57 | exact absurd rfl hq45 | exact absurd rfl hq38 | exact absurd rfl hq34 | exact absurd rfl hq33 | exact absurd rfl hq29 | ((repeat' apply And.intro) <;> first | assumption | (simp only [yif0, Classical.not_not, ylt, yle, xcp0, xcp3, xcp5, xcp10, xcp12, xcp16, xcp22, yl_m1, yl_0, yl_1, yl_2, yl_3, yl_4, yl_5, yl_6, yl_7, yl_8, yl_9, yl_10, yl_11, yl_12, yl_15, yl_16, yl_20, yl_60, yl_64, yl_90, yl_97, yl_99, yl_100, yl_120, yl_239, yl_240] at *; first | omega | assumption | contradiction)))⟩, _, hXc81, (keepX.rfl'.trans hFc81), ((xkn.trans xkn.rfl' xenl.kn)).w, rfl⟩)
        · skip
          refine y_blk 2 tq_X8_guard (z := (69, [(0, .ref (ad 1)), (1, .int cell), (2, .int from_), (3, .int to), (4, .int stay)], [.int 1])) rfl ?_
          refine y_callS hS tq_X8_guard rfl (As := [.int 1]) rfl cs_X8_128 (m_X8_needPossible hS  1) rfl (by decide) (Nat.le_of_ble_eq_true rfl) (fun r69 Gc69 q69 => ?_) (fun E9 G9 h9 => ⟨(Or.inr (Or.inr (And.intro h9.1.1 (by first | exact h9.1.2 | exact absurd h9.1.2 (by decide) | exact absurd rfl hq2 | exact absurd rfl hq11 | exact absurd rfl hq19 | exact absurd rfl hq21 | exact absurd rfl hq24 | exact absurd rfl hq30 | exact absurd rfl hq35 | exact absurd rfl hq39 | exact absurd rfl hq40 | exact absurd rfl hq57 | exact absurd rfl hq45 | exact absurd rfl hq38 | exact absurd rfl hq34 | exact absurd rfl hq33 | exact absurd rfl hq29 | (have z9 := h9.1.2; clear h9; (repeat' apply And.intro) <;> first | (first | assumption | (simp only [yif0, Classical.not_not, ylt, yle, xcp0, xcp3, xcp5, xcp10, xcp12, xcp16, xcp22, yl_m1, yl_0, yl_1, yl_2, yl_3, yl_4, yl_5, yl_6, yl_7, yl_8, yl_9, yl_10, yl_11, yl_12, yl_15, yl_16, yl_20, yl_60, yl_64, yl_90, yl_97, yl_99, yl_100, yl_120, yl_239, yl_240] at *; first | omega | assumption | contradiction)) | (intro q9; (simp only [yif0, Classical.not_not, ylt, yle, xcp0, xcp3, xcp5, xcp10, xcp12, xcp16, xcp22, yl_m1, yl_0, yl_1, yl_2, yl_3, yl_4, yl_5, yl_6, yl_7, yl_8, yl_9, yl_10, yl_11, yl_12, yl_15, yl_16, yl_20, yl_60, yl_64, yl_90, yl_97, yl_99, yl_100, yl_120, yl_239, yl_240] at *; first | omega | contradiction | (obtain ⟨qa, qb⟩ := q9; contradiction)))))))), h9.2⟩)
          obtain ⟨⟨rfl, hq69⟩, eG69⟩ := q69
          have eG69 := eG69.symm
          subst eG69
          refine y_blk 1 tq_X8_guard (z := (73, [(0, .ref (ad 1)), (1, .int cell), (2, .int from_), (3, .int to), (4, .int stay)], [.ref (ad 1)])) rfl ?_
          refine y_get hS tq_X8_guard (v := .ref (ad 6)) rfl fg_X8_33_X8 (hX.1 1 _ rfl) rfl ?_
          refine y_blk 4 tq_X8_guard (z := (81, [(0, .ref (ad 1)), (1, .int cell), (2, .int from_), (3, .int to), (4, .int stay)], [.int stay, .int to, .int from_, .int cell, .ref (ad 6)])) rfl ?_
          refine y_callV hS tq_X8_guard rfl (As := [.int cell, .int from_, .int to, .int stay]) rfl cv_X8_178 (hX.1 6 _ rfl) (m_X2_enlist hS hX cell from_ to stay) rfl (by decide) (Nat.le_of_ble_eq_true rfl) (fun r81 Gc81 q81 => ?_) (fun E9 G9 h9 => h9.elim)
          obtain ⟨rfl, hXc81, hFc81⟩ := q81
          refine y_blk 0 tq_X8_guard (z := (84, [(0, .ref (ad 1)), (1, .int cell), (2, .int from_), (3, .int to), (4, .int stay)], [.int ((xenl σ cell from_ to stay).1 5 - 1)])) rfl ?_
          exact y_iret tq_X8_guard rfl rfl (⟨⟨rfl, (by first | exact absurd rfl hq2 | exact absurd rfl hq11 | exact absurd rfl hq19 | exact absurd rfl hq21 | exact absurd rfl hq24 | exact absurd rfl hq30 | exact absurd rfl hq35 | exact absurd rfl hq39 | exact absurd rfl hq40 | exact absurd rfl hq57 | exact absurd rfl hq45 | exact absurd rfl hq38 | exact absurd rfl hq34 | exact absurd rfl hq33 | exact absurd rfl hq29 | ((repeat' apply And.intro) <;> first | assumption | (simp only [yif0, Classical.not_not, ylt, yle, xcp0, xcp3, xcp5, xcp10, xcp12, xcp16, xcp22, yl_m1, yl_0, yl_1, yl_2, yl_3, yl_4, yl_5, yl_6, yl_7, yl_8, yl_9, yl_10, yl_11, yl_12, yl_15, yl_16, yl_20, yl_60, yl_64, yl_90, yl_97, yl_99, yl_100, yl_120, yl_239, yl_240] at *; first | omega | assumption | contradiction)))⟩, _, hXc81, (keepX.rfl'.trans hFc81), ((xkn.trans xkn.rfl' xenl.kn)).w, rfl⟩)
    · skip
      refine y_blk 2 tq_X8_guard (z := (21, [(0, .ref (ad 1)), (1, .int cell), (2, .int from_), (3, .int to), (4, .int stay)], [.int to, .int from_])) rfl ?_
      refine y_icmp_gt tq_X8_guard 39 rfl rfl (fun c21 => ?_) (fun c21 => ?_)
      · skip
        refine y_blk 1 tq_X8_guard (z := (40, [(0, .ref (ad 1)), (1, .int cell), (2, .int from_), (3, .int to), (4, .int stay)], [.int 0])) rfl ?_
        refine y_callS hS tq_X8_guard rfl (As := [.int 0]) rfl cs_X8_117 (m_X8_needLet hS  0) rfl (by decide) (Nat.le_of_ble_eq_true rfl) (fun r40 Gc40 q40 => ?_) (fun E9 G9 h9 => ⟨(Or.inr (Or.inl (And.intro h9.1.1 (by first | exact h9.1.2 | exact absurd h9.1.2 (by decide) | exact absurd rfl hq2 | exact absurd rfl hq11 | exact absurd rfl hq19 | exact absurd rfl hq21 | exact absurd rfl hq24 | exact absurd rfl hq30 | exact absurd rfl hq35 | exact absurd rfl hq39 | exact absurd rfl hq40 | exact absurd rfl hq57 | exact absurd rfl hq45 | exact absurd rfl hq38 | exact absurd rfl hq34 | exact absurd rfl hq33 | exact absurd rfl hq29 | (have z9 := h9.1.2; clear h9; (repeat' apply And.intro) <;> first | (first | assumption | (simp only [yif0, Classical.not_not, ylt, yle, xcp0, xcp3, xcp5, xcp10, xcp12, xcp16, xcp22, yl_m1, yl_0, yl_1, yl_2, yl_3, yl_4, yl_5, yl_6, yl_7, yl_8, yl_9, yl_10, yl_11, yl_12, yl_15, yl_16, yl_20, yl_60, yl_64, yl_90, yl_97, yl_99, yl_100, yl_120, yl_239, yl_240] at *; first | omega | assumption | contradiction)) | (intro q9; (simp only [yif0, Classical.not_not, ylt, yle, xcp0, xcp3, xcp5, xcp10, xcp12, xcp16, xcp22, yl_m1, yl_0, yl_1, yl_2, yl_3, yl_4, yl_5, yl_6, yl_7, yl_8, yl_9, yl_10, yl_11, yl_12, yl_15, yl_16, yl_20, yl_60, yl_64, yl_90, yl_97, yl_99, yl_100, yl_120, yl_239, yl_240] at *; first | omega | contradiction | (obtain ⟨qa, qb⟩ := q9; contradiction)))))))), h9.2⟩)
        obtain ⟨⟨rfl, hq40⟩, eG40⟩ := q40
        have eG40 := eG40.symm
        subst eG40
        refine y_blk 1 tq_X8_guard (z := (44, [(0, .ref (ad 1)), (1, .int cell), (2, .int from_), (3, .int to), (4, .int stay)], [.ref (ad 1)])) rfl ?_
        refine y_get hS tq_X8_guard (v := .ref (ad 6)) rfl fg_X8_33_X8 (hX.1 1 _ rfl) rfl ?_
        refine y_blk 0 tq_X8_guard (z := (47, [(0, .ref (ad 1)), (1, .int cell), (2, .int from_), (3, .int to), (4, .int stay)], [.ref (ad 6)])) rfl ?_
        refine y_callV hS tq_X8_guard rfl (As := []) rfl cv_X8_177 (hX.1 6 _ rfl) (m_X2_isFull hS hX ) rfl (by decide) (Nat.le_of_ble_eq_true rfl) (fun r47 Gc47 q47 => ?_) (fun E9 G9 h9 => h9.elim)
        obtain ⟨rfl, eG47⟩ := q47
        have eG47 := eG47.symm
        subst eG47
        refine y_blk 0 tq_X8_guard (z := (50, [(0, .ref (ad 1)), (1, .int cell), (2, .int from_), (3, .int to), (4, .int stay)], [.int (if (xcap 5 : Int) ≤ (σ.1 5).toInt then 1 else 0)])) rfl ?_
        refine y_if_ne tq_X8_guard 68 rfl rfl (fun c50 => ?_) (fun c50 => ?_)
        · skip
          refine y_blk 1 tq_X8_guard (z := (69, [(0, .ref (ad 1)), (1, .int cell), (2, .int from_), (3, .int to), (4, .int stay)], [.int 0])) rfl ?_
          refine y_callS hS tq_X8_guard rfl (As := [.int 0]) rfl cs_X8_128 (m_X8_needPossible hS  0) rfl (by decide) (Nat.le_of_ble_eq_true rfl) (fun r69 Gc69 q69 => ?_) (fun E9 G9 h9 => ⟨(Or.inr (Or.inr (And.intro h9.1.1 (by first | exact h9.1.2 | exact absurd h9.1.2 (by decide) | exact absurd rfl hq2 | exact absurd rfl hq11 | exact absurd rfl hq19 | exact absurd rfl hq21 | exact absurd rfl hq24 | exact absurd rfl hq30 | exact absurd rfl hq35 | exact absurd rfl hq39 | exact absurd rfl hq40 | exact absurd rfl hq57 | exact absurd rfl hq45 | exact absurd rfl hq38 | exact absurd rfl hq34 | exact absurd rfl hq33 | exact absurd rfl hq29 | (have z9 := h9.1.2; clear h9; (repeat' apply And.intro) <;> first | (first | assumption | (simp only [yif0, Classical.not_not, ylt, yle, xcp0, xcp3, xcp5, xcp10, xcp12, xcp16, xcp22, yl_m1, yl_0, yl_1, yl_2, yl_3, yl_4, yl_5, yl_6, yl_7, yl_8, yl_9, yl_10, yl_11, yl_12, yl_15, yl_16, yl_20, yl_60, yl_64, yl_90, yl_97, yl_99, yl_100, yl_120, yl_239, yl_240] at *; first | omega | assumption | contradiction)) | (intro q9; (simp only [yif0, Classical.not_not, ylt, yle, xcp0, xcp3, xcp5, xcp10, xcp12, xcp16, xcp22, yl_m1, yl_0, yl_1, yl_2, yl_3, yl_4, yl_5, yl_6, yl_7, yl_8, yl_9, yl_10, yl_11, yl_12, yl_15, yl_16, yl_20, yl_60, yl_64, yl_90, yl_97, yl_99, yl_100, yl_120, yl_239, yl_240] at *; first | omega | contradiction | (obtain ⟨qa, qb⟩ := q9; contradiction)))))))), h9.2⟩)
          obtain ⟨⟨rfl, hq69⟩, eG69⟩ := q69
          have eG69 := eG69.symm
          subst eG69
          refine y_blk 1 tq_X8_guard (z := (73, [(0, .ref (ad 1)), (1, .int cell), (2, .int from_), (3, .int to), (4, .int stay)], [.ref (ad 1)])) rfl ?_
          refine y_get hS tq_X8_guard (v := .ref (ad 6)) rfl fg_X8_33_X8 (hX.1 1 _ rfl) rfl ?_
          refine y_blk 4 tq_X8_guard (z := (81, [(0, .ref (ad 1)), (1, .int cell), (2, .int from_), (3, .int to), (4, .int stay)], [.int stay, .int to, .int from_, .int cell, .ref (ad 6)])) rfl ?_
          refine y_callV hS tq_X8_guard rfl (As := [.int cell, .int from_, .int to, .int stay]) rfl cv_X8_178 (hX.1 6 _ rfl) (m_X2_enlist hS hX cell from_ to stay) rfl (by decide) (Nat.le_of_ble_eq_true rfl) (fun r81 Gc81 q81 => ?_) (fun E9 G9 h9 => h9.elim)
          obtain ⟨rfl, hXc81, hFc81⟩ := q81
          refine y_blk 0 tq_X8_guard (z := (84, [(0, .ref (ad 1)), (1, .int cell), (2, .int from_), (3, .int to), (4, .int stay)], [.int ((xenl σ cell from_ to stay).1 5 - 1)])) rfl ?_
          exact y_iret tq_X8_guard rfl rfl (⟨⟨rfl, (by first | exact absurd rfl hq2 | exact absurd rfl hq11 | exact absurd rfl hq19 | exact absurd rfl hq21 | exact absurd rfl hq24 | exact absurd rfl hq30 | exact absurd rfl hq35 | exact absurd rfl hq39 | exact absurd rfl hq40 | exact absurd rfl hq57 | exact absurd rfl hq45 | exact absurd rfl hq38 | exact absurd rfl hq34 | exact absurd rfl hq33 | exact absurd rfl hq29 | ((repeat' apply And.intro) <;> first | assumption | (simp only [yif0, Classical.not_not, ylt, yle, xcp0, xcp3, xcp5, xcp10, xcp12, xcp16, xcp22, yl_m1, yl_0, yl_1, yl_2, yl_3, yl_4, yl_5, yl_6, yl_7, yl_8, yl_9, yl_10, yl_11, yl_12, yl_15, yl_16, yl_20, yl_60, yl_64, yl_90, yl_97, yl_99, yl_100, yl_120, yl_239, yl_240] at *; first | omega | assumption | contradiction)))⟩, _, hXc81, (keepX.rfl'.trans hFc81), ((xkn.trans xkn.rfl' xenl.kn)).w, rfl⟩)
        · skip
          refine y_blk 1 tq_X8_guard (z := (54, [(0, .ref (ad 1)), (1, .int cell), (2, .int from_), (3, .int to), (4, .int stay)], [.ref (ad 1)])) rfl ?_
          refine y_get hS tq_X8_guard (v := .ref (ad 2)) rfl fg_X8_10_X8 (hX.1 1 _ rfl) rfl ?_
          refine y_blk 1 tq_X8_guard (z := (58, [(0, .ref (ad 1)), (1, .int cell), (2, .int from_), (3, .int to), (4, .int stay)], [.int cell, .ref (ad 2)])) rfl ?_
          refine y_callV hS tq_X8_guard rfl (As := [.int cell]) rfl cv_X8_154 (hX.1 2 _ rfl) (m_X1_isWall hS hX cell) rfl (by decide) (Nat.le_of_ble_eq_true rfl) (fun r58 Gc58 q58 => ?_) (fun E9 G9 h9 => h9.elim)
          obtain ⟨rfl, eG58⟩ := q58
          have eG58 := eG58.symm
          subst eG58
          refine y_blk 0 tq_X8_guard (z := (61, [(0, .ref (ad 1)), (1, .int cell), (2, .int from_), (3, .int to), (4, .int stay)], [.int (if xis (σ.2.2.2.1 2) cell then 1 else 0)])) rfl ?_
          refine y_if_ne tq_X8_guard 68 rfl rfl (fun c61 => ?_) (fun c61 => ?_)
          · skip
            refine y_blk 1 tq_X8_guard (z := (69, [(0, .ref (ad 1)), (1, .int cell), (2, .int from_), (3, .int to), (4, .int stay)], [.int 0])) rfl ?_
            refine y_callS hS tq_X8_guard rfl (As := [.int 0]) rfl cs_X8_128 (m_X8_needPossible hS  0) rfl (by decide) (Nat.le_of_ble_eq_true rfl) (fun r69 Gc69 q69 => ?_) (fun E9 G9 h9 => ⟨(Or.inr (Or.inr (And.intro h9.1.1 (by first | exact h9.1.2 | exact absurd h9.1.2 (by decide) | exact absurd rfl hq2 | exact absurd rfl hq11 | exact absurd rfl hq19 | exact absurd rfl hq21 | exact absurd rfl hq24 | exact absurd rfl hq30 | exact absurd rfl hq35 | exact absurd rfl hq39 | exact absurd rfl hq40 | exact absurd rfl hq57 | exact absurd rfl hq45 | exact absurd rfl hq38 | exact absurd rfl hq34 | exact absurd rfl hq33 | exact absurd rfl hq29 | (have z9 := h9.1.2; clear h9; (repeat' apply And.intro) <;> first | (first | assumption | (simp only [yif0, Classical.not_not, ylt, yle, xcp0, xcp3, xcp5, xcp10, xcp12, xcp16, xcp22, yl_m1, yl_0, yl_1, yl_2, yl_3, yl_4, yl_5, yl_6, yl_7, yl_8, yl_9, yl_10, yl_11, yl_12, yl_15, yl_16, yl_20, yl_60, yl_64, yl_90, yl_97, yl_99, yl_100, yl_120, yl_239, yl_240] at *; first | omega | assumption | contradiction)) | (intro q9; (simp only [yif0, Classical.not_not, ylt, yle, xcp0, xcp3, xcp5, xcp10, xcp12, xcp16, xcp22, yl_m1, yl_0, yl_1, yl_2, yl_3, yl_4, yl_5, yl_6, yl_7, yl_8, yl_9, yl_10, yl_11, yl_12, yl_15, yl_16, yl_20, yl_60, yl_64, yl_90, yl_97, yl_99, yl_100, yl_120, yl_239, yl_240] at *; first | omega | contradiction | (obtain ⟨qa, qb⟩ := q9; contradiction)))))))), h9.2⟩)
            obtain ⟨⟨rfl, hq69⟩, eG69⟩ := q69
            have eG69 := eG69.symm
            subst eG69
            refine y_blk 1 tq_X8_guard (z := (73, [(0, .ref (ad 1)), (1, .int cell), (2, .int from_), (3, .int to), (4, .int stay)], [.ref (ad 1)])) rfl ?_
            refine y_get hS tq_X8_guard (v := .ref (ad 6)) rfl fg_X8_33_X8 (hX.1 1 _ rfl) rfl ?_
            refine y_blk 4 tq_X8_guard (z := (81, [(0, .ref (ad 1)), (1, .int cell), (2, .int from_), (3, .int to), (4, .int stay)], [.int stay, .int to, .int from_, .int cell, .ref (ad 6)])) rfl ?_
            refine y_callV hS tq_X8_guard rfl (As := [.int cell, .int from_, .int to, .int stay]) rfl cv_X8_178 (hX.1 6 _ rfl) (m_X2_enlist hS hX cell from_ to stay) rfl (by decide) (Nat.le_of_ble_eq_true rfl) (fun r81 Gc81 q81 => ?_) (fun E9 G9 h9 => h9.elim)
            obtain ⟨rfl, hXc81, hFc81⟩ := q81
            refine y_blk 0 tq_X8_guard (z := (84, [(0, .ref (ad 1)), (1, .int cell), (2, .int from_), (3, .int to), (4, .int stay)], [.int ((xenl σ cell from_ to stay).1 5 - 1)])) rfl ?_
            exact y_iret tq_X8_guard rfl rfl (⟨⟨rfl, (by first | exact absurd rfl hq2 | exact absurd rfl hq11 | exact absurd rfl hq19 | exact absurd rfl hq21 | exact absurd rfl hq24 | exact absurd rfl hq30 | exact absurd rfl hq35 | exact absurd rfl hq39 | exact absurd rfl hq40 | exact absurd rfl hq57 | exact absurd rfl hq45 | exact absurd rfl hq38 | exact absurd rfl hq34 | exact absurd rfl hq33 | exact absurd rfl hq29 | ((repeat' apply And.intro) <;> first | assumption | (simp only [yif0, Classical.not_not, ylt, yle, xcp0, xcp3, xcp5, xcp10, xcp12, xcp16, xcp22, yl_m1, yl_0, yl_1, yl_2, yl_3, yl_4, yl_5, yl_6, yl_7, yl_8, yl_9, yl_10, yl_11, yl_12, yl_15, yl_16, yl_20, yl_60, yl_64, yl_90, yl_97, yl_99, yl_100, yl_120, yl_239, yl_240] at *; first | omega | assumption | contradiction)))⟩, _, hXc81, (keepX.rfl'.trans hFc81), ((xkn.trans xkn.rfl' xenl.kn)).w, rfl⟩)
          · skip
            refine y_blk 2 tq_X8_guard (z := (69, [(0, .ref (ad 1)), (1, .int cell), (2, .int from_), (3, .int to), (4, .int stay)], [.int 1])) rfl ?_
            refine y_callS hS tq_X8_guard rfl (As := [.int 1]) rfl cs_X8_128 (m_X8_needPossible hS  1) rfl (by decide) (Nat.le_of_ble_eq_true rfl) (fun r69 Gc69 q69 => ?_) (fun E9 G9 h9 => ⟨(Or.inr (Or.inr (And.intro h9.1.1 (by first | exact h9.1.2 | exact absurd h9.1.2 (by decide) | exact absurd rfl hq2 | exact absurd rfl hq11 | exact absurd rfl hq19 | exact absurd rfl hq21 | exact absurd rfl hq24 | exact absurd rfl hq30 | exact absurd rfl hq35 | exact absurd rfl hq39 | exact absurd rfl hq40 | exact absurd rfl hq57 | exact absurd rfl hq45 | exact absurd rfl hq38 | exact absurd rfl hq34 | exact absurd rfl hq33 | exact absurd rfl hq29 | (have z9 := h9.1.2; clear h9; (repeat' apply And.intro) <;> first | (first | assumption | (simp only [yif0, Classical.not_not, ylt, yle, xcp0, xcp3, xcp5, xcp10, xcp12, xcp16, xcp22, yl_m1, yl_0, yl_1, yl_2, yl_3, yl_4, yl_5, yl_6, yl_7, yl_8, yl_9, yl_10, yl_11, yl_12, yl_15, yl_16, yl_20, yl_60, yl_64, yl_90, yl_97, yl_99, yl_100, yl_120, yl_239, yl_240] at *; first | omega | assumption | contradiction)) | (intro q9; (simp only [yif0, Classical.not_not, ylt, yle, xcp0, xcp3, xcp5, xcp10, xcp12, xcp16, xcp22, yl_m1, yl_0, yl_1, yl_2, yl_3, yl_4, yl_5, yl_6, yl_7, yl_8, yl_9, yl_10, yl_11, yl_12, yl_15, yl_16, yl_20, yl_60, yl_64, yl_90, yl_97, yl_99, yl_100, yl_120, yl_239, yl_240] at *; first | omega | contradiction | (obtain ⟨qa, qb⟩ := q9; contradiction)))))))), h9.2⟩)
            obtain ⟨⟨rfl, hq69⟩, eG69⟩ := q69
            have eG69 := eG69.symm
            subst eG69
            refine y_blk 1 tq_X8_guard (z := (73, [(0, .ref (ad 1)), (1, .int cell), (2, .int from_), (3, .int to), (4, .int stay)], [.ref (ad 1)])) rfl ?_
            refine y_get hS tq_X8_guard (v := .ref (ad 6)) rfl fg_X8_33_X8 (hX.1 1 _ rfl) rfl ?_
            refine y_blk 4 tq_X8_guard (z := (81, [(0, .ref (ad 1)), (1, .int cell), (2, .int from_), (3, .int to), (4, .int stay)], [.int stay, .int to, .int from_, .int cell, .ref (ad 6)])) rfl ?_
            refine y_callV hS tq_X8_guard rfl (As := [.int cell, .int from_, .int to, .int stay]) rfl cv_X8_178 (hX.1 6 _ rfl) (m_X2_enlist hS hX cell from_ to stay) rfl (by decide) (Nat.le_of_ble_eq_true rfl) (fun r81 Gc81 q81 => ?_) (fun E9 G9 h9 => h9.elim)
            obtain ⟨rfl, hXc81, hFc81⟩ := q81
            refine y_blk 0 tq_X8_guard (z := (84, [(0, .ref (ad 1)), (1, .int cell), (2, .int from_), (3, .int to), (4, .int stay)], [.int ((xenl σ cell from_ to stay).1 5 - 1)])) rfl ?_
            exact y_iret tq_X8_guard rfl rfl (⟨⟨rfl, (by first | exact absurd rfl hq2 | exact absurd rfl hq11 | exact absurd rfl hq19 | exact absurd rfl hq21 | exact absurd rfl hq24 | exact absurd rfl hq30 | exact absurd rfl hq35 | exact absurd rfl hq39 | exact absurd rfl hq40 | exact absurd rfl hq57 | exact absurd rfl hq45 | exact absurd rfl hq38 | exact absurd rfl hq34 | exact absurd rfl hq33 | exact absurd rfl hq29 | ((repeat' apply And.intro) <;> first | assumption | (simp only [yif0, Classical.not_not, ylt, yle, xcp0, xcp3, xcp5, xcp10, xcp12, xcp16, xcp22, yl_m1, yl_0, yl_1, yl_2, yl_3, yl_4, yl_5, yl_6, yl_7, yl_8, yl_9, yl_10, yl_11, yl_12, yl_15, yl_16, yl_20, yl_60, yl_64, yl_90, yl_97, yl_99, yl_100, yl_120, yl_239, yl_240] at *; first | omega | assumption | contradiction)))⟩, _, hXc81, (keepX.rfl'.trans hFc81), ((xkn.trans xkn.rfl' xenl.kn)).w, rfl⟩)
      · skip
        refine y_blk 3 tq_X8_guard (z := (29, [(0, .ref (ad 1)), (1, .int cell), (2, .int from_), (3, .int to), (4, .int stay)], [.int 20, .int 1, .int stay])) rfl ?_
        refine y_callS hS tq_X8_guard rfl (As := [.int stay, .int 1, .int 20]) rfl cs_X8_76 (m_X8_isIn hS  stay 1 20) rfl (by decide) (Nat.le_of_ble_eq_true rfl) (fun r29 Gc29 q29 => ?_) (fun E9 G9 h9 => h9.elim)
        obtain ⟨rfl, eG29⟩ := q29
        have eG29 := eG29.symm
        subst eG29
        refine y_blk 0 tq_X8_guard (z := (32, [(0, .ref (ad 1)), (1, .int cell), (2, .int from_), (3, .int to), (4, .int stay)], [.int (if 1 ≤ stay ∧ stay ≤ 20 then 1 else 0)])) rfl ?_
        refine y_if_eq tq_X8_guard 39 rfl rfl (fun c32 => ?_) (fun c32 => ?_)
        · skip
          refine y_blk 1 tq_X8_guard (z := (40, [(0, .ref (ad 1)), (1, .int cell), (2, .int from_), (3, .int to), (4, .int stay)], [.int 0])) rfl ?_
          refine y_callS hS tq_X8_guard rfl (As := [.int 0]) rfl cs_X8_117 (m_X8_needLet hS  0) rfl (by decide) (Nat.le_of_ble_eq_true rfl) (fun r40 Gc40 q40 => ?_) (fun E9 G9 h9 => ⟨(Or.inr (Or.inl (And.intro h9.1.1 (by first | exact h9.1.2 | exact absurd h9.1.2 (by decide) | exact absurd rfl hq2 | exact absurd rfl hq11 | exact absurd rfl hq19 | exact absurd rfl hq21 | exact absurd rfl hq24 | exact absurd rfl hq30 | exact absurd rfl hq35 | exact absurd rfl hq39 | exact absurd rfl hq40 | exact absurd rfl hq57 | exact absurd rfl hq45 | exact absurd rfl hq38 | exact absurd rfl hq34 | exact absurd rfl hq33 | exact absurd rfl hq29 | (have z9 := h9.1.2; clear h9; (repeat' apply And.intro) <;> first | (first | assumption | (simp only [yif0, Classical.not_not, ylt, yle, xcp0, xcp3, xcp5, xcp10, xcp12, xcp16, xcp22, yl_m1, yl_0, yl_1, yl_2, yl_3, yl_4, yl_5, yl_6, yl_7, yl_8, yl_9, yl_10, yl_11, yl_12, yl_15, yl_16, yl_20, yl_60, yl_64, yl_90, yl_97, yl_99, yl_100, yl_120, yl_239, yl_240] at *; first | omega | assumption | contradiction)) | (intro q9; (simp only [yif0, Classical.not_not, ylt, yle, xcp0, xcp3, xcp5, xcp10, xcp12, xcp16, xcp22, yl_m1, yl_0, yl_1, yl_2, yl_3, yl_4, yl_5, yl_6, yl_7, yl_8, yl_9, yl_10, yl_11, yl_12, yl_15, yl_16, yl_20, yl_60, yl_64, yl_90, yl_97, yl_99, yl_100, yl_120, yl_239, yl_240] at *; first | omega | contradiction | (obtain ⟨qa, qb⟩ := q9; contradiction)))))))), h9.2⟩)
          obtain ⟨⟨rfl, hq40⟩, eG40⟩ := q40
          have eG40 := eG40.symm
          subst eG40
          refine y_blk 1 tq_X8_guard (z := (44, [(0, .ref (ad 1)), (1, .int cell), (2, .int from_), (3, .int to), (4, .int stay)], [.ref (ad 1)])) rfl ?_
          refine y_get hS tq_X8_guard (v := .ref (ad 6)) rfl fg_X8_33_X8 (hX.1 1 _ rfl) rfl ?_
          refine y_blk 0 tq_X8_guard (z := (47, [(0, .ref (ad 1)), (1, .int cell), (2, .int from_), (3, .int to), (4, .int stay)], [.ref (ad 6)])) rfl ?_
          refine y_callV hS tq_X8_guard rfl (As := []) rfl cv_X8_177 (hX.1 6 _ rfl) (m_X2_isFull hS hX ) rfl (by decide) (Nat.le_of_ble_eq_true rfl) (fun r47 Gc47 q47 => ?_) (fun E9 G9 h9 => h9.elim)
          obtain ⟨rfl, eG47⟩ := q47
          have eG47 := eG47.symm
          subst eG47
          refine y_blk 0 tq_X8_guard (z := (50, [(0, .ref (ad 1)), (1, .int cell), (2, .int from_), (3, .int to), (4, .int stay)], [.int (if (xcap 5 : Int) ≤ (σ.1 5).toInt then 1 else 0)])) rfl ?_
          refine y_if_ne tq_X8_guard 68 rfl rfl (fun c50 => ?_) (fun c50 => ?_)
          · skip
            refine y_blk 1 tq_X8_guard (z := (69, [(0, .ref (ad 1)), (1, .int cell), (2, .int from_), (3, .int to), (4, .int stay)], [.int 0])) rfl ?_
            refine y_callS hS tq_X8_guard rfl (As := [.int 0]) rfl cs_X8_128 (m_X8_needPossible hS  0) rfl (by decide) (Nat.le_of_ble_eq_true rfl) (fun r69 Gc69 q69 => ?_) (fun E9 G9 h9 => ⟨(Or.inr (Or.inr (And.intro h9.1.1 (by first | exact h9.1.2 | exact absurd h9.1.2 (by decide) | exact absurd rfl hq2 | exact absurd rfl hq11 | exact absurd rfl hq19 | exact absurd rfl hq21 | exact absurd rfl hq24 | exact absurd rfl hq30 | exact absurd rfl hq35 | exact absurd rfl hq39 | exact absurd rfl hq40 | exact absurd rfl hq57 | exact absurd rfl hq45 | exact absurd rfl hq38 | exact absurd rfl hq34 | exact absurd rfl hq33 | exact absurd rfl hq29 | (have z9 := h9.1.2; clear h9; (repeat' apply And.intro) <;> first | (first | assumption | (simp only [yif0, Classical.not_not, ylt, yle, xcp0, xcp3, xcp5, xcp10, xcp12, xcp16, xcp22, yl_m1, yl_0, yl_1, yl_2, yl_3, yl_4, yl_5, yl_6, yl_7, yl_8, yl_9, yl_10, yl_11, yl_12, yl_15, yl_16, yl_20, yl_60, yl_64, yl_90, yl_97, yl_99, yl_100, yl_120, yl_239, yl_240] at *; first | omega | assumption | contradiction)) | (intro q9; (simp only [yif0, Classical.not_not, ylt, yle, xcp0, xcp3, xcp5, xcp10, xcp12, xcp16, xcp22, yl_m1, yl_0, yl_1, yl_2, yl_3, yl_4, yl_5, yl_6, yl_7, yl_8, yl_9, yl_10, yl_11, yl_12, yl_15, yl_16, yl_20, yl_60, yl_64, yl_90, yl_97, yl_99, yl_100, yl_120, yl_239, yl_240] at *; first | omega | contradiction | (obtain ⟨qa, qb⟩ := q9; contradiction)))))))), h9.2⟩)
            obtain ⟨⟨rfl, hq69⟩, eG69⟩ := q69
            have eG69 := eG69.symm
            subst eG69
            refine y_blk 1 tq_X8_guard (z := (73, [(0, .ref (ad 1)), (1, .int cell), (2, .int from_), (3, .int to), (4, .int stay)], [.ref (ad 1)])) rfl ?_
            refine y_get hS tq_X8_guard (v := .ref (ad 6)) rfl fg_X8_33_X8 (hX.1 1 _ rfl) rfl ?_
            refine y_blk 4 tq_X8_guard (z := (81, [(0, .ref (ad 1)), (1, .int cell), (2, .int from_), (3, .int to), (4, .int stay)], [.int stay, .int to, .int from_, .int cell, .ref (ad 6)])) rfl ?_
            refine y_callV hS tq_X8_guard rfl (As := [.int cell, .int from_, .int to, .int stay]) rfl cv_X8_178 (hX.1 6 _ rfl) (m_X2_enlist hS hX cell from_ to stay) rfl (by decide) (Nat.le_of_ble_eq_true rfl) (fun r81 Gc81 q81 => ?_) (fun E9 G9 h9 => h9.elim)
            obtain ⟨rfl, hXc81, hFc81⟩ := q81
            refine y_blk 0 tq_X8_guard (z := (84, [(0, .ref (ad 1)), (1, .int cell), (2, .int from_), (3, .int to), (4, .int stay)], [.int ((xenl σ cell from_ to stay).1 5 - 1)])) rfl ?_
            exact y_iret tq_X8_guard rfl rfl (⟨⟨rfl, (by first | exact absurd rfl hq2 | exact absurd rfl hq11 | exact absurd rfl hq19 | exact absurd rfl hq21 | exact absurd rfl hq24 | exact absurd rfl hq30 | exact absurd rfl hq35 | exact absurd rfl hq39 | exact absurd rfl hq40 | exact absurd rfl hq57 | exact absurd rfl hq45 | exact absurd rfl hq38 | exact absurd rfl hq34 | exact absurd rfl hq33 | exact absurd rfl hq29 | ((repeat' apply And.intro) <;> first | assumption | (simp only [yif0, Classical.not_not, ylt, yle, xcp0, xcp3, xcp5, xcp10, xcp12, xcp16, xcp22, yl_m1, yl_0, yl_1, yl_2, yl_3, yl_4, yl_5, yl_6, yl_7, yl_8, yl_9, yl_10, yl_11, yl_12, yl_15, yl_16, yl_20, yl_60, yl_64, yl_90, yl_97, yl_99, yl_100, yl_120, yl_239, yl_240] at *; first | omega | assumption | contradiction)))⟩, _, hXc81, (keepX.rfl'.trans hFc81), ((xkn.trans xkn.rfl' xenl.kn)).w, rfl⟩)
          · skip
            refine y_blk 1 tq_X8_guard (z := (54, [(0, .ref (ad 1)), (1, .int cell), (2, .int from_), (3, .int to), (4, .int stay)], [.ref (ad 1)])) rfl ?_
            refine y_get hS tq_X8_guard (v := .ref (ad 2)) rfl fg_X8_10_X8 (hX.1 1 _ rfl) rfl ?_
            refine y_blk 1 tq_X8_guard (z := (58, [(0, .ref (ad 1)), (1, .int cell), (2, .int from_), (3, .int to), (4, .int stay)], [.int cell, .ref (ad 2)])) rfl ?_
            refine y_callV hS tq_X8_guard rfl (As := [.int cell]) rfl cv_X8_154 (hX.1 2 _ rfl) (m_X1_isWall hS hX cell) rfl (by decide) (Nat.le_of_ble_eq_true rfl) (fun r58 Gc58 q58 => ?_) (fun E9 G9 h9 => h9.elim)
            obtain ⟨rfl, eG58⟩ := q58
            have eG58 := eG58.symm
            subst eG58
            refine y_blk 0 tq_X8_guard (z := (61, [(0, .ref (ad 1)), (1, .int cell), (2, .int from_), (3, .int to), (4, .int stay)], [.int (if xis (σ.2.2.2.1 2) cell then 1 else 0)])) rfl ?_
            refine y_if_ne tq_X8_guard 68 rfl rfl (fun c61 => ?_) (fun c61 => ?_)
            · skip
              refine y_blk 1 tq_X8_guard (z := (69, [(0, .ref (ad 1)), (1, .int cell), (2, .int from_), (3, .int to), (4, .int stay)], [.int 0])) rfl ?_
              refine y_callS hS tq_X8_guard rfl (As := [.int 0]) rfl cs_X8_128 (m_X8_needPossible hS  0) rfl (by decide) (Nat.le_of_ble_eq_true rfl) (fun r69 Gc69 q69 => ?_) (fun E9 G9 h9 => ⟨(Or.inr (Or.inr (And.intro h9.1.1 (by first | exact h9.1.2 | exact absurd h9.1.2 (by decide) | exact absurd rfl hq2 | exact absurd rfl hq11 | exact absurd rfl hq19 | exact absurd rfl hq21 | exact absurd rfl hq24 | exact absurd rfl hq30 | exact absurd rfl hq35 | exact absurd rfl hq39 | exact absurd rfl hq40 | exact absurd rfl hq57 | exact absurd rfl hq45 | exact absurd rfl hq38 | exact absurd rfl hq34 | exact absurd rfl hq33 | exact absurd rfl hq29 | (have z9 := h9.1.2; clear h9; (repeat' apply And.intro) <;> first | (first | assumption | (simp only [yif0, Classical.not_not, ylt, yle, xcp0, xcp3, xcp5, xcp10, xcp12, xcp16, xcp22, yl_m1, yl_0, yl_1, yl_2, yl_3, yl_4, yl_5, yl_6, yl_7, yl_8, yl_9, yl_10, yl_11, yl_12, yl_15, yl_16, yl_20, yl_60, yl_64, yl_90, yl_97, yl_99, yl_100, yl_120, yl_239, yl_240] at *; first | omega | assumption | contradiction)) | (intro q9; (simp only [yif0, Classical.not_not, ylt, yle, xcp0, xcp3, xcp5, xcp10, xcp12, xcp16, xcp22, yl_m1, yl_0, yl_1, yl_2, yl_3, yl_4, yl_5, yl_6, yl_7, yl_8, yl_9, yl_10, yl_11, yl_12, yl_15, yl_16, yl_20, yl_60, yl_64, yl_90, yl_97, yl_99, yl_100, yl_120, yl_239, yl_240] at *; first | omega | contradiction | (obtain ⟨qa, qb⟩ := q9; contradiction)))))))), h9.2⟩)
              obtain ⟨⟨rfl, hq69⟩, eG69⟩ := q69
              have eG69 := eG69.symm
              subst eG69
              refine y_blk 1 tq_X8_guard (z := (73, [(0, .ref (ad 1)), (1, .int cell), (2, .int from_), (3, .int to), (4, .int stay)], [.ref (ad 1)])) rfl ?_
              refine y_get hS tq_X8_guard (v := .ref (ad 6)) rfl fg_X8_33_X8 (hX.1 1 _ rfl) rfl ?_
              refine y_blk 4 tq_X8_guard (z := (81, [(0, .ref (ad 1)), (1, .int cell), (2, .int from_), (3, .int to), (4, .int stay)], [.int stay, .int to, .int from_, .int cell, .ref (ad 6)])) rfl ?_
              refine y_callV hS tq_X8_guard rfl (As := [.int cell, .int from_, .int to, .int stay]) rfl cv_X8_178 (hX.1 6 _ rfl) (m_X2_enlist hS hX cell from_ to stay) rfl (by decide) (Nat.le_of_ble_eq_true rfl) (fun r81 Gc81 q81 => ?_) (fun E9 G9 h9 => h9.elim)
              obtain ⟨rfl, hXc81, hFc81⟩ := q81
              refine y_blk 0 tq_X8_guard (z := (84, [(0, .ref (ad 1)), (1, .int cell), (2, .int from_), (3, .int to), (4, .int stay)], [.int ((xenl σ cell from_ to stay).1 5 - 1)])) rfl ?_
              exact y_iret tq_X8_guard rfl rfl (⟨⟨rfl, (by first | exact absurd rfl hq2 | exact absurd rfl hq11 | exact absurd rfl hq19 | exact absurd rfl hq21 | exact absurd rfl hq24 | exact absurd rfl hq30 | exact absurd rfl hq35 | exact absurd rfl hq39 | exact absurd rfl hq40 | exact absurd rfl hq57 | exact absurd rfl hq45 | exact absurd rfl hq38 | exact absurd rfl hq34 | exact absurd rfl hq33 | exact absurd rfl hq29 | ((repeat' apply And.intro) <;> first | assumption | (simp only [yif0, Classical.not_not, ylt, yle, xcp0, xcp3, xcp5, xcp10, xcp12, xcp16, xcp22, yl_m1, yl_0, yl_1, yl_2, yl_3, yl_4, yl_5, yl_6, yl_7, yl_8, yl_9, yl_10, yl_11, yl_12, yl_15, yl_16, yl_20, yl_60, yl_64, yl_90, yl_97, yl_99, yl_100, yl_120, yl_239, yl_240] at *; first | omega | assumption | contradiction)))⟩, _, hXc81, (keepX.rfl'.trans hFc81), ((xkn.trans xkn.rfl' xenl.kn)).w, rfl⟩)
            · skip
              refine y_blk 2 tq_X8_guard (z := (69, [(0, .ref (ad 1)), (1, .int cell), (2, .int from_), (3, .int to), (4, .int stay)], [.int 1])) rfl ?_
              refine y_callS hS tq_X8_guard rfl (As := [.int 1]) rfl cs_X8_128 (m_X8_needPossible hS  1) rfl (by decide) (Nat.le_of_ble_eq_true rfl) (fun r69 Gc69 q69 => ?_) (fun E9 G9 h9 => ⟨(Or.inr (Or.inr (And.intro h9.1.1 (by first | exact h9.1.2 | exact absurd h9.1.2 (by decide) | exact absurd rfl hq2 | exact absurd rfl hq11 | exact absurd rfl hq19 | exact absurd rfl hq21 | exact absurd rfl hq24 | exact absurd rfl hq30 | exact absurd rfl hq35 | exact absurd rfl hq39 | exact absurd rfl hq40 | exact absurd rfl hq57 | exact absurd rfl hq45 | exact absurd rfl hq38 | exact absurd rfl hq34 | exact absurd rfl hq33 | exact absurd rfl hq29 | (have z9 := h9.1.2; clear h9; (repeat' apply And.intro) <;> first | (first | assumption | (simp only [yif0, Classical.not_not, ylt, yle, xcp0, xcp3, xcp5, xcp10, xcp12, xcp16, xcp22, yl_m1, yl_0, yl_1, yl_2, yl_3, yl_4, yl_5, yl_6, yl_7, yl_8, yl_9, yl_10, yl_11, yl_12, yl_15, yl_16, yl_20, yl_60, yl_64, yl_90, yl_97, yl_99, yl_100, yl_120, yl_239, yl_240] at *; first | omega | assumption | contradiction)) | (intro q9; (simp only [yif0, Classical.not_not, ylt, yle, xcp0, xcp3, xcp5, xcp10, xcp12, xcp16, xcp22, yl_m1, yl_0, yl_1, yl_2, yl_3, yl_4, yl_5, yl_6, yl_7, yl_8, yl_9, yl_10, yl_11, yl_12, yl_15, yl_16, yl_20, yl_60, yl_64, yl_90, yl_97, yl_99, yl_100, yl_120, yl_239, yl_240] at *; first | omega | contradiction | (obtain ⟨qa, qb⟩ := q9; contradiction)))))))), h9.2⟩)
              obtain ⟨⟨rfl, hq69⟩, eG69⟩ := q69
              have eG69 := eG69.symm
              subst eG69
              refine y_blk 1 tq_X8_guard (z := (73, [(0, .ref (ad 1)), (1, .int cell), (2, .int from_), (3, .int to), (4, .int stay)], [.ref (ad 1)])) rfl ?_
              refine y_get hS tq_X8_guard (v := .ref (ad 6)) rfl fg_X8_33_X8 (hX.1 1 _ rfl) rfl ?_
              refine y_blk 4 tq_X8_guard (z := (81, [(0, .ref (ad 1)), (1, .int cell), (2, .int from_), (3, .int to), (4, .int stay)], [.int stay, .int to, .int from_, .int cell, .ref (ad 6)])) rfl ?_
              refine y_callV hS tq_X8_guard rfl (As := [.int cell, .int from_, .int to, .int stay]) rfl cv_X8_178 (hX.1 6 _ rfl) (m_X2_enlist hS hX cell from_ to stay) rfl (by decide) (Nat.le_of_ble_eq_true rfl) (fun r81 Gc81 q81 => ?_) (fun E9 G9 h9 => h9.elim)
              obtain ⟨rfl, hXc81, hFc81⟩ := q81
              refine y_blk 0 tq_X8_guard (z := (84, [(0, .ref (ad 1)), (1, .int cell), (2, .int from_), (3, .int to), (4, .int stay)], [.int ((xenl σ cell from_ to stay).1 5 - 1)])) rfl ?_
              exact y_iret tq_X8_guard rfl rfl (⟨⟨rfl, (by first | exact absurd rfl hq2 | exact absurd rfl hq11 | exact absurd rfl hq19 | exact absurd rfl hq21 | exact absurd rfl hq24 | exact absurd rfl hq30 | exact absurd rfl hq35 | exact absurd rfl hq39 | exact absurd rfl hq40 | exact absurd rfl hq57 | exact absurd rfl hq45 | exact absurd rfl hq38 | exact absurd rfl hq34 | exact absurd rfl hq33 | exact absurd rfl hq29 | ((repeat' apply And.intro) <;> first | assumption | (simp only [yif0, Classical.not_not, ylt, yle, xcp0, xcp3, xcp5, xcp10, xcp12, xcp16, xcp22, yl_m1, yl_0, yl_1, yl_2, yl_3, yl_4, yl_5, yl_6, yl_7, yl_8, yl_9, yl_10, yl_11, yl_12, yl_15, yl_16, yl_20, yl_60, yl_64, yl_90, yl_97, yl_99, yl_100, yl_120, yl_239, yl_240] at *; first | omega | assumption | contradiction)))⟩, _, hXc81, (keepX.rfl'.trans hFc81), ((xkn.trans xkn.rfl' xenl.kn)).w, rfl⟩)
        · skip
          refine y_blk 2 tq_X8_guard (z := (40, [(0, .ref (ad 1)), (1, .int cell), (2, .int from_), (3, .int to), (4, .int stay)], [.int 1])) rfl ?_
          refine y_callS hS tq_X8_guard rfl (As := [.int 1]) rfl cs_X8_117 (m_X8_needLet hS  1) rfl (by decide) (Nat.le_of_ble_eq_true rfl) (fun r40 Gc40 q40 => ?_) (fun E9 G9 h9 => ⟨(Or.inr (Or.inl (And.intro h9.1.1 (by first | exact h9.1.2 | exact absurd h9.1.2 (by decide) | exact absurd rfl hq2 | exact absurd rfl hq11 | exact absurd rfl hq19 | exact absurd rfl hq21 | exact absurd rfl hq24 | exact absurd rfl hq30 | exact absurd rfl hq35 | exact absurd rfl hq39 | exact absurd rfl hq40 | exact absurd rfl hq57 | exact absurd rfl hq45 | exact absurd rfl hq38 | exact absurd rfl hq34 | exact absurd rfl hq33 | exact absurd rfl hq29 | (have z9 := h9.1.2; clear h9; (repeat' apply And.intro) <;> first | (first | assumption | (simp only [yif0, Classical.not_not, ylt, yle, xcp0, xcp3, xcp5, xcp10, xcp12, xcp16, xcp22, yl_m1, yl_0, yl_1, yl_2, yl_3, yl_4, yl_5, yl_6, yl_7, yl_8, yl_9, yl_10, yl_11, yl_12, yl_15, yl_16, yl_20, yl_60, yl_64, yl_90, yl_97, yl_99, yl_100, yl_120, yl_239, yl_240] at *; first | omega | assumption | contradiction)) | (intro q9; (simp only [yif0, Classical.not_not, ylt, yle, xcp0, xcp3, xcp5, xcp10, xcp12, xcp16, xcp22, yl_m1, yl_0, yl_1, yl_2, yl_3, yl_4, yl_5, yl_6, yl_7, yl_8, yl_9, yl_10, yl_11, yl_12, yl_15, yl_16, yl_20, yl_60, yl_64, yl_90, yl_97, yl_99, yl_100, yl_120, yl_239, yl_240] at *; first | omega | contradiction | (obtain ⟨qa, qb⟩ := q9; contradiction)))))))), h9.2⟩)
          obtain ⟨⟨rfl, hq40⟩, eG40⟩ := q40
          have eG40 := eG40.symm
          subst eG40
          refine y_blk 1 tq_X8_guard (z := (44, [(0, .ref (ad 1)), (1, .int cell), (2, .int from_), (3, .int to), (4, .int stay)], [.ref (ad 1)])) rfl ?_
          refine y_get hS tq_X8_guard (v := .ref (ad 6)) rfl fg_X8_33_X8 (hX.1 1 _ rfl) rfl ?_
          refine y_blk 0 tq_X8_guard (z := (47, [(0, .ref (ad 1)), (1, .int cell), (2, .int from_), (3, .int to), (4, .int stay)], [.ref (ad 6)])) rfl ?_
          refine y_callV hS tq_X8_guard rfl (As := []) rfl cv_X8_177 (hX.1 6 _ rfl) (m_X2_isFull hS hX ) rfl (by decide) (Nat.le_of_ble_eq_true rfl) (fun r47 Gc47 q47 => ?_) (fun E9 G9 h9 => h9.elim)
          obtain ⟨rfl, eG47⟩ := q47
          have eG47 := eG47.symm
          subst eG47
          refine y_blk 0 tq_X8_guard (z := (50, [(0, .ref (ad 1)), (1, .int cell), (2, .int from_), (3, .int to), (4, .int stay)], [.int (if (xcap 5 : Int) ≤ (σ.1 5).toInt then 1 else 0)])) rfl ?_
          refine y_if_ne tq_X8_guard 68 rfl rfl (fun c50 => ?_) (fun c50 => ?_)
          · skip
            refine y_blk 1 tq_X8_guard (z := (69, [(0, .ref (ad 1)), (1, .int cell), (2, .int from_), (3, .int to), (4, .int stay)], [.int 0])) rfl ?_
            refine y_callS hS tq_X8_guard rfl (As := [.int 0]) rfl cs_X8_128 (m_X8_needPossible hS  0) rfl (by decide) (Nat.le_of_ble_eq_true rfl) (fun r69 Gc69 q69 => ?_) (fun E9 G9 h9 => ⟨(Or.inr (Or.inr (And.intro h9.1.1 (by first | exact h9.1.2 | exact absurd h9.1.2 (by decide) | exact absurd rfl hq2 | exact absurd rfl hq11 | exact absurd rfl hq19 | exact absurd rfl hq21 | exact absurd rfl hq24 | exact absurd rfl hq30 | exact absurd rfl hq35 | exact absurd rfl hq39 | exact absurd rfl hq40 | exact absurd rfl hq57 | exact absurd rfl hq45 | exact absurd rfl hq38 | exact absurd rfl hq34 | exact absurd rfl hq33 | exact absurd rfl hq29 | (have z9 := h9.1.2; clear h9; (repeat' apply And.intro) <;> first | (first | assumption | (simp only [yif0, Classical.not_not, ylt, yle, xcp0, xcp3, xcp5, xcp10, xcp12, xcp16, xcp22, yl_m1, yl_0, yl_1, yl_2, yl_3, yl_4, yl_5, yl_6, yl_7, yl_8, yl_9, yl_10, yl_11, yl_12, yl_15, yl_16, yl_20, yl_60, yl_64, yl_90, yl_97, yl_99, yl_100, yl_120, yl_239, yl_240] at *; first | omega | assumption | contradiction)) | (intro q9; (simp only [yif0, Classical.not_not, ylt, yle, xcp0, xcp3, xcp5, xcp10, xcp12, xcp16, xcp22, yl_m1, yl_0, yl_1, yl_2, yl_3, yl_4, yl_5, yl_6, yl_7, yl_8, yl_9, yl_10, yl_11, yl_12, yl_15, yl_16, yl_20, yl_60, yl_64, yl_90, yl_97, yl_99, yl_100, yl_120, yl_239, yl_240] at *; first | omega | contradiction | (obtain ⟨qa, qb⟩ := q9; contradiction)))))))), h9.2⟩)
            obtain ⟨⟨rfl, hq69⟩, eG69⟩ := q69
            have eG69 := eG69.symm
            subst eG69
            refine y_blk 1 tq_X8_guard (z := (73, [(0, .ref (ad 1)), (1, .int cell), (2, .int from_), (3, .int to), (4, .int stay)], [.ref (ad 1)])) rfl ?_
            refine y_get hS tq_X8_guard (v := .ref (ad 6)) rfl fg_X8_33_X8 (hX.1 1 _ rfl) rfl ?_
            refine y_blk 4 tq_X8_guard (z := (81, [(0, .ref (ad 1)), (1, .int cell), (2, .int from_), (3, .int to), (4, .int stay)], [.int stay, .int to, .int from_, .int cell, .ref (ad 6)])) rfl ?_
            refine y_callV hS tq_X8_guard rfl (As := [.int cell, .int from_, .int to, .int stay]) rfl cv_X8_178 (hX.1 6 _ rfl) (m_X2_enlist hS hX cell from_ to stay) rfl (by decide) (Nat.le_of_ble_eq_true rfl) (fun r81 Gc81 q81 => ?_) (fun E9 G9 h9 => h9.elim)
            obtain ⟨rfl, hXc81, hFc81⟩ := q81
            refine y_blk 0 tq_X8_guard (z := (84, [(0, .ref (ad 1)), (1, .int cell), (2, .int from_), (3, .int to), (4, .int stay)], [.int ((xenl σ cell from_ to stay).1 5 - 1)])) rfl ?_
            exact y_iret tq_X8_guard rfl rfl (⟨⟨rfl, (by first | exact absurd rfl hq2 | exact absurd rfl hq11 | exact absurd rfl hq19 | exact absurd rfl hq21 | exact absurd rfl hq24 | exact absurd rfl hq30 | exact absurd rfl hq35 | exact absurd rfl hq39 | exact absurd rfl hq40 | exact absurd rfl hq57 | exact absurd rfl hq45 | exact absurd rfl hq38 | exact absurd rfl hq34 | exact absurd rfl hq33 | exact absurd rfl hq29 | ((repeat' apply And.intro) <;> first | assumption | (simp only [yif0, Classical.not_not, ylt, yle, xcp0, xcp3, xcp5, xcp10, xcp12, xcp16, xcp22, yl_m1, yl_0, yl_1, yl_2, yl_3, yl_4, yl_5, yl_6, yl_7, yl_8, yl_9, yl_10, yl_11, yl_12, yl_15, yl_16, yl_20, yl_60, yl_64, yl_90, yl_97, yl_99, yl_100, yl_120, yl_239, yl_240] at *; first | omega | assumption | contradiction)))⟩, _, hXc81, (keepX.rfl'.trans hFc81), ((xkn.trans xkn.rfl' xenl.kn)).w, rfl⟩)
          · skip
            refine y_blk 1 tq_X8_guard (z := (54, [(0, .ref (ad 1)), (1, .int cell), (2, .int from_), (3, .int to), (4, .int stay)], [.ref (ad 1)])) rfl ?_
            refine y_get hS tq_X8_guard (v := .ref (ad 2)) rfl fg_X8_10_X8 (hX.1 1 _ rfl) rfl ?_
            refine y_blk 1 tq_X8_guard (z := (58, [(0, .ref (ad 1)), (1, .int cell), (2, .int from_), (3, .int to), (4, .int stay)], [.int cell, .ref (ad 2)])) rfl ?_
            refine y_callV hS tq_X8_guard rfl (As := [.int cell]) rfl cv_X8_154 (hX.1 2 _ rfl) (m_X1_isWall hS hX cell) rfl (by decide) (Nat.le_of_ble_eq_true rfl) (fun r58 Gc58 q58 => ?_) (fun E9 G9 h9 => h9.elim)
            obtain ⟨rfl, eG58⟩ := q58
            have eG58 := eG58.symm
            subst eG58
            refine y_blk 0 tq_X8_guard (z := (61, [(0, .ref (ad 1)), (1, .int cell), (2, .int from_), (3, .int to), (4, .int stay)], [.int (if xis (σ.2.2.2.1 2) cell then 1 else 0)])) rfl ?_
            refine y_if_ne tq_X8_guard 68 rfl rfl (fun c61 => ?_) (fun c61 => ?_)
            · skip
              refine y_blk 1 tq_X8_guard (z := (69, [(0, .ref (ad 1)), (1, .int cell), (2, .int from_), (3, .int to), (4, .int stay)], [.int 0])) rfl ?_
              refine y_callS hS tq_X8_guard rfl (As := [.int 0]) rfl cs_X8_128 (m_X8_needPossible hS  0) rfl (by decide) (Nat.le_of_ble_eq_true rfl) (fun r69 Gc69 q69 => ?_) (fun E9 G9 h9 => ⟨(Or.inr (Or.inr (And.intro h9.1.1 (by first | exact h9.1.2 | exact absurd h9.1.2 (by decide) | exact absurd rfl hq2 | exact absurd rfl hq11 | exact absurd rfl hq19 | exact absurd rfl hq21 | exact absurd rfl hq24 | exact absurd rfl hq30 | exact absurd rfl hq35 | exact absurd rfl hq39 | exact absurd rfl hq40 | exact absurd rfl hq57 | exact absurd rfl hq45 | exact absurd rfl hq38 | exact absurd rfl hq34 | exact absurd rfl hq33 | exact absurd rfl hq29 | (have z9 := h9.1.2; clear h9; (repeat' apply And.intro) <;> first | (first | assumption | (simp only [yif0, Classical.not_not, ylt, yle, xcp0, xcp3, xcp5, xcp10, xcp12, xcp16, xcp22, yl_m1, yl_0, yl_1, yl_2, yl_3, yl_4, yl_5, yl_6, yl_7, yl_8, yl_9, yl_10, yl_11, yl_12, yl_15, yl_16, yl_20, yl_60, yl_64, yl_90, yl_97, yl_99, yl_100, yl_120, yl_239, yl_240] at *; first | omega | assumption | contradiction)) | (intro q9; (simp only [yif0, Classical.not_not, ylt, yle, xcp0, xcp3, xcp5, xcp10, xcp12, xcp16, xcp22, yl_m1, yl_0, yl_1, yl_2, yl_3, yl_4, yl_5, yl_6, yl_7, yl_8, yl_9, yl_10, yl_11, yl_12, yl_15, yl_16, yl_20, yl_60, yl_64, yl_90, yl_97, yl_99, yl_100, yl_120, yl_239, yl_240] at *; first | omega | contradiction | (obtain ⟨qa, qb⟩ := q9; contradiction)))))))), h9.2⟩)
              obtain ⟨⟨rfl, hq69⟩, eG69⟩ := q69
              have eG69 := eG69.symm
              subst eG69
              refine y_blk 1 tq_X8_guard (z := (73, [(0, .ref (ad 1)), (1, .int cell), (2, .int from_), (3, .int to), (4, .int stay)], [.ref (ad 1)])) rfl ?_
              refine y_get hS tq_X8_guard (v := .ref (ad 6)) rfl fg_X8_33_X8 (hX.1 1 _ rfl) rfl ?_
              refine y_blk 4 tq_X8_guard (z := (81, [(0, .ref (ad 1)), (1, .int cell), (2, .int from_), (3, .int to), (4, .int stay)], [.int stay, .int to, .int from_, .int cell, .ref (ad 6)])) rfl ?_
              refine y_callV hS tq_X8_guard rfl (As := [.int cell, .int from_, .int to, .int stay]) rfl cv_X8_178 (hX.1 6 _ rfl) (m_X2_enlist hS hX cell from_ to stay) rfl (by decide) (Nat.le_of_ble_eq_true rfl) (fun r81 Gc81 q81 => ?_) (fun E9 G9 h9 => h9.elim)
              obtain ⟨rfl, hXc81, hFc81⟩ := q81
              refine y_blk 0 tq_X8_guard (z := (84, [(0, .ref (ad 1)), (1, .int cell), (2, .int from_), (3, .int to), (4, .int stay)], [.int ((xenl σ cell from_ to stay).1 5 - 1)])) rfl ?_
              exact y_iret tq_X8_guard rfl rfl (⟨⟨rfl, (by first | exact absurd rfl hq2 | exact absurd rfl hq11 | exact absurd rfl hq19 | exact absurd rfl hq21 | exact absurd rfl hq24 | exact absurd rfl hq30 | exact absurd rfl hq35 | exact absurd rfl hq39 | exact absurd rfl hq40 | exact absurd rfl hq57 | exact absurd rfl hq45 | exact absurd rfl hq38 | exact absurd rfl hq34 | exact absurd rfl hq33 | exact absurd rfl hq29 | ((repeat' apply And.intro) <;> first | assumption | (simp only [yif0, Classical.not_not, ylt, yle, xcp0, xcp3, xcp5, xcp10, xcp12, xcp16, xcp22, yl_m1, yl_0, yl_1, yl_2, yl_3, yl_4, yl_5, yl_6, yl_7, yl_8, yl_9, yl_10, yl_11, yl_12, yl_15, yl_16, yl_20, yl_60, yl_64, yl_90, yl_97, yl_99, yl_100, yl_120, yl_239, yl_240] at *; first | omega | assumption | contradiction)))⟩, _, hXc81, (keepX.rfl'.trans hFc81), ((xkn.trans xkn.rfl' xenl.kn)).w, rfl⟩)
            · skip
              refine y_blk 2 tq_X8_guard (z := (69, [(0, .ref (ad 1)), (1, .int cell), (2, .int from_), (3, .int to), (4, .int stay)], [.int 1])) rfl ?_
              refine y_callS hS tq_X8_guard rfl (As := [.int 1]) rfl cs_X8_128 (m_X8_needPossible hS  1) rfl (by decide) (Nat.le_of_ble_eq_true rfl) (fun r69 Gc69 q69 => ?_) (fun E9 G9 h9 => ⟨(Or.inr (Or.inr (And.intro h9.1.1 (by first | exact h9.1.2 | exact absurd h9.1.2 (by decide) | exact absurd rfl hq2 | exact absurd rfl hq11 | exact absurd rfl hq19 | exact absurd rfl hq21 | exact absurd rfl hq24 | exact absurd rfl hq30 | exact absurd rfl hq35 | exact absurd rfl hq39 | exact absurd rfl hq40 | exact absurd rfl hq57 | exact absurd rfl hq45 | exact absurd rfl hq38 | exact absurd rfl hq34 | exact absurd rfl hq33 | exact absurd rfl hq29 | (have z9 := h9.1.2; clear h9; (repeat' apply And.intro) <;> first | (first | assumption | (simp only [yif0, Classical.not_not, ylt, yle, xcp0, xcp3, xcp5, xcp10, xcp12, xcp16, xcp22, yl_m1, yl_0, yl_1, yl_2, yl_3, yl_4, yl_5, yl_6, yl_7, yl_8, yl_9, yl_10, yl_11, yl_12, yl_15, yl_16, yl_20, yl_60, yl_64, yl_90, yl_97, yl_99, yl_100, yl_120, yl_239, yl_240] at *; first | omega | assumption | contradiction)) | (intro q9; (simp only [yif0, Classical.not_not, ylt, yle, xcp0, xcp3, xcp5, xcp10, xcp12, xcp16, xcp22, yl_m1, yl_0, yl_1, yl_2, yl_3, yl_4, yl_5, yl_6, yl_7, yl_8, yl_9, yl_10, yl_11, yl_12, yl_15, yl_16, yl_20, yl_60, yl_64, yl_90, yl_97, yl_99, yl_100, yl_120, yl_239, yl_240] at *; first | omega | contradiction | (obtain ⟨qa, qb⟩ := q9; contradiction)))))))), h9.2⟩)
              obtain ⟨⟨rfl, hq69⟩, eG69⟩ := q69
              have eG69 := eG69.symm
              subst eG69
              refine y_blk 1 tq_X8_guard (z := (73, [(0, .ref (ad 1)), (1, .int cell), (2, .int from_), (3, .int to), (4, .int stay)], [.ref (ad 1)])) rfl ?_
              refine y_get hS tq_X8_guard (v := .ref (ad 6)) rfl fg_X8_33_X8 (hX.1 1 _ rfl) rfl ?_
              refine y_blk 4 tq_X8_guard (z := (81, [(0, .ref (ad 1)), (1, .int cell), (2, .int from_), (3, .int to), (4, .int stay)], [.int stay, .int to, .int from_, .int cell, .ref (ad 6)])) rfl ?_
              refine y_callV hS tq_X8_guard rfl (As := [.int cell, .int from_, .int to, .int stay]) rfl cv_X8_178 (hX.1 6 _ rfl) (m_X2_enlist hS hX cell from_ to stay) rfl (by decide) (Nat.le_of_ble_eq_true rfl) (fun r81 Gc81 q81 => ?_) (fun E9 G9 h9 => h9.elim)
              obtain ⟨rfl, hXc81, hFc81⟩ := q81
              refine y_blk 0 tq_X8_guard (z := (84, [(0, .ref (ad 1)), (1, .int cell), (2, .int from_), (3, .int to), (4, .int stay)], [.int ((xenl σ cell from_ to stay).1 5 - 1)])) rfl ?_
              exact y_iret tq_X8_guard rfl rfl (⟨⟨rfl, (by first | exact absurd rfl hq2 | exact absurd rfl hq11 | exact absurd rfl hq19 | exact absurd rfl hq21 | exact absurd rfl hq24 | exact absurd rfl hq30 | exact absurd rfl hq35 | exact absurd rfl hq39 | exact absurd rfl hq40 | exact absurd rfl hq57 | exact absurd rfl hq45 | exact absurd rfl hq38 | exact absurd rfl hq34 | exact absurd rfl hq33 | exact absurd rfl hq29 | ((repeat' apply And.intro) <;> first | assumption | (simp only [yif0, Classical.not_not, ylt, yle, xcp0, xcp3, xcp5, xcp10, xcp12, xcp16, xcp22, yl_m1, yl_0, yl_1, yl_2, yl_3, yl_4, yl_5, yl_6, yl_7, yl_8, yl_9, yl_10, yl_11, yl_12, yl_15, yl_16, yl_20, yl_60, yl_64, yl_90, yl_97, yl_99, yl_100, yl_120, yl_239, yl_240] at *; first | omega | assumption | contradiction)))⟩, _, hXc81, (keepX.rfl'.trans hFc81), ((xkn.trans xkn.rfl' xenl.kn)).w, rfl⟩)
set_option maxHeartbeats 4000000 in
set_option maxRecDepth 100000 in
theorem m_X2_isRoundFull_ok {l : Launch} {S0 : State} {A0 : Array Value} {D : va_G} {aC : Nat → ClassId} {ad : Nat → Nat} {G : AH} {σ : XS} (hS : yS l S0 A0 D aC) (hX : atX aC ad G σ) (guard : Int32) : yM l S0 D yX2_isRoundFull cX2_isRoundFull 2 (some .boolean) 11 0 0 [.ref (ad 6), .int guard] G (fun r G1 => r = some (.int (if 6 ≤ xat σ 8 guard then 1 else 0)) ∧ G1 = G) (fun _ _ => False) := by
  refine yM.ofK K_X2_isRoundFull rfl (by decide) (Nat.le_of_ble_eq_true rfl) ?_
  refine y_blk 1 tq_X2_isRoundFull (z := (1, [(0, .ref (ad 6)), (1, .int guard)], [.ref (ad 6)])) rfl ?_
  refine y_get hS tq_X2_isRoundFull (v := .ref (ad 116)) rfl fg_X2_26_X2 (hX.1 6 _ rfl) rfl ?_
  refine y_blk 1 tq_X2_isRoundFull (z := (5, [(0, .ref (ad 6)), (1, .int guard)], [.int guard, .ref (ad 116)])) rfl ?_
  refine y_callV hS tq_X2_isRoundFull rfl (As := [.int guard]) rfl cv_X2_53 (hX.num (k := 8) (by decide)) (m_X5_at hS hX (k := 8) (by decide) guard) rfl (by decide) (Nat.le_of_ble_eq_true rfl) (fun r5 Gc5 q5 => ?_) (fun E9 G9 h9 => h9.elim)
  obtain ⟨rfl, eG5⟩ := q5
  have eG5 := eG5.symm
  subst eG5
  refine y_blk 1 tq_X2_isRoundFull (z := (10, [(0, .ref (ad 6)), (1, .int guard)], [.int 6, .int (xat σ 8 guard)])) rfl ?_
  refine y_icmp_lt tq_X2_isRoundFull 17 rfl rfl (fun c10 => ?_) (fun c10 => ?_)
  · skip
    refine y_blk 1 tq_X2_isRoundFull (z := (18, [(0, .ref (ad 6)), (1, .int guard)], [.int 0])) rfl ?_
    exact y_zret tq_X2_isRoundFull rfl rfl (rfl) (⟨by first | rfl | (congr 2; (repeat' split) <;> first | rfl | (exfalso; simp only [ylt, yle, yeqI, yl_m1, yl_0, yl_1, yl_2, yl_3, yl_4, yl_5, yl_6, yl_7, yl_8, yl_9, yl_10, yl_11, yl_12, yl_15, yl_16, yl_20, yl_60, yl_64, yl_90, yl_97, yl_99, yl_100, yl_120, yl_239, yl_240] at *; omega)), rfl⟩)
  · skip
    refine y_blk 2 tq_X2_isRoundFull (z := (18, [(0, .ref (ad 6)), (1, .int guard)], [.int 1])) rfl ?_
    exact y_zret tq_X2_isRoundFull rfl rfl (rfl) (⟨by first | rfl | (congr 2; (repeat' split) <;> first | rfl | (exfalso; simp only [ylt, yle, yeqI, yl_m1, yl_0, yl_1, yl_2, yl_3, yl_4, yl_5, yl_6, yl_7, yl_8, yl_9, yl_10, yl_11, yl_12, yl_15, yl_16, yl_20, yl_60, yl_64, yl_90, yl_97, yl_99, yl_100, yl_120, yl_239, yl_240] at *; omega)), rfl⟩)
set_option maxHeartbeats 4000000 in
set_option maxRecDepth 100000 in
theorem m_X8_round {l : Launch} {S0 : State} {A0 : Array Value} {D : va_G} {aC : Nat → ClassId} {ad : Nat → Nat} {G : AH} {σ : XS} (hS : yS l S0 A0 D aC) (hX : atX aC ad G σ) (guard : Int32) (cell : Int32) : yM l S0 D yX8_round cX8_round 3 (some .int) 13 3 18 [.ref (ad 1), .int guard, .int cell] G (fun r G1 => (r = some (.int (xat σ 8 guard + 1)) ∧ (((0 ≤ guard ∧ guard ≤ σ.1 5 - 1) ∧ (0 ≤ cell ∧ cell ≤ σ.2.2.1 0 * σ.2.2.1 1 - 1)) ∧ (¬ 6 ≤ xat σ 8 guard ∧ ¬ xis (σ.2.2.2.1 2) cell))) ∧ ∃ σ1 : XS, atX aC ad G1 σ1 ∧ keepX G G1 ∧ xfr [32, 33] σ σ1 ∧ σ1 = xlen σ guard cell) (fun E G1 => ((E = "java/lang/IndexOutOfBoundsException" ∧ (¬ ((0 ≤ guard ∧ guard ≤ σ.1 5 - 1) ∧ (0 ≤ cell ∧ cell ≤ σ.2.2.1 0 * σ.2.2.1 1 - 1)))) ∨ (E = "java/lang/IllegalStateException" ∧ (((0 ≤ guard ∧ guard ≤ σ.1 5 - 1) ∧ (0 ≤ cell ∧ cell ≤ σ.2.2.1 0 * σ.2.2.1 1 - 1)) ∧ (¬ (¬ 6 ≤ xat σ 8 guard ∧ ¬ xis (σ.2.2.2.1 2) cell))))) ∧ G1 = G) := by
  refine yM.ofK K_X8_round rfl (by decide) (Nat.le_of_ble_eq_true rfl) ?_
  refine y_blk 2 tq_X8_round (z := (2, [(0, .ref (ad 1)), (1, .int guard), (2, .int cell)], [.ref (ad 1), .int guard])) rfl ?_
  refine y_get hS tq_X8_round (v := .ref (ad 6)) rfl fg_X8_33_X8 (hX.1 1 _ rfl) rfl ?_
  refine y_blk 0 tq_X8_round (z := (5, [(0, .ref (ad 1)), (1, .int guard), (2, .int cell)], [.ref (ad 6), .int guard])) rfl ?_
  refine y_callV hS tq_X8_round rfl (As := []) rfl cv_X8_182 (hX.1 6 _ rfl) (m_X2_count hS hX ) rfl (by decide) (Nat.le_of_ble_eq_true rfl) (fun r5 Gc5 q5 => ?_) (fun E9 G9 h9 => h9.elim)
  obtain ⟨rfl, eG5⟩ := q5
  have eG5 := eG5.symm
  subst eG5
  refine y_blk 0 tq_X8_round (z := (8, [(0, .ref (ad 1)), (1, .int guard), (2, .int cell)], [.int (σ.1 5), .int guard])) rfl ?_
  refine y_callS hS tq_X8_round rfl (As := [.int guard, .int (σ.1 5)]) rfl cs_X8_164 (m_X8_needThere hS  guard (σ.1 5)) rfl (by decide) (Nat.le_of_ble_eq_true rfl) (fun r8 Gc8 q8 => ?_) (fun E9 G9 h9 => ⟨Or.inl ⟨h9.1.1, fun q9 => h9.1.2 q9.1⟩, h9.2⟩)
  obtain ⟨⟨rfl, hq8⟩, eG8⟩ := q8
  have eG8 := eG8.symm
  subst eG8
  refine y_blk 2 tq_X8_round (z := (13, [(0, .ref (ad 1)), (1, .int guard), (2, .int cell)], [.int cell, .ref (ad 1)])) rfl ?_
  refine y_callV hS tq_X8_round rfl (As := [.int cell]) rfl cv_X8_114 (hX.1 1 _ rfl) (m_X8_needCell hS hX cell) rfl (by decide) (Nat.le_of_ble_eq_true rfl) (fun r13 Gc13 q13 => ?_) (fun E9 G9 h9 => ⟨Or.inl ⟨h9.1.1, fun q9 => h9.1.2 q9.2⟩, h9.2⟩)
  obtain ⟨⟨rfl, hq13⟩, eG13⟩ := q13
  have eG13 := eG13.symm
  subst eG13
  refine y_blk 1 tq_X8_round (z := (17, [(0, .ref (ad 1)), (1, .int guard), (2, .int cell)], [.ref (ad 1)])) rfl ?_
  refine y_get hS tq_X8_round (v := .ref (ad 6)) rfl fg_X8_33_X8 (hX.1 1 _ rfl) rfl ?_
  refine y_blk 1 tq_X8_round (z := (21, [(0, .ref (ad 1)), (1, .int guard), (2, .int cell)], [.int guard, .ref (ad 6)])) rfl ?_
  refine y_callV hS tq_X8_round rfl (As := [.int guard]) rfl cv_X8_183 (hX.1 6 _ rfl) (m_X2_isRoundFull_ok hS hX guard) rfl (by decide) (Nat.le_of_ble_eq_true rfl) (fun r21 Gc21 q21 => ?_) (fun E9 G9 h9 => h9.elim)
  obtain ⟨rfl, eG21⟩ := q21
  have eG21 := eG21.symm
  subst eG21
  refine y_blk 0 tq_X8_round (z := (24, [(0, .ref (ad 1)), (1, .int guard), (2, .int cell)], [.int (if 6 ≤ xat σ 8 guard then 1 else 0)])) rfl ?_
  refine y_if_ne tq_X8_round 42 rfl rfl (fun c24 => ?_) (fun c24 => ?_)
  · skip
    refine y_blk 1 tq_X8_round (z := (43, [(0, .ref (ad 1)), (1, .int guard), (2, .int cell)], [.int 0])) rfl ?_
    refine y_callS hS tq_X8_round rfl (As := [.int 0]) rfl cs_X8_128 (m_X8_needPossible hS  0) rfl (by decide) (Nat.le_of_ble_eq_true rfl) (fun r43 Gc43 q43 => ?_) (fun E9 G9 h9 => ⟨(Or.inr (And.intro h9.1.1 (by first | exact h9.1.2 | exact absurd h9.1.2 (by decide) | exact absurd rfl hq2 | exact absurd rfl hq11 | exact absurd rfl hq19 | exact absurd rfl hq21 | exact absurd rfl hq24 | exact absurd rfl hq30 | exact absurd rfl hq35 | exact absurd rfl hq39 | exact absurd rfl hq40 | exact absurd rfl hq57 | exact absurd rfl hq45 | exact absurd rfl hq38 | exact absurd rfl hq34 | exact absurd rfl hq33 | exact absurd rfl hq29 | (have z9 := h9.1.2; clear h9; (repeat' apply And.intro) <;> first | (first | assumption | (simp only [yif0, Classical.not_not, ylt, yle, xcp0, xcp3, xcp5, xcp10, xcp12, xcp16, xcp22, yl_m1, yl_0, yl_1, yl_2, yl_3, yl_4, yl_5, yl_6, yl_7, yl_8, yl_9, yl_10, yl_11, yl_12, yl_15, yl_16, yl_20, yl_60, yl_64, yl_90, yl_97, yl_99, yl_100, yl_120, yl_239, yl_240] at *; first | omega | assumption | contradiction)) | (intro q9; (simp only [yif0, Classical.not_not, ylt, yle, xcp0, xcp3, xcp5, xcp10, xcp12, xcp16, xcp22, yl_m1, yl_0, yl_1, yl_2, yl_3, yl_4, yl_5, yl_6, yl_7, yl_8, yl_9, yl_10, yl_11, yl_12, yl_15, yl_16, yl_20, yl_60, yl_64, yl_90, yl_97, yl_99, yl_100, yl_120, yl_239, yl_240] at *; first | omega | contradiction | (obtain ⟨qa, qb⟩ := q9; contradiction))))))), h9.2⟩)
    obtain ⟨⟨rfl, hq43⟩, eG43⟩ := q43
    have eG43 := eG43.symm
    subst eG43
    refine y_blk 1 tq_X8_round (z := (47, [(0, .ref (ad 1)), (1, .int guard), (2, .int cell)], [.ref (ad 1)])) rfl ?_
    refine y_get hS tq_X8_round (v := .ref (ad 6)) rfl fg_X8_33_X8 (hX.1 1 _ rfl) rfl ?_
    refine y_blk 2 tq_X8_round (z := (52, [(0, .ref (ad 1)), (1, .int guard), (2, .int cell)], [.int cell, .int guard, .ref (ad 6)])) rfl ?_
    refine y_callV hS tq_X8_round rfl (As := [.int guard, .int cell]) rfl cv_X8_186 (hX.1 6 _ rfl) (m_X2_lengthen hS hX guard cell) rfl (by decide) (Nat.le_of_ble_eq_true rfl) (fun r52 Gc52 q52 => ?_) (fun E9 G9 h9 => h9.elim)
    obtain ⟨rfl, hXc52, hFc52⟩ := q52
    refine y_blk 0 tq_X8_round (z := (55, [(0, .ref (ad 1)), (1, .int guard), (2, .int cell)], [.int (xat σ 8 guard + 1)])) rfl ?_
    exact y_iret tq_X8_round rfl rfl (⟨⟨rfl, (by first | exact absurd rfl hq2 | exact absurd rfl hq11 | exact absurd rfl hq19 | exact absurd rfl hq21 | exact absurd rfl hq24 | exact absurd rfl hq30 | exact absurd rfl hq35 | exact absurd rfl hq39 | exact absurd rfl hq40 | exact absurd rfl hq57 | exact absurd rfl hq45 | exact absurd rfl hq38 | exact absurd rfl hq34 | exact absurd rfl hq33 | exact absurd rfl hq29 | ((repeat' apply And.intro) <;> first | assumption | (simp only [yif0, Classical.not_not, ylt, yle, xcp0, xcp3, xcp5, xcp10, xcp12, xcp16, xcp22, yl_m1, yl_0, yl_1, yl_2, yl_3, yl_4, yl_5, yl_6, yl_7, yl_8, yl_9, yl_10, yl_11, yl_12, yl_15, yl_16, yl_20, yl_60, yl_64, yl_90, yl_97, yl_99, yl_100, yl_120, yl_239, yl_240] at *; first | omega | assumption | contradiction)))⟩, _, hXc52, (keepX.rfl'.trans hFc52), ((xkn.trans xkn.rfl' xlen.kn)).w, rfl⟩)
  · skip
    refine y_blk 1 tq_X8_round (z := (28, [(0, .ref (ad 1)), (1, .int guard), (2, .int cell)], [.ref (ad 1)])) rfl ?_
    refine y_get hS tq_X8_round (v := .ref (ad 2)) rfl fg_X8_10_X8 (hX.1 1 _ rfl) rfl ?_
    refine y_blk 1 tq_X8_round (z := (32, [(0, .ref (ad 1)), (1, .int guard), (2, .int cell)], [.int cell, .ref (ad 2)])) rfl ?_
    refine y_callV hS tq_X8_round rfl (As := [.int cell]) rfl cv_X8_154 (hX.1 2 _ rfl) (m_X1_isWall hS hX cell) rfl (by decide) (Nat.le_of_ble_eq_true rfl) (fun r32 Gc32 q32 => ?_) (fun E9 G9 h9 => h9.elim)
    obtain ⟨rfl, eG32⟩ := q32
    have eG32 := eG32.symm
    subst eG32
    refine y_blk 0 tq_X8_round (z := (35, [(0, .ref (ad 1)), (1, .int guard), (2, .int cell)], [.int (if xis (σ.2.2.2.1 2) cell then 1 else 0)])) rfl ?_
    refine y_if_ne tq_X8_round 42 rfl rfl (fun c35 => ?_) (fun c35 => ?_)
    · skip
      refine y_blk 1 tq_X8_round (z := (43, [(0, .ref (ad 1)), (1, .int guard), (2, .int cell)], [.int 0])) rfl ?_
      refine y_callS hS tq_X8_round rfl (As := [.int 0]) rfl cs_X8_128 (m_X8_needPossible hS  0) rfl (by decide) (Nat.le_of_ble_eq_true rfl) (fun r43 Gc43 q43 => ?_) (fun E9 G9 h9 => ⟨(Or.inr (And.intro h9.1.1 (by first | exact h9.1.2 | exact absurd h9.1.2 (by decide) | exact absurd rfl hq2 | exact absurd rfl hq11 | exact absurd rfl hq19 | exact absurd rfl hq21 | exact absurd rfl hq24 | exact absurd rfl hq30 | exact absurd rfl hq35 | exact absurd rfl hq39 | exact absurd rfl hq40 | exact absurd rfl hq57 | exact absurd rfl hq45 | exact absurd rfl hq38 | exact absurd rfl hq34 | exact absurd rfl hq33 | exact absurd rfl hq29 | (have z9 := h9.1.2; clear h9; (repeat' apply And.intro) <;> first | (first | assumption | (simp only [yif0, Classical.not_not, ylt, yle, xcp0, xcp3, xcp5, xcp10, xcp12, xcp16, xcp22, yl_m1, yl_0, yl_1, yl_2, yl_3, yl_4, yl_5, yl_6, yl_7, yl_8, yl_9, yl_10, yl_11, yl_12, yl_15, yl_16, yl_20, yl_60, yl_64, yl_90, yl_97, yl_99, yl_100, yl_120, yl_239, yl_240] at *; first | omega | assumption | contradiction)) | (intro q9; (simp only [yif0, Classical.not_not, ylt, yle, xcp0, xcp3, xcp5, xcp10, xcp12, xcp16, xcp22, yl_m1, yl_0, yl_1, yl_2, yl_3, yl_4, yl_5, yl_6, yl_7, yl_8, yl_9, yl_10, yl_11, yl_12, yl_15, yl_16, yl_20, yl_60, yl_64, yl_90, yl_97, yl_99, yl_100, yl_120, yl_239, yl_240] at *; first | omega | contradiction | (obtain ⟨qa, qb⟩ := q9; contradiction))))))), h9.2⟩)
      obtain ⟨⟨rfl, hq43⟩, eG43⟩ := q43
      have eG43 := eG43.symm
      subst eG43
      refine y_blk 1 tq_X8_round (z := (47, [(0, .ref (ad 1)), (1, .int guard), (2, .int cell)], [.ref (ad 1)])) rfl ?_
      refine y_get hS tq_X8_round (v := .ref (ad 6)) rfl fg_X8_33_X8 (hX.1 1 _ rfl) rfl ?_
      refine y_blk 2 tq_X8_round (z := (52, [(0, .ref (ad 1)), (1, .int guard), (2, .int cell)], [.int cell, .int guard, .ref (ad 6)])) rfl ?_
      refine y_callV hS tq_X8_round rfl (As := [.int guard, .int cell]) rfl cv_X8_186 (hX.1 6 _ rfl) (m_X2_lengthen hS hX guard cell) rfl (by decide) (Nat.le_of_ble_eq_true rfl) (fun r52 Gc52 q52 => ?_) (fun E9 G9 h9 => h9.elim)
      obtain ⟨rfl, hXc52, hFc52⟩ := q52
      refine y_blk 0 tq_X8_round (z := (55, [(0, .ref (ad 1)), (1, .int guard), (2, .int cell)], [.int (xat σ 8 guard + 1)])) rfl ?_
      exact y_iret tq_X8_round rfl rfl (⟨⟨rfl, (by first | exact absurd rfl hq2 | exact absurd rfl hq11 | exact absurd rfl hq19 | exact absurd rfl hq21 | exact absurd rfl hq24 | exact absurd rfl hq30 | exact absurd rfl hq35 | exact absurd rfl hq39 | exact absurd rfl hq40 | exact absurd rfl hq57 | exact absurd rfl hq45 | exact absurd rfl hq38 | exact absurd rfl hq34 | exact absurd rfl hq33 | exact absurd rfl hq29 | ((repeat' apply And.intro) <;> first | assumption | (simp only [yif0, Classical.not_not, ylt, yle, xcp0, xcp3, xcp5, xcp10, xcp12, xcp16, xcp22, yl_m1, yl_0, yl_1, yl_2, yl_3, yl_4, yl_5, yl_6, yl_7, yl_8, yl_9, yl_10, yl_11, yl_12, yl_15, yl_16, yl_20, yl_60, yl_64, yl_90, yl_97, yl_99, yl_100, yl_120, yl_239, yl_240] at *; first | omega | assumption | contradiction)))⟩, _, hXc52, (keepX.rfl'.trans hFc52), ((xkn.trans xkn.rfl' xlen.kn)).w, rfl⟩)
    · skip
      refine y_blk 2 tq_X8_round (z := (43, [(0, .ref (ad 1)), (1, .int guard), (2, .int cell)], [.int 1])) rfl ?_
      refine y_callS hS tq_X8_round rfl (As := [.int 1]) rfl cs_X8_128 (m_X8_needPossible hS  1) rfl (by decide) (Nat.le_of_ble_eq_true rfl) (fun r43 Gc43 q43 => ?_) (fun E9 G9 h9 => ⟨(Or.inr (And.intro h9.1.1 (by first | exact h9.1.2 | exact absurd h9.1.2 (by decide) | exact absurd rfl hq2 | exact absurd rfl hq11 | exact absurd rfl hq19 | exact absurd rfl hq21 | exact absurd rfl hq24 | exact absurd rfl hq30 | exact absurd rfl hq35 | exact absurd rfl hq39 | exact absurd rfl hq40 | exact absurd rfl hq57 | exact absurd rfl hq45 | exact absurd rfl hq38 | exact absurd rfl hq34 | exact absurd rfl hq33 | exact absurd rfl hq29 | (have z9 := h9.1.2; clear h9; (repeat' apply And.intro) <;> first | (first | assumption | (simp only [yif0, Classical.not_not, ylt, yle, xcp0, xcp3, xcp5, xcp10, xcp12, xcp16, xcp22, yl_m1, yl_0, yl_1, yl_2, yl_3, yl_4, yl_5, yl_6, yl_7, yl_8, yl_9, yl_10, yl_11, yl_12, yl_15, yl_16, yl_20, yl_60, yl_64, yl_90, yl_97, yl_99, yl_100, yl_120, yl_239, yl_240] at *; first | omega | assumption | contradiction)) | (intro q9; (simp only [yif0, Classical.not_not, ylt, yle, xcp0, xcp3, xcp5, xcp10, xcp12, xcp16, xcp22, yl_m1, yl_0, yl_1, yl_2, yl_3, yl_4, yl_5, yl_6, yl_7, yl_8, yl_9, yl_10, yl_11, yl_12, yl_15, yl_16, yl_20, yl_60, yl_64, yl_90, yl_97, yl_99, yl_100, yl_120, yl_239, yl_240] at *; first | omega | contradiction | (obtain ⟨qa, qb⟩ := q9; contradiction))))))), h9.2⟩)
      obtain ⟨⟨rfl, hq43⟩, eG43⟩ := q43
      have eG43 := eG43.symm
      subst eG43
      refine y_blk 1 tq_X8_round (z := (47, [(0, .ref (ad 1)), (1, .int guard), (2, .int cell)], [.ref (ad 1)])) rfl ?_
      refine y_get hS tq_X8_round (v := .ref (ad 6)) rfl fg_X8_33_X8 (hX.1 1 _ rfl) rfl ?_
      refine y_blk 2 tq_X8_round (z := (52, [(0, .ref (ad 1)), (1, .int guard), (2, .int cell)], [.int cell, .int guard, .ref (ad 6)])) rfl ?_
      refine y_callV hS tq_X8_round rfl (As := [.int guard, .int cell]) rfl cv_X8_186 (hX.1 6 _ rfl) (m_X2_lengthen hS hX guard cell) rfl (by decide) (Nat.le_of_ble_eq_true rfl) (fun r52 Gc52 q52 => ?_) (fun E9 G9 h9 => h9.elim)
      obtain ⟨rfl, hXc52, hFc52⟩ := q52
      refine y_blk 0 tq_X8_round (z := (55, [(0, .ref (ad 1)), (1, .int guard), (2, .int cell)], [.int (xat σ 8 guard + 1)])) rfl ?_
      exact y_iret tq_X8_round rfl rfl (⟨⟨rfl, (by first | exact absurd rfl hq2 | exact absurd rfl hq11 | exact absurd rfl hq19 | exact absurd rfl hq21 | exact absurd rfl hq24 | exact absurd rfl hq30 | exact absurd rfl hq35 | exact absurd rfl hq39 | exact absurd rfl hq40 | exact absurd rfl hq57 | exact absurd rfl hq45 | exact absurd rfl hq38 | exact absurd rfl hq34 | exact absurd rfl hq33 | exact absurd rfl hq29 | ((repeat' apply And.intro) <;> first | assumption | (simp only [yif0, Classical.not_not, ylt, yle, xcp0, xcp3, xcp5, xcp10, xcp12, xcp16, xcp22, yl_m1, yl_0, yl_1, yl_2, yl_3, yl_4, yl_5, yl_6, yl_7, yl_8, yl_9, yl_10, yl_11, yl_12, yl_15, yl_16, yl_20, yl_60, yl_64, yl_90, yl_97, yl_99, yl_100, yl_120, yl_239, yl_240] at *; first | omega | assumption | contradiction)))⟩, _, hXc52, (keepX.rfl'.trans hFc52), ((xkn.trans xkn.rfl' xlen.kn)).w, rfl⟩)
set_option maxHeartbeats 4000000 in
set_option maxRecDepth 100000 in
theorem m_X8_post {l : Launch} {S0 : State} {A0 : Array Value} {D : va_G} {aC : Nat → ClassId} {ad : Nat → Nat} {G : AH} {σ : XS} (hS : yS l S0 A0 D aC) (hX : atX aC ad G σ) (cell : Int32) : yM l S0 D yX8_post cX8_post 2 (some .int) 13 2 12 [.ref (ad 1), .int cell] G (fun r G1 => (r = some (.int ((xadd σ 10 cell).1 10 - 1)) ∧ ((0 ≤ cell ∧ cell ≤ σ.2.2.1 0 * σ.2.2.1 1 - 1) ∧ ((σ.1 10).toInt < 4 ∧ ¬ xis (σ.2.2.2.1 2) cell))) ∧ ∃ σ1 : XS, atX aC ad G1 σ1 ∧ keepX G G1 ∧ xfr [10, 34] σ σ1 ∧ σ1 = xadd σ 10 cell) (fun E G1 => ((E = "java/lang/IndexOutOfBoundsException" ∧ (¬ (0 ≤ cell ∧ cell ≤ σ.2.2.1 0 * σ.2.2.1 1 - 1))) ∨ (E = "java/lang/IllegalStateException" ∧ ((0 ≤ cell ∧ cell ≤ σ.2.2.1 0 * σ.2.2.1 1 - 1) ∧ (¬ ((σ.1 10).toInt < 4 ∧ ¬ xis (σ.2.2.2.1 2) cell))))) ∧ G1 = G) := by
  refine yM.ofK K_X8_post rfl (by decide) (Nat.le_of_ble_eq_true rfl) ?_
  refine y_blk 2 tq_X8_post (z := (2, [(0, .ref (ad 1)), (1, .int cell)], [.int cell, .ref (ad 1)])) rfl ?_
  refine y_callV hS tq_X8_post rfl (As := [.int cell]) rfl cv_X8_114 (hX.1 1 _ rfl) (m_X8_needCell hS hX cell) rfl (by decide) (Nat.le_of_ble_eq_true rfl) (fun r2 Gc2 q2 => ?_) (fun E9 G9 h9 => ⟨(Or.inl (And.intro h9.1.1 (by first | exact h9.1.2 | exact absurd h9.1.2 (by decide) | exact absurd rfl hq2 | exact absurd rfl hq11 | exact absurd rfl hq19 | exact absurd rfl hq21 | exact absurd rfl hq24 | exact absurd rfl hq30 | exact absurd rfl hq35 | exact absurd rfl hq39 | exact absurd rfl hq40 | exact absurd rfl hq57 | exact absurd rfl hq45 | exact absurd rfl hq38 | exact absurd rfl hq34 | exact absurd rfl hq33 | exact absurd rfl hq29 | (have z9 := h9.1.2; clear h9; (repeat' apply And.intro) <;> first | (first | assumption | (simp only [yif0, Classical.not_not, ylt, yle, xcp0, xcp3, xcp5, xcp10, xcp12, xcp16, xcp22, yl_m1, yl_0, yl_1, yl_2, yl_3, yl_4, yl_5, yl_6, yl_7, yl_8, yl_9, yl_10, yl_11, yl_12, yl_15, yl_16, yl_20, yl_60, yl_64, yl_90, yl_97, yl_99, yl_100, yl_120, yl_239, yl_240] at *; first | omega | assumption | contradiction)) | (intro q9; (simp only [yif0, Classical.not_not, ylt, yle, xcp0, xcp3, xcp5, xcp10, xcp12, xcp16, xcp22, yl_m1, yl_0, yl_1, yl_2, yl_3, yl_4, yl_5, yl_6, yl_7, yl_8, yl_9, yl_10, yl_11, yl_12, yl_15, yl_16, yl_20, yl_60, yl_64, yl_90, yl_97, yl_99, yl_100, yl_120, yl_239, yl_240] at *; first | omega | contradiction | (obtain ⟨qa, qb⟩ := q9; contradiction))))))), h9.2⟩)
  obtain ⟨⟨rfl, hq2⟩, eG2⟩ := q2
  have eG2 := eG2.symm
  subst eG2
  refine y_blk 1 tq_X8_post (z := (6, [(0, .ref (ad 1)), (1, .int cell)], [.ref (ad 1)])) rfl ?_
  refine y_get hS tq_X8_post (v := .ref (ad 120)) rfl fg_X8_42_X8 (hX.1 1 _ rfl) rfl ?_
  refine y_blk 0 tq_X8_post (z := (9, [(0, .ref (ad 1)), (1, .int cell)], [.ref (ad 120)])) rfl ?_
  refine y_callV hS tq_X8_post rfl (As := []) rfl cv_X8_189 (hX.num (k := 10) (by decide)) (m_X5_isFull hS hX (k := 10) (by decide) ) rfl (by decide) (Nat.le_of_ble_eq_true rfl) (fun r9 Gc9 q9 => ?_) (fun E9 G9 h9 => h9.elim)
  obtain ⟨rfl, eG9⟩ := q9
  have eG9 := eG9.symm
  subst eG9
  refine y_blk 0 tq_X8_post (z := (12, [(0, .ref (ad 1)), (1, .int cell)], [.int (if (xcap 10 : Int) ≤ (σ.1 10).toInt then 1 else 0)])) rfl ?_
  refine y_if_ne tq_X8_post 30 rfl rfl (fun c12 => ?_) (fun c12 => ?_)
  · skip
    refine y_blk 1 tq_X8_post (z := (31, [(0, .ref (ad 1)), (1, .int cell)], [.int 0])) rfl ?_
    refine y_callS hS tq_X8_post rfl (As := [.int 0]) rfl cs_X8_128 (m_X8_needPossible hS  0) rfl (by decide) (Nat.le_of_ble_eq_true rfl) (fun r31 Gc31 q31 => ?_) (fun E9 G9 h9 => ⟨(Or.inr (And.intro h9.1.1 (by first | exact h9.1.2 | exact absurd h9.1.2 (by decide) | exact absurd rfl hq2 | exact absurd rfl hq11 | exact absurd rfl hq19 | exact absurd rfl hq21 | exact absurd rfl hq24 | exact absurd rfl hq30 | exact absurd rfl hq35 | exact absurd rfl hq39 | exact absurd rfl hq40 | exact absurd rfl hq57 | exact absurd rfl hq45 | exact absurd rfl hq38 | exact absurd rfl hq34 | exact absurd rfl hq33 | exact absurd rfl hq29 | (have z9 := h9.1.2; clear h9; (repeat' apply And.intro) <;> first | (first | assumption | (simp only [yif0, Classical.not_not, ylt, yle, xcp0, xcp3, xcp5, xcp10, xcp12, xcp16, xcp22, yl_m1, yl_0, yl_1, yl_2, yl_3, yl_4, yl_5, yl_6, yl_7, yl_8, yl_9, yl_10, yl_11, yl_12, yl_15, yl_16, yl_20, yl_60, yl_64, yl_90, yl_97, yl_99, yl_100, yl_120, yl_239, yl_240] at *; first | omega | assumption | contradiction)) | (intro q9; (simp only [yif0, Classical.not_not, ylt, yle, xcp0, xcp3, xcp5, xcp10, xcp12, xcp16, xcp22, yl_m1, yl_0, yl_1, yl_2, yl_3, yl_4, yl_5, yl_6, yl_7, yl_8, yl_9, yl_10, yl_11, yl_12, yl_15, yl_16, yl_20, yl_60, yl_64, yl_90, yl_97, yl_99, yl_100, yl_120, yl_239, yl_240] at *; first | omega | contradiction | (obtain ⟨qa, qb⟩ := q9; contradiction))))))), h9.2⟩)
    obtain ⟨⟨rfl, hq31⟩, eG31⟩ := q31
    have eG31 := eG31.symm
    subst eG31
    refine y_blk 1 tq_X8_post (z := (35, [(0, .ref (ad 1)), (1, .int cell)], [.ref (ad 1)])) rfl ?_
    refine y_get hS tq_X8_post (v := .ref (ad 120)) rfl fg_X8_42_X8 (hX.1 1 _ rfl) rfl ?_
    refine y_blk 1 tq_X8_post (z := (39, [(0, .ref (ad 1)), (1, .int cell)], [.int cell, .ref (ad 120)])) rfl ?_
    refine y_callV hS tq_X8_post rfl (As := [.int cell]) rfl cv_X8_190 (hX.num (k := 10) (by decide)) (m_X5_add hS hX (k := 10) (by decide) cell (fun q => absurd q (by decide))) rfl (by decide) (Nat.le_of_ble_eq_true rfl) (fun r39 Gc39 q39 => ?_) (fun E9 G9 h9 => h9.elim)
    obtain ⟨rfl, hXc39, hFc39⟩ := q39
    refine y_blk 1 tq_X8_post (z := (43, [(0, .ref (ad 1)), (1, .int cell)], [.ref (ad 1)])) rfl ?_
    refine y_get hS tq_X8_post (v := .ref (ad 120)) rfl fg_X8_42_X8 (hXc39.1 1 _ rfl) rfl ?_
    refine y_blk 0 tq_X8_post (z := (46, [(0, .ref (ad 1)), (1, .int cell)], [.ref (ad 120)])) rfl ?_
    refine y_callV hS tq_X8_post rfl (As := []) rfl cv_X8_193 (hXc39.num (k := 10) (by decide)) (m_X5_size hS hXc39 (k := 10) (by decide) ) rfl (by decide) (Nat.le_of_ble_eq_true rfl) (fun r46 Gc46 q46 => ?_) (fun E9 G9 h9 => h9.elim)
    obtain ⟨rfl, eG46⟩ := q46
    have eG46 := eG46.symm
    subst eG46
    refine y_blk 2 tq_X8_post (z := (51, [(0, .ref (ad 1)), (1, .int cell)], [.int ((((xadd σ 10 cell)).1 10) - 1)])) rfl ?_
    exact y_iret tq_X8_post rfl rfl (⟨⟨rfl, (by first | exact absurd rfl hq2 | exact absurd rfl hq11 | exact absurd rfl hq19 | exact absurd rfl hq21 | exact absurd rfl hq24 | exact absurd rfl hq30 | exact absurd rfl hq35 | exact absurd rfl hq39 | exact absurd rfl hq40 | exact absurd rfl hq57 | exact absurd rfl hq45 | exact absurd rfl hq38 | exact absurd rfl hq34 | exact absurd rfl hq33 | exact absurd rfl hq29 | ((repeat' apply And.intro) <;> first | assumption | (simp only [yif0, Classical.not_not, ylt, yle, xcp0, xcp3, xcp5, xcp10, xcp12, xcp16, xcp22, yl_m1, yl_0, yl_1, yl_2, yl_3, yl_4, yl_5, yl_6, yl_7, yl_8, yl_9, yl_10, yl_11, yl_12, yl_15, yl_16, yl_20, yl_60, yl_64, yl_90, yl_97, yl_99, yl_100, yl_120, yl_239, yl_240] at *; first | omega | assumption | contradiction)))⟩, _, hXc39, (keepX.rfl'.trans hFc39), ((xkn.trans xkn.rfl' xkn_add)).w, rfl⟩)
  · skip
    refine y_blk 1 tq_X8_post (z := (16, [(0, .ref (ad 1)), (1, .int cell)], [.ref (ad 1)])) rfl ?_
    refine y_get hS tq_X8_post (v := .ref (ad 2)) rfl fg_X8_10_X8 (hX.1 1 _ rfl) rfl ?_
    refine y_blk 1 tq_X8_post (z := (20, [(0, .ref (ad 1)), (1, .int cell)], [.int cell, .ref (ad 2)])) rfl ?_
    refine y_callV hS tq_X8_post rfl (As := [.int cell]) rfl cv_X8_154 (hX.1 2 _ rfl) (m_X1_isWall hS hX cell) rfl (by decide) (Nat.le_of_ble_eq_true rfl) (fun r20 Gc20 q20 => ?_) (fun E9 G9 h9 => h9.elim)
    obtain ⟨rfl, eG20⟩ := q20
    have eG20 := eG20.symm
    subst eG20
    refine y_blk 0 tq_X8_post (z := (23, [(0, .ref (ad 1)), (1, .int cell)], [.int (if xis (σ.2.2.2.1 2) cell then 1 else 0)])) rfl ?_
    refine y_if_ne tq_X8_post 30 rfl rfl (fun c23 => ?_) (fun c23 => ?_)
    · skip
      refine y_blk 1 tq_X8_post (z := (31, [(0, .ref (ad 1)), (1, .int cell)], [.int 0])) rfl ?_
      refine y_callS hS tq_X8_post rfl (As := [.int 0]) rfl cs_X8_128 (m_X8_needPossible hS  0) rfl (by decide) (Nat.le_of_ble_eq_true rfl) (fun r31 Gc31 q31 => ?_) (fun E9 G9 h9 => ⟨(Or.inr (And.intro h9.1.1 (by first | exact h9.1.2 | exact absurd h9.1.2 (by decide) | exact absurd rfl hq2 | exact absurd rfl hq11 | exact absurd rfl hq19 | exact absurd rfl hq21 | exact absurd rfl hq24 | exact absurd rfl hq30 | exact absurd rfl hq35 | exact absurd rfl hq39 | exact absurd rfl hq40 | exact absurd rfl hq57 | exact absurd rfl hq45 | exact absurd rfl hq38 | exact absurd rfl hq34 | exact absurd rfl hq33 | exact absurd rfl hq29 | (have z9 := h9.1.2; clear h9; (repeat' apply And.intro) <;> first | (first | assumption | (simp only [yif0, Classical.not_not, ylt, yle, xcp0, xcp3, xcp5, xcp10, xcp12, xcp16, xcp22, yl_m1, yl_0, yl_1, yl_2, yl_3, yl_4, yl_5, yl_6, yl_7, yl_8, yl_9, yl_10, yl_11, yl_12, yl_15, yl_16, yl_20, yl_60, yl_64, yl_90, yl_97, yl_99, yl_100, yl_120, yl_239, yl_240] at *; first | omega | assumption | contradiction)) | (intro q9; (simp only [yif0, Classical.not_not, ylt, yle, xcp0, xcp3, xcp5, xcp10, xcp12, xcp16, xcp22, yl_m1, yl_0, yl_1, yl_2, yl_3, yl_4, yl_5, yl_6, yl_7, yl_8, yl_9, yl_10, yl_11, yl_12, yl_15, yl_16, yl_20, yl_60, yl_64, yl_90, yl_97, yl_99, yl_100, yl_120, yl_239, yl_240] at *; first | omega | contradiction | (obtain ⟨qa, qb⟩ := q9; contradiction))))))), h9.2⟩)
      obtain ⟨⟨rfl, hq31⟩, eG31⟩ := q31
      have eG31 := eG31.symm
      subst eG31
      refine y_blk 1 tq_X8_post (z := (35, [(0, .ref (ad 1)), (1, .int cell)], [.ref (ad 1)])) rfl ?_
      refine y_get hS tq_X8_post (v := .ref (ad 120)) rfl fg_X8_42_X8 (hX.1 1 _ rfl) rfl ?_
      refine y_blk 1 tq_X8_post (z := (39, [(0, .ref (ad 1)), (1, .int cell)], [.int cell, .ref (ad 120)])) rfl ?_
      refine y_callV hS tq_X8_post rfl (As := [.int cell]) rfl cv_X8_190 (hX.num (k := 10) (by decide)) (m_X5_add hS hX (k := 10) (by decide) cell (fun q => absurd q (by decide))) rfl (by decide) (Nat.le_of_ble_eq_true rfl) (fun r39 Gc39 q39 => ?_) (fun E9 G9 h9 => h9.elim)
      obtain ⟨rfl, hXc39, hFc39⟩ := q39
      refine y_blk 1 tq_X8_post (z := (43, [(0, .ref (ad 1)), (1, .int cell)], [.ref (ad 1)])) rfl ?_
      refine y_get hS tq_X8_post (v := .ref (ad 120)) rfl fg_X8_42_X8 (hXc39.1 1 _ rfl) rfl ?_
      refine y_blk 0 tq_X8_post (z := (46, [(0, .ref (ad 1)), (1, .int cell)], [.ref (ad 120)])) rfl ?_
      refine y_callV hS tq_X8_post rfl (As := []) rfl cv_X8_193 (hXc39.num (k := 10) (by decide)) (m_X5_size hS hXc39 (k := 10) (by decide) ) rfl (by decide) (Nat.le_of_ble_eq_true rfl) (fun r46 Gc46 q46 => ?_) (fun E9 G9 h9 => h9.elim)
      obtain ⟨rfl, eG46⟩ := q46
      have eG46 := eG46.symm
      subst eG46
      refine y_blk 2 tq_X8_post (z := (51, [(0, .ref (ad 1)), (1, .int cell)], [.int ((((xadd σ 10 cell)).1 10) - 1)])) rfl ?_
      exact y_iret tq_X8_post rfl rfl (⟨⟨rfl, (by first | exact absurd rfl hq2 | exact absurd rfl hq11 | exact absurd rfl hq19 | exact absurd rfl hq21 | exact absurd rfl hq24 | exact absurd rfl hq30 | exact absurd rfl hq35 | exact absurd rfl hq39 | exact absurd rfl hq40 | exact absurd rfl hq57 | exact absurd rfl hq45 | exact absurd rfl hq38 | exact absurd rfl hq34 | exact absurd rfl hq33 | exact absurd rfl hq29 | ((repeat' apply And.intro) <;> first | assumption | (simp only [yif0, Classical.not_not, ylt, yle, xcp0, xcp3, xcp5, xcp10, xcp12, xcp16, xcp22, yl_m1, yl_0, yl_1, yl_2, yl_3, yl_4, yl_5, yl_6, yl_7, yl_8, yl_9, yl_10, yl_11, yl_12, yl_15, yl_16, yl_20, yl_60, yl_64, yl_90, yl_97, yl_99, yl_100, yl_120, yl_239, yl_240] at *; first | omega | assumption | contradiction)))⟩, _, hXc39, (keepX.rfl'.trans hFc39), ((xkn.trans xkn.rfl' xkn_add)).w, rfl⟩)
    · skip
      refine y_blk 2 tq_X8_post (z := (31, [(0, .ref (ad 1)), (1, .int cell)], [.int 1])) rfl ?_
      refine y_callS hS tq_X8_post rfl (As := [.int 1]) rfl cs_X8_128 (m_X8_needPossible hS  1) rfl (by decide) (Nat.le_of_ble_eq_true rfl) (fun r31 Gc31 q31 => ?_) (fun E9 G9 h9 => ⟨(Or.inr (And.intro h9.1.1 (by first | exact h9.1.2 | exact absurd h9.1.2 (by decide) | exact absurd rfl hq2 | exact absurd rfl hq11 | exact absurd rfl hq19 | exact absurd rfl hq21 | exact absurd rfl hq24 | exact absurd rfl hq30 | exact absurd rfl hq35 | exact absurd rfl hq39 | exact absurd rfl hq40 | exact absurd rfl hq57 | exact absurd rfl hq45 | exact absurd rfl hq38 | exact absurd rfl hq34 | exact absurd rfl hq33 | exact absurd rfl hq29 | (have z9 := h9.1.2; clear h9; (repeat' apply And.intro) <;> first | (first | assumption | (simp only [yif0, Classical.not_not, ylt, yle, xcp0, xcp3, xcp5, xcp10, xcp12, xcp16, xcp22, yl_m1, yl_0, yl_1, yl_2, yl_3, yl_4, yl_5, yl_6, yl_7, yl_8, yl_9, yl_10, yl_11, yl_12, yl_15, yl_16, yl_20, yl_60, yl_64, yl_90, yl_97, yl_99, yl_100, yl_120, yl_239, yl_240] at *; first | omega | assumption | contradiction)) | (intro q9; (simp only [yif0, Classical.not_not, ylt, yle, xcp0, xcp3, xcp5, xcp10, xcp12, xcp16, xcp22, yl_m1, yl_0, yl_1, yl_2, yl_3, yl_4, yl_5, yl_6, yl_7, yl_8, yl_9, yl_10, yl_11, yl_12, yl_15, yl_16, yl_20, yl_60, yl_64, yl_90, yl_97, yl_99, yl_100, yl_120, yl_239, yl_240] at *; first | omega | contradiction | (obtain ⟨qa, qb⟩ := q9; contradiction))))))), h9.2⟩)
      obtain ⟨⟨rfl, hq31⟩, eG31⟩ := q31
      have eG31 := eG31.symm
      subst eG31
      refine y_blk 1 tq_X8_post (z := (35, [(0, .ref (ad 1)), (1, .int cell)], [.ref (ad 1)])) rfl ?_
      refine y_get hS tq_X8_post (v := .ref (ad 120)) rfl fg_X8_42_X8 (hX.1 1 _ rfl) rfl ?_
      refine y_blk 1 tq_X8_post (z := (39, [(0, .ref (ad 1)), (1, .int cell)], [.int cell, .ref (ad 120)])) rfl ?_
      refine y_callV hS tq_X8_post rfl (As := [.int cell]) rfl cv_X8_190 (hX.num (k := 10) (by decide)) (m_X5_add hS hX (k := 10) (by decide) cell (fun q => absurd q (by decide))) rfl (by decide) (Nat.le_of_ble_eq_true rfl) (fun r39 Gc39 q39 => ?_) (fun E9 G9 h9 => h9.elim)
      obtain ⟨rfl, hXc39, hFc39⟩ := q39
      refine y_blk 1 tq_X8_post (z := (43, [(0, .ref (ad 1)), (1, .int cell)], [.ref (ad 1)])) rfl ?_
      refine y_get hS tq_X8_post (v := .ref (ad 120)) rfl fg_X8_42_X8 (hXc39.1 1 _ rfl) rfl ?_
      refine y_blk 0 tq_X8_post (z := (46, [(0, .ref (ad 1)), (1, .int cell)], [.ref (ad 120)])) rfl ?_
      refine y_callV hS tq_X8_post rfl (As := []) rfl cv_X8_193 (hXc39.num (k := 10) (by decide)) (m_X5_size hS hXc39 (k := 10) (by decide) ) rfl (by decide) (Nat.le_of_ble_eq_true rfl) (fun r46 Gc46 q46 => ?_) (fun E9 G9 h9 => h9.elim)
      obtain ⟨rfl, eG46⟩ := q46
      have eG46 := eG46.symm
      subst eG46
      refine y_blk 2 tq_X8_post (z := (51, [(0, .ref (ad 1)), (1, .int cell)], [.int ((((xadd σ 10 cell)).1 10) - 1)])) rfl ?_
      exact y_iret tq_X8_post rfl rfl (⟨⟨rfl, (by first | exact absurd rfl hq2 | exact absurd rfl hq11 | exact absurd rfl hq19 | exact absurd rfl hq21 | exact absurd rfl hq24 | exact absurd rfl hq30 | exact absurd rfl hq35 | exact absurd rfl hq39 | exact absurd rfl hq40 | exact absurd rfl hq57 | exact absurd rfl hq45 | exact absurd rfl hq38 | exact absurd rfl hq34 | exact absurd rfl hq33 | exact absurd rfl hq29 | ((repeat' apply And.intro) <;> first | assumption | (simp only [yif0, Classical.not_not, ylt, yle, xcp0, xcp3, xcp5, xcp10, xcp12, xcp16, xcp22, yl_m1, yl_0, yl_1, yl_2, yl_3, yl_4, yl_5, yl_6, yl_7, yl_8, yl_9, yl_10, yl_11, yl_12, yl_15, yl_16, yl_20, yl_60, yl_64, yl_90, yl_97, yl_99, yl_100, yl_120, yl_239, yl_240] at *; first | omega | assumption | contradiction)))⟩, _, hXc39, (keepX.rfl'.trans hFc39), ((xkn.trans xkn.rfl' xkn_add)).w, rfl⟩)
set_option maxHeartbeats 4000000 in
set_option maxRecDepth 100000 in
theorem m_X8_place {l : Launch} {S0 : State} {A0 : Array Value} {D : va_G} {aC : Nat → ClassId} {ad : Nat → Nat} {G : AH} {σ : XS} (hS : yS l S0 A0 D aC) (hX : atX aC ad G σ) (guard : Int32) (minute : Int32) : yM l S0 D yX8_place cX8_place 3 (some .int) 12 2 12 [.ref (ad 1), .int guard, .int minute] G (fun r G1 => (r = some (.int (xsta σ guard minute)) ∧ ((0 ≤ guard ∧ guard ≤ σ.1 5 - 1) ∧ (0 ≤ minute ∧ minute ≤ 239))) ∧ ∃ σ1 : XS, atX aC ad G1 σ1 ∧ keepX G G1 ∧ xfr [] σ σ1 ∧ σ1 = σ) (fun E G1 => ((E = "java/lang/IndexOutOfBoundsException" ∧ (¬ (0 ≤ guard ∧ guard ≤ σ.1 5 - 1))) ∨ (E = "java/lang/IllegalArgumentException" ∧ ((0 ≤ guard ∧ guard ≤ σ.1 5 - 1) ∧ (¬ (0 ≤ minute ∧ minute ≤ 239))))) ∧ G1 = G) := by
  refine yM.ofK K_X8_place rfl (by decide) (Nat.le_of_ble_eq_true rfl) ?_
  refine y_blk 2 tq_X8_place (z := (2, [(0, .ref (ad 1)), (1, .int guard), (2, .int minute)], [.ref (ad 1), .int guard])) rfl ?_
  refine y_get hS tq_X8_place (v := .ref (ad 6)) rfl fg_X8_33_X8 (hX.1 1 _ rfl) rfl ?_
  refine y_blk 0 tq_X8_place (z := (5, [(0, .ref (ad 1)), (1, .int guard), (2, .int minute)], [.ref (ad 6), .int guard])) rfl ?_
  refine y_callV hS tq_X8_place rfl (As := []) rfl cv_X8_182 (hX.1 6 _ rfl) (m_X2_count hS hX ) rfl (by decide) (Nat.le_of_ble_eq_true rfl) (fun r5 Gc5 q5 => ?_) (fun E9 G9 h9 => h9.elim)
  obtain ⟨rfl, eG5⟩ := q5
  have eG5 := eG5.symm
  subst eG5
  refine y_blk 0 tq_X8_place (z := (8, [(0, .ref (ad 1)), (1, .int guard), (2, .int minute)], [.int (σ.1 5), .int guard])) rfl ?_
  refine y_callS hS tq_X8_place rfl (As := [.int guard, .int (σ.1 5)]) rfl cs_X8_164 (m_X8_needThere hS  guard (σ.1 5)) rfl (by decide) (Nat.le_of_ble_eq_true rfl) (fun r8 Gc8 q8 => ?_) (fun E9 G9 h9 => ⟨(Or.inl (And.intro h9.1.1 (by first | exact h9.1.2 | exact absurd h9.1.2 (by decide) | exact absurd rfl hq2 | exact absurd rfl hq11 | exact absurd rfl hq19 | exact absurd rfl hq21 | exact absurd rfl hq24 | exact absurd rfl hq30 | exact absurd rfl hq35 | exact absurd rfl hq39 | exact absurd rfl hq40 | exact absurd rfl hq57 | exact absurd rfl hq45 | exact absurd rfl hq38 | exact absurd rfl hq34 | exact absurd rfl hq33 | exact absurd rfl hq29 | (have z9 := h9.1.2; clear h9; (repeat' apply And.intro) <;> first | (first | assumption | (simp only [yif0, Classical.not_not, ylt, yle, xcp0, xcp3, xcp5, xcp10, xcp12, xcp16, xcp22, yl_m1, yl_0, yl_1, yl_2, yl_3, yl_4, yl_5, yl_6, yl_7, yl_8, yl_9, yl_10, yl_11, yl_12, yl_15, yl_16, yl_20, yl_60, yl_64, yl_90, yl_97, yl_99, yl_100, yl_120, yl_239, yl_240] at *; first | omega | assumption | contradiction)) | (intro q9; (simp only [yif0, Classical.not_not, ylt, yle, xcp0, xcp3, xcp5, xcp10, xcp12, xcp16, xcp22, yl_m1, yl_0, yl_1, yl_2, yl_3, yl_4, yl_5, yl_6, yl_7, yl_8, yl_9, yl_10, yl_11, yl_12, yl_15, yl_16, yl_20, yl_60, yl_64, yl_90, yl_97, yl_99, yl_100, yl_120, yl_239, yl_240] at *; first | omega | contradiction | (obtain ⟨qa, qb⟩ := q9; contradiction))))))), h9.2⟩)
  obtain ⟨⟨rfl, hq8⟩, eG8⟩ := q8
  have eG8 := eG8.symm
  subst eG8
  refine y_blk 1 tq_X8_place (z := (12, [(0, .ref (ad 1)), (1, .int guard), (2, .int minute)], [.int minute])) rfl ?_
  refine y_callS hS tq_X8_place rfl (As := [.int minute]) rfl cs_X8_139 (m_X8_isMinute hS  minute) rfl (by decide) (Nat.le_of_ble_eq_true rfl) (fun r12 Gc12 q12 => ?_) (fun E9 G9 h9 => h9.elim)
  obtain ⟨rfl, eG12⟩ := q12
  have eG12 := eG12.symm
  subst eG12
  refine y_blk 0 tq_X8_place (z := (15, [(0, .ref (ad 1)), (1, .int guard), (2, .int minute)], [.int (if 0 ≤ minute ∧ minute ≤ 239 then 1 else 0)])) rfl ?_
  refine y_callS hS tq_X8_place rfl (As := [.int (if 0 ≤ minute ∧ minute ≤ 239 then 1 else 0)]) rfl cs_X8_117 (m_X8_needLet hS  (if 0 ≤ minute ∧ minute ≤ 239 then 1 else 0)) rfl (by decide) (Nat.le_of_ble_eq_true rfl) (fun r15 Gc15 q15 => ?_) (fun E9 G9 h9 => ⟨(Or.inr (And.intro h9.1.1 (by first | exact h9.1.2 | exact absurd h9.1.2 (by decide) | exact absurd rfl hq2 | exact absurd rfl hq11 | exact absurd rfl hq19 | exact absurd rfl hq21 | exact absurd rfl hq24 | exact absurd rfl hq30 | exact absurd rfl hq35 | exact absurd rfl hq39 | exact absurd rfl hq40 | exact absurd rfl hq57 | exact absurd rfl hq45 | exact absurd rfl hq38 | exact absurd rfl hq34 | exact absurd rfl hq33 | exact absurd rfl hq29 | (have z9 := h9.1.2; clear h9; (repeat' apply And.intro) <;> first | (first | assumption | (simp only [yif0, Classical.not_not, ylt, yle, xcp0, xcp3, xcp5, xcp10, xcp12, xcp16, xcp22, yl_m1, yl_0, yl_1, yl_2, yl_3, yl_4, yl_5, yl_6, yl_7, yl_8, yl_9, yl_10, yl_11, yl_12, yl_15, yl_16, yl_20, yl_60, yl_64, yl_90, yl_97, yl_99, yl_100, yl_120, yl_239, yl_240] at *; first | omega | assumption | contradiction)) | (intro q9; (simp only [yif0, Classical.not_not, ylt, yle, xcp0, xcp3, xcp5, xcp10, xcp12, xcp16, xcp22, yl_m1, yl_0, yl_1, yl_2, yl_3, yl_4, yl_5, yl_6, yl_7, yl_8, yl_9, yl_10, yl_11, yl_12, yl_15, yl_16, yl_20, yl_60, yl_64, yl_90, yl_97, yl_99, yl_100, yl_120, yl_239, yl_240] at *; first | omega | contradiction | (obtain ⟨qa, qb⟩ := q9; contradiction))))))), h9.2⟩)
  obtain ⟨⟨rfl, hq15⟩, eG15⟩ := q15
  have eG15 := eG15.symm
  subst eG15
  refine y_blk 1 tq_X8_place (z := (19, [(0, .ref (ad 1)), (1, .int guard), (2, .int minute)], [.ref (ad 1)])) rfl ?_
  refine y_get hS tq_X8_place (v := .ref (ad 6)) rfl fg_X8_33_X8 (hX.1 1 _ rfl) rfl ?_
  refine y_blk 2 tq_X8_place (z := (24, [(0, .ref (ad 1)), (1, .int guard), (2, .int minute)], [.int minute, .int guard, .ref (ad 6)])) rfl ?_
  refine y_callV hS tq_X8_place rfl (As := [.int guard, .int minute]) rfl cv_X8_196 (hX.1 6 _ rfl) (m_X2_standAt_ok hS hX guard minute) rfl (by decide) (Nat.le_of_ble_eq_true rfl) (fun r24 Gc24 q24 => ?_) (fun E9 G9 h9 => h9.elim)
  obtain ⟨rfl, eG24⟩ := q24
  have eG24 := eG24.symm
  subst eG24
  refine y_blk 0 tq_X8_place (z := (27, [(0, .ref (ad 1)), (1, .int guard), (2, .int minute)], [.int (xsta σ guard minute)])) rfl ?_
  exact y_iret tq_X8_place rfl rfl (⟨⟨rfl, (by first | exact absurd rfl hq2 | exact absurd rfl hq11 | exact absurd rfl hq19 | exact absurd rfl hq21 | exact absurd rfl hq24 | exact absurd rfl hq30 | exact absurd rfl hq35 | exact absurd rfl hq39 | exact absurd rfl hq40 | exact absurd rfl hq57 | exact absurd rfl hq45 | exact absurd rfl hq38 | exact absurd rfl hq34 | exact absurd rfl hq33 | exact absurd rfl hq29 | ((repeat' apply And.intro) <;> first | assumption | (simp only [yif0, Classical.not_not, ylt, yle, xcp0, xcp3, xcp5, xcp10, xcp12, xcp16, xcp22, yl_m1, yl_0, yl_1, yl_2, yl_3, yl_4, yl_5, yl_6, yl_7, yl_8, yl_9, yl_10, yl_11, yl_12, yl_15, yl_16, yl_20, yl_60, yl_64, yl_90, yl_97, yl_99, yl_100, yl_120, yl_239, yl_240] at *; first | omega | assumption | contradiction)))⟩, _, hX, keepX.rfl', (xkn.rfl').w, rfl⟩)
set_option maxHeartbeats 4000000 in
set_option maxRecDepth 100000 in
theorem m_X8_sees {l : Launch} {S0 : State} {A0 : Array Value} {D : va_G} {aC : Nat → ClassId} {ad : Nat → Nat} {G : AH} {σ : XS} (hS : yS l S0 A0 D aC) (hX : atX aC ad G σ) (guard : Int32) (cell : Int32) (minute : Int32) : yM l S0 D yX8_sees cX8_sees 4 (some .boolean) 13 3 18 [.ref (ad 1), .int guard, .int cell, .int minute] G (fun r G1 => (∃ v : Int32, (v = 0 ∨ v = 1) ∧ r = some (.int v)) ∧ G1 = G) (fun E G1 => (E = "java/lang/IndexOutOfBoundsException" ∨ E = "java/lang/IllegalArgumentException") ∧ G1 = G) := by
  refine yM.ofK K_X8_sees rfl (by decide) (Nat.le_of_ble_eq_true rfl) ?_
  refine y_blk 2 tq_X8_sees (z := (2, [(0, .ref (ad 1)), (1, .int guard), (2, .int cell), (3, .int minute)], [.ref (ad 1), .int guard])) rfl ?_
  refine y_get hS tq_X8_sees (v := .ref (ad 6)) rfl fg_X8_33_X8 (hX.1 1 _ rfl) rfl ?_
  refine y_blk 0 tq_X8_sees (z := (5, [(0, .ref (ad 1)), (1, .int guard), (2, .int cell), (3, .int minute)], [.ref (ad 6), .int guard])) rfl ?_
  refine y_callV hS tq_X8_sees rfl (As := []) rfl cv_X8_182 (hX.1 6 _ rfl) (m_X2_count hS hX ) rfl (by decide) (Nat.le_of_ble_eq_true rfl) (fun r5 Gc5 q5 => ?_) (fun E9 G9 h9 => h9.elim)
  obtain ⟨rfl, eG5⟩ := q5
  have eG5 := eG5.symm
  subst eG5
  refine y_blk 0 tq_X8_sees (z := (8, [(0, .ref (ad 1)), (1, .int guard), (2, .int cell), (3, .int minute)], [.int (σ.1 5), .int guard])) rfl ?_
  refine y_callS hS tq_X8_sees rfl (As := [.int guard, .int (σ.1 5)]) rfl cs_X8_199 (m_X8_needNoneOrThere hS  guard (σ.1 5)) rfl (by decide) (Nat.le_of_ble_eq_true rfl) (fun r8 Gc8 q8 => ?_) (fun E9 G9 h9 => ⟨(Or.inl h9.1.1), h9.2⟩)
  obtain ⟨⟨rfl, hq8⟩, eG8⟩ := q8
  have eG8 := eG8.symm
  subst eG8
  refine y_blk 2 tq_X8_sees (z := (13, [(0, .ref (ad 1)), (1, .int guard), (2, .int cell), (3, .int minute)], [.int cell, .ref (ad 1)])) rfl ?_
  refine y_callV hS tq_X8_sees rfl (As := [.int cell]) rfl cv_X8_114 (hX.1 1 _ rfl) (m_X8_needCell hS hX cell) rfl (by decide) (Nat.le_of_ble_eq_true rfl) (fun r13 Gc13 q13 => ?_) (fun E9 G9 h9 => ⟨(Or.inl h9.1.1), h9.2⟩)
  obtain ⟨⟨rfl, hq13⟩, eG13⟩ := q13
  have eG13 := eG13.symm
  subst eG13
  refine y_blk 1 tq_X8_sees (z := (17, [(0, .ref (ad 1)), (1, .int guard), (2, .int cell), (3, .int minute)], [.int minute])) rfl ?_
  refine y_callS hS tq_X8_sees rfl (As := [.int minute]) rfl cs_X8_139 (m_X8_isMinute hS  minute) rfl (by decide) (Nat.le_of_ble_eq_true rfl) (fun r17 Gc17 q17 => ?_) (fun E9 G9 h9 => h9.elim)
  obtain ⟨rfl, eG17⟩ := q17
  have eG17 := eG17.symm
  subst eG17
  refine y_blk 0 tq_X8_sees (z := (20, [(0, .ref (ad 1)), (1, .int guard), (2, .int cell), (3, .int minute)], [.int (if 0 ≤ minute ∧ minute ≤ 239 then 1 else 0)])) rfl ?_
  refine y_callS hS tq_X8_sees rfl (As := [.int (if 0 ≤ minute ∧ minute ≤ 239 then 1 else 0)]) rfl cs_X8_117 (m_X8_needLet hS  (if 0 ≤ minute ∧ minute ≤ 239 then 1 else 0)) rfl (by decide) (Nat.le_of_ble_eq_true rfl) (fun r20 Gc20 q20 => ?_) (fun E9 G9 h9 => ⟨(Or.inr h9.1.1), h9.2⟩)
  obtain ⟨⟨rfl, hq20⟩, eG20⟩ := q20
  have eG20 := eG20.symm
  subst eG20
  refine y_blk 4 tq_X8_sees (z := (27, [(0, .ref (ad 1)), (1, .int guard), (2, .int cell), (3, .int minute)], [.ref (ad 1), .int minute, .int guard, .ref (ad 1)])) rfl ?_
  refine y_callV hS tq_X8_sees rfl (As := []) rfl cv_X8_171 (hX.1 1 _ rfl) (m_X8_brightCells hS hX ) rfl (by decide) (Nat.le_of_ble_eq_true rfl) (fun r27 Gc27 q27 => ?_) (fun E9 G9 h9 => h9.elim)
  obtain ⟨⟨x27, rfl⟩, eG27⟩ := q27
  have eG27 := eG27.symm
  subst eG27
  refine y_blk 0 tq_X8_sees (z := (30, [(0, .ref (ad 1)), (1, .int guard), (2, .int cell), (3, .int minute)], [.long x27, .int minute, .int guard, .ref (ad 1)])) rfl ?_
  refine y_callV hS tq_X8_sees rfl (As := [.int guard, .int minute, .long x27]) rfl cv_X8_202 (hX.1 1 _ rfl) (m_X8_sightOf hS hX guard minute x27 (by cases hq8 with | inl q => (rw [q]; decide) | inr q => (have h5 := hX.2.1 5; have h6 := xcap_le 5; have q2 := q.2; rw [yle, ysub (by rw [yl_1]; omega) (by rw [yl_1]; omega), yl_1] at q2; omega))) rfl (by decide) (Nat.le_of_ble_eq_true rfl) (fun r30 Gc30 q30 => ?_) (fun E9 G9 h9 => h9.elim)
  obtain ⟨⟨x30, rfl⟩, eG30⟩ := q30
  have eG30 := eG30.symm
  subst eG30
  refine y_blk 1 tq_X8_sees (z := (34, [(0, .ref (ad 1)), (1, .int guard), (2, .int cell), (3, .int minute)], [.int cell, .long x30])) rfl ?_
  refine y_callS hS tq_X8_sees rfl (As := [.long x30, .int cell]) rfl cs_X8_124 (m_X8_isOf hS  x30 cell) rfl (by decide) (Nat.le_of_ble_eq_true rfl) (fun r34 Gc34 q34 => ?_) (fun E9 G9 h9 => h9.elim)
  obtain ⟨rfl, eG34⟩ := q34
  have eG34 := eG34.symm
  subst eG34
  refine y_blk 0 tq_X8_sees (z := (37, [(0, .ref (ad 1)), (1, .int guard), (2, .int cell), (3, .int minute)], [.int (if xis x30 cell then 1 else 0)])) rfl ?_
  exact y_zret tq_X8_sees rfl rfl (y01 (y01i _)) (⟨⟨_, (y01i _), rfl⟩, rfl⟩)
set_option maxHeartbeats 4000000 in
set_option maxRecDepth 100000 in
theorem m_X8_ofCell {l : Launch} {S0 : State} {A0 : Array Value} {D : va_G} {aC : Nat → ClassId} {ad : Nat → Nat} {G : AH} {σ : XS} (hS : yS l S0 A0 D aC) (hX : atX aC ad G σ) (cell : Int32) (minute : Int32) (what : Int32) : yM l S0 D yX8_ofCell cX8_ofCell 4 (some .int) 14 2 12 [.ref (ad 1), .int cell, .int minute, .int what] G (fun r G1 => (∃ v : Int32, r = some (.int v)) ∧ G1 = G) (fun E G1 => ((E = "java/lang/IndexOutOfBoundsException" ∧ ¬ (0 ≤ cell ∧ cell ≤ σ.2.2.1 0 * σ.2.2.1 1 - 1)) ∨ (E = "java/lang/IllegalArgumentException" ∧ ¬ ((0 ≤ minute ∧ minute ≤ 239) ∧ (0 ≤ what ∧ what ≤ 4)))) ∧ G1 = G) := by
  refine yM.ofK K_X8_ofCell rfl (by decide) (Nat.le_of_ble_eq_true rfl) ?_
  refine y_blk 2 tq_X8_ofCell (z := (2, [(0, .ref (ad 1)), (1, .int cell), (2, .int minute), (3, .int what)], [.int cell, .ref (ad 1)])) rfl ?_
  refine y_callV hS tq_X8_ofCell rfl (As := [.int cell]) rfl cv_X8_114 (hX.1 1 _ rfl) (m_X8_needCell hS hX cell) rfl (by decide) (Nat.le_of_ble_eq_true rfl) (fun r2 Gc2 q2 => ?_) (fun E9 G9 h9 => ⟨(Or.inl h9.1), h9.2⟩)
  obtain ⟨⟨rfl, hq2⟩, eG2⟩ := q2
  have eG2 := eG2.symm
  subst eG2
  refine y_blk 1 tq_X8_ofCell (z := (6, [(0, .ref (ad 1)), (1, .int cell), (2, .int minute), (3, .int what)], [.int minute])) rfl ?_
  refine y_callS hS tq_X8_ofCell rfl (As := [.int minute]) rfl cs_X8_139 (m_X8_isMinute hS  minute) rfl (by decide) (Nat.le_of_ble_eq_true rfl) (fun r6 Gc6 q6 => ?_) (fun E9 G9 h9 => h9.elim)
  obtain ⟨rfl, eG6⟩ := q6
  have eG6 := eG6.symm
  subst eG6
  refine y_blk 0 tq_X8_ofCell (z := (9, [(0, .ref (ad 1)), (1, .int cell), (2, .int minute), (3, .int what)], [.int (if 0 ≤ minute ∧ minute ≤ 239 then 1 else 0)])) rfl ?_
  refine y_if_eq tq_X8_ofCell 25 rfl rfl (fun c9 => ?_) (fun c9 => ?_)
  · skip
    refine y_blk 1 tq_X8_ofCell (z := (26, [(0, .ref (ad 1)), (1, .int cell), (2, .int minute), (3, .int what)], [.int 0])) rfl ?_
    refine y_callS hS tq_X8_ofCell rfl (As := [.int 0]) rfl cs_X8_117 (m_X8_needLet hS  0) rfl (by decide) (Nat.le_of_ble_eq_true rfl) (fun r26 Gc26 q26 => ?_) (fun E9 G9 h9 => ⟨(Or.inr (And.intro h9.1.1 (by first | exact absurd h9.1.2 (by decide) | (intro q9; have z9 := h9.1.2; clear h9; (simp only [yif0, Classical.not_not, ylt, yle, yl_m1, yl_0, yl_1, yl_2, yl_3, yl_4, yl_5, yl_6, yl_7, yl_8, yl_9, yl_10, yl_11, yl_12, yl_15, yl_16, yl_20, yl_60, yl_64, yl_90, yl_97, yl_99, yl_100, yl_120, yl_239, yl_240] at *; omega))))), h9.2⟩)
    obtain ⟨⟨rfl, hq26⟩, eG26⟩ := q26
    have eG26 := eG26.symm
    subst eG26
    refine y_blk 1 tq_X8_ofCell (z := (30, [(0, .ref (ad 1)), (1, .int cell), (2, .int minute), (3, .int what)], [.int what])) rfl ?_
    by_cases s30_0 : what = 0
    · refine y_swIn tq_X8_ofCell 60 rfl (by rw [s30_0]; decide) (by rw [s30_0]; decide) (by rw [s30_0]; rfl) rfl ?_
      refine y_blk 1 tq_X8_ofCell (z := (61, [(0, .ref (ad 1)), (1, .int cell), (2, .int minute), (3, .int what)], [.ref (ad 1)])) rfl ?_
      refine y_get hS tq_X8_ofCell (v := .ref (ad 2)) rfl fg_X8_10_X8 (hX.1 1 _ rfl) rfl ?_
      refine y_blk 1 tq_X8_ofCell (z := (65, [(0, .ref (ad 1)), (1, .int cell), (2, .int minute), (3, .int what)], [.int cell, .ref (ad 2)])) rfl ?_
      refine y_callV hS tq_X8_ofCell rfl (As := [.int cell]) rfl cv_X8_131 (hX.1 2 _ rfl) (m_X1_kindOf hS hX cell) rfl (by decide) (Nat.le_of_ble_eq_true rfl) (fun r65 Gc65 q65 => ?_) (fun E9 G9 h9 => h9.elim)
      obtain ⟨rfl, eG65⟩ := q65
      have eG65 := eG65.symm
      subst eG65
      refine y_blk 0 tq_X8_ofCell (z := (68, [(0, .ref (ad 1)), (1, .int cell), (2, .int minute), (3, .int what)], [.int (xkf σ cell)])) rfl ?_
      exact y_iret tq_X8_ofCell rfl rfl (⟨⟨_, rfl⟩, rfl⟩)
    by_cases s30_1 : what = 1
    · refine y_swIn tq_X8_ofCell 69 rfl (by rw [s30_1]; decide) (by rw [s30_1]; decide) (by rw [s30_1]; rfl) rfl ?_
      refine y_blk 1 tq_X8_ofCell (z := (70, [(0, .ref (ad 1)), (1, .int cell), (2, .int minute), (3, .int what)], [.ref (ad 1)])) rfl ?_
      refine y_callV hS tq_X8_ofCell rfl (As := []) rfl cv_X8_171 (hX.1 1 _ rfl) (m_X8_brightCells hS hX ) rfl (by decide) (Nat.le_of_ble_eq_true rfl) (fun r70 Gc70 q70 => ?_) (fun E9 G9 h9 => h9.elim)
      obtain ⟨⟨x70, rfl⟩, eG70⟩ := q70
      have eG70 := eG70.symm
      subst eG70
      refine y_blk 1 tq_X8_ofCell (z := (74, [(0, .ref (ad 1)), (1, .int cell), (2, .int minute), (3, .int what)], [.int cell, .long x70])) rfl ?_
      refine y_callS hS tq_X8_ofCell rfl (As := [.long x70, .int cell]) rfl cs_X8_124 (m_X8_isOf hS  x70 cell) rfl (by decide) (Nat.le_of_ble_eq_true rfl) (fun r74 Gc74 q74 => ?_) (fun E9 G9 h9 => h9.elim)
      obtain ⟨rfl, eG74⟩ := q74
      have eG74 := eG74.symm
      subst eG74
      refine y_blk 0 tq_X8_ofCell (z := (77, [(0, .ref (ad 1)), (1, .int cell), (2, .int minute), (3, .int what)], [.int (if xis x70 cell then 1 else 0)])) rfl ?_
      refine y_if_eq tq_X8_ofCell 84 rfl rfl (fun c77 => ?_) (fun c77 => ?_)
      · skip
        refine y_blk 1 tq_X8_ofCell (z := (85, [(0, .ref (ad 1)), (1, .int cell), (2, .int minute), (3, .int what)], [.int 0])) rfl ?_
        exact y_iret tq_X8_ofCell rfl rfl (⟨⟨_, rfl⟩, rfl⟩)
      · skip
        refine y_blk 2 tq_X8_ofCell (z := (85, [(0, .ref (ad 1)), (1, .int cell), (2, .int minute), (3, .int what)], [.int 1])) rfl ?_
        exact y_iret tq_X8_ofCell rfl rfl (⟨⟨_, rfl⟩, rfl⟩)
    by_cases s30_2 : what = 2
    · refine y_swIn tq_X8_ofCell 86 rfl (by rw [s30_2]; decide) (by rw [s30_2]; decide) (by rw [s30_2]; rfl) rfl ?_
      refine y_blk 3 tq_X8_ofCell (z := (89, [(0, .ref (ad 1)), (1, .int cell), (2, .int minute), (3, .int what)], [.int minute, .int cell, .ref (ad 1)])) rfl ?_
      refine y_callV hS tq_X8_ofCell rfl (As := [.int cell, .int minute]) rfl cv_X8_206 (hX.1 1 _ rfl) (m_X8_guardsWhoSee hS hX cell minute) rfl (by decide) (Nat.le_of_ble_eq_true rfl) (fun r89 Gc89 q89 => ?_) (fun E9 G9 h9 => h9.elim)
      obtain ⟨⟨x89, rfl⟩, eG89⟩ := q89
      have eG89 := eG89.symm
      subst eG89
      refine y_blk 0 tq_X8_ofCell (z := (92, [(0, .ref (ad 1)), (1, .int cell), (2, .int minute), (3, .int what)], [.int x89])) rfl ?_
      exact y_iret tq_X8_ofCell rfl rfl (⟨⟨_, rfl⟩, rfl⟩)
    by_cases s30_3 : what = 3
    · refine y_swIn tq_X8_ofCell 93 rfl (by rw [s30_3]; decide) (by rw [s30_3]; decide) (by rw [s30_3]; rfl) rfl ?_
      refine y_blk 1 tq_X8_ofCell (z := (94, [(0, .ref (ad 1)), (1, .int cell), (2, .int minute), (3, .int what)], [.ref (ad 1)])) rfl ?_
      refine y_get hS tq_X8_ofCell (v := .ref (ad 6)) rfl fg_X8_33_X8 (hX.1 1 _ rfl) rfl ?_
      refine y_blk 2 tq_X8_ofCell (z := (99, [(0, .ref (ad 1)), (1, .int cell), (2, .int minute), (3, .int what)], [.int minute, .int cell, .ref (ad 6)])) rfl ?_
      refine y_callV hS tq_X8_ofCell rfl (As := [.int cell, .int minute]) rfl cv_X8_209 (hX.1 6 _ rfl) (m_X2_setOn hS hX cell minute) rfl (by decide) (Nat.le_of_ble_eq_true rfl) (fun r99 Gc99 q99 => ?_) (fun E9 G9 h9 => h9.elim)
      obtain ⟨⟨x99, rfl⟩, eG99⟩ := q99
      have eG99 := eG99.symm
      subst eG99
      refine y_blk 0 tq_X8_ofCell (z := (102, [(0, .ref (ad 1)), (1, .int cell), (2, .int minute), (3, .int what)], [.int x99])) rfl ?_
      exact y_iret tq_X8_ofCell rfl rfl (⟨⟨_, rfl⟩, rfl⟩)
    refine y_swOut tq_X8_ofCell 103 rfl (by have z0 : what.toInt ≠ 0 := fun q => s30_0 (Int32.toInt_inj.mp (q.trans (by decide))); have z1 : what.toInt ≠ 1 := fun q => s30_1 (Int32.toInt_inj.mp (q.trans (by decide))); have z2 : what.toInt ≠ 2 := fun q => s30_2 (Int32.toInt_inj.mp (q.trans (by decide))); have z3 : what.toInt ≠ 3 := fun q => s30_3 (Int32.toInt_inj.mp (q.trans (by decide))); omega) rfl ?_
    refine y_blk 1 tq_X8_ofCell (z := (104, [(0, .ref (ad 1)), (1, .int cell), (2, .int minute), (3, .int what)], [.ref (ad 1)])) rfl ?_
    refine y_get hS tq_X8_ofCell (v := .ref (ad 2)) rfl fg_X8_10_X8 (hX.1 1 _ rfl) rfl ?_
    refine y_blk 1 tq_X8_ofCell (z := (108, [(0, .ref (ad 1)), (1, .int cell), (2, .int minute), (3, .int what)], [.int minute, .ref (ad 2)])) rfl ?_
    refine y_callV hS tq_X8_ofCell rfl (As := [.int minute]) rfl cv_X8_212 (hX.1 2 _ rfl) (m_X1_walkable hS hX minute) rfl (by decide) (Nat.le_of_ble_eq_true rfl) (fun r108 Gc108 q108 => ?_) (fun E9 G9 h9 => h9.elim)
    obtain ⟨⟨x108, rfl⟩, eG108⟩ := q108
    have eG108 := eG108.symm
    subst eG108
    refine y_blk 1 tq_X8_ofCell (z := (112, [(0, .ref (ad 1)), (1, .int cell), (2, .int minute), (3, .int what)], [.int cell, .long x108])) rfl ?_
    refine y_callS hS tq_X8_ofCell rfl (As := [.long x108, .int cell]) rfl cs_X8_124 (m_X8_isOf hS  x108 cell) rfl (by decide) (Nat.le_of_ble_eq_true rfl) (fun r112 Gc112 q112 => ?_) (fun E9 G9 h9 => h9.elim)
    obtain ⟨rfl, eG112⟩ := q112
    have eG112 := eG112.symm
    subst eG112
    refine y_blk 0 tq_X8_ofCell (z := (115, [(0, .ref (ad 1)), (1, .int cell), (2, .int minute), (3, .int what)], [.int (if xis x108 cell then 1 else 0)])) rfl ?_
    refine y_if_eq tq_X8_ofCell 122 rfl rfl (fun c115 => ?_) (fun c115 => ?_)
    · skip
      refine y_blk 1 tq_X8_ofCell (z := (123, [(0, .ref (ad 1)), (1, .int cell), (2, .int minute), (3, .int what)], [.int 0])) rfl ?_
      exact y_iret tq_X8_ofCell rfl rfl (⟨⟨_, rfl⟩, rfl⟩)
    · skip
      refine y_blk 2 tq_X8_ofCell (z := (123, [(0, .ref (ad 1)), (1, .int cell), (2, .int minute), (3, .int what)], [.int 1])) rfl ?_
      exact y_iret tq_X8_ofCell rfl rfl (⟨⟨_, rfl⟩, rfl⟩)
  · skip
    refine y_blk 3 tq_X8_ofCell (z := (15, [(0, .ref (ad 1)), (1, .int cell), (2, .int minute), (3, .int what)], [.int 4, .int 0, .int what])) rfl ?_
    refine y_callS hS tq_X8_ofCell rfl (As := [.int what, .int 0, .int 4]) rfl cs_X8_76 (m_X8_isIn hS  what 0 4) rfl (by decide) (Nat.le_of_ble_eq_true rfl) (fun r15 Gc15 q15 => ?_) (fun E9 G9 h9 => h9.elim)
    obtain ⟨rfl, eG15⟩ := q15
    have eG15 := eG15.symm
    subst eG15
    refine y_blk 0 tq_X8_ofCell (z := (18, [(0, .ref (ad 1)), (1, .int cell), (2, .int minute), (3, .int what)], [.int (if 0 ≤ what ∧ what ≤ 4 then 1 else 0)])) rfl ?_
    refine y_if_eq tq_X8_ofCell 25 rfl rfl (fun c18 => ?_) (fun c18 => ?_)
    · skip
      refine y_blk 1 tq_X8_ofCell (z := (26, [(0, .ref (ad 1)), (1, .int cell), (2, .int minute), (3, .int what)], [.int 0])) rfl ?_
      refine y_callS hS tq_X8_ofCell rfl (As := [.int 0]) rfl cs_X8_117 (m_X8_needLet hS  0) rfl (by decide) (Nat.le_of_ble_eq_true rfl) (fun r26 Gc26 q26 => ?_) (fun E9 G9 h9 => ⟨(Or.inr (And.intro h9.1.1 (by first | exact absurd h9.1.2 (by decide) | (intro q9; have z9 := h9.1.2; clear h9; (simp only [yif0, Classical.not_not, ylt, yle, yl_m1, yl_0, yl_1, yl_2, yl_3, yl_4, yl_5, yl_6, yl_7, yl_8, yl_9, yl_10, yl_11, yl_12, yl_15, yl_16, yl_20, yl_60, yl_64, yl_90, yl_97, yl_99, yl_100, yl_120, yl_239, yl_240] at *; omega))))), h9.2⟩)
      obtain ⟨⟨rfl, hq26⟩, eG26⟩ := q26
      have eG26 := eG26.symm
      subst eG26
      refine y_blk 1 tq_X8_ofCell (z := (30, [(0, .ref (ad 1)), (1, .int cell), (2, .int minute), (3, .int what)], [.int what])) rfl ?_
      by_cases s30_0 : what = 0
      · refine y_swIn tq_X8_ofCell 60 rfl (by rw [s30_0]; decide) (by rw [s30_0]; decide) (by rw [s30_0]; rfl) rfl ?_
        refine y_blk 1 tq_X8_ofCell (z := (61, [(0, .ref (ad 1)), (1, .int cell), (2, .int minute), (3, .int what)], [.ref (ad 1)])) rfl ?_
        refine y_get hS tq_X8_ofCell (v := .ref (ad 2)) rfl fg_X8_10_X8 (hX.1 1 _ rfl) rfl ?_
        refine y_blk 1 tq_X8_ofCell (z := (65, [(0, .ref (ad 1)), (1, .int cell), (2, .int minute), (3, .int what)], [.int cell, .ref (ad 2)])) rfl ?_
        refine y_callV hS tq_X8_ofCell rfl (As := [.int cell]) rfl cv_X8_131 (hX.1 2 _ rfl) (m_X1_kindOf hS hX cell) rfl (by decide) (Nat.le_of_ble_eq_true rfl) (fun r65 Gc65 q65 => ?_) (fun E9 G9 h9 => h9.elim)
        obtain ⟨rfl, eG65⟩ := q65
        have eG65 := eG65.symm
        subst eG65
        refine y_blk 0 tq_X8_ofCell (z := (68, [(0, .ref (ad 1)), (1, .int cell), (2, .int minute), (3, .int what)], [.int (xkf σ cell)])) rfl ?_
        exact y_iret tq_X8_ofCell rfl rfl (⟨⟨_, rfl⟩, rfl⟩)
      by_cases s30_1 : what = 1
      · refine y_swIn tq_X8_ofCell 69 rfl (by rw [s30_1]; decide) (by rw [s30_1]; decide) (by rw [s30_1]; rfl) rfl ?_
        refine y_blk 1 tq_X8_ofCell (z := (70, [(0, .ref (ad 1)), (1, .int cell), (2, .int minute), (3, .int what)], [.ref (ad 1)])) rfl ?_
        refine y_callV hS tq_X8_ofCell rfl (As := []) rfl cv_X8_171 (hX.1 1 _ rfl) (m_X8_brightCells hS hX ) rfl (by decide) (Nat.le_of_ble_eq_true rfl) (fun r70 Gc70 q70 => ?_) (fun E9 G9 h9 => h9.elim)
        obtain ⟨⟨x70, rfl⟩, eG70⟩ := q70
        have eG70 := eG70.symm
        subst eG70
        refine y_blk 1 tq_X8_ofCell (z := (74, [(0, .ref (ad 1)), (1, .int cell), (2, .int minute), (3, .int what)], [.int cell, .long x70])) rfl ?_
        refine y_callS hS tq_X8_ofCell rfl (As := [.long x70, .int cell]) rfl cs_X8_124 (m_X8_isOf hS  x70 cell) rfl (by decide) (Nat.le_of_ble_eq_true rfl) (fun r74 Gc74 q74 => ?_) (fun E9 G9 h9 => h9.elim)
        obtain ⟨rfl, eG74⟩ := q74
        have eG74 := eG74.symm
        subst eG74
        refine y_blk 0 tq_X8_ofCell (z := (77, [(0, .ref (ad 1)), (1, .int cell), (2, .int minute), (3, .int what)], [.int (if xis x70 cell then 1 else 0)])) rfl ?_
        refine y_if_eq tq_X8_ofCell 84 rfl rfl (fun c77 => ?_) (fun c77 => ?_)
        · skip
          refine y_blk 1 tq_X8_ofCell (z := (85, [(0, .ref (ad 1)), (1, .int cell), (2, .int minute), (3, .int what)], [.int 0])) rfl ?_
          exact y_iret tq_X8_ofCell rfl rfl (⟨⟨_, rfl⟩, rfl⟩)
        · skip
          refine y_blk 2 tq_X8_ofCell (z := (85, [(0, .ref (ad 1)), (1, .int cell), (2, .int minute), (3, .int what)], [.int 1])) rfl ?_
          exact y_iret tq_X8_ofCell rfl rfl (⟨⟨_, rfl⟩, rfl⟩)
      by_cases s30_2 : what = 2
      · refine y_swIn tq_X8_ofCell 86 rfl (by rw [s30_2]; decide) (by rw [s30_2]; decide) (by rw [s30_2]; rfl) rfl ?_
        refine y_blk 3 tq_X8_ofCell (z := (89, [(0, .ref (ad 1)), (1, .int cell), (2, .int minute), (3, .int what)], [.int minute, .int cell, .ref (ad 1)])) rfl ?_
        refine y_callV hS tq_X8_ofCell rfl (As := [.int cell, .int minute]) rfl cv_X8_206 (hX.1 1 _ rfl) (m_X8_guardsWhoSee hS hX cell minute) rfl (by decide) (Nat.le_of_ble_eq_true rfl) (fun r89 Gc89 q89 => ?_) (fun E9 G9 h9 => h9.elim)
        obtain ⟨⟨x89, rfl⟩, eG89⟩ := q89
        have eG89 := eG89.symm
        subst eG89
        refine y_blk 0 tq_X8_ofCell (z := (92, [(0, .ref (ad 1)), (1, .int cell), (2, .int minute), (3, .int what)], [.int x89])) rfl ?_
        exact y_iret tq_X8_ofCell rfl rfl (⟨⟨_, rfl⟩, rfl⟩)
      by_cases s30_3 : what = 3
      · refine y_swIn tq_X8_ofCell 93 rfl (by rw [s30_3]; decide) (by rw [s30_3]; decide) (by rw [s30_3]; rfl) rfl ?_
        refine y_blk 1 tq_X8_ofCell (z := (94, [(0, .ref (ad 1)), (1, .int cell), (2, .int minute), (3, .int what)], [.ref (ad 1)])) rfl ?_
        refine y_get hS tq_X8_ofCell (v := .ref (ad 6)) rfl fg_X8_33_X8 (hX.1 1 _ rfl) rfl ?_
        refine y_blk 2 tq_X8_ofCell (z := (99, [(0, .ref (ad 1)), (1, .int cell), (2, .int minute), (3, .int what)], [.int minute, .int cell, .ref (ad 6)])) rfl ?_
        refine y_callV hS tq_X8_ofCell rfl (As := [.int cell, .int minute]) rfl cv_X8_209 (hX.1 6 _ rfl) (m_X2_setOn hS hX cell minute) rfl (by decide) (Nat.le_of_ble_eq_true rfl) (fun r99 Gc99 q99 => ?_) (fun E9 G9 h9 => h9.elim)
        obtain ⟨⟨x99, rfl⟩, eG99⟩ := q99
        have eG99 := eG99.symm
        subst eG99
        refine y_blk 0 tq_X8_ofCell (z := (102, [(0, .ref (ad 1)), (1, .int cell), (2, .int minute), (3, .int what)], [.int x99])) rfl ?_
        exact y_iret tq_X8_ofCell rfl rfl (⟨⟨_, rfl⟩, rfl⟩)
      refine y_swOut tq_X8_ofCell 103 rfl (by have z0 : what.toInt ≠ 0 := fun q => s30_0 (Int32.toInt_inj.mp (q.trans (by decide))); have z1 : what.toInt ≠ 1 := fun q => s30_1 (Int32.toInt_inj.mp (q.trans (by decide))); have z2 : what.toInt ≠ 2 := fun q => s30_2 (Int32.toInt_inj.mp (q.trans (by decide))); have z3 : what.toInt ≠ 3 := fun q => s30_3 (Int32.toInt_inj.mp (q.trans (by decide))); omega) rfl ?_
      refine y_blk 1 tq_X8_ofCell (z := (104, [(0, .ref (ad 1)), (1, .int cell), (2, .int minute), (3, .int what)], [.ref (ad 1)])) rfl ?_
      refine y_get hS tq_X8_ofCell (v := .ref (ad 2)) rfl fg_X8_10_X8 (hX.1 1 _ rfl) rfl ?_
      refine y_blk 1 tq_X8_ofCell (z := (108, [(0, .ref (ad 1)), (1, .int cell), (2, .int minute), (3, .int what)], [.int minute, .ref (ad 2)])) rfl ?_
      refine y_callV hS tq_X8_ofCell rfl (As := [.int minute]) rfl cv_X8_212 (hX.1 2 _ rfl) (m_X1_walkable hS hX minute) rfl (by decide) (Nat.le_of_ble_eq_true rfl) (fun r108 Gc108 q108 => ?_) (fun E9 G9 h9 => h9.elim)
      obtain ⟨⟨x108, rfl⟩, eG108⟩ := q108
      have eG108 := eG108.symm
      subst eG108
      refine y_blk 1 tq_X8_ofCell (z := (112, [(0, .ref (ad 1)), (1, .int cell), (2, .int minute), (3, .int what)], [.int cell, .long x108])) rfl ?_
      refine y_callS hS tq_X8_ofCell rfl (As := [.long x108, .int cell]) rfl cs_X8_124 (m_X8_isOf hS  x108 cell) rfl (by decide) (Nat.le_of_ble_eq_true rfl) (fun r112 Gc112 q112 => ?_) (fun E9 G9 h9 => h9.elim)
      obtain ⟨rfl, eG112⟩ := q112
      have eG112 := eG112.symm
      subst eG112
      refine y_blk 0 tq_X8_ofCell (z := (115, [(0, .ref (ad 1)), (1, .int cell), (2, .int minute), (3, .int what)], [.int (if xis x108 cell then 1 else 0)])) rfl ?_
      refine y_if_eq tq_X8_ofCell 122 rfl rfl (fun c115 => ?_) (fun c115 => ?_)
      · skip
        refine y_blk 1 tq_X8_ofCell (z := (123, [(0, .ref (ad 1)), (1, .int cell), (2, .int minute), (3, .int what)], [.int 0])) rfl ?_
        exact y_iret tq_X8_ofCell rfl rfl (⟨⟨_, rfl⟩, rfl⟩)
      · skip
        refine y_blk 2 tq_X8_ofCell (z := (123, [(0, .ref (ad 1)), (1, .int cell), (2, .int minute), (3, .int what)], [.int 1])) rfl ?_
        exact y_iret tq_X8_ofCell rfl rfl (⟨⟨_, rfl⟩, rfl⟩)
    · skip
      refine y_blk 2 tq_X8_ofCell (z := (26, [(0, .ref (ad 1)), (1, .int cell), (2, .int minute), (3, .int what)], [.int 1])) rfl ?_
      refine y_callS hS tq_X8_ofCell rfl (As := [.int 1]) rfl cs_X8_117 (m_X8_needLet hS  1) rfl (by decide) (Nat.le_of_ble_eq_true rfl) (fun r26 Gc26 q26 => ?_) (fun E9 G9 h9 => ⟨(Or.inr (And.intro h9.1.1 (by first | exact absurd h9.1.2 (by decide) | (intro q9; have z9 := h9.1.2; clear h9; (simp only [yif0, Classical.not_not, ylt, yle, yl_m1, yl_0, yl_1, yl_2, yl_3, yl_4, yl_5, yl_6, yl_7, yl_8, yl_9, yl_10, yl_11, yl_12, yl_15, yl_16, yl_20, yl_60, yl_64, yl_90, yl_97, yl_99, yl_100, yl_120, yl_239, yl_240] at *; omega))))), h9.2⟩)
      obtain ⟨⟨rfl, hq26⟩, eG26⟩ := q26
      have eG26 := eG26.symm
      subst eG26
      refine y_blk 1 tq_X8_ofCell (z := (30, [(0, .ref (ad 1)), (1, .int cell), (2, .int minute), (3, .int what)], [.int what])) rfl ?_
      by_cases s30_0 : what = 0
      · refine y_swIn tq_X8_ofCell 60 rfl (by rw [s30_0]; decide) (by rw [s30_0]; decide) (by rw [s30_0]; rfl) rfl ?_
        refine y_blk 1 tq_X8_ofCell (z := (61, [(0, .ref (ad 1)), (1, .int cell), (2, .int minute), (3, .int what)], [.ref (ad 1)])) rfl ?_
        refine y_get hS tq_X8_ofCell (v := .ref (ad 2)) rfl fg_X8_10_X8 (hX.1 1 _ rfl) rfl ?_
        refine y_blk 1 tq_X8_ofCell (z := (65, [(0, .ref (ad 1)), (1, .int cell), (2, .int minute), (3, .int what)], [.int cell, .ref (ad 2)])) rfl ?_
        refine y_callV hS tq_X8_ofCell rfl (As := [.int cell]) rfl cv_X8_131 (hX.1 2 _ rfl) (m_X1_kindOf hS hX cell) rfl (by decide) (Nat.le_of_ble_eq_true rfl) (fun r65 Gc65 q65 => ?_) (fun E9 G9 h9 => h9.elim)
        obtain ⟨rfl, eG65⟩ := q65
        have eG65 := eG65.symm
        subst eG65
        refine y_blk 0 tq_X8_ofCell (z := (68, [(0, .ref (ad 1)), (1, .int cell), (2, .int minute), (3, .int what)], [.int (xkf σ cell)])) rfl ?_
        exact y_iret tq_X8_ofCell rfl rfl (⟨⟨_, rfl⟩, rfl⟩)
      by_cases s30_1 : what = 1
      · refine y_swIn tq_X8_ofCell 69 rfl (by rw [s30_1]; decide) (by rw [s30_1]; decide) (by rw [s30_1]; rfl) rfl ?_
        refine y_blk 1 tq_X8_ofCell (z := (70, [(0, .ref (ad 1)), (1, .int cell), (2, .int minute), (3, .int what)], [.ref (ad 1)])) rfl ?_
        refine y_callV hS tq_X8_ofCell rfl (As := []) rfl cv_X8_171 (hX.1 1 _ rfl) (m_X8_brightCells hS hX ) rfl (by decide) (Nat.le_of_ble_eq_true rfl) (fun r70 Gc70 q70 => ?_) (fun E9 G9 h9 => h9.elim)
        obtain ⟨⟨x70, rfl⟩, eG70⟩ := q70
        have eG70 := eG70.symm
        subst eG70
        refine y_blk 1 tq_X8_ofCell (z := (74, [(0, .ref (ad 1)), (1, .int cell), (2, .int minute), (3, .int what)], [.int cell, .long x70])) rfl ?_
        refine y_callS hS tq_X8_ofCell rfl (As := [.long x70, .int cell]) rfl cs_X8_124 (m_X8_isOf hS  x70 cell) rfl (by decide) (Nat.le_of_ble_eq_true rfl) (fun r74 Gc74 q74 => ?_) (fun E9 G9 h9 => h9.elim)
        obtain ⟨rfl, eG74⟩ := q74
        have eG74 := eG74.symm
        subst eG74
        refine y_blk 0 tq_X8_ofCell (z := (77, [(0, .ref (ad 1)), (1, .int cell), (2, .int minute), (3, .int what)], [.int (if xis x70 cell then 1 else 0)])) rfl ?_
        refine y_if_eq tq_X8_ofCell 84 rfl rfl (fun c77 => ?_) (fun c77 => ?_)
        · skip
          refine y_blk 1 tq_X8_ofCell (z := (85, [(0, .ref (ad 1)), (1, .int cell), (2, .int minute), (3, .int what)], [.int 0])) rfl ?_
          exact y_iret tq_X8_ofCell rfl rfl (⟨⟨_, rfl⟩, rfl⟩)
        · skip
          refine y_blk 2 tq_X8_ofCell (z := (85, [(0, .ref (ad 1)), (1, .int cell), (2, .int minute), (3, .int what)], [.int 1])) rfl ?_
          exact y_iret tq_X8_ofCell rfl rfl (⟨⟨_, rfl⟩, rfl⟩)
      by_cases s30_2 : what = 2
      · refine y_swIn tq_X8_ofCell 86 rfl (by rw [s30_2]; decide) (by rw [s30_2]; decide) (by rw [s30_2]; rfl) rfl ?_
        refine y_blk 3 tq_X8_ofCell (z := (89, [(0, .ref (ad 1)), (1, .int cell), (2, .int minute), (3, .int what)], [.int minute, .int cell, .ref (ad 1)])) rfl ?_
        refine y_callV hS tq_X8_ofCell rfl (As := [.int cell, .int minute]) rfl cv_X8_206 (hX.1 1 _ rfl) (m_X8_guardsWhoSee hS hX cell minute) rfl (by decide) (Nat.le_of_ble_eq_true rfl) (fun r89 Gc89 q89 => ?_) (fun E9 G9 h9 => h9.elim)
        obtain ⟨⟨x89, rfl⟩, eG89⟩ := q89
        have eG89 := eG89.symm
        subst eG89
        refine y_blk 0 tq_X8_ofCell (z := (92, [(0, .ref (ad 1)), (1, .int cell), (2, .int minute), (3, .int what)], [.int x89])) rfl ?_
        exact y_iret tq_X8_ofCell rfl rfl (⟨⟨_, rfl⟩, rfl⟩)
      by_cases s30_3 : what = 3
      · refine y_swIn tq_X8_ofCell 93 rfl (by rw [s30_3]; decide) (by rw [s30_3]; decide) (by rw [s30_3]; rfl) rfl ?_
        refine y_blk 1 tq_X8_ofCell (z := (94, [(0, .ref (ad 1)), (1, .int cell), (2, .int minute), (3, .int what)], [.ref (ad 1)])) rfl ?_
        refine y_get hS tq_X8_ofCell (v := .ref (ad 6)) rfl fg_X8_33_X8 (hX.1 1 _ rfl) rfl ?_
        refine y_blk 2 tq_X8_ofCell (z := (99, [(0, .ref (ad 1)), (1, .int cell), (2, .int minute), (3, .int what)], [.int minute, .int cell, .ref (ad 6)])) rfl ?_
        refine y_callV hS tq_X8_ofCell rfl (As := [.int cell, .int minute]) rfl cv_X8_209 (hX.1 6 _ rfl) (m_X2_setOn hS hX cell minute) rfl (by decide) (Nat.le_of_ble_eq_true rfl) (fun r99 Gc99 q99 => ?_) (fun E9 G9 h9 => h9.elim)
        obtain ⟨⟨x99, rfl⟩, eG99⟩ := q99
        have eG99 := eG99.symm
        subst eG99
        refine y_blk 0 tq_X8_ofCell (z := (102, [(0, .ref (ad 1)), (1, .int cell), (2, .int minute), (3, .int what)], [.int x99])) rfl ?_
        exact y_iret tq_X8_ofCell rfl rfl (⟨⟨_, rfl⟩, rfl⟩)
      refine y_swOut tq_X8_ofCell 103 rfl (by have z0 : what.toInt ≠ 0 := fun q => s30_0 (Int32.toInt_inj.mp (q.trans (by decide))); have z1 : what.toInt ≠ 1 := fun q => s30_1 (Int32.toInt_inj.mp (q.trans (by decide))); have z2 : what.toInt ≠ 2 := fun q => s30_2 (Int32.toInt_inj.mp (q.trans (by decide))); have z3 : what.toInt ≠ 3 := fun q => s30_3 (Int32.toInt_inj.mp (q.trans (by decide))); omega) rfl ?_
      refine y_blk 1 tq_X8_ofCell (z := (104, [(0, .ref (ad 1)), (1, .int cell), (2, .int minute), (3, .int what)], [.ref (ad 1)])) rfl ?_
      refine y_get hS tq_X8_ofCell (v := .ref (ad 2)) rfl fg_X8_10_X8 (hX.1 1 _ rfl) rfl ?_
      refine y_blk 1 tq_X8_ofCell (z := (108, [(0, .ref (ad 1)), (1, .int cell), (2, .int minute), (3, .int what)], [.int minute, .ref (ad 2)])) rfl ?_
      refine y_callV hS tq_X8_ofCell rfl (As := [.int minute]) rfl cv_X8_212 (hX.1 2 _ rfl) (m_X1_walkable hS hX minute) rfl (by decide) (Nat.le_of_ble_eq_true rfl) (fun r108 Gc108 q108 => ?_) (fun E9 G9 h9 => h9.elim)
      obtain ⟨⟨x108, rfl⟩, eG108⟩ := q108
      have eG108 := eG108.symm
      subst eG108
      refine y_blk 1 tq_X8_ofCell (z := (112, [(0, .ref (ad 1)), (1, .int cell), (2, .int minute), (3, .int what)], [.int cell, .long x108])) rfl ?_
      refine y_callS hS tq_X8_ofCell rfl (As := [.long x108, .int cell]) rfl cs_X8_124 (m_X8_isOf hS  x108 cell) rfl (by decide) (Nat.le_of_ble_eq_true rfl) (fun r112 Gc112 q112 => ?_) (fun E9 G9 h9 => h9.elim)
      obtain ⟨rfl, eG112⟩ := q112
      have eG112 := eG112.symm
      subst eG112
      refine y_blk 0 tq_X8_ofCell (z := (115, [(0, .ref (ad 1)), (1, .int cell), (2, .int minute), (3, .int what)], [.int (if xis x108 cell then 1 else 0)])) rfl ?_
      refine y_if_eq tq_X8_ofCell 122 rfl rfl (fun c115 => ?_) (fun c115 => ?_)
      · skip
        refine y_blk 1 tq_X8_ofCell (z := (123, [(0, .ref (ad 1)), (1, .int cell), (2, .int minute), (3, .int what)], [.int 0])) rfl ?_
        exact y_iret tq_X8_ofCell rfl rfl (⟨⟨_, rfl⟩, rfl⟩)
      · skip
        refine y_blk 2 tq_X8_ofCell (z := (123, [(0, .ref (ad 1)), (1, .int cell), (2, .int minute), (3, .int what)], [.int 1])) rfl ?_
        exact y_iret tq_X8_ofCell rfl rfl (⟨⟨_, rfl⟩, rfl⟩)
set_option maxHeartbeats 4000000 in
set_option maxRecDepth 100000 in
theorem m_X8_ofMinute {l : Launch} {S0 : State} {A0 : Array Value} {D : va_G} {aC : Nat → ClassId} {ad : Nat → Nat} {G : AH} {σ : XS} (hS : yS l S0 A0 D aC) (hX : atX aC ad G σ) (minute : Int32) (what : Int32) : yM l S0 D yX8_ofMinute cX8_ofMinute 3 (some .int) 14 1 6 [.ref (ad 1), .int minute, .int what] G (fun r G1 => (∃ v : Int32, r = some (.int v)) ∧ G1 = G) (fun E G1 => ((E = "java/lang/IllegalArgumentException" ∧ ¬ ((0 ≤ minute ∧ minute ≤ 239) ∧ (0 ≤ what ∧ what ≤ 6)))) ∧ G1 = G) := by
  refine yM.ofK K_X8_ofMinute rfl (by decide) (Nat.le_of_ble_eq_true rfl) ?_
  refine y_blk 1 tq_X8_ofMinute (z := (1, [(0, .ref (ad 1)), (1, .int minute), (2, .int what)], [.int minute])) rfl ?_
  refine y_callS hS tq_X8_ofMinute rfl (As := [.int minute]) rfl cs_X8_139 (m_X8_isMinute hS  minute) rfl (by decide) (Nat.le_of_ble_eq_true rfl) (fun r1 Gc1 q1 => ?_) (fun E9 G9 h9 => h9.elim)
  obtain ⟨rfl, eG1⟩ := q1
  have eG1 := eG1.symm
  subst eG1
  refine y_blk 0 tq_X8_ofMinute (z := (4, [(0, .ref (ad 1)), (1, .int minute), (2, .int what)], [.int (if 0 ≤ minute ∧ minute ≤ 239 then 1 else 0)])) rfl ?_
  refine y_if_eq tq_X8_ofMinute 21 rfl rfl (fun c4 => ?_) (fun c4 => ?_)
  · skip
    refine y_blk 1 tq_X8_ofMinute (z := (22, [(0, .ref (ad 1)), (1, .int minute), (2, .int what)], [.int 0])) rfl ?_
    refine y_callS hS tq_X8_ofMinute rfl (As := [.int 0]) rfl cs_X8_117 (m_X8_needLet hS  0) rfl (by decide) (Nat.le_of_ble_eq_true rfl) (fun r22 Gc22 q22 => ?_) (fun E9 G9 h9 => ⟨(And.intro h9.1.1 (by first | exact absurd h9.1.2 (by decide) | (intro q9; have z9 := h9.1.2; clear h9; (simp only [yif0, Classical.not_not, ylt, yle, yl_m1, yl_0, yl_1, yl_2, yl_3, yl_4, yl_5, yl_6, yl_7, yl_8, yl_9, yl_10, yl_11, yl_12, yl_15, yl_16, yl_20, yl_60, yl_64, yl_90, yl_97, yl_99, yl_100, yl_120, yl_239, yl_240] at *; omega)))), h9.2⟩)
    obtain ⟨⟨rfl, hq22⟩, eG22⟩ := q22
    have eG22 := eG22.symm
    subst eG22
    refine y_blk 1 tq_X8_ofMinute (z := (26, [(0, .ref (ad 1)), (1, .int minute), (2, .int what)], [.int what])) rfl ?_
    by_cases s26_0 : what = 0
    · refine y_swIn tq_X8_ofMinute 64 rfl (by rw [s26_0]; decide) (by rw [s26_0]; decide) (by rw [s26_0]; rfl) rfl ?_
      refine y_blk 1 tq_X8_ofMinute (z := (65, [(0, .ref (ad 1)), (1, .int minute), (2, .int what)], [.ref (ad 1)])) rfl ?_
      refine y_get hS tq_X8_ofMinute (v := .ref (ad 5)) rfl fg_X8_26_X8 (hX.1 1 _ rfl) rfl ?_
      refine y_blk 1 tq_X8_ofMinute (z := (69, [(0, .ref (ad 1)), (1, .int minute), (2, .int what)], [.int minute, .ref (ad 5)])) rfl ?_
      refine y_callV hS tq_X8_ofMinute rfl (As := [.int minute]) rfl cv_X8_216 (hX.1 5 _ rfl) (m_X0_fogAt hS hX minute) rfl (by decide) (Nat.le_of_ble_eq_true rfl) (fun r69 Gc69 q69 => ?_) (fun E9 G9 h9 => h9.elim)
      obtain ⟨⟨x69, rfl⟩, eG69⟩ := q69
      have eG69 := eG69.symm
      subst eG69
      refine y_blk 0 tq_X8_ofMinute (z := (72, [(0, .ref (ad 1)), (1, .int minute), (2, .int what)], [.int x69])) rfl ?_
      exact y_iret tq_X8_ofMinute rfl rfl (⟨⟨_, rfl⟩, rfl⟩)
    by_cases s26_1 : what = 1
    · refine y_swIn tq_X8_ofMinute 73 rfl (by rw [s26_1]; decide) (by rw [s26_1]; decide) (by rw [s26_1]; rfl) rfl ?_
      refine y_blk 1 tq_X8_ofMinute (z := (74, [(0, .ref (ad 1)), (1, .int minute), (2, .int what)], [.ref (ad 1)])) rfl ?_
      refine y_get hS tq_X8_ofMinute (v := .ref (ad 2)) rfl fg_X8_10_X8 (hX.1 1 _ rfl) rfl ?_
      refine y_blk 0 tq_X8_ofMinute (z := (77, [(0, .ref (ad 1)), (1, .int minute), (2, .int what)], [.ref (ad 2)])) rfl ?_
      refine y_callV hS tq_X8_ofMinute rfl (As := []) rfl cv_X8_104 (hX.1 2 _ rfl) (m_X1_openCells hS hX ) rfl (by decide) (Nat.le_of_ble_eq_true rfl) (fun r77 Gc77 q77 => ?_) (fun E9 G9 h9 => h9.elim)
      obtain ⟨rfl, eG77⟩ := q77
      have eG77 := eG77.symm
      subst eG77
      refine y_blk 2 tq_X8_ofMinute (z := (82, [(0, .ref (ad 1)), (1, .int minute), (2, .int what)], [.int minute, .ref (ad 1), .long ((xall (σ.2.2.1 0 * σ.2.2.1 1)) &&& ((σ.2.2.2.1 2) ^^^ (-1)))])) rfl ?_
      refine y_callV hS tq_X8_ofMinute rfl (As := [.int minute]) rfl cv_X8_219 (hX.1 1 _ rfl) (m_X8_watchedCells hS hX minute) rfl (by decide) (Nat.le_of_ble_eq_true rfl) (fun r82 Gc82 q82 => ?_) (fun E9 G9 h9 => h9.elim)
      obtain ⟨⟨x82, rfl⟩, eG82⟩ := q82
      have eG82 := eG82.symm
      subst eG82
      refine y_blk 0 tq_X8_ofMinute (z := (85, [(0, .ref (ad 1)), (1, .int minute), (2, .int what)], [.long x82, .long ((xall (σ.2.2.1 0 * σ.2.2.1 1)) &&& ((σ.2.2.2.1 2) ^^^ (-1)))])) rfl ?_
      refine y_ldc2 hS tq_X8_ofMinute rfl ld_X8_222 ?_
      refine y_blk 2 tq_X8_ofMinute (z := (90, [(0, .ref (ad 1)), (1, .int minute), (2, .int what)], [.long (((xall (σ.2.2.1 0 * σ.2.2.1 1)) &&& ((σ.2.2.2.1 2) ^^^ (-1))) &&& (x82 ^^^ (-1)))])) rfl ?_
      refine y_callS hS tq_X8_ofMinute rfl (As := [.long (((xall (σ.2.2.1 0 * σ.2.2.1 1)) &&& ((σ.2.2.2.1 2) ^^^ (-1))) &&& (x82 ^^^ (-1)))]) rfl cs_X8_108 (m_J13_bitCount_95d88 hS  (((xall (σ.2.2.1 0 * σ.2.2.1 1)) &&& ((σ.2.2.2.1 2) ^^^ (-1))) &&& (x82 ^^^ (-1)))) rfl (by decide) (Nat.le_of_ble_eq_true rfl) (fun r90 Gc90 q90 => ?_) (fun E9 G9 h9 => h9.elim)
      obtain ⟨rfl, eG90⟩ := q90
      have eG90 := eG90.symm
      subst eG90
      refine y_blk 0 tq_X8_ofMinute (z := (93, [(0, .ref (ad 1)), (1, .int minute), (2, .int what)], [.int (bcL (((xall (σ.2.2.1 0 * σ.2.2.1 1)) &&& ((σ.2.2.2.1 2) ^^^ (-1))) &&& (x82 ^^^ (-1))))])) rfl ?_
      exact y_iret tq_X8_ofMinute rfl rfl (⟨⟨_, rfl⟩, rfl⟩)
    by_cases s26_2 : what = 2
    · refine y_swIn tq_X8_ofMinute 94 rfl (by rw [s26_2]; decide) (by rw [s26_2]; decide) (by rw [s26_2]; rfl) rfl ?_
      refine y_blk 1 tq_X8_ofMinute (z := (95, [(0, .ref (ad 1)), (1, .int minute), (2, .int what)], [.ref (ad 1)])) rfl ?_
      refine y_get hS tq_X8_ofMinute (v := .ref (ad 6)) rfl fg_X8_33_X8 (hX.1 1 _ rfl) rfl ?_
      refine y_blk 1 tq_X8_ofMinute (z := (99, [(0, .ref (ad 1)), (1, .int minute), (2, .int what)], [.int minute, .ref (ad 6)])) rfl ?_
      refine y_callV hS tq_X8_ofMinute rfl (As := [.int minute]) rfl cv_X8_224 (hX.1 6 _ rfl) (m_X2_countOnDuty hS hX minute) rfl (by decide) (Nat.le_of_ble_eq_true rfl) (fun r99 Gc99 q99 => ?_) (fun E9 G9 h9 => h9.elim)
      obtain ⟨⟨x99, rfl⟩, eG99⟩ := q99
      have eG99 := eG99.symm
      subst eG99
      refine y_blk 0 tq_X8_ofMinute (z := (102, [(0, .ref (ad 1)), (1, .int minute), (2, .int what)], [.int x99])) rfl ?_
      exact y_iret tq_X8_ofMinute rfl rfl (⟨⟨_, rfl⟩, rfl⟩)
    by_cases s26_3 : what = 3
    · refine y_swIn tq_X8_ofMinute 103 rfl (by rw [s26_3]; decide) (by rw [s26_3]; decide) (by rw [s26_3]; rfl) rfl ?_
      refine y_blk 1 tq_X8_ofMinute (z := (104, [(0, .ref (ad 1)), (1, .int minute), (2, .int what)], [.ref (ad 1)])) rfl ?_
      refine y_get hS tq_X8_ofMinute (v := .ref (ad 6)) rfl fg_X8_33_X8 (hX.1 1 _ rfl) rfl ?_
      refine y_blk 1 tq_X8_ofMinute (z := (108, [(0, .ref (ad 1)), (1, .int minute), (2, .int what)], [.int minute, .ref (ad 6)])) rfl ?_
      refine y_callV hS tq_X8_ofMinute rfl (As := [.int minute]) rfl cv_X8_227 (hX.1 6 _ rfl) (m_X2_countTired hS hX minute) rfl (by decide) (Nat.le_of_ble_eq_true rfl) (fun r108 Gc108 q108 => ?_) (fun E9 G9 h9 => h9.elim)
      obtain ⟨⟨x108, rfl⟩, eG108⟩ := q108
      have eG108 := eG108.symm
      subst eG108
      refine y_blk 0 tq_X8_ofMinute (z := (111, [(0, .ref (ad 1)), (1, .int minute), (2, .int what)], [.int x108])) rfl ?_
      exact y_iret tq_X8_ofMinute rfl rfl (⟨⟨_, rfl⟩, rfl⟩)
    by_cases s26_4 : what = 4
    · refine y_swIn tq_X8_ofMinute 112 rfl (by rw [s26_4]; decide) (by rw [s26_4]; decide) (by rw [s26_4]; rfl) rfl ?_
      refine y_blk 2 tq_X8_ofMinute (z := (114, [(0, .ref (ad 1)), (1, .int minute), (2, .int what)], [.int minute, .ref (ad 1)])) rfl ?_
      refine y_callV hS tq_X8_ofMinute rfl (As := [.int minute]) rfl cv_X8_230 (hX.1 1 _ rfl) (m_X8_countEmptyPosts hS hX minute) rfl (by decide) (Nat.le_of_ble_eq_true rfl) (fun r114 Gc114 q114 => ?_) (fun E9 G9 h9 => h9.elim)
      obtain ⟨⟨x114, rfl⟩, eG114⟩ := q114
      have eG114 := eG114.symm
      subst eG114
      refine y_blk 0 tq_X8_ofMinute (z := (117, [(0, .ref (ad 1)), (1, .int minute), (2, .int what)], [.int x114])) rfl ?_
      exact y_iret tq_X8_ofMinute rfl rfl (⟨⟨_, rfl⟩, rfl⟩)
    by_cases s26_5 : what = 5
    · refine y_swIn tq_X8_ofMinute 118 rfl (by rw [s26_5]; decide) (by rw [s26_5]; decide) (by rw [s26_5]; rfl) rfl ?_
      refine y_blk 1 tq_X8_ofMinute (z := (119, [(0, .ref (ad 1)), (1, .int minute), (2, .int what)], [.ref (ad 1)])) rfl ?_
      refine y_callV hS tq_X8_ofMinute rfl (As := []) rfl cv_X8_171 (hX.1 1 _ rfl) (m_X8_brightCells hS hX ) rfl (by decide) (Nat.le_of_ble_eq_true rfl) (fun r119 Gc119 q119 => ?_) (fun E9 G9 h9 => h9.elim)
      obtain ⟨⟨x119, rfl⟩, eG119⟩ := q119
      have eG119 := eG119.symm
      subst eG119
      refine y_blk 0 tq_X8_ofMinute (z := (122, [(0, .ref (ad 1)), (1, .int minute), (2, .int what)], [.long x119])) rfl ?_
      refine y_callS hS tq_X8_ofMinute rfl (As := [.long x119]) rfl cs_X8_108 (m_J13_bitCount_95d88 hS  x119) rfl (by decide) (Nat.le_of_ble_eq_true rfl) (fun r122 Gc122 q122 => ?_) (fun E9 G9 h9 => h9.elim)
      obtain ⟨rfl, eG122⟩ := q122
      have eG122 := eG122.symm
      subst eG122
      refine y_blk 0 tq_X8_ofMinute (z := (125, [(0, .ref (ad 1)), (1, .int minute), (2, .int what)], [.int (bcL x119)])) rfl ?_
      exact y_iret tq_X8_ofMinute rfl rfl (⟨⟨_, rfl⟩, rfl⟩)
    refine y_swOut tq_X8_ofMinute 126 rfl (by have z0 : what.toInt ≠ 0 := fun q => s26_0 (Int32.toInt_inj.mp (q.trans (by decide))); have z1 : what.toInt ≠ 1 := fun q => s26_1 (Int32.toInt_inj.mp (q.trans (by decide))); have z2 : what.toInt ≠ 2 := fun q => s26_2 (Int32.toInt_inj.mp (q.trans (by decide))); have z3 : what.toInt ≠ 3 := fun q => s26_3 (Int32.toInt_inj.mp (q.trans (by decide))); have z4 : what.toInt ≠ 4 := fun q => s26_4 (Int32.toInt_inj.mp (q.trans (by decide))); have z5 : what.toInt ≠ 5 := fun q => s26_5 (Int32.toInt_inj.mp (q.trans (by decide))); omega) rfl ?_
    refine y_blk 2 tq_X8_ofMinute (z := (128, [(0, .ref (ad 1)), (1, .int minute), (2, .int what)], [.int minute, .ref (ad 1)])) rfl ?_
    refine y_callV hS tq_X8_ofMinute rfl (As := [.int minute]) rfl cv_X8_233 (hX.1 1 _ rfl) (m_X8_countKeysOffDuty hS hX minute) rfl (by decide) (Nat.le_of_ble_eq_true rfl) (fun r128 Gc128 q128 => ?_) (fun E9 G9 h9 => h9.elim)
    obtain ⟨⟨x128, rfl⟩, eG128⟩ := q128
    have eG128 := eG128.symm
    subst eG128
    refine y_blk 0 tq_X8_ofMinute (z := (131, [(0, .ref (ad 1)), (1, .int minute), (2, .int what)], [.int x128])) rfl ?_
    exact y_iret tq_X8_ofMinute rfl rfl (⟨⟨_, rfl⟩, rfl⟩)
  · skip
    refine y_blk 3 tq_X8_ofMinute (z := (11, [(0, .ref (ad 1)), (1, .int minute), (2, .int what)], [.int 6, .int 0, .int what])) rfl ?_
    refine y_callS hS tq_X8_ofMinute rfl (As := [.int what, .int 0, .int 6]) rfl cs_X8_76 (m_X8_isIn hS  what 0 6) rfl (by decide) (Nat.le_of_ble_eq_true rfl) (fun r11 Gc11 q11 => ?_) (fun E9 G9 h9 => h9.elim)
    obtain ⟨rfl, eG11⟩ := q11
    have eG11 := eG11.symm
    subst eG11
    refine y_blk 0 tq_X8_ofMinute (z := (14, [(0, .ref (ad 1)), (1, .int minute), (2, .int what)], [.int (if 0 ≤ what ∧ what ≤ 6 then 1 else 0)])) rfl ?_
    refine y_if_eq tq_X8_ofMinute 21 rfl rfl (fun c14 => ?_) (fun c14 => ?_)
    · skip
      refine y_blk 1 tq_X8_ofMinute (z := (22, [(0, .ref (ad 1)), (1, .int minute), (2, .int what)], [.int 0])) rfl ?_
      refine y_callS hS tq_X8_ofMinute rfl (As := [.int 0]) rfl cs_X8_117 (m_X8_needLet hS  0) rfl (by decide) (Nat.le_of_ble_eq_true rfl) (fun r22 Gc22 q22 => ?_) (fun E9 G9 h9 => ⟨(And.intro h9.1.1 (by first | exact absurd h9.1.2 (by decide) | (intro q9; have z9 := h9.1.2; clear h9; (simp only [yif0, Classical.not_not, ylt, yle, yl_m1, yl_0, yl_1, yl_2, yl_3, yl_4, yl_5, yl_6, yl_7, yl_8, yl_9, yl_10, yl_11, yl_12, yl_15, yl_16, yl_20, yl_60, yl_64, yl_90, yl_97, yl_99, yl_100, yl_120, yl_239, yl_240] at *; omega)))), h9.2⟩)
      obtain ⟨⟨rfl, hq22⟩, eG22⟩ := q22
      have eG22 := eG22.symm
      subst eG22
      refine y_blk 1 tq_X8_ofMinute (z := (26, [(0, .ref (ad 1)), (1, .int minute), (2, .int what)], [.int what])) rfl ?_
      by_cases s26_0 : what = 0
      · refine y_swIn tq_X8_ofMinute 64 rfl (by rw [s26_0]; decide) (by rw [s26_0]; decide) (by rw [s26_0]; rfl) rfl ?_
        refine y_blk 1 tq_X8_ofMinute (z := (65, [(0, .ref (ad 1)), (1, .int minute), (2, .int what)], [.ref (ad 1)])) rfl ?_
        refine y_get hS tq_X8_ofMinute (v := .ref (ad 5)) rfl fg_X8_26_X8 (hX.1 1 _ rfl) rfl ?_
        refine y_blk 1 tq_X8_ofMinute (z := (69, [(0, .ref (ad 1)), (1, .int minute), (2, .int what)], [.int minute, .ref (ad 5)])) rfl ?_
        refine y_callV hS tq_X8_ofMinute rfl (As := [.int minute]) rfl cv_X8_216 (hX.1 5 _ rfl) (m_X0_fogAt hS hX minute) rfl (by decide) (Nat.le_of_ble_eq_true rfl) (fun r69 Gc69 q69 => ?_) (fun E9 G9 h9 => h9.elim)
        obtain ⟨⟨x69, rfl⟩, eG69⟩ := q69
        have eG69 := eG69.symm
        subst eG69
        refine y_blk 0 tq_X8_ofMinute (z := (72, [(0, .ref (ad 1)), (1, .int minute), (2, .int what)], [.int x69])) rfl ?_
        exact y_iret tq_X8_ofMinute rfl rfl (⟨⟨_, rfl⟩, rfl⟩)
      by_cases s26_1 : what = 1
      · refine y_swIn tq_X8_ofMinute 73 rfl (by rw [s26_1]; decide) (by rw [s26_1]; decide) (by rw [s26_1]; rfl) rfl ?_
        refine y_blk 1 tq_X8_ofMinute (z := (74, [(0, .ref (ad 1)), (1, .int minute), (2, .int what)], [.ref (ad 1)])) rfl ?_
        refine y_get hS tq_X8_ofMinute (v := .ref (ad 2)) rfl fg_X8_10_X8 (hX.1 1 _ rfl) rfl ?_
        refine y_blk 0 tq_X8_ofMinute (z := (77, [(0, .ref (ad 1)), (1, .int minute), (2, .int what)], [.ref (ad 2)])) rfl ?_
        refine y_callV hS tq_X8_ofMinute rfl (As := []) rfl cv_X8_104 (hX.1 2 _ rfl) (m_X1_openCells hS hX ) rfl (by decide) (Nat.le_of_ble_eq_true rfl) (fun r77 Gc77 q77 => ?_) (fun E9 G9 h9 => h9.elim)
        obtain ⟨rfl, eG77⟩ := q77
        have eG77 := eG77.symm
        subst eG77
        refine y_blk 2 tq_X8_ofMinute (z := (82, [(0, .ref (ad 1)), (1, .int minute), (2, .int what)], [.int minute, .ref (ad 1), .long ((xall (σ.2.2.1 0 * σ.2.2.1 1)) &&& ((σ.2.2.2.1 2) ^^^ (-1)))])) rfl ?_
        refine y_callV hS tq_X8_ofMinute rfl (As := [.int minute]) rfl cv_X8_219 (hX.1 1 _ rfl) (m_X8_watchedCells hS hX minute) rfl (by decide) (Nat.le_of_ble_eq_true rfl) (fun r82 Gc82 q82 => ?_) (fun E9 G9 h9 => h9.elim)
        obtain ⟨⟨x82, rfl⟩, eG82⟩ := q82
        have eG82 := eG82.symm
        subst eG82
        refine y_blk 0 tq_X8_ofMinute (z := (85, [(0, .ref (ad 1)), (1, .int minute), (2, .int what)], [.long x82, .long ((xall (σ.2.2.1 0 * σ.2.2.1 1)) &&& ((σ.2.2.2.1 2) ^^^ (-1)))])) rfl ?_
        refine y_ldc2 hS tq_X8_ofMinute rfl ld_X8_222 ?_
        refine y_blk 2 tq_X8_ofMinute (z := (90, [(0, .ref (ad 1)), (1, .int minute), (2, .int what)], [.long (((xall (σ.2.2.1 0 * σ.2.2.1 1)) &&& ((σ.2.2.2.1 2) ^^^ (-1))) &&& (x82 ^^^ (-1)))])) rfl ?_
        refine y_callS hS tq_X8_ofMinute rfl (As := [.long (((xall (σ.2.2.1 0 * σ.2.2.1 1)) &&& ((σ.2.2.2.1 2) ^^^ (-1))) &&& (x82 ^^^ (-1)))]) rfl cs_X8_108 (m_J13_bitCount_95d88 hS  (((xall (σ.2.2.1 0 * σ.2.2.1 1)) &&& ((σ.2.2.2.1 2) ^^^ (-1))) &&& (x82 ^^^ (-1)))) rfl (by decide) (Nat.le_of_ble_eq_true rfl) (fun r90 Gc90 q90 => ?_) (fun E9 G9 h9 => h9.elim)
        obtain ⟨rfl, eG90⟩ := q90
        have eG90 := eG90.symm
        subst eG90
        refine y_blk 0 tq_X8_ofMinute (z := (93, [(0, .ref (ad 1)), (1, .int minute), (2, .int what)], [.int (bcL (((xall (σ.2.2.1 0 * σ.2.2.1 1)) &&& ((σ.2.2.2.1 2) ^^^ (-1))) &&& (x82 ^^^ (-1))))])) rfl ?_
        exact y_iret tq_X8_ofMinute rfl rfl (⟨⟨_, rfl⟩, rfl⟩)
      by_cases s26_2 : what = 2
      · refine y_swIn tq_X8_ofMinute 94 rfl (by rw [s26_2]; decide) (by rw [s26_2]; decide) (by rw [s26_2]; rfl) rfl ?_
        refine y_blk 1 tq_X8_ofMinute (z := (95, [(0, .ref (ad 1)), (1, .int minute), (2, .int what)], [.ref (ad 1)])) rfl ?_
        refine y_get hS tq_X8_ofMinute (v := .ref (ad 6)) rfl fg_X8_33_X8 (hX.1 1 _ rfl) rfl ?_
        refine y_blk 1 tq_X8_ofMinute (z := (99, [(0, .ref (ad 1)), (1, .int minute), (2, .int what)], [.int minute, .ref (ad 6)])) rfl ?_
        refine y_callV hS tq_X8_ofMinute rfl (As := [.int minute]) rfl cv_X8_224 (hX.1 6 _ rfl) (m_X2_countOnDuty hS hX minute) rfl (by decide) (Nat.le_of_ble_eq_true rfl) (fun r99 Gc99 q99 => ?_) (fun E9 G9 h9 => h9.elim)
        obtain ⟨⟨x99, rfl⟩, eG99⟩ := q99
        have eG99 := eG99.symm
        subst eG99
        refine y_blk 0 tq_X8_ofMinute (z := (102, [(0, .ref (ad 1)), (1, .int minute), (2, .int what)], [.int x99])) rfl ?_
        exact y_iret tq_X8_ofMinute rfl rfl (⟨⟨_, rfl⟩, rfl⟩)
      by_cases s26_3 : what = 3
      · refine y_swIn tq_X8_ofMinute 103 rfl (by rw [s26_3]; decide) (by rw [s26_3]; decide) (by rw [s26_3]; rfl) rfl ?_
        refine y_blk 1 tq_X8_ofMinute (z := (104, [(0, .ref (ad 1)), (1, .int minute), (2, .int what)], [.ref (ad 1)])) rfl ?_
        refine y_get hS tq_X8_ofMinute (v := .ref (ad 6)) rfl fg_X8_33_X8 (hX.1 1 _ rfl) rfl ?_
        refine y_blk 1 tq_X8_ofMinute (z := (108, [(0, .ref (ad 1)), (1, .int minute), (2, .int what)], [.int minute, .ref (ad 6)])) rfl ?_
        refine y_callV hS tq_X8_ofMinute rfl (As := [.int minute]) rfl cv_X8_227 (hX.1 6 _ rfl) (m_X2_countTired hS hX minute) rfl (by decide) (Nat.le_of_ble_eq_true rfl) (fun r108 Gc108 q108 => ?_) (fun E9 G9 h9 => h9.elim)
        obtain ⟨⟨x108, rfl⟩, eG108⟩ := q108
        have eG108 := eG108.symm
        subst eG108
        refine y_blk 0 tq_X8_ofMinute (z := (111, [(0, .ref (ad 1)), (1, .int minute), (2, .int what)], [.int x108])) rfl ?_
        exact y_iret tq_X8_ofMinute rfl rfl (⟨⟨_, rfl⟩, rfl⟩)
      by_cases s26_4 : what = 4
      · refine y_swIn tq_X8_ofMinute 112 rfl (by rw [s26_4]; decide) (by rw [s26_4]; decide) (by rw [s26_4]; rfl) rfl ?_
        refine y_blk 2 tq_X8_ofMinute (z := (114, [(0, .ref (ad 1)), (1, .int minute), (2, .int what)], [.int minute, .ref (ad 1)])) rfl ?_
        refine y_callV hS tq_X8_ofMinute rfl (As := [.int minute]) rfl cv_X8_230 (hX.1 1 _ rfl) (m_X8_countEmptyPosts hS hX minute) rfl (by decide) (Nat.le_of_ble_eq_true rfl) (fun r114 Gc114 q114 => ?_) (fun E9 G9 h9 => h9.elim)
        obtain ⟨⟨x114, rfl⟩, eG114⟩ := q114
        have eG114 := eG114.symm
        subst eG114
        refine y_blk 0 tq_X8_ofMinute (z := (117, [(0, .ref (ad 1)), (1, .int minute), (2, .int what)], [.int x114])) rfl ?_
        exact y_iret tq_X8_ofMinute rfl rfl (⟨⟨_, rfl⟩, rfl⟩)
      by_cases s26_5 : what = 5
      · refine y_swIn tq_X8_ofMinute 118 rfl (by rw [s26_5]; decide) (by rw [s26_5]; decide) (by rw [s26_5]; rfl) rfl ?_
        refine y_blk 1 tq_X8_ofMinute (z := (119, [(0, .ref (ad 1)), (1, .int minute), (2, .int what)], [.ref (ad 1)])) rfl ?_
        refine y_callV hS tq_X8_ofMinute rfl (As := []) rfl cv_X8_171 (hX.1 1 _ rfl) (m_X8_brightCells hS hX ) rfl (by decide) (Nat.le_of_ble_eq_true rfl) (fun r119 Gc119 q119 => ?_) (fun E9 G9 h9 => h9.elim)
        obtain ⟨⟨x119, rfl⟩, eG119⟩ := q119
        have eG119 := eG119.symm
        subst eG119
        refine y_blk 0 tq_X8_ofMinute (z := (122, [(0, .ref (ad 1)), (1, .int minute), (2, .int what)], [.long x119])) rfl ?_
        refine y_callS hS tq_X8_ofMinute rfl (As := [.long x119]) rfl cs_X8_108 (m_J13_bitCount_95d88 hS  x119) rfl (by decide) (Nat.le_of_ble_eq_true rfl) (fun r122 Gc122 q122 => ?_) (fun E9 G9 h9 => h9.elim)
        obtain ⟨rfl, eG122⟩ := q122
        have eG122 := eG122.symm
        subst eG122
        refine y_blk 0 tq_X8_ofMinute (z := (125, [(0, .ref (ad 1)), (1, .int minute), (2, .int what)], [.int (bcL x119)])) rfl ?_
        exact y_iret tq_X8_ofMinute rfl rfl (⟨⟨_, rfl⟩, rfl⟩)
      refine y_swOut tq_X8_ofMinute 126 rfl (by have z0 : what.toInt ≠ 0 := fun q => s26_0 (Int32.toInt_inj.mp (q.trans (by decide))); have z1 : what.toInt ≠ 1 := fun q => s26_1 (Int32.toInt_inj.mp (q.trans (by decide))); have z2 : what.toInt ≠ 2 := fun q => s26_2 (Int32.toInt_inj.mp (q.trans (by decide))); have z3 : what.toInt ≠ 3 := fun q => s26_3 (Int32.toInt_inj.mp (q.trans (by decide))); have z4 : what.toInt ≠ 4 := fun q => s26_4 (Int32.toInt_inj.mp (q.trans (by decide))); have z5 : what.toInt ≠ 5 := fun q => s26_5 (Int32.toInt_inj.mp (q.trans (by decide))); omega) rfl ?_
      refine y_blk 2 tq_X8_ofMinute (z := (128, [(0, .ref (ad 1)), (1, .int minute), (2, .int what)], [.int minute, .ref (ad 1)])) rfl ?_
      refine y_callV hS tq_X8_ofMinute rfl (As := [.int minute]) rfl cv_X8_233 (hX.1 1 _ rfl) (m_X8_countKeysOffDuty hS hX minute) rfl (by decide) (Nat.le_of_ble_eq_true rfl) (fun r128 Gc128 q128 => ?_) (fun E9 G9 h9 => h9.elim)
      obtain ⟨⟨x128, rfl⟩, eG128⟩ := q128
      have eG128 := eG128.symm
      subst eG128
      refine y_blk 0 tq_X8_ofMinute (z := (131, [(0, .ref (ad 1)), (1, .int minute), (2, .int what)], [.int x128])) rfl ?_
      exact y_iret tq_X8_ofMinute rfl rfl (⟨⟨_, rfl⟩, rfl⟩)
    · skip
      refine y_blk 2 tq_X8_ofMinute (z := (22, [(0, .ref (ad 1)), (1, .int minute), (2, .int what)], [.int 1])) rfl ?_
      refine y_callS hS tq_X8_ofMinute rfl (As := [.int 1]) rfl cs_X8_117 (m_X8_needLet hS  1) rfl (by decide) (Nat.le_of_ble_eq_true rfl) (fun r22 Gc22 q22 => ?_) (fun E9 G9 h9 => ⟨(And.intro h9.1.1 (by first | exact absurd h9.1.2 (by decide) | (intro q9; have z9 := h9.1.2; clear h9; (simp only [yif0, Classical.not_not, ylt, yle, yl_m1, yl_0, yl_1, yl_2, yl_3, yl_4, yl_5, yl_6, yl_7, yl_8, yl_9, yl_10, yl_11, yl_12, yl_15, yl_16, yl_20, yl_60, yl_64, yl_90, yl_97, yl_99, yl_100, yl_120, yl_239, yl_240] at *; omega)))), h9.2⟩)
      obtain ⟨⟨rfl, hq22⟩, eG22⟩ := q22
      have eG22 := eG22.symm
      subst eG22
      refine y_blk 1 tq_X8_ofMinute (z := (26, [(0, .ref (ad 1)), (1, .int minute), (2, .int what)], [.int what])) rfl ?_
      by_cases s26_0 : what = 0
      · refine y_swIn tq_X8_ofMinute 64 rfl (by rw [s26_0]; decide) (by rw [s26_0]; decide) (by rw [s26_0]; rfl) rfl ?_
        refine y_blk 1 tq_X8_ofMinute (z := (65, [(0, .ref (ad 1)), (1, .int minute), (2, .int what)], [.ref (ad 1)])) rfl ?_
        refine y_get hS tq_X8_ofMinute (v := .ref (ad 5)) rfl fg_X8_26_X8 (hX.1 1 _ rfl) rfl ?_
        refine y_blk 1 tq_X8_ofMinute (z := (69, [(0, .ref (ad 1)), (1, .int minute), (2, .int what)], [.int minute, .ref (ad 5)])) rfl ?_
        refine y_callV hS tq_X8_ofMinute rfl (As := [.int minute]) rfl cv_X8_216 (hX.1 5 _ rfl) (m_X0_fogAt hS hX minute) rfl (by decide) (Nat.le_of_ble_eq_true rfl) (fun r69 Gc69 q69 => ?_) (fun E9 G9 h9 => h9.elim)
        obtain ⟨⟨x69, rfl⟩, eG69⟩ := q69
        have eG69 := eG69.symm
        subst eG69
        refine y_blk 0 tq_X8_ofMinute (z := (72, [(0, .ref (ad 1)), (1, .int minute), (2, .int what)], [.int x69])) rfl ?_
        exact y_iret tq_X8_ofMinute rfl rfl (⟨⟨_, rfl⟩, rfl⟩)
      by_cases s26_1 : what = 1
      · refine y_swIn tq_X8_ofMinute 73 rfl (by rw [s26_1]; decide) (by rw [s26_1]; decide) (by rw [s26_1]; rfl) rfl ?_
        refine y_blk 1 tq_X8_ofMinute (z := (74, [(0, .ref (ad 1)), (1, .int minute), (2, .int what)], [.ref (ad 1)])) rfl ?_
        refine y_get hS tq_X8_ofMinute (v := .ref (ad 2)) rfl fg_X8_10_X8 (hX.1 1 _ rfl) rfl ?_
        refine y_blk 0 tq_X8_ofMinute (z := (77, [(0, .ref (ad 1)), (1, .int minute), (2, .int what)], [.ref (ad 2)])) rfl ?_
        refine y_callV hS tq_X8_ofMinute rfl (As := []) rfl cv_X8_104 (hX.1 2 _ rfl) (m_X1_openCells hS hX ) rfl (by decide) (Nat.le_of_ble_eq_true rfl) (fun r77 Gc77 q77 => ?_) (fun E9 G9 h9 => h9.elim)
        obtain ⟨rfl, eG77⟩ := q77
        have eG77 := eG77.symm
        subst eG77
        refine y_blk 2 tq_X8_ofMinute (z := (82, [(0, .ref (ad 1)), (1, .int minute), (2, .int what)], [.int minute, .ref (ad 1), .long ((xall (σ.2.2.1 0 * σ.2.2.1 1)) &&& ((σ.2.2.2.1 2) ^^^ (-1)))])) rfl ?_
        refine y_callV hS tq_X8_ofMinute rfl (As := [.int minute]) rfl cv_X8_219 (hX.1 1 _ rfl) (m_X8_watchedCells hS hX minute) rfl (by decide) (Nat.le_of_ble_eq_true rfl) (fun r82 Gc82 q82 => ?_) (fun E9 G9 h9 => h9.elim)
        obtain ⟨⟨x82, rfl⟩, eG82⟩ := q82
        have eG82 := eG82.symm
        subst eG82
        refine y_blk 0 tq_X8_ofMinute (z := (85, [(0, .ref (ad 1)), (1, .int minute), (2, .int what)], [.long x82, .long ((xall (σ.2.2.1 0 * σ.2.2.1 1)) &&& ((σ.2.2.2.1 2) ^^^ (-1)))])) rfl ?_
        refine y_ldc2 hS tq_X8_ofMinute rfl ld_X8_222 ?_
        refine y_blk 2 tq_X8_ofMinute (z := (90, [(0, .ref (ad 1)), (1, .int minute), (2, .int what)], [.long (((xall (σ.2.2.1 0 * σ.2.2.1 1)) &&& ((σ.2.2.2.1 2) ^^^ (-1))) &&& (x82 ^^^ (-1)))])) rfl ?_
        refine y_callS hS tq_X8_ofMinute rfl (As := [.long (((xall (σ.2.2.1 0 * σ.2.2.1 1)) &&& ((σ.2.2.2.1 2) ^^^ (-1))) &&& (x82 ^^^ (-1)))]) rfl cs_X8_108 (m_J13_bitCount_95d88 hS  (((xall (σ.2.2.1 0 * σ.2.2.1 1)) &&& ((σ.2.2.2.1 2) ^^^ (-1))) &&& (x82 ^^^ (-1)))) rfl (by decide) (Nat.le_of_ble_eq_true rfl) (fun r90 Gc90 q90 => ?_) (fun E9 G9 h9 => h9.elim)
        obtain ⟨rfl, eG90⟩ := q90
        have eG90 := eG90.symm
        subst eG90
        refine y_blk 0 tq_X8_ofMinute (z := (93, [(0, .ref (ad 1)), (1, .int minute), (2, .int what)], [.int (bcL (((xall (σ.2.2.1 0 * σ.2.2.1 1)) &&& ((σ.2.2.2.1 2) ^^^ (-1))) &&& (x82 ^^^ (-1))))])) rfl ?_
        exact y_iret tq_X8_ofMinute rfl rfl (⟨⟨_, rfl⟩, rfl⟩)
      by_cases s26_2 : what = 2
      · refine y_swIn tq_X8_ofMinute 94 rfl (by rw [s26_2]; decide) (by rw [s26_2]; decide) (by rw [s26_2]; rfl) rfl ?_
        refine y_blk 1 tq_X8_ofMinute (z := (95, [(0, .ref (ad 1)), (1, .int minute), (2, .int what)], [.ref (ad 1)])) rfl ?_
        refine y_get hS tq_X8_ofMinute (v := .ref (ad 6)) rfl fg_X8_33_X8 (hX.1 1 _ rfl) rfl ?_
        refine y_blk 1 tq_X8_ofMinute (z := (99, [(0, .ref (ad 1)), (1, .int minute), (2, .int what)], [.int minute, .ref (ad 6)])) rfl ?_
        refine y_callV hS tq_X8_ofMinute rfl (As := [.int minute]) rfl cv_X8_224 (hX.1 6 _ rfl) (m_X2_countOnDuty hS hX minute) rfl (by decide) (Nat.le_of_ble_eq_true rfl) (fun r99 Gc99 q99 => ?_) (fun E9 G9 h9 => h9.elim)
        obtain ⟨⟨x99, rfl⟩, eG99⟩ := q99
        have eG99 := eG99.symm
        subst eG99
        refine y_blk 0 tq_X8_ofMinute (z := (102, [(0, .ref (ad 1)), (1, .int minute), (2, .int what)], [.int x99])) rfl ?_
        exact y_iret tq_X8_ofMinute rfl rfl (⟨⟨_, rfl⟩, rfl⟩)
      by_cases s26_3 : what = 3
      · refine y_swIn tq_X8_ofMinute 103 rfl (by rw [s26_3]; decide) (by rw [s26_3]; decide) (by rw [s26_3]; rfl) rfl ?_
        refine y_blk 1 tq_X8_ofMinute (z := (104, [(0, .ref (ad 1)), (1, .int minute), (2, .int what)], [.ref (ad 1)])) rfl ?_
        refine y_get hS tq_X8_ofMinute (v := .ref (ad 6)) rfl fg_X8_33_X8 (hX.1 1 _ rfl) rfl ?_
        refine y_blk 1 tq_X8_ofMinute (z := (108, [(0, .ref (ad 1)), (1, .int minute), (2, .int what)], [.int minute, .ref (ad 6)])) rfl ?_
        refine y_callV hS tq_X8_ofMinute rfl (As := [.int minute]) rfl cv_X8_227 (hX.1 6 _ rfl) (m_X2_countTired hS hX minute) rfl (by decide) (Nat.le_of_ble_eq_true rfl) (fun r108 Gc108 q108 => ?_) (fun E9 G9 h9 => h9.elim)
        obtain ⟨⟨x108, rfl⟩, eG108⟩ := q108
        have eG108 := eG108.symm
        subst eG108
        refine y_blk 0 tq_X8_ofMinute (z := (111, [(0, .ref (ad 1)), (1, .int minute), (2, .int what)], [.int x108])) rfl ?_
        exact y_iret tq_X8_ofMinute rfl rfl (⟨⟨_, rfl⟩, rfl⟩)
      by_cases s26_4 : what = 4
      · refine y_swIn tq_X8_ofMinute 112 rfl (by rw [s26_4]; decide) (by rw [s26_4]; decide) (by rw [s26_4]; rfl) rfl ?_
        refine y_blk 2 tq_X8_ofMinute (z := (114, [(0, .ref (ad 1)), (1, .int minute), (2, .int what)], [.int minute, .ref (ad 1)])) rfl ?_
        refine y_callV hS tq_X8_ofMinute rfl (As := [.int minute]) rfl cv_X8_230 (hX.1 1 _ rfl) (m_X8_countEmptyPosts hS hX minute) rfl (by decide) (Nat.le_of_ble_eq_true rfl) (fun r114 Gc114 q114 => ?_) (fun E9 G9 h9 => h9.elim)
        obtain ⟨⟨x114, rfl⟩, eG114⟩ := q114
        have eG114 := eG114.symm
        subst eG114
        refine y_blk 0 tq_X8_ofMinute (z := (117, [(0, .ref (ad 1)), (1, .int minute), (2, .int what)], [.int x114])) rfl ?_
        exact y_iret tq_X8_ofMinute rfl rfl (⟨⟨_, rfl⟩, rfl⟩)
      by_cases s26_5 : what = 5
      · refine y_swIn tq_X8_ofMinute 118 rfl (by rw [s26_5]; decide) (by rw [s26_5]; decide) (by rw [s26_5]; rfl) rfl ?_
        refine y_blk 1 tq_X8_ofMinute (z := (119, [(0, .ref (ad 1)), (1, .int minute), (2, .int what)], [.ref (ad 1)])) rfl ?_
        refine y_callV hS tq_X8_ofMinute rfl (As := []) rfl cv_X8_171 (hX.1 1 _ rfl) (m_X8_brightCells hS hX ) rfl (by decide) (Nat.le_of_ble_eq_true rfl) (fun r119 Gc119 q119 => ?_) (fun E9 G9 h9 => h9.elim)
        obtain ⟨⟨x119, rfl⟩, eG119⟩ := q119
        have eG119 := eG119.symm
        subst eG119
        refine y_blk 0 tq_X8_ofMinute (z := (122, [(0, .ref (ad 1)), (1, .int minute), (2, .int what)], [.long x119])) rfl ?_
        refine y_callS hS tq_X8_ofMinute rfl (As := [.long x119]) rfl cs_X8_108 (m_J13_bitCount_95d88 hS  x119) rfl (by decide) (Nat.le_of_ble_eq_true rfl) (fun r122 Gc122 q122 => ?_) (fun E9 G9 h9 => h9.elim)
        obtain ⟨rfl, eG122⟩ := q122
        have eG122 := eG122.symm
        subst eG122
        refine y_blk 0 tq_X8_ofMinute (z := (125, [(0, .ref (ad 1)), (1, .int minute), (2, .int what)], [.int (bcL x119)])) rfl ?_
        exact y_iret tq_X8_ofMinute rfl rfl (⟨⟨_, rfl⟩, rfl⟩)
      refine y_swOut tq_X8_ofMinute 126 rfl (by have z0 : what.toInt ≠ 0 := fun q => s26_0 (Int32.toInt_inj.mp (q.trans (by decide))); have z1 : what.toInt ≠ 1 := fun q => s26_1 (Int32.toInt_inj.mp (q.trans (by decide))); have z2 : what.toInt ≠ 2 := fun q => s26_2 (Int32.toInt_inj.mp (q.trans (by decide))); have z3 : what.toInt ≠ 3 := fun q => s26_3 (Int32.toInt_inj.mp (q.trans (by decide))); have z4 : what.toInt ≠ 4 := fun q => s26_4 (Int32.toInt_inj.mp (q.trans (by decide))); have z5 : what.toInt ≠ 5 := fun q => s26_5 (Int32.toInt_inj.mp (q.trans (by decide))); omega) rfl ?_
      refine y_blk 2 tq_X8_ofMinute (z := (128, [(0, .ref (ad 1)), (1, .int minute), (2, .int what)], [.int minute, .ref (ad 1)])) rfl ?_
      refine y_callV hS tq_X8_ofMinute rfl (As := [.int minute]) rfl cv_X8_233 (hX.1 1 _ rfl) (m_X8_countKeysOffDuty hS hX minute) rfl (by decide) (Nat.le_of_ble_eq_true rfl) (fun r128 Gc128 q128 => ?_) (fun E9 G9 h9 => h9.elim)
      obtain ⟨⟨x128, rfl⟩, eG128⟩ := q128
      have eG128 := eG128.symm
      subst eG128
      refine y_blk 0 tq_X8_ofMinute (z := (131, [(0, .ref (ad 1)), (1, .int minute), (2, .int what)], [.int x128])) rfl ?_
      exact y_iret tq_X8_ofMinute rfl rfl (⟨⟨_, rfl⟩, rfl⟩)
set_option maxHeartbeats 4000000 in
set_option maxRecDepth 100000 in
theorem m_X8_empty {l : Launch} {S0 : State} {A0 : Array Value} {D : va_G} {aC : Nat → ClassId} {ad : Nat → Nat} {G : AH} {σ : XS} (hS : yS l S0 A0 D aC) (hX : atX aC ad G σ) (post : Int32) (isFirst : Int32) : yM l S0 D yX8_empty cX8_empty 6 (some .int) 13 1 6 [.ref (ad 1), .int post, .int isFirst] G (fun r G1 => (∃ v : Int32, r = some (.int v)) ∧ G1 = G) (fun E G1 => ((E = "java/lang/IndexOutOfBoundsException" ∧ ¬ (0 ≤ post ∧ post ≤ σ.1 10 - 1))) ∧ G1 = G) := by
  refine yM.ofK K_X8_empty rfl (by decide) (Nat.le_of_ble_eq_true rfl) ?_
  have J81 : ∀ (v81_3 : Int32) (v81_4 : Int32) (v81_5 : Int32) (w81_0 : Int32), Y l S0 D K_X8_empty 13 1 6 (fun r G1 => (∃ v : Int32, r = some (.int v)) ∧ G1 = G) (fun E G1 => ((E = "java/lang/IndexOutOfBoundsException" ∧ ¬ (0 ≤ post ∧ post ≤ σ.1 10 - 1))) ∧ G1 = G) 81 [(0, .ref (ad 1)), (1, .int post), (2, .int isFirst), (3, .int v81_3), (4, .int v81_4), (5, .int v81_5)] [.int w81_0] G 0 0 := by
    intro v81_3 v81_4 v81_5 w81_0
    exact y_iret tq_X8_empty rfl rfl (⟨⟨_, rfl⟩, rfl⟩)
  have J19 : ∀ (n19 : Nat) (v19_3 : Int32) (v19_4 : Int32) (v19_5 : Int32), ((240 : Int32).toInt - v19_5.toInt).toNat = n19 → Y l S0 D K_X8_empty 13 1 6 (fun r G1 => (∃ v : Int32, r = some (.int v)) ∧ G1 = G) (fun E G1 => ((E = "java/lang/IndexOutOfBoundsException" ∧ ¬ (0 ≤ post ∧ post ≤ σ.1 10 - 1))) ∧ G1 = G) 19 [(0, .ref (ad 1)), (1, .int post), (2, .int isFirst), (3, .int v19_3), (4, .int v19_4), (5, .int v19_5)] [] G 0 0 := by
    intro n19
    induction n19 using Nat.strongRecOn with
    | _ n19 ih19 =>
    intro v19_3 v19_4 v19_5 hn19
    subst hn19
    have J65 : ∀ (v65_3 : Int32) (v65_4 : Int32) (c24 : ¬ (240 : Int32) ≤ v19_5), Y l S0 D K_X8_empty 13 1 6 (fun r G1 => (∃ v : Int32, r = some (.int v)) ∧ G1 = G) (fun E G1 => ((E = "java/lang/IndexOutOfBoundsException" ∧ ¬ (0 ≤ post ∧ post ≤ σ.1 10 - 1))) ∧ G1 = G) 65 [(0, .ref (ad 1)), (1, .int post), (2, .int isFirst), (3, .int v65_3), (4, .int v65_4), (5, .int v19_5)] [] G 0 0 := by
      intro v65_3 v65_4 c24
      refine y_blk 2 tq_X8_empty (z := (19, [(5, .int (v19_5 + 1)), (0, .ref (ad 1)), (1, .int post), (2, .int isFirst), (3, .int v65_3), (4, .int v65_4)], [])) rfl ?_
      refine y_pick (L2 := [(0, .ref (ad 1)), (1, .int post), (2, .int isFirst), (3, .int v65_3), (4, .int v65_4), (5, .int (v19_5 + 1))]) [1, 2, 3, 4, 5, 0] rfl ?_
      exact ih19 _ (by exact ydec c24) v65_3 v65_4 (v19_5 + 1) rfl
    have J61 : ∀ (w61_0 : Int32) (c24 : ¬ (240 : Int32) ≤ v19_5), Y l S0 D K_X8_empty 13 1 6 (fun r G1 => (∃ v : Int32, r = some (.int v)) ∧ G1 = G) (fun E G1 => ((E = "java/lang/IndexOutOfBoundsException" ∧ ¬ (0 ≤ post ∧ post ≤ σ.1 10 - 1))) ∧ G1 = G) 61 [(0, .ref (ad 1)), (1, .int post), (2, .int isFirst), (3, .int v19_3), (4, .int v19_4), (5, .int v19_5)] [.int w61_0] G 0 0 := by
      intro w61_0 c24
      refine y_blk 2 tq_X8_empty (z := (65, [(4, .int (v19_4 + 1)), (3, .int w61_0), (0, .ref (ad 1)), (1, .int post), (2, .int isFirst), (5, .int v19_5)], [])) rfl ?_
      refine y_pick (L2 := [(0, .ref (ad 1)), (1, .int post), (2, .int isFirst), (3, .int w61_0), (4, .int (v19_4 + 1)), (5, .int v19_5)]) [2, 3, 4, 1, 0, 5] rfl ?_
      exact J65 w61_0 (v19_4 + 1) (by exact c24)
    refine y_blk 2 tq_X8_empty (z := (24, [(0, .ref (ad 1)), (1, .int post), (2, .int isFirst), (3, .int v19_3), (4, .int v19_4), (5, .int v19_5)], [.int 240, .int v19_5])) rfl ?_
    refine y_icmp_ge tq_X8_empty 71 rfl rfl (fun c24 => ?_) (fun c24 => ?_)
    · skip
      refine y_blk 1 tq_X8_empty (z := (72, [(0, .ref (ad 1)), (1, .int post), (2, .int isFirst), (3, .int v19_3), (4, .int v19_4), (5, .int v19_5)], [.int isFirst])) rfl ?_
      refine y_if_eq tq_X8_empty 79 rfl rfl (fun c72 => ?_) (fun c72 => ?_)
      · skip
        refine y_blk 1 tq_X8_empty (z := (81, [(0, .ref (ad 1)), (1, .int post), (2, .int isFirst), (3, .int v19_3), (4, .int v19_4), (5, .int v19_5)], [.int v19_4])) rfl ?_
        exact J81 v19_3 v19_4 v19_5 v19_4
      · skip
        refine y_blk 2 tq_X8_empty (z := (81, [(0, .ref (ad 1)), (1, .int post), (2, .int isFirst), (3, .int v19_3), (4, .int v19_4), (5, .int v19_5)], [.int v19_3])) rfl ?_
        exact J81 v19_3 v19_4 v19_5 v19_3
    · skip
      refine y_blk 1 tq_X8_empty (z := (28, [(0, .ref (ad 1)), (1, .int post), (2, .int isFirst), (3, .int v19_3), (4, .int v19_4), (5, .int v19_5)], [.ref (ad 1)])) rfl ?_
      refine y_get hS tq_X8_empty (v := .ref (ad 6)) rfl fg_X8_33_X8 (hX.1 1 _ rfl) rfl ?_
      refine y_blk 1 tq_X8_empty (z := (33, [(0, .ref (ad 1)), (1, .int post), (2, .int isFirst), (3, .int v19_3), (4, .int v19_4), (5, .int v19_5)], [.int v19_5, .ref (ad 6)])) rfl ?_
      refine y_callV hS tq_X8_empty rfl (As := [.int v19_5]) rfl cv_X8_236 (hX.1 6 _ rfl) (m_X2_cellsHeld hS hX v19_5) rfl (by decide) (Nat.le_of_ble_eq_true rfl) (fun r33 Gc33 q33 => ?_) (fun E9 G9 h9 => h9.elim)
      obtain ⟨⟨x33, rfl⟩, eG33⟩ := q33
      have eG33 := eG33.symm
      subst eG33
      refine y_blk 1 tq_X8_empty (z := (37, [(0, .ref (ad 1)), (1, .int post), (2, .int isFirst), (3, .int v19_3), (4, .int v19_4), (5, .int v19_5)], [.ref (ad 1), .long x33])) rfl ?_
      refine y_get hS tq_X8_empty (v := .ref (ad 120)) rfl fg_X8_42_X8 (hX.1 1 _ rfl) rfl ?_
      refine y_blk 1 tq_X8_empty (z := (41, [(0, .ref (ad 1)), (1, .int post), (2, .int isFirst), (3, .int v19_3), (4, .int v19_4), (5, .int v19_5)], [.int post, .ref (ad 120), .long x33])) rfl ?_
      refine y_callV hS tq_X8_empty rfl (As := [.int post]) rfl cv_X8_239 (hX.num (k := 10) (by decide)) (m_X5_at hS hX (k := 10) (by decide) post) rfl (by decide) (Nat.le_of_ble_eq_true rfl) (fun r41 Gc41 q41 => ?_) (fun E9 G9 h9 => h9.elim)
      obtain ⟨rfl, eG41⟩ := q41
      have eG41 := eG41.symm
      subst eG41
      refine y_blk 0 tq_X8_empty (z := (44, [(0, .ref (ad 1)), (1, .int post), (2, .int isFirst), (3, .int v19_3), (4, .int v19_4), (5, .int v19_5)], [.int (xat σ 10 post), .long x33])) rfl ?_
      refine y_callS hS tq_X8_empty rfl (As := [.long x33, .int (xat σ 10 post)]) rfl cs_X8_124 (m_X8_isOf hS  x33 (xat σ 10 post)) rfl (by decide) (Nat.le_of_ble_eq_true rfl) (fun r44 Gc44 q44 => ?_) (fun E9 G9 h9 => h9.elim)
      obtain ⟨rfl, eG44⟩ := q44
      have eG44 := eG44.symm
      subst eG44
      refine y_blk 0 tq_X8_empty (z := (47, [(0, .ref (ad 1)), (1, .int post), (2, .int isFirst), (3, .int v19_3), (4, .int v19_4), (5, .int v19_5)], [.int (if xis x33 (xat σ 10 post) then 1 else 0)])) rfl ?_
      refine y_if_ne tq_X8_empty 65 rfl rfl (fun c47 => ?_) (fun c47 => ?_)
      · skip
        refine y_blk 0 tq_X8_empty (z := (65, [(0, .ref (ad 1)), (1, .int post), (2, .int isFirst), (3, .int v19_3), (4, .int v19_4), (5, .int v19_5)], [])) rfl ?_
        exact J65 v19_3 v19_4 (by exact c24)
      · skip
        refine y_blk 2 tq_X8_empty (z := (52, [(0, .ref (ad 1)), (1, .int post), (2, .int isFirst), (3, .int v19_3), (4, .int v19_4), (5, .int v19_5)], [.int (-1), .int v19_3])) rfl ?_
        refine y_icmp_ne tq_X8_empty 60 rfl rfl (fun c52 => ?_) (fun c52 => ?_)
        · skip
          refine y_blk 1 tq_X8_empty (z := (61, [(0, .ref (ad 1)), (1, .int post), (2, .int isFirst), (3, .int v19_3), (4, .int v19_4), (5, .int v19_5)], [.int v19_3])) rfl ?_
          exact J61 v19_3 (by exact c24)
        · skip
          refine y_blk 2 tq_X8_empty (z := (61, [(0, .ref (ad 1)), (1, .int post), (2, .int isFirst), (3, .int v19_3), (4, .int v19_4), (5, .int v19_5)], [.int v19_5])) rfl ?_
          exact J61 v19_5 (by exact c24)
  refine y_blk 2 tq_X8_empty (z := (2, [(0, .ref (ad 1)), (1, .int post), (2, .int isFirst)], [.ref (ad 1), .int post])) rfl ?_
  refine y_get hS tq_X8_empty (v := .ref (ad 120)) rfl fg_X8_42_X8 (hX.1 1 _ rfl) rfl ?_
  refine y_blk 0 tq_X8_empty (z := (5, [(0, .ref (ad 1)), (1, .int post), (2, .int isFirst)], [.ref (ad 120), .int post])) rfl ?_
  refine y_callV hS tq_X8_empty rfl (As := []) rfl cv_X8_193 (hX.num (k := 10) (by decide)) (m_X5_size hS hX (k := 10) (by decide) ) rfl (by decide) (Nat.le_of_ble_eq_true rfl) (fun r5 Gc5 q5 => ?_) (fun E9 G9 h9 => h9.elim)
  obtain ⟨rfl, eG5⟩ := q5
  have eG5 := eG5.symm
  subst eG5
  refine y_blk 0 tq_X8_empty (z := (8, [(0, .ref (ad 1)), (1, .int post), (2, .int isFirst)], [.int (σ.1 10), .int post])) rfl ?_
  refine y_callS hS tq_X8_empty rfl (As := [.int post, .int (σ.1 10)]) rfl cs_X8_164 (m_X8_needThere hS  post (σ.1 10)) rfl (by decide) (Nat.le_of_ble_eq_true rfl) (fun r8 Gc8 q8 => ?_) (fun E9 G9 h9 => ⟨h9.1, h9.2⟩)
  obtain ⟨⟨rfl, hq8⟩, eG8⟩ := q8
  have eG8 := eG8.symm
  subst eG8
  refine y_blk 6 tq_X8_empty (z := (19, [(5, .int 0), (4, .int 0), (3, .int (-1)), (0, .ref (ad 1)), (1, .int post), (2, .int isFirst)], [])) rfl ?_
  refine y_pick (L2 := [(0, .ref (ad 1)), (1, .int post), (2, .int isFirst), (3, .int (-1)), (4, .int 0), (5, .int 0)]) [3, 4, 5, 2, 1, 0] rfl ?_
  exact J19 _ (-1) 0 0 rfl
set_option maxHeartbeats 4000000 in
set_option maxRecDepth 100000 in
theorem m_X8_lapse {l : Launch} {S0 : State} {A0 : Array Value} {D : va_G} {aC : Nat → ClassId} {ad : Nat → Nat} {G : AH} {σ : XS} (hS : yS l S0 A0 D aC) (hX : atX aC ad G σ) (cell : Int32) (from_ : Int32) (to : Int32) : yM l S0 D yX8_lapse cX8_lapse 5 (some .int) 14 2 12 [.ref (ad 1), .int cell, .int from_, .int to] G (fun r G1 => (∃ v : Int32, r = some (.int v)) ∧ G1 = G) (fun E G1 => (E = "java/lang/IndexOutOfBoundsException" ∨ E = "java/lang/IllegalArgumentException") ∧ G1 = G) := by
  refine yM.ofK K_X8_lapse rfl (by decide) (Nat.le_of_ble_eq_true rfl) ?_
  have J35 : ∀ (n35 : Nat) (v35_4 : Int32) (hto : to.toInt < 1000), ((to : Int32).toInt + 1 - v35_4.toInt).toNat = n35 → Y l S0 D K_X8_lapse 14 2 12 (fun r G1 => (∃ v : Int32, r = some (.int v)) ∧ G1 = G) (fun E G1 => (E = "java/lang/IndexOutOfBoundsException" ∨ E = "java/lang/IllegalArgumentException") ∧ G1 = G) 35 [(0, .ref (ad 1)), (1, .int cell), (2, .int from_), (3, .int to), (4, .int v35_4)] [] G 0 0 := by
    intro n35
    induction n35 using Nat.strongRecOn with
    | _ n35 ih35 =>
    intro v35_4 hto hn35
    subst hn35
    refine y_blk 2 tq_X8_lapse (z := (38, [(0, .ref (ad 1)), (1, .int cell), (2, .int from_), (3, .int to), (4, .int v35_4)], [.int to, .int v35_4])) rfl ?_
    refine y_icmp_gt tq_X8_lapse 63 rfl rfl (fun c38 => ?_) (fun c38 => ?_)
    · skip
      refine y_blk 1 tq_X8_lapse (z := (64, [(0, .ref (ad 1)), (1, .int cell), (2, .int from_), (3, .int to), (4, .int v35_4)], [.int (-1)])) rfl ?_
      exact y_iret tq_X8_lapse rfl rfl (⟨⟨_, rfl⟩, rfl⟩)
    · skip
      refine y_blk 2 tq_X8_lapse (z := (44, [(0, .ref (ad 1)), (1, .int cell), (2, .int from_), (3, .int to), (4, .int v35_4)], [.int v35_4, .ref (ad 1)])) rfl ?_
      refine y_callV hS tq_X8_lapse rfl (As := [.int v35_4]) rfl cv_X8_219 (hX.1 1 _ rfl) (m_X8_watchedCells hS hX v35_4) rfl (by decide) (Nat.le_of_ble_eq_true rfl) (fun r44 Gc44 q44 => ?_) (fun E9 G9 h9 => h9.elim)
      obtain ⟨⟨x44, rfl⟩, eG44⟩ := q44
      have eG44 := eG44.symm
      subst eG44
      refine y_blk 1 tq_X8_lapse (z := (48, [(0, .ref (ad 1)), (1, .int cell), (2, .int from_), (3, .int to), (4, .int v35_4)], [.int cell, .long x44])) rfl ?_
      refine y_callS hS tq_X8_lapse rfl (As := [.long x44, .int cell]) rfl cs_X8_124 (m_X8_isOf hS  x44 cell) rfl (by decide) (Nat.le_of_ble_eq_true rfl) (fun r48 Gc48 q48 => ?_) (fun E9 G9 h9 => h9.elim)
      obtain ⟨rfl, eG48⟩ := q48
      have eG48 := eG48.symm
      subst eG48
      refine y_blk 0 tq_X8_lapse (z := (51, [(0, .ref (ad 1)), (1, .int cell), (2, .int from_), (3, .int to), (4, .int v35_4)], [.int (if xis x44 cell then 1 else 0)])) rfl ?_
      refine y_if_ne tq_X8_lapse 57 rfl rfl (fun c51 => ?_) (fun c51 => ?_)
      · skip
        refine y_blk 2 tq_X8_lapse (z := (35, [(4, .int (v35_4 + 1)), (0, .ref (ad 1)), (1, .int cell), (2, .int from_), (3, .int to)], [])) rfl ?_
        refine y_pick (L2 := [(0, .ref (ad 1)), (1, .int cell), (2, .int from_), (3, .int to), (4, .int (v35_4 + 1))]) [1, 2, 3, 4, 0] rfl ?_
        exact ih35 _ (by exact ydec2 c38 (by omega)) (v35_4 + 1) (by first | assumption | exact absurd rfl hq29 | (simp only [yif0, Classical.not_not, ylt, yle, yl_m1, yl_0, yl_1, yl_2, yl_3, yl_4, yl_5, yl_6, yl_7, yl_8, yl_9, yl_10, yl_11, yl_12, yl_15, yl_16, yl_20, yl_60, yl_64, yl_90, yl_97, yl_99, yl_100, yl_120, yl_239, yl_240] at *; omega)) rfl
      · skip
        refine y_blk 1 tq_X8_lapse (z := (56, [(0, .ref (ad 1)), (1, .int cell), (2, .int from_), (3, .int to), (4, .int v35_4)], [.int v35_4])) rfl ?_
        exact y_iret tq_X8_lapse rfl rfl (⟨⟨_, rfl⟩, rfl⟩)
  refine y_blk 2 tq_X8_lapse (z := (2, [(0, .ref (ad 1)), (1, .int cell), (2, .int from_), (3, .int to)], [.int cell, .ref (ad 1)])) rfl ?_
  refine y_callV hS tq_X8_lapse rfl (As := [.int cell]) rfl cv_X8_114 (hX.1 1 _ rfl) (m_X8_needCell hS hX cell) rfl (by decide) (Nat.le_of_ble_eq_true rfl) (fun r2 Gc2 q2 => ?_) (fun E9 G9 h9 => ⟨(Or.inl h9.1.1), h9.2⟩)
  obtain ⟨⟨rfl, hq2⟩, eG2⟩ := q2
  have eG2 := eG2.symm
  subst eG2
  refine y_blk 1 tq_X8_lapse (z := (6, [(0, .ref (ad 1)), (1, .int cell), (2, .int from_), (3, .int to)], [.int from_])) rfl ?_
  refine y_callS hS tq_X8_lapse rfl (As := [.int from_]) rfl cs_X8_139 (m_X8_isMinute hS  from_) rfl (by decide) (Nat.le_of_ble_eq_true rfl) (fun r6 Gc6 q6 => ?_) (fun E9 G9 h9 => h9.elim)
  obtain ⟨rfl, eG6⟩ := q6
  have eG6 := eG6.symm
  subst eG6
  refine y_blk 0 tq_X8_lapse (z := (9, [(0, .ref (ad 1)), (1, .int cell), (2, .int from_), (3, .int to)], [.int (if 0 ≤ from_ ∧ from_ ≤ 239 then 1 else 0)])) rfl ?_
  refine y_if_eq tq_X8_lapse 28 rfl rfl (fun c9 => ?_) (fun c9 => ?_)
  · skip
    refine y_blk 1 tq_X8_lapse (z := (29, [(0, .ref (ad 1)), (1, .int cell), (2, .int from_), (3, .int to)], [.int 0])) rfl ?_
    refine y_callS hS tq_X8_lapse rfl (As := [.int 0]) rfl cs_X8_117 (m_X8_needLet hS  0) rfl (by decide) (Nat.le_of_ble_eq_true rfl) (fun r29 Gc29 q29 => ?_) (fun E9 G9 h9 => ⟨(Or.inr h9.1.1), h9.2⟩)
    obtain ⟨⟨rfl, hq29⟩, eG29⟩ := q29
    have eG29 := eG29.symm
    subst eG29
    refine y_blk 2 tq_X8_lapse (z := (35, [(4, .int from_), (0, .ref (ad 1)), (1, .int cell), (2, .int from_), (3, .int to)], [])) rfl ?_
    refine y_pick (L2 := [(0, .ref (ad 1)), (1, .int cell), (2, .int from_), (3, .int to), (4, .int from_)]) [1, 2, 3, 4, 0] rfl ?_
    exact J35 _ from_ (by first | assumption | exact absurd rfl hq29 | (simp only [yif0, Classical.not_not, ylt, yle, yl_m1, yl_0, yl_1, yl_2, yl_3, yl_4, yl_5, yl_6, yl_7, yl_8, yl_9, yl_10, yl_11, yl_12, yl_15, yl_16, yl_20, yl_60, yl_64, yl_90, yl_97, yl_99, yl_100, yl_120, yl_239, yl_240] at *; omega)) rfl
  · skip
    refine y_blk 1 tq_X8_lapse (z := (13, [(0, .ref (ad 1)), (1, .int cell), (2, .int from_), (3, .int to)], [.int to])) rfl ?_
    refine y_callS hS tq_X8_lapse rfl (As := [.int to]) rfl cs_X8_139 (m_X8_isMinute hS  to) rfl (by decide) (Nat.le_of_ble_eq_true rfl) (fun r13 Gc13 q13 => ?_) (fun E9 G9 h9 => h9.elim)
    obtain ⟨rfl, eG13⟩ := q13
    have eG13 := eG13.symm
    subst eG13
    refine y_blk 0 tq_X8_lapse (z := (16, [(0, .ref (ad 1)), (1, .int cell), (2, .int from_), (3, .int to)], [.int (if 0 ≤ to ∧ to ≤ 239 then 1 else 0)])) rfl ?_
    refine y_if_eq tq_X8_lapse 28 rfl rfl (fun c16 => ?_) (fun c16 => ?_)
    · skip
      refine y_blk 1 tq_X8_lapse (z := (29, [(0, .ref (ad 1)), (1, .int cell), (2, .int from_), (3, .int to)], [.int 0])) rfl ?_
      refine y_callS hS tq_X8_lapse rfl (As := [.int 0]) rfl cs_X8_117 (m_X8_needLet hS  0) rfl (by decide) (Nat.le_of_ble_eq_true rfl) (fun r29 Gc29 q29 => ?_) (fun E9 G9 h9 => ⟨(Or.inr h9.1.1), h9.2⟩)
      obtain ⟨⟨rfl, hq29⟩, eG29⟩ := q29
      have eG29 := eG29.symm
      subst eG29
      refine y_blk 2 tq_X8_lapse (z := (35, [(4, .int from_), (0, .ref (ad 1)), (1, .int cell), (2, .int from_), (3, .int to)], [])) rfl ?_
      refine y_pick (L2 := [(0, .ref (ad 1)), (1, .int cell), (2, .int from_), (3, .int to), (4, .int from_)]) [1, 2, 3, 4, 0] rfl ?_
      exact J35 _ from_ (by first | assumption | exact absurd rfl hq29 | (simp only [yif0, Classical.not_not, ylt, yle, yl_m1, yl_0, yl_1, yl_2, yl_3, yl_4, yl_5, yl_6, yl_7, yl_8, yl_9, yl_10, yl_11, yl_12, yl_15, yl_16, yl_20, yl_60, yl_64, yl_90, yl_97, yl_99, yl_100, yl_120, yl_239, yl_240] at *; omega)) rfl
    · skip
      refine y_blk 2 tq_X8_lapse (z := (21, [(0, .ref (ad 1)), (1, .int cell), (2, .int from_), (3, .int to)], [.int to, .int from_])) rfl ?_
      refine y_icmp_gt tq_X8_lapse 28 rfl rfl (fun c21 => ?_) (fun c21 => ?_)
      · skip
        refine y_blk 1 tq_X8_lapse (z := (29, [(0, .ref (ad 1)), (1, .int cell), (2, .int from_), (3, .int to)], [.int 0])) rfl ?_
        refine y_callS hS tq_X8_lapse rfl (As := [.int 0]) rfl cs_X8_117 (m_X8_needLet hS  0) rfl (by decide) (Nat.le_of_ble_eq_true rfl) (fun r29 Gc29 q29 => ?_) (fun E9 G9 h9 => ⟨(Or.inr h9.1.1), h9.2⟩)
        obtain ⟨⟨rfl, hq29⟩, eG29⟩ := q29
        have eG29 := eG29.symm
        subst eG29
        refine y_blk 2 tq_X8_lapse (z := (35, [(4, .int from_), (0, .ref (ad 1)), (1, .int cell), (2, .int from_), (3, .int to)], [])) rfl ?_
        refine y_pick (L2 := [(0, .ref (ad 1)), (1, .int cell), (2, .int from_), (3, .int to), (4, .int from_)]) [1, 2, 3, 4, 0] rfl ?_
        exact J35 _ from_ (by first | assumption | exact absurd rfl hq29 | (simp only [yif0, Classical.not_not, ylt, yle, yl_m1, yl_0, yl_1, yl_2, yl_3, yl_4, yl_5, yl_6, yl_7, yl_8, yl_9, yl_10, yl_11, yl_12, yl_15, yl_16, yl_20, yl_60, yl_64, yl_90, yl_97, yl_99, yl_100, yl_120, yl_239, yl_240] at *; omega)) rfl
      · skip
        refine y_blk 2 tq_X8_lapse (z := (29, [(0, .ref (ad 1)), (1, .int cell), (2, .int from_), (3, .int to)], [.int 1])) rfl ?_
        refine y_callS hS tq_X8_lapse rfl (As := [.int 1]) rfl cs_X8_117 (m_X8_needLet hS  1) rfl (by decide) (Nat.le_of_ble_eq_true rfl) (fun r29 Gc29 q29 => ?_) (fun E9 G9 h9 => ⟨(Or.inr h9.1.1), h9.2⟩)
        obtain ⟨⟨rfl, hq29⟩, eG29⟩ := q29
        have eG29 := eG29.symm
        subst eG29
        refine y_blk 2 tq_X8_lapse (z := (35, [(4, .int from_), (0, .ref (ad 1)), (1, .int cell), (2, .int from_), (3, .int to)], [])) rfl ?_
        refine y_pick (L2 := [(0, .ref (ad 1)), (1, .int cell), (2, .int from_), (3, .int to), (4, .int from_)]) [1, 2, 3, 4, 0] rfl ?_
        exact J35 _ from_ (by first | assumption | exact absurd rfl hq29 | (simp only [yif0, Classical.not_not, ylt, yle, yl_m1, yl_0, yl_1, yl_2, yl_3, yl_4, yl_5, yl_6, yl_7, yl_8, yl_9, yl_10, yl_11, yl_12, yl_15, yl_16, yl_20, yl_60, yl_64, yl_90, yl_97, yl_99, yl_100, yl_120, yl_239, yl_240] at *; omega)) rfl
set_option maxHeartbeats 4000000 in
set_option maxRecDepth 100000 in
theorem m_X8_words {l : Launch} {S0 : State} {A0 : Array Value} {D : va_G} {aC : Nat → ClassId} {ad : Nat → Nat} {G : AH} {σ : XS} (hS : yS l S0 A0 D aC) (hX : atX aC ad G σ) (seed : Int32) : yM l S0 D yX8_words cX8_words 2 (some .int) 14 1 6 [.ref (ad 1), .int seed] G (fun r G1 => (r = some (.int (yaft seed)) ∧ (0 ≤ seed ∧ seed ≤ 99)) ∧ ∃ σ1 : XS, atX aC ad G1 σ1 ∧ keepX G G1 ∧ xfr [11, 12, 13, 14, 35, 37, 38, 52, 53, 54] σ σ1 ∧ ((xnew seed σ1 ∧ xans0 σ1) ∧ σ1.2.2.1 4 = seed)) (fun E G1 => ((E = "java/lang/IllegalArgumentException" ∧ (¬ (0 ≤ seed ∧ seed ≤ 99)))) ∧ G1 = G) := by
  refine yM.ofK K_X8_words rfl (by decide) (Nat.le_of_ble_eq_true rfl) ?_
  refine y_blk 3 tq_X8_words (z := (4, [(0, .ref (ad 1)), (1, .int seed)], [.int 99, .int 0, .int seed])) rfl ?_
  refine y_callS hS tq_X8_words rfl (As := [.int seed, .int 0, .int 99]) rfl cs_X8_76 (m_X8_isIn hS  seed 0 99) rfl (by decide) (Nat.le_of_ble_eq_true rfl) (fun r4 Gc4 q4 => ?_) (fun E9 G9 h9 => h9.elim)
  obtain ⟨rfl, eG4⟩ := q4
  have eG4 := eG4.symm
  subst eG4
  refine y_blk 0 tq_X8_words (z := (7, [(0, .ref (ad 1)), (1, .int seed)], [.int (if 0 ≤ seed ∧ seed ≤ 99 then 1 else 0)])) rfl ?_
  refine y_callS hS tq_X8_words rfl (As := [.int (if 0 ≤ seed ∧ seed ≤ 99 then 1 else 0)]) rfl cs_X8_117 (m_X8_needLet hS  (if 0 ≤ seed ∧ seed ≤ 99 then 1 else 0)) rfl (by decide) (Nat.le_of_ble_eq_true rfl) (fun r7 Gc7 q7 => ?_) (fun E9 G9 h9 => ⟨(And.intro h9.1.1 (by first | exact absurd h9.1.2 (by decide) | (intro q9; have z9 := h9.1.2; clear h9; (simp only [yif0, Classical.not_not, ylt, yle, yl_m1, yl_0, yl_1, yl_2, yl_3, yl_4, yl_5, yl_6, yl_7, yl_8, yl_9, yl_10, yl_11, yl_12, yl_15, yl_16, yl_20, yl_60, yl_64, yl_90, yl_97, yl_99, yl_100, yl_120, yl_239, yl_240] at *; omega)))), h9.2⟩)
  obtain ⟨⟨rfl, hq7⟩, eG7⟩ := q7
  have eG7 := eG7.symm
  subst eG7
  refine y_blk 1 tq_X8_words (z := (11, [(0, .ref (ad 1)), (1, .int seed)], [.ref (ad 1)])) rfl ?_
  refine y_get hS tq_X8_words (v := .ref (ad 7)) rfl fg_X8_49_X8 (hX.1 1 _ rfl) rfl ?_
  refine y_blk 1 tq_X8_words (z := (15, [(0, .ref (ad 1)), (1, .int seed)], [.int seed, .ref (ad 7)])) rfl ?_
  refine y_callV hS tq_X8_words rfl (As := [.int seed]) rfl cv_X8_70 (hX.1 7 _ rfl) (m_X7_tell hS hX seed) rfl (by decide) (Nat.le_of_ble_eq_true rfl) (fun r15 Gc15 q15 => ?_) (fun E9 G9 h9 => h9.elim)
  obtain ⟨rfl, σ15, hXc15, hFc15, knc15, hR15⟩ := q15
  refine y_blk 1 tq_X8_words (z := (19, [(0, .ref (ad 1)), (1, .int seed)], [.ref (ad 1)])) rfl ?_
  refine y_get hS tq_X8_words (v := .ref (ad 7)) rfl fg_X8_49_X8 (hXc15.1 1 _ rfl) rfl ?_
  refine y_blk 1 tq_X8_words (z := (23, [(0, .ref (ad 1)), (1, .int seed)], [.int 0, .ref (ad 7)])) rfl ?_
  refine y_callV hS tq_X8_words rfl (As := [.int 0]) rfl cv_X8_242 (hXc15.1 7 _ rfl) (m_X7_wordOf hS hXc15 0) rfl (by decide) (Nat.le_of_ble_eq_true rfl) (fun r23 Gc23 q23 => ?_) (fun E9 G9 h9 => h9.elim)
  obtain ⟨rfl, eG23⟩ := q23
  have eG23 := eG23.symm
  subst eG23
  refine y_blk 0 tq_X8_words (z := (26, [(0, .ref (ad 1)), (1, .int seed)], [.int (xat σ15 11 0)])) rfl ?_
  exact y_iret tq_X8_words rfl rfl (⟨⟨congrArg (fun z => some (Value.int z)) hR15.1.1.at0, (by (simp only [yif0, Classical.not_not, ylt, yle, yl_m1, yl_0, yl_1, yl_2, yl_3, yl_4, yl_5, yl_6, yl_7, yl_8, yl_9, yl_10, yl_11, yl_12, yl_15, yl_16, yl_20, yl_60, yl_64, yl_90, yl_97, yl_99, yl_100, yl_120, yl_239, yl_240] at *; omega))⟩, _, hXc15, (keepX.rfl'.trans hFc15), ((xkn.trans xkn.rfl' knc15)).w, hR15⟩)
set_option maxHeartbeats 4000000 in
set_option maxRecDepth 100000 in
theorem m_X8_leak {l : Launch} {S0 : State} {A0 : Array Value} {D : va_G} {aC : Nat → ClassId} {ad : Nat → Nat} {G : AH} {σ : XS} (hS : yS l S0 A0 D aC) (hX : atX aC ad G σ) (hour : Int32) : yM l S0 D yX8_leak cX8_leak 2 (some .int) 13 2 12 [.ref (ad 1), .int hour] G (fun r G1 => (r = some (.int (yaft (σ.2.2.1 5))) ∧ ((0 ≤ hour ∧ hour ≤ 3) ∧ (σ.1 12).toInt < 8)) ∧ ∃ σ1 : XS, atX aC ad G1 σ1 ∧ keepX G G1 ∧ xfr [12, 35, 36, 53] σ σ1 ∧ xrep σ σ1 hour) (fun E G1 => ((E = "java/lang/IllegalArgumentException" ∧ (¬ (0 ≤ hour ∧ hour ≤ 3))) ∨ (E = "java/lang/IllegalStateException" ∧ ((0 ≤ hour ∧ hour ≤ 3) ∧ ¬ (σ.1 12).toInt < 8))) ∧ G1 = G) := by
  refine yM.ofK K_X8_leak rfl (by decide) (Nat.le_of_ble_eq_true rfl) ?_
  refine y_blk 3 tq_X8_leak (z := (3, [(0, .ref (ad 1)), (1, .int hour)], [.int 3, .int 0, .int hour])) rfl ?_
  refine y_callS hS tq_X8_leak rfl (As := [.int hour, .int 0, .int 3]) rfl cs_X8_76 (m_X8_isIn hS  hour 0 3) rfl (by decide) (Nat.le_of_ble_eq_true rfl) (fun r3 Gc3 q3 => ?_) (fun E9 G9 h9 => h9.elim)
  obtain ⟨rfl, eG3⟩ := q3
  have eG3 := eG3.symm
  subst eG3
  refine y_blk 0 tq_X8_leak (z := (6, [(0, .ref (ad 1)), (1, .int hour)], [.int (if 0 ≤ hour ∧ hour ≤ 3 then 1 else 0)])) rfl ?_
  refine y_callS hS tq_X8_leak rfl (As := [.int (if 0 ≤ hour ∧ hour ≤ 3 then 1 else 0)]) rfl cs_X8_117 (m_X8_needLet hS  (if 0 ≤ hour ∧ hour ≤ 3 then 1 else 0)) rfl (by decide) (Nat.le_of_ble_eq_true rfl) (fun r6 Gc6 q6 => ?_) (fun E9 G9 h9 => ⟨(Or.inl (And.intro h9.1.1 (by first | exact absurd h9.1.2 (by decide) | (intro q9; have z9 := h9.1.2; clear h9; (simp only [yif0, Classical.not_not, ylt, yle, yl_m1, yl_0, yl_1, yl_2, yl_3, yl_4, yl_5, yl_6, yl_7, yl_8, yl_9, yl_10, yl_11, yl_12, yl_15, yl_16, yl_20, yl_60, yl_64, yl_90, yl_97, yl_99, yl_100, yl_120, yl_239, yl_240] at *; omega))))), h9.2⟩)
  obtain ⟨⟨rfl, hq6⟩, eG6⟩ := q6
  have eG6 := eG6.symm
  subst eG6
  refine y_blk 1 tq_X8_leak (z := (10, [(0, .ref (ad 1)), (1, .int hour)], [.ref (ad 1)])) rfl ?_
  refine y_get hS tq_X8_leak (v := .ref (ad 7)) rfl fg_X8_49_X8 (hX.1 1 _ rfl) rfl ?_
  refine y_blk 0 tq_X8_leak (z := (13, [(0, .ref (ad 1)), (1, .int hour)], [.ref (ad 7)])) rfl ?_
  refine y_callV hS tq_X8_leak rfl (As := []) rfl cv_X8_245 (hX.1 7 _ rfl) (m_X7_isLeakedOut hS hX ) rfl (by decide) (Nat.le_of_ble_eq_true rfl) (fun r13 Gc13 q13 => ?_) (fun E9 G9 h9 => h9.elim)
  obtain ⟨rfl, eG13⟩ := q13
  have eG13 := eG13.symm
  subst eG13
  refine y_blk 0 tq_X8_leak (z := (16, [(0, .ref (ad 1)), (1, .int hour)], [.int (if (xcap 12 : Int) ≤ (σ.1 12).toInt then 1 else 0)])) rfl ?_
  refine y_if_ne tq_X8_leak 23 rfl rfl (fun c16 => ?_) (fun c16 => ?_)
  · skip
    refine y_blk 1 tq_X8_leak (z := (24, [(0, .ref (ad 1)), (1, .int hour)], [.int 0])) rfl ?_
    refine y_callS hS tq_X8_leak rfl (As := [.int 0]) rfl cs_X8_128 (m_X8_needPossible hS  0) rfl (by decide) (Nat.le_of_ble_eq_true rfl) (fun r24 Gc24 q24 => ?_) (fun E9 G9 h9 => ⟨(Or.inr (And.intro h9.1.1 (by first | exact absurd h9.1.2 (by decide) | (clear h9; have ec9 : xcap 12 = 8 := (by decide); rw [ec9] at c16; refine ⟨?_, ?_⟩ <;> (simp only [yif0, Classical.not_not, ylt, yle, yl_m1, yl_0, yl_1, yl_2, yl_3, yl_4, yl_5, yl_6, yl_7, yl_8, yl_9, yl_10, yl_11, yl_12, yl_15, yl_16, yl_20, yl_60, yl_64, yl_90, yl_97, yl_99, yl_100, yl_120, yl_239, yl_240] at *; omega))))), h9.2⟩)
    obtain ⟨⟨rfl, hq24⟩, eG24⟩ := q24
    have eG24 := eG24.symm
    subst eG24
    refine y_blk 1 tq_X8_leak (z := (28, [(0, .ref (ad 1)), (1, .int hour)], [.ref (ad 1)])) rfl ?_
    refine y_get hS tq_X8_leak (v := .ref (ad 7)) rfl fg_X8_49_X8 (hX.1 1 _ rfl) rfl ?_
    refine y_blk 1 tq_X8_leak (z := (32, [(0, .ref (ad 1)), (1, .int hour)], [.int hour, .ref (ad 7)])) rfl ?_
    refine y_callV hS tq_X8_leak rfl (As := [.int hour]) rfl cv_X8_248 (hX.1 7 _ rfl) (m_X7_replace hS hX hour (by first | exact absurd rfl hq24 | (refine ⟨?_, ?_⟩ <;> (simp only [yif0, Classical.not_not, ylt, yle, yl_m1, yl_0, yl_1, yl_2, yl_3, yl_4, yl_5, yl_6, yl_7, yl_8, yl_9, yl_10, yl_11, yl_12, yl_15, yl_16, yl_20, yl_60, yl_64, yl_90, yl_97, yl_99, yl_100, yl_120, yl_239, yl_240] at *; omega))) (by first | exact absurd rfl hq24 | (have ec9 : xcap 12 = 8 := (by decide); rw [ec9] at c16; (simp only [yif0, Classical.not_not, ylt, yle, yl_m1, yl_0, yl_1, yl_2, yl_3, yl_4, yl_5, yl_6, yl_7, yl_8, yl_9, yl_10, yl_11, yl_12, yl_15, yl_16, yl_20, yl_60, yl_64, yl_90, yl_97, yl_99, yl_100, yl_120, yl_239, yl_240] at *; omega)))) rfl (by decide) (Nat.le_of_ble_eq_true rfl) (fun r32 Gc32 q32 => ?_) (fun E9 G9 h9 => h9.elim)
    obtain ⟨rfl, σ32, hXc32, hFc32, knc32, hR32⟩ := q32
    refine y_blk 0 tq_X8_leak (z := (35, [(0, .ref (ad 1)), (1, .int hour)], [.int (yaft (σ.2.2.1 5))])) rfl ?_
    exact y_iret tq_X8_leak rfl rfl (⟨⟨rfl, (by first | exact absurd rfl hq24 | (have ec9 : xcap 12 = 8 := (by decide); rw [ec9] at c16; refine ⟨?_, ?_⟩ <;> (simp only [yif0, Classical.not_not, ylt, yle, yl_m1, yl_0, yl_1, yl_2, yl_3, yl_4, yl_5, yl_6, yl_7, yl_8, yl_9, yl_10, yl_11, yl_12, yl_15, yl_16, yl_20, yl_60, yl_64, yl_90, yl_97, yl_99, yl_100, yl_120, yl_239, yl_240] at *; omega)))⟩, _, hXc32, (keepX.rfl'.trans hFc32), ((xkn.trans xkn.rfl' knc32)).w, hR32⟩)
  · skip
    refine y_blk 2 tq_X8_leak (z := (24, [(0, .ref (ad 1)), (1, .int hour)], [.int 1])) rfl ?_
    refine y_callS hS tq_X8_leak rfl (As := [.int 1]) rfl cs_X8_128 (m_X8_needPossible hS  1) rfl (by decide) (Nat.le_of_ble_eq_true rfl) (fun r24 Gc24 q24 => ?_) (fun E9 G9 h9 => ⟨(Or.inr (And.intro h9.1.1 (by first | exact absurd h9.1.2 (by decide) | (clear h9; have ec9 : xcap 12 = 8 := (by decide); rw [ec9] at c16; refine ⟨?_, ?_⟩ <;> (simp only [yif0, Classical.not_not, ylt, yle, yl_m1, yl_0, yl_1, yl_2, yl_3, yl_4, yl_5, yl_6, yl_7, yl_8, yl_9, yl_10, yl_11, yl_12, yl_15, yl_16, yl_20, yl_60, yl_64, yl_90, yl_97, yl_99, yl_100, yl_120, yl_239, yl_240] at *; omega))))), h9.2⟩)
    obtain ⟨⟨rfl, hq24⟩, eG24⟩ := q24
    have eG24 := eG24.symm
    subst eG24
    refine y_blk 1 tq_X8_leak (z := (28, [(0, .ref (ad 1)), (1, .int hour)], [.ref (ad 1)])) rfl ?_
    refine y_get hS tq_X8_leak (v := .ref (ad 7)) rfl fg_X8_49_X8 (hX.1 1 _ rfl) rfl ?_
    refine y_blk 1 tq_X8_leak (z := (32, [(0, .ref (ad 1)), (1, .int hour)], [.int hour, .ref (ad 7)])) rfl ?_
    refine y_callV hS tq_X8_leak rfl (As := [.int hour]) rfl cv_X8_248 (hX.1 7 _ rfl) (m_X7_replace hS hX hour (by first | exact absurd rfl hq24 | (refine ⟨?_, ?_⟩ <;> (simp only [yif0, Classical.not_not, ylt, yle, yl_m1, yl_0, yl_1, yl_2, yl_3, yl_4, yl_5, yl_6, yl_7, yl_8, yl_9, yl_10, yl_11, yl_12, yl_15, yl_16, yl_20, yl_60, yl_64, yl_90, yl_97, yl_99, yl_100, yl_120, yl_239, yl_240] at *; omega))) (by first | exact absurd rfl hq24 | (have ec9 : xcap 12 = 8 := (by decide); rw [ec9] at c16; (simp only [yif0, Classical.not_not, ylt, yle, yl_m1, yl_0, yl_1, yl_2, yl_3, yl_4, yl_5, yl_6, yl_7, yl_8, yl_9, yl_10, yl_11, yl_12, yl_15, yl_16, yl_20, yl_60, yl_64, yl_90, yl_97, yl_99, yl_100, yl_120, yl_239, yl_240] at *; omega)))) rfl (by decide) (Nat.le_of_ble_eq_true rfl) (fun r32 Gc32 q32 => ?_) (fun E9 G9 h9 => h9.elim)
    obtain ⟨rfl, σ32, hXc32, hFc32, knc32, hR32⟩ := q32
    refine y_blk 0 tq_X8_leak (z := (35, [(0, .ref (ad 1)), (1, .int hour)], [.int (yaft (σ.2.2.1 5))])) rfl ?_
    exact y_iret tq_X8_leak rfl rfl (⟨⟨rfl, (by first | exact absurd rfl hq24 | (have ec9 : xcap 12 = 8 := (by decide); rw [ec9] at c16; refine ⟨?_, ?_⟩ <;> (simp only [yif0, Classical.not_not, ylt, yle, yl_m1, yl_0, yl_1, yl_2, yl_3, yl_4, yl_5, yl_6, yl_7, yl_8, yl_9, yl_10, yl_11, yl_12, yl_15, yl_16, yl_20, yl_60, yl_64, yl_90, yl_97, yl_99, yl_100, yl_120, yl_239, yl_240] at *; omega)))⟩, _, hXc32, (keepX.rfl'.trans hFc32), ((xkn.trans xkn.rfl' knc32)).w, hR32⟩)
set_option maxHeartbeats 4000000 in
set_option maxRecDepth 100000 in
theorem m_X8_answer {l : Launch} {S0 : State} {A0 : Array Value} {D : va_G} {aC : Nat → ClassId} {ad : Nat → Nat} {G : AH} {σ : XS} (hS : yS l S0 A0 D aC) (hX : atX aC ad G σ) (guard : Int32) (minute : Int32) (word : Int32) : yM l S0 D yX8_answer cX8_answer 4 (some .int) 15 2 12 [.ref (ad 1), .int guard, .int minute, .int word] G (fun r G1 => (∃ v : Int32, r = some (.int v)) ∧ ∃ σ1 : XS, atX aC ad G1 σ1 ∧ keepX G G1 ∧ xfr [37, 38, 54] σ σ1) (fun E G1 => (E = "java/lang/IndexOutOfBoundsException" ∨ E = "java/lang/IllegalArgumentException") ∧ G1 = G) := by
  refine yM.ofK K_X8_answer rfl (by decide) (Nat.le_of_ble_eq_true rfl) ?_
  refine y_blk 2 tq_X8_answer (z := (2, [(0, .ref (ad 1)), (1, .int guard), (2, .int minute), (3, .int word)], [.ref (ad 1), .int guard])) rfl ?_
  refine y_get hS tq_X8_answer (v := .ref (ad 6)) rfl fg_X8_33_X8 (hX.1 1 _ rfl) rfl ?_
  refine y_blk 0 tq_X8_answer (z := (5, [(0, .ref (ad 1)), (1, .int guard), (2, .int minute), (3, .int word)], [.ref (ad 6), .int guard])) rfl ?_
  refine y_callV hS tq_X8_answer rfl (As := []) rfl cv_X8_182 (hX.1 6 _ rfl) (m_X2_count hS hX ) rfl (by decide) (Nat.le_of_ble_eq_true rfl) (fun r5 Gc5 q5 => ?_) (fun E9 G9 h9 => h9.elim)
  obtain ⟨rfl, eG5⟩ := q5
  have eG5 := eG5.symm
  subst eG5
  refine y_blk 0 tq_X8_answer (z := (8, [(0, .ref (ad 1)), (1, .int guard), (2, .int minute), (3, .int word)], [.int (σ.1 5), .int guard])) rfl ?_
  refine y_callS hS tq_X8_answer rfl (As := [.int guard, .int (σ.1 5)]) rfl cs_X8_164 (m_X8_needThere hS  guard (σ.1 5)) rfl (by decide) (Nat.le_of_ble_eq_true rfl) (fun r8 Gc8 q8 => ?_) (fun E9 G9 h9 => ⟨(Or.inl h9.1.1), h9.2⟩)
  obtain ⟨⟨rfl, hq8⟩, eG8⟩ := q8
  have eG8 := eG8.symm
  subst eG8
  refine y_blk 1 tq_X8_answer (z := (12, [(0, .ref (ad 1)), (1, .int guard), (2, .int minute), (3, .int word)], [.int minute])) rfl ?_
  refine y_callS hS tq_X8_answer rfl (As := [.int minute]) rfl cs_X8_139 (m_X8_isMinute hS  minute) rfl (by decide) (Nat.le_of_ble_eq_true rfl) (fun r12 Gc12 q12 => ?_) (fun E9 G9 h9 => h9.elim)
  obtain ⟨rfl, eG12⟩ := q12
  have eG12 := eG12.symm
  subst eG12
  refine y_blk 0 tq_X8_answer (z := (15, [(0, .ref (ad 1)), (1, .int guard), (2, .int minute), (3, .int word)], [.int (if 0 ≤ minute ∧ minute ≤ 239 then 1 else 0)])) rfl ?_
  refine y_callS hS tq_X8_answer rfl (As := [.int (if 0 ≤ minute ∧ minute ≤ 239 then 1 else 0)]) rfl cs_X8_117 (m_X8_needLet hS  (if 0 ≤ minute ∧ minute ≤ 239 then 1 else 0)) rfl (by decide) (Nat.le_of_ble_eq_true rfl) (fun r15 Gc15 q15 => ?_) (fun E9 G9 h9 => ⟨(Or.inr h9.1.1), h9.2⟩)
  obtain ⟨⟨rfl, hq15⟩, eG15⟩ := q15
  have eG15 := eG15.symm
  subst eG15
  refine y_blk 1 tq_X8_answer (z := (19, [(0, .ref (ad 1)), (1, .int guard), (2, .int minute), (3, .int word)], [.ref (ad 1)])) rfl ?_
  refine y_get hS tq_X8_answer (v := .ref (ad 7)) rfl fg_X8_49_X8 (hX.1 1 _ rfl) rfl ?_
  refine y_blk 3 tq_X8_answer (z := (26, [(0, .ref (ad 1)), (1, .int guard), (2, .int minute), (3, .int word)], [.int 60, .int minute, .int guard, .ref (ad 7)])) rfl ?_
  refine y_idiv tq_X8_answer rfl (by decide) ?_
  refine y_blk 1 tq_X8_answer (z := (28, [(0, .ref (ad 1)), (1, .int guard), (2, .int minute), (3, .int word)], [.int word, .int (minute / 60), .int guard, .ref (ad 7)])) rfl ?_
  refine y_callV hS tq_X8_answer rfl (As := [.int guard, .int (minute / 60), .int word]) rfl cv_X8_251 (hX.1 7 _ rfl) (m_X7_judge hS hX guard (minute / 60) word) rfl (by decide) (Nat.le_of_ble_eq_true rfl) (fun r28 Gc28 q28 => ?_) (fun E9 G9 h9 => h9.elim)
  obtain ⟨⟨x28, rfl⟩, σ28, hXc28, hFc28, knc28⟩ := q28
  refine y_blk 0 tq_X8_answer (z := (31, [(0, .ref (ad 1)), (1, .int guard), (2, .int minute), (3, .int word)], [.int x28])) rfl ?_
  exact y_iret tq_X8_answer rfl rfl (⟨⟨_, rfl⟩, _, hXc28, (keepX.rfl'.trans hFc28), ((xkn.trans xkn.rfl' knc28)).w⟩)
set_option maxHeartbeats 4000000 in
set_option maxRecDepth 100000 in
theorem m_X8_key {l : Launch} {S0 : State} {A0 : Array Value} {D : va_G} {aC : Nat → ClassId} {ad : Nat → Nat} {G : AH} {σ : XS} (hS : yS l S0 A0 D aC) (hX : atX aC ad G σ) (key : Int32) (guard : Int32) : yM l S0 D yX8_key cX8_key 4 (some .int) 13 2 12 [.ref (ad 1), .int key, .int guard] G (fun r G1 => (r = some (.int (xat σ 15 key)) ∧ ((0 ≤ key ∧ key ≤ 6 - 1) ∧ (guard = -1 ∨ (0 ≤ guard ∧ guard ≤ σ.1 5 - 1)))) ∧ ∃ σ1 : XS, atX aC ad G1 σ1 ∧ keepX G G1 ∧ xfr [39] σ σ1 ∧ σ1 = xput σ 15 key guard) (fun E G1 => ((E = "java/lang/IndexOutOfBoundsException" ∧ (¬ ((0 ≤ key ∧ key ≤ 6 - 1) ∧ (guard = -1 ∨ (0 ≤ guard ∧ guard ≤ σ.1 5 - 1)))))) ∧ G1 = G) := by
  refine yM.ofK K_X8_key rfl (by decide) (Nat.le_of_ble_eq_true rfl) ?_
  refine y_blk 2 tq_X8_key (z := (3, [(0, .ref (ad 1)), (1, .int key), (2, .int guard)], [.int 6, .int key])) rfl ?_
  refine y_callS hS tq_X8_key rfl (As := [.int key, .int 6]) rfl cs_X8_164 (m_X8_needThere hS  key 6) rfl (by decide) (Nat.le_of_ble_eq_true rfl) (fun r3 Gc3 q3 => ?_) (fun E9 G9 h9 => ⟨⟨h9.1.1, fun q9 => h9.1.2 q9.1⟩, h9.2⟩)
  obtain ⟨⟨rfl, hq3⟩, eG3⟩ := q3
  have eG3 := eG3.symm
  subst eG3
  refine y_blk 2 tq_X8_key (z := (8, [(0, .ref (ad 1)), (1, .int key), (2, .int guard)], [.ref (ad 1), .int guard])) rfl ?_
  refine y_get hS tq_X8_key (v := .ref (ad 6)) rfl fg_X8_33_X8 (hX.1 1 _ rfl) rfl ?_
  refine y_blk 0 tq_X8_key (z := (11, [(0, .ref (ad 1)), (1, .int key), (2, .int guard)], [.ref (ad 6), .int guard])) rfl ?_
  refine y_callV hS tq_X8_key rfl (As := []) rfl cv_X8_182 (hX.1 6 _ rfl) (m_X2_count hS hX ) rfl (by decide) (Nat.le_of_ble_eq_true rfl) (fun r11 Gc11 q11 => ?_) (fun E9 G9 h9 => h9.elim)
  obtain ⟨rfl, eG11⟩ := q11
  have eG11 := eG11.symm
  subst eG11
  refine y_blk 0 tq_X8_key (z := (14, [(0, .ref (ad 1)), (1, .int key), (2, .int guard)], [.int (σ.1 5), .int guard])) rfl ?_
  refine y_callS hS tq_X8_key rfl (As := [.int guard, .int (σ.1 5)]) rfl cs_X8_199 (m_X8_needNoneOrThere hS  guard (σ.1 5)) rfl (by decide) (Nat.le_of_ble_eq_true rfl) (fun r14 Gc14 q14 => ?_) (fun E9 G9 h9 => ⟨⟨h9.1.1, fun q9 => h9.1.2 q9.2⟩, h9.2⟩)
  obtain ⟨⟨rfl, hq14⟩, eG14⟩ := q14
  have eG14 := eG14.symm
  subst eG14
  refine y_blk 1 tq_X8_key (z := (18, [(0, .ref (ad 1)), (1, .int key), (2, .int guard)], [.ref (ad 1)])) rfl ?_
  refine y_get hS tq_X8_key (v := .ref (ad 130)) rfl fg_X8_53_X8 (hX.1 1 _ rfl) rfl ?_
  refine y_blk 1 tq_X8_key (z := (22, [(0, .ref (ad 1)), (1, .int key), (2, .int guard)], [.int key, .ref (ad 130)])) rfl ?_
  refine y_callV hS tq_X8_key rfl (As := [.int key]) rfl cv_X8_239 (hX.num (k := 15) (by decide)) (m_X5_at hS hX (k := 15) (by decide) key) rfl (by decide) (Nat.le_of_ble_eq_true rfl) (fun r22 Gc22 q22 => ?_) (fun E9 G9 h9 => h9.elim)
  obtain ⟨rfl, eG22⟩ := q22
  have eG22 := eG22.symm
  subst eG22
  refine y_blk 2 tq_X8_key (z := (27, [(3, .int (xat σ 15 key)), (0, .ref (ad 1)), (1, .int key), (2, .int guard)], [.ref (ad 1)])) rfl ?_
  refine y_get hS tq_X8_key (v := .ref (ad 130)) rfl fg_X8_53_X8 (hX.1 1 _ rfl) rfl ?_
  refine y_blk 2 tq_X8_key (z := (32, [(3, .int (xat σ 15 key)), (0, .ref (ad 1)), (1, .int key), (2, .int guard)], [.int guard, .int key, .ref (ad 130)])) rfl ?_
  refine y_callV hS tq_X8_key rfl (As := [.int key, .int guard]) rfl cv_X8_255 (hX.num (k := 15) (by decide)) (m_X5_put hS hX (k := 15) (by decide) key guard (fun q => absurd q (by decide))) rfl (by decide) (Nat.le_of_ble_eq_true rfl) (fun r32 Gc32 q32 => ?_) (fun E9 G9 h9 => h9.elim)
  obtain ⟨rfl, hXc32, hFc32⟩ := q32
  refine y_blk 1 tq_X8_key (z := (36, [(3, .int (xat σ 15 key)), (0, .ref (ad 1)), (1, .int key), (2, .int guard)], [.int (xat σ 15 key)])) rfl ?_
  exact y_iret tq_X8_key rfl rfl (⟨⟨rfl, (by first | exact absurd rfl hq2 | exact absurd rfl hq11 | exact absurd rfl hq19 | exact absurd rfl hq21 | exact absurd rfl hq24 | exact absurd rfl hq30 | exact absurd rfl hq35 | exact absurd rfl hq39 | exact absurd rfl hq40 | exact absurd rfl hq57 | exact absurd rfl hq45 | exact absurd rfl hq38 | exact absurd rfl hq34 | exact absurd rfl hq33 | exact absurd rfl hq29 | ((repeat' apply And.intro) <;> first | assumption | (simp only [yif0, Classical.not_not, ylt, yle, xcp0, xcp3, xcp5, xcp10, xcp12, xcp16, xcp22, yl_m1, yl_0, yl_1, yl_2, yl_3, yl_4, yl_5, yl_6, yl_7, yl_8, yl_9, yl_10, yl_11, yl_12, yl_15, yl_16, yl_20, yl_60, yl_64, yl_90, yl_97, yl_99, yl_100, yl_120, yl_239, yl_240] at *; first | omega | assumption | contradiction)))⟩, _, hXc32, (keepX.rfl'.trans hFc32), ((xkn.trans xkn.rfl' xkn_put)).w, rfl⟩)
set_option maxHeartbeats 4000000 in
set_option maxRecDepth 100000 in
theorem m_X8_ofGuard {l : Launch} {S0 : State} {A0 : Array Value} {D : va_G} {aC : Nat → ClassId} {ad : Nat → Nat} {G : AH} {σ : XS} (hS : yS l S0 A0 D aC) (hX : atX aC ad G σ) (guard : Int32) (what : Int32) : yM l S0 D yX8_ofGuard cX8_ofGuard 3 (some .int) 12 2 12 [.ref (ad 1), .int guard, .int what] G (fun r G1 => (∃ v : Int32, r = some (.int v)) ∧ G1 = G) (fun E G1 => ((E = "java/lang/IndexOutOfBoundsException" ∧ ¬ (0 ≤ guard ∧ guard ≤ σ.1 5 - 1)) ∨ (E = "java/lang/IllegalArgumentException" ∧ ¬ (0 ≤ what ∧ what ≤ 8))) ∧ G1 = G) := by
  refine yM.ofK K_X8_ofGuard rfl (by decide) (Nat.le_of_ble_eq_true rfl) ?_
  refine y_blk 2 tq_X8_ofGuard (z := (2, [(0, .ref (ad 1)), (1, .int guard), (2, .int what)], [.ref (ad 1), .int guard])) rfl ?_
  refine y_get hS tq_X8_ofGuard (v := .ref (ad 6)) rfl fg_X8_33_X8 (hX.1 1 _ rfl) rfl ?_
  refine y_blk 0 tq_X8_ofGuard (z := (5, [(0, .ref (ad 1)), (1, .int guard), (2, .int what)], [.ref (ad 6), .int guard])) rfl ?_
  refine y_callV hS tq_X8_ofGuard rfl (As := []) rfl cv_X8_182 (hX.1 6 _ rfl) (m_X2_count hS hX ) rfl (by decide) (Nat.le_of_ble_eq_true rfl) (fun r5 Gc5 q5 => ?_) (fun E9 G9 h9 => h9.elim)
  obtain ⟨rfl, eG5⟩ := q5
  have eG5 := eG5.symm
  subst eG5
  refine y_blk 0 tq_X8_ofGuard (z := (8, [(0, .ref (ad 1)), (1, .int guard), (2, .int what)], [.int (σ.1 5), .int guard])) rfl ?_
  refine y_callS hS tq_X8_ofGuard rfl (As := [.int guard, .int (σ.1 5)]) rfl cs_X8_164 (m_X8_needThere hS  guard (σ.1 5)) rfl (by decide) (Nat.le_of_ble_eq_true rfl) (fun r8 Gc8 q8 => ?_) (fun E9 G9 h9 => ⟨(Or.inl h9.1), h9.2⟩)
  obtain ⟨⟨rfl, hq8⟩, eG8⟩ := q8
  have eG8 := eG8.symm
  subst eG8
  refine y_blk 3 tq_X8_ofGuard (z := (15, [(0, .ref (ad 1)), (1, .int guard), (2, .int what)], [.int 8, .int 0, .int what])) rfl ?_
  refine y_callS hS tq_X8_ofGuard rfl (As := [.int what, .int 0, .int 8]) rfl cs_X8_76 (m_X8_isIn hS  what 0 8) rfl (by decide) (Nat.le_of_ble_eq_true rfl) (fun r15 Gc15 q15 => ?_) (fun E9 G9 h9 => h9.elim)
  obtain ⟨rfl, eG15⟩ := q15
  have eG15 := eG15.symm
  subst eG15
  refine y_blk 0 tq_X8_ofGuard (z := (18, [(0, .ref (ad 1)), (1, .int guard), (2, .int what)], [.int (if 0 ≤ what ∧ what ≤ 8 then 1 else 0)])) rfl ?_
  refine y_callS hS tq_X8_ofGuard rfl (As := [.int (if 0 ≤ what ∧ what ≤ 8 then 1 else 0)]) rfl cs_X8_117 (m_X8_needLet hS  (if 0 ≤ what ∧ what ≤ 8 then 1 else 0)) rfl (by decide) (Nat.le_of_ble_eq_true rfl) (fun r18 Gc18 q18 => ?_) (fun E9 G9 h9 => ⟨(Or.inr (And.intro h9.1.1 (by first | exact absurd h9.1.2 (by decide) | (intro q9; have z9 := h9.1.2; clear h9; (simp only [yif0, Classical.not_not, ylt, yle, yl_m1, yl_0, yl_1, yl_2, yl_3, yl_4, yl_5, yl_6, yl_7, yl_8, yl_9, yl_10, yl_11, yl_12, yl_15, yl_16, yl_20, yl_60, yl_64, yl_90, yl_97, yl_99, yl_100, yl_120, yl_239, yl_240] at *; omega))))), h9.2⟩)
  obtain ⟨⟨rfl, hq18⟩, eG18⟩ := q18
  have eG18 := eG18.symm
  subst eG18
  refine y_blk 1 tq_X8_ofGuard (z := (22, [(0, .ref (ad 1)), (1, .int guard), (2, .int what)], [.int what])) rfl ?_
  by_cases s22_0 : what = 0
  · refine y_swIn tq_X8_ofGuard 68 rfl (by rw [s22_0]; decide) (by rw [s22_0]; decide) (by rw [s22_0]; rfl) rfl ?_
    refine y_blk 1 tq_X8_ofGuard (z := (69, [(0, .ref (ad 1)), (1, .int guard), (2, .int what)], [.ref (ad 1)])) rfl ?_
    refine y_get hS tq_X8_ofGuard (v := .ref (ad 6)) rfl fg_X8_33_X8 (hX.1 1 _ rfl) rfl ?_
    refine y_blk 1 tq_X8_ofGuard (z := (73, [(0, .ref (ad 1)), (1, .int guard), (2, .int what)], [.int guard, .ref (ad 6)])) rfl ?_
    refine y_callV hS tq_X8_ofGuard rfl (As := [.int guard]) rfl cv_X8_258 (hX.1 6 _ rfl) (m_X2_firstOf hS hX guard) rfl (by decide) (Nat.le_of_ble_eq_true rfl) (fun r73 Gc73 q73 => ?_) (fun E9 G9 h9 => h9.elim)
    obtain ⟨rfl, eG73⟩ := q73
    have eG73 := eG73.symm
    subst eG73
    refine y_blk 0 tq_X8_ofGuard (z := (76, [(0, .ref (ad 1)), (1, .int guard), (2, .int what)], [.int (xat σ 5 guard)])) rfl ?_
    exact y_iret tq_X8_ofGuard rfl rfl (⟨⟨_, rfl⟩, rfl⟩)
  by_cases s22_1 : what = 1
  · refine y_swIn tq_X8_ofGuard 77 rfl (by rw [s22_1]; decide) (by rw [s22_1]; decide) (by rw [s22_1]; rfl) rfl ?_
    refine y_blk 1 tq_X8_ofGuard (z := (78, [(0, .ref (ad 1)), (1, .int guard), (2, .int what)], [.ref (ad 1)])) rfl ?_
    refine y_get hS tq_X8_ofGuard (v := .ref (ad 6)) rfl fg_X8_33_X8 (hX.1 1 _ rfl) rfl ?_
    refine y_blk 1 tq_X8_ofGuard (z := (82, [(0, .ref (ad 1)), (1, .int guard), (2, .int what)], [.int guard, .ref (ad 6)])) rfl ?_
    refine y_callV hS tq_X8_ofGuard rfl (As := [.int guard]) rfl cv_X8_261 (hX.1 6 _ rfl) (m_X2_lastOf hS hX guard) rfl (by decide) (Nat.le_of_ble_eq_true rfl) (fun r82 Gc82 q82 => ?_) (fun E9 G9 h9 => h9.elim)
    obtain ⟨rfl, eG82⟩ := q82
    have eG82 := eG82.symm
    subst eG82
    refine y_blk 0 tq_X8_ofGuard (z := (85, [(0, .ref (ad 1)), (1, .int guard), (2, .int what)], [.int (xat σ 6 guard)])) rfl ?_
    exact y_iret tq_X8_ofGuard rfl rfl (⟨⟨_, rfl⟩, rfl⟩)
  by_cases s22_2 : what = 2
  · refine y_swIn tq_X8_ofGuard 86 rfl (by rw [s22_2]; decide) (by rw [s22_2]; decide) (by rw [s22_2]; rfl) rfl ?_
    refine y_blk 1 tq_X8_ofGuard (z := (87, [(0, .ref (ad 1)), (1, .int guard), (2, .int what)], [.ref (ad 1)])) rfl ?_
    refine y_get hS tq_X8_ofGuard (v := .ref (ad 6)) rfl fg_X8_33_X8 (hX.1 1 _ rfl) rfl ?_
    refine y_blk 1 tq_X8_ofGuard (z := (91, [(0, .ref (ad 1)), (1, .int guard), (2, .int what)], [.int guard, .ref (ad 6)])) rfl ?_
    refine y_callV hS tq_X8_ofGuard rfl (As := [.int guard]) rfl cv_X8_264 (hX.1 6 _ rfl) (m_X2_stayOf hS hX guard) rfl (by decide) (Nat.le_of_ble_eq_true rfl) (fun r91 Gc91 q91 => ?_) (fun E9 G9 h9 => h9.elim)
    obtain ⟨rfl, eG91⟩ := q91
    have eG91 := eG91.symm
    subst eG91
    refine y_blk 0 tq_X8_ofGuard (z := (94, [(0, .ref (ad 1)), (1, .int guard), (2, .int what)], [.int (xat σ 7 guard)])) rfl ?_
    exact y_iret tq_X8_ofGuard rfl rfl (⟨⟨_, rfl⟩, rfl⟩)
  by_cases s22_3 : what = 3
  · refine y_swIn tq_X8_ofGuard 95 rfl (by rw [s22_3]; decide) (by rw [s22_3]; decide) (by rw [s22_3]; rfl) rfl ?_
    refine y_blk 1 tq_X8_ofGuard (z := (96, [(0, .ref (ad 1)), (1, .int guard), (2, .int what)], [.ref (ad 1)])) rfl ?_
    refine y_get hS tq_X8_ofGuard (v := .ref (ad 6)) rfl fg_X8_33_X8 (hX.1 1 _ rfl) rfl ?_
    refine y_blk 1 tq_X8_ofGuard (z := (100, [(0, .ref (ad 1)), (1, .int guard), (2, .int what)], [.int guard, .ref (ad 6)])) rfl ?_
    refine y_callV hS tq_X8_ofGuard rfl (As := [.int guard]) rfl cv_X8_267 (hX.1 6 _ rfl) (m_X2_lengthOf hS hX guard) rfl (by decide) (Nat.le_of_ble_eq_true rfl) (fun r100 Gc100 q100 => ?_) (fun E9 G9 h9 => h9.elim)
    obtain ⟨rfl, eG100⟩ := q100
    have eG100 := eG100.symm
    subst eG100
    refine y_blk 0 tq_X8_ofGuard (z := (103, [(0, .ref (ad 1)), (1, .int guard), (2, .int what)], [.int (xat σ 8 guard)])) rfl ?_
    exact y_iret tq_X8_ofGuard rfl rfl (⟨⟨_, rfl⟩, rfl⟩)
  by_cases s22_4 : what = 4
  · refine y_swIn tq_X8_ofGuard 104 rfl (by rw [s22_4]; decide) (by rw [s22_4]; decide) (by rw [s22_4]; rfl) rfl ?_
    refine y_blk 1 tq_X8_ofGuard (z := (105, [(0, .ref (ad 1)), (1, .int guard), (2, .int what)], [.ref (ad 1)])) rfl ?_
    refine y_get hS tq_X8_ofGuard (v := .ref (ad 7)) rfl fg_X8_49_X8 (hX.1 1 _ rfl) rfl ?_
    refine y_blk 1 tq_X8_ofGuard (z := (109, [(0, .ref (ad 1)), (1, .int guard), (2, .int what)], [.int guard, .ref (ad 7)])) rfl ?_
    refine y_callV hS tq_X8_ofGuard rfl (As := [.int guard]) rfl cv_X8_270 (hX.1 7 _ rfl) (m_X7_strikesOf hS hX guard) rfl (by decide) (Nat.le_of_ble_eq_true rfl) (fun r109 Gc109 q109 => ?_) (fun E9 G9 h9 => h9.elim)
    obtain ⟨rfl, eG109⟩ := q109
    have eG109 := eG109.symm
    subst eG109
    refine y_blk 0 tq_X8_ofGuard (z := (112, [(0, .ref (ad 1)), (1, .int guard), (2, .int what)], [.int (xat σ 13 guard)])) rfl ?_
    exact y_iret tq_X8_ofGuard rfl rfl (⟨⟨_, rfl⟩, rfl⟩)
  by_cases s22_5 : what = 5
  · refine y_swIn tq_X8_ofGuard 113 rfl (by rw [s22_5]; decide) (by rw [s22_5]; decide) (by rw [s22_5]; rfl) rfl ?_
    refine y_blk 1 tq_X8_ofGuard (z := (114, [(0, .ref (ad 1)), (1, .int guard), (2, .int what)], [.ref (ad 1)])) rfl ?_
    refine y_get hS tq_X8_ofGuard (v := .ref (ad 7)) rfl fg_X8_49_X8 (hX.1 1 _ rfl) rfl ?_
    refine y_blk 1 tq_X8_ofGuard (z := (118, [(0, .ref (ad 1)), (1, .int guard), (2, .int what)], [.int guard, .ref (ad 7)])) rfl ?_
    refine y_callV hS tq_X8_ofGuard rfl (As := [.int guard]) rfl cv_X8_273 (hX.1 7 _ rfl) (m_X7_isBarred hS hX guard) rfl (by decide) (Nat.le_of_ble_eq_true rfl) (fun r118 Gc118 q118 => ?_) (fun E9 G9 h9 => h9.elim)
    obtain ⟨⟨x118, hb_x118, rfl⟩, eG118⟩ := q118
    have eG118 := eG118.symm
    subst eG118
    refine y_blk 0 tq_X8_ofGuard (z := (121, [(0, .ref (ad 1)), (1, .int guard), (2, .int what)], [.int x118])) rfl ?_
    refine y_if_eq tq_X8_ofGuard 128 rfl rfl (fun c121 => ?_) (fun c121 => ?_)
    · skip
      refine y_blk 1 tq_X8_ofGuard (z := (129, [(0, .ref (ad 1)), (1, .int guard), (2, .int what)], [.int 0])) rfl ?_
      exact y_iret tq_X8_ofGuard rfl rfl (⟨⟨_, rfl⟩, rfl⟩)
    · skip
      refine y_blk 2 tq_X8_ofGuard (z := (129, [(0, .ref (ad 1)), (1, .int guard), (2, .int what)], [.int 1])) rfl ?_
      exact y_iret tq_X8_ofGuard rfl rfl (⟨⟨_, rfl⟩, rfl⟩)
  by_cases s22_6 : what = 6
  · refine y_swIn tq_X8_ofGuard 130 rfl (by rw [s22_6]; decide) (by rw [s22_6]; decide) (by rw [s22_6]; rfl) rfl ?_
    refine y_blk 1 tq_X8_ofGuard (z := (131, [(0, .ref (ad 1)), (1, .int guard), (2, .int what)], [.ref (ad 1)])) rfl ?_
    refine y_get hS tq_X8_ofGuard (v := .ref (ad 130)) rfl fg_X8_53_X8 (hX.1 1 _ rfl) rfl ?_
    refine y_blk 1 tq_X8_ofGuard (z := (135, [(0, .ref (ad 1)), (1, .int guard), (2, .int what)], [.int guard, .ref (ad 130)])) rfl ?_
    refine y_callV hS tq_X8_ofGuard rfl (As := [.int guard]) rfl cv_X8_276 (hX.num (k := 15) (by decide)) (m_X5_placesOf hS hX (k := 15) (by decide) guard) rfl (by decide) (Nat.le_of_ble_eq_true rfl) (fun r135 Gc135 q135 => ?_) (fun E9 G9 h9 => h9.elim)
    obtain ⟨⟨x135, rfl⟩, eG135⟩ := q135
    have eG135 := eG135.symm
    subst eG135
    refine y_blk 0 tq_X8_ofGuard (z := (138, [(0, .ref (ad 1)), (1, .int guard), (2, .int what)], [.int x135])) rfl ?_
    exact y_iret tq_X8_ofGuard rfl rfl (⟨⟨_, rfl⟩, rfl⟩)
  by_cases s22_7 : what = 7
  · refine y_swIn tq_X8_ofGuard 139 rfl (by rw [s22_7]; decide) (by rw [s22_7]; decide) (by rw [s22_7]; rfl) rfl ?_
    refine y_blk 1 tq_X8_ofGuard (z := (140, [(0, .ref (ad 1)), (1, .int guard), (2, .int what)], [.ref (ad 1)])) rfl ?_
    refine y_get hS tq_X8_ofGuard (v := .ref (ad 7)) rfl fg_X8_49_X8 (hX.1 1 _ rfl) rfl ?_
    refine y_blk 1 tq_X8_ofGuard (z := (144, [(0, .ref (ad 1)), (1, .int guard), (2, .int what)], [.int guard, .ref (ad 7)])) rfl ?_
    refine y_callV hS tq_X8_ofGuard rfl (As := [.int guard]) rfl cv_X8_279 (hX.1 7 _ rfl) (m_X7_hoursOf hS hX guard) rfl (by decide) (Nat.le_of_ble_eq_true rfl) (fun r144 Gc144 q144 => ?_) (fun E9 G9 h9 => h9.elim)
    obtain ⟨rfl, eG144⟩ := q144
    have eG144 := eG144.symm
    subst eG144
    refine y_blk 0 tq_X8_ofGuard (z := (147, [(0, .ref (ad 1)), (1, .int guard), (2, .int what)], [.int (xat σ 14 guard)])) rfl ?_
    exact y_iret tq_X8_ofGuard rfl rfl (⟨⟨_, rfl⟩, rfl⟩)
  refine y_swOut tq_X8_ofGuard 148 rfl (by have z0 : what.toInt ≠ 0 := fun q => s22_0 (Int32.toInt_inj.mp (q.trans (by decide))); have z1 : what.toInt ≠ 1 := fun q => s22_1 (Int32.toInt_inj.mp (q.trans (by decide))); have z2 : what.toInt ≠ 2 := fun q => s22_2 (Int32.toInt_inj.mp (q.trans (by decide))); have z3 : what.toInt ≠ 3 := fun q => s22_3 (Int32.toInt_inj.mp (q.trans (by decide))); have z4 : what.toInt ≠ 4 := fun q => s22_4 (Int32.toInt_inj.mp (q.trans (by decide))); have z5 : what.toInt ≠ 5 := fun q => s22_5 (Int32.toInt_inj.mp (q.trans (by decide))); have z6 : what.toInt ≠ 6 := fun q => s22_6 (Int32.toInt_inj.mp (q.trans (by decide))); have z7 : what.toInt ≠ 7 := fun q => s22_7 (Int32.toInt_inj.mp (q.trans (by decide))); omega) rfl ?_
  refine y_blk 1 tq_X8_ofGuard (z := (149, [(0, .ref (ad 1)), (1, .int guard), (2, .int what)], [.ref (ad 1)])) rfl ?_
  refine y_get hS tq_X8_ofGuard (v := .ref (ad 6)) rfl fg_X8_33_X8 (hX.1 1 _ rfl) rfl ?_
  refine y_blk 1 tq_X8_ofGuard (z := (153, [(0, .ref (ad 1)), (1, .int guard), (2, .int what)], [.int guard, .ref (ad 6)])) rfl ?_
  refine y_callV hS tq_X8_ofGuard rfl (As := [.int guard]) rfl cv_X8_282 (hX.1 6 _ rfl) (m_X2_tiredMinutesOf hS hX guard) rfl (by decide) (Nat.le_of_ble_eq_true rfl) (fun r153 Gc153 q153 => ?_) (fun E9 G9 h9 => h9.elim)
  obtain ⟨⟨x153, rfl⟩, eG153⟩ := q153
  have eG153 := eG153.symm
  subst eG153
  refine y_blk 0 tq_X8_ofGuard (z := (156, [(0, .ref (ad 1)), (1, .int guard), (2, .int what)], [.int x153])) rfl ?_
  exact y_iret tq_X8_ofGuard rfl rfl (⟨⟨_, rfl⟩, rfl⟩)
set_option maxHeartbeats 4000000 in
set_option maxRecDepth 100000 in
theorem m_X8_wire {l : Launch} {S0 : State} {A0 : Array Value} {D : va_G} {aC : Nat → ClassId} {ad : Nat → Nat} {G : AH} {σ : XS} (hS : yS l S0 A0 D aC) (hX : atX aC ad G σ) (cell : Int32) (bar : Int32) : yM l S0 D yX8_wire cX8_wire 3 (some .int) 13 3 18 [.ref (ad 1), .int cell, .int bar] G (fun r G1 => (r = some (.int ((xwireT σ cell bar).1 22 - 1)) ∧ ((0 ≤ cell ∧ cell ≤ σ.2.2.1 0 * σ.2.2.1 1 - 1) ∧ ((1 ≤ bar ∧ bar ≤ 12) ∧ ((σ.1 22).toInt < 5)))) ∧ ∃ σ1 : XS, atX aC ad G1 σ1 ∧ keepX G G1 ∧ xfr [22, 23, 46, 47] σ σ1 ∧ σ1 = xwireT σ cell bar) (fun E G1 => ((E = "java/lang/IndexOutOfBoundsException" ∧ (¬ (0 ≤ cell ∧ cell ≤ σ.2.2.1 0 * σ.2.2.1 1 - 1))) ∨ (E = "java/lang/IllegalArgumentException" ∧ ((0 ≤ cell ∧ cell ≤ σ.2.2.1 0 * σ.2.2.1 1 - 1) ∧ (¬ (1 ≤ bar ∧ bar ≤ 12)))) ∨ (E = "java/lang/IllegalStateException" ∧ ((0 ≤ cell ∧ cell ≤ σ.2.2.1 0 * σ.2.2.1 1 - 1) ∧ ((1 ≤ bar ∧ bar ≤ 12) ∧ (¬ ((σ.1 22).toInt < 5)))))) ∧ G1 = G) := by
  refine yM.ofK K_X8_wire rfl (by decide) (Nat.le_of_ble_eq_true rfl) ?_
  refine y_blk 2 tq_X8_wire (z := (2, [(0, .ref (ad 1)), (1, .int cell), (2, .int bar)], [.int cell, .ref (ad 1)])) rfl ?_
  refine y_callV hS tq_X8_wire rfl (As := [.int cell]) rfl cv_X8_114 (hX.1 1 _ rfl) (m_X8_needCell hS hX cell) rfl (by decide) (Nat.le_of_ble_eq_true rfl) (fun r2 Gc2 q2 => ?_) (fun E9 G9 h9 => ⟨(Or.inl (And.intro h9.1.1 (by first | exact h9.1.2 | exact absurd h9.1.2 (by decide) | exact absurd rfl hq2 | exact absurd rfl hq11 | exact absurd rfl hq19 | exact absurd rfl hq21 | exact absurd rfl hq24 | exact absurd rfl hq30 | exact absurd rfl hq35 | exact absurd rfl hq39 | exact absurd rfl hq40 | exact absurd rfl hq57 | exact absurd rfl hq45 | exact absurd rfl hq38 | exact absurd rfl hq34 | exact absurd rfl hq33 | exact absurd rfl hq29 | (have z9 := h9.1.2; clear h9; (repeat' apply And.intro) <;> first | (first | assumption | (simp only [yif0, Classical.not_not, ylt, yle, xcp0, xcp3, xcp5, xcp10, xcp12, xcp16, xcp22, yl_m1, yl_0, yl_1, yl_2, yl_3, yl_4, yl_5, yl_6, yl_7, yl_8, yl_9, yl_10, yl_11, yl_12, yl_15, yl_16, yl_20, yl_60, yl_64, yl_90, yl_97, yl_99, yl_100, yl_120, yl_239, yl_240] at *; first | omega | assumption | contradiction)) | (intro q9; (simp only [yif0, Classical.not_not, ylt, yle, xcp0, xcp3, xcp5, xcp10, xcp12, xcp16, xcp22, yl_m1, yl_0, yl_1, yl_2, yl_3, yl_4, yl_5, yl_6, yl_7, yl_8, yl_9, yl_10, yl_11, yl_12, yl_15, yl_16, yl_20, yl_60, yl_64, yl_90, yl_97, yl_99, yl_100, yl_120, yl_239, yl_240] at *; first | omega | contradiction | (obtain ⟨qa, qb⟩ := q9; contradiction))))))), h9.2⟩)
  obtain ⟨⟨rfl, hq2⟩, eG2⟩ := q2
  have eG2 := eG2.symm
  subst eG2
  refine y_blk 3 tq_X8_wire (z := (9, [(0, .ref (ad 1)), (1, .int cell), (2, .int bar)], [.int 12, .int 1, .int bar])) rfl ?_
  refine y_callS hS tq_X8_wire rfl (As := [.int bar, .int 1, .int 12]) rfl cs_X8_76 (m_X8_isIn hS  bar 1 12) rfl (by decide) (Nat.le_of_ble_eq_true rfl) (fun r9 Gc9 q9 => ?_) (fun E9 G9 h9 => h9.elim)
  obtain ⟨rfl, eG9⟩ := q9
  have eG9 := eG9.symm
  subst eG9
  refine y_blk 0 tq_X8_wire (z := (12, [(0, .ref (ad 1)), (1, .int cell), (2, .int bar)], [.int (if 1 ≤ bar ∧ bar ≤ 12 then 1 else 0)])) rfl ?_
  refine y_callS hS tq_X8_wire rfl (As := [.int (if 1 ≤ bar ∧ bar ≤ 12 then 1 else 0)]) rfl cs_X8_117 (m_X8_needLet hS  (if 1 ≤ bar ∧ bar ≤ 12 then 1 else 0)) rfl (by decide) (Nat.le_of_ble_eq_true rfl) (fun r12 Gc12 q12 => ?_) (fun E9 G9 h9 => ⟨(Or.inr (Or.inl (And.intro h9.1.1 (by first | exact h9.1.2 | exact absurd h9.1.2 (by decide) | exact absurd rfl hq2 | exact absurd rfl hq11 | exact absurd rfl hq19 | exact absurd rfl hq21 | exact absurd rfl hq24 | exact absurd rfl hq30 | exact absurd rfl hq35 | exact absurd rfl hq39 | exact absurd rfl hq40 | exact absurd rfl hq57 | exact absurd rfl hq45 | exact absurd rfl hq38 | exact absurd rfl hq34 | exact absurd rfl hq33 | exact absurd rfl hq29 | (have z9 := h9.1.2; clear h9; (repeat' apply And.intro) <;> first | (first | assumption | (simp only [yif0, Classical.not_not, ylt, yle, xcp0, xcp3, xcp5, xcp10, xcp12, xcp16, xcp22, yl_m1, yl_0, yl_1, yl_2, yl_3, yl_4, yl_5, yl_6, yl_7, yl_8, yl_9, yl_10, yl_11, yl_12, yl_15, yl_16, yl_20, yl_60, yl_64, yl_90, yl_97, yl_99, yl_100, yl_120, yl_239, yl_240] at *; first | omega | assumption | contradiction)) | (intro q9; (simp only [yif0, Classical.not_not, ylt, yle, xcp0, xcp3, xcp5, xcp10, xcp12, xcp16, xcp22, yl_m1, yl_0, yl_1, yl_2, yl_3, yl_4, yl_5, yl_6, yl_7, yl_8, yl_9, yl_10, yl_11, yl_12, yl_15, yl_16, yl_20, yl_60, yl_64, yl_90, yl_97, yl_99, yl_100, yl_120, yl_239, yl_240] at *; first | omega | contradiction | (obtain ⟨qa, qb⟩ := q9; contradiction)))))))), h9.2⟩)
  obtain ⟨⟨rfl, hq12⟩, eG12⟩ := q12
  have eG12 := eG12.symm
  subst eG12
  refine y_blk 1 tq_X8_wire (z := (16, [(0, .ref (ad 1)), (1, .int cell), (2, .int bar)], [.ref (ad 1)])) rfl ?_
  refine y_get hS tq_X8_wire (v := .ref (ad 9)) rfl fg_X8_66_X8 (hX.1 1 _ rfl) rfl ?_
  refine y_blk 0 tq_X8_wire (z := (19, [(0, .ref (ad 1)), (1, .int cell), (2, .int bar)], [.ref (ad 9)])) rfl ?_
  refine y_callV hS tq_X8_wire rfl (As := []) rfl cv_X8_291 (hX.1 9 _ rfl) (m_X6_isFull hS hX ) rfl (by decide) (Nat.le_of_ble_eq_true rfl) (fun r19 Gc19 q19 => ?_) (fun E9 G9 h9 => h9.elim)
  obtain ⟨rfl, eG19⟩ := q19
  have eG19 := eG19.symm
  subst eG19
  refine y_blk 0 tq_X8_wire (z := (22, [(0, .ref (ad 1)), (1, .int cell), (2, .int bar)], [.int (if (xcap 22 : Int) ≤ (σ.1 22).toInt then 1 else 0)])) rfl ?_
  refine y_if_ne tq_X8_wire 29 rfl rfl (fun c22 => ?_) (fun c22 => ?_)
  · skip
    refine y_blk 1 tq_X8_wire (z := (30, [(0, .ref (ad 1)), (1, .int cell), (2, .int bar)], [.int 0])) rfl ?_
    refine y_callS hS tq_X8_wire rfl (As := [.int 0]) rfl cs_X8_128 (m_X8_needPossible hS  0) rfl (by decide) (Nat.le_of_ble_eq_true rfl) (fun r30 Gc30 q30 => ?_) (fun E9 G9 h9 => ⟨(Or.inr (Or.inr (And.intro h9.1.1 (by first | exact h9.1.2 | exact absurd h9.1.2 (by decide) | exact absurd rfl hq2 | exact absurd rfl hq11 | exact absurd rfl hq19 | exact absurd rfl hq21 | exact absurd rfl hq24 | exact absurd rfl hq30 | exact absurd rfl hq35 | exact absurd rfl hq39 | exact absurd rfl hq40 | exact absurd rfl hq57 | exact absurd rfl hq45 | exact absurd rfl hq38 | exact absurd rfl hq34 | exact absurd rfl hq33 | exact absurd rfl hq29 | (have z9 := h9.1.2; clear h9; (repeat' apply And.intro) <;> first | (first | assumption | (simp only [yif0, Classical.not_not, ylt, yle, xcp0, xcp3, xcp5, xcp10, xcp12, xcp16, xcp22, yl_m1, yl_0, yl_1, yl_2, yl_3, yl_4, yl_5, yl_6, yl_7, yl_8, yl_9, yl_10, yl_11, yl_12, yl_15, yl_16, yl_20, yl_60, yl_64, yl_90, yl_97, yl_99, yl_100, yl_120, yl_239, yl_240] at *; first | omega | assumption | contradiction)) | (intro q9; (simp only [yif0, Classical.not_not, ylt, yle, xcp0, xcp3, xcp5, xcp10, xcp12, xcp16, xcp22, yl_m1, yl_0, yl_1, yl_2, yl_3, yl_4, yl_5, yl_6, yl_7, yl_8, yl_9, yl_10, yl_11, yl_12, yl_15, yl_16, yl_20, yl_60, yl_64, yl_90, yl_97, yl_99, yl_100, yl_120, yl_239, yl_240] at *; first | omega | contradiction | (obtain ⟨qa, qb⟩ := q9; contradiction)))))))), h9.2⟩)
    obtain ⟨⟨rfl, hq30⟩, eG30⟩ := q30
    have eG30 := eG30.symm
    subst eG30
    refine y_blk 1 tq_X8_wire (z := (34, [(0, .ref (ad 1)), (1, .int cell), (2, .int bar)], [.ref (ad 1)])) rfl ?_
    refine y_get hS tq_X8_wire (v := .ref (ad 9)) rfl fg_X8_66_X8 (hX.1 1 _ rfl) rfl ?_
    refine y_blk 2 tq_X8_wire (z := (39, [(0, .ref (ad 1)), (1, .int cell), (2, .int bar)], [.int bar, .int cell, .ref (ad 9)])) rfl ?_
    refine y_callV hS tq_X8_wire rfl (As := [.int cell, .int bar]) rfl cv_X8_292 (hX.1 9 _ rfl) (m_X6_stretch hS hX cell bar) rfl (by decide) (Nat.le_of_ble_eq_true rfl) (fun r39 Gc39 q39 => ?_) (fun E9 G9 h9 => h9.elim)
    obtain ⟨rfl, hXc39, hFc39⟩ := q39
    refine y_blk 0 tq_X8_wire (z := (42, [(0, .ref (ad 1)), (1, .int cell), (2, .int bar)], [.int ((xwireT σ cell bar).1 22 - 1)])) rfl ?_
    exact y_iret tq_X8_wire rfl rfl (⟨⟨rfl, (by first | exact absurd rfl hq2 | exact absurd rfl hq11 | exact absurd rfl hq19 | exact absurd rfl hq21 | exact absurd rfl hq24 | exact absurd rfl hq30 | exact absurd rfl hq35 | exact absurd rfl hq39 | exact absurd rfl hq40 | exact absurd rfl hq57 | exact absurd rfl hq45 | exact absurd rfl hq38 | exact absurd rfl hq34 | exact absurd rfl hq33 | exact absurd rfl hq29 | ((repeat' apply And.intro) <;> first | assumption | (simp only [yif0, Classical.not_not, ylt, yle, xcp0, xcp3, xcp5, xcp10, xcp12, xcp16, xcp22, yl_m1, yl_0, yl_1, yl_2, yl_3, yl_4, yl_5, yl_6, yl_7, yl_8, yl_9, yl_10, yl_11, yl_12, yl_15, yl_16, yl_20, yl_60, yl_64, yl_90, yl_97, yl_99, yl_100, yl_120, yl_239, yl_240] at *; first | omega | assumption | contradiction)))⟩, _, hXc39, (keepX.rfl'.trans hFc39), ((xkn.trans xkn.rfl' xwireT.kn)).w, rfl⟩)
  · skip
    refine y_blk 2 tq_X8_wire (z := (30, [(0, .ref (ad 1)), (1, .int cell), (2, .int bar)], [.int 1])) rfl ?_
    refine y_callS hS tq_X8_wire rfl (As := [.int 1]) rfl cs_X8_128 (m_X8_needPossible hS  1) rfl (by decide) (Nat.le_of_ble_eq_true rfl) (fun r30 Gc30 q30 => ?_) (fun E9 G9 h9 => ⟨(Or.inr (Or.inr (And.intro h9.1.1 (by first | exact h9.1.2 | exact absurd h9.1.2 (by decide) | exact absurd rfl hq2 | exact absurd rfl hq11 | exact absurd rfl hq19 | exact absurd rfl hq21 | exact absurd rfl hq24 | exact absurd rfl hq30 | exact absurd rfl hq35 | exact absurd rfl hq39 | exact absurd rfl hq40 | exact absurd rfl hq57 | exact absurd rfl hq45 | exact absurd rfl hq38 | exact absurd rfl hq34 | exact absurd rfl hq33 | exact absurd rfl hq29 | (have z9 := h9.1.2; clear h9; (repeat' apply And.intro) <;> first | (first | assumption | (simp only [yif0, Classical.not_not, ylt, yle, xcp0, xcp3, xcp5, xcp10, xcp12, xcp16, xcp22, yl_m1, yl_0, yl_1, yl_2, yl_3, yl_4, yl_5, yl_6, yl_7, yl_8, yl_9, yl_10, yl_11, yl_12, yl_15, yl_16, yl_20, yl_60, yl_64, yl_90, yl_97, yl_99, yl_100, yl_120, yl_239, yl_240] at *; first | omega | assumption | contradiction)) | (intro q9; (simp only [yif0, Classical.not_not, ylt, yle, xcp0, xcp3, xcp5, xcp10, xcp12, xcp16, xcp22, yl_m1, yl_0, yl_1, yl_2, yl_3, yl_4, yl_5, yl_6, yl_7, yl_8, yl_9, yl_10, yl_11, yl_12, yl_15, yl_16, yl_20, yl_60, yl_64, yl_90, yl_97, yl_99, yl_100, yl_120, yl_239, yl_240] at *; first | omega | contradiction | (obtain ⟨qa, qb⟩ := q9; contradiction)))))))), h9.2⟩)
    obtain ⟨⟨rfl, hq30⟩, eG30⟩ := q30
    have eG30 := eG30.symm
    subst eG30
    refine y_blk 1 tq_X8_wire (z := (34, [(0, .ref (ad 1)), (1, .int cell), (2, .int bar)], [.ref (ad 1)])) rfl ?_
    refine y_get hS tq_X8_wire (v := .ref (ad 9)) rfl fg_X8_66_X8 (hX.1 1 _ rfl) rfl ?_
    refine y_blk 2 tq_X8_wire (z := (39, [(0, .ref (ad 1)), (1, .int cell), (2, .int bar)], [.int bar, .int cell, .ref (ad 9)])) rfl ?_
    refine y_callV hS tq_X8_wire rfl (As := [.int cell, .int bar]) rfl cv_X8_292 (hX.1 9 _ rfl) (m_X6_stretch hS hX cell bar) rfl (by decide) (Nat.le_of_ble_eq_true rfl) (fun r39 Gc39 q39 => ?_) (fun E9 G9 h9 => h9.elim)
    obtain ⟨rfl, hXc39, hFc39⟩ := q39
    refine y_blk 0 tq_X8_wire (z := (42, [(0, .ref (ad 1)), (1, .int cell), (2, .int bar)], [.int ((xwireT σ cell bar).1 22 - 1)])) rfl ?_
    exact y_iret tq_X8_wire rfl rfl (⟨⟨rfl, (by first | exact absurd rfl hq2 | exact absurd rfl hq11 | exact absurd rfl hq19 | exact absurd rfl hq21 | exact absurd rfl hq24 | exact absurd rfl hq30 | exact absurd rfl hq35 | exact absurd rfl hq39 | exact absurd rfl hq40 | exact absurd rfl hq57 | exact absurd rfl hq45 | exact absurd rfl hq38 | exact absurd rfl hq34 | exact absurd rfl hq33 | exact absurd rfl hq29 | ((repeat' apply And.intro) <;> first | assumption | (simp only [yif0, Classical.not_not, ylt, yle, xcp0, xcp3, xcp5, xcp10, xcp12, xcp16, xcp22, yl_m1, yl_0, yl_1, yl_2, yl_3, yl_4, yl_5, yl_6, yl_7, yl_8, yl_9, yl_10, yl_11, yl_12, yl_15, yl_16, yl_20, yl_60, yl_64, yl_90, yl_97, yl_99, yl_100, yl_120, yl_239, yl_240] at *; first | omega | assumption | contradiction)))⟩, _, hXc39, (keepX.rfl'.trans hFc39), ((xkn.trans xkn.rfl' xwireT.kn)).w, rfl⟩)
set_option maxHeartbeats 4000000 in
set_option maxRecDepth 100000 in
theorem m_X8_where {l : Launch} {S0 : State} {A0 : Array Value} {D : va_G} {aC : Nat → ClassId} {ad : Nat → Nat} {G : AH} {σ : XS} (hS : yS l S0 A0 D aC) (hX : atX aC ad G σ) (intruder : Int32) (minute : Int32) : yM l S0 D yX8_where cX8_where 3 (some .int) 12 2 12 [.ref (ad 1), .int intruder, .int minute] G (fun r G1 => (r = some (.int (xcel σ intruder minute)) ∧ ((0 ≤ intruder ∧ intruder ≤ σ.1 16 - 1) ∧ (0 ≤ minute ∧ minute ≤ 239))) ∧ ∃ σ1 : XS, atX aC ad G1 σ1 ∧ keepX G G1 ∧ xfr [] σ σ1 ∧ σ1 = σ) (fun E G1 => ((E = "java/lang/IndexOutOfBoundsException" ∧ (¬ (0 ≤ intruder ∧ intruder ≤ σ.1 16 - 1))) ∨ (E = "java/lang/IllegalArgumentException" ∧ ((0 ≤ intruder ∧ intruder ≤ σ.1 16 - 1) ∧ (¬ (0 ≤ minute ∧ minute ≤ 239))))) ∧ G1 = G) := by
  refine yM.ofK K_X8_where rfl (by decide) (Nat.le_of_ble_eq_true rfl) ?_
  refine y_blk 2 tq_X8_where (z := (2, [(0, .ref (ad 1)), (1, .int intruder), (2, .int minute)], [.ref (ad 1), .int intruder])) rfl ?_
  refine y_get hS tq_X8_where (v := .ref (ad 8)) rfl fg_X8_59_X8 (hX.1 1 _ rfl) rfl ?_
  refine y_blk 0 tq_X8_where (z := (5, [(0, .ref (ad 1)), (1, .int intruder), (2, .int minute)], [.ref (ad 8), .int intruder])) rfl ?_
  refine y_callV hS tq_X8_where rfl (As := []) rfl cv_X8_290 (hX.1 8 _ rfl) (m_X3_count hS hX ) rfl (by decide) (Nat.le_of_ble_eq_true rfl) (fun r5 Gc5 q5 => ?_) (fun E9 G9 h9 => h9.elim)
  obtain ⟨rfl, eG5⟩ := q5
  have eG5 := eG5.symm
  subst eG5
  refine y_blk 0 tq_X8_where (z := (8, [(0, .ref (ad 1)), (1, .int intruder), (2, .int minute)], [.int (σ.1 16), .int intruder])) rfl ?_
  refine y_callS hS tq_X8_where rfl (As := [.int intruder, .int (σ.1 16)]) rfl cs_X8_164 (m_X8_needThere hS  intruder (σ.1 16)) rfl (by decide) (Nat.le_of_ble_eq_true rfl) (fun r8 Gc8 q8 => ?_) (fun E9 G9 h9 => ⟨(Or.inl (And.intro h9.1.1 (by first | exact h9.1.2 | exact absurd h9.1.2 (by decide) | exact absurd rfl hq2 | exact absurd rfl hq11 | exact absurd rfl hq19 | exact absurd rfl hq21 | exact absurd rfl hq24 | exact absurd rfl hq30 | exact absurd rfl hq35 | exact absurd rfl hq39 | exact absurd rfl hq40 | exact absurd rfl hq57 | exact absurd rfl hq45 | exact absurd rfl hq38 | exact absurd rfl hq34 | exact absurd rfl hq33 | exact absurd rfl hq29 | (have z9 := h9.1.2; clear h9; (repeat' apply And.intro) <;> first | (first | assumption | (simp only [yif0, Classical.not_not, ylt, yle, xcp0, xcp3, xcp5, xcp10, xcp12, xcp16, xcp22, yl_m1, yl_0, yl_1, yl_2, yl_3, yl_4, yl_5, yl_6, yl_7, yl_8, yl_9, yl_10, yl_11, yl_12, yl_15, yl_16, yl_20, yl_60, yl_64, yl_90, yl_97, yl_99, yl_100, yl_120, yl_239, yl_240] at *; first | omega | assumption | contradiction)) | (intro q9; (simp only [yif0, Classical.not_not, ylt, yle, xcp0, xcp3, xcp5, xcp10, xcp12, xcp16, xcp22, yl_m1, yl_0, yl_1, yl_2, yl_3, yl_4, yl_5, yl_6, yl_7, yl_8, yl_9, yl_10, yl_11, yl_12, yl_15, yl_16, yl_20, yl_60, yl_64, yl_90, yl_97, yl_99, yl_100, yl_120, yl_239, yl_240] at *; first | omega | contradiction | (obtain ⟨qa, qb⟩ := q9; contradiction))))))), h9.2⟩)
  obtain ⟨⟨rfl, hq8⟩, eG8⟩ := q8
  have eG8 := eG8.symm
  subst eG8
  refine y_blk 1 tq_X8_where (z := (12, [(0, .ref (ad 1)), (1, .int intruder), (2, .int minute)], [.int minute])) rfl ?_
  refine y_callS hS tq_X8_where rfl (As := [.int minute]) rfl cs_X8_139 (m_X8_isMinute hS  minute) rfl (by decide) (Nat.le_of_ble_eq_true rfl) (fun r12 Gc12 q12 => ?_) (fun E9 G9 h9 => h9.elim)
  obtain ⟨rfl, eG12⟩ := q12
  have eG12 := eG12.symm
  subst eG12
  refine y_blk 0 tq_X8_where (z := (15, [(0, .ref (ad 1)), (1, .int intruder), (2, .int minute)], [.int (if 0 ≤ minute ∧ minute ≤ 239 then 1 else 0)])) rfl ?_
  refine y_callS hS tq_X8_where rfl (As := [.int (if 0 ≤ minute ∧ minute ≤ 239 then 1 else 0)]) rfl cs_X8_117 (m_X8_needLet hS  (if 0 ≤ minute ∧ minute ≤ 239 then 1 else 0)) rfl (by decide) (Nat.le_of_ble_eq_true rfl) (fun r15 Gc15 q15 => ?_) (fun E9 G9 h9 => ⟨(Or.inr (And.intro h9.1.1 (by first | exact h9.1.2 | exact absurd h9.1.2 (by decide) | exact absurd rfl hq2 | exact absurd rfl hq11 | exact absurd rfl hq19 | exact absurd rfl hq21 | exact absurd rfl hq24 | exact absurd rfl hq30 | exact absurd rfl hq35 | exact absurd rfl hq39 | exact absurd rfl hq40 | exact absurd rfl hq57 | exact absurd rfl hq45 | exact absurd rfl hq38 | exact absurd rfl hq34 | exact absurd rfl hq33 | exact absurd rfl hq29 | (have z9 := h9.1.2; clear h9; (repeat' apply And.intro) <;> first | (first | assumption | (simp only [yif0, Classical.not_not, ylt, yle, xcp0, xcp3, xcp5, xcp10, xcp12, xcp16, xcp22, yl_m1, yl_0, yl_1, yl_2, yl_3, yl_4, yl_5, yl_6, yl_7, yl_8, yl_9, yl_10, yl_11, yl_12, yl_15, yl_16, yl_20, yl_60, yl_64, yl_90, yl_97, yl_99, yl_100, yl_120, yl_239, yl_240] at *; first | omega | assumption | contradiction)) | (intro q9; (simp only [yif0, Classical.not_not, ylt, yle, xcp0, xcp3, xcp5, xcp10, xcp12, xcp16, xcp22, yl_m1, yl_0, yl_1, yl_2, yl_3, yl_4, yl_5, yl_6, yl_7, yl_8, yl_9, yl_10, yl_11, yl_12, yl_15, yl_16, yl_20, yl_60, yl_64, yl_90, yl_97, yl_99, yl_100, yl_120, yl_239, yl_240] at *; first | omega | contradiction | (obtain ⟨qa, qb⟩ := q9; contradiction))))))), h9.2⟩)
  obtain ⟨⟨rfl, hq15⟩, eG15⟩ := q15
  have eG15 := eG15.symm
  subst eG15
  refine y_blk 1 tq_X8_where (z := (19, [(0, .ref (ad 1)), (1, .int intruder), (2, .int minute)], [.ref (ad 1)])) rfl ?_
  refine y_get hS tq_X8_where (v := .ref (ad 8)) rfl fg_X8_59_X8 (hX.1 1 _ rfl) rfl ?_
  refine y_blk 2 tq_X8_where (z := (24, [(0, .ref (ad 1)), (1, .int intruder), (2, .int minute)], [.int minute, .int intruder, .ref (ad 8)])) rfl ?_
  refine y_callV hS tq_X8_where rfl (As := [.int intruder, .int minute]) rfl cv_X8_295 (hX.1 8 _ rfl) (m_X3_cellAt_ok hS hX intruder minute) rfl (by decide) (Nat.le_of_ble_eq_true rfl) (fun r24 Gc24 q24 => ?_) (fun E9 G9 h9 => h9.elim)
  obtain ⟨rfl, eG24⟩ := q24
  have eG24 := eG24.symm
  subst eG24
  refine y_blk 0 tq_X8_where (z := (27, [(0, .ref (ad 1)), (1, .int intruder), (2, .int minute)], [.int (xcel σ intruder minute)])) rfl ?_
  exact y_iret tq_X8_where rfl rfl (⟨⟨rfl, (by first | exact absurd rfl hq2 | exact absurd rfl hq11 | exact absurd rfl hq19 | exact absurd rfl hq21 | exact absurd rfl hq24 | exact absurd rfl hq30 | exact absurd rfl hq35 | exact absurd rfl hq39 | exact absurd rfl hq40 | exact absurd rfl hq57 | exact absurd rfl hq45 | exact absurd rfl hq38 | exact absurd rfl hq34 | exact absurd rfl hq33 | exact absurd rfl hq29 | ((repeat' apply And.intro) <;> first | assumption | (simp only [yif0, Classical.not_not, ylt, yle, xcp0, xcp3, xcp5, xcp10, xcp12, xcp16, xcp22, yl_m1, yl_0, yl_1, yl_2, yl_3, yl_4, yl_5, yl_6, yl_7, yl_8, yl_9, yl_10, yl_11, yl_12, yl_15, yl_16, yl_20, yl_60, yl_64, yl_90, yl_97, yl_99, yl_100, yl_120, yl_239, yl_240] at *; first | omega | assumption | contradiction)))⟩, _, hX, keepX.rfl', (xkn.rfl').w, rfl⟩)
set_option maxHeartbeats 4000000 in
set_option maxRecDepth 100000 in
theorem m_X8_ofIntruder {l : Launch} {S0 : State} {A0 : Array Value} {D : va_G} {aC : Nat → ClassId} {ad : Nat → Nat} {G : AH} {σ : XS} (hS : yS l S0 A0 D aC) (hX : atX aC ad G σ) (intruder : Int32) (what : Int32) : yM l S0 D yX8_ofIntruder cX8_ofIntruder 3 (some .int) 15 2 12 [.ref (ad 1), .int intruder, .int what] G (fun r G1 => (∃ v : Int32, r = some (.int v)) ∧ G1 = G) (fun E G1 => ((E = "java/lang/IndexOutOfBoundsException" ∧ ¬ (0 ≤ intruder ∧ intruder ≤ σ.1 16 - 1)) ∨ (E = "java/lang/IllegalArgumentException" ∧ ¬ (0 ≤ what ∧ what ≤ 8))) ∧ G1 = G) := by
  refine yM.ofK K_X8_ofIntruder rfl (by decide) (Nat.le_of_ble_eq_true rfl) ?_
  refine y_blk 2 tq_X8_ofIntruder (z := (2, [(0, .ref (ad 1)), (1, .int intruder), (2, .int what)], [.ref (ad 1), .int intruder])) rfl ?_
  refine y_get hS tq_X8_ofIntruder (v := .ref (ad 8)) rfl fg_X8_59_X8 (hX.1 1 _ rfl) rfl ?_
  refine y_blk 0 tq_X8_ofIntruder (z := (5, [(0, .ref (ad 1)), (1, .int intruder), (2, .int what)], [.ref (ad 8), .int intruder])) rfl ?_
  refine y_callV hS tq_X8_ofIntruder rfl (As := []) rfl cv_X8_290 (hX.1 8 _ rfl) (m_X3_count hS hX ) rfl (by decide) (Nat.le_of_ble_eq_true rfl) (fun r5 Gc5 q5 => ?_) (fun E9 G9 h9 => h9.elim)
  obtain ⟨rfl, eG5⟩ := q5
  have eG5 := eG5.symm
  subst eG5
  refine y_blk 0 tq_X8_ofIntruder (z := (8, [(0, .ref (ad 1)), (1, .int intruder), (2, .int what)], [.int (σ.1 16), .int intruder])) rfl ?_
  refine y_callS hS tq_X8_ofIntruder rfl (As := [.int intruder, .int (σ.1 16)]) rfl cs_X8_164 (m_X8_needThere hS  intruder (σ.1 16)) rfl (by decide) (Nat.le_of_ble_eq_true rfl) (fun r8 Gc8 q8 => ?_) (fun E9 G9 h9 => ⟨(Or.inl h9.1), h9.2⟩)
  obtain ⟨⟨rfl, hq8⟩, eG8⟩ := q8
  have eG8 := eG8.symm
  subst eG8
  refine y_blk 3 tq_X8_ofIntruder (z := (15, [(0, .ref (ad 1)), (1, .int intruder), (2, .int what)], [.int 8, .int 0, .int what])) rfl ?_
  refine y_callS hS tq_X8_ofIntruder rfl (As := [.int what, .int 0, .int 8]) rfl cs_X8_76 (m_X8_isIn hS  what 0 8) rfl (by decide) (Nat.le_of_ble_eq_true rfl) (fun r15 Gc15 q15 => ?_) (fun E9 G9 h9 => h9.elim)
  obtain ⟨rfl, eG15⟩ := q15
  have eG15 := eG15.symm
  subst eG15
  refine y_blk 0 tq_X8_ofIntruder (z := (18, [(0, .ref (ad 1)), (1, .int intruder), (2, .int what)], [.int (if 0 ≤ what ∧ what ≤ 8 then 1 else 0)])) rfl ?_
  refine y_callS hS tq_X8_ofIntruder rfl (As := [.int (if 0 ≤ what ∧ what ≤ 8 then 1 else 0)]) rfl cs_X8_117 (m_X8_needLet hS  (if 0 ≤ what ∧ what ≤ 8 then 1 else 0)) rfl (by decide) (Nat.le_of_ble_eq_true rfl) (fun r18 Gc18 q18 => ?_) (fun E9 G9 h9 => ⟨(Or.inr (And.intro h9.1.1 (by first | exact absurd h9.1.2 (by decide) | (intro q9; have z9 := h9.1.2; clear h9; (simp only [yif0, Classical.not_not, ylt, yle, yl_m1, yl_0, yl_1, yl_2, yl_3, yl_4, yl_5, yl_6, yl_7, yl_8, yl_9, yl_10, yl_11, yl_12, yl_15, yl_16, yl_20, yl_60, yl_64, yl_90, yl_97, yl_99, yl_100, yl_120, yl_239, yl_240] at *; omega))))), h9.2⟩)
  obtain ⟨⟨rfl, hq18⟩, eG18⟩ := q18
  have eG18 := eG18.symm
  subst eG18
  refine y_blk 1 tq_X8_ofIntruder (z := (22, [(0, .ref (ad 1)), (1, .int intruder), (2, .int what)], [.int what])) rfl ?_
  by_cases s22_0 : what = 0
  · refine y_swIn tq_X8_ofIntruder 68 rfl (by rw [s22_0]; decide) (by rw [s22_0]; decide) (by rw [s22_0]; rfl) rfl ?_
    refine y_blk 1 tq_X8_ofIntruder (z := (69, [(0, .ref (ad 1)), (1, .int intruder), (2, .int what)], [.ref (ad 1)])) rfl ?_
    refine y_get hS tq_X8_ofIntruder (v := .ref (ad 8)) rfl fg_X8_59_X8 (hX.1 1 _ rfl) rfl ?_
    refine y_blk 1 tq_X8_ofIntruder (z := (73, [(0, .ref (ad 1)), (1, .int intruder), (2, .int what)], [.int intruder, .ref (ad 8)])) rfl ?_
    refine y_callV hS tq_X8_ofIntruder rfl (As := [.int intruder]) rfl cv_X8_298 (hX.1 8 _ rfl) (m_X3_firstOf hS hX intruder) rfl (by decide) (Nat.le_of_ble_eq_true rfl) (fun r73 Gc73 q73 => ?_) (fun E9 G9 h9 => h9.elim)
    obtain ⟨rfl, eG73⟩ := q73
    have eG73 := eG73.symm
    subst eG73
    refine y_blk 0 tq_X8_ofIntruder (z := (76, [(0, .ref (ad 1)), (1, .int intruder), (2, .int what)], [.int (xat σ 16 intruder)])) rfl ?_
    exact y_iret tq_X8_ofIntruder rfl rfl (⟨⟨_, rfl⟩, rfl⟩)
  by_cases s22_1 : what = 1
  · refine y_swIn tq_X8_ofIntruder 77 rfl (by rw [s22_1]; decide) (by rw [s22_1]; decide) (by rw [s22_1]; rfl) rfl ?_
    refine y_blk 1 tq_X8_ofIntruder (z := (78, [(0, .ref (ad 1)), (1, .int intruder), (2, .int what)], [.ref (ad 1)])) rfl ?_
    refine y_get hS tq_X8_ofIntruder (v := .ref (ad 8)) rfl fg_X8_59_X8 (hX.1 1 _ rfl) rfl ?_
    refine y_blk 1 tq_X8_ofIntruder (z := (82, [(0, .ref (ad 1)), (1, .int intruder), (2, .int what)], [.int intruder, .ref (ad 8)])) rfl ?_
    refine y_callV hS tq_X8_ofIntruder rfl (As := [.int intruder]) rfl cv_X8_299 (hX.1 8 _ rfl) (m_X3_movesOf hS hX intruder) rfl (by decide) (Nat.le_of_ble_eq_true rfl) (fun r82 Gc82 q82 => ?_) (fun E9 G9 h9 => h9.elim)
    obtain ⟨rfl, eG82⟩ := q82
    have eG82 := eG82.symm
    subst eG82
    refine y_blk 0 tq_X8_ofIntruder (z := (85, [(0, .ref (ad 1)), (1, .int intruder), (2, .int what)], [.int (xat σ 17 intruder)])) rfl ?_
    exact y_iret tq_X8_ofIntruder rfl rfl (⟨⟨_, rfl⟩, rfl⟩)
  by_cases s22_2 : what = 2
  · refine y_swIn tq_X8_ofIntruder 86 rfl (by rw [s22_2]; decide) (by rw [s22_2]; decide) (by rw [s22_2]; rfl) rfl ?_
    refine y_blk 1 tq_X8_ofIntruder (z := (87, [(0, .ref (ad 1)), (1, .int intruder), (2, .int what)], [.ref (ad 1)])) rfl ?_
    refine y_get hS tq_X8_ofIntruder (v := .ref (ad 8)) rfl fg_X8_59_X8 (hX.1 1 _ rfl) rfl ?_
    refine y_blk 2 tq_X8_ofIntruder (z := (94, [(0, .ref (ad 1)), (1, .int intruder), (2, .int what)], [.int 239, .int intruder, .ref (ad 8)])) rfl ?_
    refine y_callV hS tq_X8_ofIntruder rfl (As := [.int intruder, .int 239]) rfl cv_X8_295 (hX.1 8 _ rfl) (m_X3_cellAt hS hX intruder 239) rfl (by decide) (Nat.le_of_ble_eq_true rfl) (fun r94 Gc94 q94 => ?_) (fun E9 G9 h9 => h9.elim)
    obtain ⟨⟨x94, rfl⟩, eG94⟩ := q94
    have eG94 := eG94.symm
    subst eG94
    refine y_blk 0 tq_X8_ofIntruder (z := (97, [(0, .ref (ad 1)), (1, .int intruder), (2, .int what)], [.int x94])) rfl ?_
    exact y_iret tq_X8_ofIntruder rfl rfl (⟨⟨_, rfl⟩, rfl⟩)
  by_cases s22_3 : what = 3
  · refine y_swIn tq_X8_ofIntruder 98 rfl (by rw [s22_3]; decide) (by rw [s22_3]; decide) (by rw [s22_3]; rfl) rfl ?_
    refine y_blk 2 tq_X8_ofIntruder (z := (100, [(0, .ref (ad 1)), (1, .int intruder), (2, .int what)], [.int intruder, .ref (ad 1)])) rfl ?_
    refine y_callV hS tq_X8_ofIntruder rfl (As := [.int intruder]) rfl cv_X8_302 (hX.1 1 _ rfl) (m_X8_foundAt hS hX intruder) rfl (by decide) (Nat.le_of_ble_eq_true rfl) (fun r100 Gc100 q100 => ?_) (fun E9 G9 h9 => h9.elim)
    obtain ⟨⟨x100, rfl⟩, eG100⟩ := q100
    have eG100 := eG100.symm
    subst eG100
    refine y_blk 0 tq_X8_ofIntruder (z := (103, [(0, .ref (ad 1)), (1, .int intruder), (2, .int what)], [.int x100])) rfl ?_
    exact y_iret tq_X8_ofIntruder rfl rfl (⟨⟨_, rfl⟩, rfl⟩)
  by_cases s22_4 : what = 4
  · refine y_swIn tq_X8_ofIntruder 104 rfl (by rw [s22_4]; decide) (by rw [s22_4]; decide) (by rw [s22_4]; rfl) rfl ?_
    refine y_blk 4 tq_X8_ofIntruder (z := (108, [(0, .ref (ad 1)), (1, .int intruder), (2, .int what)], [.int intruder, .ref (ad 1), .int intruder, .ref (ad 1)])) rfl ?_
    refine y_callV hS tq_X8_ofIntruder rfl (As := [.int intruder]) rfl cv_X8_302 (hX.1 1 _ rfl) (m_X8_foundAt hS hX intruder) rfl (by decide) (Nat.le_of_ble_eq_true rfl) (fun r108 Gc108 q108 => ?_) (fun E9 G9 h9 => h9.elim)
    obtain ⟨⟨x108, rfl⟩, eG108⟩ := q108
    have eG108 := eG108.symm
    subst eG108
    refine y_blk 0 tq_X8_ofIntruder (z := (111, [(0, .ref (ad 1)), (1, .int intruder), (2, .int what)], [.int x108, .int intruder, .ref (ad 1)])) rfl ?_
    refine y_callV hS tq_X8_ofIntruder rfl (As := [.int intruder, .int x108]) rfl cv_X8_305 (hX.1 1 _ rfl) (m_X8_findersOf hS hX intruder x108) rfl (by decide) (Nat.le_of_ble_eq_true rfl) (fun r111 Gc111 q111 => ?_) (fun E9 G9 h9 => h9.elim)
    obtain ⟨⟨x111, rfl⟩, eG111⟩ := q111
    have eG111 := eG111.symm
    subst eG111
    refine y_blk 0 tq_X8_ofIntruder (z := (114, [(0, .ref (ad 1)), (1, .int intruder), (2, .int what)], [.int x111])) rfl ?_
    exact y_iret tq_X8_ofIntruder rfl rfl (⟨⟨_, rfl⟩, rfl⟩)
  by_cases s22_5 : what = 5
  · refine y_swIn tq_X8_ofIntruder 115 rfl (by rw [s22_5]; decide) (by rw [s22_5]; decide) (by rw [s22_5]; rfl) rfl ?_
    refine y_blk 4 tq_X8_ofIntruder (z := (119, [(0, .ref (ad 1)), (1, .int intruder), (2, .int what)], [.int intruder, .ref (ad 1), .int intruder, .ref (ad 1)])) rfl ?_
    refine y_callV hS tq_X8_ofIntruder rfl (As := [.int intruder]) rfl cv_X8_302 (hX.1 1 _ rfl) (m_X8_foundAt hS hX intruder) rfl (by decide) (Nat.le_of_ble_eq_true rfl) (fun r119 Gc119 q119 => ?_) (fun E9 G9 h9 => h9.elim)
    obtain ⟨⟨x119, rfl⟩, eG119⟩ := q119
    have eG119 := eG119.symm
    subst eG119
    refine y_blk 0 tq_X8_ofIntruder (z := (122, [(0, .ref (ad 1)), (1, .int intruder), (2, .int what)], [.int x119, .int intruder, .ref (ad 1)])) rfl ?_
    refine y_callV hS tq_X8_ofIntruder rfl (As := [.int intruder, .int x119]) rfl cv_X8_308 (hX.1 1 _ rfl) (m_X8_firstArrival hS hX intruder x119) rfl (by decide) (Nat.le_of_ble_eq_true rfl) (fun r122 Gc122 q122 => ?_) (fun E9 G9 h9 => h9.elim)
    obtain ⟨⟨x122, rfl⟩, eG122⟩ := q122
    have eG122 := eG122.symm
    subst eG122
    refine y_blk 0 tq_X8_ofIntruder (z := (125, [(0, .ref (ad 1)), (1, .int intruder), (2, .int what)], [.int x122])) rfl ?_
    exact y_iret tq_X8_ofIntruder rfl rfl (⟨⟨_, rfl⟩, rfl⟩)
  by_cases s22_6 : what = 6
  · refine y_swIn tq_X8_ofIntruder 126 rfl (by rw [s22_6]; decide) (by rw [s22_6]; decide) (by rw [s22_6]; rfl) rfl ?_
    refine y_blk 4 tq_X8_ofIntruder (z := (130, [(0, .ref (ad 1)), (1, .int intruder), (2, .int what)], [.int intruder, .ref (ad 1), .int intruder, .ref (ad 1)])) rfl ?_
    refine y_callV hS tq_X8_ofIntruder rfl (As := [.int intruder]) rfl cv_X8_302 (hX.1 1 _ rfl) (m_X8_foundAt hS hX intruder) rfl (by decide) (Nat.le_of_ble_eq_true rfl) (fun r130 Gc130 q130 => ?_) (fun E9 G9 h9 => h9.elim)
    obtain ⟨⟨x130, rfl⟩, eG130⟩ := q130
    have eG130 := eG130.symm
    subst eG130
    refine y_blk 0 tq_X8_ofIntruder (z := (133, [(0, .ref (ad 1)), (1, .int intruder), (2, .int what)], [.int x130, .int intruder, .ref (ad 1)])) rfl ?_
    refine y_callV hS tq_X8_ofIntruder rfl (As := [.int intruder, .int x130]) rfl cv_X8_311 (hX.1 1 _ rfl) (m_X8_responder hS hX intruder x130) rfl (by decide) (Nat.le_of_ble_eq_true rfl) (fun r133 Gc133 q133 => ?_) (fun E9 G9 h9 => h9.elim)
    obtain ⟨⟨x133, rfl⟩, eG133⟩ := q133
    have eG133 := eG133.symm
    subst eG133
    refine y_blk 0 tq_X8_ofIntruder (z := (136, [(0, .ref (ad 1)), (1, .int intruder), (2, .int what)], [.int x133])) rfl ?_
    exact y_iret tq_X8_ofIntruder rfl rfl (⟨⟨_, rfl⟩, rfl⟩)
  by_cases s22_7 : what = 7
  · refine y_swIn tq_X8_ofIntruder 137 rfl (by rw [s22_7]; decide) (by rw [s22_7]; decide) (by rw [s22_7]; rfl) rfl ?_
    refine y_blk 1 tq_X8_ofIntruder (z := (138, [(0, .ref (ad 1)), (1, .int intruder), (2, .int what)], [.ref (ad 1)])) rfl ?_
    refine y_get hS tq_X8_ofIntruder (v := .ref (ad 8)) rfl fg_X8_59_X8 (hX.1 1 _ rfl) rfl ?_
    refine y_blk 1 tq_X8_ofIntruder (z := (142, [(0, .ref (ad 1)), (1, .int intruder), (2, .int what)], [.int intruder, .ref (ad 8)])) rfl ?_
    refine y_callV hS tq_X8_ofIntruder rfl (As := [.int intruder]) rfl cv_X8_314 (hX.1 8 _ rfl) (m_X3_stepsOf hS hX intruder) rfl (by decide) (Nat.le_of_ble_eq_true rfl) (fun r142 Gc142 q142 => ?_) (fun E9 G9 h9 => h9.elim)
    obtain ⟨rfl, eG142⟩ := q142
    have eG142 := eG142.symm
    subst eG142
    refine y_blk 0 tq_X8_ofIntruder (z := (145, [(0, .ref (ad 1)), (1, .int intruder), (2, .int what)], [.int (xat σ 20 intruder)])) rfl ?_
    exact y_iret tq_X8_ofIntruder rfl rfl (⟨⟨_, rfl⟩, rfl⟩)
  refine y_swOut tq_X8_ofIntruder 146 rfl (by have z0 : what.toInt ≠ 0 := fun q => s22_0 (Int32.toInt_inj.mp (q.trans (by decide))); have z1 : what.toInt ≠ 1 := fun q => s22_1 (Int32.toInt_inj.mp (q.trans (by decide))); have z2 : what.toInt ≠ 2 := fun q => s22_2 (Int32.toInt_inj.mp (q.trans (by decide))); have z3 : what.toInt ≠ 3 := fun q => s22_3 (Int32.toInt_inj.mp (q.trans (by decide))); have z4 : what.toInt ≠ 4 := fun q => s22_4 (Int32.toInt_inj.mp (q.trans (by decide))); have z5 : what.toInt ≠ 5 := fun q => s22_5 (Int32.toInt_inj.mp (q.trans (by decide))); have z6 : what.toInt ≠ 6 := fun q => s22_6 (Int32.toInt_inj.mp (q.trans (by decide))); have z7 : what.toInt ≠ 7 := fun q => s22_7 (Int32.toInt_inj.mp (q.trans (by decide))); omega) rfl ?_
  refine y_blk 1 tq_X8_ofIntruder (z := (147, [(0, .ref (ad 1)), (1, .int intruder), (2, .int what)], [.ref (ad 1)])) rfl ?_
  refine y_get hS tq_X8_ofIntruder (v := .ref (ad 8)) rfl fg_X8_59_X8 (hX.1 1 _ rfl) rfl ?_
  refine y_blk 1 tq_X8_ofIntruder (z := (151, [(0, .ref (ad 1)), (1, .int intruder), (2, .int what)], [.int intruder, .ref (ad 8)])) rfl ?_
  refine y_callV hS tq_X8_ofIntruder rfl (As := [.int intruder]) rfl cv_X8_317 (hX.1 8 _ rfl) (m_X3_stepMinuteOf hS hX intruder) rfl (by decide) (Nat.le_of_ble_eq_true rfl) (fun r151 Gc151 q151 => ?_) (fun E9 G9 h9 => h9.elim)
  obtain ⟨rfl, eG151⟩ := q151
  have eG151 := eG151.symm
  subst eG151
  refine y_blk 0 tq_X8_ofIntruder (z := (154, [(0, .ref (ad 1)), (1, .int intruder), (2, .int what)], [.int (xat σ 21 intruder)])) rfl ?_
  exact y_iret tq_X8_ofIntruder rfl rfl (⟨⟨_, rfl⟩, rfl⟩)
set_option maxHeartbeats 4000000 in
set_option maxRecDepth 100000 in
theorem m_X8_force {l : Launch} {S0 : State} {A0 : Array Value} {D : va_G} {aC : Nat → ClassId} {ad : Nat → Nat} {G : AH} {σ : XS} (hS : yS l S0 A0 D aC) (hX : atX aC ad G σ) (intruder : Int32) (step : Int32) (minute : Int32) : yM l S0 D yX8_force cX8_force 5 (some .int) 14 3 18 [.ref (ad 1), .int intruder, .int step, .int minute] G (fun r G1 => (∃ v : Int32, r = some (.int v)) ∧ ∃ σ1 : XS, atX aC ad G1 σ1 ∧ keepX G G1 ∧ xfr [44, 45] σ σ1) (fun E G1 => (E = "java/lang/IndexOutOfBoundsException" ∨ E = "java/lang/IllegalArgumentException" ∨ E = "java/lang/IllegalStateException") ∧ G1 = G) := by
  refine yM.ofK K_X8_force rfl (by decide) (Nat.le_of_ble_eq_true rfl) ?_
  refine y_blk 2 tq_X8_force (z := (2, [(0, .ref (ad 1)), (1, .int intruder), (2, .int step), (3, .int minute)], [.ref (ad 1), .int intruder])) rfl ?_
  refine y_get hS tq_X8_force (v := .ref (ad 8)) rfl fg_X8_59_X8 (hX.1 1 _ rfl) rfl ?_
  refine y_blk 0 tq_X8_force (z := (5, [(0, .ref (ad 1)), (1, .int intruder), (2, .int step), (3, .int minute)], [.ref (ad 8), .int intruder])) rfl ?_
  refine y_callV hS tq_X8_force rfl (As := []) rfl cv_X8_290 (hX.1 8 _ rfl) (m_X3_count hS hX ) rfl (by decide) (Nat.le_of_ble_eq_true rfl) (fun r5 Gc5 q5 => ?_) (fun E9 G9 h9 => h9.elim)
  obtain ⟨rfl, eG5⟩ := q5
  have eG5 := eG5.symm
  subst eG5
  refine y_blk 0 tq_X8_force (z := (8, [(0, .ref (ad 1)), (1, .int intruder), (2, .int step), (3, .int minute)], [.int (σ.1 16), .int intruder])) rfl ?_
  refine y_callS hS tq_X8_force rfl (As := [.int intruder, .int (σ.1 16)]) rfl cs_X8_164 (m_X8_needThere hS  intruder (σ.1 16)) rfl (by decide) (Nat.le_of_ble_eq_true rfl) (fun r8 Gc8 q8 => ?_) (fun E9 G9 h9 => ⟨(Or.inl h9.1.1), h9.2⟩)
  obtain ⟨⟨rfl, hq8⟩, eG8⟩ := q8
  have eG8 := eG8.symm
  subst eG8
  refine y_blk 3 tq_X8_force (z := (14, [(0, .ref (ad 1)), (1, .int intruder), (2, .int step), (3, .int minute)], [.int 3, .int 0, .int step])) rfl ?_
  refine y_callS hS tq_X8_force rfl (As := [.int step, .int 0, .int 3]) rfl cs_X8_76 (m_X8_isIn hS  step 0 3) rfl (by decide) (Nat.le_of_ble_eq_true rfl) (fun r14 Gc14 q14 => ?_) (fun E9 G9 h9 => h9.elim)
  obtain ⟨rfl, eG14⟩ := q14
  have eG14 := eG14.symm
  subst eG14
  refine y_blk 0 tq_X8_force (z := (17, [(0, .ref (ad 1)), (1, .int intruder), (2, .int step), (3, .int minute)], [.int (if 0 ≤ step ∧ step ≤ 3 then 1 else 0)])) rfl ?_
  refine y_if_eq tq_X8_force 31 rfl rfl (fun c17 => ?_) (fun c17 => ?_)
  · skip
    refine y_blk 1 tq_X8_force (z := (32, [(0, .ref (ad 1)), (1, .int intruder), (2, .int step), (3, .int minute)], [.int 0])) rfl ?_
    refine y_callS hS tq_X8_force rfl (As := [.int 0]) rfl cs_X8_117 (m_X8_needLet hS  0) rfl (by decide) (Nat.le_of_ble_eq_true rfl) (fun r32 Gc32 q32 => ?_) (fun E9 G9 h9 => ⟨(Or.inr (Or.inl h9.1.1)), h9.2⟩)
    obtain ⟨⟨rfl, hq32⟩, eG32⟩ := q32
    have eG32 := eG32.symm
    subst eG32
    refine y_blk 2 tq_X8_force (z := (37, [(0, .ref (ad 1)), (1, .int intruder), (2, .int step), (3, .int minute)], [.int intruder, .ref (ad 1)])) rfl ?_
    refine y_callV hS tq_X8_force rfl (As := [.int intruder]) rfl cv_X8_302 (hX.1 1 _ rfl) (m_X8_foundAt hS hX intruder) rfl (by decide) (Nat.le_of_ble_eq_true rfl) (fun r37 Gc37 q37 => ?_) (fun E9 G9 h9 => h9.elim)
    obtain ⟨⟨x37, rfl⟩, eG37⟩ := q37
    have eG37 := eG37.symm
    subst eG37
    refine y_blk 3 tq_X8_force (z := (45, [(4, .int x37), (0, .ref (ad 1)), (1, .int intruder), (2, .int step), (3, .int minute)], [.int (-1), .int x37])) rfl ?_
    refine y_icmp_eq tq_X8_force 71 rfl rfl (fun c45 => ?_) (fun c45 => ?_)
    · skip
      refine y_blk 1 tq_X8_force (z := (72, [(4, .int x37), (0, .ref (ad 1)), (1, .int intruder), (2, .int step), (3, .int minute)], [.int 0])) rfl ?_
      refine y_callS hS tq_X8_force rfl (As := [.int 0]) rfl cs_X8_128 (m_X8_needPossible hS  0) rfl (by decide) (Nat.le_of_ble_eq_true rfl) (fun r72 Gc72 q72 => ?_) (fun E9 G9 h9 => ⟨(Or.inr (Or.inr h9.1.1)), h9.2⟩)
      obtain ⟨⟨rfl, hq72⟩, eG72⟩ := q72
      have eG72 := eG72.symm
      subst eG72
      refine y_blk 1 tq_X8_force (z := (76, [(4, .int x37), (0, .ref (ad 1)), (1, .int intruder), (2, .int step), (3, .int minute)], [.ref (ad 1)])) rfl ?_
      refine y_get hS tq_X8_force (v := .ref (ad 8)) rfl fg_X8_59_X8 (hX.1 1 _ rfl) rfl ?_
      refine y_blk 2 tq_X8_force (z := (81, [(4, .int x37), (0, .ref (ad 1)), (1, .int intruder), (2, .int step), (3, .int minute)], [.int minute, .int intruder, .ref (ad 8)])) rfl ?_
      refine y_callV hS tq_X8_force rfl (As := [.int intruder, .int minute]) rfl cv_X8_323 (hX.1 8 _ rfl) (m_X3_addStep hS hX intruder minute) rfl (by decide) (Nat.le_of_ble_eq_true rfl) (fun r81 Gc81 q81 => ?_) (fun E9 G9 h9 => h9.elim)
      obtain ⟨rfl, hXc81, hFc81⟩ := q81
      refine y_blk 0 tq_X8_force (z := (84, [(4, .int x37), (0, .ref (ad 1)), (1, .int intruder), (2, .int step), (3, .int minute)], [.int (xat (xstep σ intruder minute) 20 intruder)])) rfl ?_
      exact y_iret tq_X8_force rfl rfl (⟨⟨_, rfl⟩, _, hXc81, (keepX.rfl'.trans hFc81), ((xkn.trans xkn.rfl' xstep.kn)).w⟩)
    · skip
      refine y_blk 2 tq_X8_force (z := (51, [(4, .int x37), (0, .ref (ad 1)), (1, .int intruder), (2, .int step), (3, .int minute)], [.int x37, .int minute])) rfl ?_
      refine y_icmp_lt tq_X8_force 71 rfl rfl (fun c51 => ?_) (fun c51 => ?_)
      · skip
        refine y_blk 1 tq_X8_force (z := (72, [(4, .int x37), (0, .ref (ad 1)), (1, .int intruder), (2, .int step), (3, .int minute)], [.int 0])) rfl ?_
        refine y_callS hS tq_X8_force rfl (As := [.int 0]) rfl cs_X8_128 (m_X8_needPossible hS  0) rfl (by decide) (Nat.le_of_ble_eq_true rfl) (fun r72 Gc72 q72 => ?_) (fun E9 G9 h9 => ⟨(Or.inr (Or.inr h9.1.1)), h9.2⟩)
        obtain ⟨⟨rfl, hq72⟩, eG72⟩ := q72
        have eG72 := eG72.symm
        subst eG72
        refine y_blk 1 tq_X8_force (z := (76, [(4, .int x37), (0, .ref (ad 1)), (1, .int intruder), (2, .int step), (3, .int minute)], [.ref (ad 1)])) rfl ?_
        refine y_get hS tq_X8_force (v := .ref (ad 8)) rfl fg_X8_59_X8 (hX.1 1 _ rfl) rfl ?_
        refine y_blk 2 tq_X8_force (z := (81, [(4, .int x37), (0, .ref (ad 1)), (1, .int intruder), (2, .int step), (3, .int minute)], [.int minute, .int intruder, .ref (ad 8)])) rfl ?_
        refine y_callV hS tq_X8_force rfl (As := [.int intruder, .int minute]) rfl cv_X8_323 (hX.1 8 _ rfl) (m_X3_addStep hS hX intruder minute) rfl (by decide) (Nat.le_of_ble_eq_true rfl) (fun r81 Gc81 q81 => ?_) (fun E9 G9 h9 => h9.elim)
        obtain ⟨rfl, hXc81, hFc81⟩ := q81
        refine y_blk 0 tq_X8_force (z := (84, [(4, .int x37), (0, .ref (ad 1)), (1, .int intruder), (2, .int step), (3, .int minute)], [.int (xat (xstep σ intruder minute) 20 intruder)])) rfl ?_
        exact y_iret tq_X8_force rfl rfl (⟨⟨_, rfl⟩, _, hXc81, (keepX.rfl'.trans hFc81), ((xkn.trans xkn.rfl' xstep.kn)).w⟩)
      · skip
        refine y_blk 1 tq_X8_force (z := (55, [(4, .int x37), (0, .ref (ad 1)), (1, .int intruder), (2, .int step), (3, .int minute)], [.ref (ad 1)])) rfl ?_
        refine y_get hS tq_X8_force (v := .ref (ad 8)) rfl fg_X8_59_X8 (hX.1 1 _ rfl) rfl ?_
        refine y_blk 3 tq_X8_force (z := (61, [(4, .int x37), (0, .ref (ad 1)), (1, .int intruder), (2, .int step), (3, .int minute)], [.int minute, .int step, .int intruder, .ref (ad 8)])) rfl ?_
        refine y_callV hS tq_X8_force rfl (As := [.int intruder, .int step, .int minute]) rfl cv_X8_320 (hX.1 8 _ rfl) (m_X3_isNextStep hS hX intruder step minute) rfl (by decide) (Nat.le_of_ble_eq_true rfl) (fun r61 Gc61 q61 => ?_) (fun E9 G9 h9 => h9.elim)
        obtain ⟨⟨x61, hb_x61, rfl⟩, eG61⟩ := q61
        have eG61 := eG61.symm
        subst eG61
        refine y_blk 0 tq_X8_force (z := (64, [(4, .int x37), (0, .ref (ad 1)), (1, .int intruder), (2, .int step), (3, .int minute)], [.int x61])) rfl ?_
        refine y_if_eq tq_X8_force 71 rfl rfl (fun c64 => ?_) (fun c64 => ?_)
        · skip
          refine y_blk 1 tq_X8_force (z := (72, [(4, .int x37), (0, .ref (ad 1)), (1, .int intruder), (2, .int step), (3, .int minute)], [.int 0])) rfl ?_
          refine y_callS hS tq_X8_force rfl (As := [.int 0]) rfl cs_X8_128 (m_X8_needPossible hS  0) rfl (by decide) (Nat.le_of_ble_eq_true rfl) (fun r72 Gc72 q72 => ?_) (fun E9 G9 h9 => ⟨(Or.inr (Or.inr h9.1.1)), h9.2⟩)
          obtain ⟨⟨rfl, hq72⟩, eG72⟩ := q72
          have eG72 := eG72.symm
          subst eG72
          refine y_blk 1 tq_X8_force (z := (76, [(4, .int x37), (0, .ref (ad 1)), (1, .int intruder), (2, .int step), (3, .int minute)], [.ref (ad 1)])) rfl ?_
          refine y_get hS tq_X8_force (v := .ref (ad 8)) rfl fg_X8_59_X8 (hX.1 1 _ rfl) rfl ?_
          refine y_blk 2 tq_X8_force (z := (81, [(4, .int x37), (0, .ref (ad 1)), (1, .int intruder), (2, .int step), (3, .int minute)], [.int minute, .int intruder, .ref (ad 8)])) rfl ?_
          refine y_callV hS tq_X8_force rfl (As := [.int intruder, .int minute]) rfl cv_X8_323 (hX.1 8 _ rfl) (m_X3_addStep hS hX intruder minute) rfl (by decide) (Nat.le_of_ble_eq_true rfl) (fun r81 Gc81 q81 => ?_) (fun E9 G9 h9 => h9.elim)
          obtain ⟨rfl, hXc81, hFc81⟩ := q81
          refine y_blk 0 tq_X8_force (z := (84, [(4, .int x37), (0, .ref (ad 1)), (1, .int intruder), (2, .int step), (3, .int minute)], [.int (xat (xstep σ intruder minute) 20 intruder)])) rfl ?_
          exact y_iret tq_X8_force rfl rfl (⟨⟨_, rfl⟩, _, hXc81, (keepX.rfl'.trans hFc81), ((xkn.trans xkn.rfl' xstep.kn)).w⟩)
        · skip
          refine y_blk 2 tq_X8_force (z := (72, [(4, .int x37), (0, .ref (ad 1)), (1, .int intruder), (2, .int step), (3, .int minute)], [.int 1])) rfl ?_
          refine y_callS hS tq_X8_force rfl (As := [.int 1]) rfl cs_X8_128 (m_X8_needPossible hS  1) rfl (by decide) (Nat.le_of_ble_eq_true rfl) (fun r72 Gc72 q72 => ?_) (fun E9 G9 h9 => ⟨(Or.inr (Or.inr h9.1.1)), h9.2⟩)
          obtain ⟨⟨rfl, hq72⟩, eG72⟩ := q72
          have eG72 := eG72.symm
          subst eG72
          refine y_blk 1 tq_X8_force (z := (76, [(4, .int x37), (0, .ref (ad 1)), (1, .int intruder), (2, .int step), (3, .int minute)], [.ref (ad 1)])) rfl ?_
          refine y_get hS tq_X8_force (v := .ref (ad 8)) rfl fg_X8_59_X8 (hX.1 1 _ rfl) rfl ?_
          refine y_blk 2 tq_X8_force (z := (81, [(4, .int x37), (0, .ref (ad 1)), (1, .int intruder), (2, .int step), (3, .int minute)], [.int minute, .int intruder, .ref (ad 8)])) rfl ?_
          refine y_callV hS tq_X8_force rfl (As := [.int intruder, .int minute]) rfl cv_X8_323 (hX.1 8 _ rfl) (m_X3_addStep hS hX intruder minute) rfl (by decide) (Nat.le_of_ble_eq_true rfl) (fun r81 Gc81 q81 => ?_) (fun E9 G9 h9 => h9.elim)
          obtain ⟨rfl, hXc81, hFc81⟩ := q81
          refine y_blk 0 tq_X8_force (z := (84, [(4, .int x37), (0, .ref (ad 1)), (1, .int intruder), (2, .int step), (3, .int minute)], [.int (xat (xstep σ intruder minute) 20 intruder)])) rfl ?_
          exact y_iret tq_X8_force rfl rfl (⟨⟨_, rfl⟩, _, hXc81, (keepX.rfl'.trans hFc81), ((xkn.trans xkn.rfl' xstep.kn)).w⟩)
  · skip
    refine y_blk 1 tq_X8_force (z := (21, [(0, .ref (ad 1)), (1, .int intruder), (2, .int step), (3, .int minute)], [.int minute])) rfl ?_
    refine y_callS hS tq_X8_force rfl (As := [.int minute]) rfl cs_X8_139 (m_X8_isMinute hS  minute) rfl (by decide) (Nat.le_of_ble_eq_true rfl) (fun r21 Gc21 q21 => ?_) (fun E9 G9 h9 => h9.elim)
    obtain ⟨rfl, eG21⟩ := q21
    have eG21 := eG21.symm
    subst eG21
    refine y_blk 0 tq_X8_force (z := (24, [(0, .ref (ad 1)), (1, .int intruder), (2, .int step), (3, .int minute)], [.int (if 0 ≤ minute ∧ minute ≤ 239 then 1 else 0)])) rfl ?_
    refine y_if_eq tq_X8_force 31 rfl rfl (fun c24 => ?_) (fun c24 => ?_)
    · skip
      refine y_blk 1 tq_X8_force (z := (32, [(0, .ref (ad 1)), (1, .int intruder), (2, .int step), (3, .int minute)], [.int 0])) rfl ?_
      refine y_callS hS tq_X8_force rfl (As := [.int 0]) rfl cs_X8_117 (m_X8_needLet hS  0) rfl (by decide) (Nat.le_of_ble_eq_true rfl) (fun r32 Gc32 q32 => ?_) (fun E9 G9 h9 => ⟨(Or.inr (Or.inl h9.1.1)), h9.2⟩)
      obtain ⟨⟨rfl, hq32⟩, eG32⟩ := q32
      have eG32 := eG32.symm
      subst eG32
      refine y_blk 2 tq_X8_force (z := (37, [(0, .ref (ad 1)), (1, .int intruder), (2, .int step), (3, .int minute)], [.int intruder, .ref (ad 1)])) rfl ?_
      refine y_callV hS tq_X8_force rfl (As := [.int intruder]) rfl cv_X8_302 (hX.1 1 _ rfl) (m_X8_foundAt hS hX intruder) rfl (by decide) (Nat.le_of_ble_eq_true rfl) (fun r37 Gc37 q37 => ?_) (fun E9 G9 h9 => h9.elim)
      obtain ⟨⟨x37, rfl⟩, eG37⟩ := q37
      have eG37 := eG37.symm
      subst eG37
      refine y_blk 3 tq_X8_force (z := (45, [(4, .int x37), (0, .ref (ad 1)), (1, .int intruder), (2, .int step), (3, .int minute)], [.int (-1), .int x37])) rfl ?_
      refine y_icmp_eq tq_X8_force 71 rfl rfl (fun c45 => ?_) (fun c45 => ?_)
      · skip
        refine y_blk 1 tq_X8_force (z := (72, [(4, .int x37), (0, .ref (ad 1)), (1, .int intruder), (2, .int step), (3, .int minute)], [.int 0])) rfl ?_
        refine y_callS hS tq_X8_force rfl (As := [.int 0]) rfl cs_X8_128 (m_X8_needPossible hS  0) rfl (by decide) (Nat.le_of_ble_eq_true rfl) (fun r72 Gc72 q72 => ?_) (fun E9 G9 h9 => ⟨(Or.inr (Or.inr h9.1.1)), h9.2⟩)
        obtain ⟨⟨rfl, hq72⟩, eG72⟩ := q72
        have eG72 := eG72.symm
        subst eG72
        refine y_blk 1 tq_X8_force (z := (76, [(4, .int x37), (0, .ref (ad 1)), (1, .int intruder), (2, .int step), (3, .int minute)], [.ref (ad 1)])) rfl ?_
        refine y_get hS tq_X8_force (v := .ref (ad 8)) rfl fg_X8_59_X8 (hX.1 1 _ rfl) rfl ?_
        refine y_blk 2 tq_X8_force (z := (81, [(4, .int x37), (0, .ref (ad 1)), (1, .int intruder), (2, .int step), (3, .int minute)], [.int minute, .int intruder, .ref (ad 8)])) rfl ?_
        refine y_callV hS tq_X8_force rfl (As := [.int intruder, .int minute]) rfl cv_X8_323 (hX.1 8 _ rfl) (m_X3_addStep hS hX intruder minute) rfl (by decide) (Nat.le_of_ble_eq_true rfl) (fun r81 Gc81 q81 => ?_) (fun E9 G9 h9 => h9.elim)
        obtain ⟨rfl, hXc81, hFc81⟩ := q81
        refine y_blk 0 tq_X8_force (z := (84, [(4, .int x37), (0, .ref (ad 1)), (1, .int intruder), (2, .int step), (3, .int minute)], [.int (xat (xstep σ intruder minute) 20 intruder)])) rfl ?_
        exact y_iret tq_X8_force rfl rfl (⟨⟨_, rfl⟩, _, hXc81, (keepX.rfl'.trans hFc81), ((xkn.trans xkn.rfl' xstep.kn)).w⟩)
      · skip
        refine y_blk 2 tq_X8_force (z := (51, [(4, .int x37), (0, .ref (ad 1)), (1, .int intruder), (2, .int step), (3, .int minute)], [.int x37, .int minute])) rfl ?_
        refine y_icmp_lt tq_X8_force 71 rfl rfl (fun c51 => ?_) (fun c51 => ?_)
        · skip
          refine y_blk 1 tq_X8_force (z := (72, [(4, .int x37), (0, .ref (ad 1)), (1, .int intruder), (2, .int step), (3, .int minute)], [.int 0])) rfl ?_
          refine y_callS hS tq_X8_force rfl (As := [.int 0]) rfl cs_X8_128 (m_X8_needPossible hS  0) rfl (by decide) (Nat.le_of_ble_eq_true rfl) (fun r72 Gc72 q72 => ?_) (fun E9 G9 h9 => ⟨(Or.inr (Or.inr h9.1.1)), h9.2⟩)
          obtain ⟨⟨rfl, hq72⟩, eG72⟩ := q72
          have eG72 := eG72.symm
          subst eG72
          refine y_blk 1 tq_X8_force (z := (76, [(4, .int x37), (0, .ref (ad 1)), (1, .int intruder), (2, .int step), (3, .int minute)], [.ref (ad 1)])) rfl ?_
          refine y_get hS tq_X8_force (v := .ref (ad 8)) rfl fg_X8_59_X8 (hX.1 1 _ rfl) rfl ?_
          refine y_blk 2 tq_X8_force (z := (81, [(4, .int x37), (0, .ref (ad 1)), (1, .int intruder), (2, .int step), (3, .int minute)], [.int minute, .int intruder, .ref (ad 8)])) rfl ?_
          refine y_callV hS tq_X8_force rfl (As := [.int intruder, .int minute]) rfl cv_X8_323 (hX.1 8 _ rfl) (m_X3_addStep hS hX intruder minute) rfl (by decide) (Nat.le_of_ble_eq_true rfl) (fun r81 Gc81 q81 => ?_) (fun E9 G9 h9 => h9.elim)
          obtain ⟨rfl, hXc81, hFc81⟩ := q81
          refine y_blk 0 tq_X8_force (z := (84, [(4, .int x37), (0, .ref (ad 1)), (1, .int intruder), (2, .int step), (3, .int minute)], [.int (xat (xstep σ intruder minute) 20 intruder)])) rfl ?_
          exact y_iret tq_X8_force rfl rfl (⟨⟨_, rfl⟩, _, hXc81, (keepX.rfl'.trans hFc81), ((xkn.trans xkn.rfl' xstep.kn)).w⟩)
        · skip
          refine y_blk 1 tq_X8_force (z := (55, [(4, .int x37), (0, .ref (ad 1)), (1, .int intruder), (2, .int step), (3, .int minute)], [.ref (ad 1)])) rfl ?_
          refine y_get hS tq_X8_force (v := .ref (ad 8)) rfl fg_X8_59_X8 (hX.1 1 _ rfl) rfl ?_
          refine y_blk 3 tq_X8_force (z := (61, [(4, .int x37), (0, .ref (ad 1)), (1, .int intruder), (2, .int step), (3, .int minute)], [.int minute, .int step, .int intruder, .ref (ad 8)])) rfl ?_
          refine y_callV hS tq_X8_force rfl (As := [.int intruder, .int step, .int minute]) rfl cv_X8_320 (hX.1 8 _ rfl) (m_X3_isNextStep hS hX intruder step minute) rfl (by decide) (Nat.le_of_ble_eq_true rfl) (fun r61 Gc61 q61 => ?_) (fun E9 G9 h9 => h9.elim)
          obtain ⟨⟨x61, hb_x61, rfl⟩, eG61⟩ := q61
          have eG61 := eG61.symm
          subst eG61
          refine y_blk 0 tq_X8_force (z := (64, [(4, .int x37), (0, .ref (ad 1)), (1, .int intruder), (2, .int step), (3, .int minute)], [.int x61])) rfl ?_
          refine y_if_eq tq_X8_force 71 rfl rfl (fun c64 => ?_) (fun c64 => ?_)
          · skip
            refine y_blk 1 tq_X8_force (z := (72, [(4, .int x37), (0, .ref (ad 1)), (1, .int intruder), (2, .int step), (3, .int minute)], [.int 0])) rfl ?_
            refine y_callS hS tq_X8_force rfl (As := [.int 0]) rfl cs_X8_128 (m_X8_needPossible hS  0) rfl (by decide) (Nat.le_of_ble_eq_true rfl) (fun r72 Gc72 q72 => ?_) (fun E9 G9 h9 => ⟨(Or.inr (Or.inr h9.1.1)), h9.2⟩)
            obtain ⟨⟨rfl, hq72⟩, eG72⟩ := q72
            have eG72 := eG72.symm
            subst eG72
            refine y_blk 1 tq_X8_force (z := (76, [(4, .int x37), (0, .ref (ad 1)), (1, .int intruder), (2, .int step), (3, .int minute)], [.ref (ad 1)])) rfl ?_
            refine y_get hS tq_X8_force (v := .ref (ad 8)) rfl fg_X8_59_X8 (hX.1 1 _ rfl) rfl ?_
            refine y_blk 2 tq_X8_force (z := (81, [(4, .int x37), (0, .ref (ad 1)), (1, .int intruder), (2, .int step), (3, .int minute)], [.int minute, .int intruder, .ref (ad 8)])) rfl ?_
            refine y_callV hS tq_X8_force rfl (As := [.int intruder, .int minute]) rfl cv_X8_323 (hX.1 8 _ rfl) (m_X3_addStep hS hX intruder minute) rfl (by decide) (Nat.le_of_ble_eq_true rfl) (fun r81 Gc81 q81 => ?_) (fun E9 G9 h9 => h9.elim)
            obtain ⟨rfl, hXc81, hFc81⟩ := q81
            refine y_blk 0 tq_X8_force (z := (84, [(4, .int x37), (0, .ref (ad 1)), (1, .int intruder), (2, .int step), (3, .int minute)], [.int (xat (xstep σ intruder minute) 20 intruder)])) rfl ?_
            exact y_iret tq_X8_force rfl rfl (⟨⟨_, rfl⟩, _, hXc81, (keepX.rfl'.trans hFc81), ((xkn.trans xkn.rfl' xstep.kn)).w⟩)
          · skip
            refine y_blk 2 tq_X8_force (z := (72, [(4, .int x37), (0, .ref (ad 1)), (1, .int intruder), (2, .int step), (3, .int minute)], [.int 1])) rfl ?_
            refine y_callS hS tq_X8_force rfl (As := [.int 1]) rfl cs_X8_128 (m_X8_needPossible hS  1) rfl (by decide) (Nat.le_of_ble_eq_true rfl) (fun r72 Gc72 q72 => ?_) (fun E9 G9 h9 => ⟨(Or.inr (Or.inr h9.1.1)), h9.2⟩)
            obtain ⟨⟨rfl, hq72⟩, eG72⟩ := q72
            have eG72 := eG72.symm
            subst eG72
            refine y_blk 1 tq_X8_force (z := (76, [(4, .int x37), (0, .ref (ad 1)), (1, .int intruder), (2, .int step), (3, .int minute)], [.ref (ad 1)])) rfl ?_
            refine y_get hS tq_X8_force (v := .ref (ad 8)) rfl fg_X8_59_X8 (hX.1 1 _ rfl) rfl ?_
            refine y_blk 2 tq_X8_force (z := (81, [(4, .int x37), (0, .ref (ad 1)), (1, .int intruder), (2, .int step), (3, .int minute)], [.int minute, .int intruder, .ref (ad 8)])) rfl ?_
            refine y_callV hS tq_X8_force rfl (As := [.int intruder, .int minute]) rfl cv_X8_323 (hX.1 8 _ rfl) (m_X3_addStep hS hX intruder minute) rfl (by decide) (Nat.le_of_ble_eq_true rfl) (fun r81 Gc81 q81 => ?_) (fun E9 G9 h9 => h9.elim)
            obtain ⟨rfl, hXc81, hFc81⟩ := q81
            refine y_blk 0 tq_X8_force (z := (84, [(4, .int x37), (0, .ref (ad 1)), (1, .int intruder), (2, .int step), (3, .int minute)], [.int (xat (xstep σ intruder minute) 20 intruder)])) rfl ?_
            exact y_iret tq_X8_force rfl rfl (⟨⟨_, rfl⟩, _, hXc81, (keepX.rfl'.trans hFc81), ((xkn.trans xkn.rfl' xstep.kn)).w⟩)
    · skip
      refine y_blk 2 tq_X8_force (z := (32, [(0, .ref (ad 1)), (1, .int intruder), (2, .int step), (3, .int minute)], [.int 1])) rfl ?_
      refine y_callS hS tq_X8_force rfl (As := [.int 1]) rfl cs_X8_117 (m_X8_needLet hS  1) rfl (by decide) (Nat.le_of_ble_eq_true rfl) (fun r32 Gc32 q32 => ?_) (fun E9 G9 h9 => ⟨(Or.inr (Or.inl h9.1.1)), h9.2⟩)
      obtain ⟨⟨rfl, hq32⟩, eG32⟩ := q32
      have eG32 := eG32.symm
      subst eG32
      refine y_blk 2 tq_X8_force (z := (37, [(0, .ref (ad 1)), (1, .int intruder), (2, .int step), (3, .int minute)], [.int intruder, .ref (ad 1)])) rfl ?_
      refine y_callV hS tq_X8_force rfl (As := [.int intruder]) rfl cv_X8_302 (hX.1 1 _ rfl) (m_X8_foundAt hS hX intruder) rfl (by decide) (Nat.le_of_ble_eq_true rfl) (fun r37 Gc37 q37 => ?_) (fun E9 G9 h9 => h9.elim)
      obtain ⟨⟨x37, rfl⟩, eG37⟩ := q37
      have eG37 := eG37.symm
      subst eG37
      refine y_blk 3 tq_X8_force (z := (45, [(4, .int x37), (0, .ref (ad 1)), (1, .int intruder), (2, .int step), (3, .int minute)], [.int (-1), .int x37])) rfl ?_
      refine y_icmp_eq tq_X8_force 71 rfl rfl (fun c45 => ?_) (fun c45 => ?_)
      · skip
        refine y_blk 1 tq_X8_force (z := (72, [(4, .int x37), (0, .ref (ad 1)), (1, .int intruder), (2, .int step), (3, .int minute)], [.int 0])) rfl ?_
        refine y_callS hS tq_X8_force rfl (As := [.int 0]) rfl cs_X8_128 (m_X8_needPossible hS  0) rfl (by decide) (Nat.le_of_ble_eq_true rfl) (fun r72 Gc72 q72 => ?_) (fun E9 G9 h9 => ⟨(Or.inr (Or.inr h9.1.1)), h9.2⟩)
        obtain ⟨⟨rfl, hq72⟩, eG72⟩ := q72
        have eG72 := eG72.symm
        subst eG72
        refine y_blk 1 tq_X8_force (z := (76, [(4, .int x37), (0, .ref (ad 1)), (1, .int intruder), (2, .int step), (3, .int minute)], [.ref (ad 1)])) rfl ?_
        refine y_get hS tq_X8_force (v := .ref (ad 8)) rfl fg_X8_59_X8 (hX.1 1 _ rfl) rfl ?_
        refine y_blk 2 tq_X8_force (z := (81, [(4, .int x37), (0, .ref (ad 1)), (1, .int intruder), (2, .int step), (3, .int minute)], [.int minute, .int intruder, .ref (ad 8)])) rfl ?_
        refine y_callV hS tq_X8_force rfl (As := [.int intruder, .int minute]) rfl cv_X8_323 (hX.1 8 _ rfl) (m_X3_addStep hS hX intruder minute) rfl (by decide) (Nat.le_of_ble_eq_true rfl) (fun r81 Gc81 q81 => ?_) (fun E9 G9 h9 => h9.elim)
        obtain ⟨rfl, hXc81, hFc81⟩ := q81
        refine y_blk 0 tq_X8_force (z := (84, [(4, .int x37), (0, .ref (ad 1)), (1, .int intruder), (2, .int step), (3, .int minute)], [.int (xat (xstep σ intruder minute) 20 intruder)])) rfl ?_
        exact y_iret tq_X8_force rfl rfl (⟨⟨_, rfl⟩, _, hXc81, (keepX.rfl'.trans hFc81), ((xkn.trans xkn.rfl' xstep.kn)).w⟩)
      · skip
        refine y_blk 2 tq_X8_force (z := (51, [(4, .int x37), (0, .ref (ad 1)), (1, .int intruder), (2, .int step), (3, .int minute)], [.int x37, .int minute])) rfl ?_
        refine y_icmp_lt tq_X8_force 71 rfl rfl (fun c51 => ?_) (fun c51 => ?_)
        · skip
          refine y_blk 1 tq_X8_force (z := (72, [(4, .int x37), (0, .ref (ad 1)), (1, .int intruder), (2, .int step), (3, .int minute)], [.int 0])) rfl ?_
          refine y_callS hS tq_X8_force rfl (As := [.int 0]) rfl cs_X8_128 (m_X8_needPossible hS  0) rfl (by decide) (Nat.le_of_ble_eq_true rfl) (fun r72 Gc72 q72 => ?_) (fun E9 G9 h9 => ⟨(Or.inr (Or.inr h9.1.1)), h9.2⟩)
          obtain ⟨⟨rfl, hq72⟩, eG72⟩ := q72
          have eG72 := eG72.symm
          subst eG72
          refine y_blk 1 tq_X8_force (z := (76, [(4, .int x37), (0, .ref (ad 1)), (1, .int intruder), (2, .int step), (3, .int minute)], [.ref (ad 1)])) rfl ?_
          refine y_get hS tq_X8_force (v := .ref (ad 8)) rfl fg_X8_59_X8 (hX.1 1 _ rfl) rfl ?_
          refine y_blk 2 tq_X8_force (z := (81, [(4, .int x37), (0, .ref (ad 1)), (1, .int intruder), (2, .int step), (3, .int minute)], [.int minute, .int intruder, .ref (ad 8)])) rfl ?_
          refine y_callV hS tq_X8_force rfl (As := [.int intruder, .int minute]) rfl cv_X8_323 (hX.1 8 _ rfl) (m_X3_addStep hS hX intruder minute) rfl (by decide) (Nat.le_of_ble_eq_true rfl) (fun r81 Gc81 q81 => ?_) (fun E9 G9 h9 => h9.elim)
          obtain ⟨rfl, hXc81, hFc81⟩ := q81
          refine y_blk 0 tq_X8_force (z := (84, [(4, .int x37), (0, .ref (ad 1)), (1, .int intruder), (2, .int step), (3, .int minute)], [.int (xat (xstep σ intruder minute) 20 intruder)])) rfl ?_
          exact y_iret tq_X8_force rfl rfl (⟨⟨_, rfl⟩, _, hXc81, (keepX.rfl'.trans hFc81), ((xkn.trans xkn.rfl' xstep.kn)).w⟩)
        · skip
          refine y_blk 1 tq_X8_force (z := (55, [(4, .int x37), (0, .ref (ad 1)), (1, .int intruder), (2, .int step), (3, .int minute)], [.ref (ad 1)])) rfl ?_
          refine y_get hS tq_X8_force (v := .ref (ad 8)) rfl fg_X8_59_X8 (hX.1 1 _ rfl) rfl ?_
          refine y_blk 3 tq_X8_force (z := (61, [(4, .int x37), (0, .ref (ad 1)), (1, .int intruder), (2, .int step), (3, .int minute)], [.int minute, .int step, .int intruder, .ref (ad 8)])) rfl ?_
          refine y_callV hS tq_X8_force rfl (As := [.int intruder, .int step, .int minute]) rfl cv_X8_320 (hX.1 8 _ rfl) (m_X3_isNextStep hS hX intruder step minute) rfl (by decide) (Nat.le_of_ble_eq_true rfl) (fun r61 Gc61 q61 => ?_) (fun E9 G9 h9 => h9.elim)
          obtain ⟨⟨x61, hb_x61, rfl⟩, eG61⟩ := q61
          have eG61 := eG61.symm
          subst eG61
          refine y_blk 0 tq_X8_force (z := (64, [(4, .int x37), (0, .ref (ad 1)), (1, .int intruder), (2, .int step), (3, .int minute)], [.int x61])) rfl ?_
          refine y_if_eq tq_X8_force 71 rfl rfl (fun c64 => ?_) (fun c64 => ?_)
          · skip
            refine y_blk 1 tq_X8_force (z := (72, [(4, .int x37), (0, .ref (ad 1)), (1, .int intruder), (2, .int step), (3, .int minute)], [.int 0])) rfl ?_
            refine y_callS hS tq_X8_force rfl (As := [.int 0]) rfl cs_X8_128 (m_X8_needPossible hS  0) rfl (by decide) (Nat.le_of_ble_eq_true rfl) (fun r72 Gc72 q72 => ?_) (fun E9 G9 h9 => ⟨(Or.inr (Or.inr h9.1.1)), h9.2⟩)
            obtain ⟨⟨rfl, hq72⟩, eG72⟩ := q72
            have eG72 := eG72.symm
            subst eG72
            refine y_blk 1 tq_X8_force (z := (76, [(4, .int x37), (0, .ref (ad 1)), (1, .int intruder), (2, .int step), (3, .int minute)], [.ref (ad 1)])) rfl ?_
            refine y_get hS tq_X8_force (v := .ref (ad 8)) rfl fg_X8_59_X8 (hX.1 1 _ rfl) rfl ?_
            refine y_blk 2 tq_X8_force (z := (81, [(4, .int x37), (0, .ref (ad 1)), (1, .int intruder), (2, .int step), (3, .int minute)], [.int minute, .int intruder, .ref (ad 8)])) rfl ?_
            refine y_callV hS tq_X8_force rfl (As := [.int intruder, .int minute]) rfl cv_X8_323 (hX.1 8 _ rfl) (m_X3_addStep hS hX intruder minute) rfl (by decide) (Nat.le_of_ble_eq_true rfl) (fun r81 Gc81 q81 => ?_) (fun E9 G9 h9 => h9.elim)
            obtain ⟨rfl, hXc81, hFc81⟩ := q81
            refine y_blk 0 tq_X8_force (z := (84, [(4, .int x37), (0, .ref (ad 1)), (1, .int intruder), (2, .int step), (3, .int minute)], [.int (xat (xstep σ intruder minute) 20 intruder)])) rfl ?_
            exact y_iret tq_X8_force rfl rfl (⟨⟨_, rfl⟩, _, hXc81, (keepX.rfl'.trans hFc81), ((xkn.trans xkn.rfl' xstep.kn)).w⟩)
          · skip
            refine y_blk 2 tq_X8_force (z := (72, [(4, .int x37), (0, .ref (ad 1)), (1, .int intruder), (2, .int step), (3, .int minute)], [.int 1])) rfl ?_
            refine y_callS hS tq_X8_force rfl (As := [.int 1]) rfl cs_X8_128 (m_X8_needPossible hS  1) rfl (by decide) (Nat.le_of_ble_eq_true rfl) (fun r72 Gc72 q72 => ?_) (fun E9 G9 h9 => ⟨(Or.inr (Or.inr h9.1.1)), h9.2⟩)
            obtain ⟨⟨rfl, hq72⟩, eG72⟩ := q72
            have eG72 := eG72.symm
            subst eG72
            refine y_blk 1 tq_X8_force (z := (76, [(4, .int x37), (0, .ref (ad 1)), (1, .int intruder), (2, .int step), (3, .int minute)], [.ref (ad 1)])) rfl ?_
            refine y_get hS tq_X8_force (v := .ref (ad 8)) rfl fg_X8_59_X8 (hX.1 1 _ rfl) rfl ?_
            refine y_blk 2 tq_X8_force (z := (81, [(4, .int x37), (0, .ref (ad 1)), (1, .int intruder), (2, .int step), (3, .int minute)], [.int minute, .int intruder, .ref (ad 8)])) rfl ?_
            refine y_callV hS tq_X8_force rfl (As := [.int intruder, .int minute]) rfl cv_X8_323 (hX.1 8 _ rfl) (m_X3_addStep hS hX intruder minute) rfl (by decide) (Nat.le_of_ble_eq_true rfl) (fun r81 Gc81 q81 => ?_) (fun E9 G9 h9 => h9.elim)
            obtain ⟨rfl, hXc81, hFc81⟩ := q81
            refine y_blk 0 tq_X8_force (z := (84, [(4, .int x37), (0, .ref (ad 1)), (1, .int intruder), (2, .int step), (3, .int minute)], [.int (xat (xstep σ intruder minute) 20 intruder)])) rfl ?_
            exact y_iret tq_X8_force rfl rfl (⟨⟨_, rfl⟩, _, hXc81, (keepX.rfl'.trans hFc81), ((xkn.trans xkn.rfl' xstep.kn)).w⟩)
set_option maxHeartbeats 4000000 in
set_option maxRecDepth 100000 in
theorem m_X8_ofWire {l : Launch} {S0 : State} {A0 : Array Value} {D : va_G} {aC : Nat → ClassId} {ad : Nat → Nat} {G : AH} {σ : XS} (hS : yS l S0 A0 D aC) (hX : atX aC ad G σ) (wire : Int32) (what : Int32) : yM l S0 D yX8_ofWire cX8_ofWire 3 (some .int) 15 2 12 [.ref (ad 1), .int wire, .int what] G (fun r G1 => (∃ v : Int32, r = some (.int v)) ∧ G1 = G) (fun E G1 => ((E = "java/lang/IndexOutOfBoundsException" ∧ ¬ (0 ≤ wire ∧ wire ≤ σ.1 22 - 1)) ∨ (E = "java/lang/IllegalArgumentException" ∧ ¬ (0 ≤ what ∧ what ≤ 4))) ∧ G1 = G) := by
  refine yM.ofK K_X8_ofWire rfl (by decide) (Nat.le_of_ble_eq_true rfl) ?_
  refine y_blk 2 tq_X8_ofWire (z := (2, [(0, .ref (ad 1)), (1, .int wire), (2, .int what)], [.ref (ad 1), .int wire])) rfl ?_
  refine y_get hS tq_X8_ofWire (v := .ref (ad 9)) rfl fg_X8_66_X8 (hX.1 1 _ rfl) rfl ?_
  refine y_blk 0 tq_X8_ofWire (z := (5, [(0, .ref (ad 1)), (1, .int wire), (2, .int what)], [.ref (ad 9), .int wire])) rfl ?_
  refine y_callV hS tq_X8_ofWire rfl (As := []) rfl cv_X8_326 (hX.1 9 _ rfl) (m_X6_count hS hX ) rfl (by decide) (Nat.le_of_ble_eq_true rfl) (fun r5 Gc5 q5 => ?_) (fun E9 G9 h9 => h9.elim)
  obtain ⟨rfl, eG5⟩ := q5
  have eG5 := eG5.symm
  subst eG5
  refine y_blk 0 tq_X8_ofWire (z := (8, [(0, .ref (ad 1)), (1, .int wire), (2, .int what)], [.int (σ.1 22), .int wire])) rfl ?_
  refine y_callS hS tq_X8_ofWire rfl (As := [.int wire, .int (σ.1 22)]) rfl cs_X8_164 (m_X8_needThere hS  wire (σ.1 22)) rfl (by decide) (Nat.le_of_ble_eq_true rfl) (fun r8 Gc8 q8 => ?_) (fun E9 G9 h9 => ⟨(Or.inl h9.1), h9.2⟩)
  obtain ⟨⟨rfl, hq8⟩, eG8⟩ := q8
  have eG8 := eG8.symm
  subst eG8
  refine y_blk 3 tq_X8_ofWire (z := (14, [(0, .ref (ad 1)), (1, .int wire), (2, .int what)], [.int 4, .int 0, .int what])) rfl ?_
  refine y_callS hS tq_X8_ofWire rfl (As := [.int what, .int 0, .int 4]) rfl cs_X8_76 (m_X8_isIn hS  what 0 4) rfl (by decide) (Nat.le_of_ble_eq_true rfl) (fun r14 Gc14 q14 => ?_) (fun E9 G9 h9 => h9.elim)
  obtain ⟨rfl, eG14⟩ := q14
  have eG14 := eG14.symm
  subst eG14
  refine y_blk 0 tq_X8_ofWire (z := (17, [(0, .ref (ad 1)), (1, .int wire), (2, .int what)], [.int (if 0 ≤ what ∧ what ≤ 4 then 1 else 0)])) rfl ?_
  refine y_callS hS tq_X8_ofWire rfl (As := [.int (if 0 ≤ what ∧ what ≤ 4 then 1 else 0)]) rfl cs_X8_117 (m_X8_needLet hS  (if 0 ≤ what ∧ what ≤ 4 then 1 else 0)) rfl (by decide) (Nat.le_of_ble_eq_true rfl) (fun r17 Gc17 q17 => ?_) (fun E9 G9 h9 => ⟨(Or.inr (And.intro h9.1.1 (by first | exact absurd h9.1.2 (by decide) | (intro q9; have z9 := h9.1.2; clear h9; (simp only [yif0, Classical.not_not, ylt, yle, yl_m1, yl_0, yl_1, yl_2, yl_3, yl_4, yl_5, yl_6, yl_7, yl_8, yl_9, yl_10, yl_11, yl_12, yl_15, yl_16, yl_20, yl_60, yl_64, yl_90, yl_97, yl_99, yl_100, yl_120, yl_239, yl_240] at *; omega))))), h9.2⟩)
  obtain ⟨⟨rfl, hq17⟩, eG17⟩ := q17
  have eG17 := eG17.symm
  subst eG17
  refine y_blk 1 tq_X8_ofWire (z := (21, [(0, .ref (ad 1)), (1, .int wire), (2, .int what)], [.int what])) rfl ?_
  by_cases s21_0 : what = 0
  · refine y_swIn tq_X8_ofWire 52 rfl (by rw [s21_0]; decide) (by rw [s21_0]; decide) (by rw [s21_0]; rfl) rfl ?_
    refine y_blk 1 tq_X8_ofWire (z := (53, [(0, .ref (ad 1)), (1, .int wire), (2, .int what)], [.ref (ad 1)])) rfl ?_
    refine y_get hS tq_X8_ofWire (v := .ref (ad 9)) rfl fg_X8_66_X8 (hX.1 1 _ rfl) rfl ?_
    refine y_blk 1 tq_X8_ofWire (z := (57, [(0, .ref (ad 1)), (1, .int wire), (2, .int what)], [.int wire, .ref (ad 9)])) rfl ?_
    refine y_callV hS tq_X8_ofWire rfl (As := [.int wire]) rfl cv_X8_327 (hX.1 9 _ rfl) (m_X6_cellOf hS hX wire) rfl (by decide) (Nat.le_of_ble_eq_true rfl) (fun r57 Gc57 q57 => ?_) (fun E9 G9 h9 => h9.elim)
    obtain ⟨rfl, eG57⟩ := q57
    have eG57 := eG57.symm
    subst eG57
    refine y_blk 0 tq_X8_ofWire (z := (60, [(0, .ref (ad 1)), (1, .int wire), (2, .int what)], [.int (xat σ 22 wire)])) rfl ?_
    exact y_iret tq_X8_ofWire rfl rfl (⟨⟨_, rfl⟩, rfl⟩)
  by_cases s21_1 : what = 1
  · refine y_swIn tq_X8_ofWire 61 rfl (by rw [s21_1]; decide) (by rw [s21_1]; decide) (by rw [s21_1]; rfl) rfl ?_
    refine y_blk 1 tq_X8_ofWire (z := (62, [(0, .ref (ad 1)), (1, .int wire), (2, .int what)], [.ref (ad 1)])) rfl ?_
    refine y_get hS tq_X8_ofWire (v := .ref (ad 9)) rfl fg_X8_66_X8 (hX.1 1 _ rfl) rfl ?_
    refine y_blk 1 tq_X8_ofWire (z := (66, [(0, .ref (ad 1)), (1, .int wire), (2, .int what)], [.int wire, .ref (ad 9)])) rfl ?_
    refine y_callV hS tq_X8_ofWire rfl (As := [.int wire]) rfl cv_X8_330 (hX.1 9 _ rfl) (m_X6_barOf hS hX wire) rfl (by decide) (Nat.le_of_ble_eq_true rfl) (fun r66 Gc66 q66 => ?_) (fun E9 G9 h9 => h9.elim)
    obtain ⟨rfl, eG66⟩ := q66
    have eG66 := eG66.symm
    subst eG66
    refine y_blk 0 tq_X8_ofWire (z := (69, [(0, .ref (ad 1)), (1, .int wire), (2, .int what)], [.int (xat σ 23 wire)])) rfl ?_
    exact y_iret tq_X8_ofWire rfl rfl (⟨⟨_, rfl⟩, rfl⟩)
  by_cases s21_2 : what = 2
  · refine y_swIn tq_X8_ofWire 70 rfl (by rw [s21_2]; decide) (by rw [s21_2]; decide) (by rw [s21_2]; rfl) rfl ?_
    refine y_blk 3 tq_X8_ofWire (z := (73, [(0, .ref (ad 1)), (1, .int wire), (2, .int what)], [.int 0, .int wire, .ref (ad 1)])) rfl ?_
    refine y_callV hS tq_X8_ofWire rfl (As := [.int wire, .int 0]) rfl cv_X8_333 (hX.1 1 _ rfl) (m_X8_countRings hS hX wire 0) rfl (by decide) (Nat.le_of_ble_eq_true rfl) (fun r73 Gc73 q73 => ?_) (fun E9 G9 h9 => h9.elim)
    obtain ⟨⟨x73, rfl⟩, eG73⟩ := q73
    have eG73 := eG73.symm
    subst eG73
    refine y_blk 0 tq_X8_ofWire (z := (76, [(0, .ref (ad 1)), (1, .int wire), (2, .int what)], [.int x73])) rfl ?_
    exact y_iret tq_X8_ofWire rfl rfl (⟨⟨_, rfl⟩, rfl⟩)
  by_cases s21_3 : what = 3
  · refine y_swIn tq_X8_ofWire 77 rfl (by rw [s21_3]; decide) (by rw [s21_3]; decide) (by rw [s21_3]; rfl) rfl ?_
    refine y_blk 3 tq_X8_ofWire (z := (80, [(0, .ref (ad 1)), (1, .int wire), (2, .int what)], [.int 1, .int wire, .ref (ad 1)])) rfl ?_
    refine y_callV hS tq_X8_ofWire rfl (As := [.int wire, .int 1]) rfl cv_X8_333 (hX.1 1 _ rfl) (m_X8_countRings hS hX wire 1) rfl (by decide) (Nat.le_of_ble_eq_true rfl) (fun r80 Gc80 q80 => ?_) (fun E9 G9 h9 => h9.elim)
    obtain ⟨⟨x80, rfl⟩, eG80⟩ := q80
    have eG80 := eG80.symm
    subst eG80
    refine y_blk 0 tq_X8_ofWire (z := (83, [(0, .ref (ad 1)), (1, .int wire), (2, .int what)], [.int x80])) rfl ?_
    exact y_iret tq_X8_ofWire rfl rfl (⟨⟨_, rfl⟩, rfl⟩)
  refine y_swOut tq_X8_ofWire 84 rfl (by have z0 : what.toInt ≠ 0 := fun q => s21_0 (Int32.toInt_inj.mp (q.trans (by decide))); have z1 : what.toInt ≠ 1 := fun q => s21_1 (Int32.toInt_inj.mp (q.trans (by decide))); have z2 : what.toInt ≠ 2 := fun q => s21_2 (Int32.toInt_inj.mp (q.trans (by decide))); have z3 : what.toInt ≠ 3 := fun q => s21_3 (Int32.toInt_inj.mp (q.trans (by decide))); omega) rfl ?_
  refine y_blk 2 tq_X8_ofWire (z := (86, [(0, .ref (ad 1)), (1, .int wire), (2, .int what)], [.int wire, .ref (ad 1)])) rfl ?_
  refine y_callV hS tq_X8_ofWire rfl (As := [.int wire]) rfl cv_X8_337 (hX.1 1 _ rfl) (m_X8_firstTrueRing hS hX wire) rfl (by decide) (Nat.le_of_ble_eq_true rfl) (fun r86 Gc86 q86 => ?_) (fun E9 G9 h9 => h9.elim)
  obtain ⟨⟨x86, rfl⟩, eG86⟩ := q86
  have eG86 := eG86.symm
  subst eG86
  refine y_blk 0 tq_X8_ofWire (z := (89, [(0, .ref (ad 1)), (1, .int wire), (2, .int what)], [.int x86])) rfl ?_
  exact y_iret tq_X8_ofWire rfl rfl (⟨⟨_, rfl⟩, rfl⟩)
