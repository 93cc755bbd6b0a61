/-! ===== contracts: the rest of the face ===== -/
theorem yposge {x n : Int32} (h : 0 ≤ x.toInt) (h2 : ¬ n ≤ x) : 0 ≤ (x + 1).toInt := by
  rw [yle] at h2
  have h3 := yrng n
  rw [yadd (by rw [yl_1]; omega) (by rw [yl_1]; omega), yl_1]
  omega
theorem yposgt {x n : Int32} (h : 0 ≤ x.toInt) (h2 : ¬ n < x) (h3 : n.toInt < 2147483647) : 0 ≤ (x + 1).toInt := by
  rw [ylt] at h2
  rw [yadd (by rw [yl_1]; omega) (by rw [yl_1]; omega), yl_1]
  omega
theorem ypos60 {x : Int32} (h : 0 ≤ x.toInt) (h2 : ¬ (240 : Int32) ≤ x) : 0 ≤ (x + 60).toInt := by
  rw [yle, yl_240] at h2
  rw [yadd (by rw [yl_60]; omega) (by rw [yl_60]; omega), yl_60]
  omega
theorem ydec60 {x : Int32} (h2 : ¬ (240 : Int32) ≤ x) : ((240 : Int32).toInt - (x + 60).toInt).toNat < ((240 : Int32).toInt - x.toInt).toNat := by
  rw [yle, yl_240] at h2
  have h3 := yrng x
  rw [yadd (by rw [yl_60]; omega) (by rw [yl_60]; omega), yl_60, yl_240]
  omega
theorem ylem1 {x n : Int32} (h : 0 ≤ x.toInt) (h2 : ¬ n ≤ x) : x ≤ n - 1 := by
  rw [yle] at h2 ⊢
  have h3 := yrng n
  rw [ysub (by rw [yl_1]; omega) (by rw [yl_1]; omega), yl_1]
  omega
set_option maxHeartbeats 4000000 in
set_option maxRecDepth 100000 in
theorem m_X8_sneak {l : Launch} {S0 : State} {A0 : Array Value} {D : va_G} {aC : Nat → ClassId} {ad : Nat → Nat} {G : AH} {σ : XS} (hS : yS l S0 A0 D aC) (hX : atX aC ad G σ) (from_ : Int32) (to : Int32) (minute : Int32) (most : Int32) : yM l S0 D yX8_sneak cX8_sneak 8 (some .int) 15 3 18 [.ref (ad 1), .int from_, .int to, .int minute, .int most] G (fun r G1 => (∃ v : Int32, r = some (.int v)) ∧ G1 = G) (fun E G1 => (E = "java/lang/IndexOutOfBoundsException" ∨ E = "java/lang/IllegalArgumentException") ∧ G1 = G) := by
  refine yM.ofK K_X8_sneak rfl (by decide) (Nat.le_of_ble_eq_true rfl) ?_
  have J118 : ∀ (v118_5 : Int64) (v118_7 : Int32) (w118_0 : Int32), Y l S0 D K_X8_sneak 15 3 18 (fun r G1 => (∃ v : Int32, r = some (.int v)) ∧ G1 = G) (fun E G1 => (E = "java/lang/IndexOutOfBoundsException" ∨ E = "java/lang/IllegalArgumentException") ∧ G1 = G) 118 [(0, .ref (ad 1)), (1, .int from_), (2, .int to), (3, .int minute), (4, .int most), (5, .long v118_5), (7, .int v118_7)] [.int w118_0] G 0 0 := by
    intro v118_5 v118_7 w118_0
    exact y_iret tq_X8_sneak rfl rfl (⟨⟨_, rfl⟩, rfl⟩)
  have J103 : ∀ (v103_5 : Int64) (v103_7 : Int32), Y l S0 D K_X8_sneak 15 3 18 (fun r G1 => (∃ v : Int32, r = some (.int v)) ∧ G1 = G) (fun E G1 => (E = "java/lang/IndexOutOfBoundsException" ∨ E = "java/lang/IllegalArgumentException") ∧ G1 = G) 103 [(0, .ref (ad 1)), (1, .int from_), (2, .int to), (3, .int minute), (4, .int most), (5, .long v103_5), (7, .int v103_7)] [] G 0 0 := by
    intro v103_5 v103_7
    refine y_blk 2 tq_X8_sneak (z := (106, [(0, .ref (ad 1)), (1, .int from_), (2, .int to), (3, .int minute), (4, .int most), (5, .long v103_5), (7, .int v103_7)], [.int to, .long v103_5])) rfl ?_
    refine y_callS hS tq_X8_sneak rfl (As := [.long v103_5, .int to]) rfl cs_X8_124 (m_X8_isOf hS  v103_5 to) rfl (by decide) (Nat.le_of_ble_eq_true rfl) (fun r106 Gc106 q106 => ?_) (fun E9 G9 h9 => h9.elim)
    obtain ⟨rfl, eG106⟩ := q106
    have eG106 := eG106.symm
    subst eG106
    refine y_blk 0 tq_X8_sneak (z := (109, [(0, .ref (ad 1)), (1, .int from_), (2, .int to), (3, .int minute), (4, .int most), (5, .long v103_5), (7, .int v103_7)], [.int (if xis v103_5 to then 1 else 0)])) rfl ?_
    refine y_if_eq tq_X8_sneak 117 rfl rfl (fun c109 => ?_) (fun c109 => ?_)
    · skip
      refine y_blk 1 tq_X8_sneak (z := (118, [(0, .ref (ad 1)), (1, .int from_), (2, .int to), (3, .int minute), (4, .int most), (5, .long v103_5), (7, .int v103_7)], [.int (-1)])) rfl ?_
      exact J118 v103_5 v103_7 (-1)
    · skip
      refine y_blk 2 tq_X8_sneak (z := (118, [(0, .ref (ad 1)), (1, .int from_), (2, .int to), (3, .int minute), (4, .int most), (5, .long v103_5), (7, .int v103_7)], [.int v103_7])) rfl ?_
      exact J118 v103_5 v103_7 v103_7
  have J51 : ∀ (n51 : Nat) (v51_5 : Int64) (v51_7 : Int32), ((most : Int32).toInt - v51_7.toInt).toNat = n51 → Y l S0 D K_X8_sneak 15 3 18 (fun r G1 => (∃ v : Int32, r = some (.int v)) ∧ G1 = G) (fun E G1 => (E = "java/lang/IndexOutOfBoundsException" ∨ E = "java/lang/IllegalArgumentException") ∧ G1 = G) 51 [(0, .ref (ad 1)), (1, .int from_), (2, .int to), (3, .int minute), (4, .int most), (5, .long v51_5), (7, .int v51_7)] [] G 0 0 := by
    intro n51
    induction n51 using Nat.strongRecOn with
    | _ n51 ih51 =>
    intro v51_5 v51_7 hn51
    subst hn51
    refine y_blk 2 tq_X8_sneak (z := (54, [(0, .ref (ad 1)), (1, .int from_), (2, .int to), (3, .int minute), (4, .int most), (5, .long v51_5), (7, .int v51_7)], [.int to, .long v51_5])) rfl ?_
    refine y_callS hS tq_X8_sneak rfl (As := [.long v51_5, .int to]) rfl cs_X8_124 (m_X8_isOf hS  v51_5 to) rfl (by decide) (Nat.le_of_ble_eq_true rfl) (fun r54 Gc54 q54 => ?_) (fun E9 G9 h9 => h9.elim)
    obtain ⟨rfl, eG54⟩ := q54
    have eG54 := eG54.symm
    subst eG54
    refine y_blk 0 tq_X8_sneak (z := (57, [(0, .ref (ad 1)), (1, .int from_), (2, .int to), (3, .int minute), (4, .int most), (5, .long v51_5), (7, .int v51_7)], [.int (if xis v51_5 to then 1 else 0)])) rfl ?_
    refine y_if_ne tq_X8_sneak 103 rfl rfl (fun c57 => ?_) (fun c57 => ?_)
    · skip
      refine y_blk 0 tq_X8_sneak (z := (103, [(0, .ref (ad 1)), (1, .int from_), (2, .int to), (3, .int minute), (4, .int most), (5, .long v51_5), (7, .int v51_7)], [])) rfl ?_
      exact J103 v51_5 v51_7
    · skip
      refine y_blk 2 tq_X8_sneak (z := (64, [(0, .ref (ad 1)), (1, .int from_), (2, .int to), (3, .int minute), (4, .int most), (5, .long v51_5), (7, .int v51_7)], [.int most, .int v51_7])) rfl ?_
      refine y_icmp_ge tq_X8_sneak 103 rfl rfl (fun c64 => ?_) (fun c64 => ?_)
      · skip
        refine y_blk 0 tq_X8_sneak (z := (103, [(0, .ref (ad 1)), (1, .int from_), (2, .int to), (3, .int minute), (4, .int most), (5, .long v51_5), (7, .int v51_7)], [])) rfl ?_
        exact J103 v51_5 v51_7
      · skip
        refine y_blk 4 tq_X8_sneak (z := (74, [(0, .ref (ad 1)), (1, .int from_), (2, .int to), (3, .int minute), (4, .int most), (5, .long v51_5), (7, .int v51_7)], [.int 239, .int (minute + v51_7)])) rfl ?_
        refine y_icmp_ge tq_X8_sneak 103 rfl rfl (fun c74 => ?_) (fun c74 => ?_)
        · skip
          refine y_blk 0 tq_X8_sneak (z := (103, [(0, .ref (ad 1)), (1, .int from_), (2, .int to), (3, .int minute), (4, .int most), (5, .long v51_5), (7, .int v51_7)], [])) rfl ?_
          exact J103 v51_5 v51_7
        · skip
          refine y_blk 2 tq_X8_sneak (z := (81, [(7, .int (v51_7 + 1)), (0, .ref (ad 1)), (1, .int from_), (2, .int to), (3, .int minute), (4, .int most), (5, .long v51_5)], [.ref (ad 1)])) rfl ?_
          refine y_get hS tq_X8_sneak (v := .ref (ad 2)) rfl fg_X8_10_X8 (hX.1 1 _ rfl) rfl ?_
          refine y_blk 1 tq_X8_sneak (z := (86, [(7, .int (v51_7 + 1)), (0, .ref (ad 1)), (1, .int from_), (2, .int to), (3, .int minute), (4, .int most), (5, .long v51_5)], [.long v51_5, .ref (ad 2)])) rfl ?_
          refine y_callV hS tq_X8_sneak rfl (As := [.long v51_5]) rfl cv_X8_346 (hX.1 2 _ rfl) (m_X1_spread hS hX v51_5) rfl (by decide) (Nat.le_of_ble_eq_true rfl) (fun r86 Gc86 q86 => ?_) (fun E9 G9 h9 => h9.elim)
          obtain ⟨⟨x86, rfl⟩, eG86⟩ := q86
          have eG86 := eG86.symm
          subst eG86
          refine y_blk 4 tq_X8_sneak (z := (94, [(7, .int (v51_7 + 1)), (0, .ref (ad 1)), (1, .int from_), (2, .int to), (3, .int minute), (4, .int most), (5, .long v51_5)], [.int (minute + (v51_7 + 1)), .ref (ad 1), .long x86])) rfl ?_
          refine y_callV hS tq_X8_sneak rfl (As := [.int (minute + (v51_7 + 1))]) rfl cv_X8_343 (hX.1 1 _ rfl) (m_X8_unseenCells hS hX (minute + (v51_7 + 1))) rfl (by decide) (Nat.le_of_ble_eq_true rfl) (fun r94 Gc94 q94 => ?_) (fun E9 G9 h9 => h9.elim)
          obtain ⟨⟨x94, rfl⟩, eG94⟩ := q94
          have eG94 := eG94.symm
          subst eG94
          refine y_blk 3 tq_X8_sneak (z := (51, [(5, .long (x86 &&& x94)), (7, .int (v51_7 + 1)), (0, .ref (ad 1)), (1, .int from_), (2, .int to), (3, .int minute), (4, .int most)], [])) rfl ?_
          refine y_pick (L2 := [(0, .ref (ad 1)), (1, .int from_), (2, .int to), (3, .int minute), (4, .int most), (5, .long (x86 &&& x94)), (7, .int (v51_7 + 1))]) [2, 3, 4, 5, 6, 0, 1] rfl ?_
          exact ih51 _ (by exact ydec c64) (x86 &&& x94) (v51_7 + 1) rfl
  refine y_blk 2 tq_X8_sneak (z := (2, [(0, .ref (ad 1)), (1, .int from_), (2, .int to), (3, .int minute), (4, .int most)], [.int from_, .ref (ad 1)])) rfl ?_
  refine y_callV hS tq_X8_sneak rfl (As := [.int from_]) rfl cv_X8_114 (hX.1 1 _ rfl) (m_X8_needCell hS hX from_) rfl (by decide) (Nat.le_of_ble_eq_true rfl) (fun r2 Gc2 q2 => ?_) (fun E9 G9 h9 => ⟨(Or.inl h9.1.1), h9.2⟩)
  obtain ⟨⟨rfl, hq2⟩, eG2⟩ := q2
  have eG2 := eG2.symm
  subst eG2
  refine y_blk 2 tq_X8_sneak (z := (7, [(0, .ref (ad 1)), (1, .int from_), (2, .int to), (3, .int minute), (4, .int most)], [.int to, .ref (ad 1)])) rfl ?_
  refine y_callV hS tq_X8_sneak rfl (As := [.int to]) rfl cv_X8_114 (hX.1 1 _ rfl) (m_X8_needCell hS hX to) rfl (by decide) (Nat.le_of_ble_eq_true rfl) (fun r7 Gc7 q7 => ?_) (fun E9 G9 h9 => ⟨(Or.inl h9.1.1), h9.2⟩)
  obtain ⟨⟨rfl, hq7⟩, eG7⟩ := q7
  have eG7 := eG7.symm
  subst eG7
  refine y_blk 1 tq_X8_sneak (z := (11, [(0, .ref (ad 1)), (1, .int from_), (2, .int to), (3, .int minute), (4, .int most)], [.int minute])) rfl ?_
  refine y_callS hS tq_X8_sneak rfl (As := [.int minute]) rfl cs_X8_139 (m_X8_isMinute hS  minute) rfl (by decide) (Nat.le_of_ble_eq_true rfl) (fun r11 Gc11 q11 => ?_) (fun E9 G9 h9 => h9.elim)
  obtain ⟨rfl, eG11⟩ := q11
  have eG11 := eG11.symm
  subst eG11
  refine y_blk 0 tq_X8_sneak (z := (14, [(0, .ref (ad 1)), (1, .int from_), (2, .int to), (3, .int minute), (4, .int most)], [.int (if 0 ≤ minute ∧ minute ≤ 239 then 1 else 0)])) rfl ?_
  refine y_if_eq tq_X8_sneak 32 rfl rfl (fun c14 => ?_) (fun c14 => ?_)
  · skip
    refine y_blk 1 tq_X8_sneak (z := (33, [(0, .ref (ad 1)), (1, .int from_), (2, .int to), (3, .int minute), (4, .int most)], [.int 0])) rfl ?_
    refine y_callS hS tq_X8_sneak rfl (As := [.int 0]) rfl cs_X8_117 (m_X8_needLet hS  0) rfl (by decide) (Nat.le_of_ble_eq_true rfl) (fun r33 Gc33 q33 => ?_) (fun E9 G9 h9 => ⟨(Or.inr h9.1.1), h9.2⟩)
    obtain ⟨⟨rfl, hq33⟩, eG33⟩ := q33
    have eG33 := eG33.symm
    subst eG33
    refine y_blk 1 tq_X8_sneak (z := (37, [(0, .ref (ad 1)), (1, .int from_), (2, .int to), (3, .int minute), (4, .int most)], [.int from_])) rfl ?_
    refine y_callS hS tq_X8_sneak rfl (As := [.int from_]) rfl cs_X8_340 (m_X8_setOf hS  from_) rfl (by decide) (Nat.le_of_ble_eq_true rfl) (fun r37 Gc37 q37 => ?_) (fun E9 G9 h9 => h9.elim)
    obtain ⟨rfl, eG37⟩ := q37
    have eG37 := eG37.symm
    subst eG37
    refine y_blk 2 tq_X8_sneak (z := (42, [(0, .ref (ad 1)), (1, .int from_), (2, .int to), (3, .int minute), (4, .int most)], [.int minute, .ref (ad 1), .long (xset from_)])) rfl ?_
    refine y_callV hS tq_X8_sneak rfl (As := [.int minute]) rfl cv_X8_343 (hX.1 1 _ rfl) (m_X8_unseenCells hS hX minute) rfl (by decide) (Nat.le_of_ble_eq_true rfl) (fun r42 Gc42 q42 => ?_) (fun E9 G9 h9 => h9.elim)
    obtain ⟨⟨x42, rfl⟩, eG42⟩ := q42
    have eG42 := eG42.symm
    subst eG42
    refine y_blk 4 tq_X8_sneak (z := (51, [(7, .int 0), (5, .long ((xset from_) &&& x42)), (0, .ref (ad 1)), (1, .int from_), (2, .int to), (3, .int minute), (4, .int most)], [])) rfl ?_
    refine y_pick (L2 := [(0, .ref (ad 1)), (1, .int from_), (2, .int to), (3, .int minute), (4, .int most), (5, .long ((xset from_) &&& x42)), (7, .int 0)]) [2, 3, 4, 5, 6, 1, 0] rfl ?_
    exact J51 _ ((xset from_) &&& x42) 0 rfl
  · skip
    refine y_blk 3 tq_X8_sneak (z := (22, [(0, .ref (ad 1)), (1, .int from_), (2, .int to), (3, .int minute), (4, .int most)], [.int 60, .int 0, .int most])) rfl ?_
    refine y_callS hS tq_X8_sneak rfl (As := [.int most, .int 0, .int 60]) rfl cs_X8_76 (m_X8_isIn hS  most 0 60) rfl (by decide) (Nat.le_of_ble_eq_true rfl) (fun r22 Gc22 q22 => ?_) (fun E9 G9 h9 => h9.elim)
    obtain ⟨rfl, eG22⟩ := q22
    have eG22 := eG22.symm
    subst eG22
    refine y_blk 0 tq_X8_sneak (z := (25, [(0, .ref (ad 1)), (1, .int from_), (2, .int to), (3, .int minute), (4, .int most)], [.int (if 0 ≤ most ∧ most ≤ 60 then 1 else 0)])) rfl ?_
    refine y_if_eq tq_X8_sneak 32 rfl rfl (fun c25 => ?_) (fun c25 => ?_)
    · skip
      refine y_blk 1 tq_X8_sneak (z := (33, [(0, .ref (ad 1)), (1, .int from_), (2, .int to), (3, .int minute), (4, .int most)], [.int 0])) rfl ?_
      refine y_callS hS tq_X8_sneak rfl (As := [.int 0]) rfl cs_X8_117 (m_X8_needLet hS  0) rfl (by decide) (Nat.le_of_ble_eq_true rfl) (fun r33 Gc33 q33 => ?_) (fun E9 G9 h9 => ⟨(Or.inr h9.1.1), h9.2⟩)
      obtain ⟨⟨rfl, hq33⟩, eG33⟩ := q33
      have eG33 := eG33.symm
      subst eG33
      refine y_blk 1 tq_X8_sneak (z := (37, [(0, .ref (ad 1)), (1, .int from_), (2, .int to), (3, .int minute), (4, .int most)], [.int from_])) rfl ?_
      refine y_callS hS tq_X8_sneak rfl (As := [.int from_]) rfl cs_X8_340 (m_X8_setOf hS  from_) rfl (by decide) (Nat.le_of_ble_eq_true rfl) (fun r37 Gc37 q37 => ?_) (fun E9 G9 h9 => h9.elim)
      obtain ⟨rfl, eG37⟩ := q37
      have eG37 := eG37.symm
      subst eG37
      refine y_blk 2 tq_X8_sneak (z := (42, [(0, .ref (ad 1)), (1, .int from_), (2, .int to), (3, .int minute), (4, .int most)], [.int minute, .ref (ad 1), .long (xset from_)])) rfl ?_
      refine y_callV hS tq_X8_sneak rfl (As := [.int minute]) rfl cv_X8_343 (hX.1 1 _ rfl) (m_X8_unseenCells hS hX minute) rfl (by decide) (Nat.le_of_ble_eq_true rfl) (fun r42 Gc42 q42 => ?_) (fun E9 G9 h9 => h9.elim)
      obtain ⟨⟨x42, rfl⟩, eG42⟩ := q42
      have eG42 := eG42.symm
      subst eG42
      refine y_blk 4 tq_X8_sneak (z := (51, [(7, .int 0), (5, .long ((xset from_) &&& x42)), (0, .ref (ad 1)), (1, .int from_), (2, .int to), (3, .int minute), (4, .int most)], [])) rfl ?_
      refine y_pick (L2 := [(0, .ref (ad 1)), (1, .int from_), (2, .int to), (3, .int minute), (4, .int most), (5, .long ((xset from_) &&& x42)), (7, .int 0)]) [2, 3, 4, 5, 6, 1, 0] rfl ?_
      exact J51 _ ((xset from_) &&& x42) 0 rfl
    · skip
      refine y_blk 2 tq_X8_sneak (z := (33, [(0, .ref (ad 1)), (1, .int from_), (2, .int to), (3, .int minute), (4, .int most)], [.int 1])) rfl ?_
      refine y_callS hS tq_X8_sneak rfl (As := [.int 1]) rfl cs_X8_117 (m_X8_needLet hS  1) rfl (by decide) (Nat.le_of_ble_eq_true rfl) (fun r33 Gc33 q33 => ?_) (fun E9 G9 h9 => ⟨(Or.inr h9.1.1), h9.2⟩)
      obtain ⟨⟨rfl, hq33⟩, eG33⟩ := q33
      have eG33 := eG33.symm
      subst eG33
      refine y_blk 1 tq_X8_sneak (z := (37, [(0, .ref (ad 1)), (1, .int from_), (2, .int to), (3, .int minute), (4, .int most)], [.int from_])) rfl ?_
      refine y_callS hS tq_X8_sneak rfl (As := [.int from_]) rfl cs_X8_340 (m_X8_setOf hS  from_) rfl (by decide) (Nat.le_of_ble_eq_true rfl) (fun r37 Gc37 q37 => ?_) (fun E9 G9 h9 => h9.elim)
      obtain ⟨rfl, eG37⟩ := q37
      have eG37 := eG37.symm
      subst eG37
      refine y_blk 2 tq_X8_sneak (z := (42, [(0, .ref (ad 1)), (1, .int from_), (2, .int to), (3, .int minute), (4, .int most)], [.int minute, .ref (ad 1), .long (xset from_)])) rfl ?_
      refine y_callV hS tq_X8_sneak rfl (As := [.int minute]) rfl cv_X8_343 (hX.1 1 _ rfl) (m_X8_unseenCells hS hX minute) rfl (by decide) (Nat.le_of_ble_eq_true rfl) (fun r42 Gc42 q42 => ?_) (fun E9 G9 h9 => h9.elim)
      obtain ⟨⟨x42, rfl⟩, eG42⟩ := q42
      have eG42 := eG42.symm
      subst eG42
      refine y_blk 4 tq_X8_sneak (z := (51, [(7, .int 0), (5, .long ((xset from_) &&& x42)), (0, .ref (ad 1)), (1, .int from_), (2, .int to), (3, .int minute), (4, .int most)], [])) rfl ?_
      refine y_pick (L2 := [(0, .ref (ad 1)), (1, .int from_), (2, .int to), (3, .int minute), (4, .int most), (5, .long ((xset from_) &&& x42)), (7, .int 0)]) [2, 3, 4, 5, 6, 1, 0] rfl ?_
      exact J51 _ ((xset from_) &&& x42) 0 rfl
set_option maxHeartbeats 4000000 in
set_option maxRecDepth 100000 in
theorem m_X8_reach {l : Launch} {S0 : State} {A0 : Array Value} {D : va_G} {aC : Nat → ClassId} {ad : Nat → Nat} {G : AH} {σ : XS} (hS : yS l S0 A0 D aC) (hX : atX aC ad G σ) (from_ : Int32) (minute : Int32) (most : Int32) : yM l S0 D yX8_reach cX8_reach 7 (some .int) 15 2 12 [.ref (ad 1), .int from_, .int minute, .int most] G (fun r G1 => (∃ v : Int32, r = some (.int v)) ∧ G1 = G) (fun E G1 => (E = "java/lang/IndexOutOfBoundsException" ∨ E = "java/lang/IllegalArgumentException") ∧ G1 = G) := by
  refine yM.ofK K_X8_reach rfl (by decide) (Nat.le_of_ble_eq_true rfl) ?_
  have J54 : ∀ (n54 : Nat) (v54_4 : Int64) (v54_6 : Int32) (hmo : most.toInt < 1000), ((most : Int32).toInt + 1 - v54_6.toInt).toNat = n54 → Y l S0 D K_X8_reach 15 2 12 (fun r G1 => (∃ v : Int32, r = some (.int v)) ∧ G1 = G) (fun E G1 => (E = "java/lang/IndexOutOfBoundsException" ∨ E = "java/lang/IllegalArgumentException") ∧ G1 = G) 54 [(0, .ref (ad 1)), (1, .int from_), (2, .int minute), (3, .int most), (4, .long v54_4), (6, .int v54_6)] [] G 0 0 := by
    intro n54
    induction n54 using Nat.strongRecOn with
    | _ n54 ih54 =>
    intro v54_4 v54_6 hmo hn54
    subst hn54
    refine y_blk 2 tq_X8_reach (z := (57, [(0, .ref (ad 1)), (1, .int from_), (2, .int minute), (3, .int most), (4, .long v54_4), (6, .int v54_6)], [.int most, .int v54_6])) rfl ?_
    refine y_icmp_gt tq_X8_reach 86 rfl rfl (fun c57 => ?_) (fun c57 => ?_)
    · skip
      refine y_blk 1 tq_X8_reach (z := (88, [(0, .ref (ad 1)), (1, .int from_), (2, .int minute), (3, .int most), (4, .long v54_4), (6, .int v54_6)], [.long v54_4])) rfl ?_
      refine y_callS hS tq_X8_reach rfl (As := [.long v54_4]) rfl cs_X8_108 (m_J13_bitCount_95d88 hS  v54_4) rfl (by decide) (Nat.le_of_ble_eq_true rfl) (fun r88 Gc88 q88 => ?_) (fun E9 G9 h9 => h9.elim)
      obtain ⟨rfl, eG88⟩ := q88
      have eG88 := eG88.symm
      subst eG88
      refine y_blk 0 tq_X8_reach (z := (91, [(0, .ref (ad 1)), (1, .int from_), (2, .int minute), (3, .int most), (4, .long v54_4), (6, .int v54_6)], [.int (bcL v54_4)])) rfl ?_
      exact y_iret tq_X8_reach rfl rfl (⟨⟨_, rfl⟩, rfl⟩)
    · skip
      refine y_blk 1 tq_X8_reach (z := (61, [(0, .ref (ad 1)), (1, .int from_), (2, .int minute), (3, .int most), (4, .long v54_4), (6, .int v54_6)], [.ref (ad 1)])) rfl ?_
      refine y_get hS tq_X8_reach (v := .ref (ad 2)) rfl fg_X8_10_X8 (hX.1 1 _ rfl) rfl ?_
      refine y_blk 1 tq_X8_reach (z := (66, [(0, .ref (ad 1)), (1, .int from_), (2, .int minute), (3, .int most), (4, .long v54_4), (6, .int v54_6)], [.long v54_4, .ref (ad 2)])) rfl ?_
      refine y_callV hS tq_X8_reach rfl (As := [.long v54_4]) rfl cv_X8_346 (hX.1 2 _ rfl) (m_X1_spread hS hX v54_4) rfl (by decide) (Nat.le_of_ble_eq_true rfl) (fun r66 Gc66 q66 => ?_) (fun E9 G9 h9 => h9.elim)
      obtain ⟨⟨x66, rfl⟩, eG66⟩ := q66
      have eG66 := eG66.symm
      subst eG66
      refine y_blk 4 tq_X8_reach (z := (74, [(0, .ref (ad 1)), (1, .int from_), (2, .int minute), (3, .int most), (4, .long v54_4), (6, .int v54_6)], [.int (minute + v54_6), .ref (ad 1), .long x66])) rfl ?_
      refine y_callV hS tq_X8_reach rfl (As := [.int (minute + v54_6)]) rfl cv_X8_343 (hX.1 1 _ rfl) (m_X8_unseenCells hS hX (minute + v54_6)) rfl (by decide) (Nat.le_of_ble_eq_true rfl) (fun r74 Gc74 q74 => ?_) (fun E9 G9 h9 => h9.elim)
      obtain ⟨⟨x74, rfl⟩, eG74⟩ := q74
      have eG74 := eG74.symm
      subst eG74
      refine y_blk 4 tq_X8_reach (z := (54, [(6, .int (v54_6 + 1)), (4, .long (x66 &&& x74)), (0, .ref (ad 1)), (1, .int from_), (2, .int minute), (3, .int most)], [])) rfl ?_
      refine y_pick (L2 := [(0, .ref (ad 1)), (1, .int from_), (2, .int minute), (3, .int most), (4, .long (x66 &&& x74)), (6, .int (v54_6 + 1))]) [2, 3, 4, 5, 1, 0] rfl ?_
      exact ih54 _ (by exact ydec2 c57 (by omega)) (x66 &&& x74) (v54_6 + 1) (by first | assumption | exact absurd rfl hq36 | (simp only [yif0, Classical.not_not, ylt, yle, yl_m1, yl_0, yl_1, yl_2, yl_3, yl_4, yl_5, yl_6, yl_7, yl_8, yl_9, yl_10, yl_11, yl_12, yl_15, yl_16, yl_20, yl_60, yl_64, yl_90, yl_97, yl_99, yl_100, yl_120, yl_239, yl_240] at *; omega)) rfl
  refine y_blk 2 tq_X8_reach (z := (2, [(0, .ref (ad 1)), (1, .int from_), (2, .int minute), (3, .int most)], [.int from_, .ref (ad 1)])) rfl ?_
  refine y_callV hS tq_X8_reach rfl (As := [.int from_]) rfl cv_X8_114 (hX.1 1 _ rfl) (m_X8_needCell hS hX from_) rfl (by decide) (Nat.le_of_ble_eq_true rfl) (fun r2 Gc2 q2 => ?_) (fun E9 G9 h9 => ⟨(Or.inl h9.1.1), h9.2⟩)
  obtain ⟨⟨rfl, hq2⟩, eG2⟩ := q2
  have eG2 := eG2.symm
  subst eG2
  refine y_blk 1 tq_X8_reach (z := (6, [(0, .ref (ad 1)), (1, .int from_), (2, .int minute), (3, .int most)], [.int minute])) rfl ?_
  refine y_callS hS tq_X8_reach rfl (As := [.int minute]) rfl cs_X8_139 (m_X8_isMinute hS  minute) rfl (by decide) (Nat.le_of_ble_eq_true rfl) (fun r6 Gc6 q6 => ?_) (fun E9 G9 h9 => h9.elim)
  obtain ⟨rfl, eG6⟩ := q6
  have eG6 := eG6.symm
  subst eG6
  refine y_blk 0 tq_X8_reach (z := (9, [(0, .ref (ad 1)), (1, .int from_), (2, .int minute), (3, .int most)], [.int (if 0 ≤ minute ∧ minute ≤ 239 then 1 else 0)])) rfl ?_
  refine y_if_eq tq_X8_reach 35 rfl rfl (fun c9 => ?_) (fun c9 => ?_)
  · skip
    refine y_blk 1 tq_X8_reach (z := (36, [(0, .ref (ad 1)), (1, .int from_), (2, .int minute), (3, .int most)], [.int 0])) rfl ?_
    refine y_callS hS tq_X8_reach rfl (As := [.int 0]) rfl cs_X8_117 (m_X8_needLet hS  0) rfl (by decide) (Nat.le_of_ble_eq_true rfl) (fun r36 Gc36 q36 => ?_) (fun E9 G9 h9 => ⟨(Or.inr h9.1.1), h9.2⟩)
    obtain ⟨⟨rfl, hq36⟩, eG36⟩ := q36
    have eG36 := eG36.symm
    subst eG36
    refine y_blk 1 tq_X8_reach (z := (40, [(0, .ref (ad 1)), (1, .int from_), (2, .int minute), (3, .int most)], [.int from_])) rfl ?_
    refine y_callS hS tq_X8_reach rfl (As := [.int from_]) rfl cs_X8_340 (m_X8_setOf hS  from_) rfl (by decide) (Nat.le_of_ble_eq_true rfl) (fun r40 Gc40 q40 => ?_) (fun E9 G9 h9 => h9.elim)
    obtain ⟨rfl, eG40⟩ := q40
    have eG40 := eG40.symm
    subst eG40
    refine y_blk 2 tq_X8_reach (z := (45, [(0, .ref (ad 1)), (1, .int from_), (2, .int minute), (3, .int most)], [.int minute, .ref (ad 1), .long (xset from_)])) rfl ?_
    refine y_callV hS tq_X8_reach rfl (As := [.int minute]) rfl cv_X8_343 (hX.1 1 _ rfl) (m_X8_unseenCells hS hX minute) rfl (by decide) (Nat.le_of_ble_eq_true rfl) (fun r45 Gc45 q45 => ?_) (fun E9 G9 h9 => h9.elim)
    obtain ⟨⟨x45, rfl⟩, eG45⟩ := q45
    have eG45 := eG45.symm
    subst eG45
    refine y_blk 4 tq_X8_reach (z := (54, [(6, .int 1), (4, .long ((xset from_) &&& x45)), (0, .ref (ad 1)), (1, .int from_), (2, .int minute), (3, .int most)], [])) rfl ?_
    refine y_pick (L2 := [(0, .ref (ad 1)), (1, .int from_), (2, .int minute), (3, .int most), (4, .long ((xset from_) &&& x45)), (6, .int 1)]) [2, 3, 4, 5, 1, 0] rfl ?_
    exact J54 _ ((xset from_) &&& x45) 1 (by first | assumption | exact absurd rfl hq36 | (simp only [yif0, Classical.not_not, ylt, yle, yl_m1, yl_0, yl_1, yl_2, yl_3, yl_4, yl_5, yl_6, yl_7, yl_8, yl_9, yl_10, yl_11, yl_12, yl_15, yl_16, yl_20, yl_60, yl_64, yl_90, yl_97, yl_99, yl_100, yl_120, yl_239, yl_240] at *; omega)) rfl
  · skip
    refine y_blk 3 tq_X8_reach (z := (16, [(0, .ref (ad 1)), (1, .int from_), (2, .int minute), (3, .int most)], [.int 60, .int 0, .int most])) rfl ?_
    refine y_callS hS tq_X8_reach rfl (As := [.int most, .int 0, .int 60]) rfl cs_X8_76 (m_X8_isIn hS  most 0 60) rfl (by decide) (Nat.le_of_ble_eq_true rfl) (fun r16 Gc16 q16 => ?_) (fun E9 G9 h9 => h9.elim)
    obtain ⟨rfl, eG16⟩ := q16
    have eG16 := eG16.symm
    subst eG16
    refine y_blk 0 tq_X8_reach (z := (19, [(0, .ref (ad 1)), (1, .int from_), (2, .int minute), (3, .int most)], [.int (if 0 ≤ most ∧ most ≤ 60 then 1 else 0)])) rfl ?_
    refine y_if_eq tq_X8_reach 35 rfl rfl (fun c19 => ?_) (fun c19 => ?_)
    · skip
      refine y_blk 1 tq_X8_reach (z := (36, [(0, .ref (ad 1)), (1, .int from_), (2, .int minute), (3, .int most)], [.int 0])) rfl ?_
      refine y_callS hS tq_X8_reach rfl (As := [.int 0]) rfl cs_X8_117 (m_X8_needLet hS  0) rfl (by decide) (Nat.le_of_ble_eq_true rfl) (fun r36 Gc36 q36 => ?_) (fun E9 G9 h9 => ⟨(Or.inr h9.1.1), h9.2⟩)
      obtain ⟨⟨rfl, hq36⟩, eG36⟩ := q36
      have eG36 := eG36.symm
      subst eG36
      refine y_blk 1 tq_X8_reach (z := (40, [(0, .ref (ad 1)), (1, .int from_), (2, .int minute), (3, .int most)], [.int from_])) rfl ?_
      refine y_callS hS tq_X8_reach rfl (As := [.int from_]) rfl cs_X8_340 (m_X8_setOf hS  from_) rfl (by decide) (Nat.le_of_ble_eq_true rfl) (fun r40 Gc40 q40 => ?_) (fun E9 G9 h9 => h9.elim)
      obtain ⟨rfl, eG40⟩ := q40
      have eG40 := eG40.symm
      subst eG40
      refine y_blk 2 tq_X8_reach (z := (45, [(0, .ref (ad 1)), (1, .int from_), (2, .int minute), (3, .int most)], [.int minute, .ref (ad 1), .long (xset from_)])) rfl ?_
      refine y_callV hS tq_X8_reach rfl (As := [.int minute]) rfl cv_X8_343 (hX.1 1 _ rfl) (m_X8_unseenCells hS hX minute) rfl (by decide) (Nat.le_of_ble_eq_true rfl) (fun r45 Gc45 q45 => ?_) (fun E9 G9 h9 => h9.elim)
      obtain ⟨⟨x45, rfl⟩, eG45⟩ := q45
      have eG45 := eG45.symm
      subst eG45
      refine y_blk 4 tq_X8_reach (z := (54, [(6, .int 1), (4, .long ((xset from_) &&& x45)), (0, .ref (ad 1)), (1, .int from_), (2, .int minute), (3, .int most)], [])) rfl ?_
      refine y_pick (L2 := [(0, .ref (ad 1)), (1, .int from_), (2, .int minute), (3, .int most), (4, .long ((xset from_) &&& x45)), (6, .int 1)]) [2, 3, 4, 5, 1, 0] rfl ?_
      exact J54 _ ((xset from_) &&& x45) 1 (by first | assumption | exact absurd rfl hq36 | (simp only [yif0, Classical.not_not, ylt, yle, yl_m1, yl_0, yl_1, yl_2, yl_3, yl_4, yl_5, yl_6, yl_7, yl_8, yl_9, yl_10, yl_11, yl_12, yl_15, yl_16, yl_20, yl_60, yl_64, yl_90, yl_97, yl_99, yl_100, yl_120, yl_239, yl_240] at *; omega)) rfl
    · skip
      refine y_blk 4 tq_X8_reach (z := (28, [(0, .ref (ad 1)), (1, .int from_), (2, .int minute), (3, .int most)], [.int 240, .int (minute + most)])) rfl ?_
      refine y_icmp_ge tq_X8_reach 35 rfl rfl (fun c28 => ?_) (fun c28 => ?_)
      · skip
        refine y_blk 1 tq_X8_reach (z := (36, [(0, .ref (ad 1)), (1, .int from_), (2, .int minute), (3, .int most)], [.int 0])) rfl ?_
        refine y_callS hS tq_X8_reach rfl (As := [.int 0]) rfl cs_X8_117 (m_X8_needLet hS  0) rfl (by decide) (Nat.le_of_ble_eq_true rfl) (fun r36 Gc36 q36 => ?_) (fun E9 G9 h9 => ⟨(Or.inr h9.1.1), h9.2⟩)
        obtain ⟨⟨rfl, hq36⟩, eG36⟩ := q36
        have eG36 := eG36.symm
        subst eG36
        refine y_blk 1 tq_X8_reach (z := (40, [(0, .ref (ad 1)), (1, .int from_), (2, .int minute), (3, .int most)], [.int from_])) rfl ?_
        refine y_callS hS tq_X8_reach rfl (As := [.int from_]) rfl cs_X8_340 (m_X8_setOf hS  from_) rfl (by decide) (Nat.le_of_ble_eq_true rfl) (fun r40 Gc40 q40 => ?_) (fun E9 G9 h9 => h9.elim)
        obtain ⟨rfl, eG40⟩ := q40
        have eG40 := eG40.symm
        subst eG40
        refine y_blk 2 tq_X8_reach (z := (45, [(0, .ref (ad 1)), (1, .int from_), (2, .int minute), (3, .int most)], [.int minute, .ref (ad 1), .long (xset from_)])) rfl ?_
        refine y_callV hS tq_X8_reach rfl (As := [.int minute]) rfl cv_X8_343 (hX.1 1 _ rfl) (m_X8_unseenCells hS hX minute) rfl (by decide) (Nat.le_of_ble_eq_true rfl) (fun r45 Gc45 q45 => ?_) (fun E9 G9 h9 => h9.elim)
        obtain ⟨⟨x45, rfl⟩, eG45⟩ := q45
        have eG45 := eG45.symm
        subst eG45
        refine y_blk 4 tq_X8_reach (z := (54, [(6, .int 1), (4, .long ((xset from_) &&& x45)), (0, .ref (ad 1)), (1, .int from_), (2, .int minute), (3, .int most)], [])) rfl ?_
        refine y_pick (L2 := [(0, .ref (ad 1)), (1, .int from_), (2, .int minute), (3, .int most), (4, .long ((xset from_) &&& x45)), (6, .int 1)]) [2, 3, 4, 5, 1, 0] rfl ?_
        exact J54 _ ((xset from_) &&& x45) 1 (by first | assumption | exact absurd rfl hq36 | (simp only [yif0, Classical.not_not, ylt, yle, yl_m1, yl_0, yl_1, yl_2, yl_3, yl_4, yl_5, yl_6, yl_7, yl_8, yl_9, yl_10, yl_11, yl_12, yl_15, yl_16, yl_20, yl_60, yl_64, yl_90, yl_97, yl_99, yl_100, yl_120, yl_239, yl_240] at *; omega)) rfl
      · skip
        refine y_blk 2 tq_X8_reach (z := (36, [(0, .ref (ad 1)), (1, .int from_), (2, .int minute), (3, .int most)], [.int 1])) rfl ?_
        refine y_callS hS tq_X8_reach rfl (As := [.int 1]) rfl cs_X8_117 (m_X8_needLet hS  1) rfl (by decide) (Nat.le_of_ble_eq_true rfl) (fun r36 Gc36 q36 => ?_) (fun E9 G9 h9 => ⟨(Or.inr h9.1.1), h9.2⟩)
        obtain ⟨⟨rfl, hq36⟩, eG36⟩ := q36
        have eG36 := eG36.symm
        subst eG36
        refine y_blk 1 tq_X8_reach (z := (40, [(0, .ref (ad 1)), (1, .int from_), (2, .int minute), (3, .int most)], [.int from_])) rfl ?_
        refine y_callS hS tq_X8_reach rfl (As := [.int from_]) rfl cs_X8_340 (m_X8_setOf hS  from_) rfl (by decide) (Nat.le_of_ble_eq_true rfl) (fun r40 Gc40 q40 => ?_) (fun E9 G9 h9 => h9.elim)
        obtain ⟨rfl, eG40⟩ := q40
        have eG40 := eG40.symm
        subst eG40
        refine y_blk 2 tq_X8_reach (z := (45, [(0, .ref (ad 1)), (1, .int from_), (2, .int minute), (3, .int most)], [.int minute, .ref (ad 1), .long (xset from_)])) rfl ?_
        refine y_callV hS tq_X8_reach rfl (As := [.int minute]) rfl cv_X8_343 (hX.1 1 _ rfl) (m_X8_unseenCells hS hX minute) rfl (by decide) (Nat.le_of_ble_eq_true rfl) (fun r45 Gc45 q45 => ?_) (fun E9 G9 h9 => h9.elim)
        obtain ⟨⟨x45, rfl⟩, eG45⟩ := q45
        have eG45 := eG45.symm
        subst eG45
        refine y_blk 4 tq_X8_reach (z := (54, [(6, .int 1), (4, .long ((xset from_) &&& x45)), (0, .ref (ad 1)), (1, .int from_), (2, .int minute), (3, .int most)], [])) rfl ?_
        refine y_pick (L2 := [(0, .ref (ad 1)), (1, .int from_), (2, .int minute), (3, .int most), (4, .long ((xset from_) &&& x45)), (6, .int 1)]) [2, 3, 4, 5, 1, 0] rfl ?_
        exact J54 _ ((xset from_) &&& x45) 1 (by first | assumption | exact absurd rfl hq36 | (simp only [yif0, Classical.not_not, ylt, yle, yl_m1, yl_0, yl_1, yl_2, yl_3, yl_4, yl_5, yl_6, yl_7, yl_8, yl_9, yl_10, yl_11, yl_12, yl_15, yl_16, yl_20, yl_60, yl_64, yl_90, yl_97, yl_99, yl_100, yl_120, yl_239, yl_240] at *; omega)) rfl
set_option maxHeartbeats 4000000 in
set_option maxRecDepth 100000 in
theorem m_X8_nextLamp {l : Launch} {S0 : State} {A0 : Array Value} {D : va_G} {aC : Nat → ClassId} {ad : Nat → Nat} {G : AH} {σ : XS} (hS : yS l S0 A0 D aC) (hX : atX aC ad G σ) (minute : Int32) (reach : Int32) (isCell : Int32) : yM l S0 D yX8_nextLamp cX8_nextLamp 8 (some .int) 14 1 6 [.ref (ad 1), .int minute, .int reach, .int isCell] G (fun r G1 => (∃ v : Int32, r = some (.int v)) ∧ G1 = G) (fun E G1 => (E = "java/lang/IllegalArgumentException") ∧ G1 = G) := by
  refine yM.ofK K_X8_nextLamp rfl (by decide) (Nat.le_of_ble_eq_true rfl) ?_
  have J103 : ∀ (v103_4 : Int32) (v103_5 : Int32) (v103_6 : Int32) (w103_0 : Int32), Y l S0 D K_X8_nextLamp 14 1 6 (fun r G1 => (∃ v : Int32, r = some (.int v)) ∧ G1 = G) (fun E G1 => (E = "java/lang/IllegalArgumentException") ∧ G1 = G) 103 [(0, .ref (ad 1)), (1, .int minute), (2, .int reach), (3, .int isCell), (4, .int v103_4), (5, .int v103_5), (6, .int v103_6)] [.int w103_0] G 0 0 := by
    intro v103_4 v103_5 v103_6 w103_0
    exact y_iret tq_X8_nextLamp rfl rfl (⟨⟨_, rfl⟩, rfl⟩)
  have J33 : ∀ (n33 : Nat) (v33_4 : Int32) (v33_5 : Int32) (v33_6 : Int32), (((σ.2.2.1 0) * (σ.2.2.1 1) : Int32).toInt - v33_6.toInt).toNat = n33 → Y l S0 D K_X8_nextLamp 14 1 6 (fun r G1 => (∃ v : Int32, r = some (.int v)) ∧ G1 = G) (fun E G1 => (E = "java/lang/IllegalArgumentException") ∧ G1 = G) 33 [(0, .ref (ad 1)), (1, .int minute), (2, .int reach), (3, .int isCell), (4, .int v33_4), (5, .int v33_5), (6, .int v33_6)] [] G 0 0 := by
    intro n33
    induction n33 using Nat.strongRecOn with
    | _ n33 ih33 =>
    intro v33_4 v33_5 v33_6 hn33
    subst hn33
    have J86 : ∀ (v86_4 : Int32) (v86_5 : Int32) (v86_7 : Int32) (c42 : ¬ ((σ.2.2.1 0) * (σ.2.2.1 1) : Int32) ≤ v33_6), Y l S0 D K_X8_nextLamp 14 1 6 (fun r G1 => (∃ v : Int32, r = some (.int v)) ∧ G1 = G) (fun E G1 => (E = "java/lang/IllegalArgumentException") ∧ G1 = G) 86 [(0, .ref (ad 1)), (1, .int minute), (2, .int reach), (3, .int isCell), (4, .int v86_4), (5, .int v86_5), (6, .int v33_6), (7, .int v86_7)] [] G 0 0 := by
      intro v86_4 v86_5 v86_7 c42
      refine y_blk 2 tq_X8_nextLamp (z := (33, [(6, .int (v33_6 + 1)), (0, .ref (ad 1)), (1, .int minute), (2, .int reach), (3, .int isCell), (4, .int v86_4), (5, .int v86_5), (7, .int v86_7)], [])) rfl ?_
      refine y_pick (L2 := [(0, .ref (ad 1)), (1, .int minute), (2, .int reach), (3, .int isCell), (4, .int v86_4), (5, .int v86_5), (6, .int (v33_6 + 1))]) [1, 2, 3, 4, 5, 6, 0] rfl ?_
      exact ih33 _ (by exact ydec c42) v86_4 v86_5 (v33_6 + 1) rfl
    have J69 : ∀ (w69_0 : Int32) (c42 : ¬ ((σ.2.2.1 0) * (σ.2.2.1 1) : Int32) ≤ v33_6), Y l S0 D K_X8_nextLamp 14 1 6 (fun r G1 => (∃ v : Int32, r = some (.int v)) ∧ G1 = G) (fun E G1 => (E = "java/lang/IllegalArgumentException") ∧ G1 = G) 69 [(0, .ref (ad 1)), (1, .int minute), (2, .int reach), (3, .int isCell), (4, .int v33_4), (5, .int v33_5), (6, .int v33_6)] [.int w69_0] G 0 0 := by
      intro w69_0 c42
      refine y_blk 3 tq_X8_nextLamp (z := (75, [(7, .int w69_0), (0, .ref (ad 1)), (1, .int minute), (2, .int reach), (3, .int isCell), (4, .int v33_4), (5, .int v33_5), (6, .int v33_6)], [.int v33_5, .int w69_0])) rfl ?_
      refine y_icmp_le tq_X8_nextLamp 86 rfl rfl (fun c75 => ?_) (fun c75 => ?_)
      · skip
        refine y_blk 0 tq_X8_nextLamp (z := (86, [(7, .int w69_0), (0, .ref (ad 1)), (1, .int minute), (2, .int reach), (3, .int isCell), (4, .int v33_4), (5, .int v33_5), (6, .int v33_6)], [])) rfl ?_
        refine y_pick (L2 := [(0, .ref (ad 1)), (1, .int minute), (2, .int reach), (3, .int isCell), (4, .int v33_4), (5, .int v33_5), (6, .int v33_6), (7, .int w69_0)]) [1, 2, 3, 4, 5, 6, 7, 0] rfl ?_
        exact J86 v33_4 v33_5 w69_0 (by exact c42)
      · skip
        refine y_blk 4 tq_X8_nextLamp (z := (86, [(5, .int w69_0), (4, .int v33_6), (7, .int w69_0), (0, .ref (ad 1)), (1, .int minute), (2, .int reach), (3, .int isCell), (6, .int v33_6)], [])) rfl ?_
        refine y_pick (L2 := [(0, .ref (ad 1)), (1, .int minute), (2, .int reach), (3, .int isCell), (4, .int v33_6), (5, .int w69_0), (6, .int v33_6), (7, .int w69_0)]) [3, 4, 5, 6, 1, 0, 7, 2] rfl ?_
        exact J86 v33_6 w69_0 w69_0 (by exact c42)
    refine y_blk 2 tq_X8_nextLamp (z := (36, [(0, .ref (ad 1)), (1, .int minute), (2, .int reach), (3, .int isCell), (4, .int v33_4), (5, .int v33_5), (6, .int v33_6)], [.ref (ad 1), .int v33_6])) rfl ?_
    refine y_get hS tq_X8_nextLamp (v := .ref (ad 2)) rfl fg_X8_10_X8 (hX.1 1 _ rfl) rfl ?_
    refine y_blk 0 tq_X8_nextLamp (z := (39, [(0, .ref (ad 1)), (1, .int minute), (2, .int reach), (3, .int isCell), (4, .int v33_4), (5, .int v33_5), (6, .int v33_6)], [.ref (ad 2), .int v33_6])) rfl ?_
    refine y_callV hS tq_X8_nextLamp rfl (As := []) rfl cv_X8_350 (hX.1 2 _ rfl) (m_X1_cells hS hX ) rfl (by decide) (Nat.le_of_ble_eq_true rfl) (fun r39 Gc39 q39 => ?_) (fun E9 G9 h9 => h9.elim)
    obtain ⟨rfl, eG39⟩ := q39
    have eG39 := eG39.symm
    subst eG39
    refine y_blk 0 tq_X8_nextLamp (z := (42, [(0, .ref (ad 1)), (1, .int minute), (2, .int reach), (3, .int isCell), (4, .int v33_4), (5, .int v33_5), (6, .int v33_6)], [.int ((σ.2.2.1 0) * (σ.2.2.1 1)), .int v33_6])) rfl ?_
    refine y_icmp_ge tq_X8_nextLamp 92 rfl rfl (fun c42 => ?_) (fun c42 => ?_)
    · skip
      refine y_blk 1 tq_X8_nextLamp (z := (93, [(0, .ref (ad 1)), (1, .int minute), (2, .int reach), (3, .int isCell), (4, .int v33_4), (5, .int v33_5), (6, .int v33_6)], [.int isCell])) rfl ?_
      refine y_if_eq tq_X8_nextLamp 101 rfl rfl (fun c93 => ?_) (fun c93 => ?_)
      · skip
        refine y_blk 1 tq_X8_nextLamp (z := (103, [(0, .ref (ad 1)), (1, .int minute), (2, .int reach), (3, .int isCell), (4, .int v33_4), (5, .int v33_5), (6, .int v33_6)], [.int v33_5])) rfl ?_
        exact J103 v33_4 v33_5 v33_6 v33_5
      · skip
        refine y_blk 2 tq_X8_nextLamp (z := (103, [(0, .ref (ad 1)), (1, .int minute), (2, .int reach), (3, .int isCell), (4, .int v33_4), (5, .int v33_5), (6, .int v33_6)], [.int v33_4])) rfl ?_
        exact J103 v33_4 v33_5 v33_6 v33_4
    · skip
      refine y_blk 1 tq_X8_nextLamp (z := (46, [(0, .ref (ad 1)), (1, .int minute), (2, .int reach), (3, .int isCell), (4, .int v33_4), (5, .int v33_5), (6, .int v33_6)], [.ref (ad 1)])) rfl ?_
      refine y_get hS tq_X8_nextLamp (v := .ref (ad 2)) rfl fg_X8_10_X8 (hX.1 1 _ rfl) rfl ?_
      refine y_blk 1 tq_X8_nextLamp (z := (51, [(0, .ref (ad 1)), (1, .int minute), (2, .int reach), (3, .int isCell), (4, .int v33_4), (5, .int v33_5), (6, .int v33_6)], [.int v33_6, .ref (ad 2)])) rfl ?_
      refine y_callV hS tq_X8_nextLamp rfl (As := [.int v33_6]) rfl cv_X8_154 (hX.1 2 _ rfl) (m_X1_isWall hS hX v33_6) rfl (by decide) (Nat.le_of_ble_eq_true rfl) (fun r51 Gc51 q51 => ?_) (fun E9 G9 h9 => h9.elim)
      obtain ⟨rfl, eG51⟩ := q51
      have eG51 := eG51.symm
      subst eG51
      refine y_blk 0 tq_X8_nextLamp (z := (54, [(0, .ref (ad 1)), (1, .int minute), (2, .int reach), (3, .int isCell), (4, .int v33_4), (5, .int v33_5), (6, .int v33_6)], [.int (if xis (σ.2.2.2.1 2) v33_6 then 1 else 0)])) rfl ?_
      refine y_if_eq tq_X8_nextLamp 61 rfl rfl (fun c54 => ?_) (fun c54 => ?_)
      · skip
        refine y_blk 4 tq_X8_nextLamp (z := (66, [(0, .ref (ad 1)), (1, .int minute), (2, .int reach), (3, .int isCell), (4, .int v33_4), (5, .int v33_5), (6, .int v33_6)], [.int minute, .int reach, .int v33_6, .ref (ad 1)])) rfl ?_
        refine y_callV hS tq_X8_nextLamp rfl (As := [.int v33_6, .int reach, .int minute]) rfl cv_X8_353 (hX.1 1 _ rfl) (m_X8_gainOfLamp hS hX v33_6 reach minute) rfl (by decide) (Nat.le_of_ble_eq_true rfl) (fun r66 Gc66 q66 => ?_) (fun E9 G9 h9 => h9.elim)
        obtain ⟨⟨x66, rfl⟩, eG66⟩ := q66
        have eG66 := eG66.symm
        subst eG66
        refine y_blk 0 tq_X8_nextLamp (z := (69, [(0, .ref (ad 1)), (1, .int minute), (2, .int reach), (3, .int isCell), (4, .int v33_4), (5, .int v33_5), (6, .int v33_6)], [.int x66])) rfl ?_
        exact J69 x66 (by exact c42)
      · skip
        refine y_blk 2 tq_X8_nextLamp (z := (69, [(0, .ref (ad 1)), (1, .int minute), (2, .int reach), (3, .int isCell), (4, .int v33_4), (5, .int v33_5), (6, .int v33_6)], [.int (-1)])) rfl ?_
        exact J69 (-1) (by exact c42)
  refine y_blk 1 tq_X8_nextLamp (z := (1, [(0, .ref (ad 1)), (1, .int minute), (2, .int reach), (3, .int isCell)], [.int minute])) rfl ?_
  refine y_callS hS tq_X8_nextLamp rfl (As := [.int minute]) rfl cs_X8_139 (m_X8_isMinute hS  minute) rfl (by decide) (Nat.le_of_ble_eq_true rfl) (fun r1 Gc1 q1 => ?_) (fun E9 G9 h9 => h9.elim)
  obtain ⟨rfl, eG1⟩ := q1
  have eG1 := eG1.symm
  subst eG1
  refine y_blk 0 tq_X8_nextLamp (z := (4, [(0, .ref (ad 1)), (1, .int minute), (2, .int reach), (3, .int isCell)], [.int (if 0 ≤ minute ∧ minute ≤ 239 then 1 else 0)])) rfl ?_
  refine y_if_eq tq_X8_nextLamp 20 rfl rfl (fun c4 => ?_) (fun c4 => ?_)
  · skip
    refine y_blk 1 tq_X8_nextLamp (z := (21, [(0, .ref (ad 1)), (1, .int minute), (2, .int reach), (3, .int isCell)], [.int 0])) rfl ?_
    refine y_callS hS tq_X8_nextLamp rfl (As := [.int 0]) rfl cs_X8_117 (m_X8_needLet hS  0) rfl (by decide) (Nat.le_of_ble_eq_true rfl) (fun r21 Gc21 q21 => ?_) (fun E9 G9 h9 => ⟨h9.1.1, h9.2⟩)
    obtain ⟨⟨rfl, hq21⟩, eG21⟩ := q21
    have eG21 := eG21.symm
    subst eG21
    refine y_blk 6 tq_X8_nextLamp (z := (33, [(6, .int 0), (5, .int (-1)), (4, .int (-1)), (0, .ref (ad 1)), (1, .int minute), (2, .int reach), (3, .int isCell)], [])) rfl ?_
    refine y_pick (L2 := [(0, .ref (ad 1)), (1, .int minute), (2, .int reach), (3, .int isCell), (4, .int (-1)), (5, .int (-1)), (6, .int 0)]) [3, 4, 5, 6, 2, 1, 0] rfl ?_
    exact J33 _ (-1) (-1) 0 rfl
  · skip
    refine y_blk 3 tq_X8_nextLamp (z := (10, [(0, .ref (ad 1)), (1, .int minute), (2, .int reach), (3, .int isCell)], [.int 4, .int 1, .int reach])) rfl ?_
    refine y_callS hS tq_X8_nextLamp rfl (As := [.int reach, .int 1, .int 4]) rfl cs_X8_76 (m_X8_isIn hS  reach 1 4) rfl (by decide) (Nat.le_of_ble_eq_true rfl) (fun r10 Gc10 q10 => ?_) (fun E9 G9 h9 => h9.elim)
    obtain ⟨rfl, eG10⟩ := q10
    have eG10 := eG10.symm
    subst eG10
    refine y_blk 0 tq_X8_nextLamp (z := (13, [(0, .ref (ad 1)), (1, .int minute), (2, .int reach), (3, .int isCell)], [.int (if 1 ≤ reach ∧ reach ≤ 4 then 1 else 0)])) rfl ?_
    refine y_if_eq tq_X8_nextLamp 20 rfl rfl (fun c13 => ?_) (fun c13 => ?_)
    · skip
      refine y_blk 1 tq_X8_nextLamp (z := (21, [(0, .ref (ad 1)), (1, .int minute), (2, .int reach), (3, .int isCell)], [.int 0])) rfl ?_
      refine y_callS hS tq_X8_nextLamp rfl (As := [.int 0]) rfl cs_X8_117 (m_X8_needLet hS  0) rfl (by decide) (Nat.le_of_ble_eq_true rfl) (fun r21 Gc21 q21 => ?_) (fun E9 G9 h9 => ⟨h9.1.1, h9.2⟩)
      obtain ⟨⟨rfl, hq21⟩, eG21⟩ := q21
      have eG21 := eG21.symm
      subst eG21
      refine y_blk 6 tq_X8_nextLamp (z := (33, [(6, .int 0), (5, .int (-1)), (4, .int (-1)), (0, .ref (ad 1)), (1, .int minute), (2, .int reach), (3, .int isCell)], [])) rfl ?_
      refine y_pick (L2 := [(0, .ref (ad 1)), (1, .int minute), (2, .int reach), (3, .int isCell), (4, .int (-1)), (5, .int (-1)), (6, .int 0)]) [3, 4, 5, 6, 2, 1, 0] rfl ?_
      exact J33 _ (-1) (-1) 0 rfl
    · skip
      refine y_blk 2 tq_X8_nextLamp (z := (21, [(0, .ref (ad 1)), (1, .int minute), (2, .int reach), (3, .int isCell)], [.int 1])) rfl ?_
      refine y_callS hS tq_X8_nextLamp rfl (As := [.int 1]) rfl cs_X8_117 (m_X8_needLet hS  1) rfl (by decide) (Nat.le_of_ble_eq_true rfl) (fun r21 Gc21 q21 => ?_) (fun E9 G9 h9 => ⟨h9.1.1, h9.2⟩)
      obtain ⟨⟨rfl, hq21⟩, eG21⟩ := q21
      have eG21 := eG21.symm
      subst eG21
      refine y_blk 6 tq_X8_nextLamp (z := (33, [(6, .int 0), (5, .int (-1)), (4, .int (-1)), (0, .ref (ad 1)), (1, .int minute), (2, .int reach), (3, .int isCell)], [])) rfl ?_
      refine y_pick (L2 := [(0, .ref (ad 1)), (1, .int minute), (2, .int reach), (3, .int isCell), (4, .int (-1)), (5, .int (-1)), (6, .int 0)]) [3, 4, 5, 6, 2, 1, 0] rfl ?_
      exact J33 _ (-1) (-1) 0 rfl
set_option maxHeartbeats 4000000 in
set_option maxRecDepth 100000 in
theorem m_X8_many {l : Launch} {S0 : State} {A0 : Array Value} {D : va_G} {aC : Nat → ClassId} {ad : Nat → Nat} {G : AH} {σ : XS} (hS : yS l S0 A0 D aC) (hX : atX aC ad G σ) (what : Int32) : yM l S0 D yX8_many cX8_many 2 (some .int) 15 1 6 [.ref (ad 1), .int what] G (fun r G1 => (∃ v : Int32, r = some (.int v)) ∧ G1 = G) (fun E G1 => ((E = "java/lang/IllegalArgumentException" ∧ ¬ (0 ≤ what ∧ what ≤ 12))) ∧ G1 = G) := by
  refine yM.ofK K_X8_many rfl (by decide) (Nat.le_of_ble_eq_true rfl) ?_
  refine y_blk 3 tq_X8_many (z := (4, [(0, .ref (ad 1)), (1, .int what)], [.int 12, .int 0, .int what])) rfl ?_
  refine y_callS hS tq_X8_many rfl (As := [.int what, .int 0, .int 12]) rfl cs_X8_76 (m_X8_isIn hS  what 0 12) rfl (by decide) (Nat.le_of_ble_eq_true rfl) (fun r4 Gc4 q4 => ?_) (fun E9 G9 h9 => h9.elim)
  obtain ⟨rfl, eG4⟩ := q4
  have eG4 := eG4.symm
  subst eG4
  refine y_blk 0 tq_X8_many (z := (7, [(0, .ref (ad 1)), (1, .int what)], [.int (if 0 ≤ what ∧ what ≤ 12 then 1 else 0)])) rfl ?_
  refine y_callS hS tq_X8_many rfl (As := [.int (if 0 ≤ what ∧ what ≤ 12 then 1 else 0)]) rfl cs_X8_117 (m_X8_needLet hS  (if 0 ≤ what ∧ what ≤ 12 then 1 else 0)) rfl (by decide) (Nat.le_of_ble_eq_true rfl) (fun r7 Gc7 q7 => ?_) (fun E9 G9 h9 => ⟨(And.intro h9.1.1 (by first | exact absurd h9.1.2 (by decide) | (intro q9; have z9 := h9.1.2; clear h9; (simp only [yif0, Classical.not_not, ylt, yle, yl_m1, yl_0, yl_1, yl_2, yl_3, yl_4, yl_5, yl_6, yl_7, yl_8, yl_9, yl_10, yl_11, yl_12, yl_15, yl_16, yl_20, yl_60, yl_64, yl_90, yl_97, yl_99, yl_100, yl_120, yl_239, yl_240] at *; omega)))), h9.2⟩)
  obtain ⟨⟨rfl, hq7⟩, eG7⟩ := q7
  have eG7 := eG7.symm
  subst eG7
  refine y_blk 1 tq_X8_many (z := (11, [(0, .ref (ad 1)), (1, .int what)], [.int what])) rfl ?_
  by_cases s11_0 : what = 0
  · refine y_swIn tq_X8_many 72 rfl (by rw [s11_0]; decide) (by rw [s11_0]; decide) (by rw [s11_0]; rfl) rfl ?_
    refine y_blk 1 tq_X8_many (z := (73, [(0, .ref (ad 1)), (1, .int what)], [.ref (ad 1)])) rfl ?_
    refine y_get hS tq_X8_many (v := .ref (ad 2)) rfl fg_X8_10_X8 (hX.1 1 _ rfl) rfl ?_
    refine y_blk 0 tq_X8_many (z := (76, [(0, .ref (ad 1)), (1, .int what)], [.ref (ad 2)])) rfl ?_
    refine y_callV hS tq_X8_many rfl (As := []) rfl cv_X8_350 (hX.1 2 _ rfl) (m_X1_cells hS hX ) rfl (by decide) (Nat.le_of_ble_eq_true rfl) (fun r76 Gc76 q76 => ?_) (fun E9 G9 h9 => h9.elim)
    obtain ⟨rfl, eG76⟩ := q76
    have eG76 := eG76.symm
    subst eG76
    refine y_blk 0 tq_X8_many (z := (79, [(0, .ref (ad 1)), (1, .int what)], [.int ((σ.2.2.1 0) * (σ.2.2.1 1))])) rfl ?_
    exact y_iret tq_X8_many rfl rfl (⟨⟨_, rfl⟩, rfl⟩)
  by_cases s11_1 : what = 1
  · refine y_swIn tq_X8_many 80 rfl (by rw [s11_1]; decide) (by rw [s11_1]; decide) (by rw [s11_1]; rfl) rfl ?_
    refine y_blk 1 tq_X8_many (z := (81, [(0, .ref (ad 1)), (1, .int what)], [.ref (ad 1)])) rfl ?_
    refine y_get hS tq_X8_many (v := .ref (ad 4)) rfl fg_X8_19_X8 (hX.1 1 _ rfl) rfl ?_
    refine y_blk 0 tq_X8_many (z := (84, [(0, .ref (ad 1)), (1, .int what)], [.ref (ad 4)])) rfl ?_
    refine y_callV hS tq_X8_many rfl (As := []) rfl cv_X8_161 (hX.1 4 _ rfl) (m_X4_count hS hX ) rfl (by decide) (Nat.le_of_ble_eq_true rfl) (fun r84 Gc84 q84 => ?_) (fun E9 G9 h9 => h9.elim)
    obtain ⟨rfl, eG84⟩ := q84
    have eG84 := eG84.symm
    subst eG84
    refine y_blk 0 tq_X8_many (z := (87, [(0, .ref (ad 1)), (1, .int what)], [.int (σ.1 0)])) rfl ?_
    exact y_iret tq_X8_many rfl rfl (⟨⟨_, rfl⟩, rfl⟩)
  by_cases s11_2 : what = 2
  · refine y_swIn tq_X8_many 88 rfl (by rw [s11_2]; decide) (by rw [s11_2]; decide) (by rw [s11_2]; rfl) rfl ?_
    refine y_blk 1 tq_X8_many (z := (89, [(0, .ref (ad 1)), (1, .int what)], [.ref (ad 1)])) rfl ?_
    refine y_get hS tq_X8_many (v := .ref (ad 4)) rfl fg_X8_19_X8 (hX.1 1 _ rfl) rfl ?_
    refine y_blk 0 tq_X8_many (z := (92, [(0, .ref (ad 1)), (1, .int what)], [.ref (ad 4)])) rfl ?_
    refine y_callV hS tq_X8_many rfl (As := []) rfl cv_X8_356 (hX.1 4 _ rfl) (m_X4_countLit hS hX ) rfl (by decide) (Nat.le_of_ble_eq_true rfl) (fun r92 Gc92 q92 => ?_) (fun E9 G9 h9 => h9.elim)
    obtain ⟨⟨x92, rfl⟩, eG92⟩ := q92
    have eG92 := eG92.symm
    subst eG92
    refine y_blk 0 tq_X8_many (z := (95, [(0, .ref (ad 1)), (1, .int what)], [.int x92])) rfl ?_
    exact y_iret tq_X8_many rfl rfl (⟨⟨_, rfl⟩, rfl⟩)
  by_cases s11_3 : what = 3
  · refine y_swIn tq_X8_many 96 rfl (by rw [s11_3]; decide) (by rw [s11_3]; decide) (by rw [s11_3]; rfl) rfl ?_
    refine y_blk 1 tq_X8_many (z := (97, [(0, .ref (ad 1)), (1, .int what)], [.ref (ad 1)])) rfl ?_
    refine y_get hS tq_X8_many (v := .ref (ad 6)) rfl fg_X8_33_X8 (hX.1 1 _ rfl) rfl ?_
    refine y_blk 0 tq_X8_many (z := (100, [(0, .ref (ad 1)), (1, .int what)], [.ref (ad 6)])) rfl ?_
    refine y_callV hS tq_X8_many rfl (As := []) rfl cv_X8_182 (hX.1 6 _ rfl) (m_X2_count hS hX ) rfl (by decide) (Nat.le_of_ble_eq_true rfl) (fun r100 Gc100 q100 => ?_) (fun E9 G9 h9 => h9.elim)
    obtain ⟨rfl, eG100⟩ := q100
    have eG100 := eG100.symm
    subst eG100
    refine y_blk 0 tq_X8_many (z := (103, [(0, .ref (ad 1)), (1, .int what)], [.int (σ.1 5)])) rfl ?_
    exact y_iret tq_X8_many rfl rfl (⟨⟨_, rfl⟩, rfl⟩)
  by_cases s11_4 : what = 4
  · refine y_swIn tq_X8_many 104 rfl (by rw [s11_4]; decide) (by rw [s11_4]; decide) (by rw [s11_4]; rfl) rfl ?_
    refine y_blk 1 tq_X8_many (z := (105, [(0, .ref (ad 1)), (1, .int what)], [.ref (ad 1)])) rfl ?_
    refine y_get hS tq_X8_many (v := .ref (ad 120)) rfl fg_X8_42_X8 (hX.1 1 _ rfl) rfl ?_
    refine y_blk 0 tq_X8_many (z := (108, [(0, .ref (ad 1)), (1, .int what)], [.ref (ad 120)])) rfl ?_
    refine y_callV hS tq_X8_many rfl (As := []) rfl cv_X8_193 (hX.num (k := 10) (by decide)) (m_X5_size hS hX (k := 10) (by decide) ) rfl (by decide) (Nat.le_of_ble_eq_true rfl) (fun r108 Gc108 q108 => ?_) (fun E9 G9 h9 => h9.elim)
    obtain ⟨rfl, eG108⟩ := q108
    have eG108 := eG108.symm
    subst eG108
    refine y_blk 0 tq_X8_many (z := (111, [(0, .ref (ad 1)), (1, .int what)], [.int (σ.1 10)])) rfl ?_
    exact y_iret tq_X8_many rfl rfl (⟨⟨_, rfl⟩, rfl⟩)
  by_cases s11_5 : what = 5
  · refine y_swIn tq_X8_many 112 rfl (by rw [s11_5]; decide) (by rw [s11_5]; decide) (by rw [s11_5]; rfl) rfl ?_
    refine y_blk 1 tq_X8_many (z := (113, [(0, .ref (ad 1)), (1, .int what)], [.ref (ad 1)])) rfl ?_
    refine y_get hS tq_X8_many (v := .ref (ad 8)) rfl fg_X8_59_X8 (hX.1 1 _ rfl) rfl ?_
    refine y_blk 0 tq_X8_many (z := (116, [(0, .ref (ad 1)), (1, .int what)], [.ref (ad 8)])) rfl ?_
    refine y_callV hS tq_X8_many rfl (As := []) rfl cv_X8_290 (hX.1 8 _ rfl) (m_X3_count hS hX ) rfl (by decide) (Nat.le_of_ble_eq_true rfl) (fun r116 Gc116 q116 => ?_) (fun E9 G9 h9 => h9.elim)
    obtain ⟨rfl, eG116⟩ := q116
    have eG116 := eG116.symm
    subst eG116
    refine y_blk 0 tq_X8_many (z := (119, [(0, .ref (ad 1)), (1, .int what)], [.int (σ.1 16)])) rfl ?_
    exact y_iret tq_X8_many rfl rfl (⟨⟨_, rfl⟩, rfl⟩)
  by_cases s11_6 : what = 6
  · refine y_swIn tq_X8_many 120 rfl (by rw [s11_6]; decide) (by rw [s11_6]; decide) (by rw [s11_6]; rfl) rfl ?_
    refine y_blk 1 tq_X8_many (z := (121, [(0, .ref (ad 1)), (1, .int what)], [.ref (ad 1)])) rfl ?_
    refine y_callV hS tq_X8_many rfl (As := []) rfl cv_X8_359 (hX.1 1 _ rfl) (m_X8_countFound hS hX ) rfl (by decide) (Nat.le_of_ble_eq_true rfl) (fun r121 Gc121 q121 => ?_) (fun E9 G9 h9 => h9.elim)
    obtain ⟨⟨x121, rfl⟩, eG121⟩ := q121
    have eG121 := eG121.symm
    subst eG121
    refine y_blk 0 tq_X8_many (z := (124, [(0, .ref (ad 1)), (1, .int what)], [.int x121])) rfl ?_
    exact y_iret tq_X8_many rfl rfl (⟨⟨_, rfl⟩, rfl⟩)
  by_cases s11_7 : what = 7
  · refine y_swIn tq_X8_many 125 rfl (by rw [s11_7]; decide) (by rw [s11_7]; decide) (by rw [s11_7]; rfl) rfl ?_
    refine y_blk 1 tq_X8_many (z := (126, [(0, .ref (ad 1)), (1, .int what)], [.ref (ad 1)])) rfl ?_
    refine y_get hS tq_X8_many (v := .ref (ad 9)) rfl fg_X8_66_X8 (hX.1 1 _ rfl) rfl ?_
    refine y_blk 0 tq_X8_many (z := (129, [(0, .ref (ad 1)), (1, .int what)], [.ref (ad 9)])) rfl ?_
    refine y_callV hS tq_X8_many rfl (As := []) rfl cv_X8_326 (hX.1 9 _ rfl) (m_X6_count hS hX ) rfl (by decide) (Nat.le_of_ble_eq_true rfl) (fun r129 Gc129 q129 => ?_) (fun E9 G9 h9 => h9.elim)
    obtain ⟨rfl, eG129⟩ := q129
    have eG129 := eG129.symm
    subst eG129
    refine y_blk 0 tq_X8_many (z := (132, [(0, .ref (ad 1)), (1, .int what)], [.int (σ.1 22)])) rfl ?_
    exact y_iret tq_X8_many rfl rfl (⟨⟨_, rfl⟩, rfl⟩)
  by_cases s11_8 : what = 8
  · refine y_swIn tq_X8_many 133 rfl (by rw [s11_8]; decide) (by rw [s11_8]; decide) (by rw [s11_8]; rfl) rfl ?_
    refine y_blk 2 tq_X8_many (z := (136, [(0, .ref (ad 1)), (1, .int what)], [.ref (ad 1), .int 6])) rfl ?_
    refine y_get hS tq_X8_many (v := .ref (ad 130)) rfl fg_X8_53_X8 (hX.1 1 _ rfl) rfl ?_
    refine y_blk 1 tq_X8_many (z := (140, [(0, .ref (ad 1)), (1, .int what)], [.int (-1), .ref (ad 130), .int 6])) rfl ?_
    refine y_callV hS tq_X8_many rfl (As := [.int (-1)]) rfl cv_X8_362 (hX.num (k := 15) (by decide)) (m_X5_countOf hS hX (k := 15) (by decide) (-1)) rfl (by decide) (Nat.le_of_ble_eq_true rfl) (fun r140 Gc140 q140 => ?_) (fun E9 G9 h9 => h9.elim)
    obtain ⟨⟨x140, rfl⟩, eG140⟩ := q140
    have eG140 := eG140.symm
    subst eG140
    refine y_blk 1 tq_X8_many (z := (144, [(0, .ref (ad 1)), (1, .int what)], [.int (6 - x140)])) rfl ?_
    exact y_iret tq_X8_many rfl rfl (⟨⟨_, rfl⟩, rfl⟩)
  by_cases s11_9 : what = 9
  · refine y_swIn tq_X8_many 145 rfl (by rw [s11_9]; decide) (by rw [s11_9]; decide) (by rw [s11_9]; rfl) rfl ?_
    refine y_blk 1 tq_X8_many (z := (146, [(0, .ref (ad 1)), (1, .int what)], [.ref (ad 1)])) rfl ?_
    refine y_get hS tq_X8_many (v := .ref (ad 7)) rfl fg_X8_49_X8 (hX.1 1 _ rfl) rfl ?_
    refine y_blk 0 tq_X8_many (z := (149, [(0, .ref (ad 1)), (1, .int what)], [.ref (ad 7)])) rfl ?_
    refine y_callV hS tq_X8_many rfl (As := []) rfl cv_X8_365 (hX.1 7 _ rfl) (m_X7_leaks hS hX ) rfl (by decide) (Nat.le_of_ble_eq_true rfl) (fun r149 Gc149 q149 => ?_) (fun E9 G9 h9 => h9.elim)
    obtain ⟨rfl, eG149⟩ := q149
    have eG149 := eG149.symm
    subst eG149
    refine y_blk 0 tq_X8_many (z := (152, [(0, .ref (ad 1)), (1, .int what)], [.int (σ.1 12)])) rfl ?_
    exact y_iret tq_X8_many rfl rfl (⟨⟨_, rfl⟩, rfl⟩)
  by_cases s11_10 : what = 10
  · refine y_swIn tq_X8_many 153 rfl (by rw [s11_10]; decide) (by rw [s11_10]; decide) (by rw [s11_10]; rfl) rfl ?_
    refine y_blk 1 tq_X8_many (z := (154, [(0, .ref (ad 1)), (1, .int what)], [.ref (ad 1)])) rfl ?_
    refine y_get hS tq_X8_many (v := .ref (ad 7)) rfl fg_X8_49_X8 (hX.1 1 _ rfl) rfl ?_
    refine y_blk 0 tq_X8_many (z := (157, [(0, .ref (ad 1)), (1, .int what)], [.ref (ad 7)])) rfl ?_
    refine y_callV hS tq_X8_many rfl (As := []) rfl cv_X8_368 (hX.1 7 _ rfl) (m_X7_rightAnswers hS hX ) rfl (by decide) (Nat.le_of_ble_eq_true rfl) (fun r157 Gc157 q157 => ?_) (fun E9 G9 h9 => h9.elim)
    obtain ⟨rfl, eG157⟩ := q157
    have eG157 := eG157.symm
    subst eG157
    refine y_blk 0 tq_X8_many (z := (160, [(0, .ref (ad 1)), (1, .int what)], [.int (σ.2.2.1 6)])) rfl ?_
    exact y_iret tq_X8_many rfl rfl (⟨⟨_, rfl⟩, rfl⟩)
  by_cases s11_11 : what = 11
  · refine y_swIn tq_X8_many 161 rfl (by rw [s11_11]; decide) (by rw [s11_11]; decide) (by rw [s11_11]; rfl) rfl ?_
    refine y_blk 1 tq_X8_many (z := (162, [(0, .ref (ad 1)), (1, .int what)], [.ref (ad 1)])) rfl ?_
    refine y_callV hS tq_X8_many rfl (As := []) rfl cv_X8_371 (hX.1 1 _ rfl) (m_X8_countMinutesOfEmptyPosts hS hX ) rfl (by decide) (Nat.le_of_ble_eq_true rfl) (fun r162 Gc162 q162 => ?_) (fun E9 G9 h9 => h9.elim)
    obtain ⟨⟨x162, rfl⟩, eG162⟩ := q162
    have eG162 := eG162.symm
    subst eG162
    refine y_blk 0 tq_X8_many (z := (165, [(0, .ref (ad 1)), (1, .int what)], [.int x162])) rfl ?_
    exact y_iret tq_X8_many rfl rfl (⟨⟨_, rfl⟩, rfl⟩)
  refine y_swOut tq_X8_many 166 rfl (by have z0 : what.toInt ≠ 0 := fun q => s11_0 (Int32.toInt_inj.mp (q.trans (by decide))); have z1 : what.toInt ≠ 1 := fun q => s11_1 (Int32.toInt_inj.mp (q.trans (by decide))); have z2 : what.toInt ≠ 2 := fun q => s11_2 (Int32.toInt_inj.mp (q.trans (by decide))); have z3 : what.toInt ≠ 3 := fun q => s11_3 (Int32.toInt_inj.mp (q.trans (by decide))); have z4 : what.toInt ≠ 4 := fun q => s11_4 (Int32.toInt_inj.mp (q.trans (by decide))); have z5 : what.toInt ≠ 5 := fun q => s11_5 (Int32.toInt_inj.mp (q.trans (by decide))); have z6 : what.toInt ≠ 6 := fun q => s11_6 (Int32.toInt_inj.mp (q.trans (by decide))); have z7 : what.toInt ≠ 7 := fun q => s11_7 (Int32.toInt_inj.mp (q.trans (by decide))); have z8 : what.toInt ≠ 8 := fun q => s11_8 (Int32.toInt_inj.mp (q.trans (by decide))); have z9 : what.toInt ≠ 9 := fun q => s11_9 (Int32.toInt_inj.mp (q.trans (by decide))); have z10 : what.toInt ≠ 10 := fun q => s11_10 (Int32.toInt_inj.mp (q.trans (by decide))); have z11 : what.toInt ≠ 11 := fun q => s11_11 (Int32.toInt_inj.mp (q.trans (by decide))); omega) rfl ?_
  refine y_blk 1 tq_X8_many (z := (167, [(0, .ref (ad 1)), (1, .int what)], [.ref (ad 1)])) rfl ?_
  refine y_get hS tq_X8_many (v := .int (σ.2.2.1 7)) rfl fg_X8_374_X8 (hX.1 1 _ rfl) rfl ?_
  refine y_blk 0 tq_X8_many (z := (170, [(0, .ref (ad 1)), (1, .int what)], [.int (σ.2.2.1 7)])) rfl ?_
  exact y_iret tq_X8_many rfl rfl (⟨⟨_, rfl⟩, rfl⟩)
set_option maxHeartbeats 4000000 in
set_option maxRecDepth 100000 in
theorem m_X8_isSound {l : Launch} {S0 : State} {A0 : Array Value} {D : va_G} {aC : Nat → ClassId} {ad : Nat → Nat} {G : AH} {σ : XS} (hS : yS l S0 A0 D aC) (hX : atX aC ad G σ) : yM l S0 D yX8_isSound cX8_isSound 2 (some .boolean) 14 0 0 [.ref (ad 1)] G (fun r G1 => (∃ v : Int32, (v = 0 ∨ v = 1) ∧ r = some (.int v)) ∧ G1 = G) (fun _ _ => False) := by
  refine yM.ofK K_X8_isSound rfl (by decide) (Nat.le_of_ble_eq_true rfl) ?_
  have J88 : ∀ (v88_1 : Int32) (w88_0 : Int32) (hb_w88_0 : w88_0 = 0 ∨ w88_0 = 1), Y l S0 D K_X8_isSound 14 0 0 (fun r G1 => (∃ v : Int32, (v = 0 ∨ v = 1) ∧ r = some (.int v)) ∧ G1 = G) (fun _ _ => False) 88 [(0, .ref (ad 1)), (1, .int v88_1)] [.int w88_0] G 0 0 := by
    intro v88_1 w88_0 hb_w88_0
    exact y_zret tq_X8_isSound rfl rfl (y01 hb_w88_0) (⟨⟨_, hb_w88_0, rfl⟩, rfl⟩)
  have J87 : ∀ (v87_1 : Int32), Y l S0 D K_X8_isSound 14 0 0 (fun r G1 => (∃ v : Int32, (v = 0 ∨ v = 1) ∧ r = some (.int v)) ∧ G1 = G) (fun _ _ => False) 87 [(0, .ref (ad 1)), (1, .int v87_1)] [] G 0 0 := by
    intro v87_1
    refine y_blk 1 tq_X8_isSound (z := (88, [(0, .ref (ad 1)), (1, .int v87_1)], [.int 0])) rfl ?_
    exact J88 v87_1 0 (Or.inl rfl)
  have J25 : ∀ (n25 : Nat) (v25_1 : Int32), ((6 : Int32).toInt - v25_1.toInt).toNat = n25 → Y l S0 D K_X8_isSound 14 0 0 (fun r G1 => (∃ v : Int32, (v = 0 ∨ v = 1) ∧ r = some (.int v)) ∧ G1 = G) (fun _ _ => False) 25 [(0, .ref (ad 1)), (1, .int v25_1)] [] G 0 0 := by
    intro n25
    induction n25 using Nat.strongRecOn with
    | _ n25 ih25 =>
    intro v25_1 hn25
    subst hn25
    refine y_blk 2 tq_X8_isSound (z := (28, [(0, .ref (ad 1)), (1, .int v25_1)], [.int 6, .int v25_1])) rfl ?_
    refine y_icmp_ge tq_X8_isSound 63 rfl rfl (fun c28 => ?_) (fun c28 => ?_)
    · skip
      refine y_blk 1 tq_X8_isSound (z := (64, [(0, .ref (ad 1)), (1, .int v25_1)], [.ref (ad 1)])) rfl ?_
      refine y_get hS tq_X8_isSound (v := .ref (ad 7)) rfl fg_X8_49_X8 (hX.1 1 _ rfl) rfl ?_
      refine y_blk 0 tq_X8_isSound (z := (67, [(0, .ref (ad 1)), (1, .int v25_1)], [.ref (ad 7)])) rfl ?_
      refine y_callV hS tq_X8_isSound rfl (As := []) rfl cv_X8_401 (hX.1 7 _ rfl) (m_X7_areStrikesSound hS hX ) rfl (by decide) (Nat.le_of_ble_eq_true rfl) (fun r67 Gc67 q67 => ?_) (fun E9 G9 h9 => h9.elim)
      obtain ⟨⟨x67, hb_x67, rfl⟩, eG67⟩ := q67
      have eG67 := eG67.symm
      subst eG67
      refine y_blk 0 tq_X8_isSound (z := (70, [(0, .ref (ad 1)), (1, .int v25_1)], [.int x67])) rfl ?_
      refine y_if_eq tq_X8_isSound 87 rfl rfl (fun c70 => ?_) (fun c70 => ?_)
      · skip
        refine y_blk 0 tq_X8_isSound (z := (87, [(0, .ref (ad 1)), (1, .int v25_1)], [])) rfl ?_
        exact J87 v25_1
      · skip
        refine y_blk 1 tq_X8_isSound (z := (74, [(0, .ref (ad 1)), (1, .int v25_1)], [.ref (ad 1)])) rfl ?_
        refine y_get hS tq_X8_isSound (v := .ref (ad 8)) rfl fg_X8_59_X8 (hX.1 1 _ rfl) rfl ?_
        refine y_blk 0 tq_X8_isSound (z := (77, [(0, .ref (ad 1)), (1, .int v25_1)], [.ref (ad 8)])) rfl ?_
        refine y_callV hS tq_X8_isSound rfl (As := []) rfl cv_X8_404 (hX.1 8 _ rfl) (m_X3_areStepsSound hS hX ) rfl (by decide) (Nat.le_of_ble_eq_true rfl) (fun r77 Gc77 q77 => ?_) (fun E9 G9 h9 => h9.elim)
        obtain ⟨⟨x77, hb_x77, rfl⟩, eG77⟩ := q77
        have eG77 := eG77.symm
        subst eG77
        refine y_blk 0 tq_X8_isSound (z := (80, [(0, .ref (ad 1)), (1, .int v25_1)], [.int x77])) rfl ?_
        refine y_if_eq tq_X8_isSound 87 rfl rfl (fun c80 => ?_) (fun c80 => ?_)
        · skip
          refine y_blk 0 tq_X8_isSound (z := (87, [(0, .ref (ad 1)), (1, .int v25_1)], [])) rfl ?_
          exact J87 v25_1
        · skip
          refine y_blk 2 tq_X8_isSound (z := (88, [(0, .ref (ad 1)), (1, .int v25_1)], [.int 1])) rfl ?_
          exact J88 v25_1 1 (Or.inr rfl)
    · skip
      refine y_blk 1 tq_X8_isSound (z := (32, [(0, .ref (ad 1)), (1, .int v25_1)], [.ref (ad 1)])) rfl ?_
      refine y_get hS tq_X8_isSound (v := .ref (ad 130)) rfl fg_X8_53_X8 (hX.1 1 _ rfl) rfl ?_
      refine y_blk 1 tq_X8_isSound (z := (36, [(0, .ref (ad 1)), (1, .int v25_1)], [.int v25_1, .ref (ad 130)])) rfl ?_
      refine y_callV hS tq_X8_isSound rfl (As := [.int v25_1]) rfl cv_X8_239 (hX.num (k := 15) (by decide)) (m_X5_at hS hX (k := 15) (by decide) v25_1) rfl (by decide) (Nat.le_of_ble_eq_true rfl) (fun r36 Gc36 q36 => ?_) (fun E9 G9 h9 => h9.elim)
      obtain ⟨rfl, eG36⟩ := q36
      have eG36 := eG36.symm
      subst eG36
      refine y_blk 2 tq_X8_isSound (z := (41, [(0, .ref (ad 1)), (1, .int v25_1)], [.ref (ad 1), .int (-1), .int (xat σ 15 v25_1)])) rfl ?_
      refine y_get hS tq_X8_isSound (v := .ref (ad 6)) rfl fg_X8_33_X8 (hX.1 1 _ rfl) rfl ?_
      refine y_blk 0 tq_X8_isSound (z := (44, [(0, .ref (ad 1)), (1, .int v25_1)], [.ref (ad 6), .int (-1), .int (xat σ 15 v25_1)])) rfl ?_
      refine y_callV hS tq_X8_isSound rfl (As := []) rfl cv_X8_182 (hX.1 6 _ rfl) (m_X2_count hS hX ) rfl (by decide) (Nat.le_of_ble_eq_true rfl) (fun r44 Gc44 q44 => ?_) (fun E9 G9 h9 => h9.elim)
      obtain ⟨rfl, eG44⟩ := q44
      have eG44 := eG44.symm
      subst eG44
      refine y_blk 2 tq_X8_isSound (z := (49, [(0, .ref (ad 1)), (1, .int v25_1)], [.int ((σ.1 5) - 1), .int (-1), .int (xat σ 15 v25_1)])) rfl ?_
      refine y_callS hS tq_X8_isSound rfl (As := [.int (xat σ 15 v25_1), .int (-1), .int ((σ.1 5) - 1)]) rfl cs_X8_76 (m_X8_isIn hS  (xat σ 15 v25_1) (-1) ((σ.1 5) - 1)) rfl (by decide) (Nat.le_of_ble_eq_true rfl) (fun r49 Gc49 q49 => ?_) (fun E9 G9 h9 => h9.elim)
      obtain ⟨rfl, eG49⟩ := q49
      have eG49 := eG49.symm
      subst eG49
      refine y_blk 0 tq_X8_isSound (z := (52, [(0, .ref (ad 1)), (1, .int v25_1)], [.int (if (-1) ≤ (xat σ 15 v25_1) ∧ (xat σ 15 v25_1) ≤ ((σ.1 5) - 1) then 1 else 0)])) rfl ?_
      refine y_if_ne tq_X8_isSound 57 rfl rfl (fun c52 => ?_) (fun c52 => ?_)
      · skip
        refine y_blk 2 tq_X8_isSound (z := (25, [(1, .int (v25_1 + 1)), (0, .ref (ad 1))], [])) rfl ?_
        refine y_pick (L2 := [(0, .ref (ad 1)), (1, .int (v25_1 + 1))]) [1, 0] rfl ?_
        exact ih25 _ (by exact ydec c28) (v25_1 + 1) rfl
      · skip
        refine y_blk 1 tq_X8_isSound (z := (56, [(0, .ref (ad 1)), (1, .int v25_1)], [.int 0])) rfl ?_
        exact y_zret tq_X8_isSound rfl rfl (rfl) (⟨⟨_, (Or.inl rfl), rfl⟩, rfl⟩)
  refine y_blk 1 tq_X8_isSound (z := (1, [(0, .ref (ad 1))], [.ref (ad 1)])) rfl ?_
  refine y_callV hS tq_X8_isSound rfl (As := []) rfl cv_X8_121 (hX.1 1 _ rfl) (m_X8_takenCells hS hX ) rfl (by decide) (Nat.le_of_ble_eq_true rfl) (fun r1 Gc1 q1 => ?_) (fun E9 G9 h9 => h9.elim)
  obtain ⟨⟨x1, hr_x1, rfl⟩, eG1⟩ := q1
  have eG1 := eG1.symm
  subst eG1
  refine y_blk 1 tq_X8_isSound (z := (5, [(0, .ref (ad 1))], [.ref (ad 1), .long x1])) rfl ?_
  refine y_get hS tq_X8_isSound (v := .ref (ad 2)) rfl fg_X8_10_X8 (hX.1 1 _ rfl) rfl ?_
  refine y_blk 0 tq_X8_isSound (z := (8, [(0, .ref (ad 1))], [.ref (ad 2), .long x1])) rfl ?_
  refine y_callV hS tq_X8_isSound rfl (As := []) rfl cv_X8_104 (hX.1 2 _ rfl) (m_X1_openCells hS hX ) rfl (by decide) (Nat.le_of_ble_eq_true rfl) (fun r8 Gc8 q8 => ?_) (fun E9 G9 h9 => h9.elim)
  obtain ⟨rfl, eG8⟩ := q8
  have eG8 := eG8.symm
  subst eG8
  refine y_blk 0 tq_X8_isSound (z := (11, [(0, .ref (ad 1))], [.long ((xall (σ.2.2.1 0 * σ.2.2.1 1)) &&& ((σ.2.2.2.1 2) ^^^ (-1))), .long x1])) rfl ?_
  refine y_ldc2 hS tq_X8_isSound rfl ld_X8_222 ?_
  refine y_blk 4 tq_X8_isSound (z := (18, [(0, .ref (ad 1))], [.int (lg_cmp (x1 &&& (((xall (σ.2.2.1 0 * σ.2.2.1 1)) &&& ((σ.2.2.2.1 2) ^^^ (-1))) ^^^ (-1))) 0)])) rfl ?_
  refine y_if_eq tq_X8_isSound 23 rfl rfl (fun c18 => ?_) (fun c18 => ?_)
  · skip
    refine y_blk 2 tq_X8_isSound (z := (25, [(1, .int 0), (0, .ref (ad 1))], [])) rfl ?_
    refine y_pick (L2 := [(0, .ref (ad 1)), (1, .int 0)]) [1, 0] rfl ?_
    exact J25 _ 0 rfl
  · skip
    refine y_blk 1 tq_X8_isSound (z := (22, [(0, .ref (ad 1))], [.int 0])) rfl ?_
    exact y_zret tq_X8_isSound rfl rfl (rfl) (⟨⟨_, (Or.inl rfl), rfl⟩, rfl⟩)
set_option maxHeartbeats 4000000 in
set_option maxRecDepth 100000 in
theorem m_X8_knock {l : Launch} {S0 : State} {A0 : Array Value} {D : va_G} {aC : Nat → ClassId} {ad : Nat → Nat} {G : AH} {σ : XS} (hS : yS l S0 A0 D aC) (hX : atX aC ad G σ) : yM l S0 D yX8_knock cX8_knock 1 (some .int) 10 0 0 [.ref (ad 1)] G (fun r G1 => r = some (.int ((σ.2.2.1 7) + 1)) ∧ atX aC ad G1 (xin σ 7 ((σ.2.2.1 7) + 1)) ∧ keepX G G1) (fun _ _ => False) := by
  refine yM.ofK K_X8_knock rfl (by decide) (Nat.le_of_ble_eq_true rfl) ?_
  refine y_blk 2 tq_X8_knock (z := (2, [(0, .ref (ad 1))], [.ref (ad 1), .ref (ad 1)])) rfl ?_
  refine y_get hS tq_X8_knock (v := .int (σ.2.2.1 7)) rfl fg_X8_374_X8 (hX.1 1 _ rfl) rfl ?_
  refine y_blk 2 tq_X8_knock (z := (7, [(0, .ref (ad 1))], [.int ((σ.2.2.1 7) + 1), .ref (ad 1)])) rfl ?_
  refine y_put hS tq_X8_knock rfl fp_X8_374_X8 (hX.1 1 _ rfl) (by omega) rfl rfl (Nat.le_of_ble_eq_true rfl) ?_
  have hXw7 : atX aC ad (yup G (ad 1) (1, .inr (12, [.ref (ad 2), .ref (ad 4), .ref (ad 5), .ref (ad 6), .ref (ad 120), .ref (ad 7), .ref (ad 130), .ref (ad 8), .ref (ad 9), .int ((σ.2.2.1 7) + 1)]))) (xin σ 7 ((σ.2.2.1 7) + 1)) := hX.setIn 7 1 (fun q => absurd q (by decide)) (by omega) rfl rfl
  have hFw7 : keepX G (yup G (ad 1) (1, .inr (12, [.ref (ad 2), .ref (ad 4), .ref (ad 5), .ref (ad 6), .ref (ad 120), .ref (ad 7), .ref (ad 130), .ref (ad 8), .ref (ad 9), .int ((σ.2.2.1 7) + 1)]))) := (keepX.rfl' (G := G)).up (hX.1 1 _ rfl) (by omega) (by omega)
  show Y l S0 D K_X8_knock 10 0 0 (fun r G1 => r = some (.int ((σ.2.2.1 7) + 1)) ∧ atX aC ad G1 (xin σ 7 ((σ.2.2.1 7) + 1)) ∧ keepX G G1) (fun _ _ => False) (7 + 3) [(0, .ref (ad 1))] [] (yup G (ad 1) (1, .inr (12, [.ref (ad 2), .ref (ad 4), .ref (ad 5), .ref (ad 6), .ref (ad 120), .ref (ad 7), .ref (ad 130), .ref (ad 8), .ref (ad 9), .int ((σ.2.2.1 7) + 1)]))) 0 0
  generalize yup G (ad 1) (1, .inr (12, [.ref (ad 2), .ref (ad 4), .ref (ad 5), .ref (ad 6), .ref (ad 120), .ref (ad 7), .ref (ad 130), .ref (ad 8), .ref (ad 9), .int ((σ.2.2.1 7) + 1)])) = Gw7 at hXw7 hFw7 ⊢
  refine y_blk 1 tq_X8_knock (z := (11, [(0, .ref (ad 1))], [.ref (ad 1)])) rfl ?_
  refine y_get hS tq_X8_knock (v := .int (((xin σ 7 ((σ.2.2.1 7) + 1))).2.2.1 7)) rfl fg_X8_374_X8 (hXw7.1 1 _ rfl) rfl ?_
  refine y_blk 0 tq_X8_knock (z := (14, [(0, .ref (ad 1))], [.int (((xin σ 7 ((σ.2.2.1 7) + 1))).2.2.1 7)])) rfl ?_
  exact y_iret tq_X8_knock rfl rfl (⟨rfl, hXw7, hFw7⟩)
set_option maxHeartbeats 4000000 in
set_option maxRecDepth 100000 in
theorem m_X8_intruder {l : Launch} {S0 : State} {A0 : Array Value} {D : va_G} {aC : Nat → ClassId} {ad : Nat → Nat} {G : AH} {σ : XS} (hS : yS l S0 A0 D aC) (hX : atX aC ad G σ) (cell : Int32) (minute : Int32) (moves : Int32) : yM l S0 D yX8_intruder cX8_intruder 5 (some .int) 15 3 18 [.ref (ad 1), .int cell, .int minute, .int moves] G (fun r G1 => (∃ v : Int32, r = some (.int v)) ∧ ∃ σ1 : XS, atX aC ad G1 σ1 ∧ keepX G G1 ∧ xfr [16, 17, 18, 20, 21, 40, 41, 42, 43, 44, 45] σ σ1 ∧ xiR σ σ1 cell minute moves r) (fun E G1 => (E = "java/lang/IndexOutOfBoundsException" ∨ E = "java/lang/IllegalArgumentException" ∨ E = "java/lang/IllegalStateException") ∧ ∃ σ1 : XS, atX aC ad G1 σ1 ∧ keepX G G1 ∧ xfr [16, 17, 18, 20, 21, 40, 41, 42, 43, 44, 45] σ σ1 ∧ xiX E σ σ1 cell minute moves) := by
  refine yM.ofK K_X8_intruder rfl (by decide) (Nat.le_of_ble_eq_true rfl) ?_
  refine y_blk 2 tq_X8_intruder (z := (2, [(0, .ref (ad 1)), (1, .int cell), (2, .int minute), (3, .int moves)], [.int cell, .ref (ad 1)])) rfl ?_
  refine y_callV hS tq_X8_intruder rfl (As := [.int cell]) rfl cv_X8_114 (hX.1 1 _ rfl) (m_X8_needCell hS hX cell) rfl (by decide) (Nat.le_of_ble_eq_true rfl) (fun r2 Gc2 q2 => ?_) (fun E9 G9 h9 => ⟨(Or.inl h9.1.1), σ, (by rw [h9.2]; exact hX), (by rw [h9.2]; exact keepX.rfl'), (xkn.rfl').w, Or.inl ⟨h9.1.1, h9.1.2, rfl⟩⟩)
  obtain ⟨⟨rfl, hq2⟩, eG2⟩ := q2
  have eG2 := eG2.symm
  subst eG2
  refine y_blk 1 tq_X8_intruder (z := (6, [(0, .ref (ad 1)), (1, .int cell), (2, .int minute), (3, .int moves)], [.int minute])) rfl ?_
  refine y_callS hS tq_X8_intruder rfl (As := [.int minute]) rfl cs_X8_139 (m_X8_isMinute hS  minute) rfl (by decide) (Nat.le_of_ble_eq_true rfl) (fun r6 Gc6 q6 => ?_) (fun E9 G9 h9 => h9.elim)
  obtain ⟨rfl, eG6⟩ := q6
  have eG6 := eG6.symm
  subst eG6
  refine y_blk 0 tq_X8_intruder (z := (9, [(0, .ref (ad 1)), (1, .int cell), (2, .int minute), (3, .int moves)], [.int (if 0 ≤ minute ∧ minute ≤ 239 then 1 else 0)])) rfl ?_
  refine y_if_eq tq_X8_intruder 20 rfl rfl (fun c9 => ?_) (fun c9 => ?_)
  · skip
    refine y_blk 1 tq_X8_intruder (z := (21, [(0, .ref (ad 1)), (1, .int cell), (2, .int minute), (3, .int moves)], [.int 0])) rfl ?_
    refine y_callS hS tq_X8_intruder rfl (As := [.int 0]) rfl cs_X8_117 (m_X8_needLet hS  0) rfl (by decide) (Nat.le_of_ble_eq_true rfl) (fun r21 Gc21 q21 => ?_) (fun E9 G9 h9 => ⟨(Or.inr (Or.inl h9.1.1)), σ, (by rw [h9.2]; exact hX), (by rw [h9.2]; exact keepX.rfl'), (xkn.rfl').w, Or.inr (Or.inl ⟨h9.1.1, hq2, (by first | exact absurd h9.1.2 (by decide) | (intro q9; have z9 := h9.1.2; clear h9; (simp only [yif0, Classical.not_not, ylt, yle, yl_m1, yl_0, yl_1, yl_2, yl_3, yl_4, yl_5, yl_6, yl_7, yl_8, yl_9, yl_10, yl_11, yl_12, yl_15, yl_16, yl_20, yl_60, yl_64, yl_90, yl_97, yl_99, yl_100, yl_120, yl_239, yl_240] at *; omega))), rfl⟩)⟩)
    obtain ⟨⟨rfl, hq21⟩, eG21⟩ := q21
    have eG21 := eG21.symm
    subst eG21
    refine y_blk 1 tq_X8_intruder (z := (25, [(0, .ref (ad 1)), (1, .int cell), (2, .int minute), (3, .int moves)], [.ref (ad 1)])) rfl ?_
    refine y_get hS tq_X8_intruder (v := .ref (ad 8)) rfl fg_X8_59_X8 (hX.1 1 _ rfl) rfl ?_
    refine y_blk 0 tq_X8_intruder (z := (28, [(0, .ref (ad 1)), (1, .int cell), (2, .int minute), (3, .int moves)], [.ref (ad 8)])) rfl ?_
    refine y_callV hS tq_X8_intruder rfl (As := []) rfl cv_X8_285 (hX.1 8 _ rfl) (m_X3_isFull hS hX ) rfl (by decide) (Nat.le_of_ble_eq_true rfl) (fun r28 Gc28 q28 => ?_) (fun E9 G9 h9 => h9.elim)
    obtain ⟨rfl, eG28⟩ := q28
    have eG28 := eG28.symm
    subst eG28
    refine y_blk 0 tq_X8_intruder (z := (31, [(0, .ref (ad 1)), (1, .int cell), (2, .int minute), (3, .int moves)], [.int (if (xcap 16 : Int) ≤ (σ.1 16).toInt then 1 else 0)])) rfl ?_
    refine y_if_ne tq_X8_intruder 55 rfl rfl (fun c31 => ?_) (fun c31 => ?_)
    · skip
      refine y_blk 3 tq_X8_intruder (z := (60, [(4, .int 0), (0, .ref (ad 1)), (1, .int cell), (2, .int minute), (3, .int moves)], [.int 0])) rfl ?_
      refine y_callS hS tq_X8_intruder rfl (As := [.int 0]) rfl cs_X8_128 (m_X8_needPossible hS  0) rfl (by decide) (Nat.le_of_ble_eq_true rfl) (fun r60 Gc60 q60 => ?_) (fun E9 G9 h9 => ⟨(Or.inr (Or.inr h9.1.1)), σ, (by rw [h9.2]; exact hX), (by rw [h9.2]; exact keepX.rfl'), (xkn.rfl').w, (by first | exact absurd rfl hq21 | exact absurd h9.1.2 (by decide) | exact Or.inr (Or.inr ⟨h9.1.1, ⟨hq2, (by first | ((repeat' apply And.intro) <;> first | assumption | (simp only [yif0, Classical.not_not, ylt, yle, xcp0, xcp3, xcp5, xcp10, xcp12, xcp16, xcp22, yl_m1, yl_0, yl_1, yl_2, yl_3, yl_4, yl_5, yl_6, yl_7, yl_8, yl_9, yl_10, yl_11, yl_12, yl_15, yl_16, yl_20, yl_60, yl_64, yl_90, yl_97, yl_99, yl_100, yl_120, yl_239, yl_240] at *; first | omega | assumption | contradiction)))⟩, Or.inl ⟨(by (have ec9 : xcap 16 = 4 := (by decide); rw [ec9] at c31; (simp only [yif0, Classical.not_not, ylt, yle, yl_m1, yl_0, yl_1, yl_2, yl_3, yl_4, yl_5, yl_6, yl_7, yl_8, yl_9, yl_10, yl_11, yl_12, yl_15, yl_16, yl_20, yl_60, yl_64, yl_90, yl_97, yl_99, yl_100, yl_120, yl_239, yl_240] at *; omega))), rfl⟩⟩) | exact Or.inr (Or.inr ⟨h9.1.1, ⟨hq2, (by first | ((repeat' apply And.intro) <;> first | assumption | (simp only [yif0, Classical.not_not, ylt, yle, xcp0, xcp3, xcp5, xcp10, xcp12, xcp16, xcp22, yl_m1, yl_0, yl_1, yl_2, yl_3, yl_4, yl_5, yl_6, yl_7, yl_8, yl_9, yl_10, yl_11, yl_12, yl_15, yl_16, yl_20, yl_60, yl_64, yl_90, yl_97, yl_99, yl_100, yl_120, yl_239, yl_240] at *; first | omega | assumption | contradiction)))⟩, Or.inr ⟨(by (have ec9 : xcap 16 = 4 := (by decide); rw [ec9] at c31; (simp only [yif0, Classical.not_not, ylt, yle, yl_m1, yl_0, yl_1, yl_2, yl_3, yl_4, yl_5, yl_6, yl_7, yl_8, yl_9, yl_10, yl_11, yl_12, yl_15, yl_16, yl_20, yl_60, yl_64, yl_90, yl_97, yl_99, yl_100, yl_120, yl_239, yl_240] at *; omega))), (by rw [c48] at hR45; exact hR45)⟩⟩))⟩)
      obtain ⟨⟨rfl, hq60⟩, eG60⟩ := q60
      have eG60 := eG60.symm
      subst eG60
      refine y_blk 1 tq_X8_intruder (z := (64, [(4, .int 0), (0, .ref (ad 1)), (1, .int cell), (2, .int minute), (3, .int moves)], [.ref (ad 1)])) rfl ?_
      refine y_get hS tq_X8_intruder (v := .ref (ad 8)) rfl fg_X8_59_X8 (hX.1 1 _ rfl) rfl ?_
      refine y_blk 0 tq_X8_intruder (z := (67, [(4, .int 0), (0, .ref (ad 1)), (1, .int cell), (2, .int minute), (3, .int moves)], [.ref (ad 8)])) rfl ?_
      refine y_callV hS tq_X8_intruder rfl (As := []) rfl cv_X8_290 (hX.1 8 _ rfl) (m_X3_count hS hX ) rfl (by decide) (Nat.le_of_ble_eq_true rfl) (fun r67 Gc67 q67 => ?_) (fun E9 G9 h9 => h9.elim)
      obtain ⟨rfl, eG67⟩ := q67
      have eG67 := eG67.symm
      subst eG67
      refine y_blk 2 tq_X8_intruder (z := (72, [(4, .int 0), (0, .ref (ad 1)), (1, .int cell), (2, .int minute), (3, .int moves)], [.int ((σ.1 16) - 1)])) rfl ?_
      exact y_iret tq_X8_intruder rfl rfl (⟨⟨_, rfl⟩, _, hX, keepX.rfl', (xkn.rfl').w, (by first | exact absurd rfl hq60 | exact absurd rfl hq21 | exact ⟨⟨hq2, (by first | ((repeat' apply And.intro) <;> first | assumption | (simp only [yif0, Classical.not_not, ylt, yle, xcp0, xcp3, xcp5, xcp10, xcp12, xcp16, xcp22, yl_m1, yl_0, yl_1, yl_2, yl_3, yl_4, yl_5, yl_6, yl_7, yl_8, yl_9, yl_10, yl_11, yl_12, yl_15, yl_16, yl_20, yl_60, yl_64, yl_90, yl_97, yl_99, yl_100, yl_120, yl_239, yl_240] at *; first | omega | assumption | contradiction)))⟩, (by (have ec9 : xcap 16 = 4 := (by decide); rw [ec9] at c31; (simp only [yif0, Classical.not_not, ylt, yle, yl_m1, yl_0, yl_1, yl_2, yl_3, yl_4, yl_5, yl_6, yl_7, yl_8, yl_9, yl_10, yl_11, yl_12, yl_15, yl_16, yl_20, yl_60, yl_64, yl_90, yl_97, yl_99, yl_100, yl_120, yl_239, yl_240] at *; omega))), (by have e9 := hb_x45.resolve_left c48; rw [e9] at hR45; exact hR45), rfl⟩)⟩)
    · skip
      refine y_blk 1 tq_X8_intruder (z := (35, [(0, .ref (ad 1)), (1, .int cell), (2, .int minute), (3, .int moves)], [.ref (ad 1)])) rfl ?_
      refine y_get hS tq_X8_intruder (v := .ref (ad 8)) rfl fg_X8_59_X8 (hX.1 1 _ rfl) rfl ?_
      refine y_blk 1 tq_X8_intruder (z := (39, [(0, .ref (ad 1)), (1, .int cell), (2, .int minute), (3, .int moves)], [.ref (ad 1), .ref (ad 8)])) rfl ?_
      refine y_get hS tq_X8_intruder (v := .ref (ad 2)) rfl fg_X8_10_X8 (hX.1 1 _ rfl) rfl ?_
      refine y_blk 3 tq_X8_intruder (z := (45, [(0, .ref (ad 1)), (1, .int cell), (2, .int minute), (3, .int moves)], [.int moves, .int minute, .int cell, .ref (ad 2), .ref (ad 8)])) rfl ?_
      refine y_callV hS tq_X8_intruder rfl (As := [.ref (ad 2), .int cell, .int minute, .int moves]) rfl cv_X8_286 (hX.1 8 _ rfl) (m_X3_come hS hX cell minute moves (by first | exact absurd rfl hq21 | (simp only [yif0, Classical.not_not, ylt, yle, yl_m1, yl_0, yl_1, yl_2, yl_3, yl_4, yl_5, yl_6, yl_7, yl_8, yl_9, yl_10, yl_11, yl_12, yl_15, yl_16, yl_20, yl_60, yl_64, yl_90, yl_97, yl_99, yl_100, yl_120, yl_239, yl_240] at *; omega)) (by first | exact absurd rfl hq21 | (simp only [yif0, Classical.not_not, ylt, yle, yl_m1, yl_0, yl_1, yl_2, yl_3, yl_4, yl_5, yl_6, yl_7, yl_8, yl_9, yl_10, yl_11, yl_12, yl_15, yl_16, yl_20, yl_60, yl_64, yl_90, yl_97, yl_99, yl_100, yl_120, yl_239, yl_240] at *; omega)) (by first | exact absurd rfl hq21 | (simp only [yif0, Classical.not_not, ylt, yle, yl_m1, yl_0, yl_1, yl_2, yl_3, yl_4, yl_5, yl_6, yl_7, yl_8, yl_9, yl_10, yl_11, yl_12, yl_15, yl_16, yl_20, yl_60, yl_64, yl_90, yl_97, yl_99, yl_100, yl_120, yl_239, yl_240] at *; omega)) (by first | exact absurd rfl hq21 | (have ec9 : xcap 16 = 4 := (by decide); rw [ec9] at c31; refine ⟨(hX.2.1 16).1, ?_⟩; (simp only [yif0, Classical.not_not, ylt, yle, yl_m1, yl_0, yl_1, yl_2, yl_3, yl_4, yl_5, yl_6, yl_7, yl_8, yl_9, yl_10, yl_11, yl_12, yl_15, yl_16, yl_20, yl_60, yl_64, yl_90, yl_97, yl_99, yl_100, yl_120, yl_239, yl_240] at *; omega)))) rfl (by decide) (Nat.le_of_ble_eq_true rfl) (fun r45 Gc45 q45 => ?_) (fun E9 G9 h9 => h9.elim)
      obtain ⟨⟨x45, hb_x45, rfl⟩, σ45, hXc45, hFc45, knc45, hR45⟩ := q45
      refine y_blk 0 tq_X8_intruder (z := (48, [(0, .ref (ad 1)), (1, .int cell), (2, .int minute), (3, .int moves)], [.int x45])) rfl ?_
      refine y_if_eq tq_X8_intruder 55 rfl rfl (fun c48 => ?_) (fun c48 => ?_)
      · skip
        refine y_blk 3 tq_X8_intruder (z := (60, [(4, .int 0), (0, .ref (ad 1)), (1, .int cell), (2, .int minute), (3, .int moves)], [.int 0])) rfl ?_
        refine y_callS hS tq_X8_intruder rfl (As := [.int 0]) rfl cs_X8_128 (m_X8_needPossible hS  0) rfl (by decide) (Nat.le_of_ble_eq_true rfl) (fun r60 Gc60 q60 => ?_) (fun E9 G9 h9 => ⟨(Or.inr (Or.inr h9.1.1)), σ45, (by rw [h9.2]; exact hXc45), (by rw [h9.2]; exact (keepX.rfl'.trans hFc45)), ((xkn.trans xkn.rfl' knc45)).w, (by first | exact absurd rfl hq21 | exact absurd h9.1.2 (by decide) | exact Or.inr (Or.inr ⟨h9.1.1, ⟨hq2, (by first | ((repeat' apply And.intro) <;> first | assumption | (simp only [yif0, Classical.not_not, ylt, yle, xcp0, xcp3, xcp5, xcp10, xcp12, xcp16, xcp22, yl_m1, yl_0, yl_1, yl_2, yl_3, yl_4, yl_5, yl_6, yl_7, yl_8, yl_9, yl_10, yl_11, yl_12, yl_15, yl_16, yl_20, yl_60, yl_64, yl_90, yl_97, yl_99, yl_100, yl_120, yl_239, yl_240] at *; first | omega | assumption | contradiction)))⟩, Or.inl ⟨(by (have ec9 : xcap 16 = 4 := (by decide); rw [ec9] at c31; (simp only [yif0, Classical.not_not, ylt, yle, yl_m1, yl_0, yl_1, yl_2, yl_3, yl_4, yl_5, yl_6, yl_7, yl_8, yl_9, yl_10, yl_11, yl_12, yl_15, yl_16, yl_20, yl_60, yl_64, yl_90, yl_97, yl_99, yl_100, yl_120, yl_239, yl_240] at *; omega))), rfl⟩⟩) | exact Or.inr (Or.inr ⟨h9.1.1, ⟨hq2, (by first | ((repeat' apply And.intro) <;> first | assumption | (simp only [yif0, Classical.not_not, ylt, yle, xcp0, xcp3, xcp5, xcp10, xcp12, xcp16, xcp22, yl_m1, yl_0, yl_1, yl_2, yl_3, yl_4, yl_5, yl_6, yl_7, yl_8, yl_9, yl_10, yl_11, yl_12, yl_15, yl_16, yl_20, yl_60, yl_64, yl_90, yl_97, yl_99, yl_100, yl_120, yl_239, yl_240] at *; first | omega | assumption | contradiction)))⟩, Or.inr ⟨(by (have ec9 : xcap 16 = 4 := (by decide); rw [ec9] at c31; (simp only [yif0, Classical.not_not, ylt, yle, yl_m1, yl_0, yl_1, yl_2, yl_3, yl_4, yl_5, yl_6, yl_7, yl_8, yl_9, yl_10, yl_11, yl_12, yl_15, yl_16, yl_20, yl_60, yl_64, yl_90, yl_97, yl_99, yl_100, yl_120, yl_239, yl_240] at *; omega))), (by rw [c48] at hR45; exact hR45)⟩⟩))⟩)
        obtain ⟨⟨rfl, hq60⟩, eG60⟩ := q60
        have eG60 := eG60.symm
        subst eG60
        refine y_blk 1 tq_X8_intruder (z := (64, [(4, .int 0), (0, .ref (ad 1)), (1, .int cell), (2, .int minute), (3, .int moves)], [.ref (ad 1)])) rfl ?_
        refine y_get hS tq_X8_intruder (v := .ref (ad 8)) rfl fg_X8_59_X8 (hXc45.1 1 _ rfl) rfl ?_
        refine y_blk 0 tq_X8_intruder (z := (67, [(4, .int 0), (0, .ref (ad 1)), (1, .int cell), (2, .int minute), (3, .int moves)], [.ref (ad 8)])) rfl ?_
        refine y_callV hS tq_X8_intruder rfl (As := []) rfl cv_X8_290 (hXc45.1 8 _ rfl) (m_X3_count hS hXc45 ) rfl (by decide) (Nat.le_of_ble_eq_true rfl) (fun r67 Gc67 q67 => ?_) (fun E9 G9 h9 => h9.elim)
        obtain ⟨rfl, eG67⟩ := q67
        have eG67 := eG67.symm
        subst eG67
        refine y_blk 2 tq_X8_intruder (z := (72, [(4, .int 0), (0, .ref (ad 1)), (1, .int cell), (2, .int minute), (3, .int moves)], [.int ((σ45.1 16) - 1)])) rfl ?_
        exact y_iret tq_X8_intruder rfl rfl (⟨⟨_, rfl⟩, _, hXc45, (keepX.rfl'.trans hFc45), ((xkn.trans xkn.rfl' knc45)).w, (by first | exact absurd rfl hq60 | exact absurd rfl hq21 | exact ⟨⟨hq2, (by first | ((repeat' apply And.intro) <;> first | assumption | (simp only [yif0, Classical.not_not, ylt, yle, xcp0, xcp3, xcp5, xcp10, xcp12, xcp16, xcp22, yl_m1, yl_0, yl_1, yl_2, yl_3, yl_4, yl_5, yl_6, yl_7, yl_8, yl_9, yl_10, yl_11, yl_12, yl_15, yl_16, yl_20, yl_60, yl_64, yl_90, yl_97, yl_99, yl_100, yl_120, yl_239, yl_240] at *; first | omega | assumption | contradiction)))⟩, (by (have ec9 : xcap 16 = 4 := (by decide); rw [ec9] at c31; (simp only [yif0, Classical.not_not, ylt, yle, yl_m1, yl_0, yl_1, yl_2, yl_3, yl_4, yl_5, yl_6, yl_7, yl_8, yl_9, yl_10, yl_11, yl_12, yl_15, yl_16, yl_20, yl_60, yl_64, yl_90, yl_97, yl_99, yl_100, yl_120, yl_239, yl_240] at *; omega))), (by have e9 := hb_x45.resolve_left c48; rw [e9] at hR45; exact hR45), rfl⟩)⟩)
      · skip
        refine y_blk 4 tq_X8_intruder (z := (60, [(4, .int 1), (0, .ref (ad 1)), (1, .int cell), (2, .int minute), (3, .int moves)], [.int 1])) rfl ?_
        refine y_callS hS tq_X8_intruder rfl (As := [.int 1]) rfl cs_X8_128 (m_X8_needPossible hS  1) rfl (by decide) (Nat.le_of_ble_eq_true rfl) (fun r60 Gc60 q60 => ?_) (fun E9 G9 h9 => ⟨(Or.inr (Or.inr h9.1.1)), σ45, (by rw [h9.2]; exact hXc45), (by rw [h9.2]; exact (keepX.rfl'.trans hFc45)), ((xkn.trans xkn.rfl' knc45)).w, (by first | exact absurd rfl hq21 | exact absurd h9.1.2 (by decide) | exact Or.inr (Or.inr ⟨h9.1.1, ⟨hq2, (by first | ((repeat' apply And.intro) <;> first | assumption | (simp only [yif0, Classical.not_not, ylt, yle, xcp0, xcp3, xcp5, xcp10, xcp12, xcp16, xcp22, yl_m1, yl_0, yl_1, yl_2, yl_3, yl_4, yl_5, yl_6, yl_7, yl_8, yl_9, yl_10, yl_11, yl_12, yl_15, yl_16, yl_20, yl_60, yl_64, yl_90, yl_97, yl_99, yl_100, yl_120, yl_239, yl_240] at *; first | omega | assumption | contradiction)))⟩, Or.inl ⟨(by (have ec9 : xcap 16 = 4 := (by decide); rw [ec9] at c31; (simp only [yif0, Classical.not_not, ylt, yle, yl_m1, yl_0, yl_1, yl_2, yl_3, yl_4, yl_5, yl_6, yl_7, yl_8, yl_9, yl_10, yl_11, yl_12, yl_15, yl_16, yl_20, yl_60, yl_64, yl_90, yl_97, yl_99, yl_100, yl_120, yl_239, yl_240] at *; omega))), rfl⟩⟩) | exact Or.inr (Or.inr ⟨h9.1.1, ⟨hq2, (by first | ((repeat' apply And.intro) <;> first | assumption | (simp only [yif0, Classical.not_not, ylt, yle, xcp0, xcp3, xcp5, xcp10, xcp12, xcp16, xcp22, yl_m1, yl_0, yl_1, yl_2, yl_3, yl_4, yl_5, yl_6, yl_7, yl_8, yl_9, yl_10, yl_11, yl_12, yl_15, yl_16, yl_20, yl_60, yl_64, yl_90, yl_97, yl_99, yl_100, yl_120, yl_239, yl_240] at *; first | omega | assumption | contradiction)))⟩, Or.inr ⟨(by (have ec9 : xcap 16 = 4 := (by decide); rw [ec9] at c31; (simp only [yif0, Classical.not_not, ylt, yle, yl_m1, yl_0, yl_1, yl_2, yl_3, yl_4, yl_5, yl_6, yl_7, yl_8, yl_9, yl_10, yl_11, yl_12, yl_15, yl_16, yl_20, yl_60, yl_64, yl_90, yl_97, yl_99, yl_100, yl_120, yl_239, yl_240] at *; omega))), (by rw [c48] at hR45; exact hR45)⟩⟩))⟩)
        obtain ⟨⟨rfl, hq60⟩, eG60⟩ := q60
        have eG60 := eG60.symm
        subst eG60
        refine y_blk 1 tq_X8_intruder (z := (64, [(4, .int 1), (0, .ref (ad 1)), (1, .int cell), (2, .int minute), (3, .int moves)], [.ref (ad 1)])) rfl ?_
        refine y_get hS tq_X8_intruder (v := .ref (ad 8)) rfl fg_X8_59_X8 (hXc45.1 1 _ rfl) rfl ?_
        refine y_blk 0 tq_X8_intruder (z := (67, [(4, .int 1), (0, .ref (ad 1)), (1, .int cell), (2, .int minute), (3, .int moves)], [.ref (ad 8)])) rfl ?_
        refine y_callV hS tq_X8_intruder rfl (As := []) rfl cv_X8_290 (hXc45.1 8 _ rfl) (m_X3_count hS hXc45 ) rfl (by decide) (Nat.le_of_ble_eq_true rfl) (fun r67 Gc67 q67 => ?_) (fun E9 G9 h9 => h9.elim)
        obtain ⟨rfl, eG67⟩ := q67
        have eG67 := eG67.symm
        subst eG67
        refine y_blk 2 tq_X8_intruder (z := (72, [(4, .int 1), (0, .ref (ad 1)), (1, .int cell), (2, .int minute), (3, .int moves)], [.int ((σ45.1 16) - 1)])) rfl ?_
        exact y_iret tq_X8_intruder rfl rfl (⟨⟨_, rfl⟩, _, hXc45, (keepX.rfl'.trans hFc45), ((xkn.trans xkn.rfl' knc45)).w, (by first | exact absurd rfl hq60 | exact absurd rfl hq21 | exact ⟨⟨hq2, (by first | ((repeat' apply And.intro) <;> first | assumption | (simp only [yif0, Classical.not_not, ylt, yle, xcp0, xcp3, xcp5, xcp10, xcp12, xcp16, xcp22, yl_m1, yl_0, yl_1, yl_2, yl_3, yl_4, yl_5, yl_6, yl_7, yl_8, yl_9, yl_10, yl_11, yl_12, yl_15, yl_16, yl_20, yl_60, yl_64, yl_90, yl_97, yl_99, yl_100, yl_120, yl_239, yl_240] at *; first | omega | assumption | contradiction)))⟩, (by (have ec9 : xcap 16 = 4 := (by decide); rw [ec9] at c31; (simp only [yif0, Classical.not_not, ylt, yle, yl_m1, yl_0, yl_1, yl_2, yl_3, yl_4, yl_5, yl_6, yl_7, yl_8, yl_9, yl_10, yl_11, yl_12, yl_15, yl_16, yl_20, yl_60, yl_64, yl_90, yl_97, yl_99, yl_100, yl_120, yl_239, yl_240] at *; omega))), (by have e9 := hb_x45.resolve_left c48; rw [e9] at hR45; exact hR45), rfl⟩)⟩)
  · skip
    refine y_blk 1 tq_X8_intruder (z := (13, [(0, .ref (ad 1)), (1, .int cell), (2, .int minute), (3, .int moves)], [.int moves])) rfl ?_
    refine y_if_lt tq_X8_intruder 20 rfl rfl (fun c13 => ?_) (fun c13 => ?_)
    · skip
      refine y_blk 1 tq_X8_intruder (z := (21, [(0, .ref (ad 1)), (1, .int cell), (2, .int minute), (3, .int moves)], [.int 0])) rfl ?_
      refine y_callS hS tq_X8_intruder rfl (As := [.int 0]) rfl cs_X8_117 (m_X8_needLet hS  0) rfl (by decide) (Nat.le_of_ble_eq_true rfl) (fun r21 Gc21 q21 => ?_) (fun E9 G9 h9 => ⟨(Or.inr (Or.inl h9.1.1)), σ, (by rw [h9.2]; exact hX), (by rw [h9.2]; exact keepX.rfl'), (xkn.rfl').w, Or.inr (Or.inl ⟨h9.1.1, hq2, (by first | exact absurd h9.1.2 (by decide) | (intro q9; have z9 := h9.1.2; clear h9; (simp only [yif0, Classical.not_not, ylt, yle, yl_m1, yl_0, yl_1, yl_2, yl_3, yl_4, yl_5, yl_6, yl_7, yl_8, yl_9, yl_10, yl_11, yl_12, yl_15, yl_16, yl_20, yl_60, yl_64, yl_90, yl_97, yl_99, yl_100, yl_120, yl_239, yl_240] at *; omega))), rfl⟩)⟩)
      obtain ⟨⟨rfl, hq21⟩, eG21⟩ := q21
      have eG21 := eG21.symm
      subst eG21
      refine y_blk 1 tq_X8_intruder (z := (25, [(0, .ref (ad 1)), (1, .int cell), (2, .int minute), (3, .int moves)], [.ref (ad 1)])) rfl ?_
      refine y_get hS tq_X8_intruder (v := .ref (ad 8)) rfl fg_X8_59_X8 (hX.1 1 _ rfl) rfl ?_
      refine y_blk 0 tq_X8_intruder (z := (28, [(0, .ref (ad 1)), (1, .int cell), (2, .int minute), (3, .int moves)], [.ref (ad 8)])) rfl ?_
      refine y_callV hS tq_X8_intruder rfl (As := []) rfl cv_X8_285 (hX.1 8 _ rfl) (m_X3_isFull hS hX ) rfl (by decide) (Nat.le_of_ble_eq_true rfl) (fun r28 Gc28 q28 => ?_) (fun E9 G9 h9 => h9.elim)
      obtain ⟨rfl, eG28⟩ := q28
      have eG28 := eG28.symm
      subst eG28
      refine y_blk 0 tq_X8_intruder (z := (31, [(0, .ref (ad 1)), (1, .int cell), (2, .int minute), (3, .int moves)], [.int (if (xcap 16 : Int) ≤ (σ.1 16).toInt then 1 else 0)])) rfl ?_
      refine y_if_ne tq_X8_intruder 55 rfl rfl (fun c31 => ?_) (fun c31 => ?_)
      · skip
        refine y_blk 3 tq_X8_intruder (z := (60, [(4, .int 0), (0, .ref (ad 1)), (1, .int cell), (2, .int minute), (3, .int moves)], [.int 0])) rfl ?_
        refine y_callS hS tq_X8_intruder rfl (As := [.int 0]) rfl cs_X8_128 (m_X8_needPossible hS  0) rfl (by decide) (Nat.le_of_ble_eq_true rfl) (fun r60 Gc60 q60 => ?_) (fun E9 G9 h9 => ⟨(Or.inr (Or.inr h9.1.1)), σ, (by rw [h9.2]; exact hX), (by rw [h9.2]; exact keepX.rfl'), (xkn.rfl').w, (by first | exact absurd rfl hq21 | exact absurd h9.1.2 (by decide) | exact Or.inr (Or.inr ⟨h9.1.1, ⟨hq2, (by first | ((repeat' apply And.intro) <;> first | assumption | (simp only [yif0, Classical.not_not, ylt, yle, xcp0, xcp3, xcp5, xcp10, xcp12, xcp16, xcp22, yl_m1, yl_0, yl_1, yl_2, yl_3, yl_4, yl_5, yl_6, yl_7, yl_8, yl_9, yl_10, yl_11, yl_12, yl_15, yl_16, yl_20, yl_60, yl_64, yl_90, yl_97, yl_99, yl_100, yl_120, yl_239, yl_240] at *; first | omega | assumption | contradiction)))⟩, Or.inl ⟨(by (have ec9 : xcap 16 = 4 := (by decide); rw [ec9] at c31; (simp only [yif0, Classical.not_not, ylt, yle, yl_m1, yl_0, yl_1, yl_2, yl_3, yl_4, yl_5, yl_6, yl_7, yl_8, yl_9, yl_10, yl_11, yl_12, yl_15, yl_16, yl_20, yl_60, yl_64, yl_90, yl_97, yl_99, yl_100, yl_120, yl_239, yl_240] at *; omega))), rfl⟩⟩) | exact Or.inr (Or.inr ⟨h9.1.1, ⟨hq2, (by first | ((repeat' apply And.intro) <;> first | assumption | (simp only [yif0, Classical.not_not, ylt, yle, xcp0, xcp3, xcp5, xcp10, xcp12, xcp16, xcp22, yl_m1, yl_0, yl_1, yl_2, yl_3, yl_4, yl_5, yl_6, yl_7, yl_8, yl_9, yl_10, yl_11, yl_12, yl_15, yl_16, yl_20, yl_60, yl_64, yl_90, yl_97, yl_99, yl_100, yl_120, yl_239, yl_240] at *; first | omega | assumption | contradiction)))⟩, Or.inr ⟨(by (have ec9 : xcap 16 = 4 := (by decide); rw [ec9] at c31; (simp only [yif0, Classical.not_not, ylt, yle, yl_m1, yl_0, yl_1, yl_2, yl_3, yl_4, yl_5, yl_6, yl_7, yl_8, yl_9, yl_10, yl_11, yl_12, yl_15, yl_16, yl_20, yl_60, yl_64, yl_90, yl_97, yl_99, yl_100, yl_120, yl_239, yl_240] at *; omega))), (by rw [c48] at hR45; exact hR45)⟩⟩))⟩)
        obtain ⟨⟨rfl, hq60⟩, eG60⟩ := q60
        have eG60 := eG60.symm
        subst eG60
        refine y_blk 1 tq_X8_intruder (z := (64, [(4, .int 0), (0, .ref (ad 1)), (1, .int cell), (2, .int minute), (3, .int moves)], [.ref (ad 1)])) rfl ?_
        refine y_get hS tq_X8_intruder (v := .ref (ad 8)) rfl fg_X8_59_X8 (hX.1 1 _ rfl) rfl ?_
        refine y_blk 0 tq_X8_intruder (z := (67, [(4, .int 0), (0, .ref (ad 1)), (1, .int cell), (2, .int minute), (3, .int moves)], [.ref (ad 8)])) rfl ?_
        refine y_callV hS tq_X8_intruder rfl (As := []) rfl cv_X8_290 (hX.1 8 _ rfl) (m_X3_count hS hX ) rfl (by decide) (Nat.le_of_ble_eq_true rfl) (fun r67 Gc67 q67 => ?_) (fun E9 G9 h9 => h9.elim)
        obtain ⟨rfl, eG67⟩ := q67
        have eG67 := eG67.symm
        subst eG67
        refine y_blk 2 tq_X8_intruder (z := (72, [(4, .int 0), (0, .ref (ad 1)), (1, .int cell), (2, .int minute), (3, .int moves)], [.int ((σ.1 16) - 1)])) rfl ?_
        exact y_iret tq_X8_intruder rfl rfl (⟨⟨_, rfl⟩, _, hX, keepX.rfl', (xkn.rfl').w, (by first | exact absurd rfl hq60 | exact absurd rfl hq21 | exact ⟨⟨hq2, (by first | ((repeat' apply And.intro) <;> first | assumption | (simp only [yif0, Classical.not_not, ylt, yle, xcp0, xcp3, xcp5, xcp10, xcp12, xcp16, xcp22, yl_m1, yl_0, yl_1, yl_2, yl_3, yl_4, yl_5, yl_6, yl_7, yl_8, yl_9, yl_10, yl_11, yl_12, yl_15, yl_16, yl_20, yl_60, yl_64, yl_90, yl_97, yl_99, yl_100, yl_120, yl_239, yl_240] at *; first | omega | assumption | contradiction)))⟩, (by (have ec9 : xcap 16 = 4 := (by decide); rw [ec9] at c31; (simp only [yif0, Classical.not_not, ylt, yle, yl_m1, yl_0, yl_1, yl_2, yl_3, yl_4, yl_5, yl_6, yl_7, yl_8, yl_9, yl_10, yl_11, yl_12, yl_15, yl_16, yl_20, yl_60, yl_64, yl_90, yl_97, yl_99, yl_100, yl_120, yl_239, yl_240] at *; omega))), (by have e9 := hb_x45.resolve_left c48; rw [e9] at hR45; exact hR45), rfl⟩)⟩)
      · skip
        refine y_blk 1 tq_X8_intruder (z := (35, [(0, .ref (ad 1)), (1, .int cell), (2, .int minute), (3, .int moves)], [.ref (ad 1)])) rfl ?_
        refine y_get hS tq_X8_intruder (v := .ref (ad 8)) rfl fg_X8_59_X8 (hX.1 1 _ rfl) rfl ?_
        refine y_blk 1 tq_X8_intruder (z := (39, [(0, .ref (ad 1)), (1, .int cell), (2, .int minute), (3, .int moves)], [.ref (ad 1), .ref (ad 8)])) rfl ?_
        refine y_get hS tq_X8_intruder (v := .ref (ad 2)) rfl fg_X8_10_X8 (hX.1 1 _ rfl) rfl ?_
        refine y_blk 3 tq_X8_intruder (z := (45, [(0, .ref (ad 1)), (1, .int cell), (2, .int minute), (3, .int moves)], [.int moves, .int minute, .int cell, .ref (ad 2), .ref (ad 8)])) rfl ?_
        refine y_callV hS tq_X8_intruder rfl (As := [.ref (ad 2), .int cell, .int minute, .int moves]) rfl cv_X8_286 (hX.1 8 _ rfl) (m_X3_come hS hX cell minute moves (by first | exact absurd rfl hq21 | (simp only [yif0, Classical.not_not, ylt, yle, yl_m1, yl_0, yl_1, yl_2, yl_3, yl_4, yl_5, yl_6, yl_7, yl_8, yl_9, yl_10, yl_11, yl_12, yl_15, yl_16, yl_20, yl_60, yl_64, yl_90, yl_97, yl_99, yl_100, yl_120, yl_239, yl_240] at *; omega)) (by first | exact absurd rfl hq21 | (simp only [yif0, Classical.not_not, ylt, yle, yl_m1, yl_0, yl_1, yl_2, yl_3, yl_4, yl_5, yl_6, yl_7, yl_8, yl_9, yl_10, yl_11, yl_12, yl_15, yl_16, yl_20, yl_60, yl_64, yl_90, yl_97, yl_99, yl_100, yl_120, yl_239, yl_240] at *; omega)) (by first | exact absurd rfl hq21 | (simp only [yif0, Classical.not_not, ylt, yle, yl_m1, yl_0, yl_1, yl_2, yl_3, yl_4, yl_5, yl_6, yl_7, yl_8, yl_9, yl_10, yl_11, yl_12, yl_15, yl_16, yl_20, yl_60, yl_64, yl_90, yl_97, yl_99, yl_100, yl_120, yl_239, yl_240] at *; omega)) (by first | exact absurd rfl hq21 | (have ec9 : xcap 16 = 4 := (by decide); rw [ec9] at c31; refine ⟨(hX.2.1 16).1, ?_⟩; (simp only [yif0, Classical.not_not, ylt, yle, yl_m1, yl_0, yl_1, yl_2, yl_3, yl_4, yl_5, yl_6, yl_7, yl_8, yl_9, yl_10, yl_11, yl_12, yl_15, yl_16, yl_20, yl_60, yl_64, yl_90, yl_97, yl_99, yl_100, yl_120, yl_239, yl_240] at *; omega)))) rfl (by decide) (Nat.le_of_ble_eq_true rfl) (fun r45 Gc45 q45 => ?_) (fun E9 G9 h9 => h9.elim)
        obtain ⟨⟨x45, hb_x45, rfl⟩, σ45, hXc45, hFc45, knc45, hR45⟩ := q45
        refine y_blk 0 tq_X8_intruder (z := (48, [(0, .ref (ad 1)), (1, .int cell), (2, .int minute), (3, .int moves)], [.int x45])) rfl ?_
        refine y_if_eq tq_X8_intruder 55 rfl rfl (fun c48 => ?_) (fun c48 => ?_)
        · skip
          refine y_blk 3 tq_X8_intruder (z := (60, [(4, .int 0), (0, .ref (ad 1)), (1, .int cell), (2, .int minute), (3, .int moves)], [.int 0])) rfl ?_
          refine y_callS hS tq_X8_intruder rfl (As := [.int 0]) rfl cs_X8_128 (m_X8_needPossible hS  0) rfl (by decide) (Nat.le_of_ble_eq_true rfl) (fun r60 Gc60 q60 => ?_) (fun E9 G9 h9 => ⟨(Or.inr (Or.inr h9.1.1)), σ45, (by rw [h9.2]; exact hXc45), (by rw [h9.2]; exact (keepX.rfl'.trans hFc45)), ((xkn.trans xkn.rfl' knc45)).w, (by first | exact absurd rfl hq21 | exact absurd h9.1.2 (by decide) | exact Or.inr (Or.inr ⟨h9.1.1, ⟨hq2, (by first | ((repeat' apply And.intro) <;> first | assumption | (simp only [yif0, Classical.not_not, ylt, yle, xcp0, xcp3, xcp5, xcp10, xcp12, xcp16, xcp22, yl_m1, yl_0, yl_1, yl_2, yl_3, yl_4, yl_5, yl_6, yl_7, yl_8, yl_9, yl_10, yl_11, yl_12, yl_15, yl_16, yl_20, yl_60, yl_64, yl_90, yl_97, yl_99, yl_100, yl_120, yl_239, yl_240] at *; first | omega | assumption | contradiction)))⟩, Or.inl ⟨(by (have ec9 : xcap 16 = 4 := (by decide); rw [ec9] at c31; (simp only [yif0, Classical.not_not, ylt, yle, yl_m1, yl_0, yl_1, yl_2, yl_3, yl_4, yl_5, yl_6, yl_7, yl_8, yl_9, yl_10, yl_11, yl_12, yl_15, yl_16, yl_20, yl_60, yl_64, yl_90, yl_97, yl_99, yl_100, yl_120, yl_239, yl_240] at *; omega))), rfl⟩⟩) | exact Or.inr (Or.inr ⟨h9.1.1, ⟨hq2, (by first | ((repeat' apply And.intro) <;> first | assumption | (simp only [yif0, Classical.not_not, ylt, yle, xcp0, xcp3, xcp5, xcp10, xcp12, xcp16, xcp22, yl_m1, yl_0, yl_1, yl_2, yl_3, yl_4, yl_5, yl_6, yl_7, yl_8, yl_9, yl_10, yl_11, yl_12, yl_15, yl_16, yl_20, yl_60, yl_64, yl_90, yl_97, yl_99, yl_100, yl_120, yl_239, yl_240] at *; first | omega | assumption | contradiction)))⟩, Or.inr ⟨(by (have ec9 : xcap 16 = 4 := (by decide); rw [ec9] at c31; (simp only [yif0, Classical.not_not, ylt, yle, yl_m1, yl_0, yl_1, yl_2, yl_3, yl_4, yl_5, yl_6, yl_7, yl_8, yl_9, yl_10, yl_11, yl_12, yl_15, yl_16, yl_20, yl_60, yl_64, yl_90, yl_97, yl_99, yl_100, yl_120, yl_239, yl_240] at *; omega))), (by rw [c48] at hR45; exact hR45)⟩⟩))⟩)
          obtain ⟨⟨rfl, hq60⟩, eG60⟩ := q60
          have eG60 := eG60.symm
          subst eG60
          refine y_blk 1 tq_X8_intruder (z := (64, [(4, .int 0), (0, .ref (ad 1)), (1, .int cell), (2, .int minute), (3, .int moves)], [.ref (ad 1)])) rfl ?_
          refine y_get hS tq_X8_intruder (v := .ref (ad 8)) rfl fg_X8_59_X8 (hXc45.1 1 _ rfl) rfl ?_
          refine y_blk 0 tq_X8_intruder (z := (67, [(4, .int 0), (0, .ref (ad 1)), (1, .int cell), (2, .int minute), (3, .int moves)], [.ref (ad 8)])) rfl ?_
          refine y_callV hS tq_X8_intruder rfl (As := []) rfl cv_X8_290 (hXc45.1 8 _ rfl) (m_X3_count hS hXc45 ) rfl (by decide) (Nat.le_of_ble_eq_true rfl) (fun r67 Gc67 q67 => ?_) (fun E9 G9 h9 => h9.elim)
          obtain ⟨rfl, eG67⟩ := q67
          have eG67 := eG67.symm
          subst eG67
          refine y_blk 2 tq_X8_intruder (z := (72, [(4, .int 0), (0, .ref (ad 1)), (1, .int cell), (2, .int minute), (3, .int moves)], [.int ((σ45.1 16) - 1)])) rfl ?_
          exact y_iret tq_X8_intruder rfl rfl (⟨⟨_, rfl⟩, _, hXc45, (keepX.rfl'.trans hFc45), ((xkn.trans xkn.rfl' knc45)).w, (by first | exact absurd rfl hq60 | exact absurd rfl hq21 | exact ⟨⟨hq2, (by first | ((repeat' apply And.intro) <;> first | assumption | (simp only [yif0, Classical.not_not, ylt, yle, xcp0, xcp3, xcp5, xcp10, xcp12, xcp16, xcp22, yl_m1, yl_0, yl_1, yl_2, yl_3, yl_4, yl_5, yl_6, yl_7, yl_8, yl_9, yl_10, yl_11, yl_12, yl_15, yl_16, yl_20, yl_60, yl_64, yl_90, yl_97, yl_99, yl_100, yl_120, yl_239, yl_240] at *; first | omega | assumption | contradiction)))⟩, (by (have ec9 : xcap 16 = 4 := (by decide); rw [ec9] at c31; (simp only [yif0, Classical.not_not, ylt, yle, yl_m1, yl_0, yl_1, yl_2, yl_3, yl_4, yl_5, yl_6, yl_7, yl_8, yl_9, yl_10, yl_11, yl_12, yl_15, yl_16, yl_20, yl_60, yl_64, yl_90, yl_97, yl_99, yl_100, yl_120, yl_239, yl_240] at *; omega))), (by have e9 := hb_x45.resolve_left c48; rw [e9] at hR45; exact hR45), rfl⟩)⟩)
        · skip
          refine y_blk 4 tq_X8_intruder (z := (60, [(4, .int 1), (0, .ref (ad 1)), (1, .int cell), (2, .int minute), (3, .int moves)], [.int 1])) rfl ?_
          refine y_callS hS tq_X8_intruder rfl (As := [.int 1]) rfl cs_X8_128 (m_X8_needPossible hS  1) rfl (by decide) (Nat.le_of_ble_eq_true rfl) (fun r60 Gc60 q60 => ?_) (fun E9 G9 h9 => ⟨(Or.inr (Or.inr h9.1.1)), σ45, (by rw [h9.2]; exact hXc45), (by rw [h9.2]; exact (keepX.rfl'.trans hFc45)), ((xkn.trans xkn.rfl' knc45)).w, (by first | exact absurd rfl hq21 | exact absurd h9.1.2 (by decide) | exact Or.inr (Or.inr ⟨h9.1.1, ⟨hq2, (by first | ((repeat' apply And.intro) <;> first | assumption | (simp only [yif0, Classical.not_not, ylt, yle, xcp0, xcp3, xcp5, xcp10, xcp12, xcp16, xcp22, yl_m1, yl_0, yl_1, yl_2, yl_3, yl_4, yl_5, yl_6, yl_7, yl_8, yl_9, yl_10, yl_11, yl_12, yl_15, yl_16, yl_20, yl_60, yl_64, yl_90, yl_97, yl_99, yl_100, yl_120, yl_239, yl_240] at *; first | omega | assumption | contradiction)))⟩, Or.inl ⟨(by (have ec9 : xcap 16 = 4 := (by decide); rw [ec9] at c31; (simp only [yif0, Classical.not_not, ylt, yle, yl_m1, yl_0, yl_1, yl_2, yl_3, yl_4, yl_5, yl_6, yl_7, yl_8, yl_9, yl_10, yl_11, yl_12, yl_15, yl_16, yl_20, yl_60, yl_64, yl_90, yl_97, yl_99, yl_100, yl_120, yl_239, yl_240] at *; omega))), rfl⟩⟩) | exact Or.inr (Or.inr ⟨h9.1.1, ⟨hq2, (by first | ((repeat' apply And.intro) <;> first | assumption | (simp only [yif0, Classical.not_not, ylt, yle, xcp0, xcp3, xcp5, xcp10, xcp12, xcp16, xcp22, yl_m1, yl_0, yl_1, yl_2, yl_3, yl_4, yl_5, yl_6, yl_7, yl_8, yl_9, yl_10, yl_11, yl_12, yl_15, yl_16, yl_20, yl_60, yl_64, yl_90, yl_97, yl_99, yl_100, yl_120, yl_239, yl_240] at *; first | omega | assumption | contradiction)))⟩, Or.inr ⟨(by (have ec9 : xcap 16 = 4 := (by decide); rw [ec9] at c31; (simp only [yif0, Classical.not_not, ylt, yle, yl_m1, yl_0, yl_1, yl_2, yl_3, yl_4, yl_5, yl_6, yl_7, yl_8, yl_9, yl_10, yl_11, yl_12, yl_15, yl_16, yl_20, yl_60, yl_64, yl_90, yl_97, yl_99, yl_100, yl_120, yl_239, yl_240] at *; omega))), (by rw [c48] at hR45; exact hR45)⟩⟩))⟩)
          obtain ⟨⟨rfl, hq60⟩, eG60⟩ := q60
          have eG60 := eG60.symm
          subst eG60
          refine y_blk 1 tq_X8_intruder (z := (64, [(4, .int 1), (0, .ref (ad 1)), (1, .int cell), (2, .int minute), (3, .int moves)], [.ref (ad 1)])) rfl ?_
          refine y_get hS tq_X8_intruder (v := .ref (ad 8)) rfl fg_X8_59_X8 (hXc45.1 1 _ rfl) rfl ?_
          refine y_blk 0 tq_X8_intruder (z := (67, [(4, .int 1), (0, .ref (ad 1)), (1, .int cell), (2, .int minute), (3, .int moves)], [.ref (ad 8)])) rfl ?_
          refine y_callV hS tq_X8_intruder rfl (As := []) rfl cv_X8_290 (hXc45.1 8 _ rfl) (m_X3_count hS hXc45 ) rfl (by decide) (Nat.le_of_ble_eq_true rfl) (fun r67 Gc67 q67 => ?_) (fun E9 G9 h9 => h9.elim)
          obtain ⟨rfl, eG67⟩ := q67
          have eG67 := eG67.symm
          subst eG67
          refine y_blk 2 tq_X8_intruder (z := (72, [(4, .int 1), (0, .ref (ad 1)), (1, .int cell), (2, .int minute), (3, .int moves)], [.int ((σ45.1 16) - 1)])) rfl ?_
          exact y_iret tq_X8_intruder rfl rfl (⟨⟨_, rfl⟩, _, hXc45, (keepX.rfl'.trans hFc45), ((xkn.trans xkn.rfl' knc45)).w, (by first | exact absurd rfl hq60 | exact absurd rfl hq21 | exact ⟨⟨hq2, (by first | ((repeat' apply And.intro) <;> first | assumption | (simp only [yif0, Classical.not_not, ylt, yle, xcp0, xcp3, xcp5, xcp10, xcp12, xcp16, xcp22, yl_m1, yl_0, yl_1, yl_2, yl_3, yl_4, yl_5, yl_6, yl_7, yl_8, yl_9, yl_10, yl_11, yl_12, yl_15, yl_16, yl_20, yl_60, yl_64, yl_90, yl_97, yl_99, yl_100, yl_120, yl_239, yl_240] at *; first | omega | assumption | contradiction)))⟩, (by (have ec9 : xcap 16 = 4 := (by decide); rw [ec9] at c31; (simp only [yif0, Classical.not_not, ylt, yle, yl_m1, yl_0, yl_1, yl_2, yl_3, yl_4, yl_5, yl_6, yl_7, yl_8, yl_9, yl_10, yl_11, yl_12, yl_15, yl_16, yl_20, yl_60, yl_64, yl_90, yl_97, yl_99, yl_100, yl_120, yl_239, yl_240] at *; omega))), (by have e9 := hb_x45.resolve_left c48; rw [e9] at hR45; exact hR45), rfl⟩)⟩)
    · skip
      refine y_blk 2 tq_X8_intruder (z := (21, [(0, .ref (ad 1)), (1, .int cell), (2, .int minute), (3, .int moves)], [.int 1])) rfl ?_
      refine y_callS hS tq_X8_intruder rfl (As := [.int 1]) rfl cs_X8_117 (m_X8_needLet hS  1) rfl (by decide) (Nat.le_of_ble_eq_true rfl) (fun r21 Gc21 q21 => ?_) (fun E9 G9 h9 => ⟨(Or.inr (Or.inl h9.1.1)), σ, (by rw [h9.2]; exact hX), (by rw [h9.2]; exact keepX.rfl'), (xkn.rfl').w, Or.inr (Or.inl ⟨h9.1.1, hq2, (by first | exact absurd h9.1.2 (by decide) | (intro q9; have z9 := h9.1.2; clear h9; (simp only [yif0, Classical.not_not, ylt, yle, yl_m1, yl_0, yl_1, yl_2, yl_3, yl_4, yl_5, yl_6, yl_7, yl_8, yl_9, yl_10, yl_11, yl_12, yl_15, yl_16, yl_20, yl_60, yl_64, yl_90, yl_97, yl_99, yl_100, yl_120, yl_239, yl_240] at *; omega))), rfl⟩)⟩)
      obtain ⟨⟨rfl, hq21⟩, eG21⟩ := q21
      have eG21 := eG21.symm
      subst eG21
      refine y_blk 1 tq_X8_intruder (z := (25, [(0, .ref (ad 1)), (1, .int cell), (2, .int minute), (3, .int moves)], [.ref (ad 1)])) rfl ?_
      refine y_get hS tq_X8_intruder (v := .ref (ad 8)) rfl fg_X8_59_X8 (hX.1 1 _ rfl) rfl ?_
      refine y_blk 0 tq_X8_intruder (z := (28, [(0, .ref (ad 1)), (1, .int cell), (2, .int minute), (3, .int moves)], [.ref (ad 8)])) rfl ?_
      refine y_callV hS tq_X8_intruder rfl (As := []) rfl cv_X8_285 (hX.1 8 _ rfl) (m_X3_isFull hS hX ) rfl (by decide) (Nat.le_of_ble_eq_true rfl) (fun r28 Gc28 q28 => ?_) (fun E9 G9 h9 => h9.elim)
      obtain ⟨rfl, eG28⟩ := q28
      have eG28 := eG28.symm
      subst eG28
      refine y_blk 0 tq_X8_intruder (z := (31, [(0, .ref (ad 1)), (1, .int cell), (2, .int minute), (3, .int moves)], [.int (if (xcap 16 : Int) ≤ (σ.1 16).toInt then 1 else 0)])) rfl ?_
      refine y_if_ne tq_X8_intruder 55 rfl rfl (fun c31 => ?_) (fun c31 => ?_)
      · skip
        refine y_blk 3 tq_X8_intruder (z := (60, [(4, .int 0), (0, .ref (ad 1)), (1, .int cell), (2, .int minute), (3, .int moves)], [.int 0])) rfl ?_
        refine y_callS hS tq_X8_intruder rfl (As := [.int 0]) rfl cs_X8_128 (m_X8_needPossible hS  0) rfl (by decide) (Nat.le_of_ble_eq_true rfl) (fun r60 Gc60 q60 => ?_) (fun E9 G9 h9 => ⟨(Or.inr (Or.inr h9.1.1)), σ, (by rw [h9.2]; exact hX), (by rw [h9.2]; exact keepX.rfl'), (xkn.rfl').w, (by first | exact absurd rfl hq21 | exact absurd h9.1.2 (by decide) | exact Or.inr (Or.inr ⟨h9.1.1, ⟨hq2, (by first | ((repeat' apply And.intro) <;> first | assumption | (simp only [yif0, Classical.not_not, ylt, yle, xcp0, xcp3, xcp5, xcp10, xcp12, xcp16, xcp22, yl_m1, yl_0, yl_1, yl_2, yl_3, yl_4, yl_5, yl_6, yl_7, yl_8, yl_9, yl_10, yl_11, yl_12, yl_15, yl_16, yl_20, yl_60, yl_64, yl_90, yl_97, yl_99, yl_100, yl_120, yl_239, yl_240] at *; first | omega | assumption | contradiction)))⟩, Or.inl ⟨(by (have ec9 : xcap 16 = 4 := (by decide); rw [ec9] at c31; (simp only [yif0, Classical.not_not, ylt, yle, yl_m1, yl_0, yl_1, yl_2, yl_3, yl_4, yl_5, yl_6, yl_7, yl_8, yl_9, yl_10, yl_11, yl_12, yl_15, yl_16, yl_20, yl_60, yl_64, yl_90, yl_97, yl_99, yl_100, yl_120, yl_239, yl_240] at *; omega))), rfl⟩⟩) | exact Or.inr (Or.inr ⟨h9.1.1, ⟨hq2, (by first | ((repeat' apply And.intro) <;> first | assumption | (simp only [yif0, Classical.not_not, ylt, yle, xcp0, xcp3, xcp5, xcp10, xcp12, xcp16, xcp22, yl_m1, yl_0, yl_1, yl_2, yl_3, yl_4, yl_5, yl_6, yl_7, yl_8, yl_9, yl_10, yl_11, yl_12, yl_15, yl_16, yl_20, yl_60, yl_64, yl_90, yl_97, yl_99, yl_100, yl_120, yl_239, yl_240] at *; first | omega | assumption | contradiction)))⟩, Or.inr ⟨(by (have ec9 : xcap 16 = 4 := (by decide); rw [ec9] at c31; (simp only [yif0, Classical.not_not, ylt, yle, yl_m1, yl_0, yl_1, yl_2, yl_3, yl_4, yl_5, yl_6, yl_7, yl_8, yl_9, yl_10, yl_11, yl_12, yl_15, yl_16, yl_20, yl_60, yl_64, yl_90, yl_97, yl_99, yl_100, yl_120, yl_239, yl_240] at *; omega))), (by rw [c48] at hR45; exact hR45)⟩⟩))⟩)
        obtain ⟨⟨rfl, hq60⟩, eG60⟩ := q60
        have eG60 := eG60.symm
        subst eG60
        refine y_blk 1 tq_X8_intruder (z := (64, [(4, .int 0), (0, .ref (ad 1)), (1, .int cell), (2, .int minute), (3, .int moves)], [.ref (ad 1)])) rfl ?_
        refine y_get hS tq_X8_intruder (v := .ref (ad 8)) rfl fg_X8_59_X8 (hX.1 1 _ rfl) rfl ?_
        refine y_blk 0 tq_X8_intruder (z := (67, [(4, .int 0), (0, .ref (ad 1)), (1, .int cell), (2, .int minute), (3, .int moves)], [.ref (ad 8)])) rfl ?_
        refine y_callV hS tq_X8_intruder rfl (As := []) rfl cv_X8_290 (hX.1 8 _ rfl) (m_X3_count hS hX ) rfl (by decide) (Nat.le_of_ble_eq_true rfl) (fun r67 Gc67 q67 => ?_) (fun E9 G9 h9 => h9.elim)
        obtain ⟨rfl, eG67⟩ := q67
        have eG67 := eG67.symm
        subst eG67
        refine y_blk 2 tq_X8_intruder (z := (72, [(4, .int 0), (0, .ref (ad 1)), (1, .int cell), (2, .int minute), (3, .int moves)], [.int ((σ.1 16) - 1)])) rfl ?_
        exact y_iret tq_X8_intruder rfl rfl (⟨⟨_, rfl⟩, _, hX, keepX.rfl', (xkn.rfl').w, (by first | exact absurd rfl hq60 | exact absurd rfl hq21 | exact ⟨⟨hq2, (by first | ((repeat' apply And.intro) <;> first | assumption | (simp only [yif0, Classical.not_not, ylt, yle, xcp0, xcp3, xcp5, xcp10, xcp12, xcp16, xcp22, yl_m1, yl_0, yl_1, yl_2, yl_3, yl_4, yl_5, yl_6, yl_7, yl_8, yl_9, yl_10, yl_11, yl_12, yl_15, yl_16, yl_20, yl_60, yl_64, yl_90, yl_97, yl_99, yl_100, yl_120, yl_239, yl_240] at *; first | omega | assumption | contradiction)))⟩, (by (have ec9 : xcap 16 = 4 := (by decide); rw [ec9] at c31; (simp only [yif0, Classical.not_not, ylt, yle, yl_m1, yl_0, yl_1, yl_2, yl_3, yl_4, yl_5, yl_6, yl_7, yl_8, yl_9, yl_10, yl_11, yl_12, yl_15, yl_16, yl_20, yl_60, yl_64, yl_90, yl_97, yl_99, yl_100, yl_120, yl_239, yl_240] at *; omega))), (by have e9 := hb_x45.resolve_left c48; rw [e9] at hR45; exact hR45), rfl⟩)⟩)
      · skip
        refine y_blk 1 tq_X8_intruder (z := (35, [(0, .ref (ad 1)), (1, .int cell), (2, .int minute), (3, .int moves)], [.ref (ad 1)])) rfl ?_
        refine y_get hS tq_X8_intruder (v := .ref (ad 8)) rfl fg_X8_59_X8 (hX.1 1 _ rfl) rfl ?_
        refine y_blk 1 tq_X8_intruder (z := (39, [(0, .ref (ad 1)), (1, .int cell), (2, .int minute), (3, .int moves)], [.ref (ad 1), .ref (ad 8)])) rfl ?_
        refine y_get hS tq_X8_intruder (v := .ref (ad 2)) rfl fg_X8_10_X8 (hX.1 1 _ rfl) rfl ?_
        refine y_blk 3 tq_X8_intruder (z := (45, [(0, .ref (ad 1)), (1, .int cell), (2, .int minute), (3, .int moves)], [.int moves, .int minute, .int cell, .ref (ad 2), .ref (ad 8)])) rfl ?_
        refine y_callV hS tq_X8_intruder rfl (As := [.ref (ad 2), .int cell, .int minute, .int moves]) rfl cv_X8_286 (hX.1 8 _ rfl) (m_X3_come hS hX cell minute moves (by first | exact absurd rfl hq21 | (simp only [yif0, Classical.not_not, ylt, yle, yl_m1, yl_0, yl_1, yl_2, yl_3, yl_4, yl_5, yl_6, yl_7, yl_8, yl_9, yl_10, yl_11, yl_12, yl_15, yl_16, yl_20, yl_60, yl_64, yl_90, yl_97, yl_99, yl_100, yl_120, yl_239, yl_240] at *; omega)) (by first | exact absurd rfl hq21 | (simp only [yif0, Classical.not_not, ylt, yle, yl_m1, yl_0, yl_1, yl_2, yl_3, yl_4, yl_5, yl_6, yl_7, yl_8, yl_9, yl_10, yl_11, yl_12, yl_15, yl_16, yl_20, yl_60, yl_64, yl_90, yl_97, yl_99, yl_100, yl_120, yl_239, yl_240] at *; omega)) (by first | exact absurd rfl hq21 | (simp only [yif0, Classical.not_not, ylt, yle, yl_m1, yl_0, yl_1, yl_2, yl_3, yl_4, yl_5, yl_6, yl_7, yl_8, yl_9, yl_10, yl_11, yl_12, yl_15, yl_16, yl_20, yl_60, yl_64, yl_90, yl_97, yl_99, yl_100, yl_120, yl_239, yl_240] at *; omega)) (by first | exact absurd rfl hq21 | (have ec9 : xcap 16 = 4 := (by decide); rw [ec9] at c31; refine ⟨(hX.2.1 16).1, ?_⟩; (simp only [yif0, Classical.not_not, ylt, yle, yl_m1, yl_0, yl_1, yl_2, yl_3, yl_4, yl_5, yl_6, yl_7, yl_8, yl_9, yl_10, yl_11, yl_12, yl_15, yl_16, yl_20, yl_60, yl_64, yl_90, yl_97, yl_99, yl_100, yl_120, yl_239, yl_240] at *; omega)))) rfl (by decide) (Nat.le_of_ble_eq_true rfl) (fun r45 Gc45 q45 => ?_) (fun E9 G9 h9 => h9.elim)
        obtain ⟨⟨x45, hb_x45, rfl⟩, σ45, hXc45, hFc45, knc45, hR45⟩ := q45
        refine y_blk 0 tq_X8_intruder (z := (48, [(0, .ref (ad 1)), (1, .int cell), (2, .int minute), (3, .int moves)], [.int x45])) rfl ?_
        refine y_if_eq tq_X8_intruder 55 rfl rfl (fun c48 => ?_) (fun c48 => ?_)
        · skip
          refine y_blk 3 tq_X8_intruder (z := (60, [(4, .int 0), (0, .ref (ad 1)), (1, .int cell), (2, .int minute), (3, .int moves)], [.int 0])) rfl ?_
          refine y_callS hS tq_X8_intruder rfl (As := [.int 0]) rfl cs_X8_128 (m_X8_needPossible hS  0) rfl (by decide) (Nat.le_of_ble_eq_true rfl) (fun r60 Gc60 q60 => ?_) (fun E9 G9 h9 => ⟨(Or.inr (Or.inr h9.1.1)), σ45, (by rw [h9.2]; exact hXc45), (by rw [h9.2]; exact (keepX.rfl'.trans hFc45)), ((xkn.trans xkn.rfl' knc45)).w, (by first | exact absurd rfl hq21 | exact absurd h9.1.2 (by decide) | exact Or.inr (Or.inr ⟨h9.1.1, ⟨hq2, (by first | ((repeat' apply And.intro) <;> first | assumption | (simp only [yif0, Classical.not_not, ylt, yle, xcp0, xcp3, xcp5, xcp10, xcp12, xcp16, xcp22, yl_m1, yl_0, yl_1, yl_2, yl_3, yl_4, yl_5, yl_6, yl_7, yl_8, yl_9, yl_10, yl_11, yl_12, yl_15, yl_16, yl_20, yl_60, yl_64, yl_90, yl_97, yl_99, yl_100, yl_120, yl_239, yl_240] at *; first | omega | assumption | contradiction)))⟩, Or.inl ⟨(by (have ec9 : xcap 16 = 4 := (by decide); rw [ec9] at c31; (simp only [yif0, Classical.not_not, ylt, yle, yl_m1, yl_0, yl_1, yl_2, yl_3, yl_4, yl_5, yl_6, yl_7, yl_8, yl_9, yl_10, yl_11, yl_12, yl_15, yl_16, yl_20, yl_60, yl_64, yl_90, yl_97, yl_99, yl_100, yl_120, yl_239, yl_240] at *; omega))), rfl⟩⟩) | exact Or.inr (Or.inr ⟨h9.1.1, ⟨hq2, (by first | ((repeat' apply And.intro) <;> first | assumption | (simp only [yif0, Classical.not_not, ylt, yle, xcp0, xcp3, xcp5, xcp10, xcp12, xcp16, xcp22, yl_m1, yl_0, yl_1, yl_2, yl_3, yl_4, yl_5, yl_6, yl_7, yl_8, yl_9, yl_10, yl_11, yl_12, yl_15, yl_16, yl_20, yl_60, yl_64, yl_90, yl_97, yl_99, yl_100, yl_120, yl_239, yl_240] at *; first | omega | assumption | contradiction)))⟩, Or.inr ⟨(by (have ec9 : xcap 16 = 4 := (by decide); rw [ec9] at c31; (simp only [yif0, Classical.not_not, ylt, yle, yl_m1, yl_0, yl_1, yl_2, yl_3, yl_4, yl_5, yl_6, yl_7, yl_8, yl_9, yl_10, yl_11, yl_12, yl_15, yl_16, yl_20, yl_60, yl_64, yl_90, yl_97, yl_99, yl_100, yl_120, yl_239, yl_240] at *; omega))), (by rw [c48] at hR45; exact hR45)⟩⟩))⟩)
          obtain ⟨⟨rfl, hq60⟩, eG60⟩ := q60
          have eG60 := eG60.symm
          subst eG60
          refine y_blk 1 tq_X8_intruder (z := (64, [(4, .int 0), (0, .ref (ad 1)), (1, .int cell), (2, .int minute), (3, .int moves)], [.ref (ad 1)])) rfl ?_
          refine y_get hS tq_X8_intruder (v := .ref (ad 8)) rfl fg_X8_59_X8 (hXc45.1 1 _ rfl) rfl ?_
          refine y_blk 0 tq_X8_intruder (z := (67, [(4, .int 0), (0, .ref (ad 1)), (1, .int cell), (2, .int minute), (3, .int moves)], [.ref (ad 8)])) rfl ?_
          refine y_callV hS tq_X8_intruder rfl (As := []) rfl cv_X8_290 (hXc45.1 8 _ rfl) (m_X3_count hS hXc45 ) rfl (by decide) (Nat.le_of_ble_eq_true rfl) (fun r67 Gc67 q67 => ?_) (fun E9 G9 h9 => h9.elim)
          obtain ⟨rfl, eG67⟩ := q67
          have eG67 := eG67.symm
          subst eG67
          refine y_blk 2 tq_X8_intruder (z := (72, [(4, .int 0), (0, .ref (ad 1)), (1, .int cell), (2, .int minute), (3, .int moves)], [.int ((σ45.1 16) - 1)])) rfl ?_
          exact y_iret tq_X8_intruder rfl rfl (⟨⟨_, rfl⟩, _, hXc45, (keepX.rfl'.trans hFc45), ((xkn.trans xkn.rfl' knc45)).w, (by first | exact absurd rfl hq60 | exact absurd rfl hq21 | exact ⟨⟨hq2, (by first | ((repeat' apply And.intro) <;> first | assumption | (simp only [yif0, Classical.not_not, ylt, yle, xcp0, xcp3, xcp5, xcp10, xcp12, xcp16, xcp22, yl_m1, yl_0, yl_1, yl_2, yl_3, yl_4, yl_5, yl_6, yl_7, yl_8, yl_9, yl_10, yl_11, yl_12, yl_15, yl_16, yl_20, yl_60, yl_64, yl_90, yl_97, yl_99, yl_100, yl_120, yl_239, yl_240] at *; first | omega | assumption | contradiction)))⟩, (by (have ec9 : xcap 16 = 4 := (by decide); rw [ec9] at c31; (simp only [yif0, Classical.not_not, ylt, yle, yl_m1, yl_0, yl_1, yl_2, yl_3, yl_4, yl_5, yl_6, yl_7, yl_8, yl_9, yl_10, yl_11, yl_12, yl_15, yl_16, yl_20, yl_60, yl_64, yl_90, yl_97, yl_99, yl_100, yl_120, yl_239, yl_240] at *; omega))), (by have e9 := hb_x45.resolve_left c48; rw [e9] at hR45; exact hR45), rfl⟩)⟩)
        · skip
          refine y_blk 4 tq_X8_intruder (z := (60, [(4, .int 1), (0, .ref (ad 1)), (1, .int cell), (2, .int minute), (3, .int moves)], [.int 1])) rfl ?_
          refine y_callS hS tq_X8_intruder rfl (As := [.int 1]) rfl cs_X8_128 (m_X8_needPossible hS  1) rfl (by decide) (Nat.le_of_ble_eq_true rfl) (fun r60 Gc60 q60 => ?_) (fun E9 G9 h9 => ⟨(Or.inr (Or.inr h9.1.1)), σ45, (by rw [h9.2]; exact hXc45), (by rw [h9.2]; exact (keepX.rfl'.trans hFc45)), ((xkn.trans xkn.rfl' knc45)).w, (by first | exact absurd rfl hq21 | exact absurd h9.1.2 (by decide) | exact Or.inr (Or.inr ⟨h9.1.1, ⟨hq2, (by first | ((repeat' apply And.intro) <;> first | assumption | (simp only [yif0, Classical.not_not, ylt, yle, xcp0, xcp3, xcp5, xcp10, xcp12, xcp16, xcp22, yl_m1, yl_0, yl_1, yl_2, yl_3, yl_4, yl_5, yl_6, yl_7, yl_8, yl_9, yl_10, yl_11, yl_12, yl_15, yl_16, yl_20, yl_60, yl_64, yl_90, yl_97, yl_99, yl_100, yl_120, yl_239, yl_240] at *; first | omega | assumption | contradiction)))⟩, Or.inl ⟨(by (have ec9 : xcap 16 = 4 := (by decide); rw [ec9] at c31; (simp only [yif0, Classical.not_not, ylt, yle, yl_m1, yl_0, yl_1, yl_2, yl_3, yl_4, yl_5, yl_6, yl_7, yl_8, yl_9, yl_10, yl_11, yl_12, yl_15, yl_16, yl_20, yl_60, yl_64, yl_90, yl_97, yl_99, yl_100, yl_120, yl_239, yl_240] at *; omega))), rfl⟩⟩) | exact Or.inr (Or.inr ⟨h9.1.1, ⟨hq2, (by first | ((repeat' apply And.intro) <;> first | assumption | (simp only [yif0, Classical.not_not, ylt, yle, xcp0, xcp3, xcp5, xcp10, xcp12, xcp16, xcp22, yl_m1, yl_0, yl_1, yl_2, yl_3, yl_4, yl_5, yl_6, yl_7, yl_8, yl_9, yl_10, yl_11, yl_12, yl_15, yl_16, yl_20, yl_60, yl_64, yl_90, yl_97, yl_99, yl_100, yl_120, yl_239, yl_240] at *; first | omega | assumption | contradiction)))⟩, Or.inr ⟨(by (have ec9 : xcap 16 = 4 := (by decide); rw [ec9] at c31; (simp only [yif0, Classical.not_not, ylt, yle, yl_m1, yl_0, yl_1, yl_2, yl_3, yl_4, yl_5, yl_6, yl_7, yl_8, yl_9, yl_10, yl_11, yl_12, yl_15, yl_16, yl_20, yl_60, yl_64, yl_90, yl_97, yl_99, yl_100, yl_120, yl_239, yl_240] at *; omega))), (by rw [c48] at hR45; exact hR45)⟩⟩))⟩)
          obtain ⟨⟨rfl, hq60⟩, eG60⟩ := q60
          have eG60 := eG60.symm
          subst eG60
          refine y_blk 1 tq_X8_intruder (z := (64, [(4, .int 1), (0, .ref (ad 1)), (1, .int cell), (2, .int minute), (3, .int moves)], [.ref (ad 1)])) rfl ?_
          refine y_get hS tq_X8_intruder (v := .ref (ad 8)) rfl fg_X8_59_X8 (hXc45.1 1 _ rfl) rfl ?_
          refine y_blk 0 tq_X8_intruder (z := (67, [(4, .int 1), (0, .ref (ad 1)), (1, .int cell), (2, .int minute), (3, .int moves)], [.ref (ad 8)])) rfl ?_
          refine y_callV hS tq_X8_intruder rfl (As := []) rfl cv_X8_290 (hXc45.1 8 _ rfl) (m_X3_count hS hXc45 ) rfl (by decide) (Nat.le_of_ble_eq_true rfl) (fun r67 Gc67 q67 => ?_) (fun E9 G9 h9 => h9.elim)
          obtain ⟨rfl, eG67⟩ := q67
          have eG67 := eG67.symm
          subst eG67
          refine y_blk 2 tq_X8_intruder (z := (72, [(4, .int 1), (0, .ref (ad 1)), (1, .int cell), (2, .int minute), (3, .int moves)], [.int ((σ45.1 16) - 1)])) rfl ?_
          exact y_iret tq_X8_intruder rfl rfl (⟨⟨_, rfl⟩, _, hXc45, (keepX.rfl'.trans hFc45), ((xkn.trans xkn.rfl' knc45)).w, (by first | exact absurd rfl hq60 | exact absurd rfl hq21 | exact ⟨⟨hq2, (by first | ((repeat' apply And.intro) <;> first | assumption | (simp only [yif0, Classical.not_not, ylt, yle, xcp0, xcp3, xcp5, xcp10, xcp12, xcp16, xcp22, yl_m1, yl_0, yl_1, yl_2, yl_3, yl_4, yl_5, yl_6, yl_7, yl_8, yl_9, yl_10, yl_11, yl_12, yl_15, yl_16, yl_20, yl_60, yl_64, yl_90, yl_97, yl_99, yl_100, yl_120, yl_239, yl_240] at *; first | omega | assumption | contradiction)))⟩, (by (have ec9 : xcap 16 = 4 := (by decide); rw [ec9] at c31; (simp only [yif0, Classical.not_not, ylt, yle, yl_m1, yl_0, yl_1, yl_2, yl_3, yl_4, yl_5, yl_6, yl_7, yl_8, yl_9, yl_10, yl_11, yl_12, yl_15, yl_16, yl_20, yl_60, yl_64, yl_90, yl_97, yl_99, yl_100, yl_120, yl_239, yl_240] at *; omega))), (by have e9 := hb_x45.resolve_left c48; rw [e9] at hR45; exact hR45), rfl⟩)⟩)
set_option maxHeartbeats 4000000 in
set_option maxRecDepth 100000 in
theorem m_X8_needLet_ok {l : Launch} {S0 : State} {A0 : Array Value} {D : va_G} {aC : Nat → ClassId} {G : AH} (hS : yS l S0 A0 D aC) (isLet : Int32) (h : ¬ isLet = 0) : yM l S0 D yX8_needLet cX8_needLet 1 none 10 0 0 [.int isLet] G (fun r G1 => r = none ∧ G1 = G) (fun _ _ => False) := by
  refine yM.ofK K_X8_needLet rfl (by decide) (Nat.le_of_ble_eq_true rfl) ?_
  refine y_blk 1 tq_X8_needLet (z := (1, [(0, .int isLet)], [.int isLet])) rfl ?_
  refine y_if_ne tq_X8_needLet 15 rfl rfl (fun c1 => ?_) (fun c1 => ?_)
  · skip
    refine y_blk 0 tq_X8_needLet (z := (15, [(0, .int isLet)], [])) rfl ?_
    exact y_vret tq_X8_needLet rfl rfl (⟨rfl, rfl⟩)
  · exact absurd c1 (by exact h)
set_option maxHeartbeats 4000000 in
set_option maxRecDepth 100000 in
theorem m_X8_needThere_ok {l : Launch} {S0 : State} {A0 : Array Value} {D : va_G} {aC : Nat → ClassId} {G : AH} (hS : yS l S0 A0 D aC) (number : Int32) (count : Int32) (h : 0 ≤ number ∧ number ≤ count - 1) : yM l S0 D yX8_needThere cX8_needThere 2 none 11 0 0 [.int number, .int count] G (fun r G1 => r = none ∧ G1 = G) (fun _ _ => False) := by
  refine yM.ofK K_X8_needThere rfl (by decide) (Nat.le_of_ble_eq_true rfl) ?_
  refine y_blk 5 tq_X8_needThere (z := (5, [(0, .int number), (1, .int count)], [.int (count - 1), .int 0, .int number])) rfl ?_
  refine y_callS hS tq_X8_needThere rfl (As := [.int number, .int 0, .int (count - 1)]) rfl cs_X8_76 (m_X8_isIn hS  number 0 (count - 1)) rfl (by decide) (Nat.le_of_ble_eq_true rfl) (fun r5 Gc5 q5 => ?_) (fun E9 G9 h9 => h9.elim)
  obtain ⟨rfl, eG5⟩ := q5
  have eG5 := eG5.symm
  subst eG5
  refine y_blk 0 tq_X8_needThere (z := (8, [(0, .int number), (1, .int count)], [.int (if 0 ≤ number ∧ number ≤ (count - 1) then 1 else 0)])) rfl ?_
  refine y_if_ne tq_X8_needThere 22 rfl rfl (fun c8 => ?_) (fun c8 => ?_)
  · skip
    refine y_blk 0 tq_X8_needThere (z := (22, [(0, .int number), (1, .int count)], [])) rfl ?_
    exact y_vret tq_X8_needThere rfl rfl (⟨rfl, rfl⟩)
  · exact absurd c8 (by rw [if_pos h]; decide)
set_option maxHeartbeats 4000000 in
set_option maxRecDepth 100000 in
theorem m_X8_needCell_ok {l : Launch} {S0 : State} {A0 : Array Value} {D : va_G} {aC : Nat → ClassId} {ad : Nat → Nat} {G : AH} {σ : XS} (hS : yS l S0 A0 D aC) (hX : atX aC ad G σ) (number : Int32) (h : 0 ≤ number ∧ number ≤ σ.2.2.1 0 * σ.2.2.1 1 - 1) : yM l S0 D yX8_needCell cX8_needCell 2 none 12 0 0 [.ref (ad 1), .int number] G (fun r G1 => r = none ∧ G1 = G) (fun _ _ => False) := by
  refine yM.ofK K_X8_needCell rfl (by decide) (Nat.le_of_ble_eq_true rfl) ?_
  refine y_blk 2 tq_X8_needCell (z := (2, [(0, .ref (ad 1)), (1, .int number)], [.ref (ad 1), .int number])) rfl ?_
  refine y_get hS tq_X8_needCell (v := .ref (ad 2)) rfl fg_X8_10_X8 (hX.1 1 _ rfl) rfl ?_
  refine y_blk 0 tq_X8_needCell (z := (5, [(0, .ref (ad 1)), (1, .int number)], [.ref (ad 2), .int number])) rfl ?_
  refine y_callV hS tq_X8_needCell rfl (As := []) rfl cv_X8_350 (hX.1 2 _ rfl) (m_X1_cells hS hX ) rfl (by decide) (Nat.le_of_ble_eq_true rfl) (fun r5 Gc5 q5 => ?_) (fun E9 G9 h9 => h9.elim)
  obtain ⟨rfl, eG5⟩ := q5
  have eG5 := eG5.symm
  subst eG5
  refine y_blk 0 tq_X8_needCell (z := (8, [(0, .ref (ad 1)), (1, .int number)], [.int ((σ.2.2.1 0) * (σ.2.2.1 1)), .int number])) rfl ?_
  refine y_callS hS tq_X8_needCell rfl (As := [.int number, .int ((σ.2.2.1 0) * (σ.2.2.1 1))]) rfl cs_X8_164 (m_X8_needThere_ok hS  number ((σ.2.2.1 0) * (σ.2.2.1 1)) (by first | decide | (rw [if_pos (by assumption)]; decide) | assumption | (exfalso; (simp only [yif0, Classical.not_not, ylt, yle, yl_m1, yl_0, yl_1, yl_2, yl_3, yl_4, yl_5, yl_6, yl_7, yl_8, yl_9, yl_10, yl_11, yl_12, yl_15, yl_16, yl_20, yl_60, yl_64, yl_90, yl_97, yl_99, yl_100, yl_120, yl_239, yl_240] at *; omega)))) rfl (by decide) (Nat.le_of_ble_eq_true rfl) (fun r8 Gc8 q8 => ?_) (fun E9 G9 h9 => h9.elim)
  obtain ⟨rfl, eG8⟩ := q8
  have eG8 := eG8.symm
  subst eG8
  refine y_blk 0 tq_X8_needCell (z := (11, [(0, .ref (ad 1)), (1, .int number)], [])) rfl ?_
  exact y_vret tq_X8_needCell rfl rfl (⟨rfl, rfl⟩)
set_option maxHeartbeats 4000000 in
set_option maxRecDepth 100000 in
theorem m_X8_many_ok {l : Launch} {S0 : State} {A0 : Array Value} {D : va_G} {aC : Nat → ClassId} {ad : Nat → Nat} {G : AH} {σ : XS} (hS : yS l S0 A0 D aC) (hX : atX aC ad G σ) (what : Int32) (h : 0 ≤ what ∧ what ≤ 12) : yM l S0 D yX8_many cX8_many 2 (some .int) 15 0 0 [.ref (ad 1), .int what] G (fun r G1 => (∃ v : Int32, r = some (.int v)) ∧ G1 = G) (fun _ _ => False) := by
  refine yM.ofK K_X8_many rfl (by decide) (Nat.le_of_ble_eq_true rfl) ?_
  refine y_blk 3 tq_X8_many (z := (4, [(0, .ref (ad 1)), (1, .int what)], [.int 12, .int 0, .int what])) rfl ?_
  refine y_callS hS tq_X8_many rfl (As := [.int what, .int 0, .int 12]) rfl cs_X8_76 (m_X8_isIn hS  what 0 12) rfl (by decide) (Nat.le_of_ble_eq_true rfl) (fun r4 Gc4 q4 => ?_) (fun E9 G9 h9 => h9.elim)
  obtain ⟨rfl, eG4⟩ := q4
  have eG4 := eG4.symm
  subst eG4
  refine y_blk 0 tq_X8_many (z := (7, [(0, .ref (ad 1)), (1, .int what)], [.int (if 0 ≤ what ∧ what ≤ 12 then 1 else 0)])) rfl ?_
  refine y_callS hS tq_X8_many rfl (As := [.int (if 0 ≤ what ∧ what ≤ 12 then 1 else 0)]) rfl cs_X8_117 (m_X8_needLet_ok hS  (if 0 ≤ what ∧ what ≤ 12 then 1 else 0) (by first | decide | (rw [if_pos (by assumption)]; decide) | assumption | (exfalso; (simp only [yif0, Classical.not_not, ylt, yle, yl_m1, yl_0, yl_1, yl_2, yl_3, yl_4, yl_5, yl_6, yl_7, yl_8, yl_9, yl_10, yl_11, yl_12, yl_15, yl_16, yl_20, yl_60, yl_64, yl_90, yl_97, yl_99, yl_100, yl_120, yl_239, yl_240] at *; omega)))) rfl (by decide) (Nat.le_of_ble_eq_true rfl) (fun r7 Gc7 q7 => ?_) (fun E9 G9 h9 => h9.elim)
  obtain ⟨rfl, eG7⟩ := q7
  have eG7 := eG7.symm
  subst eG7
  refine y_blk 1 tq_X8_many (z := (11, [(0, .ref (ad 1)), (1, .int what)], [.int what])) rfl ?_
  by_cases s11_0 : what = 0
  · refine y_swIn tq_X8_many 72 rfl (by rw [s11_0]; decide) (by rw [s11_0]; decide) (by rw [s11_0]; rfl) rfl ?_
    refine y_blk 1 tq_X8_many (z := (73, [(0, .ref (ad 1)), (1, .int what)], [.ref (ad 1)])) rfl ?_
    refine y_get hS tq_X8_many (v := .ref (ad 2)) rfl fg_X8_10_X8 (hX.1 1 _ rfl) rfl ?_
    refine y_blk 0 tq_X8_many (z := (76, [(0, .ref (ad 1)), (1, .int what)], [.ref (ad 2)])) rfl ?_
    refine y_callV hS tq_X8_many rfl (As := []) rfl cv_X8_350 (hX.1 2 _ rfl) (m_X1_cells hS hX ) rfl (by decide) (Nat.le_of_ble_eq_true rfl) (fun r76 Gc76 q76 => ?_) (fun E9 G9 h9 => h9.elim)
    obtain ⟨rfl, eG76⟩ := q76
    have eG76 := eG76.symm
    subst eG76
    refine y_blk 0 tq_X8_many (z := (79, [(0, .ref (ad 1)), (1, .int what)], [.int ((σ.2.2.1 0) * (σ.2.2.1 1))])) rfl ?_
    exact y_iret tq_X8_many rfl rfl (⟨⟨_, rfl⟩, rfl⟩)
  by_cases s11_1 : what = 1
  · refine y_swIn tq_X8_many 80 rfl (by rw [s11_1]; decide) (by rw [s11_1]; decide) (by rw [s11_1]; rfl) rfl ?_
    refine y_blk 1 tq_X8_many (z := (81, [(0, .ref (ad 1)), (1, .int what)], [.ref (ad 1)])) rfl ?_
    refine y_get hS tq_X8_many (v := .ref (ad 4)) rfl fg_X8_19_X8 (hX.1 1 _ rfl) rfl ?_
    refine y_blk 0 tq_X8_many (z := (84, [(0, .ref (ad 1)), (1, .int what)], [.ref (ad 4)])) rfl ?_
    refine y_callV hS tq_X8_many rfl (As := []) rfl cv_X8_161 (hX.1 4 _ rfl) (m_X4_count hS hX ) rfl (by decide) (Nat.le_of_ble_eq_true rfl) (fun r84 Gc84 q84 => ?_) (fun E9 G9 h9 => h9.elim)
    obtain ⟨rfl, eG84⟩ := q84
    have eG84 := eG84.symm
    subst eG84
    refine y_blk 0 tq_X8_many (z := (87, [(0, .ref (ad 1)), (1, .int what)], [.int (σ.1 0)])) rfl ?_
    exact y_iret tq_X8_many rfl rfl (⟨⟨_, rfl⟩, rfl⟩)
  by_cases s11_2 : what = 2
  · refine y_swIn tq_X8_many 88 rfl (by rw [s11_2]; decide) (by rw [s11_2]; decide) (by rw [s11_2]; rfl) rfl ?_
    refine y_blk 1 tq_X8_many (z := (89, [(0, .ref (ad 1)), (1, .int what)], [.ref (ad 1)])) rfl ?_
    refine y_get hS tq_X8_many (v := .ref (ad 4)) rfl fg_X8_19_X8 (hX.1 1 _ rfl) rfl ?_
    refine y_blk 0 tq_X8_many (z := (92, [(0, .ref (ad 1)), (1, .int what)], [.ref (ad 4)])) rfl ?_
    refine y_callV hS tq_X8_many rfl (As := []) rfl cv_X8_356 (hX.1 4 _ rfl) (m_X4_countLit hS hX ) rfl (by decide) (Nat.le_of_ble_eq_true rfl) (fun r92 Gc92 q92 => ?_) (fun E9 G9 h9 => h9.elim)
    obtain ⟨⟨x92, rfl⟩, eG92⟩ := q92
    have eG92 := eG92.symm
    subst eG92
    refine y_blk 0 tq_X8_many (z := (95, [(0, .ref (ad 1)), (1, .int what)], [.int x92])) rfl ?_
    exact y_iret tq_X8_many rfl rfl (⟨⟨_, rfl⟩, rfl⟩)
  by_cases s11_3 : what = 3
  · refine y_swIn tq_X8_many 96 rfl (by rw [s11_3]; decide) (by rw [s11_3]; decide) (by rw [s11_3]; rfl) rfl ?_
    refine y_blk 1 tq_X8_many (z := (97, [(0, .ref (ad 1)), (1, .int what)], [.ref (ad 1)])) rfl ?_
    refine y_get hS tq_X8_many (v := .ref (ad 6)) rfl fg_X8_33_X8 (hX.1 1 _ rfl) rfl ?_
    refine y_blk 0 tq_X8_many (z := (100, [(0, .ref (ad 1)), (1, .int what)], [.ref (ad 6)])) rfl ?_
    refine y_callV hS tq_X8_many rfl (As := []) rfl cv_X8_182 (hX.1 6 _ rfl) (m_X2_count hS hX ) rfl (by decide) (Nat.le_of_ble_eq_true rfl) (fun r100 Gc100 q100 => ?_) (fun E9 G9 h9 => h9.elim)
    obtain ⟨rfl, eG100⟩ := q100
    have eG100 := eG100.symm
    subst eG100
    refine y_blk 0 tq_X8_many (z := (103, [(0, .ref (ad 1)), (1, .int what)], [.int (σ.1 5)])) rfl ?_
    exact y_iret tq_X8_many rfl rfl (⟨⟨_, rfl⟩, rfl⟩)
  by_cases s11_4 : what = 4
  · refine y_swIn tq_X8_many 104 rfl (by rw [s11_4]; decide) (by rw [s11_4]; decide) (by rw [s11_4]; rfl) rfl ?_
    refine y_blk 1 tq_X8_many (z := (105, [(0, .ref (ad 1)), (1, .int what)], [.ref (ad 1)])) rfl ?_
    refine y_get hS tq_X8_many (v := .ref (ad 120)) rfl fg_X8_42_X8 (hX.1 1 _ rfl) rfl ?_
    refine y_blk 0 tq_X8_many (z := (108, [(0, .ref (ad 1)), (1, .int what)], [.ref (ad 120)])) rfl ?_
    refine y_callV hS tq_X8_many rfl (As := []) rfl cv_X8_193 (hX.num (k := 10) (by decide)) (m_X5_size hS hX (k := 10) (by decide) ) rfl (by decide) (Nat.le_of_ble_eq_true rfl) (fun r108 Gc108 q108 => ?_) (fun E9 G9 h9 => h9.elim)
    obtain ⟨rfl, eG108⟩ := q108
    have eG108 := eG108.symm
    subst eG108
    refine y_blk 0 tq_X8_many (z := (111, [(0, .ref (ad 1)), (1, .int what)], [.int (σ.1 10)])) rfl ?_
    exact y_iret tq_X8_many rfl rfl (⟨⟨_, rfl⟩, rfl⟩)
  by_cases s11_5 : what = 5
  · refine y_swIn tq_X8_many 112 rfl (by rw [s11_5]; decide) (by rw [s11_5]; decide) (by rw [s11_5]; rfl) rfl ?_
    refine y_blk 1 tq_X8_many (z := (113, [(0, .ref (ad 1)), (1, .int what)], [.ref (ad 1)])) rfl ?_
    refine y_get hS tq_X8_many (v := .ref (ad 8)) rfl fg_X8_59_X8 (hX.1 1 _ rfl) rfl ?_
    refine y_blk 0 tq_X8_many (z := (116, [(0, .ref (ad 1)), (1, .int what)], [.ref (ad 8)])) rfl ?_
    refine y_callV hS tq_X8_many rfl (As := []) rfl cv_X8_290 (hX.1 8 _ rfl) (m_X3_count hS hX ) rfl (by decide) (Nat.le_of_ble_eq_true rfl) (fun r116 Gc116 q116 => ?_) (fun E9 G9 h9 => h9.elim)
    obtain ⟨rfl, eG116⟩ := q116
    have eG116 := eG116.symm
    subst eG116
    refine y_blk 0 tq_X8_many (z := (119, [(0, .ref (ad 1)), (1, .int what)], [.int (σ.1 16)])) rfl ?_
    exact y_iret tq_X8_many rfl rfl (⟨⟨_, rfl⟩, rfl⟩)
  by_cases s11_6 : what = 6
  · refine y_swIn tq_X8_many 120 rfl (by rw [s11_6]; decide) (by rw [s11_6]; decide) (by rw [s11_6]; rfl) rfl ?_
    refine y_blk 1 tq_X8_many (z := (121, [(0, .ref (ad 1)), (1, .int what)], [.ref (ad 1)])) rfl ?_
    refine y_callV hS tq_X8_many rfl (As := []) rfl cv_X8_359 (hX.1 1 _ rfl) (m_X8_countFound hS hX ) rfl (by decide) (Nat.le_of_ble_eq_true rfl) (fun r121 Gc121 q121 => ?_) (fun E9 G9 h9 => h9.elim)
    obtain ⟨⟨x121, rfl⟩, eG121⟩ := q121
    have eG121 := eG121.symm
    subst eG121
    refine y_blk 0 tq_X8_many (z := (124, [(0, .ref (ad 1)), (1, .int what)], [.int x121])) rfl ?_
    exact y_iret tq_X8_many rfl rfl (⟨⟨_, rfl⟩, rfl⟩)
  by_cases s11_7 : what = 7
  · refine y_swIn tq_X8_many 125 rfl (by rw [s11_7]; decide) (by rw [s11_7]; decide) (by rw [s11_7]; rfl) rfl ?_
    refine y_blk 1 tq_X8_many (z := (126, [(0, .ref (ad 1)), (1, .int what)], [.ref (ad 1)])) rfl ?_
    refine y_get hS tq_X8_many (v := .ref (ad 9)) rfl fg_X8_66_X8 (hX.1 1 _ rfl) rfl ?_
    refine y_blk 0 tq_X8_many (z := (129, [(0, .ref (ad 1)), (1, .int what)], [.ref (ad 9)])) rfl ?_
    refine y_callV hS tq_X8_many rfl (As := []) rfl cv_X8_326 (hX.1 9 _ rfl) (m_X6_count hS hX ) rfl (by decide) (Nat.le_of_ble_eq_true rfl) (fun r129 Gc129 q129 => ?_) (fun E9 G9 h9 => h9.elim)
    obtain ⟨rfl, eG129⟩ := q129
    have eG129 := eG129.symm
    subst eG129
    refine y_blk 0 tq_X8_many (z := (132, [(0, .ref (ad 1)), (1, .int what)], [.int (σ.1 22)])) rfl ?_
    exact y_iret tq_X8_many rfl rfl (⟨⟨_, rfl⟩, rfl⟩)
  by_cases s11_8 : what = 8
  · refine y_swIn tq_X8_many 133 rfl (by rw [s11_8]; decide) (by rw [s11_8]; decide) (by rw [s11_8]; rfl) rfl ?_
    refine y_blk 2 tq_X8_many (z := (136, [(0, .ref (ad 1)), (1, .int what)], [.ref (ad 1), .int 6])) rfl ?_
    refine y_get hS tq_X8_many (v := .ref (ad 130)) rfl fg_X8_53_X8 (hX.1 1 _ rfl) rfl ?_
    refine y_blk 1 tq_X8_many (z := (140, [(0, .ref (ad 1)), (1, .int what)], [.int (-1), .ref (ad 130), .int 6])) rfl ?_
    refine y_callV hS tq_X8_many rfl (As := [.int (-1)]) rfl cv_X8_362 (hX.num (k := 15) (by decide)) (m_X5_countOf hS hX (k := 15) (by decide) (-1)) rfl (by decide) (Nat.le_of_ble_eq_true rfl) (fun r140 Gc140 q140 => ?_) (fun E9 G9 h9 => h9.elim)
    obtain ⟨⟨x140, rfl⟩, eG140⟩ := q140
    have eG140 := eG140.symm
    subst eG140
    refine y_blk 1 tq_X8_many (z := (144, [(0, .ref (ad 1)), (1, .int what)], [.int (6 - x140)])) rfl ?_
    exact y_iret tq_X8_many rfl rfl (⟨⟨_, rfl⟩, rfl⟩)
  by_cases s11_9 : what = 9
  · refine y_swIn tq_X8_many 145 rfl (by rw [s11_9]; decide) (by rw [s11_9]; decide) (by rw [s11_9]; rfl) rfl ?_
    refine y_blk 1 tq_X8_many (z := (146, [(0, .ref (ad 1)), (1, .int what)], [.ref (ad 1)])) rfl ?_
    refine y_get hS tq_X8_many (v := .ref (ad 7)) rfl fg_X8_49_X8 (hX.1 1 _ rfl) rfl ?_
    refine y_blk 0 tq_X8_many (z := (149, [(0, .ref (ad 1)), (1, .int what)], [.ref (ad 7)])) rfl ?_
    refine y_callV hS tq_X8_many rfl (As := []) rfl cv_X8_365 (hX.1 7 _ rfl) (m_X7_leaks hS hX ) rfl (by decide) (Nat.le_of_ble_eq_true rfl) (fun r149 Gc149 q149 => ?_) (fun E9 G9 h9 => h9.elim)
    obtain ⟨rfl, eG149⟩ := q149
    have eG149 := eG149.symm
    subst eG149
    refine y_blk 0 tq_X8_many (z := (152, [(0, .ref (ad 1)), (1, .int what)], [.int (σ.1 12)])) rfl ?_
    exact y_iret tq_X8_many rfl rfl (⟨⟨_, rfl⟩, rfl⟩)
  by_cases s11_10 : what = 10
  · refine y_swIn tq_X8_many 153 rfl (by rw [s11_10]; decide) (by rw [s11_10]; decide) (by rw [s11_10]; rfl) rfl ?_
    refine y_blk 1 tq_X8_many (z := (154, [(0, .ref (ad 1)), (1, .int what)], [.ref (ad 1)])) rfl ?_
    refine y_get hS tq_X8_many (v := .ref (ad 7)) rfl fg_X8_49_X8 (hX.1 1 _ rfl) rfl ?_
    refine y_blk 0 tq_X8_many (z := (157, [(0, .ref (ad 1)), (1, .int what)], [.ref (ad 7)])) rfl ?_
    refine y_callV hS tq_X8_many rfl (As := []) rfl cv_X8_368 (hX.1 7 _ rfl) (m_X7_rightAnswers hS hX ) rfl (by decide) (Nat.le_of_ble_eq_true rfl) (fun r157 Gc157 q157 => ?_) (fun E9 G9 h9 => h9.elim)
    obtain ⟨rfl, eG157⟩ := q157
    have eG157 := eG157.symm
    subst eG157
    refine y_blk 0 tq_X8_many (z := (160, [(0, .ref (ad 1)), (1, .int what)], [.int (σ.2.2.1 6)])) rfl ?_
    exact y_iret tq_X8_many rfl rfl (⟨⟨_, rfl⟩, rfl⟩)
  by_cases s11_11 : what = 11
  · refine y_swIn tq_X8_many 161 rfl (by rw [s11_11]; decide) (by rw [s11_11]; decide) (by rw [s11_11]; rfl) rfl ?_
    refine y_blk 1 tq_X8_many (z := (162, [(0, .ref (ad 1)), (1, .int what)], [.ref (ad 1)])) rfl ?_
    refine y_callV hS tq_X8_many rfl (As := []) rfl cv_X8_371 (hX.1 1 _ rfl) (m_X8_countMinutesOfEmptyPosts hS hX ) rfl (by decide) (Nat.le_of_ble_eq_true rfl) (fun r162 Gc162 q162 => ?_) (fun E9 G9 h9 => h9.elim)
    obtain ⟨⟨x162, rfl⟩, eG162⟩ := q162
    have eG162 := eG162.symm
    subst eG162
    refine y_blk 0 tq_X8_many (z := (165, [(0, .ref (ad 1)), (1, .int what)], [.int x162])) rfl ?_
    exact y_iret tq_X8_many rfl rfl (⟨⟨_, rfl⟩, rfl⟩)
  refine y_swOut tq_X8_many 166 rfl (by have z0 : what.toInt ≠ 0 := fun q => s11_0 (Int32.toInt_inj.mp (q.trans (by decide))); have z1 : what.toInt ≠ 1 := fun q => s11_1 (Int32.toInt_inj.mp (q.trans (by decide))); have z2 : what.toInt ≠ 2 := fun q => s11_2 (Int32.toInt_inj.mp (q.trans (by decide))); have z3 : what.toInt ≠ 3 := fun q => s11_3 (Int32.toInt_inj.mp (q.trans (by decide))); have z4 : what.toInt ≠ 4 := fun q => s11_4 (Int32.toInt_inj.mp (q.trans (by decide))); have z5 : what.toInt ≠ 5 := fun q => s11_5 (Int32.toInt_inj.mp (q.trans (by decide))); have z6 : what.toInt ≠ 6 := fun q => s11_6 (Int32.toInt_inj.mp (q.trans (by decide))); have z7 : what.toInt ≠ 7 := fun q => s11_7 (Int32.toInt_inj.mp (q.trans (by decide))); have z8 : what.toInt ≠ 8 := fun q => s11_8 (Int32.toInt_inj.mp (q.trans (by decide))); have z9 : what.toInt ≠ 9 := fun q => s11_9 (Int32.toInt_inj.mp (q.trans (by decide))); have z10 : what.toInt ≠ 10 := fun q => s11_10 (Int32.toInt_inj.mp (q.trans (by decide))); have z11 : what.toInt ≠ 11 := fun q => s11_11 (Int32.toInt_inj.mp (q.trans (by decide))); omega) rfl ?_
  refine y_blk 1 tq_X8_many (z := (167, [(0, .ref (ad 1)), (1, .int what)], [.ref (ad 1)])) rfl ?_
  refine y_get hS tq_X8_many (v := .int (σ.2.2.1 7)) rfl fg_X8_374_X8 (hX.1 1 _ rfl) rfl ?_
  refine y_blk 0 tq_X8_many (z := (170, [(0, .ref (ad 1)), (1, .int what)], [.int (σ.2.2.1 7)])) rfl ?_
  exact y_iret tq_X8_many rfl rfl (⟨⟨_, rfl⟩, rfl⟩)
set_option maxHeartbeats 4000000 in
set_option maxRecDepth 100000 in
theorem m_X8_ofMinute_ok {l : Launch} {S0 : State} {A0 : Array Value} {D : va_G} {aC : Nat → ClassId} {ad : Nat → Nat} {G : AH} {σ : XS} (hS : yS l S0 A0 D aC) (hX : atX aC ad G σ) (minute : Int32) (what : Int32) (h1 : 0 ≤ minute ∧ minute ≤ 239) (h2 : 0 ≤ what ∧ what ≤ 6) : yM l S0 D yX8_ofMinute cX8_ofMinute 3 (some .int) 14 0 0 [.ref (ad 1), .int minute, .int what] G (fun r G1 => (∃ v : Int32, r = some (.int v)) ∧ G1 = G) (fun _ _ => False) := by
  refine yM.ofK K_X8_ofMinute rfl (by decide) (Nat.le_of_ble_eq_true rfl) ?_
  refine y_blk 1 tq_X8_ofMinute (z := (1, [(0, .ref (ad 1)), (1, .int minute), (2, .int what)], [.int minute])) rfl ?_
  refine y_callS hS tq_X8_ofMinute rfl (As := [.int minute]) rfl cs_X8_139 (m_X8_isMinute hS  minute) rfl (by decide) (Nat.le_of_ble_eq_true rfl) (fun r1 Gc1 q1 => ?_) (fun E9 G9 h9 => h9.elim)
  obtain ⟨rfl, eG1⟩ := q1
  have eG1 := eG1.symm
  subst eG1
  refine y_blk 0 tq_X8_ofMinute (z := (4, [(0, .ref (ad 1)), (1, .int minute), (2, .int what)], [.int (if 0 ≤ minute ∧ minute ≤ 239 then 1 else 0)])) rfl ?_
  refine y_if_eq tq_X8_ofMinute 21 rfl rfl (fun c4 => ?_) (fun c4 => ?_)
  · skip
    refine y_blk 1 tq_X8_ofMinute (z := (22, [(0, .ref (ad 1)), (1, .int minute), (2, .int what)], [.int 0])) rfl ?_
    refine y_callS hS tq_X8_ofMinute rfl (As := [.int 0]) rfl cs_X8_117 (m_X8_needLet_ok hS  0 (by first | decide | (rw [if_pos (by assumption)]; decide) | assumption | (exfalso; (simp only [yif0, Classical.not_not, ylt, yle, yl_m1, yl_0, yl_1, yl_2, yl_3, yl_4, yl_5, yl_6, yl_7, yl_8, yl_9, yl_10, yl_11, yl_12, yl_15, yl_16, yl_20, yl_60, yl_64, yl_90, yl_97, yl_99, yl_100, yl_120, yl_239, yl_240] at *; omega)))) rfl (by decide) (Nat.le_of_ble_eq_true rfl) (fun r22 Gc22 q22 => ?_) (fun E9 G9 h9 => h9.elim)
    obtain ⟨rfl, eG22⟩ := q22
    have eG22 := eG22.symm
    subst eG22
    refine y_blk 1 tq_X8_ofMinute (z := (26, [(0, .ref (ad 1)), (1, .int minute), (2, .int what)], [.int what])) rfl ?_
    by_cases s26_0 : what = 0
    · refine y_swIn tq_X8_ofMinute 64 rfl (by rw [s26_0]; decide) (by rw [s26_0]; decide) (by rw [s26_0]; rfl) rfl ?_
      refine y_blk 1 tq_X8_ofMinute (z := (65, [(0, .ref (ad 1)), (1, .int minute), (2, .int what)], [.ref (ad 1)])) rfl ?_
      refine y_get hS tq_X8_ofMinute (v := .ref (ad 5)) rfl fg_X8_26_X8 (hX.1 1 _ rfl) rfl ?_
      refine y_blk 1 tq_X8_ofMinute (z := (69, [(0, .ref (ad 1)), (1, .int minute), (2, .int what)], [.int minute, .ref (ad 5)])) rfl ?_
      refine y_callV hS tq_X8_ofMinute rfl (As := [.int minute]) rfl cv_X8_216 (hX.1 5 _ rfl) (m_X0_fogAt hS hX minute) rfl (by decide) (Nat.le_of_ble_eq_true rfl) (fun r69 Gc69 q69 => ?_) (fun E9 G9 h9 => h9.elim)
      obtain ⟨⟨x69, rfl⟩, eG69⟩ := q69
      have eG69 := eG69.symm
      subst eG69
      refine y_blk 0 tq_X8_ofMinute (z := (72, [(0, .ref (ad 1)), (1, .int minute), (2, .int what)], [.int x69])) rfl ?_
      exact y_iret tq_X8_ofMinute rfl rfl (⟨⟨_, rfl⟩, rfl⟩)
    by_cases s26_1 : what = 1
    · refine y_swIn tq_X8_ofMinute 73 rfl (by rw [s26_1]; decide) (by rw [s26_1]; decide) (by rw [s26_1]; rfl) rfl ?_
      refine y_blk 1 tq_X8_ofMinute (z := (74, [(0, .ref (ad 1)), (1, .int minute), (2, .int what)], [.ref (ad 1)])) rfl ?_
      refine y_get hS tq_X8_ofMinute (v := .ref (ad 2)) rfl fg_X8_10_X8 (hX.1 1 _ rfl) rfl ?_
      refine y_blk 0 tq_X8_ofMinute (z := (77, [(0, .ref (ad 1)), (1, .int minute), (2, .int what)], [.ref (ad 2)])) rfl ?_
      refine y_callV hS tq_X8_ofMinute rfl (As := []) rfl cv_X8_104 (hX.1 2 _ rfl) (m_X1_openCells hS hX ) rfl (by decide) (Nat.le_of_ble_eq_true rfl) (fun r77 Gc77 q77 => ?_) (fun E9 G9 h9 => h9.elim)
      obtain ⟨rfl, eG77⟩ := q77
      have eG77 := eG77.symm
      subst eG77
      refine y_blk 2 tq_X8_ofMinute (z := (82, [(0, .ref (ad 1)), (1, .int minute), (2, .int what)], [.int minute, .ref (ad 1), .long ((xall (σ.2.2.1 0 * σ.2.2.1 1)) &&& ((σ.2.2.2.1 2) ^^^ (-1)))])) rfl ?_
      refine y_callV hS tq_X8_ofMinute rfl (As := [.int minute]) rfl cv_X8_219 (hX.1 1 _ rfl) (m_X8_watchedCells hS hX minute) rfl (by decide) (Nat.le_of_ble_eq_true rfl) (fun r82 Gc82 q82 => ?_) (fun E9 G9 h9 => h9.elim)
      obtain ⟨⟨x82, rfl⟩, eG82⟩ := q82
      have eG82 := eG82.symm
      subst eG82
      refine y_blk 0 tq_X8_ofMinute (z := (85, [(0, .ref (ad 1)), (1, .int minute), (2, .int what)], [.long x82, .long ((xall (σ.2.2.1 0 * σ.2.2.1 1)) &&& ((σ.2.2.2.1 2) ^^^ (-1)))])) rfl ?_
      refine y_ldc2 hS tq_X8_ofMinute rfl ld_X8_222 ?_
      refine y_blk 2 tq_X8_ofMinute (z := (90, [(0, .ref (ad 1)), (1, .int minute), (2, .int what)], [.long (((xall (σ.2.2.1 0 * σ.2.2.1 1)) &&& ((σ.2.2.2.1 2) ^^^ (-1))) &&& (x82 ^^^ (-1)))])) rfl ?_
      refine y_callS hS tq_X8_ofMinute rfl (As := [.long (((xall (σ.2.2.1 0 * σ.2.2.1 1)) &&& ((σ.2.2.2.1 2) ^^^ (-1))) &&& (x82 ^^^ (-1)))]) rfl cs_X8_108 (m_J13_bitCount_95d88 hS  (((xall (σ.2.2.1 0 * σ.2.2.1 1)) &&& ((σ.2.2.2.1 2) ^^^ (-1))) &&& (x82 ^^^ (-1)))) rfl (by decide) (Nat.le_of_ble_eq_true rfl) (fun r90 Gc90 q90 => ?_) (fun E9 G9 h9 => h9.elim)
      obtain ⟨rfl, eG90⟩ := q90
      have eG90 := eG90.symm
      subst eG90
      refine y_blk 0 tq_X8_ofMinute (z := (93, [(0, .ref (ad 1)), (1, .int minute), (2, .int what)], [.int (bcL (((xall (σ.2.2.1 0 * σ.2.2.1 1)) &&& ((σ.2.2.2.1 2) ^^^ (-1))) &&& (x82 ^^^ (-1))))])) rfl ?_
      exact y_iret tq_X8_ofMinute rfl rfl (⟨⟨_, rfl⟩, rfl⟩)
    by_cases s26_2 : what = 2
    · refine y_swIn tq_X8_ofMinute 94 rfl (by rw [s26_2]; decide) (by rw [s26_2]; decide) (by rw [s26_2]; rfl) rfl ?_
      refine y_blk 1 tq_X8_ofMinute (z := (95, [(0, .ref (ad 1)), (1, .int minute), (2, .int what)], [.ref (ad 1)])) rfl ?_
      refine y_get hS tq_X8_ofMinute (v := .ref (ad 6)) rfl fg_X8_33_X8 (hX.1 1 _ rfl) rfl ?_
      refine y_blk 1 tq_X8_ofMinute (z := (99, [(0, .ref (ad 1)), (1, .int minute), (2, .int what)], [.int minute, .ref (ad 6)])) rfl ?_
      refine y_callV hS tq_X8_ofMinute rfl (As := [.int minute]) rfl cv_X8_224 (hX.1 6 _ rfl) (m_X2_countOnDuty hS hX minute) rfl (by decide) (Nat.le_of_ble_eq_true rfl) (fun r99 Gc99 q99 => ?_) (fun E9 G9 h9 => h9.elim)
      obtain ⟨⟨x99, rfl⟩, eG99⟩ := q99
      have eG99 := eG99.symm
      subst eG99
      refine y_blk 0 tq_X8_ofMinute (z := (102, [(0, .ref (ad 1)), (1, .int minute), (2, .int what)], [.int x99])) rfl ?_
      exact y_iret tq_X8_ofMinute rfl rfl (⟨⟨_, rfl⟩, rfl⟩)
    by_cases s26_3 : what = 3
    · refine y_swIn tq_X8_ofMinute 103 rfl (by rw [s26_3]; decide) (by rw [s26_3]; decide) (by rw [s26_3]; rfl) rfl ?_
      refine y_blk 1 tq_X8_ofMinute (z := (104, [(0, .ref (ad 1)), (1, .int minute), (2, .int what)], [.ref (ad 1)])) rfl ?_
      refine y_get hS tq_X8_ofMinute (v := .ref (ad 6)) rfl fg_X8_33_X8 (hX.1 1 _ rfl) rfl ?_
      refine y_blk 1 tq_X8_ofMinute (z := (108, [(0, .ref (ad 1)), (1, .int minute), (2, .int what)], [.int minute, .ref (ad 6)])) rfl ?_
      refine y_callV hS tq_X8_ofMinute rfl (As := [.int minute]) rfl cv_X8_227 (hX.1 6 _ rfl) (m_X2_countTired hS hX minute) rfl (by decide) (Nat.le_of_ble_eq_true rfl) (fun r108 Gc108 q108 => ?_) (fun E9 G9 h9 => h9.elim)
      obtain ⟨⟨x108, rfl⟩, eG108⟩ := q108
      have eG108 := eG108.symm
      subst eG108
      refine y_blk 0 tq_X8_ofMinute (z := (111, [(0, .ref (ad 1)), (1, .int minute), (2, .int what)], [.int x108])) rfl ?_
      exact y_iret tq_X8_ofMinute rfl rfl (⟨⟨_, rfl⟩, rfl⟩)
    by_cases s26_4 : what = 4
    · refine y_swIn tq_X8_ofMinute 112 rfl (by rw [s26_4]; decide) (by rw [s26_4]; decide) (by rw [s26_4]; rfl) rfl ?_
      refine y_blk 2 tq_X8_ofMinute (z := (114, [(0, .ref (ad 1)), (1, .int minute), (2, .int what)], [.int minute, .ref (ad 1)])) rfl ?_
      refine y_callV hS tq_X8_ofMinute rfl (As := [.int minute]) rfl cv_X8_230 (hX.1 1 _ rfl) (m_X8_countEmptyPosts hS hX minute) rfl (by decide) (Nat.le_of_ble_eq_true rfl) (fun r114 Gc114 q114 => ?_) (fun E9 G9 h9 => h9.elim)
      obtain ⟨⟨x114, rfl⟩, eG114⟩ := q114
      have eG114 := eG114.symm
      subst eG114
      refine y_blk 0 tq_X8_ofMinute (z := (117, [(0, .ref (ad 1)), (1, .int minute), (2, .int what)], [.int x114])) rfl ?_
      exact y_iret tq_X8_ofMinute rfl rfl (⟨⟨_, rfl⟩, rfl⟩)
    by_cases s26_5 : what = 5
    · refine y_swIn tq_X8_ofMinute 118 rfl (by rw [s26_5]; decide) (by rw [s26_5]; decide) (by rw [s26_5]; rfl) rfl ?_
      refine y_blk 1 tq_X8_ofMinute (z := (119, [(0, .ref (ad 1)), (1, .int minute), (2, .int what)], [.ref (ad 1)])) rfl ?_
      refine y_callV hS tq_X8_ofMinute rfl (As := []) rfl cv_X8_171 (hX.1 1 _ rfl) (m_X8_brightCells hS hX ) rfl (by decide) (Nat.le_of_ble_eq_true rfl) (fun r119 Gc119 q119 => ?_) (fun E9 G9 h9 => h9.elim)
      obtain ⟨⟨x119, rfl⟩, eG119⟩ := q119
      have eG119 := eG119.symm
      subst eG119
      refine y_blk 0 tq_X8_ofMinute (z := (122, [(0, .ref (ad 1)), (1, .int minute), (2, .int what)], [.long x119])) rfl ?_
      refine y_callS hS tq_X8_ofMinute rfl (As := [.long x119]) rfl cs_X8_108 (m_J13_bitCount_95d88 hS  x119) rfl (by decide) (Nat.le_of_ble_eq_true rfl) (fun r122 Gc122 q122 => ?_) (fun E9 G9 h9 => h9.elim)
      obtain ⟨rfl, eG122⟩ := q122
      have eG122 := eG122.symm
      subst eG122
      refine y_blk 0 tq_X8_ofMinute (z := (125, [(0, .ref (ad 1)), (1, .int minute), (2, .int what)], [.int (bcL x119)])) rfl ?_
      exact y_iret tq_X8_ofMinute rfl rfl (⟨⟨_, rfl⟩, rfl⟩)
    refine y_swOut tq_X8_ofMinute 126 rfl (by have z0 : what.toInt ≠ 0 := fun q => s26_0 (Int32.toInt_inj.mp (q.trans (by decide))); have z1 : what.toInt ≠ 1 := fun q => s26_1 (Int32.toInt_inj.mp (q.trans (by decide))); have z2 : what.toInt ≠ 2 := fun q => s26_2 (Int32.toInt_inj.mp (q.trans (by decide))); have z3 : what.toInt ≠ 3 := fun q => s26_3 (Int32.toInt_inj.mp (q.trans (by decide))); have z4 : what.toInt ≠ 4 := fun q => s26_4 (Int32.toInt_inj.mp (q.trans (by decide))); have z5 : what.toInt ≠ 5 := fun q => s26_5 (Int32.toInt_inj.mp (q.trans (by decide))); omega) rfl ?_
    refine y_blk 2 tq_X8_ofMinute (z := (128, [(0, .ref (ad 1)), (1, .int minute), (2, .int what)], [.int minute, .ref (ad 1)])) rfl ?_
    refine y_callV hS tq_X8_ofMinute rfl (As := [.int minute]) rfl cv_X8_233 (hX.1 1 _ rfl) (m_X8_countKeysOffDuty hS hX minute) rfl (by decide) (Nat.le_of_ble_eq_true rfl) (fun r128 Gc128 q128 => ?_) (fun E9 G9 h9 => h9.elim)
    obtain ⟨⟨x128, rfl⟩, eG128⟩ := q128
    have eG128 := eG128.symm
    subst eG128
    refine y_blk 0 tq_X8_ofMinute (z := (131, [(0, .ref (ad 1)), (1, .int minute), (2, .int what)], [.int x128])) rfl ?_
    exact y_iret tq_X8_ofMinute rfl rfl (⟨⟨_, rfl⟩, rfl⟩)
  · skip
    refine y_blk 3 tq_X8_ofMinute (z := (11, [(0, .ref (ad 1)), (1, .int minute), (2, .int what)], [.int 6, .int 0, .int what])) rfl ?_
    refine y_callS hS tq_X8_ofMinute rfl (As := [.int what, .int 0, .int 6]) rfl cs_X8_76 (m_X8_isIn hS  what 0 6) rfl (by decide) (Nat.le_of_ble_eq_true rfl) (fun r11 Gc11 q11 => ?_) (fun E9 G9 h9 => h9.elim)
    obtain ⟨rfl, eG11⟩ := q11
    have eG11 := eG11.symm
    subst eG11
    refine y_blk 0 tq_X8_ofMinute (z := (14, [(0, .ref (ad 1)), (1, .int minute), (2, .int what)], [.int (if 0 ≤ what ∧ what ≤ 6 then 1 else 0)])) rfl ?_
    refine y_if_eq tq_X8_ofMinute 21 rfl rfl (fun c14 => ?_) (fun c14 => ?_)
    · skip
      refine y_blk 1 tq_X8_ofMinute (z := (22, [(0, .ref (ad 1)), (1, .int minute), (2, .int what)], [.int 0])) rfl ?_
      refine y_callS hS tq_X8_ofMinute rfl (As := [.int 0]) rfl cs_X8_117 (m_X8_needLet_ok hS  0 (by first | decide | (rw [if_pos (by assumption)]; decide) | assumption | (exfalso; (simp only [yif0, Classical.not_not, ylt, yle, yl_m1, yl_0, yl_1, yl_2, yl_3, yl_4, yl_5, yl_6, yl_7, yl_8, yl_9, yl_10, yl_11, yl_12, yl_15, yl_16, yl_20, yl_60, yl_64, yl_90, yl_97, yl_99, yl_100, yl_120, yl_239, yl_240] at *; omega)))) rfl (by decide) (Nat.le_of_ble_eq_true rfl) (fun r22 Gc22 q22 => ?_) (fun E9 G9 h9 => h9.elim)
      obtain ⟨rfl, eG22⟩ := q22
      have eG22 := eG22.symm
      subst eG22
      refine y_blk 1 tq_X8_ofMinute (z := (26, [(0, .ref (ad 1)), (1, .int minute), (2, .int what)], [.int what])) rfl ?_
      by_cases s26_0 : what = 0
      · refine y_swIn tq_X8_ofMinute 64 rfl (by rw [s26_0]; decide) (by rw [s26_0]; decide) (by rw [s26_0]; rfl) rfl ?_
        refine y_blk 1 tq_X8_ofMinute (z := (65, [(0, .ref (ad 1)), (1, .int minute), (2, .int what)], [.ref (ad 1)])) rfl ?_
        refine y_get hS tq_X8_ofMinute (v := .ref (ad 5)) rfl fg_X8_26_X8 (hX.1 1 _ rfl) rfl ?_
        refine y_blk 1 tq_X8_ofMinute (z := (69, [(0, .ref (ad 1)), (1, .int minute), (2, .int what)], [.int minute, .ref (ad 5)])) rfl ?_
        refine y_callV hS tq_X8_ofMinute rfl (As := [.int minute]) rfl cv_X8_216 (hX.1 5 _ rfl) (m_X0_fogAt hS hX minute) rfl (by decide) (Nat.le_of_ble_eq_true rfl) (fun r69 Gc69 q69 => ?_) (fun E9 G9 h9 => h9.elim)
        obtain ⟨⟨x69, rfl⟩, eG69⟩ := q69
        have eG69 := eG69.symm
        subst eG69
        refine y_blk 0 tq_X8_ofMinute (z := (72, [(0, .ref (ad 1)), (1, .int minute), (2, .int what)], [.int x69])) rfl ?_
        exact y_iret tq_X8_ofMinute rfl rfl (⟨⟨_, rfl⟩, rfl⟩)
      by_cases s26_1 : what = 1
      · refine y_swIn tq_X8_ofMinute 73 rfl (by rw [s26_1]; decide) (by rw [s26_1]; decide) (by rw [s26_1]; rfl) rfl ?_
        refine y_blk 1 tq_X8_ofMinute (z := (74, [(0, .ref (ad 1)), (1, .int minute), (2, .int what)], [.ref (ad 1)])) rfl ?_
        refine y_get hS tq_X8_ofMinute (v := .ref (ad 2)) rfl fg_X8_10_X8 (hX.1 1 _ rfl) rfl ?_
        refine y_blk 0 tq_X8_ofMinute (z := (77, [(0, .ref (ad 1)), (1, .int minute), (2, .int what)], [.ref (ad 2)])) rfl ?_
        refine y_callV hS tq_X8_ofMinute rfl (As := []) rfl cv_X8_104 (hX.1 2 _ rfl) (m_X1_openCells hS hX ) rfl (by decide) (Nat.le_of_ble_eq_true rfl) (fun r77 Gc77 q77 => ?_) (fun E9 G9 h9 => h9.elim)
        obtain ⟨rfl, eG77⟩ := q77
        have eG77 := eG77.symm
        subst eG77
        refine y_blk 2 tq_X8_ofMinute (z := (82, [(0, .ref (ad 1)), (1, .int minute), (2, .int what)], [.int minute, .ref (ad 1), .long ((xall (σ.2.2.1 0 * σ.2.2.1 1)) &&& ((σ.2.2.2.1 2) ^^^ (-1)))])) rfl ?_
        refine y_callV hS tq_X8_ofMinute rfl (As := [.int minute]) rfl cv_X8_219 (hX.1 1 _ rfl) (m_X8_watchedCells hS hX minute) rfl (by decide) (Nat.le_of_ble_eq_true rfl) (fun r82 Gc82 q82 => ?_) (fun E9 G9 h9 => h9.elim)
        obtain ⟨⟨x82, rfl⟩, eG82⟩ := q82
        have eG82 := eG82.symm
        subst eG82
        refine y_blk 0 tq_X8_ofMinute (z := (85, [(0, .ref (ad 1)), (1, .int minute), (2, .int what)], [.long x82, .long ((xall (σ.2.2.1 0 * σ.2.2.1 1)) &&& ((σ.2.2.2.1 2) ^^^ (-1)))])) rfl ?_
        refine y_ldc2 hS tq_X8_ofMinute rfl ld_X8_222 ?_
        refine y_blk 2 tq_X8_ofMinute (z := (90, [(0, .ref (ad 1)), (1, .int minute), (2, .int what)], [.long (((xall (σ.2.2.1 0 * σ.2.2.1 1)) &&& ((σ.2.2.2.1 2) ^^^ (-1))) &&& (x82 ^^^ (-1)))])) rfl ?_
        refine y_callS hS tq_X8_ofMinute rfl (As := [.long (((xall (σ.2.2.1 0 * σ.2.2.1 1)) &&& ((σ.2.2.2.1 2) ^^^ (-1))) &&& (x82 ^^^ (-1)))]) rfl cs_X8_108 (m_J13_bitCount_95d88 hS  (((xall (σ.2.2.1 0 * σ.2.2.1 1)) &&& ((σ.2.2.2.1 2) ^^^ (-1))) &&& (x82 ^^^ (-1)))) rfl (by decide) (Nat.le_of_ble_eq_true rfl) (fun r90 Gc90 q90 => ?_) (fun E9 G9 h9 => h9.elim)
        obtain ⟨rfl, eG90⟩ := q90
        have eG90 := eG90.symm
        subst eG90
        refine y_blk 0 tq_X8_ofMinute (z := (93, [(0, .ref (ad 1)), (1, .int minute), (2, .int what)], [.int (bcL (((xall (σ.2.2.1 0 * σ.2.2.1 1)) &&& ((σ.2.2.2.1 2) ^^^ (-1))) &&& (x82 ^^^ (-1))))])) rfl ?_
        exact y_iret tq_X8_ofMinute rfl rfl (⟨⟨_, rfl⟩, rfl⟩)
      by_cases s26_2 : what = 2
      · refine y_swIn tq_X8_ofMinute 94 rfl (by rw [s26_2]; decide) (by rw [s26_2]; decide) (by rw [s26_2]; rfl) rfl ?_
        refine y_blk 1 tq_X8_ofMinute (z := (95, [(0, .ref (ad 1)), (1, .int minute), (2, .int what)], [.ref (ad 1)])) rfl ?_
        refine y_get hS tq_X8_ofMinute (v := .ref (ad 6)) rfl fg_X8_33_X8 (hX.1 1 _ rfl) rfl ?_
        refine y_blk 1 tq_X8_ofMinute (z := (99, [(0, .ref (ad 1)), (1, .int minute), (2, .int what)], [.int minute, .ref (ad 6)])) rfl ?_
        refine y_callV hS tq_X8_ofMinute rfl (As := [.int minute]) rfl cv_X8_224 (hX.1 6 _ rfl) (m_X2_countOnDuty hS hX minute) rfl (by decide) (Nat.le_of_ble_eq_true rfl) (fun r99 Gc99 q99 => ?_) (fun E9 G9 h9 => h9.elim)
        obtain ⟨⟨x99, rfl⟩, eG99⟩ := q99
        have eG99 := eG99.symm
        subst eG99
        refine y_blk 0 tq_X8_ofMinute (z := (102, [(0, .ref (ad 1)), (1, .int minute), (2, .int what)], [.int x99])) rfl ?_
        exact y_iret tq_X8_ofMinute rfl rfl (⟨⟨_, rfl⟩, rfl⟩)
      by_cases s26_3 : what = 3
      · refine y_swIn tq_X8_ofMinute 103 rfl (by rw [s26_3]; decide) (by rw [s26_3]; decide) (by rw [s26_3]; rfl) rfl ?_
        refine y_blk 1 tq_X8_ofMinute (z := (104, [(0, .ref (ad 1)), (1, .int minute), (2, .int what)], [.ref (ad 1)])) rfl ?_
        refine y_get hS tq_X8_ofMinute (v := .ref (ad 6)) rfl fg_X8_33_X8 (hX.1 1 _ rfl) rfl ?_
        refine y_blk 1 tq_X8_ofMinute (z := (108, [(0, .ref (ad 1)), (1, .int minute), (2, .int what)], [.int minute, .ref (ad 6)])) rfl ?_
        refine y_callV hS tq_X8_ofMinute rfl (As := [.int minute]) rfl cv_X8_227 (hX.1 6 _ rfl) (m_X2_countTired hS hX minute) rfl (by decide) (Nat.le_of_ble_eq_true rfl) (fun r108 Gc108 q108 => ?_) (fun E9 G9 h9 => h9.elim)
        obtain ⟨⟨x108, rfl⟩, eG108⟩ := q108
        have eG108 := eG108.symm
        subst eG108
        refine y_blk 0 tq_X8_ofMinute (z := (111, [(0, .ref (ad 1)), (1, .int minute), (2, .int what)], [.int x108])) rfl ?_
        exact y_iret tq_X8_ofMinute rfl rfl (⟨⟨_, rfl⟩, rfl⟩)
      by_cases s26_4 : what = 4
      · refine y_swIn tq_X8_ofMinute 112 rfl (by rw [s26_4]; decide) (by rw [s26_4]; decide) (by rw [s26_4]; rfl) rfl ?_
        refine y_blk 2 tq_X8_ofMinute (z := (114, [(0, .ref (ad 1)), (1, .int minute), (2, .int what)], [.int minute, .ref (ad 1)])) rfl ?_
        refine y_callV hS tq_X8_ofMinute rfl (As := [.int minute]) rfl cv_X8_230 (hX.1 1 _ rfl) (m_X8_countEmptyPosts hS hX minute) rfl (by decide) (Nat.le_of_ble_eq_true rfl) (fun r114 Gc114 q114 => ?_) (fun E9 G9 h9 => h9.elim)
        obtain ⟨⟨x114, rfl⟩, eG114⟩ := q114
        have eG114 := eG114.symm
        subst eG114
        refine y_blk 0 tq_X8_ofMinute (z := (117, [(0, .ref (ad 1)), (1, .int minute), (2, .int what)], [.int x114])) rfl ?_
        exact y_iret tq_X8_ofMinute rfl rfl (⟨⟨_, rfl⟩, rfl⟩)
      by_cases s26_5 : what = 5
      · refine y_swIn tq_X8_ofMinute 118 rfl (by rw [s26_5]; decide) (by rw [s26_5]; decide) (by rw [s26_5]; rfl) rfl ?_
        refine y_blk 1 tq_X8_ofMinute (z := (119, [(0, .ref (ad 1)), (1, .int minute), (2, .int what)], [.ref (ad 1)])) rfl ?_
        refine y_callV hS tq_X8_ofMinute rfl (As := []) rfl cv_X8_171 (hX.1 1 _ rfl) (m_X8_brightCells hS hX ) rfl (by decide) (Nat.le_of_ble_eq_true rfl) (fun r119 Gc119 q119 => ?_) (fun E9 G9 h9 => h9.elim)
        obtain ⟨⟨x119, rfl⟩, eG119⟩ := q119
        have eG119 := eG119.symm
        subst eG119
        refine y_blk 0 tq_X8_ofMinute (z := (122, [(0, .ref (ad 1)), (1, .int minute), (2, .int what)], [.long x119])) rfl ?_
        refine y_callS hS tq_X8_ofMinute rfl (As := [.long x119]) rfl cs_X8_108 (m_J13_bitCount_95d88 hS  x119) rfl (by decide) (Nat.le_of_ble_eq_true rfl) (fun r122 Gc122 q122 => ?_) (fun E9 G9 h9 => h9.elim)
        obtain ⟨rfl, eG122⟩ := q122
        have eG122 := eG122.symm
        subst eG122
        refine y_blk 0 tq_X8_ofMinute (z := (125, [(0, .ref (ad 1)), (1, .int minute), (2, .int what)], [.int (bcL x119)])) rfl ?_
        exact y_iret tq_X8_ofMinute rfl rfl (⟨⟨_, rfl⟩, rfl⟩)
      refine y_swOut tq_X8_ofMinute 126 rfl (by have z0 : what.toInt ≠ 0 := fun q => s26_0 (Int32.toInt_inj.mp (q.trans (by decide))); have z1 : what.toInt ≠ 1 := fun q => s26_1 (Int32.toInt_inj.mp (q.trans (by decide))); have z2 : what.toInt ≠ 2 := fun q => s26_2 (Int32.toInt_inj.mp (q.trans (by decide))); have z3 : what.toInt ≠ 3 := fun q => s26_3 (Int32.toInt_inj.mp (q.trans (by decide))); have z4 : what.toInt ≠ 4 := fun q => s26_4 (Int32.toInt_inj.mp (q.trans (by decide))); have z5 : what.toInt ≠ 5 := fun q => s26_5 (Int32.toInt_inj.mp (q.trans (by decide))); omega) rfl ?_
      refine y_blk 2 tq_X8_ofMinute (z := (128, [(0, .ref (ad 1)), (1, .int minute), (2, .int what)], [.int minute, .ref (ad 1)])) rfl ?_
      refine y_callV hS tq_X8_ofMinute rfl (As := [.int minute]) rfl cv_X8_233 (hX.1 1 _ rfl) (m_X8_countKeysOffDuty hS hX minute) rfl (by decide) (Nat.le_of_ble_eq_true rfl) (fun r128 Gc128 q128 => ?_) (fun E9 G9 h9 => h9.elim)
      obtain ⟨⟨x128, rfl⟩, eG128⟩ := q128
      have eG128 := eG128.symm
      subst eG128
      refine y_blk 0 tq_X8_ofMinute (z := (131, [(0, .ref (ad 1)), (1, .int minute), (2, .int what)], [.int x128])) rfl ?_
      exact y_iret tq_X8_ofMinute rfl rfl (⟨⟨_, rfl⟩, rfl⟩)
    · skip
      refine y_blk 2 tq_X8_ofMinute (z := (22, [(0, .ref (ad 1)), (1, .int minute), (2, .int what)], [.int 1])) rfl ?_
      refine y_callS hS tq_X8_ofMinute rfl (As := [.int 1]) rfl cs_X8_117 (m_X8_needLet_ok hS  1 (by first | decide | (rw [if_pos (by assumption)]; decide) | assumption | (exfalso; (simp only [yif0, Classical.not_not, ylt, yle, yl_m1, yl_0, yl_1, yl_2, yl_3, yl_4, yl_5, yl_6, yl_7, yl_8, yl_9, yl_10, yl_11, yl_12, yl_15, yl_16, yl_20, yl_60, yl_64, yl_90, yl_97, yl_99, yl_100, yl_120, yl_239, yl_240] at *; omega)))) rfl (by decide) (Nat.le_of_ble_eq_true rfl) (fun r22 Gc22 q22 => ?_) (fun E9 G9 h9 => h9.elim)
      obtain ⟨rfl, eG22⟩ := q22
      have eG22 := eG22.symm
      subst eG22
      refine y_blk 1 tq_X8_ofMinute (z := (26, [(0, .ref (ad 1)), (1, .int minute), (2, .int what)], [.int what])) rfl ?_
      by_cases s26_0 : what = 0
      · refine y_swIn tq_X8_ofMinute 64 rfl (by rw [s26_0]; decide) (by rw [s26_0]; decide) (by rw [s26_0]; rfl) rfl ?_
        refine y_blk 1 tq_X8_ofMinute (z := (65, [(0, .ref (ad 1)), (1, .int minute), (2, .int what)], [.ref (ad 1)])) rfl ?_
        refine y_get hS tq_X8_ofMinute (v := .ref (ad 5)) rfl fg_X8_26_X8 (hX.1 1 _ rfl) rfl ?_
        refine y_blk 1 tq_X8_ofMinute (z := (69, [(0, .ref (ad 1)), (1, .int minute), (2, .int what)], [.int minute, .ref (ad 5)])) rfl ?_
        refine y_callV hS tq_X8_ofMinute rfl (As := [.int minute]) rfl cv_X8_216 (hX.1 5 _ rfl) (m_X0_fogAt hS hX minute) rfl (by decide) (Nat.le_of_ble_eq_true rfl) (fun r69 Gc69 q69 => ?_) (fun E9 G9 h9 => h9.elim)
        obtain ⟨⟨x69, rfl⟩, eG69⟩ := q69
        have eG69 := eG69.symm
        subst eG69
        refine y_blk 0 tq_X8_ofMinute (z := (72, [(0, .ref (ad 1)), (1, .int minute), (2, .int what)], [.int x69])) rfl ?_
        exact y_iret tq_X8_ofMinute rfl rfl (⟨⟨_, rfl⟩, rfl⟩)
      by_cases s26_1 : what = 1
      · refine y_swIn tq_X8_ofMinute 73 rfl (by rw [s26_1]; decide) (by rw [s26_1]; decide) (by rw [s26_1]; rfl) rfl ?_
        refine y_blk 1 tq_X8_ofMinute (z := (74, [(0, .ref (ad 1)), (1, .int minute), (2, .int what)], [.ref (ad 1)])) rfl ?_
        refine y_get hS tq_X8_ofMinute (v := .ref (ad 2)) rfl fg_X8_10_X8 (hX.1 1 _ rfl) rfl ?_
        refine y_blk 0 tq_X8_ofMinute (z := (77, [(0, .ref (ad 1)), (1, .int minute), (2, .int what)], [.ref (ad 2)])) rfl ?_
        refine y_callV hS tq_X8_ofMinute rfl (As := []) rfl cv_X8_104 (hX.1 2 _ rfl) (m_X1_openCells hS hX ) rfl (by decide) (Nat.le_of_ble_eq_true rfl) (fun r77 Gc77 q77 => ?_) (fun E9 G9 h9 => h9.elim)
        obtain ⟨rfl, eG77⟩ := q77
        have eG77 := eG77.symm
        subst eG77
        refine y_blk 2 tq_X8_ofMinute (z := (82, [(0, .ref (ad 1)), (1, .int minute), (2, .int what)], [.int minute, .ref (ad 1), .long ((xall (σ.2.2.1 0 * σ.2.2.1 1)) &&& ((σ.2.2.2.1 2) ^^^ (-1)))])) rfl ?_
        refine y_callV hS tq_X8_ofMinute rfl (As := [.int minute]) rfl cv_X8_219 (hX.1 1 _ rfl) (m_X8_watchedCells hS hX minute) rfl (by decide) (Nat.le_of_ble_eq_true rfl) (fun r82 Gc82 q82 => ?_) (fun E9 G9 h9 => h9.elim)
        obtain ⟨⟨x82, rfl⟩, eG82⟩ := q82
        have eG82 := eG82.symm
        subst eG82
        refine y_blk 0 tq_X8_ofMinute (z := (85, [(0, .ref (ad 1)), (1, .int minute), (2, .int what)], [.long x82, .long ((xall (σ.2.2.1 0 * σ.2.2.1 1)) &&& ((σ.2.2.2.1 2) ^^^ (-1)))])) rfl ?_
        refine y_ldc2 hS tq_X8_ofMinute rfl ld_X8_222 ?_
        refine y_blk 2 tq_X8_ofMinute (z := (90, [(0, .ref (ad 1)), (1, .int minute), (2, .int what)], [.long (((xall (σ.2.2.1 0 * σ.2.2.1 1)) &&& ((σ.2.2.2.1 2) ^^^ (-1))) &&& (x82 ^^^ (-1)))])) rfl ?_
        refine y_callS hS tq_X8_ofMinute rfl (As := [.long (((xall (σ.2.2.1 0 * σ.2.2.1 1)) &&& ((σ.2.2.2.1 2) ^^^ (-1))) &&& (x82 ^^^ (-1)))]) rfl cs_X8_108 (m_J13_bitCount_95d88 hS  (((xall (σ.2.2.1 0 * σ.2.2.1 1)) &&& ((σ.2.2.2.1 2) ^^^ (-1))) &&& (x82 ^^^ (-1)))) rfl (by decide) (Nat.le_of_ble_eq_true rfl) (fun r90 Gc90 q90 => ?_) (fun E9 G9 h9 => h9.elim)
        obtain ⟨rfl, eG90⟩ := q90
        have eG90 := eG90.symm
        subst eG90
        refine y_blk 0 tq_X8_ofMinute (z := (93, [(0, .ref (ad 1)), (1, .int minute), (2, .int what)], [.int (bcL (((xall (σ.2.2.1 0 * σ.2.2.1 1)) &&& ((σ.2.2.2.1 2) ^^^ (-1))) &&& (x82 ^^^ (-1))))])) rfl ?_
        exact y_iret tq_X8_ofMinute rfl rfl (⟨⟨_, rfl⟩, rfl⟩)
      by_cases s26_2 : what = 2
      · refine y_swIn tq_X8_ofMinute 94 rfl (by rw [s26_2]; decide) (by rw [s26_2]; decide) (by rw [s26_2]; rfl) rfl ?_
        refine y_blk 1 tq_X8_ofMinute (z := (95, [(0, .ref (ad 1)), (1, .int minute), (2, .int what)], [.ref (ad 1)])) rfl ?_
        refine y_get hS tq_X8_ofMinute (v := .ref (ad 6)) rfl fg_X8_33_X8 (hX.1 1 _ rfl) rfl ?_
        refine y_blk 1 tq_X8_ofMinute (z := (99, [(0, .ref (ad 1)), (1, .int minute), (2, .int what)], [.int minute, .ref (ad 6)])) rfl ?_
        refine y_callV hS tq_X8_ofMinute rfl (As := [.int minute]) rfl cv_X8_224 (hX.1 6 _ rfl) (m_X2_countOnDuty hS hX minute) rfl (by decide) (Nat.le_of_ble_eq_true rfl) (fun r99 Gc99 q99 => ?_) (fun E9 G9 h9 => h9.elim)
        obtain ⟨⟨x99, rfl⟩, eG99⟩ := q99
        have eG99 := eG99.symm
        subst eG99
        refine y_blk 0 tq_X8_ofMinute (z := (102, [(0, .ref (ad 1)), (1, .int minute), (2, .int what)], [.int x99])) rfl ?_
        exact y_iret tq_X8_ofMinute rfl rfl (⟨⟨_, rfl⟩, rfl⟩)
      by_cases s26_3 : what = 3
      · refine y_swIn tq_X8_ofMinute 103 rfl (by rw [s26_3]; decide) (by rw [s26_3]; decide) (by rw [s26_3]; rfl) rfl ?_
        refine y_blk 1 tq_X8_ofMinute (z := (104, [(0, .ref (ad 1)), (1, .int minute), (2, .int what)], [.ref (ad 1)])) rfl ?_
        refine y_get hS tq_X8_ofMinute (v := .ref (ad 6)) rfl fg_X8_33_X8 (hX.1 1 _ rfl) rfl ?_
        refine y_blk 1 tq_X8_ofMinute (z := (108, [(0, .ref (ad 1)), (1, .int minute), (2, .int what)], [.int minute, .ref (ad 6)])) rfl ?_
        refine y_callV hS tq_X8_ofMinute rfl (As := [.int minute]) rfl cv_X8_227 (hX.1 6 _ rfl) (m_X2_countTired hS hX minute) rfl (by decide) (Nat.le_of_ble_eq_true rfl) (fun r108 Gc108 q108 => ?_) (fun E9 G9 h9 => h9.elim)
        obtain ⟨⟨x108, rfl⟩, eG108⟩ := q108
        have eG108 := eG108.symm
        subst eG108
        refine y_blk 0 tq_X8_ofMinute (z := (111, [(0, .ref (ad 1)), (1, .int minute), (2, .int what)], [.int x108])) rfl ?_
        exact y_iret tq_X8_ofMinute rfl rfl (⟨⟨_, rfl⟩, rfl⟩)
      by_cases s26_4 : what = 4
      · refine y_swIn tq_X8_ofMinute 112 rfl (by rw [s26_4]; decide) (by rw [s26_4]; decide) (by rw [s26_4]; rfl) rfl ?_
        refine y_blk 2 tq_X8_ofMinute (z := (114, [(0, .ref (ad 1)), (1, .int minute), (2, .int what)], [.int minute, .ref (ad 1)])) rfl ?_
        refine y_callV hS tq_X8_ofMinute rfl (As := [.int minute]) rfl cv_X8_230 (hX.1 1 _ rfl) (m_X8_countEmptyPosts hS hX minute) rfl (by decide) (Nat.le_of_ble_eq_true rfl) (fun r114 Gc114 q114 => ?_) (fun E9 G9 h9 => h9.elim)
        obtain ⟨⟨x114, rfl⟩, eG114⟩ := q114
        have eG114 := eG114.symm
        subst eG114
        refine y_blk 0 tq_X8_ofMinute (z := (117, [(0, .ref (ad 1)), (1, .int minute), (2, .int what)], [.int x114])) rfl ?_
        exact y_iret tq_X8_ofMinute rfl rfl (⟨⟨_, rfl⟩, rfl⟩)
      by_cases s26_5 : what = 5
      · refine y_swIn tq_X8_ofMinute 118 rfl (by rw [s26_5]; decide) (by rw [s26_5]; decide) (by rw [s26_5]; rfl) rfl ?_
        refine y_blk 1 tq_X8_ofMinute (z := (119, [(0, .ref (ad 1)), (1, .int minute), (2, .int what)], [.ref (ad 1)])) rfl ?_
        refine y_callV hS tq_X8_ofMinute rfl (As := []) rfl cv_X8_171 (hX.1 1 _ rfl) (m_X8_brightCells hS hX ) rfl (by decide) (Nat.le_of_ble_eq_true rfl) (fun r119 Gc119 q119 => ?_) (fun E9 G9 h9 => h9.elim)
        obtain ⟨⟨x119, rfl⟩, eG119⟩ := q119
        have eG119 := eG119.symm
        subst eG119
        refine y_blk 0 tq_X8_ofMinute (z := (122, [(0, .ref (ad 1)), (1, .int minute), (2, .int what)], [.long x119])) rfl ?_
        refine y_callS hS tq_X8_ofMinute rfl (As := [.long x119]) rfl cs_X8_108 (m_J13_bitCount_95d88 hS  x119) rfl (by decide) (Nat.le_of_ble_eq_true rfl) (fun r122 Gc122 q122 => ?_) (fun E9 G9 h9 => h9.elim)
        obtain ⟨rfl, eG122⟩ := q122
        have eG122 := eG122.symm
        subst eG122
        refine y_blk 0 tq_X8_ofMinute (z := (125, [(0, .ref (ad 1)), (1, .int minute), (2, .int what)], [.int (bcL x119)])) rfl ?_
        exact y_iret tq_X8_ofMinute rfl rfl (⟨⟨_, rfl⟩, rfl⟩)
      refine y_swOut tq_X8_ofMinute 126 rfl (by have z0 : what.toInt ≠ 0 := fun q => s26_0 (Int32.toInt_inj.mp (q.trans (by decide))); have z1 : what.toInt ≠ 1 := fun q => s26_1 (Int32.toInt_inj.mp (q.trans (by decide))); have z2 : what.toInt ≠ 2 := fun q => s26_2 (Int32.toInt_inj.mp (q.trans (by decide))); have z3 : what.toInt ≠ 3 := fun q => s26_3 (Int32.toInt_inj.mp (q.trans (by decide))); have z4 : what.toInt ≠ 4 := fun q => s26_4 (Int32.toInt_inj.mp (q.trans (by decide))); have z5 : what.toInt ≠ 5 := fun q => s26_5 (Int32.toInt_inj.mp (q.trans (by decide))); omega) rfl ?_
      refine y_blk 2 tq_X8_ofMinute (z := (128, [(0, .ref (ad 1)), (1, .int minute), (2, .int what)], [.int minute, .ref (ad 1)])) rfl ?_
      refine y_callV hS tq_X8_ofMinute rfl (As := [.int minute]) rfl cv_X8_233 (hX.1 1 _ rfl) (m_X8_countKeysOffDuty hS hX minute) rfl (by decide) (Nat.le_of_ble_eq_true rfl) (fun r128 Gc128 q128 => ?_) (fun E9 G9 h9 => h9.elim)
      obtain ⟨⟨x128, rfl⟩, eG128⟩ := q128
      have eG128 := eG128.symm
      subst eG128
      refine y_blk 0 tq_X8_ofMinute (z := (131, [(0, .ref (ad 1)), (1, .int minute), (2, .int what)], [.int x128])) rfl ?_
      exact y_iret tq_X8_ofMinute rfl rfl (⟨⟨_, rfl⟩, rfl⟩)
set_option maxHeartbeats 4000000 in
set_option maxRecDepth 100000 in
theorem m_X8_ofCell_ok {l : Launch} {S0 : State} {A0 : Array Value} {D : va_G} {aC : Nat → ClassId} {ad : Nat → Nat} {G : AH} {σ : XS} (hS : yS l S0 A0 D aC) (hX : atX aC ad G σ) (cell : Int32) (minute : Int32) (what : Int32) (h : 0 ≤ cell ∧ cell ≤ σ.2.2.1 0 * σ.2.2.1 1 - 1) (h1 : 0 ≤ minute ∧ minute ≤ 239) (h2 : 0 ≤ what ∧ what ≤ 4) : yM l S0 D yX8_ofCell cX8_ofCell 4 (some .int) 14 0 0 [.ref (ad 1), .int cell, .int minute, .int what] G (fun r G1 => (∃ v : Int32, r = some (.int v)) ∧ G1 = G) (fun _ _ => False) := by
  refine yM.ofK K_X8_ofCell rfl (by decide) (Nat.le_of_ble_eq_true rfl) ?_
  refine y_blk 2 tq_X8_ofCell (z := (2, [(0, .ref (ad 1)), (1, .int cell), (2, .int minute), (3, .int what)], [.int cell, .ref (ad 1)])) rfl ?_
  refine y_callV hS tq_X8_ofCell rfl (As := [.int cell]) rfl cv_X8_114 (hX.1 1 _ rfl) (m_X8_needCell_ok hS hX cell (by first | decide | (rw [if_pos (by assumption)]; decide) | assumption | (exfalso; (simp only [yif0, Classical.not_not, ylt, yle, yl_m1, yl_0, yl_1, yl_2, yl_3, yl_4, yl_5, yl_6, yl_7, yl_8, yl_9, yl_10, yl_11, yl_12, yl_15, yl_16, yl_20, yl_60, yl_64, yl_90, yl_97, yl_99, yl_100, yl_120, yl_239, yl_240] at *; omega)))) rfl (by decide) (Nat.le_of_ble_eq_true rfl) (fun r2 Gc2 q2 => ?_) (fun E9 G9 h9 => h9.elim)
  obtain ⟨rfl, eG2⟩ := q2
  have eG2 := eG2.symm
  subst eG2
  refine y_blk 1 tq_X8_ofCell (z := (6, [(0, .ref (ad 1)), (1, .int cell), (2, .int minute), (3, .int what)], [.int minute])) rfl ?_
  refine y_callS hS tq_X8_ofCell rfl (As := [.int minute]) rfl cs_X8_139 (m_X8_isMinute hS  minute) rfl (by decide) (Nat.le_of_ble_eq_true rfl) (fun r6 Gc6 q6 => ?_) (fun E9 G9 h9 => h9.elim)
  obtain ⟨rfl, eG6⟩ := q6
  have eG6 := eG6.symm
  subst eG6
  refine y_blk 0 tq_X8_ofCell (z := (9, [(0, .ref (ad 1)), (1, .int cell), (2, .int minute), (3, .int what)], [.int (if 0 ≤ minute ∧ minute ≤ 239 then 1 else 0)])) rfl ?_
  refine y_if_eq tq_X8_ofCell 25 rfl rfl (fun c9 => ?_) (fun c9 => ?_)
  · skip
    refine y_blk 1 tq_X8_ofCell (z := (26, [(0, .ref (ad 1)), (1, .int cell), (2, .int minute), (3, .int what)], [.int 0])) rfl ?_
    refine y_callS hS tq_X8_ofCell rfl (As := [.int 0]) rfl cs_X8_117 (m_X8_needLet_ok hS  0 (by first | decide | (rw [if_pos (by assumption)]; decide) | assumption | (exfalso; (simp only [yif0, Classical.not_not, ylt, yle, yl_m1, yl_0, yl_1, yl_2, yl_3, yl_4, yl_5, yl_6, yl_7, yl_8, yl_9, yl_10, yl_11, yl_12, yl_15, yl_16, yl_20, yl_60, yl_64, yl_90, yl_97, yl_99, yl_100, yl_120, yl_239, yl_240] at *; omega)))) rfl (by decide) (Nat.le_of_ble_eq_true rfl) (fun r26 Gc26 q26 => ?_) (fun E9 G9 h9 => h9.elim)
    obtain ⟨rfl, eG26⟩ := q26
    have eG26 := eG26.symm
    subst eG26
    refine y_blk 1 tq_X8_ofCell (z := (30, [(0, .ref (ad 1)), (1, .int cell), (2, .int minute), (3, .int what)], [.int what])) rfl ?_
    by_cases s30_0 : what = 0
    · refine y_swIn tq_X8_ofCell 60 rfl (by rw [s30_0]; decide) (by rw [s30_0]; decide) (by rw [s30_0]; rfl) rfl ?_
      refine y_blk 1 tq_X8_ofCell (z := (61, [(0, .ref (ad 1)), (1, .int cell), (2, .int minute), (3, .int what)], [.ref (ad 1)])) rfl ?_
      refine y_get hS tq_X8_ofCell (v := .ref (ad 2)) rfl fg_X8_10_X8 (hX.1 1 _ rfl) rfl ?_
      refine y_blk 1 tq_X8_ofCell (z := (65, [(0, .ref (ad 1)), (1, .int cell), (2, .int minute), (3, .int what)], [.int cell, .ref (ad 2)])) rfl ?_
      refine y_callV hS tq_X8_ofCell rfl (As := [.int cell]) rfl cv_X8_131 (hX.1 2 _ rfl) (m_X1_kindOf hS hX cell) rfl (by decide) (Nat.le_of_ble_eq_true rfl) (fun r65 Gc65 q65 => ?_) (fun E9 G9 h9 => h9.elim)
      obtain ⟨rfl, eG65⟩ := q65
      have eG65 := eG65.symm
      subst eG65
      refine y_blk 0 tq_X8_ofCell (z := (68, [(0, .ref (ad 1)), (1, .int cell), (2, .int minute), (3, .int what)], [.int (xkf σ cell)])) rfl ?_
      exact y_iret tq_X8_ofCell rfl rfl (⟨⟨_, rfl⟩, rfl⟩)
    by_cases s30_1 : what = 1
    · refine y_swIn tq_X8_ofCell 69 rfl (by rw [s30_1]; decide) (by rw [s30_1]; decide) (by rw [s30_1]; rfl) rfl ?_
      refine y_blk 1 tq_X8_ofCell (z := (70, [(0, .ref (ad 1)), (1, .int cell), (2, .int minute), (3, .int what)], [.ref (ad 1)])) rfl ?_
      refine y_callV hS tq_X8_ofCell rfl (As := []) rfl cv_X8_171 (hX.1 1 _ rfl) (m_X8_brightCells hS hX ) rfl (by decide) (Nat.le_of_ble_eq_true rfl) (fun r70 Gc70 q70 => ?_) (fun E9 G9 h9 => h9.elim)
      obtain ⟨⟨x70, rfl⟩, eG70⟩ := q70
      have eG70 := eG70.symm
      subst eG70
      refine y_blk 1 tq_X8_ofCell (z := (74, [(0, .ref (ad 1)), (1, .int cell), (2, .int minute), (3, .int what)], [.int cell, .long x70])) rfl ?_
      refine y_callS hS tq_X8_ofCell rfl (As := [.long x70, .int cell]) rfl cs_X8_124 (m_X8_isOf hS  x70 cell) rfl (by decide) (Nat.le_of_ble_eq_true rfl) (fun r74 Gc74 q74 => ?_) (fun E9 G9 h9 => h9.elim)
      obtain ⟨rfl, eG74⟩ := q74
      have eG74 := eG74.symm
      subst eG74
      refine y_blk 0 tq_X8_ofCell (z := (77, [(0, .ref (ad 1)), (1, .int cell), (2, .int minute), (3, .int what)], [.int (if xis x70 cell then 1 else 0)])) rfl ?_
      refine y_if_eq tq_X8_ofCell 84 rfl rfl (fun c77 => ?_) (fun c77 => ?_)
      · skip
        refine y_blk 1 tq_X8_ofCell (z := (85, [(0, .ref (ad 1)), (1, .int cell), (2, .int minute), (3, .int what)], [.int 0])) rfl ?_
        exact y_iret tq_X8_ofCell rfl rfl (⟨⟨_, rfl⟩, rfl⟩)
      · skip
        refine y_blk 2 tq_X8_ofCell (z := (85, [(0, .ref (ad 1)), (1, .int cell), (2, .int minute), (3, .int what)], [.int 1])) rfl ?_
        exact y_iret tq_X8_ofCell rfl rfl (⟨⟨_, rfl⟩, rfl⟩)
    by_cases s30_2 : what = 2
    · refine y_swIn tq_X8_ofCell 86 rfl (by rw [s30_2]; decide) (by rw [s30_2]; decide) (by rw [s30_2]; rfl) rfl ?_
      refine y_blk 3 tq_X8_ofCell (z := (89, [(0, .ref (ad 1)), (1, .int cell), (2, .int minute), (3, .int what)], [.int minute, .int cell, .ref (ad 1)])) rfl ?_
      refine y_callV hS tq_X8_ofCell rfl (As := [.int cell, .int minute]) rfl cv_X8_206 (hX.1 1 _ rfl) (m_X8_guardsWhoSee hS hX cell minute) rfl (by decide) (Nat.le_of_ble_eq_true rfl) (fun r89 Gc89 q89 => ?_) (fun E9 G9 h9 => h9.elim)
      obtain ⟨⟨x89, rfl⟩, eG89⟩ := q89
      have eG89 := eG89.symm
      subst eG89
      refine y_blk 0 tq_X8_ofCell (z := (92, [(0, .ref (ad 1)), (1, .int cell), (2, .int minute), (3, .int what)], [.int x89])) rfl ?_
      exact y_iret tq_X8_ofCell rfl rfl (⟨⟨_, rfl⟩, rfl⟩)
    by_cases s30_3 : what = 3
    · refine y_swIn tq_X8_ofCell 93 rfl (by rw [s30_3]; decide) (by rw [s30_3]; decide) (by rw [s30_3]; rfl) rfl ?_
      refine y_blk 1 tq_X8_ofCell (z := (94, [(0, .ref (ad 1)), (1, .int cell), (2, .int minute), (3, .int what)], [.ref (ad 1)])) rfl ?_
      refine y_get hS tq_X8_ofCell (v := .ref (ad 6)) rfl fg_X8_33_X8 (hX.1 1 _ rfl) rfl ?_
      refine y_blk 2 tq_X8_ofCell (z := (99, [(0, .ref (ad 1)), (1, .int cell), (2, .int minute), (3, .int what)], [.int minute, .int cell, .ref (ad 6)])) rfl ?_
      refine y_callV hS tq_X8_ofCell rfl (As := [.int cell, .int minute]) rfl cv_X8_209 (hX.1 6 _ rfl) (m_X2_setOn hS hX cell minute) rfl (by decide) (Nat.le_of_ble_eq_true rfl) (fun r99 Gc99 q99 => ?_) (fun E9 G9 h9 => h9.elim)
      obtain ⟨⟨x99, rfl⟩, eG99⟩ := q99
      have eG99 := eG99.symm
      subst eG99
      refine y_blk 0 tq_X8_ofCell (z := (102, [(0, .ref (ad 1)), (1, .int cell), (2, .int minute), (3, .int what)], [.int x99])) rfl ?_
      exact y_iret tq_X8_ofCell rfl rfl (⟨⟨_, rfl⟩, rfl⟩)
    refine y_swOut tq_X8_ofCell 103 rfl (by have z0 : what.toInt ≠ 0 := fun q => s30_0 (Int32.toInt_inj.mp (q.trans (by decide))); have z1 : what.toInt ≠ 1 := fun q => s30_1 (Int32.toInt_inj.mp (q.trans (by decide))); have z2 : what.toInt ≠ 2 := fun q => s30_2 (Int32.toInt_inj.mp (q.trans (by decide))); have z3 : what.toInt ≠ 3 := fun q => s30_3 (Int32.toInt_inj.mp (q.trans (by decide))); omega) rfl ?_
    refine y_blk 1 tq_X8_ofCell (z := (104, [(0, .ref (ad 1)), (1, .int cell), (2, .int minute), (3, .int what)], [.ref (ad 1)])) rfl ?_
    refine y_get hS tq_X8_ofCell (v := .ref (ad 2)) rfl fg_X8_10_X8 (hX.1 1 _ rfl) rfl ?_
    refine y_blk 1 tq_X8_ofCell (z := (108, [(0, .ref (ad 1)), (1, .int cell), (2, .int minute), (3, .int what)], [.int minute, .ref (ad 2)])) rfl ?_
    refine y_callV hS tq_X8_ofCell rfl (As := [.int minute]) rfl cv_X8_212 (hX.1 2 _ rfl) (m_X1_walkable hS hX minute) rfl (by decide) (Nat.le_of_ble_eq_true rfl) (fun r108 Gc108 q108 => ?_) (fun E9 G9 h9 => h9.elim)
    obtain ⟨⟨x108, rfl⟩, eG108⟩ := q108
    have eG108 := eG108.symm
    subst eG108
    refine y_blk 1 tq_X8_ofCell (z := (112, [(0, .ref (ad 1)), (1, .int cell), (2, .int minute), (3, .int what)], [.int cell, .long x108])) rfl ?_
    refine y_callS hS tq_X8_ofCell rfl (As := [.long x108, .int cell]) rfl cs_X8_124 (m_X8_isOf hS  x108 cell) rfl (by decide) (Nat.le_of_ble_eq_true rfl) (fun r112 Gc112 q112 => ?_) (fun E9 G9 h9 => h9.elim)
    obtain ⟨rfl, eG112⟩ := q112
    have eG112 := eG112.symm
    subst eG112
    refine y_blk 0 tq_X8_ofCell (z := (115, [(0, .ref (ad 1)), (1, .int cell), (2, .int minute), (3, .int what)], [.int (if xis x108 cell then 1 else 0)])) rfl ?_
    refine y_if_eq tq_X8_ofCell 122 rfl rfl (fun c115 => ?_) (fun c115 => ?_)
    · skip
      refine y_blk 1 tq_X8_ofCell (z := (123, [(0, .ref (ad 1)), (1, .int cell), (2, .int minute), (3, .int what)], [.int 0])) rfl ?_
      exact y_iret tq_X8_ofCell rfl rfl (⟨⟨_, rfl⟩, rfl⟩)
    · skip
      refine y_blk 2 tq_X8_ofCell (z := (123, [(0, .ref (ad 1)), (1, .int cell), (2, .int minute), (3, .int what)], [.int 1])) rfl ?_
      exact y_iret tq_X8_ofCell rfl rfl (⟨⟨_, rfl⟩, rfl⟩)
  · skip
    refine y_blk 3 tq_X8_ofCell (z := (15, [(0, .ref (ad 1)), (1, .int cell), (2, .int minute), (3, .int what)], [.int 4, .int 0, .int what])) rfl ?_
    refine y_callS hS tq_X8_ofCell rfl (As := [.int what, .int 0, .int 4]) rfl cs_X8_76 (m_X8_isIn hS  what 0 4) rfl (by decide) (Nat.le_of_ble_eq_true rfl) (fun r15 Gc15 q15 => ?_) (fun E9 G9 h9 => h9.elim)
    obtain ⟨rfl, eG15⟩ := q15
    have eG15 := eG15.symm
    subst eG15
    refine y_blk 0 tq_X8_ofCell (z := (18, [(0, .ref (ad 1)), (1, .int cell), (2, .int minute), (3, .int what)], [.int (if 0 ≤ what ∧ what ≤ 4 then 1 else 0)])) rfl ?_
    refine y_if_eq tq_X8_ofCell 25 rfl rfl (fun c18 => ?_) (fun c18 => ?_)
    · skip
      refine y_blk 1 tq_X8_ofCell (z := (26, [(0, .ref (ad 1)), (1, .int cell), (2, .int minute), (3, .int what)], [.int 0])) rfl ?_
      refine y_callS hS tq_X8_ofCell rfl (As := [.int 0]) rfl cs_X8_117 (m_X8_needLet_ok hS  0 (by first | decide | (rw [if_pos (by assumption)]; decide) | assumption | (exfalso; (simp only [yif0, Classical.not_not, ylt, yle, yl_m1, yl_0, yl_1, yl_2, yl_3, yl_4, yl_5, yl_6, yl_7, yl_8, yl_9, yl_10, yl_11, yl_12, yl_15, yl_16, yl_20, yl_60, yl_64, yl_90, yl_97, yl_99, yl_100, yl_120, yl_239, yl_240] at *; omega)))) rfl (by decide) (Nat.le_of_ble_eq_true rfl) (fun r26 Gc26 q26 => ?_) (fun E9 G9 h9 => h9.elim)
      obtain ⟨rfl, eG26⟩ := q26
      have eG26 := eG26.symm
      subst eG26
      refine y_blk 1 tq_X8_ofCell (z := (30, [(0, .ref (ad 1)), (1, .int cell), (2, .int minute), (3, .int what)], [.int what])) rfl ?_
      by_cases s30_0 : what = 0
      · refine y_swIn tq_X8_ofCell 60 rfl (by rw [s30_0]; decide) (by rw [s30_0]; decide) (by rw [s30_0]; rfl) rfl ?_
        refine y_blk 1 tq_X8_ofCell (z := (61, [(0, .ref (ad 1)), (1, .int cell), (2, .int minute), (3, .int what)], [.ref (ad 1)])) rfl ?_
        refine y_get hS tq_X8_ofCell (v := .ref (ad 2)) rfl fg_X8_10_X8 (hX.1 1 _ rfl) rfl ?_
        refine y_blk 1 tq_X8_ofCell (z := (65, [(0, .ref (ad 1)), (1, .int cell), (2, .int minute), (3, .int what)], [.int cell, .ref (ad 2)])) rfl ?_
        refine y_callV hS tq_X8_ofCell rfl (As := [.int cell]) rfl cv_X8_131 (hX.1 2 _ rfl) (m_X1_kindOf hS hX cell) rfl (by decide) (Nat.le_of_ble_eq_true rfl) (fun r65 Gc65 q65 => ?_) (fun E9 G9 h9 => h9.elim)
        obtain ⟨rfl, eG65⟩ := q65
        have eG65 := eG65.symm
        subst eG65
        refine y_blk 0 tq_X8_ofCell (z := (68, [(0, .ref (ad 1)), (1, .int cell), (2, .int minute), (3, .int what)], [.int (xkf σ cell)])) rfl ?_
        exact y_iret tq_X8_ofCell rfl rfl (⟨⟨_, rfl⟩, rfl⟩)
      by_cases s30_1 : what = 1
      · refine y_swIn tq_X8_ofCell 69 rfl (by rw [s30_1]; decide) (by rw [s30_1]; decide) (by rw [s30_1]; rfl) rfl ?_
        refine y_blk 1 tq_X8_ofCell (z := (70, [(0, .ref (ad 1)), (1, .int cell), (2, .int minute), (3, .int what)], [.ref (ad 1)])) rfl ?_
        refine y_callV hS tq_X8_ofCell rfl (As := []) rfl cv_X8_171 (hX.1 1 _ rfl) (m_X8_brightCells hS hX ) rfl (by decide) (Nat.le_of_ble_eq_true rfl) (fun r70 Gc70 q70 => ?_) (fun E9 G9 h9 => h9.elim)
        obtain ⟨⟨x70, rfl⟩, eG70⟩ := q70
        have eG70 := eG70.symm
        subst eG70
        refine y_blk 1 tq_X8_ofCell (z := (74, [(0, .ref (ad 1)), (1, .int cell), (2, .int minute), (3, .int what)], [.int cell, .long x70])) rfl ?_
        refine y_callS hS tq_X8_ofCell rfl (As := [.long x70, .int cell]) rfl cs_X8_124 (m_X8_isOf hS  x70 cell) rfl (by decide) (Nat.le_of_ble_eq_true rfl) (fun r74 Gc74 q74 => ?_) (fun E9 G9 h9 => h9.elim)
        obtain ⟨rfl, eG74⟩ := q74
        have eG74 := eG74.symm
        subst eG74
        refine y_blk 0 tq_X8_ofCell (z := (77, [(0, .ref (ad 1)), (1, .int cell), (2, .int minute), (3, .int what)], [.int (if xis x70 cell then 1 else 0)])) rfl ?_
        refine y_if_eq tq_X8_ofCell 84 rfl rfl (fun c77 => ?_) (fun c77 => ?_)
        · skip
          refine y_blk 1 tq_X8_ofCell (z := (85, [(0, .ref (ad 1)), (1, .int cell), (2, .int minute), (3, .int what)], [.int 0])) rfl ?_
          exact y_iret tq_X8_ofCell rfl rfl (⟨⟨_, rfl⟩, rfl⟩)
        · skip
          refine y_blk 2 tq_X8_ofCell (z := (85, [(0, .ref (ad 1)), (1, .int cell), (2, .int minute), (3, .int what)], [.int 1])) rfl ?_
          exact y_iret tq_X8_ofCell rfl rfl (⟨⟨_, rfl⟩, rfl⟩)
      by_cases s30_2 : what = 2
      · refine y_swIn tq_X8_ofCell 86 rfl (by rw [s30_2]; decide) (by rw [s30_2]; decide) (by rw [s30_2]; rfl) rfl ?_
        refine y_blk 3 tq_X8_ofCell (z := (89, [(0, .ref (ad 1)), (1, .int cell), (2, .int minute), (3, .int what)], [.int minute, .int cell, .ref (ad 1)])) rfl ?_
        refine y_callV hS tq_X8_ofCell rfl (As := [.int cell, .int minute]) rfl cv_X8_206 (hX.1 1 _ rfl) (m_X8_guardsWhoSee hS hX cell minute) rfl (by decide) (Nat.le_of_ble_eq_true rfl) (fun r89 Gc89 q89 => ?_) (fun E9 G9 h9 => h9.elim)
        obtain ⟨⟨x89, rfl⟩, eG89⟩ := q89
        have eG89 := eG89.symm
        subst eG89
        refine y_blk 0 tq_X8_ofCell (z := (92, [(0, .ref (ad 1)), (1, .int cell), (2, .int minute), (3, .int what)], [.int x89])) rfl ?_
        exact y_iret tq_X8_ofCell rfl rfl (⟨⟨_, rfl⟩, rfl⟩)
      by_cases s30_3 : what = 3
      · refine y_swIn tq_X8_ofCell 93 rfl (by rw [s30_3]; decide) (by rw [s30_3]; decide) (by rw [s30_3]; rfl) rfl ?_
        refine y_blk 1 tq_X8_ofCell (z := (94, [(0, .ref (ad 1)), (1, .int cell), (2, .int minute), (3, .int what)], [.ref (ad 1)])) rfl ?_
        refine y_get hS tq_X8_ofCell (v := .ref (ad 6)) rfl fg_X8_33_X8 (hX.1 1 _ rfl) rfl ?_
        refine y_blk 2 tq_X8_ofCell (z := (99, [(0, .ref (ad 1)), (1, .int cell), (2, .int minute), (3, .int what)], [.int minute, .int cell, .ref (ad 6)])) rfl ?_
        refine y_callV hS tq_X8_ofCell rfl (As := [.int cell, .int minute]) rfl cv_X8_209 (hX.1 6 _ rfl) (m_X2_setOn hS hX cell minute) rfl (by decide) (Nat.le_of_ble_eq_true rfl) (fun r99 Gc99 q99 => ?_) (fun E9 G9 h9 => h9.elim)
        obtain ⟨⟨x99, rfl⟩, eG99⟩ := q99
        have eG99 := eG99.symm
        subst eG99
        refine y_blk 0 tq_X8_ofCell (z := (102, [(0, .ref (ad 1)), (1, .int cell), (2, .int minute), (3, .int what)], [.int x99])) rfl ?_
        exact y_iret tq_X8_ofCell rfl rfl (⟨⟨_, rfl⟩, rfl⟩)
      refine y_swOut tq_X8_ofCell 103 rfl (by have z0 : what.toInt ≠ 0 := fun q => s30_0 (Int32.toInt_inj.mp (q.trans (by decide))); have z1 : what.toInt ≠ 1 := fun q => s30_1 (Int32.toInt_inj.mp (q.trans (by decide))); have z2 : what.toInt ≠ 2 := fun q => s30_2 (Int32.toInt_inj.mp (q.trans (by decide))); have z3 : what.toInt ≠ 3 := fun q => s30_3 (Int32.toInt_inj.mp (q.trans (by decide))); omega) rfl ?_
      refine y_blk 1 tq_X8_ofCell (z := (104, [(0, .ref (ad 1)), (1, .int cell), (2, .int minute), (3, .int what)], [.ref (ad 1)])) rfl ?_
      refine y_get hS tq_X8_ofCell (v := .ref (ad 2)) rfl fg_X8_10_X8 (hX.1 1 _ rfl) rfl ?_
      refine y_blk 1 tq_X8_ofCell (z := (108, [(0, .ref (ad 1)), (1, .int cell), (2, .int minute), (3, .int what)], [.int minute, .ref (ad 2)])) rfl ?_
      refine y_callV hS tq_X8_ofCell rfl (As := [.int minute]) rfl cv_X8_212 (hX.1 2 _ rfl) (m_X1_walkable hS hX minute) rfl (by decide) (Nat.le_of_ble_eq_true rfl) (fun r108 Gc108 q108 => ?_) (fun E9 G9 h9 => h9.elim)
      obtain ⟨⟨x108, rfl⟩, eG108⟩ := q108
      have eG108 := eG108.symm
      subst eG108
      refine y_blk 1 tq_X8_ofCell (z := (112, [(0, .ref (ad 1)), (1, .int cell), (2, .int minute), (3, .int what)], [.int cell, .long x108])) rfl ?_
      refine y_callS hS tq_X8_ofCell rfl (As := [.long x108, .int cell]) rfl cs_X8_124 (m_X8_isOf hS  x108 cell) rfl (by decide) (Nat.le_of_ble_eq_true rfl) (fun r112 Gc112 q112 => ?_) (fun E9 G9 h9 => h9.elim)
      obtain ⟨rfl, eG112⟩ := q112
      have eG112 := eG112.symm
      subst eG112
      refine y_blk 0 tq_X8_ofCell (z := (115, [(0, .ref (ad 1)), (1, .int cell), (2, .int minute), (3, .int what)], [.int (if xis x108 cell then 1 else 0)])) rfl ?_
      refine y_if_eq tq_X8_ofCell 122 rfl rfl (fun c115 => ?_) (fun c115 => ?_)
      · skip
        refine y_blk 1 tq_X8_ofCell (z := (123, [(0, .ref (ad 1)), (1, .int cell), (2, .int minute), (3, .int what)], [.int 0])) rfl ?_
        exact y_iret tq_X8_ofCell rfl rfl (⟨⟨_, rfl⟩, rfl⟩)
      · skip
        refine y_blk 2 tq_X8_ofCell (z := (123, [(0, .ref (ad 1)), (1, .int cell), (2, .int minute), (3, .int what)], [.int 1])) rfl ?_
        exact y_iret tq_X8_ofCell rfl rfl (⟨⟨_, rfl⟩, rfl⟩)
    · skip
      refine y_blk 2 tq_X8_ofCell (z := (26, [(0, .ref (ad 1)), (1, .int cell), (2, .int minute), (3, .int what)], [.int 1])) rfl ?_
      refine y_callS hS tq_X8_ofCell rfl (As := [.int 1]) rfl cs_X8_117 (m_X8_needLet_ok hS  1 (by first | decide | (rw [if_pos (by assumption)]; decide) | assumption | (exfalso; (simp only [yif0, Classical.not_not, ylt, yle, yl_m1, yl_0, yl_1, yl_2, yl_3, yl_4, yl_5, yl_6, yl_7, yl_8, yl_9, yl_10, yl_11, yl_12, yl_15, yl_16, yl_20, yl_60, yl_64, yl_90, yl_97, yl_99, yl_100, yl_120, yl_239, yl_240] at *; omega)))) rfl (by decide) (Nat.le_of_ble_eq_true rfl) (fun r26 Gc26 q26 => ?_) (fun E9 G9 h9 => h9.elim)
      obtain ⟨rfl, eG26⟩ := q26
      have eG26 := eG26.symm
      subst eG26
      refine y_blk 1 tq_X8_ofCell (z := (30, [(0, .ref (ad 1)), (1, .int cell), (2, .int minute), (3, .int what)], [.int what])) rfl ?_
      by_cases s30_0 : what = 0
      · refine y_swIn tq_X8_ofCell 60 rfl (by rw [s30_0]; decide) (by rw [s30_0]; decide) (by rw [s30_0]; rfl) rfl ?_
        refine y_blk 1 tq_X8_ofCell (z := (61, [(0, .ref (ad 1)), (1, .int cell), (2, .int minute), (3, .int what)], [.ref (ad 1)])) rfl ?_
        refine y_get hS tq_X8_ofCell (v := .ref (ad 2)) rfl fg_X8_10_X8 (hX.1 1 _ rfl) rfl ?_
        refine y_blk 1 tq_X8_ofCell (z := (65, [(0, .ref (ad 1)), (1, .int cell), (2, .int minute), (3, .int what)], [.int cell, .ref (ad 2)])) rfl ?_
        refine y_callV hS tq_X8_ofCell rfl (As := [.int cell]) rfl cv_X8_131 (hX.1 2 _ rfl) (m_X1_kindOf hS hX cell) rfl (by decide) (Nat.le_of_ble_eq_true rfl) (fun r65 Gc65 q65 => ?_) (fun E9 G9 h9 => h9.elim)
        obtain ⟨rfl, eG65⟩ := q65
        have eG65 := eG65.symm
        subst eG65
        refine y_blk 0 tq_X8_ofCell (z := (68, [(0, .ref (ad 1)), (1, .int cell), (2, .int minute), (3, .int what)], [.int (xkf σ cell)])) rfl ?_
        exact y_iret tq_X8_ofCell rfl rfl (⟨⟨_, rfl⟩, rfl⟩)
      by_cases s30_1 : what = 1
      · refine y_swIn tq_X8_ofCell 69 rfl (by rw [s30_1]; decide) (by rw [s30_1]; decide) (by rw [s30_1]; rfl) rfl ?_
        refine y_blk 1 tq_X8_ofCell (z := (70, [(0, .ref (ad 1)), (1, .int cell), (2, .int minute), (3, .int what)], [.ref (ad 1)])) rfl ?_
        refine y_callV hS tq_X8_ofCell rfl (As := []) rfl cv_X8_171 (hX.1 1 _ rfl) (m_X8_brightCells hS hX ) rfl (by decide) (Nat.le_of_ble_eq_true rfl) (fun r70 Gc70 q70 => ?_) (fun E9 G9 h9 => h9.elim)
        obtain ⟨⟨x70, rfl⟩, eG70⟩ := q70
        have eG70 := eG70.symm
        subst eG70
        refine y_blk 1 tq_X8_ofCell (z := (74, [(0, .ref (ad 1)), (1, .int cell), (2, .int minute), (3, .int what)], [.int cell, .long x70])) rfl ?_
        refine y_callS hS tq_X8_ofCell rfl (As := [.long x70, .int cell]) rfl cs_X8_124 (m_X8_isOf hS  x70 cell) rfl (by decide) (Nat.le_of_ble_eq_true rfl) (fun r74 Gc74 q74 => ?_) (fun E9 G9 h9 => h9.elim)
        obtain ⟨rfl, eG74⟩ := q74
        have eG74 := eG74.symm
        subst eG74
        refine y_blk 0 tq_X8_ofCell (z := (77, [(0, .ref (ad 1)), (1, .int cell), (2, .int minute), (3, .int what)], [.int (if xis x70 cell then 1 else 0)])) rfl ?_
        refine y_if_eq tq_X8_ofCell 84 rfl rfl (fun c77 => ?_) (fun c77 => ?_)
        · skip
          refine y_blk 1 tq_X8_ofCell (z := (85, [(0, .ref (ad 1)), (1, .int cell), (2, .int minute), (3, .int what)], [.int 0])) rfl ?_
          exact y_iret tq_X8_ofCell rfl rfl (⟨⟨_, rfl⟩, rfl⟩)
        · skip
          refine y_blk 2 tq_X8_ofCell (z := (85, [(0, .ref (ad 1)), (1, .int cell), (2, .int minute), (3, .int what)], [.int 1])) rfl ?_
          exact y_iret tq_X8_ofCell rfl rfl (⟨⟨_, rfl⟩, rfl⟩)
      by_cases s30_2 : what = 2
      · refine y_swIn tq_X8_ofCell 86 rfl (by rw [s30_2]; decide) (by rw [s30_2]; decide) (by rw [s30_2]; rfl) rfl ?_
        refine y_blk 3 tq_X8_ofCell (z := (89, [(0, .ref (ad 1)), (1, .int cell), (2, .int minute), (3, .int what)], [.int minute, .int cell, .ref (ad 1)])) rfl ?_
        refine y_callV hS tq_X8_ofCell rfl (As := [.int cell, .int minute]) rfl cv_X8_206 (hX.1 1 _ rfl) (m_X8_guardsWhoSee hS hX cell minute) rfl (by decide) (Nat.le_of_ble_eq_true rfl) (fun r89 Gc89 q89 => ?_) (fun E9 G9 h9 => h9.elim)
        obtain ⟨⟨x89, rfl⟩, eG89⟩ := q89
        have eG89 := eG89.symm
        subst eG89
        refine y_blk 0 tq_X8_ofCell (z := (92, [(0, .ref (ad 1)), (1, .int cell), (2, .int minute), (3, .int what)], [.int x89])) rfl ?_
        exact y_iret tq_X8_ofCell rfl rfl (⟨⟨_, rfl⟩, rfl⟩)
      by_cases s30_3 : what = 3
      · refine y_swIn tq_X8_ofCell 93 rfl (by rw [s30_3]; decide) (by rw [s30_3]; decide) (by rw [s30_3]; rfl) rfl ?_
        refine y_blk 1 tq_X8_ofCell (z := (94, [(0, .ref (ad 1)), (1, .int cell), (2, .int minute), (3, .int what)], [.ref (ad 1)])) rfl ?_
        refine y_get hS tq_X8_ofCell (v := .ref (ad 6)) rfl fg_X8_33_X8 (hX.1 1 _ rfl) rfl ?_
        refine y_blk 2 tq_X8_ofCell (z := (99, [(0, .ref (ad 1)), (1, .int cell), (2, .int minute), (3, .int what)], [.int minute, .int cell, .ref (ad 6)])) rfl ?_
        refine y_callV hS tq_X8_ofCell rfl (As := [.int cell, .int minute]) rfl cv_X8_209 (hX.1 6 _ rfl) (m_X2_setOn hS hX cell minute) rfl (by decide) (Nat.le_of_ble_eq_true rfl) (fun r99 Gc99 q99 => ?_) (fun E9 G9 h9 => h9.elim)
        obtain ⟨⟨x99, rfl⟩, eG99⟩ := q99
        have eG99 := eG99.symm
        subst eG99
        refine y_blk 0 tq_X8_ofCell (z := (102, [(0, .ref (ad 1)), (1, .int cell), (2, .int minute), (3, .int what)], [.int x99])) rfl ?_
        exact y_iret tq_X8_ofCell rfl rfl (⟨⟨_, rfl⟩, rfl⟩)
      refine y_swOut tq_X8_ofCell 103 rfl (by have z0 : what.toInt ≠ 0 := fun q => s30_0 (Int32.toInt_inj.mp (q.trans (by decide))); have z1 : what.toInt ≠ 1 := fun q => s30_1 (Int32.toInt_inj.mp (q.trans (by decide))); have z2 : what.toInt ≠ 2 := fun q => s30_2 (Int32.toInt_inj.mp (q.trans (by decide))); have z3 : what.toInt ≠ 3 := fun q => s30_3 (Int32.toInt_inj.mp (q.trans (by decide))); omega) rfl ?_
      refine y_blk 1 tq_X8_ofCell (z := (104, [(0, .ref (ad 1)), (1, .int cell), (2, .int minute), (3, .int what)], [.ref (ad 1)])) rfl ?_
      refine y_get hS tq_X8_ofCell (v := .ref (ad 2)) rfl fg_X8_10_X8 (hX.1 1 _ rfl) rfl ?_
      refine y_blk 1 tq_X8_ofCell (z := (108, [(0, .ref (ad 1)), (1, .int cell), (2, .int minute), (3, .int what)], [.int minute, .ref (ad 2)])) rfl ?_
      refine y_callV hS tq_X8_ofCell rfl (As := [.int minute]) rfl cv_X8_212 (hX.1 2 _ rfl) (m_X1_walkable hS hX minute) rfl (by decide) (Nat.le_of_ble_eq_true rfl) (fun r108 Gc108 q108 => ?_) (fun E9 G9 h9 => h9.elim)
      obtain ⟨⟨x108, rfl⟩, eG108⟩ := q108
      have eG108 := eG108.symm
      subst eG108
      refine y_blk 1 tq_X8_ofCell (z := (112, [(0, .ref (ad 1)), (1, .int cell), (2, .int minute), (3, .int what)], [.int cell, .long x108])) rfl ?_
      refine y_callS hS tq_X8_ofCell rfl (As := [.long x108, .int cell]) rfl cs_X8_124 (m_X8_isOf hS  x108 cell) rfl (by decide) (Nat.le_of_ble_eq_true rfl) (fun r112 Gc112 q112 => ?_) (fun E9 G9 h9 => h9.elim)
      obtain ⟨rfl, eG112⟩ := q112
      have eG112 := eG112.symm
      subst eG112
      refine y_blk 0 tq_X8_ofCell (z := (115, [(0, .ref (ad 1)), (1, .int cell), (2, .int minute), (3, .int what)], [.int (if xis x108 cell then 1 else 0)])) rfl ?_
      refine y_if_eq tq_X8_ofCell 122 rfl rfl (fun c115 => ?_) (fun c115 => ?_)
      · skip
        refine y_blk 1 tq_X8_ofCell (z := (123, [(0, .ref (ad 1)), (1, .int cell), (2, .int minute), (3, .int what)], [.int 0])) rfl ?_
        exact y_iret tq_X8_ofCell rfl rfl (⟨⟨_, rfl⟩, rfl⟩)
      · skip
        refine y_blk 2 tq_X8_ofCell (z := (123, [(0, .ref (ad 1)), (1, .int cell), (2, .int minute), (3, .int what)], [.int 1])) rfl ?_
        exact y_iret tq_X8_ofCell rfl rfl (⟨⟨_, rfl⟩, rfl⟩)
set_option maxHeartbeats 4000000 in
set_option maxRecDepth 100000 in
theorem m_X8_ofGuard_ok {l : Launch} {S0 : State} {A0 : Array Value} {D : va_G} {aC : Nat → ClassId} {ad : Nat → Nat} {G : AH} {σ : XS} (hS : yS l S0 A0 D aC) (hX : atX aC ad G σ) (guard : Int32) (what : Int32) (h : 0 ≤ guard ∧ guard ≤ σ.1 5 - 1) (h2 : 0 ≤ what ∧ what ≤ 8) : yM l S0 D yX8_ofGuard cX8_ofGuard 3 (some .int) 12 0 0 [.ref (ad 1), .int guard, .int what] G (fun r G1 => (∃ v : Int32, r = some (.int v)) ∧ G1 = G) (fun _ _ => False) := by
  refine yM.ofK K_X8_ofGuard rfl (by decide) (Nat.le_of_ble_eq_true rfl) ?_
  refine y_blk 2 tq_X8_ofGuard (z := (2, [(0, .ref (ad 1)), (1, .int guard), (2, .int what)], [.ref (ad 1), .int guard])) rfl ?_
  refine y_get hS tq_X8_ofGuard (v := .ref (ad 6)) rfl fg_X8_33_X8 (hX.1 1 _ rfl) rfl ?_
  refine y_blk 0 tq_X8_ofGuard (z := (5, [(0, .ref (ad 1)), (1, .int guard), (2, .int what)], [.ref (ad 6), .int guard])) rfl ?_
  refine y_callV hS tq_X8_ofGuard rfl (As := []) rfl cv_X8_182 (hX.1 6 _ rfl) (m_X2_count hS hX ) rfl (by decide) (Nat.le_of_ble_eq_true rfl) (fun r5 Gc5 q5 => ?_) (fun E9 G9 h9 => h9.elim)
  obtain ⟨rfl, eG5⟩ := q5
  have eG5 := eG5.symm
  subst eG5
  refine y_blk 0 tq_X8_ofGuard (z := (8, [(0, .ref (ad 1)), (1, .int guard), (2, .int what)], [.int (σ.1 5), .int guard])) rfl ?_
  refine y_callS hS tq_X8_ofGuard rfl (As := [.int guard, .int (σ.1 5)]) rfl cs_X8_164 (m_X8_needThere_ok hS  guard (σ.1 5) (by first | decide | (rw [if_pos (by assumption)]; decide) | assumption | (exfalso; (simp only [yif0, Classical.not_not, ylt, yle, yl_m1, yl_0, yl_1, yl_2, yl_3, yl_4, yl_5, yl_6, yl_7, yl_8, yl_9, yl_10, yl_11, yl_12, yl_15, yl_16, yl_20, yl_60, yl_64, yl_90, yl_97, yl_99, yl_100, yl_120, yl_239, yl_240] at *; omega)))) rfl (by decide) (Nat.le_of_ble_eq_true rfl) (fun r8 Gc8 q8 => ?_) (fun E9 G9 h9 => h9.elim)
  obtain ⟨rfl, eG8⟩ := q8
  have eG8 := eG8.symm
  subst eG8
  refine y_blk 3 tq_X8_ofGuard (z := (15, [(0, .ref (ad 1)), (1, .int guard), (2, .int what)], [.int 8, .int 0, .int what])) rfl ?_
  refine y_callS hS tq_X8_ofGuard rfl (As := [.int what, .int 0, .int 8]) rfl cs_X8_76 (m_X8_isIn hS  what 0 8) rfl (by decide) (Nat.le_of_ble_eq_true rfl) (fun r15 Gc15 q15 => ?_) (fun E9 G9 h9 => h9.elim)
  obtain ⟨rfl, eG15⟩ := q15
  have eG15 := eG15.symm
  subst eG15
  refine y_blk 0 tq_X8_ofGuard (z := (18, [(0, .ref (ad 1)), (1, .int guard), (2, .int what)], [.int (if 0 ≤ what ∧ what ≤ 8 then 1 else 0)])) rfl ?_
  refine y_callS hS tq_X8_ofGuard rfl (As := [.int (if 0 ≤ what ∧ what ≤ 8 then 1 else 0)]) rfl cs_X8_117 (m_X8_needLet_ok hS  (if 0 ≤ what ∧ what ≤ 8 then 1 else 0) (by first | decide | (rw [if_pos (by assumption)]; decide) | assumption | (exfalso; (simp only [yif0, Classical.not_not, ylt, yle, yl_m1, yl_0, yl_1, yl_2, yl_3, yl_4, yl_5, yl_6, yl_7, yl_8, yl_9, yl_10, yl_11, yl_12, yl_15, yl_16, yl_20, yl_60, yl_64, yl_90, yl_97, yl_99, yl_100, yl_120, yl_239, yl_240] at *; omega)))) rfl (by decide) (Nat.le_of_ble_eq_true rfl) (fun r18 Gc18 q18 => ?_) (fun E9 G9 h9 => h9.elim)
  obtain ⟨rfl, eG18⟩ := q18
  have eG18 := eG18.symm
  subst eG18
  refine y_blk 1 tq_X8_ofGuard (z := (22, [(0, .ref (ad 1)), (1, .int guard), (2, .int what)], [.int what])) rfl ?_
  by_cases s22_0 : what = 0
  · refine y_swIn tq_X8_ofGuard 68 rfl (by rw [s22_0]; decide) (by rw [s22_0]; decide) (by rw [s22_0]; rfl) rfl ?_
    refine y_blk 1 tq_X8_ofGuard (z := (69, [(0, .ref (ad 1)), (1, .int guard), (2, .int what)], [.ref (ad 1)])) rfl ?_
    refine y_get hS tq_X8_ofGuard (v := .ref (ad 6)) rfl fg_X8_33_X8 (hX.1 1 _ rfl) rfl ?_
    refine y_blk 1 tq_X8_ofGuard (z := (73, [(0, .ref (ad 1)), (1, .int guard), (2, .int what)], [.int guard, .ref (ad 6)])) rfl ?_
    refine y_callV hS tq_X8_ofGuard rfl (As := [.int guard]) rfl cv_X8_258 (hX.1 6 _ rfl) (m_X2_firstOf hS hX guard) rfl (by decide) (Nat.le_of_ble_eq_true rfl) (fun r73 Gc73 q73 => ?_) (fun E9 G9 h9 => h9.elim)
    obtain ⟨rfl, eG73⟩ := q73
    have eG73 := eG73.symm
    subst eG73
    refine y_blk 0 tq_X8_ofGuard (z := (76, [(0, .ref (ad 1)), (1, .int guard), (2, .int what)], [.int (xat σ 5 guard)])) rfl ?_
    exact y_iret tq_X8_ofGuard rfl rfl (⟨⟨_, rfl⟩, rfl⟩)
  by_cases s22_1 : what = 1
  · refine y_swIn tq_X8_ofGuard 77 rfl (by rw [s22_1]; decide) (by rw [s22_1]; decide) (by rw [s22_1]; rfl) rfl ?_
    refine y_blk 1 tq_X8_ofGuard (z := (78, [(0, .ref (ad 1)), (1, .int guard), (2, .int what)], [.ref (ad 1)])) rfl ?_
    refine y_get hS tq_X8_ofGuard (v := .ref (ad 6)) rfl fg_X8_33_X8 (hX.1 1 _ rfl) rfl ?_
    refine y_blk 1 tq_X8_ofGuard (z := (82, [(0, .ref (ad 1)), (1, .int guard), (2, .int what)], [.int guard, .ref (ad 6)])) rfl ?_
    refine y_callV hS tq_X8_ofGuard rfl (As := [.int guard]) rfl cv_X8_261 (hX.1 6 _ rfl) (m_X2_lastOf hS hX guard) rfl (by decide) (Nat.le_of_ble_eq_true rfl) (fun r82 Gc82 q82 => ?_) (fun E9 G9 h9 => h9.elim)
    obtain ⟨rfl, eG82⟩ := q82
    have eG82 := eG82.symm
    subst eG82
    refine y_blk 0 tq_X8_ofGuard (z := (85, [(0, .ref (ad 1)), (1, .int guard), (2, .int what)], [.int (xat σ 6 guard)])) rfl ?_
    exact y_iret tq_X8_ofGuard rfl rfl (⟨⟨_, rfl⟩, rfl⟩)
  by_cases s22_2 : what = 2
  · refine y_swIn tq_X8_ofGuard 86 rfl (by rw [s22_2]; decide) (by rw [s22_2]; decide) (by rw [s22_2]; rfl) rfl ?_
    refine y_blk 1 tq_X8_ofGuard (z := (87, [(0, .ref (ad 1)), (1, .int guard), (2, .int what)], [.ref (ad 1)])) rfl ?_
    refine y_get hS tq_X8_ofGuard (v := .ref (ad 6)) rfl fg_X8_33_X8 (hX.1 1 _ rfl) rfl ?_
    refine y_blk 1 tq_X8_ofGuard (z := (91, [(0, .ref (ad 1)), (1, .int guard), (2, .int what)], [.int guard, .ref (ad 6)])) rfl ?_
    refine y_callV hS tq_X8_ofGuard rfl (As := [.int guard]) rfl cv_X8_264 (hX.1 6 _ rfl) (m_X2_stayOf hS hX guard) rfl (by decide) (Nat.le_of_ble_eq_true rfl) (fun r91 Gc91 q91 => ?_) (fun E9 G9 h9 => h9.elim)
    obtain ⟨rfl, eG91⟩ := q91
    have eG91 := eG91.symm
    subst eG91
    refine y_blk 0 tq_X8_ofGuard (z := (94, [(0, .ref (ad 1)), (1, .int guard), (2, .int what)], [.int (xat σ 7 guard)])) rfl ?_
    exact y_iret tq_X8_ofGuard rfl rfl (⟨⟨_, rfl⟩, rfl⟩)
  by_cases s22_3 : what = 3
  · refine y_swIn tq_X8_ofGuard 95 rfl (by rw [s22_3]; decide) (by rw [s22_3]; decide) (by rw [s22_3]; rfl) rfl ?_
    refine y_blk 1 tq_X8_ofGuard (z := (96, [(0, .ref (ad 1)), (1, .int guard), (2, .int what)], [.ref (ad 1)])) rfl ?_
    refine y_get hS tq_X8_ofGuard (v := .ref (ad 6)) rfl fg_X8_33_X8 (hX.1 1 _ rfl) rfl ?_
    refine y_blk 1 tq_X8_ofGuard (z := (100, [(0, .ref (ad 1)), (1, .int guard), (2, .int what)], [.int guard, .ref (ad 6)])) rfl ?_
    refine y_callV hS tq_X8_ofGuard rfl (As := [.int guard]) rfl cv_X8_267 (hX.1 6 _ rfl) (m_X2_lengthOf hS hX guard) rfl (by decide) (Nat.le_of_ble_eq_true rfl) (fun r100 Gc100 q100 => ?_) (fun E9 G9 h9 => h9.elim)
    obtain ⟨rfl, eG100⟩ := q100
    have eG100 := eG100.symm
    subst eG100
    refine y_blk 0 tq_X8_ofGuard (z := (103, [(0, .ref (ad 1)), (1, .int guard), (2, .int what)], [.int (xat σ 8 guard)])) rfl ?_
    exact y_iret tq_X8_ofGuard rfl rfl (⟨⟨_, rfl⟩, rfl⟩)
  by_cases s22_4 : what = 4
  · refine y_swIn tq_X8_ofGuard 104 rfl (by rw [s22_4]; decide) (by rw [s22_4]; decide) (by rw [s22_4]; rfl) rfl ?_
    refine y_blk 1 tq_X8_ofGuard (z := (105, [(0, .ref (ad 1)), (1, .int guard), (2, .int what)], [.ref (ad 1)])) rfl ?_
    refine y_get hS tq_X8_ofGuard (v := .ref (ad 7)) rfl fg_X8_49_X8 (hX.1 1 _ rfl) rfl ?_
    refine y_blk 1 tq_X8_ofGuard (z := (109, [(0, .ref (ad 1)), (1, .int guard), (2, .int what)], [.int guard, .ref (ad 7)])) rfl ?_
    refine y_callV hS tq_X8_ofGuard rfl (As := [.int guard]) rfl cv_X8_270 (hX.1 7 _ rfl) (m_X7_strikesOf hS hX guard) rfl (by decide) (Nat.le_of_ble_eq_true rfl) (fun r109 Gc109 q109 => ?_) (fun E9 G9 h9 => h9.elim)
    obtain ⟨rfl, eG109⟩ := q109
    have eG109 := eG109.symm
    subst eG109
    refine y_blk 0 tq_X8_ofGuard (z := (112, [(0, .ref (ad 1)), (1, .int guard), (2, .int what)], [.int (xat σ 13 guard)])) rfl ?_
    exact y_iret tq_X8_ofGuard rfl rfl (⟨⟨_, rfl⟩, rfl⟩)
  by_cases s22_5 : what = 5
  · refine y_swIn tq_X8_ofGuard 113 rfl (by rw [s22_5]; decide) (by rw [s22_5]; decide) (by rw [s22_5]; rfl) rfl ?_
    refine y_blk 1 tq_X8_ofGuard (z := (114, [(0, .ref (ad 1)), (1, .int guard), (2, .int what)], [.ref (ad 1)])) rfl ?_
    refine y_get hS tq_X8_ofGuard (v := .ref (ad 7)) rfl fg_X8_49_X8 (hX.1 1 _ rfl) rfl ?_
    refine y_blk 1 tq_X8_ofGuard (z := (118, [(0, .ref (ad 1)), (1, .int guard), (2, .int what)], [.int guard, .ref (ad 7)])) rfl ?_
    refine y_callV hS tq_X8_ofGuard rfl (As := [.int guard]) rfl cv_X8_273 (hX.1 7 _ rfl) (m_X7_isBarred hS hX guard) rfl (by decide) (Nat.le_of_ble_eq_true rfl) (fun r118 Gc118 q118 => ?_) (fun E9 G9 h9 => h9.elim)
    obtain ⟨⟨x118, hb_x118, rfl⟩, eG118⟩ := q118
    have eG118 := eG118.symm
    subst eG118
    refine y_blk 0 tq_X8_ofGuard (z := (121, [(0, .ref (ad 1)), (1, .int guard), (2, .int what)], [.int x118])) rfl ?_
    refine y_if_eq tq_X8_ofGuard 128 rfl rfl (fun c121 => ?_) (fun c121 => ?_)
    · skip
      refine y_blk 1 tq_X8_ofGuard (z := (129, [(0, .ref (ad 1)), (1, .int guard), (2, .int what)], [.int 0])) rfl ?_
      exact y_iret tq_X8_ofGuard rfl rfl (⟨⟨_, rfl⟩, rfl⟩)
    · skip
      refine y_blk 2 tq_X8_ofGuard (z := (129, [(0, .ref (ad 1)), (1, .int guard), (2, .int what)], [.int 1])) rfl ?_
      exact y_iret tq_X8_ofGuard rfl rfl (⟨⟨_, rfl⟩, rfl⟩)
  by_cases s22_6 : what = 6
  · refine y_swIn tq_X8_ofGuard 130 rfl (by rw [s22_6]; decide) (by rw [s22_6]; decide) (by rw [s22_6]; rfl) rfl ?_
    refine y_blk 1 tq_X8_ofGuard (z := (131, [(0, .ref (ad 1)), (1, .int guard), (2, .int what)], [.ref (ad 1)])) rfl ?_
    refine y_get hS tq_X8_ofGuard (v := .ref (ad 130)) rfl fg_X8_53_X8 (hX.1 1 _ rfl) rfl ?_
    refine y_blk 1 tq_X8_ofGuard (z := (135, [(0, .ref (ad 1)), (1, .int guard), (2, .int what)], [.int guard, .ref (ad 130)])) rfl ?_
    refine y_callV hS tq_X8_ofGuard rfl (As := [.int guard]) rfl cv_X8_276 (hX.num (k := 15) (by decide)) (m_X5_placesOf hS hX (k := 15) (by decide) guard) rfl (by decide) (Nat.le_of_ble_eq_true rfl) (fun r135 Gc135 q135 => ?_) (fun E9 G9 h9 => h9.elim)
    obtain ⟨⟨x135, rfl⟩, eG135⟩ := q135
    have eG135 := eG135.symm
    subst eG135
    refine y_blk 0 tq_X8_ofGuard (z := (138, [(0, .ref (ad 1)), (1, .int guard), (2, .int what)], [.int x135])) rfl ?_
    exact y_iret tq_X8_ofGuard rfl rfl (⟨⟨_, rfl⟩, rfl⟩)
  by_cases s22_7 : what = 7
  · refine y_swIn tq_X8_ofGuard 139 rfl (by rw [s22_7]; decide) (by rw [s22_7]; decide) (by rw [s22_7]; rfl) rfl ?_
    refine y_blk 1 tq_X8_ofGuard (z := (140, [(0, .ref (ad 1)), (1, .int guard), (2, .int what)], [.ref (ad 1)])) rfl ?_
    refine y_get hS tq_X8_ofGuard (v := .ref (ad 7)) rfl fg_X8_49_X8 (hX.1 1 _ rfl) rfl ?_
    refine y_blk 1 tq_X8_ofGuard (z := (144, [(0, .ref (ad 1)), (1, .int guard), (2, .int what)], [.int guard, .ref (ad 7)])) rfl ?_
    refine y_callV hS tq_X8_ofGuard rfl (As := [.int guard]) rfl cv_X8_279 (hX.1 7 _ rfl) (m_X7_hoursOf hS hX guard) rfl (by decide) (Nat.le_of_ble_eq_true rfl) (fun r144 Gc144 q144 => ?_) (fun E9 G9 h9 => h9.elim)
    obtain ⟨rfl, eG144⟩ := q144
    have eG144 := eG144.symm
    subst eG144
    refine y_blk 0 tq_X8_ofGuard (z := (147, [(0, .ref (ad 1)), (1, .int guard), (2, .int what)], [.int (xat σ 14 guard)])) rfl ?_
    exact y_iret tq_X8_ofGuard rfl rfl (⟨⟨_, rfl⟩, rfl⟩)
  refine y_swOut tq_X8_ofGuard 148 rfl (by have z0 : what.toInt ≠ 0 := fun q => s22_0 (Int32.toInt_inj.mp (q.trans (by decide))); have z1 : what.toInt ≠ 1 := fun q => s22_1 (Int32.toInt_inj.mp (q.trans (by decide))); have z2 : what.toInt ≠ 2 := fun q => s22_2 (Int32.toInt_inj.mp (q.trans (by decide))); have z3 : what.toInt ≠ 3 := fun q => s22_3 (Int32.toInt_inj.mp (q.trans (by decide))); have z4 : what.toInt ≠ 4 := fun q => s22_4 (Int32.toInt_inj.mp (q.trans (by decide))); have z5 : what.toInt ≠ 5 := fun q => s22_5 (Int32.toInt_inj.mp (q.trans (by decide))); have z6 : what.toInt ≠ 6 := fun q => s22_6 (Int32.toInt_inj.mp (q.trans (by decide))); have z7 : what.toInt ≠ 7 := fun q => s22_7 (Int32.toInt_inj.mp (q.trans (by decide))); omega) rfl ?_
  refine y_blk 1 tq_X8_ofGuard (z := (149, [(0, .ref (ad 1)), (1, .int guard), (2, .int what)], [.ref (ad 1)])) rfl ?_
  refine y_get hS tq_X8_ofGuard (v := .ref (ad 6)) rfl fg_X8_33_X8 (hX.1 1 _ rfl) rfl ?_
  refine y_blk 1 tq_X8_ofGuard (z := (153, [(0, .ref (ad 1)), (1, .int guard), (2, .int what)], [.int guard, .ref (ad 6)])) rfl ?_
  refine y_callV hS tq_X8_ofGuard rfl (As := [.int guard]) rfl cv_X8_282 (hX.1 6 _ rfl) (m_X2_tiredMinutesOf hS hX guard) rfl (by decide) (Nat.le_of_ble_eq_true rfl) (fun r153 Gc153 q153 => ?_) (fun E9 G9 h9 => h9.elim)
  obtain ⟨⟨x153, rfl⟩, eG153⟩ := q153
  have eG153 := eG153.symm
  subst eG153
  refine y_blk 0 tq_X8_ofGuard (z := (156, [(0, .ref (ad 1)), (1, .int guard), (2, .int what)], [.int x153])) rfl ?_
  exact y_iret tq_X8_ofGuard rfl rfl (⟨⟨_, rfl⟩, rfl⟩)
set_option maxHeartbeats 4000000 in
set_option maxRecDepth 100000 in
theorem m_X8_empty_ok {l : Launch} {S0 : State} {A0 : Array Value} {D : va_G} {aC : Nat → ClassId} {ad : Nat → Nat} {G : AH} {σ : XS} (hS : yS l S0 A0 D aC) (hX : atX aC ad G σ) (post : Int32) (isFirst : Int32) (h : 0 ≤ post ∧ post ≤ σ.1 10 - 1) : yM l S0 D yX8_empty cX8_empty 6 (some .int) 13 0 0 [.ref (ad 1), .int post, .int isFirst] G (fun r G1 => (∃ v : Int32, r = some (.int v)) ∧ G1 = G) (fun _ _ => False) := by
  refine yM.ofK K_X8_empty rfl (by decide) (Nat.le_of_ble_eq_true rfl) ?_
  have J81 : ∀ (v81_3 : Int32) (v81_4 : Int32) (v81_5 : Int32) (w81_0 : Int32), Y l S0 D K_X8_empty 13 0 0 (fun r G1 => (∃ v : Int32, r = some (.int v)) ∧ G1 = G) (fun _ _ => False) 81 [(0, .ref (ad 1)), (1, .int post), (2, .int isFirst), (3, .int v81_3), (4, .int v81_4), (5, .int v81_5)] [.int w81_0] G 0 0 := by
    intro v81_3 v81_4 v81_5 w81_0
    exact y_iret tq_X8_empty rfl rfl (⟨⟨_, rfl⟩, rfl⟩)
  have J19 : ∀ (n19 : Nat) (v19_3 : Int32) (v19_4 : Int32) (v19_5 : Int32), ((240 : Int32).toInt - v19_5.toInt).toNat = n19 → Y l S0 D K_X8_empty 13 0 0 (fun r G1 => (∃ v : Int32, r = some (.int v)) ∧ G1 = G) (fun _ _ => False) 19 [(0, .ref (ad 1)), (1, .int post), (2, .int isFirst), (3, .int v19_3), (4, .int v19_4), (5, .int v19_5)] [] G 0 0 := by
    intro n19
    induction n19 using Nat.strongRecOn with
    | _ n19 ih19 =>
    intro v19_3 v19_4 v19_5 hn19
    subst hn19
    have J65 : ∀ (v65_3 : Int32) (v65_4 : Int32) (c24 : ¬ (240 : Int32) ≤ v19_5), Y l S0 D K_X8_empty 13 0 0 (fun r G1 => (∃ v : Int32, r = some (.int v)) ∧ G1 = G) (fun _ _ => False) 65 [(0, .ref (ad 1)), (1, .int post), (2, .int isFirst), (3, .int v65_3), (4, .int v65_4), (5, .int v19_5)] [] G 0 0 := by
      intro v65_3 v65_4 c24
      refine y_blk 2 tq_X8_empty (z := (19, [(5, .int (v19_5 + 1)), (0, .ref (ad 1)), (1, .int post), (2, .int isFirst), (3, .int v65_3), (4, .int v65_4)], [])) rfl ?_
      refine y_pick (L2 := [(0, .ref (ad 1)), (1, .int post), (2, .int isFirst), (3, .int v65_3), (4, .int v65_4), (5, .int (v19_5 + 1))]) [1, 2, 3, 4, 5, 0] rfl ?_
      exact ih19 _ (by exact ydec c24) v65_3 v65_4 (v19_5 + 1) rfl
    have J61 : ∀ (w61_0 : Int32) (c24 : ¬ (240 : Int32) ≤ v19_5), Y l S0 D K_X8_empty 13 0 0 (fun r G1 => (∃ v : Int32, r = some (.int v)) ∧ G1 = G) (fun _ _ => False) 61 [(0, .ref (ad 1)), (1, .int post), (2, .int isFirst), (3, .int v19_3), (4, .int v19_4), (5, .int v19_5)] [.int w61_0] G 0 0 := by
      intro w61_0 c24
      refine y_blk 2 tq_X8_empty (z := (65, [(4, .int (v19_4 + 1)), (3, .int w61_0), (0, .ref (ad 1)), (1, .int post), (2, .int isFirst), (5, .int v19_5)], [])) rfl ?_
      refine y_pick (L2 := [(0, .ref (ad 1)), (1, .int post), (2, .int isFirst), (3, .int w61_0), (4, .int (v19_4 + 1)), (5, .int v19_5)]) [2, 3, 4, 1, 0, 5] rfl ?_
      exact J65 w61_0 (v19_4 + 1) (by exact c24)
    refine y_blk 2 tq_X8_empty (z := (24, [(0, .ref (ad 1)), (1, .int post), (2, .int isFirst), (3, .int v19_3), (4, .int v19_4), (5, .int v19_5)], [.int 240, .int v19_5])) rfl ?_
    refine y_icmp_ge tq_X8_empty 71 rfl rfl (fun c24 => ?_) (fun c24 => ?_)
    · skip
      refine y_blk 1 tq_X8_empty (z := (72, [(0, .ref (ad 1)), (1, .int post), (2, .int isFirst), (3, .int v19_3), (4, .int v19_4), (5, .int v19_5)], [.int isFirst])) rfl ?_
      refine y_if_eq tq_X8_empty 79 rfl rfl (fun c72 => ?_) (fun c72 => ?_)
      · skip
        refine y_blk 1 tq_X8_empty (z := (81, [(0, .ref (ad 1)), (1, .int post), (2, .int isFirst), (3, .int v19_3), (4, .int v19_4), (5, .int v19_5)], [.int v19_4])) rfl ?_
        exact J81 v19_3 v19_4 v19_5 v19_4
      · skip
        refine y_blk 2 tq_X8_empty (z := (81, [(0, .ref (ad 1)), (1, .int post), (2, .int isFirst), (3, .int v19_3), (4, .int v19_4), (5, .int v19_5)], [.int v19_3])) rfl ?_
        exact J81 v19_3 v19_4 v19_5 v19_3
    · skip
      refine y_blk 1 tq_X8_empty (z := (28, [(0, .ref (ad 1)), (1, .int post), (2, .int isFirst), (3, .int v19_3), (4, .int v19_4), (5, .int v19_5)], [.ref (ad 1)])) rfl ?_
      refine y_get hS tq_X8_empty (v := .ref (ad 6)) rfl fg_X8_33_X8 (hX.1 1 _ rfl) rfl ?_
      refine y_blk 1 tq_X8_empty (z := (33, [(0, .ref (ad 1)), (1, .int post), (2, .int isFirst), (3, .int v19_3), (4, .int v19_4), (5, .int v19_5)], [.int v19_5, .ref (ad 6)])) rfl ?_
      refine y_callV hS tq_X8_empty rfl (As := [.int v19_5]) rfl cv_X8_236 (hX.1 6 _ rfl) (m_X2_cellsHeld hS hX v19_5) rfl (by decide) (Nat.le_of_ble_eq_true rfl) (fun r33 Gc33 q33 => ?_) (fun E9 G9 h9 => h9.elim)
      obtain ⟨⟨x33, rfl⟩, eG33⟩ := q33
      have eG33 := eG33.symm
      subst eG33
      refine y_blk 1 tq_X8_empty (z := (37, [(0, .ref (ad 1)), (1, .int post), (2, .int isFirst), (3, .int v19_3), (4, .int v19_4), (5, .int v19_5)], [.ref (ad 1), .long x33])) rfl ?_
      refine y_get hS tq_X8_empty (v := .ref (ad 120)) rfl fg_X8_42_X8 (hX.1 1 _ rfl) rfl ?_
      refine y_blk 1 tq_X8_empty (z := (41, [(0, .ref (ad 1)), (1, .int post), (2, .int isFirst), (3, .int v19_3), (4, .int v19_4), (5, .int v19_5)], [.int post, .ref (ad 120), .long x33])) rfl ?_
      refine y_callV hS tq_X8_empty rfl (As := [.int post]) rfl cv_X8_239 (hX.num (k := 10) (by decide)) (m_X5_at hS hX (k := 10) (by decide) post) rfl (by decide) (Nat.le_of_ble_eq_true rfl) (fun r41 Gc41 q41 => ?_) (fun E9 G9 h9 => h9.elim)
      obtain ⟨rfl, eG41⟩ := q41
      have eG41 := eG41.symm
      subst eG41
      refine y_blk 0 tq_X8_empty (z := (44, [(0, .ref (ad 1)), (1, .int post), (2, .int isFirst), (3, .int v19_3), (4, .int v19_4), (5, .int v19_5)], [.int (xat σ 10 post), .long x33])) rfl ?_
      refine y_callS hS tq_X8_empty rfl (As := [.long x33, .int (xat σ 10 post)]) rfl cs_X8_124 (m_X8_isOf hS  x33 (xat σ 10 post)) rfl (by decide) (Nat.le_of_ble_eq_true rfl) (fun r44 Gc44 q44 => ?_) (fun E9 G9 h9 => h9.elim)
      obtain ⟨rfl, eG44⟩ := q44
      have eG44 := eG44.symm
      subst eG44
      refine y_blk 0 tq_X8_empty (z := (47, [(0, .ref (ad 1)), (1, .int post), (2, .int isFirst), (3, .int v19_3), (4, .int v19_4), (5, .int v19_5)], [.int (if xis x33 (xat σ 10 post) then 1 else 0)])) rfl ?_
      refine y_if_ne tq_X8_empty 65 rfl rfl (fun c47 => ?_) (fun c47 => ?_)
      · skip
        refine y_blk 0 tq_X8_empty (z := (65, [(0, .ref (ad 1)), (1, .int post), (2, .int isFirst), (3, .int v19_3), (4, .int v19_4), (5, .int v19_5)], [])) rfl ?_
        exact J65 v19_3 v19_4 (by exact c24)
      · skip
        refine y_blk 2 tq_X8_empty (z := (52, [(0, .ref (ad 1)), (1, .int post), (2, .int isFirst), (3, .int v19_3), (4, .int v19_4), (5, .int v19_5)], [.int (-1), .int v19_3])) rfl ?_
        refine y_icmp_ne tq_X8_empty 60 rfl rfl (fun c52 => ?_) (fun c52 => ?_)
        · skip
          refine y_blk 1 tq_X8_empty (z := (61, [(0, .ref (ad 1)), (1, .int post), (2, .int isFirst), (3, .int v19_3), (4, .int v19_4), (5, .int v19_5)], [.int v19_3])) rfl ?_
          exact J61 v19_3 (by exact c24)
        · skip
          refine y_blk 2 tq_X8_empty (z := (61, [(0, .ref (ad 1)), (1, .int post), (2, .int isFirst), (3, .int v19_3), (4, .int v19_4), (5, .int v19_5)], [.int v19_5])) rfl ?_
          exact J61 v19_5 (by exact c24)
  refine y_blk 2 tq_X8_empty (z := (2, [(0, .ref (ad 1)), (1, .int post), (2, .int isFirst)], [.ref (ad 1), .int post])) rfl ?_
  refine y_get hS tq_X8_empty (v := .ref (ad 120)) rfl fg_X8_42_X8 (hX.1 1 _ rfl) rfl ?_
  refine y_blk 0 tq_X8_empty (z := (5, [(0, .ref (ad 1)), (1, .int post), (2, .int isFirst)], [.ref (ad 120), .int post])) rfl ?_
  refine y_callV hS tq_X8_empty rfl (As := []) rfl cv_X8_193 (hX.num (k := 10) (by decide)) (m_X5_size hS hX (k := 10) (by decide) ) rfl (by decide) (Nat.le_of_ble_eq_true rfl) (fun r5 Gc5 q5 => ?_) (fun E9 G9 h9 => h9.elim)
  obtain ⟨rfl, eG5⟩ := q5
  have eG5 := eG5.symm
  subst eG5
  refine y_blk 0 tq_X8_empty (z := (8, [(0, .ref (ad 1)), (1, .int post), (2, .int isFirst)], [.int (σ.1 10), .int post])) rfl ?_
  refine y_callS hS tq_X8_empty rfl (As := [.int post, .int (σ.1 10)]) rfl cs_X8_164 (m_X8_needThere_ok hS  post (σ.1 10) (by first | decide | (rw [if_pos (by assumption)]; decide) | assumption | (exfalso; (simp only [yif0, Classical.not_not, ylt, yle, yl_m1, yl_0, yl_1, yl_2, yl_3, yl_4, yl_5, yl_6, yl_7, yl_8, yl_9, yl_10, yl_11, yl_12, yl_15, yl_16, yl_20, yl_60, yl_64, yl_90, yl_97, yl_99, yl_100, yl_120, yl_239, yl_240] at *; omega)))) rfl (by decide) (Nat.le_of_ble_eq_true rfl) (fun r8 Gc8 q8 => ?_) (fun E9 G9 h9 => h9.elim)
  obtain ⟨rfl, eG8⟩ := q8
  have eG8 := eG8.symm
  subst eG8
  refine y_blk 6 tq_X8_empty (z := (19, [(5, .int 0), (4, .int 0), (3, .int (-1)), (0, .ref (ad 1)), (1, .int post), (2, .int isFirst)], [])) rfl ?_
  refine y_pick (L2 := [(0, .ref (ad 1)), (1, .int post), (2, .int isFirst), (3, .int (-1)), (4, .int 0), (5, .int 0)]) [3, 4, 5, 2, 1, 0] rfl ?_
  exact J19 _ (-1) 0 0 rfl
set_option maxHeartbeats 4000000 in
set_option maxRecDepth 100000 in
theorem m_X8_ofIntruder_ok {l : Launch} {S0 : State} {A0 : Array Value} {D : va_G} {aC : Nat → ClassId} {ad : Nat → Nat} {G : AH} {σ : XS} (hS : yS l S0 A0 D aC) (hX : atX aC ad G σ) (intruder : Int32) (what : Int32) (h : 0 ≤ intruder ∧ intruder ≤ σ.1 16 - 1) (h2 : 0 ≤ what ∧ what ≤ 8) : yM l S0 D yX8_ofIntruder cX8_ofIntruder 3 (some .int) 15 0 0 [.ref (ad 1), .int intruder, .int what] G (fun r G1 => (∃ v : Int32, r = some (.int v)) ∧ G1 = G) (fun _ _ => False) := by
  refine yM.ofK K_X8_ofIntruder rfl (by decide) (Nat.le_of_ble_eq_true rfl) ?_
  refine y_blk 2 tq_X8_ofIntruder (z := (2, [(0, .ref (ad 1)), (1, .int intruder), (2, .int what)], [.ref (ad 1), .int intruder])) rfl ?_
  refine y_get hS tq_X8_ofIntruder (v := .ref (ad 8)) rfl fg_X8_59_X8 (hX.1 1 _ rfl) rfl ?_
  refine y_blk 0 tq_X8_ofIntruder (z := (5, [(0, .ref (ad 1)), (1, .int intruder), (2, .int what)], [.ref (ad 8), .int intruder])) rfl ?_
  refine y_callV hS tq_X8_ofIntruder rfl (As := []) rfl cv_X8_290 (hX.1 8 _ rfl) (m_X3_count hS hX ) rfl (by decide) (Nat.le_of_ble_eq_true rfl) (fun r5 Gc5 q5 => ?_) (fun E9 G9 h9 => h9.elim)
  obtain ⟨rfl, eG5⟩ := q5
  have eG5 := eG5.symm
  subst eG5
  refine y_blk 0 tq_X8_ofIntruder (z := (8, [(0, .ref (ad 1)), (1, .int intruder), (2, .int what)], [.int (σ.1 16), .int intruder])) rfl ?_
  refine y_callS hS tq_X8_ofIntruder rfl (As := [.int intruder, .int (σ.1 16)]) rfl cs_X8_164 (m_X8_needThere_ok hS  intruder (σ.1 16) (by first | decide | (rw [if_pos (by assumption)]; decide) | assumption | (exfalso; (simp only [yif0, Classical.not_not, ylt, yle, yl_m1, yl_0, yl_1, yl_2, yl_3, yl_4, yl_5, yl_6, yl_7, yl_8, yl_9, yl_10, yl_11, yl_12, yl_15, yl_16, yl_20, yl_60, yl_64, yl_90, yl_97, yl_99, yl_100, yl_120, yl_239, yl_240] at *; omega)))) rfl (by decide) (Nat.le_of_ble_eq_true rfl) (fun r8 Gc8 q8 => ?_) (fun E9 G9 h9 => h9.elim)
  obtain ⟨rfl, eG8⟩ := q8
  have eG8 := eG8.symm
  subst eG8
  refine y_blk 3 tq_X8_ofIntruder (z := (15, [(0, .ref (ad 1)), (1, .int intruder), (2, .int what)], [.int 8, .int 0, .int what])) rfl ?_
  refine y_callS hS tq_X8_ofIntruder rfl (As := [.int what, .int 0, .int 8]) rfl cs_X8_76 (m_X8_isIn hS  what 0 8) rfl (by decide) (Nat.le_of_ble_eq_true rfl) (fun r15 Gc15 q15 => ?_) (fun E9 G9 h9 => h9.elim)
  obtain ⟨rfl, eG15⟩ := q15
  have eG15 := eG15.symm
  subst eG15
  refine y_blk 0 tq_X8_ofIntruder (z := (18, [(0, .ref (ad 1)), (1, .int intruder), (2, .int what)], [.int (if 0 ≤ what ∧ what ≤ 8 then 1 else 0)])) rfl ?_
  refine y_callS hS tq_X8_ofIntruder rfl (As := [.int (if 0 ≤ what ∧ what ≤ 8 then 1 else 0)]) rfl cs_X8_117 (m_X8_needLet_ok hS  (if 0 ≤ what ∧ what ≤ 8 then 1 else 0) (by first | decide | (rw [if_pos (by assumption)]; decide) | assumption | (exfalso; (simp only [yif0, Classical.not_not, ylt, yle, yl_m1, yl_0, yl_1, yl_2, yl_3, yl_4, yl_5, yl_6, yl_7, yl_8, yl_9, yl_10, yl_11, yl_12, yl_15, yl_16, yl_20, yl_60, yl_64, yl_90, yl_97, yl_99, yl_100, yl_120, yl_239, yl_240] at *; omega)))) rfl (by decide) (Nat.le_of_ble_eq_true rfl) (fun r18 Gc18 q18 => ?_) (fun E9 G9 h9 => h9.elim)
  obtain ⟨rfl, eG18⟩ := q18
  have eG18 := eG18.symm
  subst eG18
  refine y_blk 1 tq_X8_ofIntruder (z := (22, [(0, .ref (ad 1)), (1, .int intruder), (2, .int what)], [.int what])) rfl ?_
  by_cases s22_0 : what = 0
  · refine y_swIn tq_X8_ofIntruder 68 rfl (by rw [s22_0]; decide) (by rw [s22_0]; decide) (by rw [s22_0]; rfl) rfl ?_
    refine y_blk 1 tq_X8_ofIntruder (z := (69, [(0, .ref (ad 1)), (1, .int intruder), (2, .int what)], [.ref (ad 1)])) rfl ?_
    refine y_get hS tq_X8_ofIntruder (v := .ref (ad 8)) rfl fg_X8_59_X8 (hX.1 1 _ rfl) rfl ?_
    refine y_blk 1 tq_X8_ofIntruder (z := (73, [(0, .ref (ad 1)), (1, .int intruder), (2, .int what)], [.int intruder, .ref (ad 8)])) rfl ?_
    refine y_callV hS tq_X8_ofIntruder rfl (As := [.int intruder]) rfl cv_X8_298 (hX.1 8 _ rfl) (m_X3_firstOf hS hX intruder) rfl (by decide) (Nat.le_of_ble_eq_true rfl) (fun r73 Gc73 q73 => ?_) (fun E9 G9 h9 => h9.elim)
    obtain ⟨rfl, eG73⟩ := q73
    have eG73 := eG73.symm
    subst eG73
    refine y_blk 0 tq_X8_ofIntruder (z := (76, [(0, .ref (ad 1)), (1, .int intruder), (2, .int what)], [.int (xat σ 16 intruder)])) rfl ?_
    exact y_iret tq_X8_ofIntruder rfl rfl (⟨⟨_, rfl⟩, rfl⟩)
  by_cases s22_1 : what = 1
  · refine y_swIn tq_X8_ofIntruder 77 rfl (by rw [s22_1]; decide) (by rw [s22_1]; decide) (by rw [s22_1]; rfl) rfl ?_
    refine y_blk 1 tq_X8_ofIntruder (z := (78, [(0, .ref (ad 1)), (1, .int intruder), (2, .int what)], [.ref (ad 1)])) rfl ?_
    refine y_get hS tq_X8_ofIntruder (v := .ref (ad 8)) rfl fg_X8_59_X8 (hX.1 1 _ rfl) rfl ?_
    refine y_blk 1 tq_X8_ofIntruder (z := (82, [(0, .ref (ad 1)), (1, .int intruder), (2, .int what)], [.int intruder, .ref (ad 8)])) rfl ?_
    refine y_callV hS tq_X8_ofIntruder rfl (As := [.int intruder]) rfl cv_X8_299 (hX.1 8 _ rfl) (m_X3_movesOf hS hX intruder) rfl (by decide) (Nat.le_of_ble_eq_true rfl) (fun r82 Gc82 q82 => ?_) (fun E9 G9 h9 => h9.elim)
    obtain ⟨rfl, eG82⟩ := q82
    have eG82 := eG82.symm
    subst eG82
    refine y_blk 0 tq_X8_ofIntruder (z := (85, [(0, .ref (ad 1)), (1, .int intruder), (2, .int what)], [.int (xat σ 17 intruder)])) rfl ?_
    exact y_iret tq_X8_ofIntruder rfl rfl (⟨⟨_, rfl⟩, rfl⟩)
  by_cases s22_2 : what = 2
  · refine y_swIn tq_X8_ofIntruder 86 rfl (by rw [s22_2]; decide) (by rw [s22_2]; decide) (by rw [s22_2]; rfl) rfl ?_
    refine y_blk 1 tq_X8_ofIntruder (z := (87, [(0, .ref (ad 1)), (1, .int intruder), (2, .int what)], [.ref (ad 1)])) rfl ?_
    refine y_get hS tq_X8_ofIntruder (v := .ref (ad 8)) rfl fg_X8_59_X8 (hX.1 1 _ rfl) rfl ?_
    refine y_blk 2 tq_X8_ofIntruder (z := (94, [(0, .ref (ad 1)), (1, .int intruder), (2, .int what)], [.int 239, .int intruder, .ref (ad 8)])) rfl ?_
    refine y_callV hS tq_X8_ofIntruder rfl (As := [.int intruder, .int 239]) rfl cv_X8_295 (hX.1 8 _ rfl) (m_X3_cellAt hS hX intruder 239) rfl (by decide) (Nat.le_of_ble_eq_true rfl) (fun r94 Gc94 q94 => ?_) (fun E9 G9 h9 => h9.elim)
    obtain ⟨⟨x94, rfl⟩, eG94⟩ := q94
    have eG94 := eG94.symm
    subst eG94
    refine y_blk 0 tq_X8_ofIntruder (z := (97, [(0, .ref (ad 1)), (1, .int intruder), (2, .int what)], [.int x94])) rfl ?_
    exact y_iret tq_X8_ofIntruder rfl rfl (⟨⟨_, rfl⟩, rfl⟩)
  by_cases s22_3 : what = 3
  · refine y_swIn tq_X8_ofIntruder 98 rfl (by rw [s22_3]; decide) (by rw [s22_3]; decide) (by rw [s22_3]; rfl) rfl ?_
    refine y_blk 2 tq_X8_ofIntruder (z := (100, [(0, .ref (ad 1)), (1, .int intruder), (2, .int what)], [.int intruder, .ref (ad 1)])) rfl ?_
    refine y_callV hS tq_X8_ofIntruder rfl (As := [.int intruder]) rfl cv_X8_302 (hX.1 1 _ rfl) (m_X8_foundAt hS hX intruder) rfl (by decide) (Nat.le_of_ble_eq_true rfl) (fun r100 Gc100 q100 => ?_) (fun E9 G9 h9 => h9.elim)
    obtain ⟨⟨x100, rfl⟩, eG100⟩ := q100
    have eG100 := eG100.symm
    subst eG100
    refine y_blk 0 tq_X8_ofIntruder (z := (103, [(0, .ref (ad 1)), (1, .int intruder), (2, .int what)], [.int x100])) rfl ?_
    exact y_iret tq_X8_ofIntruder rfl rfl (⟨⟨_, rfl⟩, rfl⟩)
  by_cases s22_4 : what = 4
  · refine y_swIn tq_X8_ofIntruder 104 rfl (by rw [s22_4]; decide) (by rw [s22_4]; decide) (by rw [s22_4]; rfl) rfl ?_
    refine y_blk 4 tq_X8_ofIntruder (z := (108, [(0, .ref (ad 1)), (1, .int intruder), (2, .int what)], [.int intruder, .ref (ad 1), .int intruder, .ref (ad 1)])) rfl ?_
    refine y_callV hS tq_X8_ofIntruder rfl (As := [.int intruder]) rfl cv_X8_302 (hX.1 1 _ rfl) (m_X8_foundAt hS hX intruder) rfl (by decide) (Nat.le_of_ble_eq_true rfl) (fun r108 Gc108 q108 => ?_) (fun E9 G9 h9 => h9.elim)
    obtain ⟨⟨x108, rfl⟩, eG108⟩ := q108
    have eG108 := eG108.symm
    subst eG108
    refine y_blk 0 tq_X8_ofIntruder (z := (111, [(0, .ref (ad 1)), (1, .int intruder), (2, .int what)], [.int x108, .int intruder, .ref (ad 1)])) rfl ?_
    refine y_callV hS tq_X8_ofIntruder rfl (As := [.int intruder, .int x108]) rfl cv_X8_305 (hX.1 1 _ rfl) (m_X8_findersOf hS hX intruder x108) rfl (by decide) (Nat.le_of_ble_eq_true rfl) (fun r111 Gc111 q111 => ?_) (fun E9 G9 h9 => h9.elim)
    obtain ⟨⟨x111, rfl⟩, eG111⟩ := q111
    have eG111 := eG111.symm
    subst eG111
    refine y_blk 0 tq_X8_ofIntruder (z := (114, [(0, .ref (ad 1)), (1, .int intruder), (2, .int what)], [.int x111])) rfl ?_
    exact y_iret tq_X8_ofIntruder rfl rfl (⟨⟨_, rfl⟩, rfl⟩)
  by_cases s22_5 : what = 5
  · refine y_swIn tq_X8_ofIntruder 115 rfl (by rw [s22_5]; decide) (by rw [s22_5]; decide) (by rw [s22_5]; rfl) rfl ?_
    refine y_blk 4 tq_X8_ofIntruder (z := (119, [(0, .ref (ad 1)), (1, .int intruder), (2, .int what)], [.int intruder, .ref (ad 1), .int intruder, .ref (ad 1)])) rfl ?_
    refine y_callV hS tq_X8_ofIntruder rfl (As := [.int intruder]) rfl cv_X8_302 (hX.1 1 _ rfl) (m_X8_foundAt hS hX intruder) rfl (by decide) (Nat.le_of_ble_eq_true rfl) (fun r119 Gc119 q119 => ?_) (fun E9 G9 h9 => h9.elim)
    obtain ⟨⟨x119, rfl⟩, eG119⟩ := q119
    have eG119 := eG119.symm
    subst eG119
    refine y_blk 0 tq_X8_ofIntruder (z := (122, [(0, .ref (ad 1)), (1, .int intruder), (2, .int what)], [.int x119, .int intruder, .ref (ad 1)])) rfl ?_
    refine y_callV hS tq_X8_ofIntruder rfl (As := [.int intruder, .int x119]) rfl cv_X8_308 (hX.1 1 _ rfl) (m_X8_firstArrival hS hX intruder x119) rfl (by decide) (Nat.le_of_ble_eq_true rfl) (fun r122 Gc122 q122 => ?_) (fun E9 G9 h9 => h9.elim)
    obtain ⟨⟨x122, rfl⟩, eG122⟩ := q122
    have eG122 := eG122.symm
    subst eG122
    refine y_blk 0 tq_X8_ofIntruder (z := (125, [(0, .ref (ad 1)), (1, .int intruder), (2, .int what)], [.int x122])) rfl ?_
    exact y_iret tq_X8_ofIntruder rfl rfl (⟨⟨_, rfl⟩, rfl⟩)
  by_cases s22_6 : what = 6
  · refine y_swIn tq_X8_ofIntruder 126 rfl (by rw [s22_6]; decide) (by rw [s22_6]; decide) (by rw [s22_6]; rfl) rfl ?_
    refine y_blk 4 tq_X8_ofIntruder (z := (130, [(0, .ref (ad 1)), (1, .int intruder), (2, .int what)], [.int intruder, .ref (ad 1), .int intruder, .ref (ad 1)])) rfl ?_
    refine y_callV hS tq_X8_ofIntruder rfl (As := [.int intruder]) rfl cv_X8_302 (hX.1 1 _ rfl) (m_X8_foundAt hS hX intruder) rfl (by decide) (Nat.le_of_ble_eq_true rfl) (fun r130 Gc130 q130 => ?_) (fun E9 G9 h9 => h9.elim)
    obtain ⟨⟨x130, rfl⟩, eG130⟩ := q130
    have eG130 := eG130.symm
    subst eG130
    refine y_blk 0 tq_X8_ofIntruder (z := (133, [(0, .ref (ad 1)), (1, .int intruder), (2, .int what)], [.int x130, .int intruder, .ref (ad 1)])) rfl ?_
    refine y_callV hS tq_X8_ofIntruder rfl (As := [.int intruder, .int x130]) rfl cv_X8_311 (hX.1 1 _ rfl) (m_X8_responder hS hX intruder x130) rfl (by decide) (Nat.le_of_ble_eq_true rfl) (fun r133 Gc133 q133 => ?_) (fun E9 G9 h9 => h9.elim)
    obtain ⟨⟨x133, rfl⟩, eG133⟩ := q133
    have eG133 := eG133.symm
    subst eG133
    refine y_blk 0 tq_X8_ofIntruder (z := (136, [(0, .ref (ad 1)), (1, .int intruder), (2, .int what)], [.int x133])) rfl ?_
    exact y_iret tq_X8_ofIntruder rfl rfl (⟨⟨_, rfl⟩, rfl⟩)
  by_cases s22_7 : what = 7
  · refine y_swIn tq_X8_ofIntruder 137 rfl (by rw [s22_7]; decide) (by rw [s22_7]; decide) (by rw [s22_7]; rfl) rfl ?_
    refine y_blk 1 tq_X8_ofIntruder (z := (138, [(0, .ref (ad 1)), (1, .int intruder), (2, .int what)], [.ref (ad 1)])) rfl ?_
    refine y_get hS tq_X8_ofIntruder (v := .ref (ad 8)) rfl fg_X8_59_X8 (hX.1 1 _ rfl) rfl ?_
    refine y_blk 1 tq_X8_ofIntruder (z := (142, [(0, .ref (ad 1)), (1, .int intruder), (2, .int what)], [.int intruder, .ref (ad 8)])) rfl ?_
    refine y_callV hS tq_X8_ofIntruder rfl (As := [.int intruder]) rfl cv_X8_314 (hX.1 8 _ rfl) (m_X3_stepsOf hS hX intruder) rfl (by decide) (Nat.le_of_ble_eq_true rfl) (fun r142 Gc142 q142 => ?_) (fun E9 G9 h9 => h9.elim)
    obtain ⟨rfl, eG142⟩ := q142
    have eG142 := eG142.symm
    subst eG142
    refine y_blk 0 tq_X8_ofIntruder (z := (145, [(0, .ref (ad 1)), (1, .int intruder), (2, .int what)], [.int (xat σ 20 intruder)])) rfl ?_
    exact y_iret tq_X8_ofIntruder rfl rfl (⟨⟨_, rfl⟩, rfl⟩)
  refine y_swOut tq_X8_ofIntruder 146 rfl (by have z0 : what.toInt ≠ 0 := fun q => s22_0 (Int32.toInt_inj.mp (q.trans (by decide))); have z1 : what.toInt ≠ 1 := fun q => s22_1 (Int32.toInt_inj.mp (q.trans (by decide))); have z2 : what.toInt ≠ 2 := fun q => s22_2 (Int32.toInt_inj.mp (q.trans (by decide))); have z3 : what.toInt ≠ 3 := fun q => s22_3 (Int32.toInt_inj.mp (q.trans (by decide))); have z4 : what.toInt ≠ 4 := fun q => s22_4 (Int32.toInt_inj.mp (q.trans (by decide))); have z5 : what.toInt ≠ 5 := fun q => s22_5 (Int32.toInt_inj.mp (q.trans (by decide))); have z6 : what.toInt ≠ 6 := fun q => s22_6 (Int32.toInt_inj.mp (q.trans (by decide))); have z7 : what.toInt ≠ 7 := fun q => s22_7 (Int32.toInt_inj.mp (q.trans (by decide))); omega) rfl ?_
  refine y_blk 1 tq_X8_ofIntruder (z := (147, [(0, .ref (ad 1)), (1, .int intruder), (2, .int what)], [.ref (ad 1)])) rfl ?_
  refine y_get hS tq_X8_ofIntruder (v := .ref (ad 8)) rfl fg_X8_59_X8 (hX.1 1 _ rfl) rfl ?_
  refine y_blk 1 tq_X8_ofIntruder (z := (151, [(0, .ref (ad 1)), (1, .int intruder), (2, .int what)], [.int intruder, .ref (ad 8)])) rfl ?_
  refine y_callV hS tq_X8_ofIntruder rfl (As := [.int intruder]) rfl cv_X8_317 (hX.1 8 _ rfl) (m_X3_stepMinuteOf hS hX intruder) rfl (by decide) (Nat.le_of_ble_eq_true rfl) (fun r151 Gc151 q151 => ?_) (fun E9 G9 h9 => h9.elim)
  obtain ⟨rfl, eG151⟩ := q151
  have eG151 := eG151.symm
  subst eG151
  refine y_blk 0 tq_X8_ofIntruder (z := (154, [(0, .ref (ad 1)), (1, .int intruder), (2, .int what)], [.int (xat σ 21 intruder)])) rfl ?_
  exact y_iret tq_X8_ofIntruder rfl rfl (⟨⟨_, rfl⟩, rfl⟩)
set_option maxHeartbeats 4000000 in
set_option maxRecDepth 100000 in
theorem m_X8_ofWire_ok {l : Launch} {S0 : State} {A0 : Array Value} {D : va_G} {aC : Nat → ClassId} {ad : Nat → Nat} {G : AH} {σ : XS} (hS : yS l S0 A0 D aC) (hX : atX aC ad G σ) (wire : Int32) (what : Int32) (h : 0 ≤ wire ∧ wire ≤ σ.1 22 - 1) (h2 : 0 ≤ what ∧ what ≤ 4) : yM l S0 D yX8_ofWire cX8_ofWire 3 (some .int) 15 0 0 [.ref (ad 1), .int wire, .int what] G (fun r G1 => (∃ v : Int32, r = some (.int v)) ∧ G1 = G) (fun _ _ => False) := by
  refine yM.ofK K_X8_ofWire rfl (by decide) (Nat.le_of_ble_eq_true rfl) ?_
  refine y_blk 2 tq_X8_ofWire (z := (2, [(0, .ref (ad 1)), (1, .int wire), (2, .int what)], [.ref (ad 1), .int wire])) rfl ?_
  refine y_get hS tq_X8_ofWire (v := .ref (ad 9)) rfl fg_X8_66_X8 (hX.1 1 _ rfl) rfl ?_
  refine y_blk 0 tq_X8_ofWire (z := (5, [(0, .ref (ad 1)), (1, .int wire), (2, .int what)], [.ref (ad 9), .int wire])) rfl ?_
  refine y_callV hS tq_X8_ofWire rfl (As := []) rfl cv_X8_326 (hX.1 9 _ rfl) (m_X6_count hS hX ) rfl (by decide) (Nat.le_of_ble_eq_true rfl) (fun r5 Gc5 q5 => ?_) (fun E9 G9 h9 => h9.elim)
  obtain ⟨rfl, eG5⟩ := q5
  have eG5 := eG5.symm
  subst eG5
  refine y_blk 0 tq_X8_ofWire (z := (8, [(0, .ref (ad 1)), (1, .int wire), (2, .int what)], [.int (σ.1 22), .int wire])) rfl ?_
  refine y_callS hS tq_X8_ofWire rfl (As := [.int wire, .int (σ.1 22)]) rfl cs_X8_164 (m_X8_needThere_ok hS  wire (σ.1 22) (by first | decide | (rw [if_pos (by assumption)]; decide) | assumption | (exfalso; (simp only [yif0, Classical.not_not, ylt, yle, yl_m1, yl_0, yl_1, yl_2, yl_3, yl_4, yl_5, yl_6, yl_7, yl_8, yl_9, yl_10, yl_11, yl_12, yl_15, yl_16, yl_20, yl_60, yl_64, yl_90, yl_97, yl_99, yl_100, yl_120, yl_239, yl_240] at *; omega)))) rfl (by decide) (Nat.le_of_ble_eq_true rfl) (fun r8 Gc8 q8 => ?_) (fun E9 G9 h9 => h9.elim)
  obtain ⟨rfl, eG8⟩ := q8
  have eG8 := eG8.symm
  subst eG8
  refine y_blk 3 tq_X8_ofWire (z := (14, [(0, .ref (ad 1)), (1, .int wire), (2, .int what)], [.int 4, .int 0, .int what])) rfl ?_
  refine y_callS hS tq_X8_ofWire rfl (As := [.int what, .int 0, .int 4]) rfl cs_X8_76 (m_X8_isIn hS  what 0 4) rfl (by decide) (Nat.le_of_ble_eq_true rfl) (fun r14 Gc14 q14 => ?_) (fun E9 G9 h9 => h9.elim)
  obtain ⟨rfl, eG14⟩ := q14
  have eG14 := eG14.symm
  subst eG14
  refine y_blk 0 tq_X8_ofWire (z := (17, [(0, .ref (ad 1)), (1, .int wire), (2, .int what)], [.int (if 0 ≤ what ∧ what ≤ 4 then 1 else 0)])) rfl ?_
  refine y_callS hS tq_X8_ofWire rfl (As := [.int (if 0 ≤ what ∧ what ≤ 4 then 1 else 0)]) rfl cs_X8_117 (m_X8_needLet_ok hS  (if 0 ≤ what ∧ what ≤ 4 then 1 else 0) (by first | decide | (rw [if_pos (by assumption)]; decide) | assumption | (exfalso; (simp only [yif0, Classical.not_not, ylt, yle, yl_m1, yl_0, yl_1, yl_2, yl_3, yl_4, yl_5, yl_6, yl_7, yl_8, yl_9, yl_10, yl_11, yl_12, yl_15, yl_16, yl_20, yl_60, yl_64, yl_90, yl_97, yl_99, yl_100, yl_120, yl_239, yl_240] at *; omega)))) rfl (by decide) (Nat.le_of_ble_eq_true rfl) (fun r17 Gc17 q17 => ?_) (fun E9 G9 h9 => h9.elim)
  obtain ⟨rfl, eG17⟩ := q17
  have eG17 := eG17.symm
  subst eG17
  refine y_blk 1 tq_X8_ofWire (z := (21, [(0, .ref (ad 1)), (1, .int wire), (2, .int what)], [.int what])) rfl ?_
  by_cases s21_0 : what = 0
  · refine y_swIn tq_X8_ofWire 52 rfl (by rw [s21_0]; decide) (by rw [s21_0]; decide) (by rw [s21_0]; rfl) rfl ?_
    refine y_blk 1 tq_X8_ofWire (z := (53, [(0, .ref (ad 1)), (1, .int wire), (2, .int what)], [.ref (ad 1)])) rfl ?_
    refine y_get hS tq_X8_ofWire (v := .ref (ad 9)) rfl fg_X8_66_X8 (hX.1 1 _ rfl) rfl ?_
    refine y_blk 1 tq_X8_ofWire (z := (57, [(0, .ref (ad 1)), (1, .int wire), (2, .int what)], [.int wire, .ref (ad 9)])) rfl ?_
    refine y_callV hS tq_X8_ofWire rfl (As := [.int wire]) rfl cv_X8_327 (hX.1 9 _ rfl) (m_X6_cellOf hS hX wire) rfl (by decide) (Nat.le_of_ble_eq_true rfl) (fun r57 Gc57 q57 => ?_) (fun E9 G9 h9 => h9.elim)
    obtain ⟨rfl, eG57⟩ := q57
    have eG57 := eG57.symm
    subst eG57
    refine y_blk 0 tq_X8_ofWire (z := (60, [(0, .ref (ad 1)), (1, .int wire), (2, .int what)], [.int (xat σ 22 wire)])) rfl ?_
    exact y_iret tq_X8_ofWire rfl rfl (⟨⟨_, rfl⟩, rfl⟩)
  by_cases s21_1 : what = 1
  · refine y_swIn tq_X8_ofWire 61 rfl (by rw [s21_1]; decide) (by rw [s21_1]; decide) (by rw [s21_1]; rfl) rfl ?_
    refine y_blk 1 tq_X8_ofWire (z := (62, [(0, .ref (ad 1)), (1, .int wire), (2, .int what)], [.ref (ad 1)])) rfl ?_
    refine y_get hS tq_X8_ofWire (v := .ref (ad 9)) rfl fg_X8_66_X8 (hX.1 1 _ rfl) rfl ?_
    refine y_blk 1 tq_X8_ofWire (z := (66, [(0, .ref (ad 1)), (1, .int wire), (2, .int what)], [.int wire, .ref (ad 9)])) rfl ?_
    refine y_callV hS tq_X8_ofWire rfl (As := [.int wire]) rfl cv_X8_330 (hX.1 9 _ rfl) (m_X6_barOf hS hX wire) rfl (by decide) (Nat.le_of_ble_eq_true rfl) (fun r66 Gc66 q66 => ?_) (fun E9 G9 h9 => h9.elim)
    obtain ⟨rfl, eG66⟩ := q66
    have eG66 := eG66.symm
    subst eG66
    refine y_blk 0 tq_X8_ofWire (z := (69, [(0, .ref (ad 1)), (1, .int wire), (2, .int what)], [.int (xat σ 23 wire)])) rfl ?_
    exact y_iret tq_X8_ofWire rfl rfl (⟨⟨_, rfl⟩, rfl⟩)
  by_cases s21_2 : what = 2
  · refine y_swIn tq_X8_ofWire 70 rfl (by rw [s21_2]; decide) (by rw [s21_2]; decide) (by rw [s21_2]; rfl) rfl ?_
    refine y_blk 3 tq_X8_ofWire (z := (73, [(0, .ref (ad 1)), (1, .int wire), (2, .int what)], [.int 0, .int wire, .ref (ad 1)])) rfl ?_
    refine y_callV hS tq_X8_ofWire rfl (As := [.int wire, .int 0]) rfl cv_X8_333 (hX.1 1 _ rfl) (m_X8_countRings hS hX wire 0) rfl (by decide) (Nat.le_of_ble_eq_true rfl) (fun r73 Gc73 q73 => ?_) (fun E9 G9 h9 => h9.elim)
    obtain ⟨⟨x73, rfl⟩, eG73⟩ := q73
    have eG73 := eG73.symm
    subst eG73
    refine y_blk 0 tq_X8_ofWire (z := (76, [(0, .ref (ad 1)), (1, .int wire), (2, .int what)], [.int x73])) rfl ?_
    exact y_iret tq_X8_ofWire rfl rfl (⟨⟨_, rfl⟩, rfl⟩)
  by_cases s21_3 : what = 3
  · refine y_swIn tq_X8_ofWire 77 rfl (by rw [s21_3]; decide) (by rw [s21_3]; decide) (by rw [s21_3]; rfl) rfl ?_
    refine y_blk 3 tq_X8_ofWire (z := (80, [(0, .ref (ad 1)), (1, .int wire), (2, .int what)], [.int 1, .int wire, .ref (ad 1)])) rfl ?_
    refine y_callV hS tq_X8_ofWire rfl (As := [.int wire, .int 1]) rfl cv_X8_333 (hX.1 1 _ rfl) (m_X8_countRings hS hX wire 1) rfl (by decide) (Nat.le_of_ble_eq_true rfl) (fun r80 Gc80 q80 => ?_) (fun E9 G9 h9 => h9.elim)
    obtain ⟨⟨x80, rfl⟩, eG80⟩ := q80
    have eG80 := eG80.symm
    subst eG80
    refine y_blk 0 tq_X8_ofWire (z := (83, [(0, .ref (ad 1)), (1, .int wire), (2, .int what)], [.int x80])) rfl ?_
    exact y_iret tq_X8_ofWire rfl rfl (⟨⟨_, rfl⟩, rfl⟩)
  refine y_swOut tq_X8_ofWire 84 rfl (by have z0 : what.toInt ≠ 0 := fun q => s21_0 (Int32.toInt_inj.mp (q.trans (by decide))); have z1 : what.toInt ≠ 1 := fun q => s21_1 (Int32.toInt_inj.mp (q.trans (by decide))); have z2 : what.toInt ≠ 2 := fun q => s21_2 (Int32.toInt_inj.mp (q.trans (by decide))); have z3 : what.toInt ≠ 3 := fun q => s21_3 (Int32.toInt_inj.mp (q.trans (by decide))); omega) rfl ?_
  refine y_blk 2 tq_X8_ofWire (z := (86, [(0, .ref (ad 1)), (1, .int wire), (2, .int what)], [.int wire, .ref (ad 1)])) rfl ?_
  refine y_callV hS tq_X8_ofWire rfl (As := [.int wire]) rfl cv_X8_337 (hX.1 1 _ rfl) (m_X8_firstTrueRing hS hX wire) rfl (by decide) (Nat.le_of_ble_eq_true rfl) (fun r86 Gc86 q86 => ?_) (fun E9 G9 h9 => h9.elim)
  obtain ⟨⟨x86, rfl⟩, eG86⟩ := q86
  have eG86 := eG86.symm
  subst eG86
  refine y_blk 0 tq_X8_ofWire (z := (89, [(0, .ref (ad 1)), (1, .int wire), (2, .int what)], [.int x86])) rfl ?_
  exact y_iret tq_X8_ofWire rfl rfl (⟨⟨_, rfl⟩, rfl⟩)
set_option maxHeartbeats 4000000 in
set_option maxRecDepth 100000 in
theorem m_X8_digest {l : Launch} {S0 : State} {A0 : Array Value} {D : va_G} {aC : Nat → ClassId} {ad : Nat → Nat} {G : AH} {σ : XS} (hS : yS l S0 A0 D aC) (hX : atX aC ad G σ) : yM l S0 D yX8_digest cX8_digest 5 (some .long) 16 0 0 [.ref (ad 1)] G (fun r G1 => (∃ v : Int64, r = some (.long v)) ∧ G1 = G) (fun _ _ => False) := by
  refine yM.ofK K_X8_digest rfl (by decide) (Nat.le_of_ble_eq_true rfl) ?_
  have J341 : ∀ (v341_1 : Int64) (v341_3 : Int32) (w341_0 : Int32) (w341_1 : Int64) (hb_w341_0 : w341_0 = 0 ∨ w341_0 = 1), Y l S0 D K_X8_digest 16 0 0 (fun r G1 => (∃ v : Int64, r = some (.long v)) ∧ G1 = G) (fun _ _ => False) 341 [(0, .ref (ad 1)), (1, .long v341_1), (3, .int v341_3)] [.int w341_0, .long w341_1] G 0 0 := by
    intro v341_1 v341_3 w341_0 w341_1 hb_w341_0
    refine y_blk 2 tq_X8_digest (z := (343, [(0, .ref (ad 1)), (1, .long v341_1), (3, .int v341_3)], [.long (w341_1 + (Int32.toInt64 w341_0))])) rfl ?_
    exact y_lret tq_X8_digest rfl rfl (⟨⟨_, rfl⟩, rfl⟩)
  have J277 : ∀ (n277 : Nat) (v277_1 : Int64) (v277_3 : Int32) (h0_277 : 0 ≤ v277_3.toInt), ((σ.1 22 : Int32).toInt - v277_3.toInt).toNat = n277 → Y l S0 D K_X8_digest 16 0 0 (fun r G1 => (∃ v : Int64, r = some (.long v)) ∧ G1 = G) (fun _ _ => False) 277 [(0, .ref (ad 1)), (1, .long v277_1), (3, .int v277_3)] [] G 0 0 := by
    intro n277
    induction n277 using Nat.strongRecOn with
    | _ n277 ih277 =>
    intro v277_1 v277_3 h0_277 hn277
    subst hn277
    have J291 : ∀ (n291 : Nat) (v291_1 : Int64) (v291_4 : Int32) (h0_291 : 0 ≤ v291_4.toInt) (c285 : ¬ (σ.1 22 : Int32) ≤ v277_3), ((4 : Int32).toInt + 1 - v291_4.toInt).toNat = n291 → Y l S0 D K_X8_digest 16 0 0 (fun r G1 => (∃ v : Int64, r = some (.long v)) ∧ G1 = G) (fun _ _ => False) 291 [(0, .ref (ad 1)), (1, .long v291_1), (3, .int v277_3), (4, .int v291_4)] [] G 0 0 := by
      intro n291
      induction n291 using Nat.strongRecOn with
      | _ n291 ih291 =>
      intro v291_1 v291_4 h0_291 c285 hn291
      subst hn291
      refine y_blk 2 tq_X8_digest (z := (294, [(0, .ref (ad 1)), (1, .long v291_1), (3, .int v277_3), (4, .int v291_4)], [.int 4, .int v291_4])) rfl ?_
      refine y_icmp_gt tq_X8_digest 318 rfl rfl (fun c294 => ?_) (fun c294 => ?_)
      · skip
        refine y_blk 2 tq_X8_digest (z := (277, [(3, .int (v277_3 + 1)), (0, .ref (ad 1)), (1, .long v291_1), (4, .int v291_4)], [])) rfl ?_
        refine y_pick (L2 := [(0, .ref (ad 1)), (1, .long v291_1), (3, .int (v277_3 + 1))]) [1, 2, 0] rfl ?_
        exact ih277 _ (by exact ydec c285) v291_1 (v277_3 + 1) (by first | decide | exact yposge h0_277 c285) rfl
      · skip
        refine y_blk 1 tq_X8_digest (z := (298, [(0, .ref (ad 1)), (1, .long v291_1), (3, .int v277_3), (4, .int v291_4)], [.long v291_1])) rfl ?_
        refine y_ldc2 hS tq_X8_digest rfl ld_X8_409 ?_
        refine y_blk 4 tq_X8_digest (z := (306, [(0, .ref (ad 1)), (1, .long v291_1), (3, .int v277_3), (4, .int v291_4)], [.int v291_4, .int v277_3, .ref (ad 1), .long (v291_1 * (31))])) rfl ?_
        refine y_callV hS tq_X8_digest rfl (As := [.int v277_3, .int v291_4]) rfl cv_X8_429 (hX.1 1 _ rfl) (m_X8_ofWire_ok hS hX v277_3 v291_4 ⟨by (simp only [yif0, Classical.not_not, ylt, yle, yl_m1, yl_0, yl_1, yl_2, yl_3, yl_4, yl_5, yl_6, yl_7, yl_8, yl_9, yl_10, yl_11, yl_12, yl_15, yl_16, yl_20, yl_60, yl_64, yl_90, yl_97, yl_99, yl_100, yl_120, yl_239, yl_240] at *; omega), ylem1 h0_277 c285⟩ (by refine ⟨?_, ?_⟩ <;> (simp only [yif0, Classical.not_not, ylt, yle, yl_m1, yl_0, yl_1, yl_2, yl_3, yl_4, yl_5, yl_6, yl_7, yl_8, yl_9, yl_10, yl_11, yl_12, yl_15, yl_16, yl_20, yl_60, yl_64, yl_90, yl_97, yl_99, yl_100, yl_120, yl_239, yl_240] at *; omega))) rfl (by decide) (Nat.le_of_ble_eq_true rfl) (fun r306 Gc306 q306 => ?_) (fun E9 G9 h9 => h9.elim)
        obtain ⟨⟨x306, rfl⟩, eG306⟩ := q306
        have eG306 := eG306.symm
        subst eG306
        refine y_blk 5 tq_X8_digest (z := (291, [(4, .int (v291_4 + 1)), (1, .long ((v291_1 * (31)) + (Int32.toInt64 x306))), (0, .ref (ad 1)), (3, .int v277_3)], [])) rfl ?_
        refine y_pick (L2 := [(0, .ref (ad 1)), (1, .long ((v291_1 * (31)) + (Int32.toInt64 x306))), (3, .int v277_3), (4, .int (v291_4 + 1))]) [2, 1, 3, 0] rfl ?_
        exact ih291 _ (by exact ydec2 c294 (by decide)) ((v291_1 * (31)) + (Int32.toInt64 x306)) (v291_4 + 1) (by first | decide | exact yposgt h0_291 c294 (by decide)) (by exact c285) rfl
    refine y_blk 2 tq_X8_digest (z := (279, [(0, .ref (ad 1)), (1, .long v277_1), (3, .int v277_3)], [.ref (ad 1), .int v277_3])) rfl ?_
    refine y_get hS tq_X8_digest (v := .ref (ad 9)) rfl fg_X8_66_X8 (hX.1 1 _ rfl) rfl ?_
    refine y_blk 0 tq_X8_digest (z := (282, [(0, .ref (ad 1)), (1, .long v277_1), (3, .int v277_3)], [.ref (ad 9), .int v277_3])) rfl ?_
    refine y_callV hS tq_X8_digest rfl (As := []) rfl cv_X8_326 (hX.1 9 _ rfl) (m_X6_count hS hX ) rfl (by decide) (Nat.le_of_ble_eq_true rfl) (fun r282 Gc282 q282 => ?_) (fun E9 G9 h9 => h9.elim)
    obtain ⟨rfl, eG282⟩ := q282
    have eG282 := eG282.symm
    subst eG282
    refine y_blk 0 tq_X8_digest (z := (285, [(0, .ref (ad 1)), (1, .long v277_1), (3, .int v277_3)], [.int (σ.1 22), .int v277_3])) rfl ?_
    refine y_icmp_ge tq_X8_digest 324 rfl rfl (fun c285 => ?_) (fun c285 => ?_)
    · skip
      refine y_blk 1 tq_X8_digest (z := (325, [(0, .ref (ad 1)), (1, .long v277_1), (3, .int v277_3)], [.long v277_1])) rfl ?_
      refine y_ldc2 hS tq_X8_digest rfl ld_X8_409 ?_
      refine y_blk 2 tq_X8_digest (z := (330, [(0, .ref (ad 1)), (1, .long v277_1), (3, .int v277_3)], [.ref (ad 1), .long (v277_1 * (31))])) rfl ?_
      refine y_callV hS tq_X8_digest rfl (As := []) rfl cv_X8_432 (hX.1 1 _ rfl) (m_X8_isSound hS hX ) rfl (by decide) (Nat.le_of_ble_eq_true rfl) (fun r330 Gc330 q330 => ?_) (fun E9 G9 h9 => h9.elim)
      obtain ⟨⟨x330, hb_x330, rfl⟩, eG330⟩ := q330
      have eG330 := eG330.symm
      subst eG330
      refine y_blk 0 tq_X8_digest (z := (333, [(0, .ref (ad 1)), (1, .long v277_1), (3, .int v277_3)], [.int x330, .long (v277_1 * (31))])) rfl ?_
      refine y_if_eq tq_X8_digest 340 rfl rfl (fun c333 => ?_) (fun c333 => ?_)
      · skip
        refine y_blk 1 tq_X8_digest (z := (341, [(0, .ref (ad 1)), (1, .long v277_1), (3, .int v277_3)], [.int 0, .long (v277_1 * (31))])) rfl ?_
        exact J341 v277_1 v277_3 0 (v277_1 * (31)) (Or.inl rfl)
      · skip
        refine y_blk 2 tq_X8_digest (z := (341, [(0, .ref (ad 1)), (1, .long v277_1), (3, .int v277_3)], [.int 1, .long (v277_1 * (31))])) rfl ?_
        exact J341 v277_1 v277_3 1 (v277_1 * (31)) (Or.inr rfl)
    · skip
      refine y_blk 2 tq_X8_digest (z := (291, [(4, .int 0), (0, .ref (ad 1)), (1, .long v277_1), (3, .int v277_3)], [])) rfl ?_
      refine y_pick (L2 := [(0, .ref (ad 1)), (1, .long v277_1), (3, .int v277_3), (4, .int 0)]) [1, 2, 3, 0] rfl ?_
      exact J291 _ v277_1 0 (by first | decide | exact yposgt h0_291 c294 (by decide)) (by exact c285) rfl
  have J227 : ∀ (n227 : Nat) (v227_1 : Int64) (v227_3 : Int32) (h0_227 : 0 ≤ v227_3.toInt), ((σ.1 16 : Int32).toInt - v227_3.toInt).toNat = n227 → Y l S0 D K_X8_digest 16 0 0 (fun r G1 => (∃ v : Int64, r = some (.long v)) ∧ G1 = G) (fun _ _ => False) 227 [(0, .ref (ad 1)), (1, .long v227_1), (3, .int v227_3)] [] G 0 0 := by
    intro n227
    induction n227 using Nat.strongRecOn with
    | _ n227 ih227 =>
    intro v227_1 v227_3 h0_227 hn227
    subst hn227
    have J241 : ∀ (n241 : Nat) (v241_1 : Int64) (v241_4 : Int32) (h0_241 : 0 ≤ v241_4.toInt) (c235 : ¬ (σ.1 16 : Int32) ≤ v227_3), ((8 : Int32).toInt + 1 - v241_4.toInt).toNat = n241 → Y l S0 D K_X8_digest 16 0 0 (fun r G1 => (∃ v : Int64, r = some (.long v)) ∧ G1 = G) (fun _ _ => False) 241 [(0, .ref (ad 1)), (1, .long v241_1), (3, .int v227_3), (4, .int v241_4)] [] G 0 0 := by
      intro n241
      induction n241 using Nat.strongRecOn with
      | _ n241 ih241 =>
      intro v241_1 v241_4 h0_241 c235 hn241
      subst hn241
      refine y_blk 2 tq_X8_digest (z := (245, [(0, .ref (ad 1)), (1, .long v241_1), (3, .int v227_3), (4, .int v241_4)], [.int 8, .int v241_4])) rfl ?_
      refine y_icmp_gt tq_X8_digest 269 rfl rfl (fun c245 => ?_) (fun c245 => ?_)
      · skip
        refine y_blk 2 tq_X8_digest (z := (227, [(3, .int (v227_3 + 1)), (0, .ref (ad 1)), (1, .long v241_1), (4, .int v241_4)], [])) rfl ?_
        refine y_pick (L2 := [(0, .ref (ad 1)), (1, .long v241_1), (3, .int (v227_3 + 1))]) [1, 2, 0] rfl ?_
        exact ih227 _ (by exact ydec c235) v241_1 (v227_3 + 1) (by first | decide | exact yposge h0_227 c235) rfl
      · skip
        refine y_blk 1 tq_X8_digest (z := (249, [(0, .ref (ad 1)), (1, .long v241_1), (3, .int v227_3), (4, .int v241_4)], [.long v241_1])) rfl ?_
        refine y_ldc2 hS tq_X8_digest rfl ld_X8_409 ?_
        refine y_blk 4 tq_X8_digest (z := (257, [(0, .ref (ad 1)), (1, .long v241_1), (3, .int v227_3), (4, .int v241_4)], [.int v241_4, .int v227_3, .ref (ad 1), .long (v241_1 * (31))])) rfl ?_
        refine y_callV hS tq_X8_digest rfl (As := [.int v227_3, .int v241_4]) rfl cv_X8_426 (hX.1 1 _ rfl) (m_X8_ofIntruder_ok hS hX v227_3 v241_4 ⟨by (simp only [yif0, Classical.not_not, ylt, yle, yl_m1, yl_0, yl_1, yl_2, yl_3, yl_4, yl_5, yl_6, yl_7, yl_8, yl_9, yl_10, yl_11, yl_12, yl_15, yl_16, yl_20, yl_60, yl_64, yl_90, yl_97, yl_99, yl_100, yl_120, yl_239, yl_240] at *; omega), ylem1 h0_227 c235⟩ (by refine ⟨?_, ?_⟩ <;> (simp only [yif0, Classical.not_not, ylt, yle, yl_m1, yl_0, yl_1, yl_2, yl_3, yl_4, yl_5, yl_6, yl_7, yl_8, yl_9, yl_10, yl_11, yl_12, yl_15, yl_16, yl_20, yl_60, yl_64, yl_90, yl_97, yl_99, yl_100, yl_120, yl_239, yl_240] at *; omega))) rfl (by decide) (Nat.le_of_ble_eq_true rfl) (fun r257 Gc257 q257 => ?_) (fun E9 G9 h9 => h9.elim)
        obtain ⟨⟨x257, rfl⟩, eG257⟩ := q257
        have eG257 := eG257.symm
        subst eG257
        refine y_blk 5 tq_X8_digest (z := (241, [(4, .int (v241_4 + 1)), (1, .long ((v241_1 * (31)) + (Int32.toInt64 x257))), (0, .ref (ad 1)), (3, .int v227_3)], [])) rfl ?_
        refine y_pick (L2 := [(0, .ref (ad 1)), (1, .long ((v241_1 * (31)) + (Int32.toInt64 x257))), (3, .int v227_3), (4, .int (v241_4 + 1))]) [2, 1, 3, 0] rfl ?_
        exact ih241 _ (by exact ydec2 c245 (by decide)) ((v241_1 * (31)) + (Int32.toInt64 x257)) (v241_4 + 1) (by first | decide | exact yposgt h0_241 c245 (by decide)) (by exact c235) rfl
    refine y_blk 2 tq_X8_digest (z := (229, [(0, .ref (ad 1)), (1, .long v227_1), (3, .int v227_3)], [.ref (ad 1), .int v227_3])) rfl ?_
    refine y_get hS tq_X8_digest (v := .ref (ad 8)) rfl fg_X8_59_X8 (hX.1 1 _ rfl) rfl ?_
    refine y_blk 0 tq_X8_digest (z := (232, [(0, .ref (ad 1)), (1, .long v227_1), (3, .int v227_3)], [.ref (ad 8), .int v227_3])) rfl ?_
    refine y_callV hS tq_X8_digest rfl (As := []) rfl cv_X8_290 (hX.1 8 _ rfl) (m_X3_count hS hX ) rfl (by decide) (Nat.le_of_ble_eq_true rfl) (fun r232 Gc232 q232 => ?_) (fun E9 G9 h9 => h9.elim)
    obtain ⟨rfl, eG232⟩ := q232
    have eG232 := eG232.symm
    subst eG232
    refine y_blk 0 tq_X8_digest (z := (235, [(0, .ref (ad 1)), (1, .long v227_1), (3, .int v227_3)], [.int (σ.1 16), .int v227_3])) rfl ?_
    refine y_icmp_ge tq_X8_digest 275 rfl rfl (fun c235 => ?_) (fun c235 => ?_)
    · skip
      refine y_blk 2 tq_X8_digest (z := (277, [(3, .int 0), (0, .ref (ad 1)), (1, .long v227_1)], [])) rfl ?_
      refine y_pick (L2 := [(0, .ref (ad 1)), (1, .long v227_1), (3, .int 0)]) [1, 2, 0] rfl ?_
      exact J277 _ v227_1 0 (by first | decide | exact yposge h0_277 c285) rfl
    · skip
      refine y_blk 2 tq_X8_digest (z := (241, [(4, .int 0), (0, .ref (ad 1)), (1, .long v227_1), (3, .int v227_3)], [])) rfl ?_
      refine y_pick (L2 := [(0, .ref (ad 1)), (1, .long v227_1), (3, .int v227_3), (4, .int 0)]) [1, 2, 3, 0] rfl ?_
      exact J241 _ v227_1 0 (by first | decide | exact yposgt h0_241 c245 (by decide)) (by exact c235) rfl
  have J180 : ∀ (n180 : Nat) (v180_1 : Int64) (v180_3 : Int32) (h0_180 : 0 ≤ v180_3.toInt), ((σ.1 10 : Int32).toInt - v180_3.toInt).toNat = n180 → Y l S0 D K_X8_digest 16 0 0 (fun r G1 => (∃ v : Int64, r = some (.long v)) ∧ G1 = G) (fun _ _ => False) 180 [(0, .ref (ad 1)), (1, .long v180_1), (3, .int v180_3)] [] G 0 0 := by
    intro n180
    induction n180 using Nat.strongRecOn with
    | _ n180 ih180 =>
    intro v180_1 v180_3 h0_180 hn180
    subst hn180
    refine y_blk 2 tq_X8_digest (z := (182, [(0, .ref (ad 1)), (1, .long v180_1), (3, .int v180_3)], [.ref (ad 1), .int v180_3])) rfl ?_
    refine y_get hS tq_X8_digest (v := .ref (ad 120)) rfl fg_X8_42_X8 (hX.1 1 _ rfl) rfl ?_
    refine y_blk 0 tq_X8_digest (z := (185, [(0, .ref (ad 1)), (1, .long v180_1), (3, .int v180_3)], [.ref (ad 120), .int v180_3])) rfl ?_
    refine y_callV hS tq_X8_digest rfl (As := []) rfl cv_X8_193 (hX.num (k := 10) (by decide)) (m_X5_size hS hX (k := 10) (by decide) ) rfl (by decide) (Nat.le_of_ble_eq_true rfl) (fun r185 Gc185 q185 => ?_) (fun E9 G9 h9 => h9.elim)
    obtain ⟨rfl, eG185⟩ := q185
    have eG185 := eG185.symm
    subst eG185
    refine y_blk 0 tq_X8_digest (z := (188, [(0, .ref (ad 1)), (1, .long v180_1), (3, .int v180_3)], [.int (σ.1 10), .int v180_3])) rfl ?_
    refine y_icmp_ge tq_X8_digest 225 rfl rfl (fun c188 => ?_) (fun c188 => ?_)
    · skip
      refine y_blk 2 tq_X8_digest (z := (227, [(3, .int 0), (0, .ref (ad 1)), (1, .long v180_1)], [])) rfl ?_
      refine y_pick (L2 := [(0, .ref (ad 1)), (1, .long v180_1), (3, .int 0)]) [1, 2, 0] rfl ?_
      exact J227 _ v180_1 0 (by first | decide | exact yposge h0_227 c235) rfl
    · skip
      refine y_blk 1 tq_X8_digest (z := (192, [(0, .ref (ad 1)), (1, .long v180_1), (3, .int v180_3)], [.long v180_1])) rfl ?_
      refine y_ldc2 hS tq_X8_digest rfl ld_X8_409 ?_
      refine y_blk 4 tq_X8_digest (z := (199, [(0, .ref (ad 1)), (1, .long v180_1), (3, .int v180_3)], [.int 1, .int v180_3, .ref (ad 1), .long (v180_1 * (31))])) rfl ?_
      refine y_callV hS tq_X8_digest rfl (As := [.int v180_3, .int 1]) rfl cv_X8_423 (hX.1 1 _ rfl) (m_X8_empty_ok hS hX v180_3 1 ⟨by (simp only [yif0, Classical.not_not, ylt, yle, yl_m1, yl_0, yl_1, yl_2, yl_3, yl_4, yl_5, yl_6, yl_7, yl_8, yl_9, yl_10, yl_11, yl_12, yl_15, yl_16, yl_20, yl_60, yl_64, yl_90, yl_97, yl_99, yl_100, yl_120, yl_239, yl_240] at *; omega), ylem1 h0_180 c188⟩) rfl (by decide) (Nat.le_of_ble_eq_true rfl) (fun r199 Gc199 q199 => ?_) (fun E9 G9 h9 => h9.elim)
      obtain ⟨⟨x199, rfl⟩, eG199⟩ := q199
      have eG199 := eG199.symm
      subst eG199
      refine y_blk 4 tq_X8_digest (z := (206, [(1, .long ((v180_1 * (31)) + (Int32.toInt64 x199))), (0, .ref (ad 1)), (3, .int v180_3)], [.long ((v180_1 * (31)) + (Int32.toInt64 x199))])) rfl ?_
      refine y_ldc2 hS tq_X8_digest rfl ld_X8_409 ?_
      refine y_blk 4 tq_X8_digest (z := (213, [(1, .long ((v180_1 * (31)) + (Int32.toInt64 x199))), (0, .ref (ad 1)), (3, .int v180_3)], [.int 0, .int v180_3, .ref (ad 1), .long (((v180_1 * (31)) + (Int32.toInt64 x199)) * (31))])) rfl ?_
      refine y_callV hS tq_X8_digest rfl (As := [.int v180_3, .int 0]) rfl cv_X8_423 (hX.1 1 _ rfl) (m_X8_empty_ok hS hX v180_3 0 ⟨by (simp only [yif0, Classical.not_not, ylt, yle, yl_m1, yl_0, yl_1, yl_2, yl_3, yl_4, yl_5, yl_6, yl_7, yl_8, yl_9, yl_10, yl_11, yl_12, yl_15, yl_16, yl_20, yl_60, yl_64, yl_90, yl_97, yl_99, yl_100, yl_120, yl_239, yl_240] at *; omega), ylem1 h0_180 c188⟩) rfl (by decide) (Nat.le_of_ble_eq_true rfl) (fun r213 Gc213 q213 => ?_) (fun E9 G9 h9 => h9.elim)
      obtain ⟨⟨x213, rfl⟩, eG213⟩ := q213
      have eG213 := eG213.symm
      subst eG213
      refine y_blk 5 tq_X8_digest (z := (180, [(3, .int (v180_3 + 1)), (1, .long ((((v180_1 * (31)) + (Int32.toInt64 x199)) * (31)) + (Int32.toInt64 x213))), (0, .ref (ad 1))], [])) rfl ?_
      refine y_pick (L2 := [(0, .ref (ad 1)), (1, .long ((((v180_1 * (31)) + (Int32.toInt64 x199)) * (31)) + (Int32.toInt64 x213))), (3, .int (v180_3 + 1))]) [2, 1, 0] rfl ?_
      exact ih180 _ (by exact ydec c188) ((((v180_1 * (31)) + (Int32.toInt64 x199)) * (31)) + (Int32.toInt64 x213)) (v180_3 + 1) (by first | decide | exact yposge h0_180 c188) rfl
  have J130 : ∀ (n130 : Nat) (v130_1 : Int64) (v130_3 : Int32) (h0_130 : 0 ≤ v130_3.toInt), ((σ.1 5 : Int32).toInt - v130_3.toInt).toNat = n130 → Y l S0 D K_X8_digest 16 0 0 (fun r G1 => (∃ v : Int64, r = some (.long v)) ∧ G1 = G) (fun _ _ => False) 130 [(0, .ref (ad 1)), (1, .long v130_1), (3, .int v130_3)] [] G 0 0 := by
    intro n130
    induction n130 using Nat.strongRecOn with
    | _ n130 ih130 =>
    intro v130_1 v130_3 h0_130 hn130
    subst hn130
    have J144 : ∀ (n144 : Nat) (v144_1 : Int64) (v144_4 : Int32) (h0_144 : 0 ≤ v144_4.toInt) (c138 : ¬ (σ.1 5 : Int32) ≤ v130_3), ((8 : Int32).toInt + 1 - v144_4.toInt).toNat = n144 → Y l S0 D K_X8_digest 16 0 0 (fun r G1 => (∃ v : Int64, r = some (.long v)) ∧ G1 = G) (fun _ _ => False) 144 [(0, .ref (ad 1)), (1, .long v144_1), (3, .int v130_3), (4, .int v144_4)] [] G 0 0 := by
      intro n144
      induction n144 using Nat.strongRecOn with
      | _ n144 ih144 =>
      intro v144_1 v144_4 h0_144 c138 hn144
      subst hn144
      refine y_blk 2 tq_X8_digest (z := (148, [(0, .ref (ad 1)), (1, .long v144_1), (3, .int v130_3), (4, .int v144_4)], [.int 8, .int v144_4])) rfl ?_
      refine y_icmp_gt tq_X8_digest 172 rfl rfl (fun c148 => ?_) (fun c148 => ?_)
      · skip
        refine y_blk 2 tq_X8_digest (z := (130, [(3, .int (v130_3 + 1)), (0, .ref (ad 1)), (1, .long v144_1), (4, .int v144_4)], [])) rfl ?_
        refine y_pick (L2 := [(0, .ref (ad 1)), (1, .long v144_1), (3, .int (v130_3 + 1))]) [1, 2, 0] rfl ?_
        exact ih130 _ (by exact ydec c138) v144_1 (v130_3 + 1) (by first | decide | exact yposge h0_130 c138) rfl
      · skip
        refine y_blk 1 tq_X8_digest (z := (152, [(0, .ref (ad 1)), (1, .long v144_1), (3, .int v130_3), (4, .int v144_4)], [.long v144_1])) rfl ?_
        refine y_ldc2 hS tq_X8_digest rfl ld_X8_409 ?_
        refine y_blk 4 tq_X8_digest (z := (160, [(0, .ref (ad 1)), (1, .long v144_1), (3, .int v130_3), (4, .int v144_4)], [.int v144_4, .int v130_3, .ref (ad 1), .long (v144_1 * (31))])) rfl ?_
        refine y_callV hS tq_X8_digest rfl (As := [.int v130_3, .int v144_4]) rfl cv_X8_420 (hX.1 1 _ rfl) (m_X8_ofGuard_ok hS hX v130_3 v144_4 ⟨by (simp only [yif0, Classical.not_not, ylt, yle, yl_m1, yl_0, yl_1, yl_2, yl_3, yl_4, yl_5, yl_6, yl_7, yl_8, yl_9, yl_10, yl_11, yl_12, yl_15, yl_16, yl_20, yl_60, yl_64, yl_90, yl_97, yl_99, yl_100, yl_120, yl_239, yl_240] at *; omega), ylem1 h0_130 c138⟩ (by refine ⟨?_, ?_⟩ <;> (simp only [yif0, Classical.not_not, ylt, yle, yl_m1, yl_0, yl_1, yl_2, yl_3, yl_4, yl_5, yl_6, yl_7, yl_8, yl_9, yl_10, yl_11, yl_12, yl_15, yl_16, yl_20, yl_60, yl_64, yl_90, yl_97, yl_99, yl_100, yl_120, yl_239, yl_240] at *; omega))) rfl (by decide) (Nat.le_of_ble_eq_true rfl) (fun r160 Gc160 q160 => ?_) (fun E9 G9 h9 => h9.elim)
        obtain ⟨⟨x160, rfl⟩, eG160⟩ := q160
        have eG160 := eG160.symm
        subst eG160
        refine y_blk 5 tq_X8_digest (z := (144, [(4, .int (v144_4 + 1)), (1, .long ((v144_1 * (31)) + (Int32.toInt64 x160))), (0, .ref (ad 1)), (3, .int v130_3)], [])) rfl ?_
        refine y_pick (L2 := [(0, .ref (ad 1)), (1, .long ((v144_1 * (31)) + (Int32.toInt64 x160))), (3, .int v130_3), (4, .int (v144_4 + 1))]) [2, 1, 3, 0] rfl ?_
        exact ih144 _ (by exact ydec2 c148 (by decide)) ((v144_1 * (31)) + (Int32.toInt64 x160)) (v144_4 + 1) (by first | decide | exact yposgt h0_144 c148 (by decide)) (by exact c138) rfl
    refine y_blk 2 tq_X8_digest (z := (132, [(0, .ref (ad 1)), (1, .long v130_1), (3, .int v130_3)], [.ref (ad 1), .int v130_3])) rfl ?_
    refine y_get hS tq_X8_digest (v := .ref (ad 6)) rfl fg_X8_33_X8 (hX.1 1 _ rfl) rfl ?_
    refine y_blk 0 tq_X8_digest (z := (135, [(0, .ref (ad 1)), (1, .long v130_1), (3, .int v130_3)], [.ref (ad 6), .int v130_3])) rfl ?_
    refine y_callV hS tq_X8_digest rfl (As := []) rfl cv_X8_182 (hX.1 6 _ rfl) (m_X2_count hS hX ) rfl (by decide) (Nat.le_of_ble_eq_true rfl) (fun r135 Gc135 q135 => ?_) (fun E9 G9 h9 => h9.elim)
    obtain ⟨rfl, eG135⟩ := q135
    have eG135 := eG135.symm
    subst eG135
    refine y_blk 0 tq_X8_digest (z := (138, [(0, .ref (ad 1)), (1, .long v130_1), (3, .int v130_3)], [.int (σ.1 5), .int v130_3])) rfl ?_
    refine y_icmp_ge tq_X8_digest 178 rfl rfl (fun c138 => ?_) (fun c138 => ?_)
    · skip
      refine y_blk 2 tq_X8_digest (z := (180, [(3, .int 0), (0, .ref (ad 1)), (1, .long v130_1)], [])) rfl ?_
      refine y_pick (L2 := [(0, .ref (ad 1)), (1, .long v130_1), (3, .int 0)]) [1, 2, 0] rfl ?_
      exact J180 _ v130_1 0 (by first | decide | exact yposge h0_180 c188) rfl
    · skip
      refine y_blk 2 tq_X8_digest (z := (144, [(4, .int 0), (0, .ref (ad 1)), (1, .long v130_1), (3, .int v130_3)], [])) rfl ?_
      refine y_pick (L2 := [(0, .ref (ad 1)), (1, .long v130_1), (3, .int v130_3), (4, .int 0)]) [1, 2, 3, 0] rfl ?_
      exact J144 _ v130_1 0 (by first | decide | exact yposgt h0_144 c148 (by decide)) (by exact c138) rfl
  have J79 : ∀ (n79 : Nat) (v79_1 : Int64) (v79_3 : Int32) (h0_79 : 0 ≤ v79_3.toInt), (((σ.2.2.1 0) * (σ.2.2.1 1) : Int32).toInt - v79_3.toInt).toNat = n79 → Y l S0 D K_X8_digest 16 0 0 (fun r G1 => (∃ v : Int64, r = some (.long v)) ∧ G1 = G) (fun _ _ => False) 79 [(0, .ref (ad 1)), (1, .long v79_1), (3, .int v79_3)] [] G 0 0 := by
    intro n79
    induction n79 using Nat.strongRecOn with
    | _ n79 ih79 =>
    intro v79_1 v79_3 h0_79 hn79
    subst hn79
    have J93 : ∀ (n93 : Nat) (v93_1 : Int64) (v93_4 : Int32) (h0_93 : 0 ≤ v93_4.toInt) (c87 : ¬ ((σ.2.2.1 0) * (σ.2.2.1 1) : Int32) ≤ v79_3), ((4 : Int32).toInt + 1 - v93_4.toInt).toNat = n93 → Y l S0 D K_X8_digest 16 0 0 (fun r G1 => (∃ v : Int64, r = some (.long v)) ∧ G1 = G) (fun _ _ => False) 93 [(0, .ref (ad 1)), (1, .long v93_1), (3, .int v79_3), (4, .int v93_4)] [] G 0 0 := by
      intro n93
      induction n93 using Nat.strongRecOn with
      | _ n93 ih93 =>
      intro v93_1 v93_4 h0_93 c87 hn93
      subst hn93
      refine y_blk 2 tq_X8_digest (z := (96, [(0, .ref (ad 1)), (1, .long v93_1), (3, .int v79_3), (4, .int v93_4)], [.int 4, .int v93_4])) rfl ?_
      refine y_icmp_gt tq_X8_digest 122 rfl rfl (fun c96 => ?_) (fun c96 => ?_)
      · skip
        refine y_blk 2 tq_X8_digest (z := (79, [(3, .int (v79_3 + 1)), (0, .ref (ad 1)), (1, .long v93_1), (4, .int v93_4)], [])) rfl ?_
        refine y_pick (L2 := [(0, .ref (ad 1)), (1, .long v93_1), (3, .int (v79_3 + 1))]) [1, 2, 0] rfl ?_
        exact ih79 _ (by exact ydec c87) v93_1 (v79_3 + 1) (by first | decide | exact yposge h0_79 c87) rfl
      · skip
        refine y_blk 1 tq_X8_digest (z := (100, [(0, .ref (ad 1)), (1, .long v93_1), (3, .int v79_3), (4, .int v93_4)], [.long v93_1])) rfl ?_
        refine y_ldc2 hS tq_X8_digest rfl ld_X8_409 ?_
        refine y_blk 5 tq_X8_digest (z := (110, [(0, .ref (ad 1)), (1, .long v93_1), (3, .int v79_3), (4, .int v93_4)], [.int v93_4, .int 120, .int v79_3, .ref (ad 1), .long (v93_1 * (31))])) rfl ?_
        refine y_callV hS tq_X8_digest rfl (As := [.int v79_3, .int 120, .int v93_4]) rfl cv_X8_417 (hX.1 1 _ rfl) (m_X8_ofCell_ok hS hX v79_3 120 v93_4 ⟨by (simp only [yif0, Classical.not_not, ylt, yle, yl_m1, yl_0, yl_1, yl_2, yl_3, yl_4, yl_5, yl_6, yl_7, yl_8, yl_9, yl_10, yl_11, yl_12, yl_15, yl_16, yl_20, yl_60, yl_64, yl_90, yl_97, yl_99, yl_100, yl_120, yl_239, yl_240] at *; omega), ylem1 h0_79 c87⟩ ⟨by decide, by decide⟩ (by refine ⟨?_, ?_⟩ <;> (simp only [yif0, Classical.not_not, ylt, yle, yl_m1, yl_0, yl_1, yl_2, yl_3, yl_4, yl_5, yl_6, yl_7, yl_8, yl_9, yl_10, yl_11, yl_12, yl_15, yl_16, yl_20, yl_60, yl_64, yl_90, yl_97, yl_99, yl_100, yl_120, yl_239, yl_240] at *; omega))) rfl (by decide) (Nat.le_of_ble_eq_true rfl) (fun r110 Gc110 q110 => ?_) (fun E9 G9 h9 => h9.elim)
        obtain ⟨⟨x110, rfl⟩, eG110⟩ := q110
        have eG110 := eG110.symm
        subst eG110
        refine y_blk 5 tq_X8_digest (z := (93, [(4, .int (v93_4 + 1)), (1, .long ((v93_1 * (31)) + (Int32.toInt64 x110))), (0, .ref (ad 1)), (3, .int v79_3)], [])) rfl ?_
        refine y_pick (L2 := [(0, .ref (ad 1)), (1, .long ((v93_1 * (31)) + (Int32.toInt64 x110))), (3, .int v79_3), (4, .int (v93_4 + 1))]) [2, 1, 3, 0] rfl ?_
        exact ih93 _ (by exact ydec2 c96 (by decide)) ((v93_1 * (31)) + (Int32.toInt64 x110)) (v93_4 + 1) (by first | decide | exact yposgt h0_93 c96 (by decide)) (by exact c87) rfl
    refine y_blk 2 tq_X8_digest (z := (81, [(0, .ref (ad 1)), (1, .long v79_1), (3, .int v79_3)], [.ref (ad 1), .int v79_3])) rfl ?_
    refine y_get hS tq_X8_digest (v := .ref (ad 2)) rfl fg_X8_10_X8 (hX.1 1 _ rfl) rfl ?_
    refine y_blk 0 tq_X8_digest (z := (84, [(0, .ref (ad 1)), (1, .long v79_1), (3, .int v79_3)], [.ref (ad 2), .int v79_3])) rfl ?_
    refine y_callV hS tq_X8_digest rfl (As := []) rfl cv_X8_350 (hX.1 2 _ rfl) (m_X1_cells hS hX ) rfl (by decide) (Nat.le_of_ble_eq_true rfl) (fun r84 Gc84 q84 => ?_) (fun E9 G9 h9 => h9.elim)
    obtain ⟨rfl, eG84⟩ := q84
    have eG84 := eG84.symm
    subst eG84
    refine y_blk 0 tq_X8_digest (z := (87, [(0, .ref (ad 1)), (1, .long v79_1), (3, .int v79_3)], [.int ((σ.2.2.1 0) * (σ.2.2.1 1)), .int v79_3])) rfl ?_
    refine y_icmp_ge tq_X8_digest 128 rfl rfl (fun c87 => ?_) (fun c87 => ?_)
    · skip
      refine y_blk 2 tq_X8_digest (z := (130, [(3, .int 0), (0, .ref (ad 1)), (1, .long v79_1)], [])) rfl ?_
      refine y_pick (L2 := [(0, .ref (ad 1)), (1, .long v79_1), (3, .int 0)]) [1, 2, 0] rfl ?_
      exact J130 _ v79_1 0 (by first | decide | exact yposge h0_130 c138) rfl
    · skip
      refine y_blk 2 tq_X8_digest (z := (93, [(4, .int 0), (0, .ref (ad 1)), (1, .long v79_1), (3, .int v79_3)], [])) rfl ?_
      refine y_pick (L2 := [(0, .ref (ad 1)), (1, .long v79_1), (3, .int v79_3), (4, .int 0)]) [1, 2, 3, 0] rfl ?_
      exact J93 _ v79_1 0 (by first | decide | exact yposgt h0_93 c96 (by decide)) (by exact c87) rfl
  have J33 : ∀ (n33 : Nat) (v33_1 : Int64) (v33_3 : Int32) (h0_33 : 0 ≤ v33_3.toInt), ((240 : Int32).toInt - v33_3.toInt).toNat = n33 → Y l S0 D K_X8_digest 16 0 0 (fun r G1 => (∃ v : Int64, r = some (.long v)) ∧ G1 = G) (fun _ _ => False) 33 [(0, .ref (ad 1)), (1, .long v33_1), (3, .int v33_3)] [] G 0 0 := by
    intro n33
    induction n33 using Nat.strongRecOn with
    | _ n33 ih33 =>
    intro v33_1 v33_3 h0_33 hn33
    subst hn33
    have J43 : ∀ (n43 : Nat) (v43_1 : Int64) (v43_4 : Int32) (h0_43 : 0 ≤ v43_4.toInt) (c37 : ¬ (240 : Int32) ≤ v33_3), ((6 : Int32).toInt + 1 - v43_4.toInt).toNat = n43 → Y l S0 D K_X8_digest 16 0 0 (fun r G1 => (∃ v : Int64, r = some (.long v)) ∧ G1 = G) (fun _ _ => False) 43 [(0, .ref (ad 1)), (1, .long v43_1), (3, .int v33_3), (4, .int v43_4)] [] G 0 0 := by
      intro n43
      induction n43 using Nat.strongRecOn with
      | _ n43 ih43 =>
      intro v43_1 v43_4 h0_43 c37 hn43
      subst hn43
      refine y_blk 2 tq_X8_digest (z := (47, [(0, .ref (ad 1)), (1, .long v43_1), (3, .int v33_3), (4, .int v43_4)], [.int 6, .int v43_4])) rfl ?_
      refine y_icmp_gt tq_X8_digest 71 rfl rfl (fun c47 => ?_) (fun c47 => ?_)
      · skip
        refine y_blk 2 tq_X8_digest (z := (33, [(3, .int (v33_3 + 60)), (0, .ref (ad 1)), (1, .long v43_1), (4, .int v43_4)], [])) rfl ?_
        refine y_pick (L2 := [(0, .ref (ad 1)), (1, .long v43_1), (3, .int (v33_3 + 60))]) [1, 2, 0] rfl ?_
        exact ih33 _ (by exact ydec60 c37) v43_1 (v33_3 + 60) (by first | decide | (refine ypos60 (by assumption) c37)) rfl
      · skip
        refine y_blk 1 tq_X8_digest (z := (51, [(0, .ref (ad 1)), (1, .long v43_1), (3, .int v33_3), (4, .int v43_4)], [.long v43_1])) rfl ?_
        refine y_ldc2 hS tq_X8_digest rfl ld_X8_409 ?_
        refine y_blk 4 tq_X8_digest (z := (59, [(0, .ref (ad 1)), (1, .long v43_1), (3, .int v33_3), (4, .int v43_4)], [.int v43_4, .int v33_3, .ref (ad 1), .long (v43_1 * (31))])) rfl ?_
        refine y_callV hS tq_X8_digest rfl (As := [.int v33_3, .int v43_4]) rfl cv_X8_414 (hX.1 1 _ rfl) (m_X8_ofMinute_ok hS hX v33_3 v43_4 (by refine ⟨?_, ?_⟩ <;> (simp only [yif0, Classical.not_not, ylt, yle, yl_m1, yl_0, yl_1, yl_2, yl_3, yl_4, yl_5, yl_6, yl_7, yl_8, yl_9, yl_10, yl_11, yl_12, yl_15, yl_16, yl_20, yl_60, yl_64, yl_90, yl_97, yl_99, yl_100, yl_120, yl_239, yl_240] at *; omega)) (by refine ⟨?_, ?_⟩ <;> (simp only [yif0, Classical.not_not, ylt, yle, yl_m1, yl_0, yl_1, yl_2, yl_3, yl_4, yl_5, yl_6, yl_7, yl_8, yl_9, yl_10, yl_11, yl_12, yl_15, yl_16, yl_20, yl_60, yl_64, yl_90, yl_97, yl_99, yl_100, yl_120, yl_239, yl_240] at *; omega))) rfl (by decide) (Nat.le_of_ble_eq_true rfl) (fun r59 Gc59 q59 => ?_) (fun E9 G9 h9 => h9.elim)
        obtain ⟨⟨x59, rfl⟩, eG59⟩ := q59
        have eG59 := eG59.symm
        subst eG59
        refine y_blk 5 tq_X8_digest (z := (43, [(4, .int (v43_4 + 1)), (1, .long ((v43_1 * (31)) + (Int32.toInt64 x59))), (0, .ref (ad 1)), (3, .int v33_3)], [])) rfl ?_
        refine y_pick (L2 := [(0, .ref (ad 1)), (1, .long ((v43_1 * (31)) + (Int32.toInt64 x59))), (3, .int v33_3), (4, .int (v43_4 + 1))]) [2, 1, 3, 0] rfl ?_
        exact ih43 _ (by exact ydec2 c47 (by decide)) ((v43_1 * (31)) + (Int32.toInt64 x59)) (v43_4 + 1) (by first | decide | exact yposgt h0_43 c47 (by decide)) (by exact c37) rfl
    refine y_blk 2 tq_X8_digest (z := (37, [(0, .ref (ad 1)), (1, .long v33_1), (3, .int v33_3)], [.int 240, .int v33_3])) rfl ?_
    refine y_icmp_ge tq_X8_digest 77 rfl rfl (fun c37 => ?_) (fun c37 => ?_)
    · skip
      refine y_blk 2 tq_X8_digest (z := (79, [(3, .int 0), (0, .ref (ad 1)), (1, .long v33_1)], [])) rfl ?_
      refine y_pick (L2 := [(0, .ref (ad 1)), (1, .long v33_1), (3, .int 0)]) [1, 2, 0] rfl ?_
      exact J79 _ v33_1 0 (by first | decide | exact yposge h0_79 c87) rfl
    · skip
      refine y_blk 2 tq_X8_digest (z := (43, [(4, .int 0), (0, .ref (ad 1)), (1, .long v33_1), (3, .int v33_3)], [])) rfl ?_
      refine y_pick (L2 := [(0, .ref (ad 1)), (1, .long v33_1), (3, .int v33_3), (4, .int 0)]) [1, 2, 3, 0] rfl ?_
      exact J43 _ v33_1 0 (by first | decide | exact yposgt h0_43 c47 (by decide)) (by exact c37) rfl
  have J6 : ∀ (n6 : Nat) (v6_1 : Int64) (v6_3 : Int32) (h0_6 : 0 ≤ v6_3.toInt), ((12 : Int32).toInt + 1 - v6_3.toInt).toNat = n6 → Y l S0 D K_X8_digest 16 0 0 (fun r G1 => (∃ v : Int64, r = some (.long v)) ∧ G1 = G) (fun _ _ => False) 6 [(0, .ref (ad 1)), (1, .long v6_1), (3, .int v6_3)] [] G 0 0 := by
    intro n6
    induction n6 using Nat.strongRecOn with
    | _ n6 ih6 =>
    intro v6_1 v6_3 h0_6 hn6
    subst hn6
    refine y_blk 2 tq_X8_digest (z := (9, [(0, .ref (ad 1)), (1, .long v6_1), (3, .int v6_3)], [.int 12, .int v6_3])) rfl ?_
    refine y_icmp_gt tq_X8_digest 31 rfl rfl (fun c9 => ?_) (fun c9 => ?_)
    · skip
      refine y_blk 2 tq_X8_digest (z := (33, [(3, .int 0), (0, .ref (ad 1)), (1, .long v6_1)], [])) rfl ?_
      refine y_pick (L2 := [(0, .ref (ad 1)), (1, .long v6_1), (3, .int 0)]) [1, 2, 0] rfl ?_
      exact J33 _ v6_1 0 (by first | decide | (refine ypos60 (by assumption) c37)) rfl
    · skip
      refine y_blk 1 tq_X8_digest (z := (13, [(0, .ref (ad 1)), (1, .long v6_1), (3, .int v6_3)], [.long v6_1])) rfl ?_
      refine y_ldc2 hS tq_X8_digest rfl ld_X8_409 ?_
      refine y_blk 3 tq_X8_digest (z := (19, [(0, .ref (ad 1)), (1, .long v6_1), (3, .int v6_3)], [.int v6_3, .ref (ad 1), .long (v6_1 * (31))])) rfl ?_
      refine y_callV hS tq_X8_digest rfl (As := [.int v6_3]) rfl cv_X8_411 (hX.1 1 _ rfl) (m_X8_many_ok hS hX v6_3 (by refine ⟨?_, ?_⟩ <;> (simp only [yif0, Classical.not_not, ylt, yle, yl_m1, yl_0, yl_1, yl_2, yl_3, yl_4, yl_5, yl_6, yl_7, yl_8, yl_9, yl_10, yl_11, yl_12, yl_15, yl_16, yl_20, yl_60, yl_64, yl_90, yl_97, yl_99, yl_100, yl_120, yl_239, yl_240] at *; omega))) rfl (by decide) (Nat.le_of_ble_eq_true rfl) (fun r19 Gc19 q19 => ?_) (fun E9 G9 h9 => h9.elim)
      obtain ⟨⟨x19, rfl⟩, eG19⟩ := q19
      have eG19 := eG19.symm
      subst eG19
      refine y_blk 5 tq_X8_digest (z := (6, [(3, .int (v6_3 + 1)), (1, .long ((v6_1 * (31)) + (Int32.toInt64 x19))), (0, .ref (ad 1))], [])) rfl ?_
      refine y_pick (L2 := [(0, .ref (ad 1)), (1, .long ((v6_1 * (31)) + (Int32.toInt64 x19))), (3, .int (v6_3 + 1))]) [2, 1, 0] rfl ?_
      exact ih6 _ (by exact ydec2 c9 (by decide)) ((v6_1 * (31)) + (Int32.toInt64 x19)) (v6_3 + 1) (by first | decide | exact yposgt h0_6 c9 (by decide)) rfl
  refine y_blk 0 tq_X8_digest (z := (0, [(0, .ref (ad 1))], [])) rfl ?_
  refine y_ldc2 hS tq_X8_digest rfl ld_X8_407 ?_
  refine y_blk 3 tq_X8_digest (z := (6, [(3, .int 0), (1, .long (9241)), (0, .ref (ad 1))], [])) rfl ?_
  refine y_pick (L2 := [(0, .ref (ad 1)), (1, .long (9241)), (3, .int 0)]) [2, 1, 0] rfl ?_
  exact J6 _ (9241) 0 (by first | decide | exact yposgt h0_6 c9 (by decide)) rfl
