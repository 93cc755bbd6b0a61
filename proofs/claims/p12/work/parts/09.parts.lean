/-! ===== contracts: fogs, wires, guards ===== -/
/-- where a guard stands -/
def xsta (σ : XS) (g m : Int32) : Int32 := if m - xat σ 5 g < 0 then -1 else if xat σ 6 g < m then -1 else if xat σ 7 g < 1 then -1 else if 1 ≤ xat σ 8 g then xat σ 9 (g * 6 + ((m - xat σ 5 g) / xat σ 7 g - (m - xat σ 5 g) / xat σ 7 g / xat σ 8 g * xat σ 8 g)) else -1
/-- where an intruder is -/
def xcel (σ : XS) (i m : Int32) : Int32 := if 0 ≤ m - xat σ 16 i then (if xat σ 18 i ≤ m - xat σ 16 i then xat σ 19 (i * 15 + xat σ 18 i) else xat σ 19 (i * 15 + (m - xat σ 16 i))) else -1
set_option maxHeartbeats 4000000 in
set_option maxRecDepth 100000 in
theorem m_X0_isFull {l : Launch} {S0 : State} {A0 : Array Value} {D : va_G} {aC : Nat → ClassId} {ad : Nat → Nat} {G : AH} {σ : XS} (hS : yS l S0 A0 D aC) (hX : atX aC ad G σ) : yM l S0 D yX0_isFull cX0_isFull 1 (some .boolean) 11 0 0 [.ref (ad 5)] G (fun r G1 => r = some (.int (if (xcap 3 : Int) ≤ (σ.1 3).toInt then 1 else 0)) ∧ G1 = G) (fun _ _ => False) := by
  refine yM.ofK K_X0_isFull rfl (by decide) (Nat.le_of_ble_eq_true rfl) ?_
  refine y_blk 1 tq_X0_isFull (z := (1, [(0, .ref (ad 5))], [.ref (ad 5)])) rfl ?_
  refine y_get hS tq_X0_isFull (v := .ref (ad 106)) rfl fg_X0_16_X0 (hX.1 5 _ rfl) rfl ?_
  refine y_blk 0 tq_X0_isFull (z := (4, [(0, .ref (ad 5))], [.ref (ad 106)])) rfl ?_
  refine y_callV hS tq_X0_isFull rfl (As := []) rfl cv_X0_23 (hX.num (k := 3) (by decide)) (m_X5_isFull hS hX (k := 3) (by decide) ) rfl (by decide) (Nat.le_of_ble_eq_true rfl) (fun r4 Gc4 q4 => ?_) (fun E9 G9 h9 => h9.elim)
  obtain ⟨rfl, eG4⟩ := q4
  have eG4 := eG4.symm
  subst eG4
  refine y_blk 0 tq_X0_isFull (z := (7, [(0, .ref (ad 5))], [.int (if (xcap 3 : Int) ≤ (σ.1 3).toInt then 1 else 0)])) rfl ?_
  exact y_zret tq_X0_isFull rfl rfl (y01 (y01i _)) (⟨by first | rfl | (congr 2; (repeat' split) <;> first | rfl | (exfalso; simp only [ylt, yle, yeqI, yl_m1, yl_0, yl_1, yl_2, yl_3, yl_4, yl_5, yl_6, yl_7, yl_8, yl_9, yl_10, yl_11, yl_12, yl_15, yl_16, yl_20, yl_60, yl_64, yl_90, yl_97, yl_99, yl_100, yl_120, yl_239, yl_240] at *; omega)), rfl⟩)
set_option maxHeartbeats 4000000 in
set_option maxRecDepth 100000 in
theorem m_X0_forget {l : Launch} {S0 : State} {A0 : Array Value} {D : va_G} {aC : Nat → ClassId} {ad : Nat → Nat} {G : AH} {σ : XS} (hS : yS l S0 A0 D aC) (hX : atX aC ad G σ) : yM l S0 D yX0_forget cX0_forget 1 none 11 0 0 [.ref (ad 5)] G (fun r G1 => r = none ∧ atX aC ad G1 (xsz (xsz σ 3 0) 4 0) ∧ keepX G G1) (fun _ _ => False) := by
  refine yM.ofK K_X0_forget rfl (by decide) (Nat.le_of_ble_eq_true rfl) ?_
  refine y_blk 1 tq_X0_forget (z := (1, [(0, .ref (ad 5))], [.ref (ad 5)])) rfl ?_
  refine y_get hS tq_X0_forget (v := .ref (ad 106)) rfl fg_X0_16_X0 (hX.1 5 _ rfl) rfl ?_
  refine y_blk 0 tq_X0_forget (z := (4, [(0, .ref (ad 5))], [.ref (ad 106)])) rfl ?_
  refine y_callV hS tq_X0_forget rfl (As := []) rfl cv_X0_27 (hX.num (k := 3) (by decide)) (m_X5_clear hS hX (k := 3) (by decide) ) rfl (by decide) (Nat.le_of_ble_eq_true rfl) (fun r4 Gc4 q4 => ?_) (fun E9 G9 h9 => h9.elim)
  obtain ⟨rfl, hXc4, hFc4⟩ := q4
  refine y_blk 1 tq_X0_forget (z := (8, [(0, .ref (ad 5))], [.ref (ad 5)])) rfl ?_
  refine y_get hS tq_X0_forget (v := .ref (ad 108)) rfl fg_X0_20_X0 (hXc4.1 5 _ rfl) rfl ?_
  refine y_blk 0 tq_X0_forget (z := (11, [(0, .ref (ad 5))], [.ref (ad 108)])) rfl ?_
  refine y_callV hS tq_X0_forget rfl (As := []) rfl cv_X0_27 (hXc4.num (k := 4) (by decide)) (m_X5_clear hS hXc4 (k := 4) (by decide) ) rfl (by decide) (Nat.le_of_ble_eq_true rfl) (fun r11 Gc11 q11 => ?_) (fun E9 G9 h9 => h9.elim)
  obtain ⟨rfl, hXc11, hFc11⟩ := q11
  refine y_blk 0 tq_X0_forget (z := (14, [(0, .ref (ad 5))], [])) rfl ?_
  exact y_vret tq_X0_forget rfl rfl (⟨rfl, hXc11, ((keepX.rfl'.trans hFc4).trans hFc11)⟩)
set_option maxHeartbeats 4000000 in
set_option maxRecDepth 100000 in
theorem m_X0_tell {l : Launch} {S0 : State} {A0 : Array Value} {D : va_G} {aC : Nat → ClassId} {ad : Nat → Nat} {G : AH} {σ : XS} (hS : yS l S0 A0 D aC) (hX : atX aC ad G σ) (minute : Int32) (fog : Int32) : yM l S0 D yX0_tell cX0_tell 3 (some .int) 12 0 0 [.ref (ad 5), .int minute, .int fog] G (fun r G1 => r = some (.int ((xfogT σ minute fog).1 3)) ∧ atX aC ad G1 (xfogT σ minute fog) ∧ keepX G G1) (fun _ _ => False) := by
  refine yM.ofK K_X0_tell rfl (by decide) (Nat.le_of_ble_eq_true rfl) ?_
  refine y_blk 1 tq_X0_tell (z := (1, [(0, .ref (ad 5)), (1, .int minute), (2, .int fog)], [.ref (ad 5)])) rfl ?_
  refine y_get hS tq_X0_tell (v := .ref (ad 106)) rfl fg_X0_16_X0 (hX.1 5 _ rfl) rfl ?_
  refine y_blk 1 tq_X0_tell (z := (5, [(0, .ref (ad 5)), (1, .int minute), (2, .int fog)], [.int minute, .ref (ad 106)])) rfl ?_
  refine y_callV hS tq_X0_tell rfl (As := [.int minute]) rfl cv_X0_30 (hX.num (k := 3) (by decide)) (m_X5_add hS hX (k := 3) (by decide) minute (fun q => absurd q (by decide))) rfl (by decide) (Nat.le_of_ble_eq_true rfl) (fun r5 Gc5 q5 => ?_) (fun E9 G9 h9 => h9.elim)
  obtain ⟨rfl, hXc5, hFc5⟩ := q5
  refine y_blk 1 tq_X0_tell (z := (9, [(0, .ref (ad 5)), (1, .int minute), (2, .int fog)], [.ref (ad 5)])) rfl ?_
  refine y_get hS tq_X0_tell (v := .ref (ad 108)) rfl fg_X0_20_X0 (hXc5.1 5 _ rfl) rfl ?_
  refine y_blk 1 tq_X0_tell (z := (13, [(0, .ref (ad 5)), (1, .int minute), (2, .int fog)], [.int fog, .ref (ad 108)])) rfl ?_
  refine y_callV hS tq_X0_tell rfl (As := [.int fog]) rfl cv_X0_30 (hXc5.num (k := 4) (by decide)) (m_X5_add hS hXc5 (k := 4) (by decide) fog (fun q => absurd q (by decide))) rfl (by decide) (Nat.le_of_ble_eq_true rfl) (fun r13 Gc13 q13 => ?_) (fun E9 G9 h9 => h9.elim)
  obtain ⟨rfl, hXc13, hFc13⟩ := q13
  refine y_blk 1 tq_X0_tell (z := (17, [(0, .ref (ad 5)), (1, .int minute), (2, .int fog)], [.ref (ad 5)])) rfl ?_
  refine y_get hS tq_X0_tell (v := .ref (ad 106)) rfl fg_X0_16_X0 (hXc13.1 5 _ rfl) rfl ?_
  refine y_blk 0 tq_X0_tell (z := (20, [(0, .ref (ad 5)), (1, .int minute), (2, .int fog)], [.ref (ad 106)])) rfl ?_
  refine y_callV hS tq_X0_tell rfl (As := []) rfl cv_X0_33 (hXc13.num (k := 3) (by decide)) (m_X5_size hS hXc13 (k := 3) (by decide) ) rfl (by decide) (Nat.le_of_ble_eq_true rfl) (fun r20 Gc20 q20 => ?_) (fun E9 G9 h9 => h9.elim)
  obtain ⟨rfl, eG20⟩ := q20
  have eG20 := eG20.symm
  subst eG20
  refine y_blk 0 tq_X0_tell (z := (23, [(0, .ref (ad 5)), (1, .int minute), (2, .int fog)], [.int (((xadd ((xadd σ 3 minute)) 4 fog)).1 3)])) rfl ?_
  exact y_iret tq_X0_tell rfl rfl (⟨rfl, hXc13, ((keepX.rfl'.trans hFc5).trans hFc13)⟩)
set_option maxHeartbeats 4000000 in
set_option maxRecDepth 100000 in
theorem m_X0_fogAt {l : Launch} {S0 : State} {A0 : Array Value} {D : va_G} {aC : Nat → ClassId} {ad : Nat → Nat} {G : AH} {σ : XS} (hS : yS l S0 A0 D aC) (hX : atX aC ad G σ) (minute : Int32) : yM l S0 D yX0_fogAt cX0_fogAt 6 (some .int) 11 0 0 [.ref (ad 5), .int minute] G (fun r G1 => (∃ v : Int32, r = some (.int v)) ∧ G1 = G) (fun _ _ => False) := by
  refine yM.ofK K_X0_fogAt rfl (by decide) (Nat.le_of_ble_eq_true rfl) ?_
  have J7 : ∀ (n7 : Nat) (v7_2 : Int32) (v7_3 : Int32) (v7_4 : Int32), ((σ.1 3 : Int32).toInt - v7_4.toInt).toNat = n7 → Y l S0 D K_X0_fogAt 11 0 0 (fun r G1 => (∃ v : Int32, r = some (.int v)) ∧ G1 = G) (fun _ _ => False) 7 [(0, .ref (ad 5)), (1, .int minute), (2, .int v7_2), (3, .int v7_3), (4, .int v7_4)] [] G 0 0 := by
    intro n7
    induction n7 using Nat.strongRecOn with
    | _ n7 ih7 =>
    intro v7_2 v7_3 v7_4 hn7
    subst hn7
    have J55 : ∀ (v55_2 : Int32) (v55_3 : Int32) (v55_5 : Int32) (c16 : ¬ (σ.1 3 : Int32) ≤ v7_4), Y l S0 D K_X0_fogAt 11 0 0 (fun r G1 => (∃ v : Int32, r = some (.int v)) ∧ G1 = G) (fun _ _ => False) 55 [(0, .ref (ad 5)), (1, .int minute), (2, .int v55_2), (3, .int v55_3), (4, .int v7_4), (5, .int v55_5)] [] G 0 0 := by
      intro v55_2 v55_3 v55_5 c16
      refine y_blk 2 tq_X0_fogAt (z := (7, [(4, .int (v7_4 + 1)), (0, .ref (ad 5)), (1, .int minute), (2, .int v55_2), (3, .int v55_3), (5, .int v55_5)], [])) rfl ?_
      refine y_pick (L2 := [(0, .ref (ad 5)), (1, .int minute), (2, .int v55_2), (3, .int v55_3), (4, .int (v7_4 + 1))]) [1, 2, 3, 4, 0] rfl ?_
      exact ih7 _ (by exact ydec c16) v55_2 v55_3 (v7_4 + 1) rfl
    refine y_blk 2 tq_X0_fogAt (z := (10, [(0, .ref (ad 5)), (1, .int minute), (2, .int v7_2), (3, .int v7_3), (4, .int v7_4)], [.ref (ad 5), .int v7_4])) rfl ?_
    refine y_get hS tq_X0_fogAt (v := .ref (ad 106)) rfl fg_X0_16_X0 (hX.1 5 _ rfl) rfl ?_
    refine y_blk 0 tq_X0_fogAt (z := (13, [(0, .ref (ad 5)), (1, .int minute), (2, .int v7_2), (3, .int v7_3), (4, .int v7_4)], [.ref (ad 106), .int v7_4])) rfl ?_
    refine y_callV hS tq_X0_fogAt rfl (As := []) rfl cv_X0_33 (hX.num (k := 3) (by decide)) (m_X5_size hS hX (k := 3) (by decide) ) rfl (by decide) (Nat.le_of_ble_eq_true rfl) (fun r13 Gc13 q13 => ?_) (fun E9 G9 h9 => h9.elim)
    obtain ⟨rfl, eG13⟩ := q13
    have eG13 := eG13.symm
    subst eG13
    refine y_blk 0 tq_X0_fogAt (z := (16, [(0, .ref (ad 5)), (1, .int minute), (2, .int v7_2), (3, .int v7_3), (4, .int v7_4)], [.int (σ.1 3), .int v7_4])) rfl ?_
    refine y_icmp_ge tq_X0_fogAt 61 rfl rfl (fun c16 => ?_) (fun c16 => ?_)
    · skip
      refine y_blk 1 tq_X0_fogAt (z := (62, [(0, .ref (ad 5)), (1, .int minute), (2, .int v7_2), (3, .int v7_3), (4, .int v7_4)], [.int v7_3])) rfl ?_
      exact y_iret tq_X0_fogAt rfl rfl (⟨⟨_, rfl⟩, rfl⟩)
    · skip
      refine y_blk 1 tq_X0_fogAt (z := (20, [(0, .ref (ad 5)), (1, .int minute), (2, .int v7_2), (3, .int v7_3), (4, .int v7_4)], [.ref (ad 5)])) rfl ?_
      refine y_get hS tq_X0_fogAt (v := .ref (ad 106)) rfl fg_X0_16_X0 (hX.1 5 _ rfl) rfl ?_
      refine y_blk 1 tq_X0_fogAt (z := (25, [(0, .ref (ad 5)), (1, .int minute), (2, .int v7_2), (3, .int v7_3), (4, .int v7_4)], [.int v7_4, .ref (ad 106)])) rfl ?_
      refine y_callV hS tq_X0_fogAt rfl (As := [.int v7_4]) rfl cv_X0_37 (hX.num (k := 3) (by decide)) (m_X5_at hS hX (k := 3) (by decide) v7_4) rfl (by decide) (Nat.le_of_ble_eq_true rfl) (fun r25 Gc25 q25 => ?_) (fun E9 G9 h9 => h9.elim)
      obtain ⟨rfl, eG25⟩ := q25
      have eG25 := eG25.symm
      subst eG25
      refine y_blk 3 tq_X0_fogAt (z := (33, [(5, .int (xat σ 3 v7_4)), (0, .ref (ad 5)), (1, .int minute), (2, .int v7_2), (3, .int v7_3), (4, .int v7_4)], [.int minute, .int (xat σ 3 v7_4)])) rfl ?_
      refine y_icmp_gt tq_X0_fogAt 55 rfl rfl (fun c33 => ?_) (fun c33 => ?_)
      · skip
        refine y_blk 0 tq_X0_fogAt (z := (55, [(5, .int (xat σ 3 v7_4)), (0, .ref (ad 5)), (1, .int minute), (2, .int v7_2), (3, .int v7_3), (4, .int v7_4)], [])) rfl ?_
        refine y_pick (L2 := [(0, .ref (ad 5)), (1, .int minute), (2, .int v7_2), (3, .int v7_3), (4, .int v7_4), (5, .int (xat σ 3 v7_4))]) [1, 2, 3, 4, 5, 0] rfl ?_
        exact J55 v7_2 v7_3 (xat σ 3 v7_4) (by exact c16)
      · skip
        refine y_blk 2 tq_X0_fogAt (z := (39, [(5, .int (xat σ 3 v7_4)), (0, .ref (ad 5)), (1, .int minute), (2, .int v7_2), (3, .int v7_3), (4, .int v7_4)], [.int v7_2, .int (xat σ 3 v7_4)])) rfl ?_
        refine y_icmp_lt tq_X0_fogAt 55 rfl rfl (fun c39 => ?_) (fun c39 => ?_)
        · skip
          refine y_blk 0 tq_X0_fogAt (z := (55, [(5, .int (xat σ 3 v7_4)), (0, .ref (ad 5)), (1, .int minute), (2, .int v7_2), (3, .int v7_3), (4, .int v7_4)], [])) rfl ?_
          refine y_pick (L2 := [(0, .ref (ad 5)), (1, .int minute), (2, .int v7_2), (3, .int v7_3), (4, .int v7_4), (5, .int (xat σ 3 v7_4))]) [1, 2, 3, 4, 5, 0] rfl ?_
          exact J55 v7_2 v7_3 (xat σ 3 v7_4) (by exact c16)
        · skip
          refine y_blk 3 tq_X0_fogAt (z := (46, [(2, .int (xat σ 3 v7_4)), (5, .int (xat σ 3 v7_4)), (0, .ref (ad 5)), (1, .int minute), (3, .int v7_3), (4, .int v7_4)], [.ref (ad 5)])) rfl ?_
          refine y_get hS tq_X0_fogAt (v := .ref (ad 108)) rfl fg_X0_20_X0 (hX.1 5 _ rfl) rfl ?_
          refine y_blk 1 tq_X0_fogAt (z := (51, [(2, .int (xat σ 3 v7_4)), (5, .int (xat σ 3 v7_4)), (0, .ref (ad 5)), (1, .int minute), (3, .int v7_3), (4, .int v7_4)], [.int v7_4, .ref (ad 108)])) rfl ?_
          refine y_callV hS tq_X0_fogAt rfl (As := [.int v7_4]) rfl cv_X0_37 (hX.num (k := 4) (by decide)) (m_X5_at hS hX (k := 4) (by decide) v7_4) rfl (by decide) (Nat.le_of_ble_eq_true rfl) (fun r51 Gc51 q51 => ?_) (fun E9 G9 h9 => h9.elim)
          obtain ⟨rfl, eG51⟩ := q51
          have eG51 := eG51.symm
          subst eG51
          refine y_blk 1 tq_X0_fogAt (z := (55, [(3, .int (xat σ 4 v7_4)), (2, .int (xat σ 3 v7_4)), (5, .int (xat σ 3 v7_4)), (0, .ref (ad 5)), (1, .int minute), (4, .int v7_4)], [])) rfl ?_
          refine y_pick (L2 := [(0, .ref (ad 5)), (1, .int minute), (2, .int (xat σ 3 v7_4)), (3, .int (xat σ 4 v7_4)), (4, .int v7_4), (5, .int (xat σ 3 v7_4))]) [3, 4, 1, 0, 5, 2] rfl ?_
          exact J55 (xat σ 3 v7_4) (xat σ 4 v7_4) (xat σ 3 v7_4) (by exact c16)
  refine y_blk 6 tq_X0_fogAt (z := (7, [(4, .int 0), (3, .int 0), (2, .int (-1)), (0, .ref (ad 5)), (1, .int minute)], [])) rfl ?_
  refine y_pick (L2 := [(0, .ref (ad 5)), (1, .int minute), (2, .int (-1)), (3, .int 0), (4, .int 0)]) [3, 4, 2, 1, 0] rfl ?_
  exact J7 _ (-1) 0 0 rfl
set_option maxHeartbeats 4000000 in
set_option maxRecDepth 100000 in
theorem m_X6_count {l : Launch} {S0 : State} {A0 : Array Value} {D : va_G} {aC : Nat → ClassId} {ad : Nat → Nat} {G : AH} {σ : XS} (hS : yS l S0 A0 D aC) (hX : atX aC ad G σ) : yM l S0 D yX6_count cX6_count 1 (some .int) 11 0 0 [.ref (ad 9)] G (fun r G1 => r = some (.int (σ.1 22)) ∧ G1 = G) (fun _ _ => False) := by
  refine yM.ofK K_X6_count rfl (by decide) (Nat.le_of_ble_eq_true rfl) ?_
  refine y_blk 1 tq_X6_count (z := (1, [(0, .ref (ad 9))], [.ref (ad 9)])) rfl ?_
  refine y_get hS tq_X6_count (v := .ref (ad 144)) rfl fg_X6_14_X6 (hX.1 9 _ rfl) rfl ?_
  refine y_blk 0 tq_X6_count (z := (4, [(0, .ref (ad 9))], [.ref (ad 144)])) rfl ?_
  refine y_callV hS tq_X6_count rfl (As := []) rfl cv_X6_21 (hX.num (k := 22) (by decide)) (m_X5_size hS hX (k := 22) (by decide) ) rfl (by decide) (Nat.le_of_ble_eq_true rfl) (fun r4 Gc4 q4 => ?_) (fun E9 G9 h9 => h9.elim)
  obtain ⟨rfl, eG4⟩ := q4
  have eG4 := eG4.symm
  subst eG4
  refine y_blk 0 tq_X6_count (z := (7, [(0, .ref (ad 9))], [.int (σ.1 22)])) rfl ?_
  exact y_iret tq_X6_count rfl rfl (⟨by first | rfl | (congr 2; (repeat' split) <;> first | rfl | (exfalso; simp only [ylt, yle, yeqI, yl_m1, yl_0, yl_1, yl_2, yl_3, yl_4, yl_5, yl_6, yl_7, yl_8, yl_9, yl_10, yl_11, yl_12, yl_15, yl_16, yl_20, yl_60, yl_64, yl_90, yl_97, yl_99, yl_100, yl_120, yl_239, yl_240] at *; omega)), rfl⟩)
set_option maxHeartbeats 4000000 in
set_option maxRecDepth 100000 in
theorem m_X6_isFull {l : Launch} {S0 : State} {A0 : Array Value} {D : va_G} {aC : Nat → ClassId} {ad : Nat → Nat} {G : AH} {σ : XS} (hS : yS l S0 A0 D aC) (hX : atX aC ad G σ) : yM l S0 D yX6_isFull cX6_isFull 1 (some .boolean) 11 0 0 [.ref (ad 9)] G (fun r G1 => r = some (.int (if (xcap 22 : Int) ≤ (σ.1 22).toInt then 1 else 0)) ∧ G1 = G) (fun _ _ => False) := by
  refine yM.ofK K_X6_isFull rfl (by decide) (Nat.le_of_ble_eq_true rfl) ?_
  refine y_blk 1 tq_X6_isFull (z := (1, [(0, .ref (ad 9))], [.ref (ad 9)])) rfl ?_
  refine y_get hS tq_X6_isFull (v := .ref (ad 144)) rfl fg_X6_14_X6 (hX.1 9 _ rfl) rfl ?_
  refine y_blk 0 tq_X6_isFull (z := (4, [(0, .ref (ad 9))], [.ref (ad 144)])) rfl ?_
  refine y_callV hS tq_X6_isFull rfl (As := []) rfl cv_X6_25 (hX.num (k := 22) (by decide)) (m_X5_isFull hS hX (k := 22) (by decide) ) rfl (by decide) (Nat.le_of_ble_eq_true rfl) (fun r4 Gc4 q4 => ?_) (fun E9 G9 h9 => h9.elim)
  obtain ⟨rfl, eG4⟩ := q4
  have eG4 := eG4.symm
  subst eG4
  refine y_blk 0 tq_X6_isFull (z := (7, [(0, .ref (ad 9))], [.int (if (xcap 22 : Int) ≤ (σ.1 22).toInt then 1 else 0)])) rfl ?_
  exact y_zret tq_X6_isFull rfl rfl (y01 (y01i _)) (⟨by first | rfl | (congr 2; (repeat' split) <;> first | rfl | (exfalso; simp only [ylt, yle, yeqI, yl_m1, yl_0, yl_1, yl_2, yl_3, yl_4, yl_5, yl_6, yl_7, yl_8, yl_9, yl_10, yl_11, yl_12, yl_15, yl_16, yl_20, yl_60, yl_64, yl_90, yl_97, yl_99, yl_100, yl_120, yl_239, yl_240] at *; omega)), rfl⟩)
set_option maxHeartbeats 4000000 in
set_option maxRecDepth 100000 in
theorem m_X6_forget {l : Launch} {S0 : State} {A0 : Array Value} {D : va_G} {aC : Nat → ClassId} {ad : Nat → Nat} {G : AH} {σ : XS} (hS : yS l S0 A0 D aC) (hX : atX aC ad G σ) : yM l S0 D yX6_forget cX6_forget 1 none 11 0 0 [.ref (ad 9)] G (fun r G1 => r = none ∧ atX aC ad G1 (xsz (xsz σ 22 0) 23 0) ∧ keepX G G1) (fun _ _ => False) := by
  refine yM.ofK K_X6_forget rfl (by decide) (Nat.le_of_ble_eq_true rfl) ?_
  refine y_blk 1 tq_X6_forget (z := (1, [(0, .ref (ad 9))], [.ref (ad 9)])) rfl ?_
  refine y_get hS tq_X6_forget (v := .ref (ad 144)) rfl fg_X6_14_X6 (hX.1 9 _ rfl) rfl ?_
  refine y_blk 0 tq_X6_forget (z := (4, [(0, .ref (ad 9))], [.ref (ad 144)])) rfl ?_
  refine y_callV hS tq_X6_forget rfl (As := []) rfl cv_X6_29 (hX.num (k := 22) (by decide)) (m_X5_clear hS hX (k := 22) (by decide) ) rfl (by decide) (Nat.le_of_ble_eq_true rfl) (fun r4 Gc4 q4 => ?_) (fun E9 G9 h9 => h9.elim)
  obtain ⟨rfl, hXc4, hFc4⟩ := q4
  refine y_blk 1 tq_X6_forget (z := (8, [(0, .ref (ad 9))], [.ref (ad 9)])) rfl ?_
  refine y_get hS tq_X6_forget (v := .ref (ad 146)) rfl fg_X6_18_X6 (hXc4.1 9 _ rfl) rfl ?_
  refine y_blk 0 tq_X6_forget (z := (11, [(0, .ref (ad 9))], [.ref (ad 146)])) rfl ?_
  refine y_callV hS tq_X6_forget rfl (As := []) rfl cv_X6_29 (hXc4.num (k := 23) (by decide)) (m_X5_clear hS hXc4 (k := 23) (by decide) ) rfl (by decide) (Nat.le_of_ble_eq_true rfl) (fun r11 Gc11 q11 => ?_) (fun E9 G9 h9 => h9.elim)
  obtain ⟨rfl, hXc11, hFc11⟩ := q11
  refine y_blk 0 tq_X6_forget (z := (14, [(0, .ref (ad 9))], [])) rfl ?_
  exact y_vret tq_X6_forget rfl rfl (⟨rfl, hXc11, ((keepX.rfl'.trans hFc4).trans hFc11)⟩)
set_option maxHeartbeats 4000000 in
set_option maxRecDepth 100000 in
theorem m_X6_stretch {l : Launch} {S0 : State} {A0 : Array Value} {D : va_G} {aC : Nat → ClassId} {ad : Nat → Nat} {G : AH} {σ : XS} (hS : yS l S0 A0 D aC) (hX : atX aC ad G σ) (cell : Int32) (bar : Int32) : yM l S0 D yX6_stretch cX6_stretch 3 (some .int) 12 0 0 [.ref (ad 9), .int cell, .int bar] G (fun r G1 => r = some (.int ((xwireT σ cell bar).1 22 - 1)) ∧ atX aC ad G1 (xwireT σ cell bar) ∧ keepX G G1) (fun _ _ => False) := by
  refine yM.ofK K_X6_stretch rfl (by decide) (Nat.le_of_ble_eq_true rfl) ?_
  refine y_blk 1 tq_X6_stretch (z := (1, [(0, .ref (ad 9)), (1, .int cell), (2, .int bar)], [.ref (ad 9)])) rfl ?_
  refine y_get hS tq_X6_stretch (v := .ref (ad 144)) rfl fg_X6_14_X6 (hX.1 9 _ rfl) rfl ?_
  refine y_blk 1 tq_X6_stretch (z := (5, [(0, .ref (ad 9)), (1, .int cell), (2, .int bar)], [.int cell, .ref (ad 144)])) rfl ?_
  refine y_callV hS tq_X6_stretch rfl (As := [.int cell]) rfl cv_X6_32 (hX.num (k := 22) (by decide)) (m_X5_add hS hX (k := 22) (by decide) cell (fun q => absurd q (by decide))) rfl (by decide) (Nat.le_of_ble_eq_true rfl) (fun r5 Gc5 q5 => ?_) (fun E9 G9 h9 => h9.elim)
  obtain ⟨rfl, hXc5, hFc5⟩ := q5
  refine y_blk 1 tq_X6_stretch (z := (9, [(0, .ref (ad 9)), (1, .int cell), (2, .int bar)], [.ref (ad 9)])) rfl ?_
  refine y_get hS tq_X6_stretch (v := .ref (ad 146)) rfl fg_X6_18_X6 (hXc5.1 9 _ rfl) rfl ?_
  refine y_blk 1 tq_X6_stretch (z := (13, [(0, .ref (ad 9)), (1, .int cell), (2, .int bar)], [.int bar, .ref (ad 146)])) rfl ?_
  refine y_callV hS tq_X6_stretch rfl (As := [.int bar]) rfl cv_X6_32 (hXc5.num (k := 23) (by decide)) (m_X5_add hS hXc5 (k := 23) (by decide) bar (fun q => absurd q (by decide))) rfl (by decide) (Nat.le_of_ble_eq_true rfl) (fun r13 Gc13 q13 => ?_) (fun E9 G9 h9 => h9.elim)
  obtain ⟨rfl, hXc13, hFc13⟩ := q13
  refine y_blk 1 tq_X6_stretch (z := (17, [(0, .ref (ad 9)), (1, .int cell), (2, .int bar)], [.ref (ad 9)])) rfl ?_
  refine y_callV hS tq_X6_stretch rfl (As := []) rfl cv_X6_35 (hXc13.1 9 _ rfl) (m_X6_count hS hXc13 ) rfl (by decide) (Nat.le_of_ble_eq_true rfl) (fun r17 Gc17 q17 => ?_) (fun E9 G9 h9 => h9.elim)
  obtain ⟨rfl, eG17⟩ := q17
  have eG17 := eG17.symm
  subst eG17
  refine y_blk 2 tq_X6_stretch (z := (22, [(0, .ref (ad 9)), (1, .int cell), (2, .int bar)], [.int ((((xadd ((xadd σ 22 cell)) 23 bar)).1 22) - 1)])) rfl ?_
  exact y_iret tq_X6_stretch rfl rfl (⟨rfl, hXc13, ((keepX.rfl'.trans hFc5).trans hFc13)⟩)
set_option maxHeartbeats 4000000 in
set_option maxRecDepth 100000 in
theorem m_X6_cellOf {l : Launch} {S0 : State} {A0 : Array Value} {D : va_G} {aC : Nat → ClassId} {ad : Nat → Nat} {G : AH} {σ : XS} (hS : yS l S0 A0 D aC) (hX : atX aC ad G σ) (wire : Int32) : yM l S0 D yX6_cellOf cX6_cellOf 2 (some .int) 11 0 0 [.ref (ad 9), .int wire] G (fun r G1 => r = some (.int (xat σ 22 wire)) ∧ G1 = G) (fun _ _ => False) := by
  refine yM.ofK K_X6_cellOf rfl (by decide) (Nat.le_of_ble_eq_true rfl) ?_
  refine y_blk 1 tq_X6_cellOf (z := (1, [(0, .ref (ad 9)), (1, .int wire)], [.ref (ad 9)])) rfl ?_
  refine y_get hS tq_X6_cellOf (v := .ref (ad 144)) rfl fg_X6_14_X6 (hX.1 9 _ rfl) rfl ?_
  refine y_blk 1 tq_X6_cellOf (z := (5, [(0, .ref (ad 9)), (1, .int wire)], [.int wire, .ref (ad 144)])) rfl ?_
  refine y_callV hS tq_X6_cellOf rfl (As := [.int wire]) rfl cv_X6_38 (hX.num (k := 22) (by decide)) (m_X5_at hS hX (k := 22) (by decide) wire) rfl (by decide) (Nat.le_of_ble_eq_true rfl) (fun r5 Gc5 q5 => ?_) (fun E9 G9 h9 => h9.elim)
  obtain ⟨rfl, eG5⟩ := q5
  have eG5 := eG5.symm
  subst eG5
  refine y_blk 0 tq_X6_cellOf (z := (8, [(0, .ref (ad 9)), (1, .int wire)], [.int (xat σ 22 wire)])) rfl ?_
  exact y_iret tq_X6_cellOf rfl rfl (⟨by first | rfl | (congr 2; (repeat' split) <;> first | rfl | (exfalso; simp only [ylt, yle, yeqI, yl_m1, yl_0, yl_1, yl_2, yl_3, yl_4, yl_5, yl_6, yl_7, yl_8, yl_9, yl_10, yl_11, yl_12, yl_15, yl_16, yl_20, yl_60, yl_64, yl_90, yl_97, yl_99, yl_100, yl_120, yl_239, yl_240] at *; omega)), rfl⟩)
set_option maxHeartbeats 4000000 in
set_option maxRecDepth 100000 in
theorem m_X6_barOf {l : Launch} {S0 : State} {A0 : Array Value} {D : va_G} {aC : Nat → ClassId} {ad : Nat → Nat} {G : AH} {σ : XS} (hS : yS l S0 A0 D aC) (hX : atX aC ad G σ) (wire : Int32) : yM l S0 D yX6_barOf cX6_barOf 2 (some .int) 11 0 0 [.ref (ad 9), .int wire] G (fun r G1 => r = some (.int (xat σ 23 wire)) ∧ G1 = G) (fun _ _ => False) := by
  refine yM.ofK K_X6_barOf rfl (by decide) (Nat.le_of_ble_eq_true rfl) ?_
  refine y_blk 1 tq_X6_barOf (z := (1, [(0, .ref (ad 9)), (1, .int wire)], [.ref (ad 9)])) rfl ?_
  refine y_get hS tq_X6_barOf (v := .ref (ad 146)) rfl fg_X6_18_X6 (hX.1 9 _ rfl) rfl ?_
  refine y_blk 1 tq_X6_barOf (z := (5, [(0, .ref (ad 9)), (1, .int wire)], [.int wire, .ref (ad 146)])) rfl ?_
  refine y_callV hS tq_X6_barOf rfl (As := [.int wire]) rfl cv_X6_38 (hX.num (k := 23) (by decide)) (m_X5_at hS hX (k := 23) (by decide) wire) rfl (by decide) (Nat.le_of_ble_eq_true rfl) (fun r5 Gc5 q5 => ?_) (fun E9 G9 h9 => h9.elim)
  obtain ⟨rfl, eG5⟩ := q5
  have eG5 := eG5.symm
  subst eG5
  refine y_blk 0 tq_X6_barOf (z := (8, [(0, .ref (ad 9)), (1, .int wire)], [.int (xat σ 23 wire)])) rfl ?_
  exact y_iret tq_X6_barOf rfl rfl (⟨by first | rfl | (congr 2; (repeat' split) <;> first | rfl | (exfalso; simp only [ylt, yle, yeqI, yl_m1, yl_0, yl_1, yl_2, yl_3, yl_4, yl_5, yl_6, yl_7, yl_8, yl_9, yl_10, yl_11, yl_12, yl_15, yl_16, yl_20, yl_60, yl_64, yl_90, yl_97, yl_99, yl_100, yl_120, yl_239, yl_240] at *; omega)), rfl⟩)
set_option maxHeartbeats 4000000 in
set_option maxRecDepth 100000 in
theorem m_X6_ownNoise {l : Launch} {S0 : State} {A0 : Array Value} {D : va_G} {aC : Nat → ClassId} {ad : Nat → Nat} {G : AH} {σ : XS} (hS : yS l S0 A0 D aC) (hX : atX aC ad G σ) (wire : Int32) (minute : Int32) : yM l S0 D yX6_ownNoise cX6_ownNoise 3 (some .int) 11 0 0 [.ref (ad 9), .int wire, .int minute] G (fun r G1 => (∃ v : Int32, r = some (.int v)) ∧ G1 = G) (fun _ _ => False) := by
  refine yM.ofK K_X6_ownNoise rfl (by decide) (Nat.le_of_ble_eq_true rfl) ?_
  refine y_blk 5 tq_X6_ownNoise (z := (7, [(0, .ref (ad 9)), (1, .int wire), (2, .int minute)], [.ref (ad 9), .int 7, .int (29 * minute)])) rfl ?_
  refine y_get hS tq_X6_ownNoise (v := .ref (ad 144)) rfl fg_X6_14_X6 (hX.1 9 _ rfl) rfl ?_
  refine y_blk 1 tq_X6_ownNoise (z := (11, [(0, .ref (ad 9)), (1, .int wire), (2, .int minute)], [.int wire, .ref (ad 144), .int 7, .int (29 * minute)])) rfl ?_
  refine y_callV hS tq_X6_ownNoise rfl (As := [.int wire]) rfl cv_X6_38 (hX.num (k := 22) (by decide)) (m_X5_at hS hX (k := 22) (by decide) wire) rfl (by decide) (Nat.le_of_ble_eq_true rfl) (fun r11 Gc11 q11 => ?_) (fun E9 G9 h9 => h9.elim)
  obtain ⟨rfl, eG11⟩ := q11
  have eG11 := eG11.symm
  subst eG11
  refine y_blk 3 tq_X6_ownNoise (z := (18, [(0, .ref (ad 9)), (1, .int wire), (2, .int minute)], [.int 11, .int ((29 * minute) + (7 * (xat σ 22 wire)))])) rfl ?_
  refine y_irem tq_X6_ownNoise rfl (by decide) ?_
  refine y_blk 0 tq_X6_ownNoise (z := (19, [(0, .ref (ad 9)), (1, .int wire), (2, .int minute)], [.int (((29 * minute) + (7 * (xat σ 22 wire))) - ((29 * minute) + (7 * (xat σ 22 wire))) / 11 * 11)])) rfl ?_
  exact y_iret tq_X6_ownNoise rfl rfl (⟨⟨_, rfl⟩, rfl⟩)
set_option maxHeartbeats 4000000 in
set_option maxRecDepth 100000 in
theorem m_X2_count {l : Launch} {S0 : State} {A0 : Array Value} {D : va_G} {aC : Nat → ClassId} {ad : Nat → Nat} {G : AH} {σ : XS} (hS : yS l S0 A0 D aC) (hX : atX aC ad G σ) : yM l S0 D yX2_count cX2_count 1 (some .int) 11 0 0 [.ref (ad 6)] G (fun r G1 => r = some (.int (σ.1 5)) ∧ G1 = G) (fun _ _ => False) := by
  refine yM.ofK K_X2_count rfl (by decide) (Nat.le_of_ble_eq_true rfl) ?_
  refine y_blk 1 tq_X2_count (z := (1, [(0, .ref (ad 6))], [.ref (ad 6)])) rfl ?_
  refine y_get hS tq_X2_count (v := .ref (ad 110)) rfl fg_X2_14_X2 (hX.1 6 _ rfl) rfl ?_
  refine y_blk 0 tq_X2_count (z := (4, [(0, .ref (ad 6))], [.ref (ad 110)])) rfl ?_
  refine y_callV hS tq_X2_count rfl (As := []) rfl cv_X2_32 (hX.num (k := 5) (by decide)) (m_X5_size hS hX (k := 5) (by decide) ) rfl (by decide) (Nat.le_of_ble_eq_true rfl) (fun r4 Gc4 q4 => ?_) (fun E9 G9 h9 => h9.elim)
  obtain ⟨rfl, eG4⟩ := q4
  have eG4 := eG4.symm
  subst eG4
  refine y_blk 0 tq_X2_count (z := (7, [(0, .ref (ad 6))], [.int (σ.1 5)])) rfl ?_
  exact y_iret tq_X2_count rfl rfl (⟨by first | rfl | (congr 2; (repeat' split) <;> first | rfl | (exfalso; simp only [ylt, yle, yeqI, yl_m1, yl_0, yl_1, yl_2, yl_3, yl_4, yl_5, yl_6, yl_7, yl_8, yl_9, yl_10, yl_11, yl_12, yl_15, yl_16, yl_20, yl_60, yl_64, yl_90, yl_97, yl_99, yl_100, yl_120, yl_239, yl_240] at *; omega)), rfl⟩)
set_option maxHeartbeats 4000000 in
set_option maxRecDepth 100000 in
theorem m_X2_isFull {l : Launch} {S0 : State} {A0 : Array Value} {D : va_G} {aC : Nat → ClassId} {ad : Nat → Nat} {G : AH} {σ : XS} (hS : yS l S0 A0 D aC) (hX : atX aC ad G σ) : yM l S0 D yX2_isFull cX2_isFull 1 (some .boolean) 11 0 0 [.ref (ad 6)] G (fun r G1 => r = some (.int (if (xcap 5 : Int) ≤ (σ.1 5).toInt then 1 else 0)) ∧ G1 = G) (fun _ _ => False) := by
  refine yM.ofK K_X2_isFull rfl (by decide) (Nat.le_of_ble_eq_true rfl) ?_
  refine y_blk 1 tq_X2_isFull (z := (1, [(0, .ref (ad 6))], [.ref (ad 6)])) rfl ?_
  refine y_get hS tq_X2_isFull (v := .ref (ad 110)) rfl fg_X2_14_X2 (hX.1 6 _ rfl) rfl ?_
  refine y_blk 0 tq_X2_isFull (z := (4, [(0, .ref (ad 6))], [.ref (ad 110)])) rfl ?_
  refine y_callV hS tq_X2_isFull rfl (As := []) rfl cv_X2_36 (hX.num (k := 5) (by decide)) (m_X5_isFull hS hX (k := 5) (by decide) ) rfl (by decide) (Nat.le_of_ble_eq_true rfl) (fun r4 Gc4 q4 => ?_) (fun E9 G9 h9 => h9.elim)
  obtain ⟨rfl, eG4⟩ := q4
  have eG4 := eG4.symm
  subst eG4
  refine y_blk 0 tq_X2_isFull (z := (7, [(0, .ref (ad 6))], [.int (if (xcap 5 : Int) ≤ (σ.1 5).toInt then 1 else 0)])) rfl ?_
  exact y_zret tq_X2_isFull rfl rfl (y01 (y01i _)) (⟨by first | rfl | (congr 2; (repeat' split) <;> first | rfl | (exfalso; simp only [ylt, yle, yeqI, yl_m1, yl_0, yl_1, yl_2, yl_3, yl_4, yl_5, yl_6, yl_7, yl_8, yl_9, yl_10, yl_11, yl_12, yl_15, yl_16, yl_20, yl_60, yl_64, yl_90, yl_97, yl_99, yl_100, yl_120, yl_239, yl_240] at *; omega)), rfl⟩)
set_option maxHeartbeats 4000000 in
set_option maxRecDepth 100000 in
theorem m_X2_forget {l : Launch} {S0 : State} {A0 : Array Value} {D : va_G} {aC : Nat → ClassId} {ad : Nat → Nat} {G : AH} {σ : XS} (hS : yS l S0 A0 D aC) (hX : atX aC ad G σ) : yM l S0 D yX2_forget cX2_forget 1 none 11 0 0 [.ref (ad 6)] G (fun r G1 => r = none ∧ atX aC ad G1 (xsz (xsz (xsz (xsz σ 5 0) 6 0) 7 0) 8 0) ∧ keepX G G1) (fun _ _ => False) := by
  refine yM.ofK K_X2_forget rfl (by decide) (Nat.le_of_ble_eq_true rfl) ?_
  refine y_blk 1 tq_X2_forget (z := (1, [(0, .ref (ad 6))], [.ref (ad 6)])) rfl ?_
  refine y_get hS tq_X2_forget (v := .ref (ad 110)) rfl fg_X2_14_X2 (hX.1 6 _ rfl) rfl ?_
  refine y_blk 0 tq_X2_forget (z := (4, [(0, .ref (ad 6))], [.ref (ad 110)])) rfl ?_
  refine y_callV hS tq_X2_forget rfl (As := []) rfl cv_X2_40 (hX.num (k := 5) (by decide)) (m_X5_clear hS hX (k := 5) (by decide) ) rfl (by decide) (Nat.le_of_ble_eq_true rfl) (fun r4 Gc4 q4 => ?_) (fun E9 G9 h9 => h9.elim)
  obtain ⟨rfl, hXc4, hFc4⟩ := q4
  refine y_blk 1 tq_X2_forget (z := (8, [(0, .ref (ad 6))], [.ref (ad 6)])) rfl ?_
  refine y_get hS tq_X2_forget (v := .ref (ad 112)) rfl fg_X2_20_X2 (hXc4.1 6 _ rfl) rfl ?_
  refine y_blk 0 tq_X2_forget (z := (11, [(0, .ref (ad 6))], [.ref (ad 112)])) rfl ?_
  refine y_callV hS tq_X2_forget rfl (As := []) rfl cv_X2_40 (hXc4.num (k := 6) (by decide)) (m_X5_clear hS hXc4 (k := 6) (by decide) ) rfl (by decide) (Nat.le_of_ble_eq_true rfl) (fun r11 Gc11 q11 => ?_) (fun E9 G9 h9 => h9.elim)
  obtain ⟨rfl, hXc11, hFc11⟩ := q11
  refine y_blk 1 tq_X2_forget (z := (15, [(0, .ref (ad 6))], [.ref (ad 6)])) rfl ?_
  refine y_get hS tq_X2_forget (v := .ref (ad 114)) rfl fg_X2_23_X2 (hXc11.1 6 _ rfl) rfl ?_
  refine y_blk 0 tq_X2_forget (z := (18, [(0, .ref (ad 6))], [.ref (ad 114)])) rfl ?_
  refine y_callV hS tq_X2_forget rfl (As := []) rfl cv_X2_40 (hXc11.num (k := 7) (by decide)) (m_X5_clear hS hXc11 (k := 7) (by decide) ) rfl (by decide) (Nat.le_of_ble_eq_true rfl) (fun r18 Gc18 q18 => ?_) (fun E9 G9 h9 => h9.elim)
  obtain ⟨rfl, hXc18, hFc18⟩ := q18
  refine y_blk 1 tq_X2_forget (z := (22, [(0, .ref (ad 6))], [.ref (ad 6)])) rfl ?_
  refine y_get hS tq_X2_forget (v := .ref (ad 116)) rfl fg_X2_26_X2 (hXc18.1 6 _ rfl) rfl ?_
  refine y_blk 0 tq_X2_forget (z := (25, [(0, .ref (ad 6))], [.ref (ad 116)])) rfl ?_
  refine y_callV hS tq_X2_forget rfl (As := []) rfl cv_X2_40 (hXc18.num (k := 8) (by decide)) (m_X5_clear hS hXc18 (k := 8) (by decide) ) rfl (by decide) (Nat.le_of_ble_eq_true rfl) (fun r25 Gc25 q25 => ?_) (fun E9 G9 h9 => h9.elim)
  obtain ⟨rfl, hXc25, hFc25⟩ := q25
  refine y_blk 0 tq_X2_forget (z := (28, [(0, .ref (ad 6))], [])) rfl ?_
  exact y_vret tq_X2_forget rfl rfl (⟨rfl, hXc25, ((((keepX.rfl'.trans hFc4).trans hFc11).trans hFc18).trans hFc25)⟩)
set_option maxHeartbeats 4000000 in
set_option maxRecDepth 100000 in
theorem m_X2_lengthen {l : Launch} {S0 : State} {A0 : Array Value} {D : va_G} {aC : Nat → ClassId} {ad : Nat → Nat} {G : AH} {σ : XS} (hS : yS l S0 A0 D aC) (hX : atX aC ad G σ) (guard : Int32) (cell : Int32) : yM l S0 D yX2_lengthen cX2_lengthen 4 (some .int) 11 0 0 [.ref (ad 6), .int guard, .int cell] G (fun r G1 => r = some (.int (xat σ 8 guard + 1)) ∧ atX aC ad G1 (xlen σ guard cell) ∧ keepX G G1) (fun _ _ => False) := by
  refine yM.ofK K_X2_lengthen rfl (by decide) (Nat.le_of_ble_eq_true rfl) ?_
  refine y_blk 1 tq_X2_lengthen (z := (1, [(0, .ref (ad 6)), (1, .int guard), (2, .int cell)], [.ref (ad 6)])) rfl ?_
  refine y_get hS tq_X2_lengthen (v := .ref (ad 116)) rfl fg_X2_26_X2 (hX.1 6 _ rfl) rfl ?_
  refine y_blk 1 tq_X2_lengthen (z := (5, [(0, .ref (ad 6)), (1, .int guard), (2, .int cell)], [.int guard, .ref (ad 116)])) rfl ?_
  refine y_callV hS tq_X2_lengthen rfl (As := [.int guard]) rfl cv_X2_53 (hX.num (k := 8) (by decide)) (m_X5_at hS hX (k := 8) (by decide) guard) rfl (by decide) (Nat.le_of_ble_eq_true rfl) (fun r5 Gc5 q5 => ?_) (fun E9 G9 h9 => h9.elim)
  obtain ⟨rfl, eG5⟩ := q5
  have eG5 := eG5.symm
  subst eG5
  refine y_blk 2 tq_X2_lengthen (z := (10, [(3, .int (xat σ 8 guard)), (0, .ref (ad 6)), (1, .int guard), (2, .int cell)], [.ref (ad 6)])) rfl ?_
  refine y_get hS tq_X2_lengthen (v := .ref (ad 118)) rfl fg_X2_29_X2 (hX.1 6 _ rfl) rfl ?_
  refine y_blk 6 tq_X2_lengthen (z := (20, [(3, .int (xat σ 8 guard)), (0, .ref (ad 6)), (1, .int guard), (2, .int cell)], [.int cell, .int ((guard * 6) + (xat σ 8 guard)), .ref (ad 118)])) rfl ?_
  refine y_callV hS tq_X2_lengthen rfl (As := [.int ((guard * 6) + (xat σ 8 guard)), .int cell]) rfl cv_X2_57 (hX.num (k := 9) (by decide)) (m_X5_put hS hX (k := 9) (by decide) ((guard * 6) + (xat σ 8 guard)) cell (fun q => absurd q (by decide))) rfl (by decide) (Nat.le_of_ble_eq_true rfl) (fun r20 Gc20 q20 => ?_) (fun E9 G9 h9 => h9.elim)
  obtain ⟨rfl, hXc20, hFc20⟩ := q20
  refine y_blk 1 tq_X2_lengthen (z := (24, [(3, .int (xat σ 8 guard)), (0, .ref (ad 6)), (1, .int guard), (2, .int cell)], [.ref (ad 6)])) rfl ?_
  refine y_get hS tq_X2_lengthen (v := .ref (ad 116)) rfl fg_X2_26_X2 (hXc20.1 6 _ rfl) rfl ?_
  refine y_blk 4 tq_X2_lengthen (z := (31, [(3, .int (xat σ 8 guard)), (0, .ref (ad 6)), (1, .int guard), (2, .int cell)], [.int ((xat σ 8 guard) + 1), .int guard, .ref (ad 116)])) rfl ?_
  refine y_callV hS tq_X2_lengthen rfl (As := [.int guard, .int ((xat σ 8 guard) + 1)]) rfl cv_X2_57 (hXc20.num (k := 8) (by decide)) (m_X5_put hS hXc20 (k := 8) (by decide) guard ((xat σ 8 guard) + 1) (fun q => absurd q (by decide))) rfl (by decide) (Nat.le_of_ble_eq_true rfl) (fun r31 Gc31 q31 => ?_) (fun E9 G9 h9 => h9.elim)
  obtain ⟨rfl, hXc31, hFc31⟩ := q31
  refine y_blk 3 tq_X2_lengthen (z := (37, [(3, .int (xat σ 8 guard)), (0, .ref (ad 6)), (1, .int guard), (2, .int cell)], [.int ((xat σ 8 guard) + 1)])) rfl ?_
  exact y_iret tq_X2_lengthen rfl rfl (⟨rfl, hXc31, ((keepX.rfl'.trans hFc20).trans hFc31)⟩)
set_option maxHeartbeats 4000000 in
set_option maxRecDepth 100000 in
theorem m_X2_enlist {l : Launch} {S0 : State} {A0 : Array Value} {D : va_G} {aC : Nat → ClassId} {ad : Nat → Nat} {G : AH} {σ : XS} (hS : yS l S0 A0 D aC) (hX : atX aC ad G σ) (cell : Int32) (from_ : Int32) (to : Int32) (stay : Int32) : yM l S0 D yX2_enlist cX2_enlist 5 (some .int) 12 0 0 [.ref (ad 6), .int cell, .int from_, .int to, .int stay] G (fun r G1 => r = some (.int ((xenl σ cell from_ to stay).1 5 - 1)) ∧ atX aC ad G1 (xenl σ cell from_ to stay) ∧ keepX G G1) (fun _ _ => False) := by
  refine yM.ofK K_X2_enlist rfl (by decide) (Nat.le_of_ble_eq_true rfl) ?_
  refine y_blk 1 tq_X2_enlist (z := (1, [(0, .ref (ad 6)), (1, .int cell), (2, .int from_), (3, .int to), (4, .int stay)], [.ref (ad 6)])) rfl ?_
  refine y_get hS tq_X2_enlist (v := .ref (ad 110)) rfl fg_X2_14_X2 (hX.1 6 _ rfl) rfl ?_
  refine y_blk 1 tq_X2_enlist (z := (5, [(0, .ref (ad 6)), (1, .int cell), (2, .int from_), (3, .int to), (4, .int stay)], [.int from_, .ref (ad 110)])) rfl ?_
  refine y_callV hS tq_X2_enlist rfl (As := [.int from_]) rfl cv_X2_43 (hX.num (k := 5) (by decide)) (m_X5_add hS hX (k := 5) (by decide) from_ (fun q => absurd q (by decide))) rfl (by decide) (Nat.le_of_ble_eq_true rfl) (fun r5 Gc5 q5 => ?_) (fun E9 G9 h9 => h9.elim)
  obtain ⟨rfl, hXc5, hFc5⟩ := q5
  refine y_blk 1 tq_X2_enlist (z := (9, [(0, .ref (ad 6)), (1, .int cell), (2, .int from_), (3, .int to), (4, .int stay)], [.ref (ad 6)])) rfl ?_
  refine y_get hS tq_X2_enlist (v := .ref (ad 112)) rfl fg_X2_20_X2 (hXc5.1 6 _ rfl) rfl ?_
  refine y_blk 1 tq_X2_enlist (z := (13, [(0, .ref (ad 6)), (1, .int cell), (2, .int from_), (3, .int to), (4, .int stay)], [.int to, .ref (ad 112)])) rfl ?_
  refine y_callV hS tq_X2_enlist rfl (As := [.int to]) rfl cv_X2_43 (hXc5.num (k := 6) (by decide)) (m_X5_add hS hXc5 (k := 6) (by decide) to (fun q => absurd q (by decide))) rfl (by decide) (Nat.le_of_ble_eq_true rfl) (fun r13 Gc13 q13 => ?_) (fun E9 G9 h9 => h9.elim)
  obtain ⟨rfl, hXc13, hFc13⟩ := q13
  refine y_blk 1 tq_X2_enlist (z := (17, [(0, .ref (ad 6)), (1, .int cell), (2, .int from_), (3, .int to), (4, .int stay)], [.ref (ad 6)])) rfl ?_
  refine y_get hS tq_X2_enlist (v := .ref (ad 114)) rfl fg_X2_23_X2 (hXc13.1 6 _ rfl) rfl ?_
  refine y_blk 1 tq_X2_enlist (z := (22, [(0, .ref (ad 6)), (1, .int cell), (2, .int from_), (3, .int to), (4, .int stay)], [.int stay, .ref (ad 114)])) rfl ?_
  refine y_callV hS tq_X2_enlist rfl (As := [.int stay]) rfl cv_X2_43 (hXc13.num (k := 7) (by decide)) (m_X5_add hS hXc13 (k := 7) (by decide) stay (fun q => absurd q (by decide))) rfl (by decide) (Nat.le_of_ble_eq_true rfl) (fun r22 Gc22 q22 => ?_) (fun E9 G9 h9 => h9.elim)
  obtain ⟨rfl, hXc22, hFc22⟩ := q22
  refine y_blk 1 tq_X2_enlist (z := (26, [(0, .ref (ad 6)), (1, .int cell), (2, .int from_), (3, .int to), (4, .int stay)], [.ref (ad 6)])) rfl ?_
  refine y_get hS tq_X2_enlist (v := .ref (ad 116)) rfl fg_X2_26_X2 (hXc22.1 6 _ rfl) rfl ?_
  refine y_blk 1 tq_X2_enlist (z := (30, [(0, .ref (ad 6)), (1, .int cell), (2, .int from_), (3, .int to), (4, .int stay)], [.int 0, .ref (ad 116)])) rfl ?_
  refine y_callV hS tq_X2_enlist rfl (As := [.int 0]) rfl cv_X2_43 (hXc22.num (k := 8) (by decide)) (m_X5_add hS hXc22 (k := 8) (by decide) 0 (fun q => absurd q (by decide))) rfl (by decide) (Nat.le_of_ble_eq_true rfl) (fun r30 Gc30 q30 => ?_) (fun E9 G9 h9 => h9.elim)
  obtain ⟨rfl, hXc30, hFc30⟩ := q30
  refine y_blk 2 tq_X2_enlist (z := (35, [(0, .ref (ad 6)), (1, .int cell), (2, .int from_), (3, .int to), (4, .int stay)], [.ref (ad 6), .ref (ad 6)])) rfl ?_
  refine y_callV hS tq_X2_enlist rfl (As := []) rfl cv_X2_46 (hXc30.1 6 _ rfl) (m_X2_count hS hXc30 ) rfl (by decide) (Nat.le_of_ble_eq_true rfl) (fun r35 Gc35 q35 => ?_) (fun E9 G9 h9 => h9.elim)
  obtain ⟨rfl, eG35⟩ := q35
  have eG35 := eG35.symm
  subst eG35
  refine y_blk 3 tq_X2_enlist (z := (41, [(0, .ref (ad 6)), (1, .int cell), (2, .int from_), (3, .int to), (4, .int stay)], [.int cell, .int ((((xadd ((xadd ((xadd ((xadd σ 5 from_)) 6 to)) 7 stay)) 8 0)).1 5) - 1), .ref (ad 6)])) rfl ?_
  refine y_callV hS tq_X2_enlist rfl (As := [.int ((((xadd ((xadd ((xadd ((xadd σ 5 from_)) 6 to)) 7 stay)) 8 0)).1 5) - 1), .int cell]) rfl cv_X2_49 (hXc30.1 6 _ rfl) (m_X2_lengthen hS hXc30 ((((xadd ((xadd ((xadd ((xadd σ 5 from_)) 6 to)) 7 stay)) 8 0)).1 5) - 1) cell) rfl (by decide) (Nat.le_of_ble_eq_true rfl) (fun r41 Gc41 q41 => ?_) (fun E9 G9 h9 => h9.elim)
  obtain ⟨rfl, hXc41, hFc41⟩ := q41
  refine y_blk 2 tq_X2_enlist (z := (46, [(0, .ref (ad 6)), (1, .int cell), (2, .int from_), (3, .int to), (4, .int stay)], [.ref (ad 6)])) rfl ?_
  refine y_callV hS tq_X2_enlist rfl (As := []) rfl cv_X2_46 (hXc41.1 6 _ rfl) (m_X2_count hS hXc41 ) rfl (by decide) (Nat.le_of_ble_eq_true rfl) (fun r46 Gc46 q46 => ?_) (fun E9 G9 h9 => h9.elim)
  obtain ⟨rfl, eG46⟩ := q46
  have eG46 := eG46.symm
  subst eG46
  refine y_blk 2 tq_X2_enlist (z := (51, [(0, .ref (ad 6)), (1, .int cell), (2, .int from_), (3, .int to), (4, .int stay)], [.int ((((xlen ((xadd ((xadd ((xadd ((xadd σ 5 from_)) 6 to)) 7 stay)) 8 0)) ((((xadd ((xadd ((xadd ((xadd σ 5 from_)) 6 to)) 7 stay)) 8 0)).1 5) - 1) cell)).1 5) - 1)])) rfl ?_
  exact y_iret tq_X2_enlist rfl rfl (⟨congrArg (fun z : XS => some (Value.int (z.1 5 - 1))) xenl_e, Eq.mp (congrArg (fun z : XS => atX aC ad Gc41 z) xenl_e) hXc41, (((((keepX.rfl'.trans hFc5).trans hFc13).trans hFc22).trans hFc30).trans hFc41)⟩)
set_option maxHeartbeats 4000000 in
set_option maxRecDepth 100000 in
theorem m_X2_isRoundFull {l : Launch} {S0 : State} {A0 : Array Value} {D : va_G} {aC : Nat → ClassId} {ad : Nat → Nat} {G : AH} {σ : XS} (hS : yS l S0 A0 D aC) (hX : atX aC ad G σ) (guard : Int32) : yM l S0 D yX2_isRoundFull cX2_isRoundFull 2 (some .boolean) 11 0 0 [.ref (ad 6), .int guard] G (fun r G1 => (∃ v : Int32, (v = 0 ∨ v = 1) ∧ r = some (.int v)) ∧ G1 = G) (fun _ _ => False) := by
  refine yM.ofK K_X2_isRoundFull rfl (by decide) (Nat.le_of_ble_eq_true rfl) ?_
  have J18 : ∀ (w18_0 : Int32) (hb_w18_0 : w18_0 = 0 ∨ w18_0 = 1), Y l S0 D K_X2_isRoundFull 11 0 0 (fun r G1 => (∃ v : Int32, (v = 0 ∨ v = 1) ∧ r = some (.int v)) ∧ G1 = G) (fun _ _ => False) 18 [(0, .ref (ad 6)), (1, .int guard)] [.int w18_0] G 0 0 := by
    intro w18_0 hb_w18_0
    exact y_zret tq_X2_isRoundFull rfl rfl (y01 hb_w18_0) (⟨⟨_, hb_w18_0, rfl⟩, rfl⟩)
  refine y_blk 1 tq_X2_isRoundFull (z := (1, [(0, .ref (ad 6)), (1, .int guard)], [.ref (ad 6)])) rfl ?_
  refine y_get hS tq_X2_isRoundFull (v := .ref (ad 116)) rfl fg_X2_26_X2 (hX.1 6 _ rfl) rfl ?_
  refine y_blk 1 tq_X2_isRoundFull (z := (5, [(0, .ref (ad 6)), (1, .int guard)], [.int guard, .ref (ad 116)])) rfl ?_
  refine y_callV hS tq_X2_isRoundFull rfl (As := [.int guard]) rfl cv_X2_53 (hX.num (k := 8) (by decide)) (m_X5_at hS hX (k := 8) (by decide) guard) rfl (by decide) (Nat.le_of_ble_eq_true rfl) (fun r5 Gc5 q5 => ?_) (fun E9 G9 h9 => h9.elim)
  obtain ⟨rfl, eG5⟩ := q5
  have eG5 := eG5.symm
  subst eG5
  refine y_blk 1 tq_X2_isRoundFull (z := (10, [(0, .ref (ad 6)), (1, .int guard)], [.int 6, .int (xat σ 8 guard)])) rfl ?_
  refine y_icmp_lt tq_X2_isRoundFull 17 rfl rfl (fun c10 => ?_) (fun c10 => ?_)
  · skip
    refine y_blk 1 tq_X2_isRoundFull (z := (18, [(0, .ref (ad 6)), (1, .int guard)], [.int 0])) rfl ?_
    exact J18 0 (Or.inl rfl)
  · skip
    refine y_blk 2 tq_X2_isRoundFull (z := (18, [(0, .ref (ad 6)), (1, .int guard)], [.int 1])) rfl ?_
    exact J18 1 (Or.inr rfl)
set_option maxHeartbeats 4000000 in
set_option maxRecDepth 100000 in
theorem m_X2_firstOf {l : Launch} {S0 : State} {A0 : Array Value} {D : va_G} {aC : Nat → ClassId} {ad : Nat → Nat} {G : AH} {σ : XS} (hS : yS l S0 A0 D aC) (hX : atX aC ad G σ) (guard : Int32) : yM l S0 D yX2_firstOf cX2_firstOf 2 (some .int) 11 0 0 [.ref (ad 6), .int guard] G (fun r G1 => r = some (.int (xat σ 5 guard)) ∧ G1 = G) (fun _ _ => False) := by
  refine yM.ofK K_X2_firstOf rfl (by decide) (Nat.le_of_ble_eq_true rfl) ?_
  refine y_blk 1 tq_X2_firstOf (z := (1, [(0, .ref (ad 6)), (1, .int guard)], [.ref (ad 6)])) rfl ?_
  refine y_get hS tq_X2_firstOf (v := .ref (ad 110)) rfl fg_X2_14_X2 (hX.1 6 _ rfl) rfl ?_
  refine y_blk 1 tq_X2_firstOf (z := (5, [(0, .ref (ad 6)), (1, .int guard)], [.int guard, .ref (ad 110)])) rfl ?_
  refine y_callV hS tq_X2_firstOf rfl (As := [.int guard]) rfl cv_X2_53 (hX.num (k := 5) (by decide)) (m_X5_at hS hX (k := 5) (by decide) guard) rfl (by decide) (Nat.le_of_ble_eq_true rfl) (fun r5 Gc5 q5 => ?_) (fun E9 G9 h9 => h9.elim)
  obtain ⟨rfl, eG5⟩ := q5
  have eG5 := eG5.symm
  subst eG5
  refine y_blk 0 tq_X2_firstOf (z := (8, [(0, .ref (ad 6)), (1, .int guard)], [.int (xat σ 5 guard)])) rfl ?_
  exact y_iret tq_X2_firstOf rfl rfl (⟨by first | rfl | (congr 2; (repeat' split) <;> first | rfl | (exfalso; simp only [ylt, yle, yeqI, yl_m1, yl_0, yl_1, yl_2, yl_3, yl_4, yl_5, yl_6, yl_7, yl_8, yl_9, yl_10, yl_11, yl_12, yl_15, yl_16, yl_20, yl_60, yl_64, yl_90, yl_97, yl_99, yl_100, yl_120, yl_239, yl_240] at *; omega)), rfl⟩)
set_option maxHeartbeats 4000000 in
set_option maxRecDepth 100000 in
theorem m_X2_lastOf {l : Launch} {S0 : State} {A0 : Array Value} {D : va_G} {aC : Nat → ClassId} {ad : Nat → Nat} {G : AH} {σ : XS} (hS : yS l S0 A0 D aC) (hX : atX aC ad G σ) (guard : Int32) : yM l S0 D yX2_lastOf cX2_lastOf 2 (some .int) 11 0 0 [.ref (ad 6), .int guard] G (fun r G1 => r = some (.int (xat σ 6 guard)) ∧ G1 = G) (fun _ _ => False) := by
  refine yM.ofK K_X2_lastOf rfl (by decide) (Nat.le_of_ble_eq_true rfl) ?_
  refine y_blk 1 tq_X2_lastOf (z := (1, [(0, .ref (ad 6)), (1, .int guard)], [.ref (ad 6)])) rfl ?_
  refine y_get hS tq_X2_lastOf (v := .ref (ad 112)) rfl fg_X2_20_X2 (hX.1 6 _ rfl) rfl ?_
  refine y_blk 1 tq_X2_lastOf (z := (5, [(0, .ref (ad 6)), (1, .int guard)], [.int guard, .ref (ad 112)])) rfl ?_
  refine y_callV hS tq_X2_lastOf rfl (As := [.int guard]) rfl cv_X2_53 (hX.num (k := 6) (by decide)) (m_X5_at hS hX (k := 6) (by decide) guard) rfl (by decide) (Nat.le_of_ble_eq_true rfl) (fun r5 Gc5 q5 => ?_) (fun E9 G9 h9 => h9.elim)
  obtain ⟨rfl, eG5⟩ := q5
  have eG5 := eG5.symm
  subst eG5
  refine y_blk 0 tq_X2_lastOf (z := (8, [(0, .ref (ad 6)), (1, .int guard)], [.int (xat σ 6 guard)])) rfl ?_
  exact y_iret tq_X2_lastOf rfl rfl (⟨by first | rfl | (congr 2; (repeat' split) <;> first | rfl | (exfalso; simp only [ylt, yle, yeqI, yl_m1, yl_0, yl_1, yl_2, yl_3, yl_4, yl_5, yl_6, yl_7, yl_8, yl_9, yl_10, yl_11, yl_12, yl_15, yl_16, yl_20, yl_60, yl_64, yl_90, yl_97, yl_99, yl_100, yl_120, yl_239, yl_240] at *; omega)), rfl⟩)
set_option maxHeartbeats 4000000 in
set_option maxRecDepth 100000 in
theorem m_X2_stayOf {l : Launch} {S0 : State} {A0 : Array Value} {D : va_G} {aC : Nat → ClassId} {ad : Nat → Nat} {G : AH} {σ : XS} (hS : yS l S0 A0 D aC) (hX : atX aC ad G σ) (guard : Int32) : yM l S0 D yX2_stayOf cX2_stayOf 2 (some .int) 11 0 0 [.ref (ad 6), .int guard] G (fun r G1 => r = some (.int (xat σ 7 guard)) ∧ G1 = G) (fun _ _ => False) := by
  refine yM.ofK K_X2_stayOf rfl (by decide) (Nat.le_of_ble_eq_true rfl) ?_
  refine y_blk 1 tq_X2_stayOf (z := (1, [(0, .ref (ad 6)), (1, .int guard)], [.ref (ad 6)])) rfl ?_
  refine y_get hS tq_X2_stayOf (v := .ref (ad 114)) rfl fg_X2_23_X2 (hX.1 6 _ rfl) rfl ?_
  refine y_blk 1 tq_X2_stayOf (z := (5, [(0, .ref (ad 6)), (1, .int guard)], [.int guard, .ref (ad 114)])) rfl ?_
  refine y_callV hS tq_X2_stayOf rfl (As := [.int guard]) rfl cv_X2_53 (hX.num (k := 7) (by decide)) (m_X5_at hS hX (k := 7) (by decide) guard) rfl (by decide) (Nat.le_of_ble_eq_true rfl) (fun r5 Gc5 q5 => ?_) (fun E9 G9 h9 => h9.elim)
  obtain ⟨rfl, eG5⟩ := q5
  have eG5 := eG5.symm
  subst eG5
  refine y_blk 0 tq_X2_stayOf (z := (8, [(0, .ref (ad 6)), (1, .int guard)], [.int (xat σ 7 guard)])) rfl ?_
  exact y_iret tq_X2_stayOf rfl rfl (⟨by first | rfl | (congr 2; (repeat' split) <;> first | rfl | (exfalso; simp only [ylt, yle, yeqI, yl_m1, yl_0, yl_1, yl_2, yl_3, yl_4, yl_5, yl_6, yl_7, yl_8, yl_9, yl_10, yl_11, yl_12, yl_15, yl_16, yl_20, yl_60, yl_64, yl_90, yl_97, yl_99, yl_100, yl_120, yl_239, yl_240] at *; omega)), rfl⟩)
set_option maxHeartbeats 4000000 in
set_option maxRecDepth 100000 in
theorem m_X2_lengthOf {l : Launch} {S0 : State} {A0 : Array Value} {D : va_G} {aC : Nat → ClassId} {ad : Nat → Nat} {G : AH} {σ : XS} (hS : yS l S0 A0 D aC) (hX : atX aC ad G σ) (guard : Int32) : yM l S0 D yX2_lengthOf cX2_lengthOf 2 (some .int) 11 0 0 [.ref (ad 6), .int guard] G (fun r G1 => r = some (.int (xat σ 8 guard)) ∧ G1 = G) (fun _ _ => False) := by
  refine yM.ofK K_X2_lengthOf rfl (by decide) (Nat.le_of_ble_eq_true rfl) ?_
  refine y_blk 1 tq_X2_lengthOf (z := (1, [(0, .ref (ad 6)), (1, .int guard)], [.ref (ad 6)])) rfl ?_
  refine y_get hS tq_X2_lengthOf (v := .ref (ad 116)) rfl fg_X2_26_X2 (hX.1 6 _ rfl) rfl ?_
  refine y_blk 1 tq_X2_lengthOf (z := (5, [(0, .ref (ad 6)), (1, .int guard)], [.int guard, .ref (ad 116)])) rfl ?_
  refine y_callV hS tq_X2_lengthOf rfl (As := [.int guard]) rfl cv_X2_53 (hX.num (k := 8) (by decide)) (m_X5_at hS hX (k := 8) (by decide) guard) rfl (by decide) (Nat.le_of_ble_eq_true rfl) (fun r5 Gc5 q5 => ?_) (fun E9 G9 h9 => h9.elim)
  obtain ⟨rfl, eG5⟩ := q5
  have eG5 := eG5.symm
  subst eG5
  refine y_blk 0 tq_X2_lengthOf (z := (8, [(0, .ref (ad 6)), (1, .int guard)], [.int (xat σ 8 guard)])) rfl ?_
  exact y_iret tq_X2_lengthOf rfl rfl (⟨by first | rfl | (congr 2; (repeat' split) <;> first | rfl | (exfalso; simp only [ylt, yle, yeqI, yl_m1, yl_0, yl_1, yl_2, yl_3, yl_4, yl_5, yl_6, yl_7, yl_8, yl_9, yl_10, yl_11, yl_12, yl_15, yl_16, yl_20, yl_60, yl_64, yl_90, yl_97, yl_99, yl_100, yl_120, yl_239, yl_240] at *; omega)), rfl⟩)
set_option maxHeartbeats 4000000 in
set_option maxRecDepth 100000 in
theorem m_X2_standAt {l : Launch} {S0 : State} {A0 : Array Value} {D : va_G} {aC : Nat → ClassId} {ad : Nat → Nat} {G : AH} {σ : XS} (hS : yS l S0 A0 D aC) (hX : atX aC ad G σ) (guard : Int32) (minute : Int32) : yM l S0 D yX2_standAt cX2_standAt 6 (some .int) 11 0 0 [.ref (ad 6), .int guard, .int minute] G (fun r G1 => (∃ v : Int32, r = some (.int v)) ∧ G1 = G) (fun _ _ => False) := by
  refine yM.ofK K_X2_standAt rfl (by decide) (Nat.le_of_ble_eq_true rfl) ?_
  have J59 : ∀ (v59_3 : Int32) (v59_4 : Int32) (v59_5 : Int32), Y l S0 D K_X2_standAt 11 0 0 (fun r G1 => (∃ v : Int32, r = some (.int v)) ∧ G1 = G) (fun _ _ => False) 59 [(0, .ref (ad 6)), (1, .int guard), (2, .int minute), (3, .int v59_3), (4, .int v59_4), (5, .int v59_5)] [] G 0 0 := by
    intro v59_3 v59_4 v59_5
    refine y_blk 1 tq_X2_standAt (z := (60, [(0, .ref (ad 6)), (1, .int guard), (2, .int minute), (3, .int v59_3), (4, .int v59_4), (5, .int v59_5)], [.int (-1)])) rfl ?_
    exact y_iret tq_X2_standAt rfl rfl (⟨⟨_, rfl⟩, rfl⟩)
  refine y_blk 1 tq_X2_standAt (z := (1, [(0, .ref (ad 6)), (1, .int guard), (2, .int minute)], [.ref (ad 6)])) rfl ?_
  refine y_get hS tq_X2_standAt (v := .ref (ad 114)) rfl fg_X2_23_X2 (hX.1 6 _ rfl) rfl ?_
  refine y_blk 1 tq_X2_standAt (z := (5, [(0, .ref (ad 6)), (1, .int guard), (2, .int minute)], [.int guard, .ref (ad 114)])) rfl ?_
  refine y_callV hS tq_X2_standAt rfl (As := [.int guard]) rfl cv_X2_53 (hX.num (k := 7) (by decide)) (m_X5_at hS hX (k := 7) (by decide) guard) rfl (by decide) (Nat.le_of_ble_eq_true rfl) (fun r5 Gc5 q5 => ?_) (fun E9 G9 h9 => h9.elim)
  obtain ⟨rfl, eG5⟩ := q5
  have eG5 := eG5.symm
  subst eG5
  refine y_blk 2 tq_X2_standAt (z := (10, [(3, .int (xat σ 7 guard)), (0, .ref (ad 6)), (1, .int guard), (2, .int minute)], [.ref (ad 6)])) rfl ?_
  refine y_get hS tq_X2_standAt (v := .ref (ad 116)) rfl fg_X2_26_X2 (hX.1 6 _ rfl) rfl ?_
  refine y_blk 1 tq_X2_standAt (z := (14, [(3, .int (xat σ 7 guard)), (0, .ref (ad 6)), (1, .int guard), (2, .int minute)], [.int guard, .ref (ad 116)])) rfl ?_
  refine y_callV hS tq_X2_standAt rfl (As := [.int guard]) rfl cv_X2_53 (hX.num (k := 8) (by decide)) (m_X5_at hS hX (k := 8) (by decide) guard) rfl (by decide) (Nat.le_of_ble_eq_true rfl) (fun r14 Gc14 q14 => ?_) (fun E9 G9 h9 => h9.elim)
  obtain ⟨rfl, eG14⟩ := q14
  have eG14 := eG14.symm
  subst eG14
  refine y_blk 3 tq_X2_standAt (z := (21, [(4, .int (xat σ 8 guard)), (3, .int (xat σ 7 guard)), (0, .ref (ad 6)), (1, .int guard), (2, .int minute)], [.ref (ad 6), .int minute])) rfl ?_
  refine y_get hS tq_X2_standAt (v := .ref (ad 110)) rfl fg_X2_14_X2 (hX.1 6 _ rfl) rfl ?_
  refine y_blk 1 tq_X2_standAt (z := (25, [(4, .int (xat σ 8 guard)), (3, .int (xat σ 7 guard)), (0, .ref (ad 6)), (1, .int guard), (2, .int minute)], [.int guard, .ref (ad 110), .int minute])) rfl ?_
  refine y_callV hS tq_X2_standAt rfl (As := [.int guard]) rfl cv_X2_53 (hX.num (k := 5) (by decide)) (m_X5_at hS hX (k := 5) (by decide) guard) rfl (by decide) (Nat.le_of_ble_eq_true rfl) (fun r25 Gc25 q25 => ?_) (fun E9 G9 h9 => h9.elim)
  obtain ⟨rfl, eG25⟩ := q25
  have eG25 := eG25.symm
  subst eG25
  refine y_blk 3 tq_X2_standAt (z := (33, [(5, .int (minute - (xat σ 5 guard))), (4, .int (xat σ 8 guard)), (3, .int (xat σ 7 guard)), (0, .ref (ad 6)), (1, .int guard), (2, .int minute)], [.int (minute - (xat σ 5 guard))])) rfl ?_
  refine y_if_lt tq_X2_standAt 59 rfl rfl (fun c33 => ?_) (fun c33 => ?_)
  · skip
    refine y_blk 0 tq_X2_standAt (z := (59, [(5, .int (minute - (xat σ 5 guard))), (4, .int (xat σ 8 guard)), (3, .int (xat σ 7 guard)), (0, .ref (ad 6)), (1, .int guard), (2, .int minute)], [])) rfl ?_
    refine y_pick (L2 := [(0, .ref (ad 6)), (1, .int guard), (2, .int minute), (3, .int (xat σ 7 guard)), (4, .int (xat σ 8 guard)), (5, .int (minute - (xat σ 5 guard)))]) [3, 4, 5, 2, 1, 0] rfl ?_
    exact J59 (xat σ 7 guard) (xat σ 8 guard) (minute - (xat σ 5 guard))
  · skip
    refine y_blk 2 tq_X2_standAt (z := (38, [(5, .int (minute - (xat σ 5 guard))), (4, .int (xat σ 8 guard)), (3, .int (xat σ 7 guard)), (0, .ref (ad 6)), (1, .int guard), (2, .int minute)], [.ref (ad 6), .int minute])) rfl ?_
    refine y_get hS tq_X2_standAt (v := .ref (ad 112)) rfl fg_X2_20_X2 (hX.1 6 _ rfl) rfl ?_
    refine y_blk 1 tq_X2_standAt (z := (42, [(5, .int (minute - (xat σ 5 guard))), (4, .int (xat σ 8 guard)), (3, .int (xat σ 7 guard)), (0, .ref (ad 6)), (1, .int guard), (2, .int minute)], [.int guard, .ref (ad 112), .int minute])) rfl ?_
    refine y_callV hS tq_X2_standAt rfl (As := [.int guard]) rfl cv_X2_53 (hX.num (k := 6) (by decide)) (m_X5_at hS hX (k := 6) (by decide) guard) rfl (by decide) (Nat.le_of_ble_eq_true rfl) (fun r42 Gc42 q42 => ?_) (fun E9 G9 h9 => h9.elim)
    obtain ⟨rfl, eG42⟩ := q42
    have eG42 := eG42.symm
    subst eG42
    refine y_blk 0 tq_X2_standAt (z := (45, [(5, .int (minute - (xat σ 5 guard))), (4, .int (xat σ 8 guard)), (3, .int (xat σ 7 guard)), (0, .ref (ad 6)), (1, .int guard), (2, .int minute)], [.int (xat σ 6 guard), .int minute])) rfl ?_
    refine y_icmp_gt tq_X2_standAt 59 rfl rfl (fun c45 => ?_) (fun c45 => ?_)
    · skip
      refine y_blk 0 tq_X2_standAt (z := (59, [(5, .int (minute - (xat σ 5 guard))), (4, .int (xat σ 8 guard)), (3, .int (xat σ 7 guard)), (0, .ref (ad 6)), (1, .int guard), (2, .int minute)], [])) rfl ?_
      refine y_pick (L2 := [(0, .ref (ad 6)), (1, .int guard), (2, .int minute), (3, .int (xat σ 7 guard)), (4, .int (xat σ 8 guard)), (5, .int (minute - (xat σ 5 guard)))]) [3, 4, 5, 2, 1, 0] rfl ?_
      exact J59 (xat σ 7 guard) (xat σ 8 guard) (minute - (xat σ 5 guard))
    · skip
      refine y_blk 2 tq_X2_standAt (z := (50, [(5, .int (minute - (xat σ 5 guard))), (4, .int (xat σ 8 guard)), (3, .int (xat σ 7 guard)), (0, .ref (ad 6)), (1, .int guard), (2, .int minute)], [.int 1, .int (xat σ 7 guard)])) rfl ?_
      refine y_icmp_lt tq_X2_standAt 59 rfl rfl (fun c50 => ?_) (fun c50 => ?_)
      · skip
        refine y_blk 0 tq_X2_standAt (z := (59, [(5, .int (minute - (xat σ 5 guard))), (4, .int (xat σ 8 guard)), (3, .int (xat σ 7 guard)), (0, .ref (ad 6)), (1, .int guard), (2, .int minute)], [])) rfl ?_
        refine y_pick (L2 := [(0, .ref (ad 6)), (1, .int guard), (2, .int minute), (3, .int (xat σ 7 guard)), (4, .int (xat σ 8 guard)), (5, .int (minute - (xat σ 5 guard)))]) [3, 4, 5, 2, 1, 0] rfl ?_
        exact J59 (xat σ 7 guard) (xat σ 8 guard) (minute - (xat σ 5 guard))
      · skip
        refine y_blk 2 tq_X2_standAt (z := (56, [(5, .int (minute - (xat σ 5 guard))), (4, .int (xat σ 8 guard)), (3, .int (xat σ 7 guard)), (0, .ref (ad 6)), (1, .int guard), (2, .int minute)], [.int 1, .int (xat σ 8 guard)])) rfl ?_
        refine y_icmp_ge tq_X2_standAt 61 rfl rfl (fun c56 => ?_) (fun c56 => ?_)
        · skip
          refine y_blk 1 tq_X2_standAt (z := (62, [(5, .int (minute - (xat σ 5 guard))), (4, .int (xat σ 8 guard)), (3, .int (xat σ 7 guard)), (0, .ref (ad 6)), (1, .int guard), (2, .int minute)], [.ref (ad 6)])) rfl ?_
          refine y_get hS tq_X2_standAt (v := .ref (ad 118)) rfl fg_X2_29_X2 (hX.1 6 _ rfl) rfl ?_
          refine y_blk 5 tq_X2_standAt (z := (72, [(5, .int (minute - (xat σ 5 guard))), (4, .int (xat σ 8 guard)), (3, .int (xat σ 7 guard)), (0, .ref (ad 6)), (1, .int guard), (2, .int minute)], [.int (xat σ 7 guard), .int (minute - (xat σ 5 guard)), .int (guard * 6), .ref (ad 118)])) rfl ?_
          refine y_idiv tq_X2_standAt rfl (by intro q; rw [q] at c50; exact c50 (by decide)) ?_
          refine y_blk 1 tq_X2_standAt (z := (75, [(5, .int (minute - (xat σ 5 guard))), (4, .int (xat σ 8 guard)), (3, .int (xat σ 7 guard)), (0, .ref (ad 6)), (1, .int guard), (2, .int minute)], [.int (xat σ 8 guard), .int ((minute - (xat σ 5 guard)) / (xat σ 7 guard)), .int (guard * 6), .ref (ad 118)])) rfl ?_
          refine y_irem tq_X2_standAt rfl (by intro q; rw [q] at c56; exact absurd c56 (by decide)) ?_
          refine y_blk 1 tq_X2_standAt (z := (77, [(5, .int (minute - (xat σ 5 guard))), (4, .int (xat σ 8 guard)), (3, .int (xat σ 7 guard)), (0, .ref (ad 6)), (1, .int guard), (2, .int minute)], [.int ((guard * 6) + (((minute - (xat σ 5 guard)) / (xat σ 7 guard)) - ((minute - (xat σ 5 guard)) / (xat σ 7 guard)) / (xat σ 8 guard) * (xat σ 8 guard))), .ref (ad 118)])) rfl ?_
          refine y_callV hS tq_X2_standAt rfl (As := [.int ((guard * 6) + (((minute - (xat σ 5 guard)) / (xat σ 7 guard)) - ((minute - (xat σ 5 guard)) / (xat σ 7 guard)) / (xat σ 8 guard) * (xat σ 8 guard)))]) rfl cv_X2_53 (hX.num (k := 9) (by decide)) (m_X5_at hS hX (k := 9) (by decide) ((guard * 6) + (((minute - (xat σ 5 guard)) / (xat σ 7 guard)) - ((minute - (xat σ 5 guard)) / (xat σ 7 guard)) / (xat σ 8 guard) * (xat σ 8 guard)))) rfl (by decide) (Nat.le_of_ble_eq_true rfl) (fun r77 Gc77 q77 => ?_) (fun E9 G9 h9 => h9.elim)
          obtain ⟨rfl, eG77⟩ := q77
          have eG77 := eG77.symm
          subst eG77
          refine y_blk 0 tq_X2_standAt (z := (80, [(5, .int (minute - (xat σ 5 guard))), (4, .int (xat σ 8 guard)), (3, .int (xat σ 7 guard)), (0, .ref (ad 6)), (1, .int guard), (2, .int minute)], [.int (xat σ 9 ((guard * 6) + (((minute - (xat σ 5 guard)) / (xat σ 7 guard)) - ((minute - (xat σ 5 guard)) / (xat σ 7 guard)) / (xat σ 8 guard) * (xat σ 8 guard))))])) rfl ?_
          exact y_iret tq_X2_standAt rfl rfl (⟨⟨_, rfl⟩, rfl⟩)
        · skip
          refine y_blk 0 tq_X2_standAt (z := (59, [(5, .int (minute - (xat σ 5 guard))), (4, .int (xat σ 8 guard)), (3, .int (xat σ 7 guard)), (0, .ref (ad 6)), (1, .int guard), (2, .int minute)], [])) rfl ?_
          refine y_pick (L2 := [(0, .ref (ad 6)), (1, .int guard), (2, .int minute), (3, .int (xat σ 7 guard)), (4, .int (xat σ 8 guard)), (5, .int (minute - (xat σ 5 guard)))]) [3, 4, 5, 2, 1, 0] rfl ?_
          exact J59 (xat σ 7 guard) (xat σ 8 guard) (minute - (xat σ 5 guard))
set_option maxHeartbeats 4000000 in
set_option maxRecDepth 100000 in
theorem m_X2_standAt_ok {l : Launch} {S0 : State} {A0 : Array Value} {D : va_G} {aC : Nat → ClassId} {ad : Nat → Nat} {G : AH} {σ : XS} (hS : yS l S0 A0 D aC) (hX : atX aC ad G σ) (guard : Int32) (minute : Int32) : yM l S0 D yX2_standAt cX2_standAt 6 (some .int) 11 0 0 [.ref (ad 6), .int guard, .int minute] G (fun r G1 => r = some (.int (xsta σ guard minute)) ∧ G1 = G) (fun _ _ => False) := by
  refine yM.ofK K_X2_standAt rfl (by decide) (Nat.le_of_ble_eq_true rfl) ?_
  refine y_blk 1 tq_X2_standAt (z := (1, [(0, .ref (ad 6)), (1, .int guard), (2, .int minute)], [.ref (ad 6)])) rfl ?_
  refine y_get hS tq_X2_standAt (v := .ref (ad 114)) rfl fg_X2_23_X2 (hX.1 6 _ rfl) rfl ?_
  refine y_blk 1 tq_X2_standAt (z := (5, [(0, .ref (ad 6)), (1, .int guard), (2, .int minute)], [.int guard, .ref (ad 114)])) rfl ?_
  refine y_callV hS tq_X2_standAt rfl (As := [.int guard]) rfl cv_X2_53 (hX.num (k := 7) (by decide)) (m_X5_at hS hX (k := 7) (by decide) guard) rfl (by decide) (Nat.le_of_ble_eq_true rfl) (fun r5 Gc5 q5 => ?_) (fun E9 G9 h9 => h9.elim)
  obtain ⟨rfl, eG5⟩ := q5
  have eG5 := eG5.symm
  subst eG5
  refine y_blk 2 tq_X2_standAt (z := (10, [(3, .int (xat σ 7 guard)), (0, .ref (ad 6)), (1, .int guard), (2, .int minute)], [.ref (ad 6)])) rfl ?_
  refine y_get hS tq_X2_standAt (v := .ref (ad 116)) rfl fg_X2_26_X2 (hX.1 6 _ rfl) rfl ?_
  refine y_blk 1 tq_X2_standAt (z := (14, [(3, .int (xat σ 7 guard)), (0, .ref (ad 6)), (1, .int guard), (2, .int minute)], [.int guard, .ref (ad 116)])) rfl ?_
  refine y_callV hS tq_X2_standAt rfl (As := [.int guard]) rfl cv_X2_53 (hX.num (k := 8) (by decide)) (m_X5_at hS hX (k := 8) (by decide) guard) rfl (by decide) (Nat.le_of_ble_eq_true rfl) (fun r14 Gc14 q14 => ?_) (fun E9 G9 h9 => h9.elim)
  obtain ⟨rfl, eG14⟩ := q14
  have eG14 := eG14.symm
  subst eG14
  refine y_blk 3 tq_X2_standAt (z := (21, [(4, .int (xat σ 8 guard)), (3, .int (xat σ 7 guard)), (0, .ref (ad 6)), (1, .int guard), (2, .int minute)], [.ref (ad 6), .int minute])) rfl ?_
  refine y_get hS tq_X2_standAt (v := .ref (ad 110)) rfl fg_X2_14_X2 (hX.1 6 _ rfl) rfl ?_
  refine y_blk 1 tq_X2_standAt (z := (25, [(4, .int (xat σ 8 guard)), (3, .int (xat σ 7 guard)), (0, .ref (ad 6)), (1, .int guard), (2, .int minute)], [.int guard, .ref (ad 110), .int minute])) rfl ?_
  refine y_callV hS tq_X2_standAt rfl (As := [.int guard]) rfl cv_X2_53 (hX.num (k := 5) (by decide)) (m_X5_at hS hX (k := 5) (by decide) guard) rfl (by decide) (Nat.le_of_ble_eq_true rfl) (fun r25 Gc25 q25 => ?_) (fun E9 G9 h9 => h9.elim)
  obtain ⟨rfl, eG25⟩ := q25
  have eG25 := eG25.symm
  subst eG25
  refine y_blk 3 tq_X2_standAt (z := (33, [(5, .int (minute - (xat σ 5 guard))), (4, .int (xat σ 8 guard)), (3, .int (xat σ 7 guard)), (0, .ref (ad 6)), (1, .int guard), (2, .int minute)], [.int (minute - (xat σ 5 guard))])) rfl ?_
  refine y_if_lt tq_X2_standAt 59 rfl rfl (fun c33 => ?_) (fun c33 => ?_)
  · skip
    refine y_blk 1 tq_X2_standAt (z := (60, [(5, .int (minute - (xat σ 5 guard))), (4, .int (xat σ 8 guard)), (3, .int (xat σ 7 guard)), (0, .ref (ad 6)), (1, .int guard), (2, .int minute)], [.int (-1)])) rfl ?_
    exact y_iret tq_X2_standAt rfl rfl (⟨congrArg (fun z => some (Value.int z)) (by unfold xsta; first | rw [if_pos c33] | rw [if_neg c33, if_pos c45] | rw [if_neg c33, if_neg c45, if_pos c50] | rw [if_neg c33, if_neg c45, if_neg c50, if_pos c56] | rw [if_neg c33, if_neg c45, if_neg c50, if_neg c56]), rfl⟩)
  · skip
    refine y_blk 2 tq_X2_standAt (z := (38, [(5, .int (minute - (xat σ 5 guard))), (4, .int (xat σ 8 guard)), (3, .int (xat σ 7 guard)), (0, .ref (ad 6)), (1, .int guard), (2, .int minute)], [.ref (ad 6), .int minute])) rfl ?_
    refine y_get hS tq_X2_standAt (v := .ref (ad 112)) rfl fg_X2_20_X2 (hX.1 6 _ rfl) rfl ?_
    refine y_blk 1 tq_X2_standAt (z := (42, [(5, .int (minute - (xat σ 5 guard))), (4, .int (xat σ 8 guard)), (3, .int (xat σ 7 guard)), (0, .ref (ad 6)), (1, .int guard), (2, .int minute)], [.int guard, .ref (ad 112), .int minute])) rfl ?_
    refine y_callV hS tq_X2_standAt rfl (As := [.int guard]) rfl cv_X2_53 (hX.num (k := 6) (by decide)) (m_X5_at hS hX (k := 6) (by decide) guard) rfl (by decide) (Nat.le_of_ble_eq_true rfl) (fun r42 Gc42 q42 => ?_) (fun E9 G9 h9 => h9.elim)
    obtain ⟨rfl, eG42⟩ := q42
    have eG42 := eG42.symm
    subst eG42
    refine y_blk 0 tq_X2_standAt (z := (45, [(5, .int (minute - (xat σ 5 guard))), (4, .int (xat σ 8 guard)), (3, .int (xat σ 7 guard)), (0, .ref (ad 6)), (1, .int guard), (2, .int minute)], [.int (xat σ 6 guard), .int minute])) rfl ?_
    refine y_icmp_gt tq_X2_standAt 59 rfl rfl (fun c45 => ?_) (fun c45 => ?_)
    · skip
      refine y_blk 1 tq_X2_standAt (z := (60, [(5, .int (minute - (xat σ 5 guard))), (4, .int (xat σ 8 guard)), (3, .int (xat σ 7 guard)), (0, .ref (ad 6)), (1, .int guard), (2, .int minute)], [.int (-1)])) rfl ?_
      exact y_iret tq_X2_standAt rfl rfl (⟨congrArg (fun z => some (Value.int z)) (by unfold xsta; first | rw [if_pos c33] | rw [if_neg c33, if_pos c45] | rw [if_neg c33, if_neg c45, if_pos c50] | rw [if_neg c33, if_neg c45, if_neg c50, if_pos c56] | rw [if_neg c33, if_neg c45, if_neg c50, if_neg c56]), rfl⟩)
    · skip
      refine y_blk 2 tq_X2_standAt (z := (50, [(5, .int (minute - (xat σ 5 guard))), (4, .int (xat σ 8 guard)), (3, .int (xat σ 7 guard)), (0, .ref (ad 6)), (1, .int guard), (2, .int minute)], [.int 1, .int (xat σ 7 guard)])) rfl ?_
      refine y_icmp_lt tq_X2_standAt 59 rfl rfl (fun c50 => ?_) (fun c50 => ?_)
      · skip
        refine y_blk 1 tq_X2_standAt (z := (60, [(5, .int (minute - (xat σ 5 guard))), (4, .int (xat σ 8 guard)), (3, .int (xat σ 7 guard)), (0, .ref (ad 6)), (1, .int guard), (2, .int minute)], [.int (-1)])) rfl ?_
        exact y_iret tq_X2_standAt rfl rfl (⟨congrArg (fun z => some (Value.int z)) (by unfold xsta; first | rw [if_pos c33] | rw [if_neg c33, if_pos c45] | rw [if_neg c33, if_neg c45, if_pos c50] | rw [if_neg c33, if_neg c45, if_neg c50, if_pos c56] | rw [if_neg c33, if_neg c45, if_neg c50, if_neg c56]), rfl⟩)
      · skip
        refine y_blk 2 tq_X2_standAt (z := (56, [(5, .int (minute - (xat σ 5 guard))), (4, .int (xat σ 8 guard)), (3, .int (xat σ 7 guard)), (0, .ref (ad 6)), (1, .int guard), (2, .int minute)], [.int 1, .int (xat σ 8 guard)])) rfl ?_
        refine y_icmp_ge tq_X2_standAt 61 rfl rfl (fun c56 => ?_) (fun c56 => ?_)
        · skip
          refine y_blk 1 tq_X2_standAt (z := (62, [(5, .int (minute - (xat σ 5 guard))), (4, .int (xat σ 8 guard)), (3, .int (xat σ 7 guard)), (0, .ref (ad 6)), (1, .int guard), (2, .int minute)], [.ref (ad 6)])) rfl ?_
          refine y_get hS tq_X2_standAt (v := .ref (ad 118)) rfl fg_X2_29_X2 (hX.1 6 _ rfl) rfl ?_
          refine y_blk 5 tq_X2_standAt (z := (72, [(5, .int (minute - (xat σ 5 guard))), (4, .int (xat σ 8 guard)), (3, .int (xat σ 7 guard)), (0, .ref (ad 6)), (1, .int guard), (2, .int minute)], [.int (xat σ 7 guard), .int (minute - (xat σ 5 guard)), .int (guard * 6), .ref (ad 118)])) rfl ?_
          refine y_idiv tq_X2_standAt rfl (by intro q; rw [q] at c50; exact c50 (by decide)) ?_
          refine y_blk 1 tq_X2_standAt (z := (75, [(5, .int (minute - (xat σ 5 guard))), (4, .int (xat σ 8 guard)), (3, .int (xat σ 7 guard)), (0, .ref (ad 6)), (1, .int guard), (2, .int minute)], [.int (xat σ 8 guard), .int ((minute - (xat σ 5 guard)) / (xat σ 7 guard)), .int (guard * 6), .ref (ad 118)])) rfl ?_
          refine y_irem tq_X2_standAt rfl (by intro q; rw [q] at c56; exact absurd c56 (by decide)) ?_
          refine y_blk 1 tq_X2_standAt (z := (77, [(5, .int (minute - (xat σ 5 guard))), (4, .int (xat σ 8 guard)), (3, .int (xat σ 7 guard)), (0, .ref (ad 6)), (1, .int guard), (2, .int minute)], [.int ((guard * 6) + (((minute - (xat σ 5 guard)) / (xat σ 7 guard)) - ((minute - (xat σ 5 guard)) / (xat σ 7 guard)) / (xat σ 8 guard) * (xat σ 8 guard))), .ref (ad 118)])) rfl ?_
          refine y_callV hS tq_X2_standAt rfl (As := [.int ((guard * 6) + (((minute - (xat σ 5 guard)) / (xat σ 7 guard)) - ((minute - (xat σ 5 guard)) / (xat σ 7 guard)) / (xat σ 8 guard) * (xat σ 8 guard)))]) rfl cv_X2_53 (hX.num (k := 9) (by decide)) (m_X5_at hS hX (k := 9) (by decide) ((guard * 6) + (((minute - (xat σ 5 guard)) / (xat σ 7 guard)) - ((minute - (xat σ 5 guard)) / (xat σ 7 guard)) / (xat σ 8 guard) * (xat σ 8 guard)))) rfl (by decide) (Nat.le_of_ble_eq_true rfl) (fun r77 Gc77 q77 => ?_) (fun E9 G9 h9 => h9.elim)
          obtain ⟨rfl, eG77⟩ := q77
          have eG77 := eG77.symm
          subst eG77
          refine y_blk 0 tq_X2_standAt (z := (80, [(5, .int (minute - (xat σ 5 guard))), (4, .int (xat σ 8 guard)), (3, .int (xat σ 7 guard)), (0, .ref (ad 6)), (1, .int guard), (2, .int minute)], [.int (xat σ 9 ((guard * 6) + (((minute - (xat σ 5 guard)) / (xat σ 7 guard)) - ((minute - (xat σ 5 guard)) / (xat σ 7 guard)) / (xat σ 8 guard) * (xat σ 8 guard))))])) rfl ?_
          exact y_iret tq_X2_standAt rfl rfl (⟨congrArg (fun z => some (Value.int z)) (by unfold xsta; first | rw [if_pos c33] | rw [if_neg c33, if_pos c45] | rw [if_neg c33, if_neg c45, if_pos c50] | rw [if_neg c33, if_neg c45, if_neg c50, if_pos c56] | rw [if_neg c33, if_neg c45, if_neg c50, if_neg c56]), rfl⟩)
        · skip
          refine y_blk 1 tq_X2_standAt (z := (60, [(5, .int (minute - (xat σ 5 guard))), (4, .int (xat σ 8 guard)), (3, .int (xat σ 7 guard)), (0, .ref (ad 6)), (1, .int guard), (2, .int minute)], [.int (-1)])) rfl ?_
          exact y_iret tq_X2_standAt rfl rfl (⟨congrArg (fun z => some (Value.int z)) (by unfold xsta; first | rw [if_pos c33] | rw [if_neg c33, if_pos c45] | rw [if_neg c33, if_neg c45, if_pos c50] | rw [if_neg c33, if_neg c45, if_neg c50, if_pos c56] | rw [if_neg c33, if_neg c45, if_neg c50, if_neg c56]), rfl⟩)
set_option maxHeartbeats 4000000 in
set_option maxRecDepth 100000 in
theorem m_X2_isOnDuty {l : Launch} {S0 : State} {A0 : Array Value} {D : va_G} {aC : Nat → ClassId} {ad : Nat → Nat} {G : AH} {σ : XS} (hS : yS l S0 A0 D aC) (hX : atX aC ad G σ) (guard : Int32) (minute : Int32) : yM l S0 D yX2_isOnDuty cX2_isOnDuty 3 (some .boolean) 12 0 0 [.ref (ad 6), .int guard, .int minute] G (fun r G1 => (∃ v : Int32, (v = 0 ∨ v = 1) ∧ r = some (.int v)) ∧ G1 = G) (fun _ _ => False) := by
  refine yM.ofK K_X2_isOnDuty rfl (by decide) (Nat.le_of_ble_eq_true rfl) ?_
  have J15 : ∀ (w15_0 : Int32) (hb_w15_0 : w15_0 = 0 ∨ w15_0 = 1), Y l S0 D K_X2_isOnDuty 12 0 0 (fun r G1 => (∃ v : Int32, (v = 0 ∨ v = 1) ∧ r = some (.int v)) ∧ G1 = G) (fun _ _ => False) 15 [(0, .ref (ad 6)), (1, .int guard), (2, .int minute)] [.int w15_0] G 0 0 := by
    intro w15_0 hb_w15_0
    exact y_zret tq_X2_isOnDuty rfl rfl (y01 hb_w15_0) (⟨⟨_, hb_w15_0, rfl⟩, rfl⟩)
  refine y_blk 3 tq_X2_isOnDuty (z := (3, [(0, .ref (ad 6)), (1, .int guard), (2, .int minute)], [.int minute, .int guard, .ref (ad 6)])) rfl ?_
  refine y_callV hS tq_X2_isOnDuty rfl (As := [.int guard, .int minute]) rfl cv_X2_61 (hX.1 6 _ rfl) (m_X2_standAt hS hX guard minute) rfl (by decide) (Nat.le_of_ble_eq_true rfl) (fun r3 Gc3 q3 => ?_) (fun E9 G9 h9 => h9.elim)
  obtain ⟨⟨x3, rfl⟩, eG3⟩ := q3
  have eG3 := eG3.symm
  subst eG3
  refine y_blk 1 tq_X2_isOnDuty (z := (7, [(0, .ref (ad 6)), (1, .int guard), (2, .int minute)], [.int (-1), .int x3])) rfl ?_
  refine y_icmp_eq tq_X2_isOnDuty 14 rfl rfl (fun c7 => ?_) (fun c7 => ?_)
  · skip
    refine y_blk 1 tq_X2_isOnDuty (z := (15, [(0, .ref (ad 6)), (1, .int guard), (2, .int minute)], [.int 0])) rfl ?_
    exact J15 0 (Or.inl rfl)
  · skip
    refine y_blk 2 tq_X2_isOnDuty (z := (15, [(0, .ref (ad 6)), (1, .int guard), (2, .int minute)], [.int 1])) rfl ?_
    exact J15 1 (Or.inr rfl)
set_option maxHeartbeats 4000000 in
set_option maxRecDepth 100000 in
theorem m_X2_isTired {l : Launch} {S0 : State} {A0 : Array Value} {D : va_G} {aC : Nat → ClassId} {ad : Nat → Nat} {G : AH} {σ : XS} (hS : yS l S0 A0 D aC) (hX : atX aC ad G σ) (guard : Int32) (minute : Int32) : yM l S0 D yX2_isTired cX2_isTired 3 (some .boolean) 11 0 0 [.ref (ad 6), .int guard, .int minute] G (fun r G1 => (∃ v : Int32, (v = 0 ∨ v = 1) ∧ r = some (.int v)) ∧ G1 = G) (fun _ _ => False) := by
  refine yM.ofK K_X2_isTired rfl (by decide) (Nat.le_of_ble_eq_true rfl) ?_
  have J20 : ∀ (w20_0 : Int32) (hb_w20_0 : w20_0 = 0 ∨ w20_0 = 1), Y l S0 D K_X2_isTired 11 0 0 (fun r G1 => (∃ v : Int32, (v = 0 ∨ v = 1) ∧ r = some (.int v)) ∧ G1 = G) (fun _ _ => False) 20 [(0, .ref (ad 6)), (1, .int guard), (2, .int minute)] [.int w20_0] G 0 0 := by
    intro w20_0 hb_w20_0
    exact y_zret tq_X2_isTired rfl rfl (y01 hb_w20_0) (⟨⟨_, hb_w20_0, rfl⟩, rfl⟩)
  refine y_blk 2 tq_X2_isTired (z := (2, [(0, .ref (ad 6)), (1, .int guard), (2, .int minute)], [.ref (ad 6), .int minute])) rfl ?_
  refine y_get hS tq_X2_isTired (v := .ref (ad 110)) rfl fg_X2_14_X2 (hX.1 6 _ rfl) rfl ?_
  refine y_blk 1 tq_X2_isTired (z := (6, [(0, .ref (ad 6)), (1, .int guard), (2, .int minute)], [.int guard, .ref (ad 110), .int minute])) rfl ?_
  refine y_callV hS tq_X2_isTired rfl (As := [.int guard]) rfl cv_X2_53 (hX.num (k := 5) (by decide)) (m_X5_at hS hX (k := 5) (by decide) guard) rfl (by decide) (Nat.le_of_ble_eq_true rfl) (fun r6 Gc6 q6 => ?_) (fun E9 G9 h9 => h9.elim)
  obtain ⟨rfl, eG6⟩ := q6
  have eG6 := eG6.symm
  subst eG6
  refine y_blk 2 tq_X2_isTired (z := (12, [(0, .ref (ad 6)), (1, .int guard), (2, .int minute)], [.int 90, .int (minute - (xat σ 5 guard))])) rfl ?_
  refine y_icmp_lt tq_X2_isTired 19 rfl rfl (fun c12 => ?_) (fun c12 => ?_)
  · skip
    refine y_blk 1 tq_X2_isTired (z := (20, [(0, .ref (ad 6)), (1, .int guard), (2, .int minute)], [.int 0])) rfl ?_
    exact J20 0 (Or.inl rfl)
  · skip
    refine y_blk 2 tq_X2_isTired (z := (20, [(0, .ref (ad 6)), (1, .int guard), (2, .int minute)], [.int 1])) rfl ?_
    exact J20 1 (Or.inr rfl)
set_option maxHeartbeats 4000000 in
set_option maxRecDepth 100000 in
theorem m_X2_tiredMinutesOf {l : Launch} {S0 : State} {A0 : Array Value} {D : va_G} {aC : Nat → ClassId} {ad : Nat → Nat} {G : AH} {σ : XS} (hS : yS l S0 A0 D aC) (hX : atX aC ad G σ) (guard : Int32) : yM l S0 D yX2_tiredMinutesOf cX2_tiredMinutesOf 3 (some .int) 11 0 0 [.ref (ad 6), .int guard] G (fun r G1 => (∃ v : Int32, r = some (.int v)) ∧ G1 = G) (fun _ _ => False) := by
  refine yM.ofK K_X2_tiredMinutesOf rfl (by decide) (Nat.le_of_ble_eq_true rfl) ?_
  have J32 : ∀ (v32_2 : Int32) (w32_0 : Int32), Y l S0 D K_X2_tiredMinutesOf 11 0 0 (fun r G1 => (∃ v : Int32, r = some (.int v)) ∧ G1 = G) (fun _ _ => False) 32 [(0, .ref (ad 6)), (1, .int guard), (2, .int v32_2)] [.int w32_0] G 0 0 := by
    intro v32_2 w32_0
    exact y_iret tq_X2_tiredMinutesOf rfl rfl (⟨⟨_, rfl⟩, rfl⟩)
  refine y_blk 1 tq_X2_tiredMinutesOf (z := (1, [(0, .ref (ad 6)), (1, .int guard)], [.ref (ad 6)])) rfl ?_
  refine y_get hS tq_X2_tiredMinutesOf (v := .ref (ad 112)) rfl fg_X2_20_X2 (hX.1 6 _ rfl) rfl ?_
  refine y_blk 1 tq_X2_tiredMinutesOf (z := (5, [(0, .ref (ad 6)), (1, .int guard)], [.int guard, .ref (ad 112)])) rfl ?_
  refine y_callV hS tq_X2_tiredMinutesOf rfl (As := [.int guard]) rfl cv_X2_53 (hX.num (k := 6) (by decide)) (m_X5_at hS hX (k := 6) (by decide) guard) rfl (by decide) (Nat.le_of_ble_eq_true rfl) (fun r5 Gc5 q5 => ?_) (fun E9 G9 h9 => h9.elim)
  obtain ⟨rfl, eG5⟩ := q5
  have eG5 := eG5.symm
  subst eG5
  refine y_blk 1 tq_X2_tiredMinutesOf (z := (9, [(0, .ref (ad 6)), (1, .int guard)], [.ref (ad 6), .int (xat σ 6 guard)])) rfl ?_
  refine y_get hS tq_X2_tiredMinutesOf (v := .ref (ad 110)) rfl fg_X2_14_X2 (hX.1 6 _ rfl) rfl ?_
  refine y_blk 1 tq_X2_tiredMinutesOf (z := (13, [(0, .ref (ad 6)), (1, .int guard)], [.int guard, .ref (ad 110), .int (xat σ 6 guard)])) rfl ?_
  refine y_callV hS tq_X2_tiredMinutesOf rfl (As := [.int guard]) rfl cv_X2_53 (hX.num (k := 5) (by decide)) (m_X5_at hS hX (k := 5) (by decide) guard) rfl (by decide) (Nat.le_of_ble_eq_true rfl) (fun r13 Gc13 q13 => ?_) (fun E9 G9 h9 => h9.elim)
  obtain ⟨rfl, eG13⟩ := q13
  have eG13 := eG13.symm
  subst eG13
  refine y_blk 7 tq_X2_tiredMinutesOf (z := (24, [(2, .int ((((xat σ 6 guard) - (xat σ 5 guard)) - 90) + 1)), (0, .ref (ad 6)), (1, .int guard)], [.int ((((xat σ 6 guard) - (xat σ 5 guard)) - 90) + 1)])) rfl ?_
  refine y_if_ge tq_X2_tiredMinutesOf 31 rfl rfl (fun c24 => ?_) (fun c24 => ?_)
  · skip
    refine y_blk 1 tq_X2_tiredMinutesOf (z := (32, [(2, .int ((((xat σ 6 guard) - (xat σ 5 guard)) - 90) + 1)), (0, .ref (ad 6)), (1, .int guard)], [.int ((((xat σ 6 guard) - (xat σ 5 guard)) - 90) + 1)])) rfl ?_
    refine y_pick (L2 := [(0, .ref (ad 6)), (1, .int guard), (2, .int ((((xat σ 6 guard) - (xat σ 5 guard)) - 90) + 1))]) [1, 2, 0] rfl ?_
    exact J32 ((((xat σ 6 guard) - (xat σ 5 guard)) - 90) + 1) ((((xat σ 6 guard) - (xat σ 5 guard)) - 90) + 1)
  · skip
    refine y_blk 2 tq_X2_tiredMinutesOf (z := (32, [(2, .int ((((xat σ 6 guard) - (xat σ 5 guard)) - 90) + 1)), (0, .ref (ad 6)), (1, .int guard)], [.int 0])) rfl ?_
    refine y_pick (L2 := [(0, .ref (ad 6)), (1, .int guard), (2, .int ((((xat σ 6 guard) - (xat σ 5 guard)) - 90) + 1))]) [1, 2, 0] rfl ?_
    exact J32 ((((xat σ 6 guard) - (xat σ 5 guard)) - 90) + 1) 0
set_option maxHeartbeats 4000000 in
set_option maxRecDepth 100000 in
theorem m_X2_countOnDuty {l : Launch} {S0 : State} {A0 : Array Value} {D : va_G} {aC : Nat → ClassId} {ad : Nat → Nat} {G : AH} {σ : XS} (hS : yS l S0 A0 D aC) (hX : atX aC ad G σ) (minute : Int32) : yM l S0 D yX2_countOnDuty cX2_countOnDuty 4 (some .int) 13 0 0 [.ref (ad 6), .int minute] G (fun r G1 => (∃ v : Int32, r = some (.int v)) ∧ G1 = G) (fun _ _ => False) := by
  refine yM.ofK K_X2_countOnDuty rfl (by decide) (Nat.le_of_ble_eq_true rfl) ?_
  have J4 : ∀ (n4 : Nat) (v4_2 : Int32) (v4_3 : Int32), ((σ.1 5 : Int32).toInt - v4_3.toInt).toNat = n4 → Y l S0 D K_X2_countOnDuty 13 0 0 (fun r G1 => (∃ v : Int32, r = some (.int v)) ∧ G1 = G) (fun _ _ => False) 4 [(0, .ref (ad 6)), (1, .int minute), (2, .int v4_2), (3, .int v4_3)] [] G 0 0 := by
    intro n4
    induction n4 using Nat.strongRecOn with
    | _ n4 ih4 =>
    intro v4_2 v4_3 hn4
    subst hn4
    have J27 : ∀ (w27_0 : Int32) (hb_w27_0 : w27_0 = 0 ∨ w27_0 = 1) (c9 : ¬ (σ.1 5 : Int32) ≤ v4_3), Y l S0 D K_X2_countOnDuty 13 0 0 (fun r G1 => (∃ v : Int32, r = some (.int v)) ∧ G1 = G) (fun _ _ => False) 27 [(0, .ref (ad 6)), (1, .int minute), (2, .int v4_2), (3, .int v4_3)] [.int w27_0, .int v4_2] G 0 0 := by
      intro w27_0 hb_w27_0 c9
      refine y_blk 4 tq_X2_countOnDuty (z := (4, [(3, .int (v4_3 + 1)), (2, .int (v4_2 + w27_0)), (0, .ref (ad 6)), (1, .int minute)], [])) rfl ?_
      refine y_pick (L2 := [(0, .ref (ad 6)), (1, .int minute), (2, .int (v4_2 + w27_0)), (3, .int (v4_3 + 1))]) [2, 3, 1, 0] rfl ?_
      exact ih4 _ (by exact ydec c9) (v4_2 + w27_0) (v4_3 + 1) rfl
    refine y_blk 2 tq_X2_countOnDuty (z := (6, [(0, .ref (ad 6)), (1, .int minute), (2, .int v4_2), (3, .int v4_3)], [.ref (ad 6), .int v4_3])) rfl ?_
    refine y_callV hS tq_X2_countOnDuty rfl (As := []) rfl cv_X2_46 (hX.1 6 _ rfl) (m_X2_count hS hX ) rfl (by decide) (Nat.le_of_ble_eq_true rfl) (fun r6 Gc6 q6 => ?_) (fun E9 G9 h9 => h9.elim)
    obtain ⟨rfl, eG6⟩ := q6
    have eG6 := eG6.symm
    subst eG6
    refine y_blk 0 tq_X2_countOnDuty (z := (9, [(0, .ref (ad 6)), (1, .int minute), (2, .int v4_2), (3, .int v4_3)], [.int (σ.1 5), .int v4_3])) rfl ?_
    refine y_icmp_ge tq_X2_countOnDuty 35 rfl rfl (fun c9 => ?_) (fun c9 => ?_)
    · skip
      refine y_blk 1 tq_X2_countOnDuty (z := (36, [(0, .ref (ad 6)), (1, .int minute), (2, .int v4_2), (3, .int v4_3)], [.int v4_2])) rfl ?_
      exact y_iret tq_X2_countOnDuty rfl rfl (⟨⟨_, rfl⟩, rfl⟩)
    · skip
      refine y_blk 4 tq_X2_countOnDuty (z := (16, [(0, .ref (ad 6)), (1, .int minute), (2, .int v4_2), (3, .int v4_3)], [.int minute, .int v4_3, .ref (ad 6), .int v4_2])) rfl ?_
      refine y_callV hS tq_X2_countOnDuty rfl (As := [.int v4_3, .int minute]) rfl cv_X2_64 (hX.1 6 _ rfl) (m_X2_isOnDuty hS hX v4_3 minute) rfl (by decide) (Nat.le_of_ble_eq_true rfl) (fun r16 Gc16 q16 => ?_) (fun E9 G9 h9 => h9.elim)
      obtain ⟨⟨x16, hb_x16, rfl⟩, eG16⟩ := q16
      have eG16 := eG16.symm
      subst eG16
      refine y_blk 0 tq_X2_countOnDuty (z := (19, [(0, .ref (ad 6)), (1, .int minute), (2, .int v4_2), (3, .int v4_3)], [.int x16, .int v4_2])) rfl ?_
      refine y_if_eq tq_X2_countOnDuty 26 rfl rfl (fun c19 => ?_) (fun c19 => ?_)
      · skip
        refine y_blk 1 tq_X2_countOnDuty (z := (27, [(0, .ref (ad 6)), (1, .int minute), (2, .int v4_2), (3, .int v4_3)], [.int 0, .int v4_2])) rfl ?_
        exact J27 0 (Or.inl rfl) (by exact c9)
      · skip
        refine y_blk 2 tq_X2_countOnDuty (z := (27, [(0, .ref (ad 6)), (1, .int minute), (2, .int v4_2), (3, .int v4_3)], [.int 1, .int v4_2])) rfl ?_
        exact J27 1 (Or.inr rfl) (by exact c9)
  refine y_blk 4 tq_X2_countOnDuty (z := (4, [(3, .int 0), (2, .int 0), (0, .ref (ad 6)), (1, .int minute)], [])) rfl ?_
  refine y_pick (L2 := [(0, .ref (ad 6)), (1, .int minute), (2, .int 0), (3, .int 0)]) [2, 3, 1, 0] rfl ?_
  exact J4 _ 0 0 rfl
set_option maxHeartbeats 4000000 in
set_option maxRecDepth 100000 in
theorem m_X2_countTired {l : Launch} {S0 : State} {A0 : Array Value} {D : va_G} {aC : Nat → ClassId} {ad : Nat → Nat} {G : AH} {σ : XS} (hS : yS l S0 A0 D aC) (hX : atX aC ad G σ) (minute : Int32) : yM l S0 D yX2_countTired cX2_countTired 4 (some .int) 13 0 0 [.ref (ad 6), .int minute] G (fun r G1 => (∃ v : Int32, r = some (.int v)) ∧ G1 = G) (fun _ _ => False) := by
  refine yM.ofK K_X2_countTired rfl (by decide) (Nat.le_of_ble_eq_true rfl) ?_
  have J4 : ∀ (n4 : Nat) (v4_2 : Int32) (v4_3 : Int32), ((σ.1 5 : Int32).toInt - v4_3.toInt).toNat = n4 → Y l S0 D K_X2_countTired 13 0 0 (fun r G1 => (∃ v : Int32, r = some (.int v)) ∧ G1 = G) (fun _ _ => False) 4 [(0, .ref (ad 6)), (1, .int minute), (2, .int v4_2), (3, .int v4_3)] [] G 0 0 := by
    intro n4
    induction n4 using Nat.strongRecOn with
    | _ n4 ih4 =>
    intro v4_2 v4_3 hn4
    subst hn4
    have J36 : ∀ (w36_0 : Int32) (hb_w36_0 : w36_0 = 0 ∨ w36_0 = 1) (c9 : ¬ (σ.1 5 : Int32) ≤ v4_3), Y l S0 D K_X2_countTired 13 0 0 (fun r G1 => (∃ v : Int32, r = some (.int v)) ∧ G1 = G) (fun _ _ => False) 36 [(0, .ref (ad 6)), (1, .int minute), (2, .int v4_2), (3, .int v4_3)] [.int w36_0, .int v4_2] G 0 0 := by
      intro w36_0 hb_w36_0 c9
      refine y_blk 4 tq_X2_countTired (z := (4, [(3, .int (v4_3 + 1)), (2, .int (v4_2 + w36_0)), (0, .ref (ad 6)), (1, .int minute)], [])) rfl ?_
      refine y_pick (L2 := [(0, .ref (ad 6)), (1, .int minute), (2, .int (v4_2 + w36_0)), (3, .int (v4_3 + 1))]) [2, 3, 1, 0] rfl ?_
      exact ih4 _ (by exact ydec c9) (v4_2 + w36_0) (v4_3 + 1) rfl
    have J35 : ∀ (c9 : ¬ (σ.1 5 : Int32) ≤ v4_3), Y l S0 D K_X2_countTired 13 0 0 (fun r G1 => (∃ v : Int32, r = some (.int v)) ∧ G1 = G) (fun _ _ => False) 35 [(0, .ref (ad 6)), (1, .int minute), (2, .int v4_2), (3, .int v4_3)] [.int v4_2] G 0 0 := by
      intro c9
      refine y_blk 1 tq_X2_countTired (z := (36, [(0, .ref (ad 6)), (1, .int minute), (2, .int v4_2), (3, .int v4_3)], [.int 0, .int v4_2])) rfl ?_
      exact J36 0 (Or.inl rfl) (by exact c9)
    refine y_blk 2 tq_X2_countTired (z := (6, [(0, .ref (ad 6)), (1, .int minute), (2, .int v4_2), (3, .int v4_3)], [.ref (ad 6), .int v4_3])) rfl ?_
    refine y_callV hS tq_X2_countTired rfl (As := []) rfl cv_X2_46 (hX.1 6 _ rfl) (m_X2_count hS hX ) rfl (by decide) (Nat.le_of_ble_eq_true rfl) (fun r6 Gc6 q6 => ?_) (fun E9 G9 h9 => h9.elim)
    obtain ⟨rfl, eG6⟩ := q6
    have eG6 := eG6.symm
    subst eG6
    refine y_blk 0 tq_X2_countTired (z := (9, [(0, .ref (ad 6)), (1, .int minute), (2, .int v4_2), (3, .int v4_3)], [.int (σ.1 5), .int v4_3])) rfl ?_
    refine y_icmp_ge tq_X2_countTired 44 rfl rfl (fun c9 => ?_) (fun c9 => ?_)
    · skip
      refine y_blk 1 tq_X2_countTired (z := (45, [(0, .ref (ad 6)), (1, .int minute), (2, .int v4_2), (3, .int v4_3)], [.int v4_2])) rfl ?_
      exact y_iret tq_X2_countTired rfl rfl (⟨⟨_, rfl⟩, rfl⟩)
    · skip
      refine y_blk 4 tq_X2_countTired (z := (16, [(0, .ref (ad 6)), (1, .int minute), (2, .int v4_2), (3, .int v4_3)], [.int minute, .int v4_3, .ref (ad 6), .int v4_2])) rfl ?_
      refine y_callV hS tq_X2_countTired rfl (As := [.int v4_3, .int minute]) rfl cv_X2_64 (hX.1 6 _ rfl) (m_X2_isOnDuty hS hX v4_3 minute) rfl (by decide) (Nat.le_of_ble_eq_true rfl) (fun r16 Gc16 q16 => ?_) (fun E9 G9 h9 => h9.elim)
      obtain ⟨⟨x16, hb_x16, rfl⟩, eG16⟩ := q16
      have eG16 := eG16.symm
      subst eG16
      refine y_blk 0 tq_X2_countTired (z := (19, [(0, .ref (ad 6)), (1, .int minute), (2, .int v4_2), (3, .int v4_3)], [.int x16, .int v4_2])) rfl ?_
      refine y_if_eq tq_X2_countTired 35 rfl rfl (fun c19 => ?_) (fun c19 => ?_)
      · skip
        refine y_blk 0 tq_X2_countTired (z := (35, [(0, .ref (ad 6)), (1, .int minute), (2, .int v4_2), (3, .int v4_3)], [.int v4_2])) rfl ?_
        exact J35 (by exact c9)
      · skip
        refine y_blk 3 tq_X2_countTired (z := (25, [(0, .ref (ad 6)), (1, .int minute), (2, .int v4_2), (3, .int v4_3)], [.int minute, .int v4_3, .ref (ad 6), .int v4_2])) rfl ?_
        refine y_callV hS tq_X2_countTired rfl (As := [.int v4_3, .int minute]) rfl cv_X2_68 (hX.1 6 _ rfl) (m_X2_isTired hS hX v4_3 minute) rfl (by decide) (Nat.le_of_ble_eq_true rfl) (fun r25 Gc25 q25 => ?_) (fun E9 G9 h9 => h9.elim)
        obtain ⟨⟨x25, hb_x25, rfl⟩, eG25⟩ := q25
        have eG25 := eG25.symm
        subst eG25
        refine y_blk 0 tq_X2_countTired (z := (28, [(0, .ref (ad 6)), (1, .int minute), (2, .int v4_2), (3, .int v4_3)], [.int x25, .int v4_2])) rfl ?_
        refine y_if_eq tq_X2_countTired 35 rfl rfl (fun c28 => ?_) (fun c28 => ?_)
        · skip
          refine y_blk 0 tq_X2_countTired (z := (35, [(0, .ref (ad 6)), (1, .int minute), (2, .int v4_2), (3, .int v4_3)], [.int v4_2])) rfl ?_
          exact J35 (by exact c9)
        · skip
          refine y_blk 2 tq_X2_countTired (z := (36, [(0, .ref (ad 6)), (1, .int minute), (2, .int v4_2), (3, .int v4_3)], [.int 1, .int v4_2])) rfl ?_
          exact J36 1 (Or.inr rfl) (by exact c9)
  refine y_blk 4 tq_X2_countTired (z := (4, [(3, .int 0), (2, .int 0), (0, .ref (ad 6)), (1, .int minute)], [])) rfl ?_
  refine y_pick (L2 := [(0, .ref (ad 6)), (1, .int minute), (2, .int 0), (3, .int 0)]) [2, 3, 1, 0] rfl ?_
  exact J4 _ 0 0 rfl
set_option maxHeartbeats 4000000 in
set_option maxRecDepth 100000 in
theorem m_X2_setOn {l : Launch} {S0 : State} {A0 : Array Value} {D : va_G} {aC : Nat → ClassId} {ad : Nat → Nat} {G : AH} {σ : XS} (hS : yS l S0 A0 D aC) (hX : atX aC ad G σ) (cell : Int32) (minute : Int32) : yM l S0 D yX2_setOn cX2_setOn 5 (some .int) 12 0 0 [.ref (ad 6), .int cell, .int minute] G (fun r G1 => (∃ v : Int32, r = some (.int v)) ∧ G1 = G) (fun _ _ => False) := by
  refine yM.ofK K_X2_setOn rfl (by decide) (Nat.le_of_ble_eq_true rfl) ?_
  have J5 : ∀ (n5 : Nat) (v5_3 : Int32) (v5_4 : Int32), ((σ.1 5 : Int32).toInt - v5_4.toInt).toNat = n5 → Y l S0 D K_X2_setOn 12 0 0 (fun r G1 => (∃ v : Int32, r = some (.int v)) ∧ G1 = G) (fun _ _ => False) 5 [(0, .ref (ad 6)), (1, .int cell), (2, .int minute), (3, .int v5_3), (4, .int v5_4)] [] G 0 0 := by
    intro n5
    induction n5 using Nat.strongRecOn with
    | _ n5 ih5 =>
    intro v5_3 v5_4 hn5
    subst hn5
    have J34 : ∀ (w34_0 : Int32) (c11 : ¬ (σ.1 5 : Int32) ≤ v5_4), Y l S0 D K_X2_setOn 12 0 0 (fun r G1 => (∃ v : Int32, r = some (.int v)) ∧ G1 = G) (fun _ _ => False) 34 [(0, .ref (ad 6)), (1, .int cell), (2, .int minute), (3, .int v5_3), (4, .int v5_4)] [.int w34_0, .int v5_3] G 0 0 := by
      intro w34_0 c11
      refine y_blk 4 tq_X2_setOn (z := (5, [(4, .int (v5_4 + 1)), (3, .int (v5_3 ||| w34_0)), (0, .ref (ad 6)), (1, .int cell), (2, .int minute)], [])) rfl ?_
      refine y_pick (L2 := [(0, .ref (ad 6)), (1, .int cell), (2, .int minute), (3, .int (v5_3 ||| w34_0)), (4, .int (v5_4 + 1))]) [2, 3, 4, 1, 0] rfl ?_
      exact ih5 _ (by exact ydec c11) (v5_3 ||| w34_0) (v5_4 + 1) rfl
    refine y_blk 2 tq_X2_setOn (z := (8, [(0, .ref (ad 6)), (1, .int cell), (2, .int minute), (3, .int v5_3), (4, .int v5_4)], [.ref (ad 6), .int v5_4])) rfl ?_
    refine y_callV hS tq_X2_setOn rfl (As := []) rfl cv_X2_46 (hX.1 6 _ rfl) (m_X2_count hS hX ) rfl (by decide) (Nat.le_of_ble_eq_true rfl) (fun r8 Gc8 q8 => ?_) (fun E9 G9 h9 => h9.elim)
    obtain ⟨rfl, eG8⟩ := q8
    have eG8 := eG8.symm
    subst eG8
    refine y_blk 0 tq_X2_setOn (z := (11, [(0, .ref (ad 6)), (1, .int cell), (2, .int minute), (3, .int v5_3), (4, .int v5_4)], [.int (σ.1 5), .int v5_4])) rfl ?_
    refine y_icmp_ge tq_X2_setOn 42 rfl rfl (fun c11 => ?_) (fun c11 => ?_)
    · skip
      refine y_blk 1 tq_X2_setOn (z := (43, [(0, .ref (ad 6)), (1, .int cell), (2, .int minute), (3, .int v5_3), (4, .int v5_4)], [.int v5_3])) rfl ?_
      exact y_iret tq_X2_setOn rfl rfl (⟨⟨_, rfl⟩, rfl⟩)
    · skip
      refine y_blk 4 tq_X2_setOn (z := (19, [(0, .ref (ad 6)), (1, .int cell), (2, .int minute), (3, .int v5_3), (4, .int v5_4)], [.int minute, .int v5_4, .ref (ad 6), .int v5_3])) rfl ?_
      refine y_callV hS tq_X2_setOn rfl (As := [.int v5_4, .int minute]) rfl cv_X2_61 (hX.1 6 _ rfl) (m_X2_standAt hS hX v5_4 minute) rfl (by decide) (Nat.le_of_ble_eq_true rfl) (fun r19 Gc19 q19 => ?_) (fun E9 G9 h9 => h9.elim)
      obtain ⟨⟨x19, rfl⟩, eG19⟩ := q19
      have eG19 := eG19.symm
      subst eG19
      refine y_blk 1 tq_X2_setOn (z := (23, [(0, .ref (ad 6)), (1, .int cell), (2, .int minute), (3, .int v5_3), (4, .int v5_4)], [.int cell, .int x19, .int v5_3])) rfl ?_
      refine y_icmp_ne tq_X2_setOn 33 rfl rfl (fun c23 => ?_) (fun c23 => ?_)
      · skip
        refine y_blk 1 tq_X2_setOn (z := (34, [(0, .ref (ad 6)), (1, .int cell), (2, .int minute), (3, .int v5_3), (4, .int v5_4)], [.int 0, .int v5_3])) rfl ?_
        exact J34 0 (by exact c11)
      · skip
        refine y_blk 4 tq_X2_setOn (z := (34, [(0, .ref (ad 6)), (1, .int cell), (2, .int minute), (3, .int v5_3), (4, .int v5_4)], [.int (1 <<< (v5_4 &&& 31)), .int v5_3])) rfl ?_
        exact J34 (1 <<< (v5_4 &&& 31)) (by exact c11)
  refine y_blk 4 tq_X2_setOn (z := (5, [(4, .int 0), (3, .int 0), (0, .ref (ad 6)), (1, .int cell), (2, .int minute)], [])) rfl ?_
  refine y_pick (L2 := [(0, .ref (ad 6)), (1, .int cell), (2, .int minute), (3, .int 0), (4, .int 0)]) [2, 3, 4, 1, 0] rfl ?_
  exact J5 _ 0 0 rfl
set_option maxHeartbeats 4000000 in
set_option maxRecDepth 100000 in
theorem m_X2_firstOn {l : Launch} {S0 : State} {A0 : Array Value} {D : va_G} {aC : Nat → ClassId} {ad : Nat → Nat} {G : AH} {σ : XS} (hS : yS l S0 A0 D aC) (hX : atX aC ad G σ) (cell : Int32) (minute : Int32) : yM l S0 D yX2_firstOn cX2_firstOn 4 (some .int) 12 0 0 [.ref (ad 6), .int cell, .int minute] G (fun r G1 => (∃ v : Int32, r = some (.int v)) ∧ G1 = G) (fun _ _ => False) := by
  refine yM.ofK K_X2_firstOn rfl (by decide) (Nat.le_of_ble_eq_true rfl) ?_
  have J2 : ∀ (n2 : Nat) (v2_3 : Int32), ((σ.1 5 : Int32).toInt - v2_3.toInt).toNat = n2 → Y l S0 D K_X2_firstOn 12 0 0 (fun r G1 => (∃ v : Int32, r = some (.int v)) ∧ G1 = G) (fun _ _ => False) 2 [(0, .ref (ad 6)), (1, .int cell), (2, .int minute), (3, .int v2_3)] [] G 0 0 := by
    intro n2
    induction n2 using Nat.strongRecOn with
    | _ n2 ih2 =>
    intro v2_3 hn2
    subst hn2
    refine y_blk 2 tq_X2_firstOn (z := (4, [(0, .ref (ad 6)), (1, .int cell), (2, .int minute), (3, .int v2_3)], [.ref (ad 6), .int v2_3])) rfl ?_
    refine y_callV hS tq_X2_firstOn rfl (As := []) rfl cv_X2_46 (hX.1 6 _ rfl) (m_X2_count hS hX ) rfl (by decide) (Nat.le_of_ble_eq_true rfl) (fun r4 Gc4 q4 => ?_) (fun E9 G9 h9 => h9.elim)
    obtain ⟨rfl, eG4⟩ := q4
    have eG4 := eG4.symm
    subst eG4
    refine y_blk 0 tq_X2_firstOn (z := (7, [(0, .ref (ad 6)), (1, .int cell), (2, .int minute), (3, .int v2_3)], [.int (σ.1 5), .int v2_3])) rfl ?_
    refine y_icmp_ge tq_X2_firstOn 28 rfl rfl (fun c7 => ?_) (fun c7 => ?_)
    · skip
      refine y_blk 1 tq_X2_firstOn (z := (29, [(0, .ref (ad 6)), (1, .int cell), (2, .int minute), (3, .int v2_3)], [.int (-1)])) rfl ?_
      exact y_iret tq_X2_firstOn rfl rfl (⟨⟨_, rfl⟩, rfl⟩)
    · skip
      refine y_blk 3 tq_X2_firstOn (z := (13, [(0, .ref (ad 6)), (1, .int cell), (2, .int minute), (3, .int v2_3)], [.int minute, .int v2_3, .ref (ad 6)])) rfl ?_
      refine y_callV hS tq_X2_firstOn rfl (As := [.int v2_3, .int minute]) rfl cv_X2_61 (hX.1 6 _ rfl) (m_X2_standAt hS hX v2_3 minute) rfl (by decide) (Nat.le_of_ble_eq_true rfl) (fun r13 Gc13 q13 => ?_) (fun E9 G9 h9 => h9.elim)
      obtain ⟨⟨x13, rfl⟩, eG13⟩ := q13
      have eG13 := eG13.symm
      subst eG13
      refine y_blk 1 tq_X2_firstOn (z := (17, [(0, .ref (ad 6)), (1, .int cell), (2, .int minute), (3, .int v2_3)], [.int cell, .int x13])) rfl ?_
      refine y_icmp_ne tq_X2_firstOn 22 rfl rfl (fun c17 => ?_) (fun c17 => ?_)
      · skip
        refine y_blk 2 tq_X2_firstOn (z := (2, [(3, .int (v2_3 + 1)), (0, .ref (ad 6)), (1, .int cell), (2, .int minute)], [])) rfl ?_
        refine y_pick (L2 := [(0, .ref (ad 6)), (1, .int cell), (2, .int minute), (3, .int (v2_3 + 1))]) [1, 2, 3, 0] rfl ?_
        exact ih2 _ (by exact ydec c7) (v2_3 + 1) rfl
      · skip
        refine y_blk 1 tq_X2_firstOn (z := (21, [(0, .ref (ad 6)), (1, .int cell), (2, .int minute), (3, .int v2_3)], [.int v2_3])) rfl ?_
        exact y_iret tq_X2_firstOn rfl rfl (⟨⟨_, rfl⟩, rfl⟩)
  refine y_blk 2 tq_X2_firstOn (z := (2, [(3, .int 0), (0, .ref (ad 6)), (1, .int cell), (2, .int minute)], [])) rfl ?_
  refine y_pick (L2 := [(0, .ref (ad 6)), (1, .int cell), (2, .int minute), (3, .int 0)]) [1, 2, 3, 0] rfl ?_
  exact J2 _ 0 rfl
set_option maxHeartbeats 4000000 in
set_option maxRecDepth 100000 in
theorem m_X2_cellsHeld {l : Launch} {S0 : State} {A0 : Array Value} {D : va_G} {aC : Nat → ClassId} {ad : Nat → Nat} {G : AH} {σ : XS} (hS : yS l S0 A0 D aC) (hX : atX aC ad G σ) (minute : Int32) : yM l S0 D yX2_cellsHeld cX2_cellsHeld 5 (some .long) 12 0 0 [.ref (ad 6), .int minute] G (fun r G1 => (∃ v : Int64, r = some (.long v)) ∧ G1 = G) (fun _ _ => False) := by
  refine yM.ofK K_X2_cellsHeld rfl (by decide) (Nat.le_of_ble_eq_true rfl) ?_
  have J5 : ∀ (n5 : Nat) (v5_2 : Int64) (v5_4 : Int32), ((σ.1 5 : Int32).toInt - v5_4.toInt).toNat = n5 → Y l S0 D K_X2_cellsHeld 12 0 0 (fun r G1 => (∃ v : Int64, r = some (.long v)) ∧ G1 = G) (fun _ _ => False) 5 [(0, .ref (ad 6)), (1, .int minute), (2, .long v5_2), (4, .int v5_4)] [] G 0 0 := by
    intro n5
    induction n5 using Nat.strongRecOn with
    | _ n5 ih5 =>
    intro v5_2 v5_4 hn5
    subst hn5
    refine y_blk 2 tq_X2_cellsHeld (z := (8, [(0, .ref (ad 6)), (1, .int minute), (2, .long v5_2), (4, .int v5_4)], [.ref (ad 6), .int v5_4])) rfl ?_
    refine y_callV hS tq_X2_cellsHeld rfl (As := []) rfl cv_X2_46 (hX.1 6 _ rfl) (m_X2_count hS hX ) rfl (by decide) (Nat.le_of_ble_eq_true rfl) (fun r8 Gc8 q8 => ?_) (fun E9 G9 h9 => h9.elim)
    obtain ⟨rfl, eG8⟩ := q8
    have eG8 := eG8.symm
    subst eG8
    refine y_blk 0 tq_X2_cellsHeld (z := (11, [(0, .ref (ad 6)), (1, .int minute), (2, .long v5_2), (4, .int v5_4)], [.int (σ.1 5), .int v5_4])) rfl ?_
    refine y_icmp_ge tq_X2_cellsHeld 33 rfl rfl (fun c11 => ?_) (fun c11 => ?_)
    · skip
      refine y_blk 1 tq_X2_cellsHeld (z := (34, [(0, .ref (ad 6)), (1, .int minute), (2, .long v5_2), (4, .int v5_4)], [.long v5_2])) rfl ?_
      exact y_lret tq_X2_cellsHeld rfl rfl (⟨⟨_, rfl⟩, rfl⟩)
    · skip
      refine y_blk 4 tq_X2_cellsHeld (z := (19, [(0, .ref (ad 6)), (1, .int minute), (2, .long v5_2), (4, .int v5_4)], [.int minute, .int v5_4, .ref (ad 6), .long v5_2])) rfl ?_
      refine y_callV hS tq_X2_cellsHeld rfl (As := [.int v5_4, .int minute]) rfl cv_X2_61 (hX.1 6 _ rfl) (m_X2_standAt hS hX v5_4 minute) rfl (by decide) (Nat.le_of_ble_eq_true rfl) (fun r19 Gc19 q19 => ?_) (fun E9 G9 h9 => h9.elim)
      obtain ⟨⟨x19, rfl⟩, eG19⟩ := q19
      have eG19 := eG19.symm
      subst eG19
      refine y_blk 0 tq_X2_cellsHeld (z := (22, [(0, .ref (ad 6)), (1, .int minute), (2, .long v5_2), (4, .int v5_4)], [.int x19, .long v5_2])) rfl ?_
      refine y_callSN hS tq_X2_cellsHeld rfl (As := [.int x19]) rfl cs_X2_71 (m_X8_setOf hS  x19) rfl (by decide) (Nat.le_of_ble_eq_true rfl) (fun r22 Gc22 q22 => ?_) (fun E9 G9 h9 => h9.elim)
      obtain ⟨rfl, eG22⟩ := q22
      have eG22 := eG22.symm
      subst eG22
      refine y_blk 4 tq_X2_cellsHeld (z := (5, [(4, .int (v5_4 + 1)), (2, .long (v5_2 ||| (xset x19))), (0, .ref (ad 6)), (1, .int minute)], [])) rfl ?_
      refine y_pick (L2 := [(0, .ref (ad 6)), (1, .int minute), (2, .long (v5_2 ||| (xset x19))), (4, .int (v5_4 + 1))]) [2, 3, 1, 0] rfl ?_
      exact ih5 _ (by exact ydec c11) (v5_2 ||| (xset x19)) (v5_4 + 1) rfl
  refine y_blk 4 tq_X2_cellsHeld (z := (5, [(4, .int 0), (2, .long 0), (0, .ref (ad 6)), (1, .int minute)], [])) rfl ?_
  refine y_pick (L2 := [(0, .ref (ad 6)), (1, .int minute), (2, .long 0), (4, .int 0)]) [2, 3, 1, 0] rfl ?_
  exact J5 _ 0 0 rfl
set_option maxHeartbeats 4000000 in
set_option maxRecDepth 100000 in
theorem m_X2_roundCells {l : Launch} {S0 : State} {A0 : Array Value} {D : va_G} {aC : Nat → ClassId} {ad : Nat → Nat} {G : AH} {σ : XS} (hS : yS l S0 A0 D aC) (hX : atX aC ad G σ) : yM l S0 D yX2_roundCells cX2_roundCells 5 (some .long) 12 0 0 [.ref (ad 6)] G (fun r G1 => (∃ v : Int64, xse v (xrcQ σ (σ.1 5).toInt.toNat) ∧ r = some (.long v)) ∧ G1 = G) (fun _ _ => False) := by
  refine yM.ofK K_X2_roundCells rfl (by decide) (Nat.le_of_ble_eq_true rfl) ?_
  have J4 : ∀ (n4 : Nat) (v4_1 : Int64) (v4_3 : Int32) (h4 : 0 ≤ v4_3.toInt ∧ v4_3.toInt ≤ (σ.1 5).toInt) (hs4 : xse v4_1 (xrcQ σ v4_3.toInt.toNat)), ((σ.1 5 : Int32).toInt - v4_3.toInt).toNat = n4 → Y l S0 D K_X2_roundCells 12 0 0 (fun r G1 => (∃ v : Int64, xse v (xrcQ σ (σ.1 5).toInt.toNat) ∧ r = some (.long v)) ∧ G1 = G) (fun _ _ => False) 4 [(0, .ref (ad 6)), (1, .long v4_1), (3, .int v4_3)] [] G 0 0 := by
    intro n4
    induction n4 using Nat.strongRecOn with
    | _ n4 ih4 =>
    intro v4_1 v4_3 h4 hs4 hn4
    subst hn4
    have J15 : ∀ (n15 : Nat) (v15_1 : Int64) (v15_4 : Int32) (h15 : 0 ≤ v15_4.toInt ∧ (v15_4.toInt ≤ (xat σ 8 v4_3).toInt ∨ v15_4.toInt = 0)) (hs15 : xse v15_1 (fun c => xrcQ σ v4_3.toInt.toNat c ∨ xrcR σ v4_3 v15_4.toInt.toNat c)) (c9 : ¬ (σ.1 5 : Int32) ≤ v4_3), ((xat σ 8 v4_3 : Int32).toInt - v15_4.toInt).toNat = n15 → Y l S0 D K_X2_roundCells 12 0 0 (fun r G1 => (∃ v : Int64, xse v (xrcQ σ (σ.1 5).toInt.toNat) ∧ r = some (.long v)) ∧ G1 = G) (fun _ _ => False) 15 [(0, .ref (ad 6)), (1, .long v15_1), (3, .int v4_3), (4, .int v15_4)] [] G 0 0 := by
      intro n15
      induction n15 using Nat.strongRecOn with
      | _ n15 ih15 =>
      intro v15_1 v15_4 h15 hs15 c9 hn15
      subst hn15
      refine y_blk 2 tq_X2_roundCells (z := (18, [(0, .ref (ad 6)), (1, .long v15_1), (3, .int v4_3), (4, .int v15_4)], [.ref (ad 6), .int v15_4])) rfl ?_
      refine y_get hS tq_X2_roundCells (v := .ref (ad 116)) rfl fg_X2_26_X2 (hX.1 6 _ rfl) rfl ?_
      refine y_blk 1 tq_X2_roundCells (z := (22, [(0, .ref (ad 6)), (1, .long v15_1), (3, .int v4_3), (4, .int v15_4)], [.int v4_3, .ref (ad 116), .int v15_4])) rfl ?_
      refine y_callV hS tq_X2_roundCells rfl (As := [.int v4_3]) rfl cv_X2_53 (hX.num (k := 8) (by decide)) (m_X5_at hS hX (k := 8) (by decide) v4_3) rfl (by decide) (Nat.le_of_ble_eq_true rfl) (fun r22 Gc22 q22 => ?_) (fun E9 G9 h9 => h9.elim)
      obtain ⟨rfl, eG22⟩ := q22
      have eG22 := eG22.symm
      subst eG22
      refine y_blk 0 tq_X2_roundCells (z := (25, [(0, .ref (ad 6)), (1, .long v15_1), (3, .int v4_3), (4, .int v15_4)], [.int (xat σ 8 v4_3), .int v15_4])) rfl ?_
      refine y_icmp_ge tq_X2_roundCells 54 rfl rfl (fun c25 => ?_) (fun c25 => ?_)
      · skip
        refine y_blk 2 tq_X2_roundCells (z := (4, [(3, .int (v4_3 + 1)), (0, .ref (ad 6)), (1, .long v15_1), (4, .int v15_4)], [])) rfl ?_
        refine y_pick (L2 := [(0, .ref (ad 6)), (1, .long v15_1), (3, .int (v4_3 + 1))]) [1, 2, 0] rfl ?_
        exact ih4 _ (by exact ydec c9) v15_1 (v4_3 + 1) (by first | exact xcn_step h4 c9 | exact xcn_init (hX.2.1 5).1) (by first | exact xrc_out hs15 h4 c9 h15 c25 rfl | exact xrc_init) rfl
      · skip
        refine y_blk 2 tq_X2_roundCells (z := (30, [(0, .ref (ad 6)), (1, .long v15_1), (3, .int v4_3), (4, .int v15_4)], [.ref (ad 6), .long v15_1])) rfl ?_
        refine y_get hS tq_X2_roundCells (v := .ref (ad 118)) rfl fg_X2_29_X2 (hX.1 6 _ rfl) rfl ?_
        refine y_blk 5 tq_X2_roundCells (z := (40, [(0, .ref (ad 6)), (1, .long v15_1), (3, .int v4_3), (4, .int v15_4)], [.int ((v4_3 * 6) + v15_4), .ref (ad 118), .long v15_1])) rfl ?_
        refine y_callV hS tq_X2_roundCells rfl (As := [.int ((v4_3 * 6) + v15_4)]) rfl cv_X2_53 (hX.num (k := 9) (by decide)) (m_X5_at hS hX (k := 9) (by decide) ((v4_3 * 6) + v15_4)) rfl (by decide) (Nat.le_of_ble_eq_true rfl) (fun r40 Gc40 q40 => ?_) (fun E9 G9 h9 => h9.elim)
        obtain ⟨rfl, eG40⟩ := q40
        have eG40 := eG40.symm
        subst eG40
        refine y_blk 0 tq_X2_roundCells (z := (43, [(0, .ref (ad 6)), (1, .long v15_1), (3, .int v4_3), (4, .int v15_4)], [.int (xat σ 9 ((v4_3 * 6) + v15_4)), .long v15_1])) rfl ?_
        refine y_callSN hS tq_X2_roundCells rfl (As := [.int (xat σ 9 ((v4_3 * 6) + v15_4))]) rfl cs_X2_71 (m_X8_setOf hS  (xat σ 9 ((v4_3 * 6) + v15_4))) rfl (by decide) (Nat.le_of_ble_eq_true rfl) (fun r43 Gc43 q43 => ?_) (fun E9 G9 h9 => h9.elim)
        obtain ⟨rfl, eG43⟩ := q43
        have eG43 := eG43.symm
        subst eG43
        refine y_blk 4 tq_X2_roundCells (z := (15, [(4, .int (v15_4 + 1)), (1, .long (v15_1 ||| (xset (xat σ 9 ((v4_3 * 6) + v15_4))))), (0, .ref (ad 6)), (3, .int v4_3)], [])) rfl ?_
        refine y_pick (L2 := [(0, .ref (ad 6)), (1, .long (v15_1 ||| (xset (xat σ 9 ((v4_3 * 6) + v15_4))))), (3, .int v4_3), (4, .int (v15_4 + 1))]) [2, 1, 3, 0] rfl ?_
        exact ih15 _ (by exact ydec c25) (v15_1 ||| (xset (xat σ 9 ((v4_3 * 6) + v15_4)))) (v15_4 + 1) (by first | exact xrc_i h15 c25 | exact xi0) (by first | exact xrc_step hs15 h15 c25 | exact xrc_in hs4) (by exact c9) rfl
    refine y_blk 2 tq_X2_roundCells (z := (6, [(0, .ref (ad 6)), (1, .long v4_1), (3, .int v4_3)], [.ref (ad 6), .int v4_3])) rfl ?_
    refine y_callV hS tq_X2_roundCells rfl (As := []) rfl cv_X2_46 (hX.1 6 _ rfl) (m_X2_count hS hX ) rfl (by decide) (Nat.le_of_ble_eq_true rfl) (fun r6 Gc6 q6 => ?_) (fun E9 G9 h9 => h9.elim)
    obtain ⟨rfl, eG6⟩ := q6
    have eG6 := eG6.symm
    subst eG6
    refine y_blk 0 tq_X2_roundCells (z := (9, [(0, .ref (ad 6)), (1, .long v4_1), (3, .int v4_3)], [.int (σ.1 5), .int v4_3])) rfl ?_
    refine y_icmp_ge tq_X2_roundCells 60 rfl rfl (fun c9 => ?_) (fun c9 => ?_)
    · skip
      refine y_blk 1 tq_X2_roundCells (z := (61, [(0, .ref (ad 6)), (1, .long v4_1), (3, .int v4_3)], [.long v4_1])) rfl ?_
      exact y_lret tq_X2_roundCells rfl rfl (⟨⟨_, (by have e9 := xcn_stop h4 c9; rw [e9] at hs4; exact hs4), rfl⟩, rfl⟩)
    · skip
      refine y_blk 2 tq_X2_roundCells (z := (15, [(4, .int 0), (0, .ref (ad 6)), (1, .long v4_1), (3, .int v4_3)], [])) rfl ?_
      refine y_pick (L2 := [(0, .ref (ad 6)), (1, .long v4_1), (3, .int v4_3), (4, .int 0)]) [1, 2, 3, 0] rfl ?_
      exact J15 _ v4_1 0 (by first | exact xrc_i h15 c25 | exact xi0) (by first | exact xrc_step hs15 h15 c25 | exact xrc_in hs4) (by exact c9) rfl
  refine y_blk 4 tq_X2_roundCells (z := (4, [(3, .int 0), (1, .long 0), (0, .ref (ad 6))], [])) rfl ?_
  refine y_pick (L2 := [(0, .ref (ad 6)), (1, .long 0), (3, .int 0)]) [2, 1, 0] rfl ?_
  exact J4 _ 0 0 (by first | exact xcn_step h4 c9 | exact xcn_init (hX.2.1 5).1) (by first | exact xrc_out hs15 h4 c9 h15 c25 rfl | exact xrc_init) rfl
