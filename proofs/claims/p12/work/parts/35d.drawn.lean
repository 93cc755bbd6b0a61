/-! ===== contracts: a row drawn, on both sides ===== -/
theorem atX.kp2 {aC : Nat → ClassId} {ad : Nat → Nat} {σ : XS} {G G1 : AH} {f : Nat → Prop} (h : atX aC ad G σ) (hk : yTg f G G1) (hf : ∀ t, 0 < t → t < 150 → f t) : atX aC ad G1 σ := by
  refine ⟨fun t e ht => hk _ _ _ (h.1 t e ht) ?_, h.2⟩
  unfold xc at ht
  by_cases c : 0 < t ∧ t < 150
  · exact hf t c.1 c.2
  · exfalso
    rw [if_neg (by omega), if_neg (by omega), if_neg (by omega), if_neg (by omega), if_neg (by omega), if_neg (by omega), if_neg (by omega), if_neg (by omega), if_neg (by omega), if_neg (by omega)] at ht
    cases ht
abbrev fD : Nat → Prop := fun t => t < 160 ∨ 164 ≤ t
theorem yTg.kX {G G1 : AH} (h : yTg fD G G1) : keepX G G1 := fun q t e hq ht => h q t e hq (by rcases ht with ht | ht <;> omega)
theorem yofE {a : Int32} {n : Nat} (h0 : 0 ≤ a.toInt) (h1 : a.toInt < (n : Int)) (hn : n < 2147483648) : ∃ m : Nat, m < n ∧ a = Int32.ofNat m :=
  ⟨a.toInt.toNat, by omega, Int32.toInt_inj.mp (by rw [yofN (by omega)]; omega)⟩
theorem yor6 {a g : Int32} (ha : 0 ≤ a.toInt ∧ a.toInt < 64) (h0 : 0 ≤ g.toInt) (h6 : g.toInt < 6) : 0 ≤ (a ||| (1 <<< (g &&& 31))).toInt ∧ (a ||| (1 <<< (g &&& 31))).toInt < 64 := by
  obtain ⟨m, hm, rfl⟩ := yofE (n := 64) ha.1 ha.2 (by decide)
  obtain ⟨j, hj, rfl⟩ := yofE (n := 6) h0 h6 (by decide)
  have key : ∀ m : Nat, m < 64 → ∀ j : Nat, j < 6 → 0 ≤ (Int32.ofNat m ||| ((1 : Int32) <<< (Int32.ofNat j &&& 31))).toInt ∧ (Int32.ofNat m ||| ((1 : Int32) <<< (Int32.ofNat j &&& 31))).toInt < 64 := by decide +kernel
  exact key m hm j hj
theorem yor0 {a : Int32} (ha : 0 ≤ a.toInt ∧ a.toInt < 64) : 0 ≤ (a ||| 0).toInt ∧ (a ||| 0).toInt < 64 := by
  have e : a ||| 0 = a := by simp
  rw [e]
  exact ha
set_option maxHeartbeats 4000000 in
set_option maxRecDepth 100000 in
theorem m_X2_firstOnB {l : Launch} {S0 : State} {A0 : Array Value} {D : va_G} {aC : Nat → ClassId} {ad : Nat → Nat} {G : AH} {σ : XS} (hS : yS l S0 A0 D aC) (hX : atX aC ad G σ) (cell : Int32) (minute : Int32) : yM l S0 D yX2_firstOn cX2_firstOn 4 (some .int) 12 0 0 [.ref (ad 6), .int cell, .int minute] G (fun r G1 => (∃ v : Int32, (-1 ≤ v.toInt ∧ v.toInt ≤ 5) ∧ r = some (.int v)) ∧ G1 = G) (fun _ _ => False) := by
  refine yM.ofK K_X2_firstOn rfl (by decide) (Nat.le_of_ble_eq_true rfl) ?_
  have J2 : ∀ (n2 : Nat) (v2_3 : Int32) (h0_2 : 0 ≤ v2_3.toInt), ((σ.1 5 : Int32).toInt - v2_3.toInt).toNat = n2 → Y l S0 D K_X2_firstOn 12 0 0 (fun r G1 => (∃ v : Int32, (-1 ≤ v.toInt ∧ v.toInt ≤ 5) ∧ r = some (.int v)) ∧ G1 = G) (fun _ _ => False) 2 [(0, .ref (ad 6)), (1, .int cell), (2, .int minute), (3, .int v2_3)] [] G 0 0 := by
    intro n2
    induction n2 using Nat.strongRecOn with
    | _ n2 ih2 =>
    intro v2_3 h0_2 hn2
    subst hn2
    refine y_blk 2 tq_X2_firstOn (z := (4, [(0, .ref (ad 6)), (1, .int cell), (2, .int minute), (3, .int v2_3)], [.ref (ad 6), .int v2_3])) rfl ?_
    refine y_callV hS tq_X2_firstOn rfl (As := []) rfl cv_X2_46 (hX.1 6 _ rfl) (m_X2_count hS hX ) rfl (by decide) (Nat.le_of_ble_eq_true rfl) (fun r4 Gc4 q4 => ?_) (fun E9 G9 h9 => h9.elim)
    obtain ⟨rfl, eG4⟩ := q4
    have eG4 := eG4.symm
    subst eG4
    refine y_blk 0 tq_X2_firstOn (z := (7, [(0, .ref (ad 6)), (1, .int cell), (2, .int minute), (3, .int v2_3)], [.int (σ.1 5), .int v2_3])) rfl ?_
    refine y_icmp_ge tq_X2_firstOn 28 rfl rfl (fun c7 => ?_) (fun c7 => ?_)
    · skip
      refine y_blk 1 tq_X2_firstOn (z := (29, [(0, .ref (ad 6)), (1, .int cell), (2, .int minute), (3, .int v2_3)], [.int (-1)])) rfl ?_
      exact y_iret tq_X2_firstOn rfl rfl (⟨⟨_, ⟨by decide, by decide⟩, rfl⟩, rfl⟩)
    · skip
      have c8 : ¬ (σ.1 5).toInt ≤ v2_3.toInt := fun q => c7 (yle.mpr q)
      have b5 := (hX.2.1 5).2
      have e5 : xcap 5 = 6 := by decide
      have e1 : (1 : Int32).toInt = 1 := by decide
      refine y_blk 3 tq_X2_firstOn (z := (13, [(0, .ref (ad 6)), (1, .int cell), (2, .int minute), (3, .int v2_3)], [.int minute, .int v2_3, .ref (ad 6)])) rfl ?_
      refine y_callV hS tq_X2_firstOn rfl (As := [.int v2_3, .int minute]) rfl cv_X2_61 (hX.1 6 _ rfl) (m_X2_standAt hS hX v2_3 minute) rfl (by decide) (Nat.le_of_ble_eq_true rfl) (fun r13 Gc13 q13 => ?_) (fun E9 G9 h9 => h9.elim)
      obtain ⟨⟨x13, rfl⟩, eG13⟩ := q13
      have eG13 := eG13.symm
      subst eG13
      refine y_blk 1 tq_X2_firstOn (z := (17, [(0, .ref (ad 6)), (1, .int cell), (2, .int minute), (3, .int v2_3)], [.int cell, .int x13])) rfl ?_
      refine y_icmp_ne tq_X2_firstOn 22 rfl rfl (fun c17 => ?_) (fun c17 => ?_)
      · skip
        refine y_blk 2 tq_X2_firstOn (z := (2, [(3, .int (v2_3 + 1)), (0, .ref (ad 6)), (1, .int cell), (2, .int minute)], [])) rfl ?_
        refine y_pick (L2 := [(0, .ref (ad 6)), (1, .int cell), (2, .int minute), (3, .int (v2_3 + 1))]) [1, 2, 3, 0] rfl ?_
        exact ih2 _ (by exact ydec c7) (v2_3 + 1) (by rw [yadd (by omega) (by omega), e1]; omega) rfl
      · skip
        refine y_blk 1 tq_X2_firstOn (z := (21, [(0, .ref (ad 6)), (1, .int cell), (2, .int minute), (3, .int v2_3)], [.int v2_3])) rfl ?_
        exact y_iret tq_X2_firstOn rfl rfl (⟨⟨_, ⟨by omega, by omega⟩, rfl⟩, rfl⟩)
  refine y_blk 2 tq_X2_firstOn (z := (2, [(3, .int 0), (0, .ref (ad 6)), (1, .int cell), (2, .int minute)], [])) rfl ?_
  refine y_pick (L2 := [(0, .ref (ad 6)), (1, .int cell), (2, .int minute), (3, .int 0)]) [1, 2, 3, 0] rfl ?_
  exact J2 _ 0 (by decide) rfl
set_option maxHeartbeats 4000000 in
set_option maxRecDepth 100000 in
theorem m_X8_signOf {l : Launch} {S0 : State} {A0 : Array Value} {D : va_G} {aC : Nat → ClassId} {ad : Nat → Nat} {G : AH} {σ : XS} (hS : yS l S0 A0 D aC) (hX : atX aC ad G σ) (cell : Int32) (minute : Int32) (w : Int64) : yM l S0 D yX8_signOf cX8_signOf 6 (some .char) 14 0 0 [.ref (ad 1), .int cell, .int minute, .long w] G (fun r G1 => (∃ v : Int32, v.toInt ≤ 255 ∧ r = some (.int v)) ∧ G1 = G) (fun _ _ => False) := by
  refine yM.ofK K_X8_signOf rfl (by decide) (Nat.le_of_ble_eq_true rfl) ?_
  refine y_blk 1 tq_X8_signOf (z := (1, [(0, .ref (ad 1)), (1, .int cell), (2, .int minute), (3, .long w)], [.ref (ad 1)])) rfl ?_
  refine y_get hS tq_X8_signOf (v := .ref (ad 6)) rfl fg_X8_33_X8 (hX.1 1 _ rfl) rfl ?_
  refine y_blk 2 tq_X8_signOf (z := (6, [(0, .ref (ad 1)), (1, .int cell), (2, .int minute), (3, .long w)], [.int minute, .int cell, .ref (ad 6)])) rfl ?_
  refine y_callV (kc := 0) (ks := 0) hS tq_X8_signOf rfl (As := [.int cell, .int minute]) rfl cv_X8_458 (hX.1 6 _ rfl) (m_X2_firstOnB hS hX cell minute) rfl (by decide) (Nat.le_of_ble_eq_true rfl) (fun r1 G1 q1 => ?_) (fun _ _ h9 => h9.elim)
  obtain ⟨⟨x, hx, rfl⟩, e1⟩ := q1
  have e1 := e1.symm
  subst e1
  refine y_blk 3 tq_X8_signOf (z := (14, [(5, .int x), (0, .ref (ad 1)), (1, .int cell), (2, .int minute), (3, .long w)], [.int (-1), .int x])) rfl ?_
  refine y_icmp_eq tq_X8_signOf 24 rfl rfl (fun _ => ?_) (fun c1 => ?_)
  · skip
    refine y_blk 1 tq_X8_signOf (z := (25, [(5, .int x), (0, .ref (ad 1)), (1, .int cell), (2, .int minute), (3, .long w)], [.ref (ad 1)])) rfl ?_
    refine y_get hS tq_X8_signOf (v := .ref (ad 2)) rfl fg_X8_10_X8 (hX.1 1 _ rfl) rfl ?_
    refine y_blk 1 tq_X8_signOf (z := (29, [(5, .int x), (0, .ref (ad 1)), (1, .int cell), (2, .int minute), (3, .long w)], [.int cell, .ref (ad 2)])) rfl ?_
    refine y_callV (kc := 0) (ks := 0) hS tq_X8_signOf rfl (As := [.int cell]) rfl cv_X8_131 (hX.1 2 _ rfl) (m_X1_kindOf hS hX cell) rfl (by decide) (Nat.le_of_ble_eq_true rfl) (fun r2 G2 q2 => ?_) (fun _ _ h9 => h9.elim)
    obtain ⟨e0_, e2⟩ := q2
    generalize xkf σ cell = y at e0_
    subst e0_
    have e2 := e2.symm
    subst e2
    refine y_blk 0 tq_X8_signOf (z := (32, [(5, .int x), (0, .ref (ad 1)), (1, .int cell), (2, .int minute), (3, .long w)], [.int y])) rfl ?_
    by_cases s1 : y = 1
    · refine y_swIn tq_X8_signOf 60 rfl (by rw [s1]; decide) (by rw [s1]; decide) (by rw [s1]; rfl) rfl ?_
      refine y_blk 1 tq_X8_signOf (z := (62, [(5, .int x), (0, .ref (ad 1)), (1, .int cell), (2, .int minute), (3, .long w)], [.int 35])) rfl ?_
      exact y_zret tq_X8_signOf rfl rfl rfl ⟨⟨_, by decide, rfl⟩, rfl⟩
    by_cases s2 : y = 2
    · refine y_swIn tq_X8_signOf 63 rfl (by rw [s2]; decide) (by rw [s2]; decide) (by rw [s2]; rfl) rfl ?_
      refine y_blk 1 tq_X8_signOf (z := (65, [(5, .int x), (0, .ref (ad 1)), (1, .int cell), (2, .int minute), (3, .long w)], [.int 37])) rfl ?_
      exact y_zret tq_X8_signOf rfl rfl rfl ⟨⟨_, by decide, rfl⟩, rfl⟩
    by_cases s3 : y = 3
    · refine y_swIn tq_X8_signOf 66 rfl (by rw [s3]; decide) (by rw [s3]; decide) (by rw [s3]; rfl) rfl ?_
      refine y_blk 1 tq_X8_signOf (z := (68, [(5, .int x), (0, .ref (ad 1)), (1, .int cell), (2, .int minute), (3, .long w)], [.int 43])) rfl ?_
      exact y_zret tq_X8_signOf rfl rfl rfl ⟨⟨_, by decide, rfl⟩, rfl⟩
    by_cases so : y.toInt < 1 ∨ 3 < y.toInt
    · refine y_swOut tq_X8_signOf 69 rfl so rfl ?_
      refine y_blk 2 tq_X8_signOf (z := (71, [(5, .int x), (0, .ref (ad 1)), (1, .int cell), (2, .int minute), (3, .long w)], [.int cell, .long w])) rfl ?_
      refine y_callS (kc := 0) (ks := 0) hS tq_X8_signOf rfl (As := [.long w, .int cell]) rfl cs_X8_124 (m_X8_isOf hS w cell) rfl (by decide) (Nat.le_of_ble_eq_true rfl) (fun r3 G3 q3 => ?_) (fun _ _ h9 => h9.elim)
      obtain ⟨e0_, e3⟩ := q3
      have hz : (if xis w cell then (1 : Int32) else 0) = 0 ∨ (if xis w cell then (1 : Int32) else 0) = 1 := by
        split
        · exact Or.inr rfl
        · exact Or.inl rfl
      generalize (if xis w cell then (1 : Int32) else 0) = z at e0_ hz
      subst e0_
      have e3 := e3.symm
      subst e3
      refine y_blk 0 tq_X8_signOf (z := (74, [(5, .int x), (0, .ref (ad 1)), (1, .int cell), (2, .int minute), (3, .long w)], [.int z])) rfl ?_
      refine y_if_eq tq_X8_signOf 82 rfl rfl (fun _ => ?_) (fun _ => ?_)
      · skip
        refine y_blk 1 tq_X8_signOf (z := (84, [(5, .int x), (0, .ref (ad 1)), (1, .int cell), (2, .int minute), (3, .long w)], [.int 46])) rfl ?_
        exact y_zret tq_X8_signOf rfl rfl rfl ⟨⟨_, by decide, rfl⟩, rfl⟩
      · skip
        refine y_blk 2 tq_X8_signOf (z := (84, [(5, .int x), (0, .ref (ad 1)), (1, .int cell), (2, .int minute), (3, .long w)], [.int 58])) rfl ?_
        exact y_zret tq_X8_signOf rfl rfl rfl ⟨⟨_, by decide, rfl⟩, rfl⟩
    · exfalso
      have n1 : y.toInt ≠ 1 := fun q => s1 (Int32.toInt_inj.mp (by rw [q]; decide))
      have n2 : y.toInt ≠ 2 := fun q => s2 (Int32.toInt_inj.mp (by rw [q]; decide))
      have n3 : y.toInt ≠ 3 := fun q => s3 (Int32.toInt_inj.mp (by rw [q]; decide))
      omega
  · have n1 : x.toInt ≠ -1 := fun q => c1 (Int32.toInt_inj.mp (by rw [q]; decide))
    obtain ⟨j, hj, rfl⟩ := yofE (a := x) (n := 6) (by omega) (by omega) (by decide)
    have key : ∀ j : Nat, j < 6 → narrow .char (.int ((Int32.toUInt32 (48 + Int32.ofNat j) % 65536).toInt32)) = .int ((Int32.toUInt32 (48 + Int32.ofNat j) % 65536).toInt32) ∧ ((Int32.toUInt32 (48 + Int32.ofNat j) % 65536).toInt32).toInt ≤ 255 := by decide +kernel
    refine y_blk 4 tq_X8_signOf (z := (23, [(5, .int (Int32.ofNat j)), (0, .ref (ad 1)), (1, .int cell), (2, .int minute), (3, .long w)], [.int ((Int32.toUInt32 (48 + (Int32.ofNat j)) % 65536).toInt32)])) rfl ?_
    exact y_zret tq_X8_signOf rfl rfl (key j hj).1 ⟨⟨_, (key j hj).2, rfl⟩, rfl⟩
set_option maxHeartbeats 4000000 in
set_option maxRecDepth 100000 in
theorem m_X8_drawn {l : Launch} {S0 : State} {A0 : Array Value} {D : va_G} {aC : Nat → ClassId} {ad : Nat → Nat} {G : AH} {σ : XS} (hS : yS l S0 A0 D aC) (hX : atX aC ad G σ) (row : Int32) (minute : Int32) : yM l S0 D yX8_drawn cX8_drawn 7 (some (.object "java/lang/String")) 30 6 52 [.ref (ad 1), .int row, .int minute] G (fun r G1 => (∃ v : Nat, r = some (.ref v)) ∧ ∃ σ1 : XS, atX aC ad G1 σ1 ∧ keepX G G1 ∧ xfr [] σ σ1) (fun E G1 => (E = "java/lang/IndexOutOfBoundsException" ∨ E = "java/lang/IllegalArgumentException") ∧ G1 = G) := by
  refine yM.ofK K_X8_drawn rfl (by decide) (Nat.le_of_ble_eq_true rfl) ?_
  refine y_blk 2 tq_X8_drawn (z := (2, [(0, .ref (ad 1)), (1, .int row), (2, .int minute)], [.ref (ad 1), .int row])) rfl ?_
  refine y_get hS tq_X8_drawn (v := .ref (ad 2)) rfl fg_X8_10_X8 (hX.1 1 _ rfl) rfl ?_
  refine y_blk 0 tq_X8_drawn (z := (5, [(0, .ref (ad 1)), (1, .int row), (2, .int minute)], [.ref (ad 2), .int row])) rfl ?_
  refine y_callV (kc := 6) (ks := 52) hS tq_X8_drawn rfl (As := []) rfl cv_X8_378 (hX.1 2 _ rfl) (m_X1_high hS hX) rfl (by decide) (Nat.le_of_ble_eq_true rfl) (fun r1 G1 q1 => ?_) (fun _ _ h9 => h9.elim)
  obtain ⟨rfl, e1⟩ := q1
  have e1 := e1.symm
  subst e1
  refine y_blk 0 tq_X8_drawn (z := (8, [(0, .ref (ad 1)), (1, .int row), (2, .int minute)], [.int (σ.2.2.1 1), .int row])) rfl ?_
  refine y_callS (kc := 5) (ks := 46) hS tq_X8_drawn rfl (As := [.int row, .int (σ.2.2.1 1)]) rfl cs_X8_164 (m_X8_needThere hS row (σ.2.2.1 1)) rfl (by decide) (Nat.le_of_ble_eq_true rfl) (fun r2 G2 q2 => ?_) (fun E9 G9 h9 => ⟨Or.inl h9.1.1, h9.2⟩)
  obtain ⟨⟨rfl, hrow⟩, e2⟩ := q2
  have e2 := e2.symm
  subst e2
  refine y_blk 1 tq_X8_drawn (z := (12, [(0, .ref (ad 1)), (1, .int row), (2, .int minute)], [.int minute])) rfl ?_
  refine y_callS (kc := 5) (ks := 46) hS tq_X8_drawn rfl (As := [.int minute]) rfl cs_X8_139 (m_X8_isMinute hS minute) rfl (by decide) (Nat.le_of_ble_eq_true rfl) (fun r3 G3 q3 => ?_) (fun _ _ h9 => h9.elim)
  obtain ⟨rfl, e3⟩ := q3
  have e3 := e3.symm
  subst e3
  refine y_blk 0 tq_X8_drawn (z := (15, [(0, .ref (ad 1)), (1, .int row), (2, .int minute)], [.int (if 0 ≤ minute ∧ minute ≤ 239 then 1 else 0)])) rfl ?_
  refine y_callS (kc := 4) (ks := 40) hS tq_X8_drawn rfl (As := [.int (if 0 ≤ minute ∧ minute ≤ 239 then 1 else 0)]) rfl cs_X8_117 (m_X8_needLet hS (if 0 ≤ minute ∧ minute ≤ 239 then 1 else 0)) rfl (by decide) (Nat.le_of_ble_eq_true rfl) (fun r4 G4 q4 => ?_) (fun E9 G9 h9 => ⟨Or.inr h9.1.1, h9.2⟩)
  obtain ⟨⟨rfl, hmin⟩, e4⟩ := q4
  have e4 := e4.symm
  subst e4
  refine y_blk 2 tq_X8_drawn (z := (20, [(0, .ref (ad 1)), (1, .int row), (2, .int minute)], [.int minute, .ref (ad 1)])) rfl ?_
  refine y_callV (kc := 4) (ks := 40) hS tq_X8_drawn rfl (As := [.int minute]) rfl cv_X8_219 (hX.1 1 _ rfl) (m_X8_watchedCells hS hX minute) rfl (by decide) (Nat.le_of_ble_eq_true rfl) (fun r5 G5 q5 => ?_) (fun _ _ h9 => h9.elim)
  obtain ⟨⟨w, rfl⟩, e5⟩ := q5
  have e5 := e5.symm
  subst e5
  refine y_blk 1 tq_X8_drawn (z := (24, [(3, .long w), (0, .ref (ad 1)), (1, .int row), (2, .int minute)], [])) rfl ?_
  refine y_new 160 hS tq_X8_drawn (kc := 3) (ks := 36) rfl nw_X8_381 (fun b hb => ?_)
  have hle : yLe G (yup G b (160, .inr (1, [.null, .int 0, .int 0, .int 0]))) := yLe.new hb
  have hB0 : (yup G b (160, .inr (1, [.null, .int 0, .int 0, .int 0]))) b = some (160, .inr (1, [.null, .int 0, .int 0, .int 0])) := yup_s _ _ _
  generalize yup G b (160, .inr (1, [.null, .int 0, .int 0, .int 0])) = G0 at hle hB0 ⊢
  refine y_blk 1 tq_X8_drawn (z := (28, [(3, .long w), (0, .ref (ad 1)), (1, .int row), (2, .int minute)], [.ref b, .ref b])) rfl ?_
  refine y_callI (kc := 2) (ks := 20) hS tq_X8_drawn rfl (As := []) rfl ci_X8_383 (m_J4_init_da8c8 hS (by decide) hB0) rfl (by decide) (Nat.le_of_ble_eq_true rfl) (fun r6 G6 q6 => ?_) (fun _ _ h9 => h9.elim)
  obtain ⟨rfl, hB6, kt6_⟩ := q6
  have kt6 : yTg fD G G6 := (yTg.le hle).trans (kt6_.narrow (fun t h9 => by omega))
  have J36 : ∀ (k j : Nat) (G1 : AH), j + k = 8 → ySB aC G1 b 160 j → yTg fD G G1 → Y l S0 D K_X8_drawn 30 6 52 (fun r G1 => (∃ v : Nat, r = some (.ref v)) ∧ ∃ σ1 : XS, atX aC ad G1 σ1 ∧ keepX G G1 ∧ xfr [] σ σ1) (fun E G1 => (E = "java/lang/IndexOutOfBoundsException" ∨ E = "java/lang/IllegalArgumentException") ∧ G1 = G) 36 [(6, .int (Int32.ofNat j)), (5, .ref b), (3, .long w), (0, .ref (ad 1)), (1, .int row), (2, .int minute)] [] G1 2 20 := by
    intro k
    induction k with
    | zero =>
      intro j G1 hj hB kt
      have hX1 := hX.kp2 kt (fun t _ h9 => Or.inl (by omega))
      obtain ⟨v, f, ml, hA, hV, hF⟩ := id hB
      have eJ := yofN (n := j) (by omega)
      refine y_blk 2 tq_X8_drawn (z := (39, [(6, .int (Int32.ofNat j)), (5, .ref b), (3, .long w), (0, .ref (ad 1)), (1, .int row), (2, .int minute)], [.ref (ad 1), .int (Int32.ofNat j)])) rfl ?_
      refine y_get hS tq_X8_drawn (v := .ref (ad 2)) rfl fg_X8_10_X8 (hX1.1 1 _ rfl) rfl ?_
      refine y_blk 0 tq_X8_drawn (z := (42, [(6, .int (Int32.ofNat j)), (5, .ref b), (3, .long w), (0, .ref (ad 1)), (1, .int row), (2, .int minute)], [.ref (ad 2), .int (Int32.ofNat j)])) rfl ?_
      refine y_callV (kc := 2) (ks := 20) hS tq_X8_drawn rfl (As := []) rfl cv_X8_384 (hX1.1 2 _ rfl) (m_X1_wide hS hX1) rfl (by decide) (Nat.le_of_ble_eq_true rfl) (fun r7 G7 q7 => ?_) (fun _ _ h9 => h9.elim)
      obtain ⟨rfl, e7⟩ := q7
      have e7 := e7.symm
      subst e7
      refine y_blk 0 tq_X8_drawn (z := (45, [(6, .int (Int32.ofNat j)), (5, .ref b), (3, .long w), (0, .ref (ad 1)), (1, .int row), (2, .int minute)], [.int (σ.2.2.1 0), .int (Int32.ofNat j)])) rfl ?_
      refine y_icmp_ge tq_X8_drawn 76 rfl rfl (fun _ => ?_) (fun c1 => ?_)
      · skip
        refine y_blk 1 tq_X8_drawn (z := (78, [(6, .int (Int32.ofNat j)), (5, .ref b), (3, .long w), (0, .ref (ad 1)), (1, .int row), (2, .int minute)], [.ref b])) rfl ?_
        refine y_callV (kc := 0) (ks := 0) hS tq_X8_drawn rfl (As := []) rfl cv_X8_397 hA (m_J4_toString_0e30d hS (by decide) hB (by omega)) rfl (by decide) (Nat.le_of_ble_eq_true rfl) (fun r8 G8 q8 => ?_) (fun _ _ h9 => h9.elim)
        obtain ⟨q, rfl, hst, kt8⟩ := q8
        have kt9 : yTg fD G G8 := kt.trans (kt8.narrow (fun t h9 => by omega))
        refine y_blk 0 tq_X8_drawn (z := (81, [(6, .int (Int32.ofNat j)), (5, .ref b), (3, .long w), (0, .ref (ad 1)), (1, .int row), (2, .int minute)], [.ref q])) rfl ?_
        exact y_aret tq_X8_drawn rfl rfl (Or.inl ⟨_, rfl⟩) (Or.inr ⟨_, rfl⟩) ⟨⟨_, rfl⟩, σ, hX.kp2 kt9 (fun t _ h9 => Or.inl (by omega)), kt9.kX, xkn.rfl'⟩
      · exact absurd (yle.mpr (by have := hX.2.2.1; omega)) c1
    | succ k ih =>
      intro j G1 hj hB kt
      have hX1 := hX.kp2 kt (fun t _ h9 => Or.inl (by omega))
      obtain ⟨v, f, ml, hA, hV, hF⟩ := id hB
      have eJ := yofN (n := j) (by omega)
      refine y_blk 2 tq_X8_drawn (z := (39, [(6, .int (Int32.ofNat j)), (5, .ref b), (3, .long w), (0, .ref (ad 1)), (1, .int row), (2, .int minute)], [.ref (ad 1), .int (Int32.ofNat j)])) rfl ?_
      refine y_get hS tq_X8_drawn (v := .ref (ad 2)) rfl fg_X8_10_X8 (hX1.1 1 _ rfl) rfl ?_
      refine y_blk 0 tq_X8_drawn (z := (42, [(6, .int (Int32.ofNat j)), (5, .ref b), (3, .long w), (0, .ref (ad 1)), (1, .int row), (2, .int minute)], [.ref (ad 2), .int (Int32.ofNat j)])) rfl ?_
      refine y_callV (kc := 2) (ks := 20) hS tq_X8_drawn rfl (As := []) rfl cv_X8_384 (hX1.1 2 _ rfl) (m_X1_wide hS hX1) rfl (by decide) (Nat.le_of_ble_eq_true rfl) (fun r7 G7 q7 => ?_) (fun _ _ h9 => h9.elim)
      obtain ⟨rfl, e7⟩ := q7
      have e7 := e7.symm
      subst e7
      refine y_blk 0 tq_X8_drawn (z := (45, [(6, .int (Int32.ofNat j)), (5, .ref b), (3, .long w), (0, .ref (ad 1)), (1, .int row), (2, .int minute)], [.int (σ.2.2.1 0), .int (Int32.ofNat j)])) rfl ?_
      refine y_icmp_ge tq_X8_drawn 76 rfl rfl (fun _ => ?_) (fun c1 => ?_)
      · skip
        refine y_blk 1 tq_X8_drawn (z := (78, [(6, .int (Int32.ofNat j)), (5, .ref b), (3, .long w), (0, .ref (ad 1)), (1, .int row), (2, .int minute)], [.ref b])) rfl ?_
        refine y_callV (kc := 0) (ks := 0) hS tq_X8_drawn rfl (As := []) rfl cv_X8_397 hA (m_J4_toString_0e30d hS (by decide) hB (by omega)) rfl (by decide) (Nat.le_of_ble_eq_true rfl) (fun r8 G8 q8 => ?_) (fun _ _ h9 => h9.elim)
        obtain ⟨q, rfl, hst, kt8⟩ := q8
        have kt9 : yTg fD G G8 := kt.trans (kt8.narrow (fun t h9 => by omega))
        refine y_blk 0 tq_X8_drawn (z := (81, [(6, .int (Int32.ofNat j)), (5, .ref b), (3, .long w), (0, .ref (ad 1)), (1, .int row), (2, .int minute)], [.ref q])) rfl ?_
        exact y_aret tq_X8_drawn rfl rfl (Or.inl ⟨_, rfl⟩) (Or.inr ⟨_, rfl⟩) ⟨⟨_, rfl⟩, σ, hX.kp2 kt9 (fun t _ h9 => Or.inl (by omega)), kt9.kX, xkn.rfl'⟩
      · skip
        refine y_blk 3 tq_X8_drawn (z := (52, [(6, .int (Int32.ofNat j)), (5, .ref b), (3, .long w), (0, .ref (ad 1)), (1, .int row), (2, .int minute)], [.ref (ad 1), .ref (ad 1), .ref b])) rfl ?_
        refine y_get hS tq_X8_drawn (v := .ref (ad 2)) rfl fg_X8_10_X8 (hX1.1 1 _ rfl) rfl ?_
        refine y_blk 2 tq_X8_drawn (z := (58, [(6, .int (Int32.ofNat j)), (5, .ref b), (3, .long w), (0, .ref (ad 1)), (1, .int row), (2, .int minute)], [.int (Int32.ofNat j), .int row, .ref (ad 2), .ref (ad 1), .ref b])) rfl ?_
        refine y_callV (kc := 2) (ks := 20) hS tq_X8_drawn rfl (As := [.int row, .int (Int32.ofNat j)]) rfl cv_X8_387 (hX1.1 2 _ rfl) (m_X1_cellOf hS hX1 row (Int32.ofNat j)) rfl (by decide) (Nat.le_of_ble_eq_true rfl) (fun r8 G8 q8 => ?_) (fun _ _ h9 => h9.elim)
        obtain ⟨e0_, e8⟩ := q8
        generalize xcof (σ.2.2.1 0) (σ.2.2.1 1) row (Int32.ofNat j) = x at e0_
        subst e0_
        have e8 := e8.symm
        subst e8
        refine y_blk 2 tq_X8_drawn (z := (63, [(6, .int (Int32.ofNat j)), (5, .ref b), (3, .long w), (0, .ref (ad 1)), (1, .int row), (2, .int minute)], [.long w, .int minute, .int x, .ref (ad 1), .ref b])) rfl ?_
        refine y_callV (kc := 2) (ks := 20) hS tq_X8_drawn rfl (As := [.int x, .int minute, .long w]) rfl cv_X8_389 (hX1.1 1 _ rfl) (m_X8_signOf hS hX1 x minute w) rfl (by decide) (Nat.le_of_ble_eq_true rfl) (fun r9 G9 q9 => ?_) (fun _ _ h9 => h9.elim)
        obtain ⟨⟨y, hy, rfl⟩, e9⟩ := q9
        have e9 := e9.symm
        subst e9
        refine y_blk 0 tq_X8_drawn (z := (66, [(6, .int (Int32.ofNat j)), (5, .ref b), (3, .long w), (0, .ref (ad 1)), (1, .int row), (2, .int minute)], [.int y, .ref b])) rfl ?_
        refine y_callV (kc := 2) (ks := 20) hS tq_X8_drawn rfl (As := [.int y]) rfl cv_X8_393 hA (m_J4_append_cf468 hS (by decide) hB (by omega) hy) rfl (by decide) (Nat.le_of_ble_eq_true rfl) (fun r10 G10 q10 => ?_) (fun _ _ h9 => h9.elim)
        obtain ⟨rfl, hB10, kt10⟩ := q10
        refine y_blk 3 tq_X8_drawn (z := (36, [(6, .int ((Int32.ofNat j) + 1)), (5, .ref b), (3, .long w), (0, .ref (ad 1)), (1, .int row), (2, .int minute)], [])) rfl ?_
        refine y_pick (L2 := [(6, .int (Int32.ofNat j + 1)), (5, .ref b), (3, .long w), (0, .ref (ad 1)), (1, .int row), (2, .int minute)]) [0, 1, 2, 3, 4, 5] rfl ?_
        rw [yofS]
        exact ih (j + 1) G10 (by omega) hB10 (kt.trans (kt10.narrow (fun t h9 => by omega)))
  refine y_blk 3 tq_X8_drawn (z := (36, [(6, .int 0), (5, .ref b), (3, .long w), (0, .ref (ad 1)), (1, .int row), (2, .int minute)], [])) rfl ?_
  refine y_pick (L2 := [(6, .int 0), (5, .ref b), (3, .long w), (0, .ref (ad 1)), (1, .int row), (2, .int minute)]) [0, 1, 2, 3, 4, 5] rfl ?_
  exact J36 8 0 G6 rfl hB6 kt6
set_option maxHeartbeats 4000000 in
set_option maxRecDepth 100000 in
theorem m_X12_onCellB {l : Launch} {S0 : State} {A0 : Array Value} {D : va_G} {aC : Nat → ClassId} {ic : Int32 → Nat} {de : Nat} {ad : Nat → Nat} {G : AH} {ρ : RS} (hS : yS l S0 A0 D aC) (hI : yIc S0 ic de) (hX : atR aC ic de ad G ρ) (cell : Int32) (minute : Int32) : yM l S0 D yX12_onCell cX12_onCell 5 (some .int) 19 0 0 [.ref (ad 200), .int cell, .int minute] G (fun r G1 => (∃ v : Int32, (0 ≤ v.toInt ∧ v.toInt < 64) ∧ r = some (.int v)) ∧ G1 = G) (fun _ _ => False) := by
  refine yM.ofK K_X12_onCell rfl (by decide) (Nat.le_of_ble_eq_true rfl) ?_
  have J5 : ∀ (n5 : Nat) (v5_3 : Int32) (v5_4 : Int32) (h0_5 : 0 ≤ v5_4.toInt) (hv5 : 0 ≤ v5_3.toInt ∧ v5_3.toInt < 64), (((Int32.ofNat (rZ ρ 212)) : Int32).toInt - v5_4.toInt).toNat = n5 → Y l S0 D K_X12_onCell 19 0 0 (fun r G1 => (∃ v : Int32, (0 ≤ v.toInt ∧ v.toInt < 64) ∧ r = some (.int v)) ∧ G1 = G) (fun _ _ => False) 5 [(0, .ref (ad 200)), (1, .int cell), (2, .int minute), (3, .int v5_3), (4, .int v5_4)] [] G 0 0 := by
    intro n5
    induction n5 using Nat.strongRecOn with
    | _ n5 ih5 =>
    intro v5_3 v5_4 h0_5 hv5 hn5
    subst hn5
    have J50 : ∀ (w50_0 : Int32) (c16 : ¬ ((Int32.ofNat (rZ ρ 212)) : Int32) ≤ v5_4) (hw50 : 0 ≤ (v5_3 ||| w50_0).toInt ∧ (v5_3 ||| w50_0).toInt < 64), Y l S0 D K_X12_onCell 19 0 0 (fun r G1 => (∃ v : Int32, (0 ≤ v.toInt ∧ v.toInt < 64) ∧ r = some (.int v)) ∧ G1 = G) (fun _ _ => False) 50 [(0, .ref (ad 200)), (1, .int cell), (2, .int minute), (3, .int v5_3), (4, .int v5_4)] [.int w50_0, .int v5_3] G 0 0 := by
      intro w50_0 c16 hw50
      have hn16 := hX.2.le10 212 (by decide)
      have b16 : v5_4.toInt < rZ ρ 212 := yIy (by omega) h0_5 c16
      have d16 : Int32.toNatClampNeg v5_4 < rZ ρ 212 := yIx h0_5 b16
      refine y_blk 4 tq_X12_onCell (z := (5, [(4, .int (v5_4 + 1)), (3, .int (v5_3 ||| w50_0)), (0, .ref (ad 200)), (1, .int cell), (2, .int minute)], [])) rfl ?_
      refine y_pick (L2 := [(0, .ref (ad 200)), (1, .int cell), (2, .int minute), (3, .int (v5_3 ||| w50_0)), (4, .int (v5_4 + 1))]) [2, 3, 4, 1, 0] rfl ?_
      exact ih5 _ (by exact ydec c16) (v5_3 ||| w50_0) (v5_4 + 1) (by first | decide | assumption | exact Int.le_refl _ | exact yposgeL (by assumption) c16) hw50 rfl
    refine y_blk 2 tq_X12_onCell (z := (8, [(0, .ref (ad 200)), (1, .int cell), (2, .int minute), (3, .int v5_3), (4, .int v5_4)], [.ref (ad 200), .int v5_4])) rfl ?_
    refine y_get hS tq_X12_onCell (v := .ref (ad 212)) rfl fg_X12_27_X12 hX.m rfl ?_
    refine y_blk 0 tq_X12_onCell (z := (11, [(0, .ref (ad 200)), (1, .int cell), (2, .int minute), (3, .int v5_3), (4, .int v5_4)], [.ref (ad 212), .int v5_4])) rfl ?_
    refine y_callF hS tq_X12_onCell rfl (As := []) rfl cf_X12_58 (Or.inl ⟨_, (hX.ls 212 (by decide)).1⟩) (m_Jsize hS (hX.ls 212 (by decide))) rfl (by decide) (Nat.le_of_ble_eq_true rfl) (fun r11 Gc11 q11 => ?_) (fun _ _ h9 => h9.elim)
    obtain ⟨rfl, eG11⟩ := q11
    have eG11 := eG11.symm
    subst eG11
    refine y_blk 0 tq_X12_onCell (z := (16, [(0, .ref (ad 200)), (1, .int cell), (2, .int minute), (3, .int v5_3), (4, .int v5_4)], [.int (Int32.ofNat (rZ ρ 212)), .int v5_4])) rfl ?_
    refine y_icmp_ge tq_X12_onCell 58 rfl rfl (fun c16 => ?_) (fun c16 => ?_)
    · skip
      refine y_blk 1 tq_X12_onCell (z := (59, [(0, .ref (ad 200)), (1, .int cell), (2, .int minute), (3, .int v5_3), (4, .int v5_4)], [.int v5_3])) rfl ?_
      exact y_iret tq_X12_onCell rfl rfl (⟨⟨_, hv5, rfl⟩, rfl⟩)
    · skip
      have hn16 := hX.2.le10 212 (by decide)
      have b16 : v5_4.toInt < rZ ρ 212 := yIy (by omega) h0_5 c16
      have d16 : Int32.toNatClampNeg v5_4 < rZ ρ 212 := yIx h0_5 b16
      refine y_blk 2 tq_X12_onCell (z := (21, [(0, .ref (ad 200)), (1, .int cell), (2, .int minute), (3, .int v5_3), (4, .int v5_4)], [.ref (ad 200), .int v5_3])) rfl ?_
      refine y_get hS tq_X12_onCell (v := .ref (ad 212)) rfl fg_X12_27_X12 hX.m rfl ?_
      refine y_blk 1 tq_X12_onCell (z := (26, [(0, .ref (ad 200)), (1, .int cell), (2, .int minute), (3, .int v5_3), (4, .int v5_4)], [.int v5_4, .ref (ad 212), .int v5_3])) rfl ?_
      refine y_callF hS tq_X12_onCell rfl (As := [.int v5_4]) rfl cf_X12_80 (Or.inl ⟨_, (hX.ls 212 (by decide)).1⟩) (m_Rgu hS hX (by assumption) (by assumption)) rfl (by decide) (Nat.le_of_ble_eq_true rfl) (fun r26 Gc26 q26 => ?_) (fun _ _ h9 => h9.elim)
      obtain ⟨rfl, eG26⟩ := q26
      have eG26 := eG26.symm
      subst eG26
      have d26 : (Int32.toNatClampNeg v5_4) < rZ ρ 212 := yIx (by assumption) (by assumption)
      refine y_blk 0 tq_X12_onCell (z := (31, [(0, .ref (ad 200)), (1, .int cell), (2, .int minute), (3, .int v5_3), (4, .int v5_4)], [.ref (ad (360 + (Int32.toNatClampNeg v5_4))), .int v5_3])) rfl ?_
      refine y_castG hS tq_X12_onCell rfl kc_X12_84 (Or.inl ⟨_, (hX.gu (by assumption))⟩) ?_
      refine y_blk 1 tq_X12_onCell (z := (35, [(0, .ref (ad 200)), (1, .int cell), (2, .int minute), (3, .int v5_3), (4, .int v5_4)], [.int minute, .ref (ad (360 + (Int32.toNatClampNeg v5_4))), .int v5_3])) rfl ?_
      refine y_callV hS tq_X12_onCell rfl (As := [.int minute]) rfl cv_X12_124 (hX.gu (by assumption)) (m_X10_place hS hI hX (k := (Int32.toNatClampNeg v5_4)) (by assumption) minute) rfl (by decide) (Nat.le_of_ble_eq_true rfl) (fun r35 Gc35 q35 => ?_) (fun E9 G9 h9 => h9.elim)
      obtain ⟨⟨x35, hr_x35, rfl⟩, eG35⟩ := q35
      have eG35 := eG35.symm
      subst eG35
      refine y_blk 1 tq_X12_onCell (z := (39, [(0, .ref (ad 200)), (1, .int cell), (2, .int minute), (3, .int v5_3), (4, .int v5_4)], [.int cell, .int x35, .int v5_3])) rfl ?_
      refine y_icmp_ne tq_X12_onCell 49 rfl rfl (fun c39 => ?_) (fun c39 => ?_)
      · skip
        refine y_blk 1 tq_X12_onCell (z := (50, [(0, .ref (ad 200)), (1, .int cell), (2, .int minute), (3, .int v5_3), (4, .int v5_4)], [.int 0, .int v5_3])) rfl ?_
        exact J50 0 (by exact c16) (yor0 hv5)
      · skip
        refine y_blk 4 tq_X12_onCell (z := (50, [(0, .ref (ad 200)), (1, .int cell), (2, .int minute), (3, .int v5_3), (4, .int v5_4)], [.int (1 <<< (v5_4 &&& 31)), .int v5_3])) rfl ?_
        exact J50 (1 <<< (v5_4 &&& 31)) (by exact c16) (yor6 hv5 h0_5 (by have := hX.2.2.1.2.2.1; omega))
  refine y_blk 4 tq_X12_onCell (z := (5, [(4, .int 0), (3, .int 0), (0, .ref (ad 200)), (1, .int cell), (2, .int minute)], [])) rfl ?_
  refine y_pick (L2 := [(0, .ref (ad 200)), (1, .int cell), (2, .int minute), (3, .int 0), (4, .int 0)]) [2, 3, 4, 1, 0] rfl ?_
  exact J5 _ 0 0 (by first | decide | assumption | exact Int.le_refl _ | exact yposgeL (by assumption) c16) ⟨by decide, by decide⟩ rfl
abbrev fN : Nat → Prop := fun t => t < 500 ∨ 600 ≤ t
theorem rcellOf {ρ : RS} (h : rb ρ) {row : Int32} {j : Nat} (h1 : 0 ≤ row.toInt) (h2 : row.toInt ≤ (rI ρ 2).toInt - 1) (h3 : (j : Int) < (rI ρ 1).toInt) : (row * rI ρ 1).toInt = row.toInt * (rI ρ 1).toInt ∧ (row * rI ρ 1 + Int32.ofNat j).toInt = row.toInt * (rI ρ 1).toInt + j ∧ rcell ρ (row * rI ρ 1 + Int32.ofNat j) := by
  rcases h.1 with ⟨-, q⟩ | ⟨w1, w2, w3, w4, hN⟩
  · rw [q] at h2
    have e0 : (0 : Int32).toInt = 0 := by decide
    omega
  · have a1 : row.toInt * (rI ρ 1).toInt ≤ 7 * 8 := Int.mul_le_mul (by omega) w2 (by omega) (by omega)
    have a0 : 0 ≤ row.toInt * (rI ρ 1).toInt := Int.mul_nonneg h1 (by omega)
    have e1 : (row * rI ρ 1).toInt = row.toInt * (rI ρ 1).toInt := ymul (by omega) (by omega)
    have e2 : (row * rI ρ 1 + Int32.ofNat j).toInt = row.toInt * (rI ρ 1).toInt + j := by rw [yadd (by rw [e1, yofN (by omega)]; omega) (by rw [e1, yofN (by omega)]; omega), e1, yofN (by omega)]
    have a2 : row.toInt * (rI ρ 1).toInt ≤ ((rI ρ 2).toInt - 1) * (rI ρ 1).toInt := Int.mul_le_mul_of_nonneg_right h2 (by omega)
    have a3 : ((rI ρ 2).toInt - 1) * (rI ρ 1).toInt = (rI ρ 1).toInt * (rI ρ 2).toInt - (rI ρ 1).toInt := by rw [Int.sub_mul, Int.one_mul, Int.mul_comm]
    exact ⟨e1, e2, by rw [e2]; omega, by rw [e2]; omega⟩
set_option maxHeartbeats 4000000 in
set_option maxRecDepth 100000 in
theorem m_X12_drawn {l : Launch} {S0 : State} {A0 : Array Value} {D : va_G} {aC : Nat → ClassId} {ic : Int32 → Nat} {de : Nat} {ad : Nat → Nat} {G : AH} {ρ : RS} (hS : yS l S0 A0 D aC) (hI : yIc S0 ic de) (hX : atR aC ic de ad G ρ) (row : Int32) (minute : Int32) : yM l S0 D yX12_drawn cX12_drawn 7 (some (.object "java/lang/String")) 30 36 360 [.ref (ad 200), .int row, .int minute] G (fun r G1 => (∃ v : Nat, r = some (.ref v)) ∧ ∃ (ad1 : Nat → Nat) (ρ1 : RS), atR aC ic de ad1 G1 ρ1 ∧ ad1 200 = ad 200 ∧ yTg kR G G1 ∧ rSm ρ ρ1) (fun _ _ => False) := by
  refine yM.ofK K_X12_drawn rfl (by decide) (Nat.le_of_ble_eq_true rfl) ?_
  obtain ⟨z300, hZ300, hL300⟩ := yLit_300 hS
  obtain ⟨z316, hZ316, hL316⟩ := yLit_316 hS
  obtain ⟨z318, hZ318, hL318⟩ := yLit_318 hS
  obtain ⟨z320, hZ320, hL320⟩ := yLit_320 hS
  obtain ⟨z322, hZ322, hL322⟩ := yLit_322 hS
  obtain ⟨z324, hZ324, hL324⟩ := yLit_324 hS
  refine y_blk 2 tq_X12_drawn (z := (2, [(0, .ref (ad 200)), (1, .int row), (2, .int minute)], [.int 0, .ref (ad 200)])) rfl ?_
  refine y_put hS tq_X12_drawn rfl fp_X12_51_X12 hX.m (by omega) rfl rfl (Nat.le_of_ble_eq_true rfl) ?_
  have hX2 : atR aC ic de ad (yup G (ad 200) (200, rMod ad (rin ρ 0 0))) (rin ρ 0 0) := atR.setIb hX rfl rfl (hX.2.setI (by decide))
  have kt2 : yTg kR G (yup G (ad 200) (200, rMod ad (rin ρ 0 0))) := (yTg.rfl' (f := kR) (G := G)).trans (yTg.up hX.m (kR_n (by omega) (by omega)))
  have r2 : rSm ρ (rin ρ 0 0) := rSm.rfl'.in0
  change Y _ _ _ _ _ _ _ _ _ _ _ _ (yup G (ad 200) (200, rMod ad (rin ρ 0 0))) _ _
  generalize yup G (ad 200) (200, rMod ad (rin ρ 0 0)) = G2 at hX2 kt2 ⊢
  generalize rin ρ 0 0 = ρ2 at hX2 r2 ⊢
  refine y_blk 3 tq_X12_drawn (z := (8, [(0, .ref (ad 200)), (1, .int row), (2, .int minute)], [.ref (ad 200), .int 0, .int row])) rfl ?_
  refine y_get hS tq_X12_drawn (v := .int (rI ρ2 2)) rfl fg_X12_143_X12 hX2.m rfl ?_
  refine y_blk 2 tq_X12_drawn (z := (13, [(0, .ref (ad 200)), (1, .int row), (2, .int minute)], [.int ((rI ρ2 2) - 1), .int 0, .int row])) rfl ?_
  refine y_callS (kc := 36) (ks := 360) hS tq_X12_drawn rfl (As := [.int row, .int 0, .int (rI ρ2 2 - 1)]) rfl cs_X12_54 (m_X12_in hS row 0 (rI ρ2 2 - 1)) rfl (by decide) (Nat.le_of_ble_eq_true rfl) (fun r1 G1 q1 => ?_) (fun _ _ h9 => h9.elim)
  obtain ⟨rfl, e1⟩ := q1
  have e1 := e1.symm
  subst e1
  refine y_blk 0 tq_X12_drawn (z := (16, [(0, .ref (ad 200)), (1, .int row), (2, .int minute)], [.int (if 0 ≤ row ∧ row ≤ rI ρ2 2 - 1 then 1 else 0)])) rfl ?_
  refine y_if_ne tq_X12_drawn 28 rfl rfl (fun c1 => ?_) (fun _ => ?_)
  rotate_left
  · skip
    refine y_blk 2 tq_X12_drawn (z := (21, [(0, .ref (ad 200)), (1, .int row), (2, .int minute)], [.int 1, .ref (ad 200)])) rfl ?_
    refine y_put hS tq_X12_drawn rfl fp_X12_51_X12 hX2.m (by omega) rfl rfl (Nat.le_of_ble_eq_true rfl) ?_
    have hX3 : atR aC ic de ad (yup G2 (ad 200) (200, rMod ad (rin ρ2 0 1))) (rin ρ2 0 1) := atR.setIb hX2 rfl rfl (hX2.2.setI (by decide))
    have kt3 : yTg kR G (yup G2 (ad 200) (200, rMod ad (rin ρ2 0 1))) := (kt2).trans (yTg.up hX2.m (kR_n (by omega) (by omega)))
    have r3 : rSm ρ (rin ρ2 0 1) := r2.in0
    change Y _ _ _ _ _ _ _ _ _ _ _ _ (yup G2 (ad 200) (200, rMod ad (rin ρ2 0 1))) _ _
    generalize yup G2 (ad 200) (200, rMod ad (rin ρ2 0 1)) = G3 at hX3 kt3 ⊢
    generalize rin ρ2 0 1 = ρ3 at hX3 r3 ⊢
    refine y_blk 0 tq_X12_drawn (z := (24, [(0, .ref (ad 200)), (1, .int row), (2, .int minute)], [])) rfl ?_
    refine y_ldcwS tq_X12_drawn rfl hZ300 ?_
    refine y_blk 0 tq_X12_drawn (z := (27, [(0, .ref (ad 200)), (1, .int row), (2, .int minute)], [.ref z300])) rfl ?_
    exact y_aret tq_X12_drawn rfl rfl (Or.inl ⟨_, rfl⟩) (Or.inr ⟨_, rfl⟩) ⟨⟨_, rfl⟩, ad, _, hX3, rfl, kt3, r3⟩
  refine y_blk 1 tq_X12_drawn (z := (29, [(0, .ref (ad 200)), (1, .int row), (2, .int minute)], [.int minute])) rfl ?_
  have hrow := yif1 c1
  refine y_callS (kc := 36) (ks := 360) hS tq_X12_drawn rfl (As := [.int minute]) rfl cs_X12_163 (m_X12_isMinute hS minute) rfl (by decide) (Nat.le_of_ble_eq_true rfl) (fun r2_ G1 q2 => ?_) (fun _ _ h9 => h9.elim)
  obtain ⟨rfl, e2⟩ := q2
  have e2 := e2.symm
  subst e2
  refine y_blk 0 tq_X12_drawn (z := (32, [(0, .ref (ad 200)), (1, .int row), (2, .int minute)], [.int (if 0 ≤ minute ∧ minute ≤ 239 then 1 else 0)])) rfl ?_
  refine y_if_ne tq_X12_drawn 44 rfl rfl (fun c2 => ?_) (fun _ => ?_)
  rotate_left
  · skip
    refine y_blk 2 tq_X12_drawn (z := (37, [(0, .ref (ad 200)), (1, .int row), (2, .int minute)], [.int 2, .ref (ad 200)])) rfl ?_
    refine y_put hS tq_X12_drawn rfl fp_X12_51_X12 hX2.m (by omega) rfl rfl (Nat.le_of_ble_eq_true rfl) ?_
    have hX3 : atR aC ic de ad (yup G2 (ad 200) (200, rMod ad (rin ρ2 0 2))) (rin ρ2 0 2) := atR.setIb hX2 rfl rfl (hX2.2.setI (by decide))
    have kt3 : yTg kR G (yup G2 (ad 200) (200, rMod ad (rin ρ2 0 2))) := (kt2).trans (yTg.up hX2.m (kR_n (by omega) (by omega)))
    have r3 : rSm ρ (rin ρ2 0 2) := r2.in0
    change Y _ _ _ _ _ _ _ _ _ _ _ _ (yup G2 (ad 200) (200, rMod ad (rin ρ2 0 2))) _ _
    generalize yup G2 (ad 200) (200, rMod ad (rin ρ2 0 2)) = G3 at hX3 kt3 ⊢
    generalize rin ρ2 0 2 = ρ3 at hX3 r3 ⊢
    refine y_blk 0 tq_X12_drawn (z := (40, [(0, .ref (ad 200)), (1, .int row), (2, .int minute)], [])) rfl ?_
    refine y_ldcwS tq_X12_drawn rfl hZ300 ?_
    refine y_blk 0 tq_X12_drawn (z := (43, [(0, .ref (ad 200)), (1, .int row), (2, .int minute)], [.ref z300])) rfl ?_
    exact y_aret tq_X12_drawn rfl rfl (Or.inl ⟨_, rfl⟩) (Or.inr ⟨_, rfl⟩) ⟨⟨_, rfl⟩, ad, _, hX3, rfl, kt3, r3⟩
  refine y_blk 0 tq_X12_drawn (z := (44, [(0, .ref (ad 200)), (1, .int row), (2, .int minute)], [])) rfl ?_
  refine y_new 500 hS tq_X12_drawn (kc := 35) (ks := 356) rfl nw_X12_302 (fun b hb => ?_)
  have hle : yLe G2 (yup G2 b (500, .inr (1, [.null, .int 0, .int 0, .int 0]))) := yLe.new hb
  have hB0 : (yup G2 b (500, .inr (1, [.null, .int 0, .int 0, .int 0]))) b = some (500, .inr (1, [.null, .int 0, .int 0, .int 0])) := yup_s _ _ _
  generalize yup G2 b (500, .inr (1, [.null, .int 0, .int 0, .int 0])) = G0 at hle hB0 ⊢
  refine y_blk 1 tq_X12_drawn (z := (48, [(0, .ref (ad 200)), (1, .int row), (2, .int minute)], [.ref b, .ref b])) rfl ?_
  refine y_callI (kc := 34) (ks := 340) hS tq_X12_drawn rfl (As := []) rfl ci_X12_304 (m_J4_init_da8c8 hS (by decide) hB0) rfl (by decide) (Nat.le_of_ble_eq_true rfl) (fun r6 G6 q6 => ?_) (fun _ _ h9 => h9.elim)
  obtain ⟨rfl, hB6, kt6_⟩ := q6
  have kt6 : yTg fN G2 G6 := (yTg.le hle).trans (kt6_.narrow (fun t h9 => by omega))
  have hX6 := hX2.kp (kt6.narrow (fun t h9 => Or.inl (by omega)))
  refine y_blk 3 tq_X12_drawn (z := (54, [(3, .ref b), (0, .ref (ad 200)), (1, .int row), (2, .int minute)], [.ref (ad 200), .int row])) rfl ?_
  refine y_get hS tq_X12_drawn (v := .int (rI ρ2 1)) rfl fg_X12_92_X12 hX6.m rfl ?_
  refine y_blk 2 tq_X12_drawn (z := (60, [(4, .int (row * (rI ρ2 1))), (3, .ref b), (0, .ref (ad 200)), (1, .int row), (2, .int minute)], [])) rfl ?_
  have hrw : 0 ≤ row.toInt ∧ row.toInt ≤ (rI ρ2 2).toInt - 1 ∧ 3 ≤ (rI ρ2 1).toInt ∧ (rI ρ2 1).toInt ≤ 8 := by
    have e0 : (0 : Int32).toInt = 0 := by decide
    have e1 : (1 : Int32).toInt = 1 := by decide
    have g1 := yle.mp hrow.1
    have g2 := yle.mp hrow.2
    rcases hX2.2.1 with ⟨-, q⟩ | ⟨w1, w2, w3, w4, hN⟩
    · rw [q] at g2
      have e9 : ((0 : Int32) - 1).toInt = -1 := by decide
      omega
    · rw [ysub (by omega) (by omega)] at g2
      omega
  obtain ⟨hr1, hr2, hw1, hw2⟩ := hrw
  have J60 : ∀ (k j : Nat) (G1 : AH), j + k = 8 → ySB aC G1 b 500 j → yTg fN G2 G1 → Y l S0 D K_X12_drawn 30 36 360 (fun r G1 => (∃ v : Nat, r = some (.ref v)) ∧ ∃ (ad1 : Nat → Nat) (ρ1 : RS), atR aC ic de ad1 G1 ρ1 ∧ ad1 200 = ad 200 ∧ yTg kR G G1 ∧ rSm ρ ρ1) (fun _ _ => False) 60 [(4, .int (row * rI ρ2 1 + Int32.ofNat j)), (3, .ref b), (0, .ref (ad 200)), (1, .int row), (2, .int minute)] [] G1 (4 * k + 2) (40 * k + 20) := by
    intro k
    induction k with
    | zero =>
      intro j G1 hj hB kt
      have hX1 := hX2.kp (kt.narrow (fun t h9 => Or.inl (by omega)))
      obtain ⟨v, f, ml, hA, hV, hF⟩ := id hB
      have eJ := yofN (n := j) (by omega)
      refine y_blk 3 tq_X12_drawn (z := (64, [(4, .int (row * rI ρ2 1 + Int32.ofNat j)), (3, .ref b), (0, .ref (ad 200)), (1, .int row), (2, .int minute)], [.ref (ad 200), .int row, .int (row * rI ρ2 1 + Int32.ofNat j)])) rfl ?_
      refine y_get hS tq_X12_drawn (v := .int (rI ρ2 1)) rfl fg_X12_92_X12 hX1.m rfl ?_
      refine y_blk 2 tq_X12_drawn (z := (69, [(4, .int (row * rI ρ2 1 + Int32.ofNat j)), (3, .ref b), (0, .ref (ad 200)), (1, .int row), (2, .int minute)], [.ref (ad 200), .int (row * (rI ρ2 1)), .int (row * rI ρ2 1 + Int32.ofNat j)])) rfl ?_
      refine y_get hS tq_X12_drawn (v := .int (rI ρ2 1)) rfl fg_X12_92_X12 hX1.m rfl ?_
      refine y_blk 1 tq_X12_drawn (z := (73, [(4, .int (row * rI ρ2 1 + Int32.ofNat j)), (3, .ref b), (0, .ref (ad 200)), (1, .int row), (2, .int minute)], [.int ((row * (rI ρ2 1)) + (rI ρ2 1)), .int (row * rI ρ2 1 + Int32.ofNat j)])) rfl ?_
      have hro := rcellOf (j := 0) hX2.2 hr1 hr2 (by omega)
      have eW : (row * rI ρ2 1 + rI ρ2 1).toInt = row.toInt * (rI ρ2 1).toInt + (rI ρ2 1).toInt := by
        have a0 : 0 ≤ row.toInt * (rI ρ2 1).toInt := Int.mul_nonneg hr1 (by omega)
        have a9 := hro.2.2.2
        rw [hro.2.1] at a9
        have n64 := hX2.2.n64
        rw [yadd (by rw [hro.1]; omega) (by rw [hro.1]; omega), hro.1]
      refine y_icmp_ge tq_X12_drawn 219 rfl rfl (fun _ => ?_) (fun c1 => ?_)
      · skip
        refine y_blk 1 tq_X12_drawn (z := (220, [(4, .int (row * rI ρ2 1 + Int32.ofNat j)), (3, .ref b), (0, .ref (ad 200)), (1, .int row), (2, .int minute)], [.ref b])) rfl ?_
        refine y_less (k2 := 0 + 2) (n2 := 0 + 20) (by omega) (by omega) ?_
        refine y_callV (kc := 0) (ks := 0) hS tq_X12_drawn rfl (As := []) rfl cv_X12_312 hA (m_J4_toString_0e30d hS (by decide) hB (by omega)) rfl (by decide) (Nat.le_of_ble_eq_true rfl) (fun r8 G8 q8 => ?_) (fun _ _ h9 => h9.elim)
        obtain ⟨q, rfl, hst, kt8⟩ := q8
        have kt9 : yTg fN G2 G8 := kt.trans (kt8.narrow (fun t h9 => by omega))
        refine y_blk 0 tq_X12_drawn (z := (223, [(4, .int (row * rI ρ2 1 + Int32.ofNat j)), (3, .ref b), (0, .ref (ad 200)), (1, .int row), (2, .int minute)], [.ref q])) rfl ?_
        exact y_aret tq_X12_drawn rfl rfl (Or.inl ⟨_, rfl⟩) (Or.inr ⟨_, rfl⟩) ⟨⟨_, rfl⟩, ad, _, hX2.kp (kt9.narrow (fun t h9 => Or.inl (by omega))), rfl, kt2.trans (kt9.narrow (fun t h9 => by rcases h9 with h9 | h9 <;> omega)), r2⟩
      · have c3 : ¬ (row * rI ρ2 1 + rI ρ2 1).toInt ≤ (row * rI ρ2 1 + Int32.ofNat j).toInt := fun q => c1 (yle.mpr q)
        have eC : (row * rI ρ2 1 + Int32.ofNat j).toInt = row.toInt * (rI ρ2 1).toInt + j := by
          have a0 : 0 ≤ row.toInt * (rI ρ2 1).toInt := Int.mul_nonneg hr1 (by omega)
          have a9 := hro.2.2.2
          rw [hro.2.1] at a9
          have n64 := hX2.2.n64
          rw [yadd (by rw [hro.1, eJ]; omega) (by rw [hro.1, eJ]; omega), hro.1, eJ]
        rw [eW, eC] at c3
        exfalso
        omega
    | succ k ih =>
      intro j G1 hj hB kt
      have hX1 := hX2.kp (kt.narrow (fun t h9 => Or.inl (by omega)))
      obtain ⟨v, f, ml, hA, hV, hF⟩ := id hB
      have eJ := yofN (n := j) (by omega)
      refine y_blk 3 tq_X12_drawn (z := (64, [(4, .int (row * rI ρ2 1 + Int32.ofNat j)), (3, .ref b), (0, .ref (ad 200)), (1, .int row), (2, .int minute)], [.ref (ad 200), .int row, .int (row * rI ρ2 1 + Int32.ofNat j)])) rfl ?_
      refine y_get hS tq_X12_drawn (v := .int (rI ρ2 1)) rfl fg_X12_92_X12 hX1.m rfl ?_
      refine y_blk 2 tq_X12_drawn (z := (69, [(4, .int (row * rI ρ2 1 + Int32.ofNat j)), (3, .ref b), (0, .ref (ad 200)), (1, .int row), (2, .int minute)], [.ref (ad 200), .int (row * (rI ρ2 1)), .int (row * rI ρ2 1 + Int32.ofNat j)])) rfl ?_
      refine y_get hS tq_X12_drawn (v := .int (rI ρ2 1)) rfl fg_X12_92_X12 hX1.m rfl ?_
      refine y_blk 1 tq_X12_drawn (z := (73, [(4, .int (row * rI ρ2 1 + Int32.ofNat j)), (3, .ref b), (0, .ref (ad 200)), (1, .int row), (2, .int minute)], [.int ((row * (rI ρ2 1)) + (rI ρ2 1)), .int (row * rI ρ2 1 + Int32.ofNat j)])) rfl ?_
      have hro := rcellOf (j := 0) hX2.2 hr1 hr2 (by omega)
      have eW : (row * rI ρ2 1 + rI ρ2 1).toInt = row.toInt * (rI ρ2 1).toInt + (rI ρ2 1).toInt := by
        have a0 : 0 ≤ row.toInt * (rI ρ2 1).toInt := Int.mul_nonneg hr1 (by omega)
        have a9 := hro.2.2.2
        rw [hro.2.1] at a9
        have n64 := hX2.2.n64
        rw [yadd (by rw [hro.1]; omega) (by rw [hro.1]; omega), hro.1]
      refine y_icmp_ge tq_X12_drawn 219 rfl rfl (fun _ => ?_) (fun c1 => ?_)
      · skip
        refine y_blk 1 tq_X12_drawn (z := (220, [(4, .int (row * rI ρ2 1 + Int32.ofNat j)), (3, .ref b), (0, .ref (ad 200)), (1, .int row), (2, .int minute)], [.ref b])) rfl ?_
        refine y_less (k2 := 0 + 2) (n2 := 0 + 20) (by omega) (by omega) ?_
        refine y_callV (kc := 0) (ks := 0) hS tq_X12_drawn rfl (As := []) rfl cv_X12_312 hA (m_J4_toString_0e30d hS (by decide) hB (by omega)) rfl (by decide) (Nat.le_of_ble_eq_true rfl) (fun r8 G8 q8 => ?_) (fun _ _ h9 => h9.elim)
        obtain ⟨q, rfl, hst, kt8⟩ := q8
        have kt9 : yTg fN G2 G8 := kt.trans (kt8.narrow (fun t h9 => by omega))
        refine y_blk 0 tq_X12_drawn (z := (223, [(4, .int (row * rI ρ2 1 + Int32.ofNat j)), (3, .ref b), (0, .ref (ad 200)), (1, .int row), (2, .int minute)], [.ref q])) rfl ?_
        exact y_aret tq_X12_drawn rfl rfl (Or.inl ⟨_, rfl⟩) (Or.inr ⟨_, rfl⟩) ⟨⟨_, rfl⟩, ad, _, hX2.kp (kt9.narrow (fun t h9 => Or.inl (by omega))), rfl, kt2.trans (kt9.narrow (fun t h9 => by rcases h9 with h9 | h9 <;> omega)), r2⟩
      · have c3 : ¬ (row * rI ρ2 1 + rI ρ2 1).toInt ≤ (row * rI ρ2 1 + Int32.ofNat j).toInt := fun q => c1 (yle.mpr q)
        have eC : (row * rI ρ2 1 + Int32.ofNat j).toInt = row.toInt * (rI ρ2 1).toInt + j := by
          have a0 : 0 ≤ row.toInt * (rI ρ2 1).toInt := Int.mul_nonneg hr1 (by omega)
          have a9 := hro.2.2.2
          rw [hro.2.1] at a9
          have n64 := hX2.2.n64
          rw [yadd (by rw [hro.1, eJ]; omega) (by rw [hro.1, eJ]; omega), hro.1, eJ]
        rw [eW, eC] at c3
        have hcell := (rcellOf (j := j) hX2.2 hr1 hr2 (by omega)).2.2
        have ck : (row * rI ρ2 1 + Int32.ofNat j) + 1 = row * rI ρ2 1 + Int32.ofNat (j + 1) := by rw [Int32.add_assoc, yofS]
        generalize hcw : row * rI ρ2 1 + Int32.ofNat j = cw at hcell ck ⊢
        refine y_blk 3 tq_X12_drawn (z := (80, [(4, .int cw), (3, .ref b), (0, .ref (ad 200)), (1, .int row), (2, .int minute)], [.int minute, .int cw, .ref (ad 200)])) rfl ?_
        refine y_callV (kc := 4 * (k + 1) + 2) (ks := 40 * (k + 1) + 20) hS tq_X12_drawn rfl (As := [.int cw, .int minute]) rfl cv_X12_189 hX1.m (m_X12_onCellB hS hI hX1 cw minute) rfl (by decide) (Nat.le_of_ble_eq_true rfl) (fun r9 G9 q9 => ?_) (fun _ _ h9 => h9.elim)
        obtain ⟨⟨x, hx, rfl⟩, e9⟩ := q9
        have e9 := e9.symm
        subst e9
        obtain ⟨m, hm, rfl⟩ := yofE (a := x) (n := 64) hx.1 hx.2 (by decide)
        refine y_blk 3 tq_X12_drawn (z := (88, [(6, .int 0), (5, .int (Int32.ofNat m)), (4, .int cw), (3, .ref b), (0, .ref (ad 200)), (1, .int row), (2, .int minute)], [])) rfl ?_
        have J209 : ∀ (P : Nat → Prop) (q : Nat) (G3 : AH) (j6 : Int32), (∀ t, P t → t ≠ 500 ∧ t ≠ 500 + 1) → ySt P aC S0 G3 q 1 → ySB aC G3 b 500 j → yTg fN G2 G3 → Y l S0 D K_X12_drawn 30 36 360 (fun r G1 => (∃ v : Nat, r = some (.ref v)) ∧ ∃ (ad1 : Nat → Nat) (ρ1 : RS), atR aC ic de ad1 G1 ρ1 ∧ ad1 200 = ad 200 ∧ yTg kR G G1 ∧ rSm ρ ρ1) (fun _ _ => False) 209 [(6, .int j6), (5, .int (Int32.ofNat m)), (4, .int cw), (3, .ref b), (0, .ref (ad 200)), (1, .int row), (2, .int minute)] [.ref q, .ref b] G3 (4 * k + 2) (40 * k + 20) := by
          intro P q G3 j6 hP hq hB3 kt3
          obtain ⟨v3, f3, ml3, hA3, hV3, hF3⟩ := id hB3
          refine y_callV (kc := 4 * k + 2) (ks := 40 * k + 20) hS tq_X12_drawn rfl (As := [.ref q]) rfl cv_X12_305 hA3 (m_J4_append_15ec4 hS (by decide) hB3 hq (by omega) hP) rfl (by decide) (Nat.le_of_ble_eq_true rfl) (fun r10 G10 q10 => ?_) (fun _ _ h9 => h9.elim)
          obtain ⟨rfl, hB10, kt10⟩ := q10
          refine y_blk 3 tq_X12_drawn (z := (60, [(4, .int (cw + 1)), (6, .int j6), (5, .int (Int32.ofNat m)), (3, .ref b), (0, .ref (ad 200)), (1, .int row), (2, .int minute)], [])) rfl ?_
          refine y_pick (L2 := [(4, .int (cw + 1)), (3, .ref b), (0, .ref (ad 200)), (1, .int row), (2, .int minute)]) [0, 3, 4, 5, 6] rfl ?_
          rw [ck]
          exact ih (j + 1) G10 (by omega) hB10 (kt3.trans (kt10.narrow (fun t h9 => by omega)))
        have J109 : ∀ i : Nat, i < 10 → Y l S0 D K_X12_drawn 30 36 360 (fun r G1 => (∃ v : Nat, r = some (.ref v)) ∧ ∃ (ad1 : Nat → Nat) (ρ1 : RS), atR aC ic de ad1 G1 ρ1 ∧ ad1 200 = ad 200 ∧ yTg kR G G1 ∧ rSm ρ ρ1) (fun _ _ => False) 109 [(6, .int (Int32.ofNat i)), (5, .int (Int32.ofNat m)), (4, .int cw), (3, .ref b), (0, .ref (ad 200)), (1, .int row), (2, .int minute)] [] G1 (4 * (k + 1) + 2) (40 * (k + 1) + 20) := by
          intro i hi
          refine y_blk 2 tq_X12_drawn (z := (112, [(6, .int (Int32.ofNat i)), (5, .int (Int32.ofNat m)), (4, .int cw), (3, .ref b), (0, .ref (ad 200)), (1, .int row), (2, .int minute)], [.int (Int32.ofNat m), .ref b])) rfl ?_
          refine y_if_eq tq_X12_drawn 139 rfl rfl (fun _ => ?_) (fun _ => ?_)
          · refine y_less (k2 := 4 * k + 2) (n2 := 40 * k + 20) (by omega) (by omega) ?_
            refine y_blk 1 tq_X12_drawn (z := (140, [(6, .int (Int32.ofNat i)), (5, .int (Int32.ofNat m)), (4, .int cw), (3, .ref b), (0, .ref (ad 200)), (1, .int row), (2, .int minute)], [.ref (ad 200), .ref b])) rfl ?_
            refine y_get hS tq_X12_drawn (v := .ref (ad 201)) rfl fg_X12_7_X12 hX1.m rfl ?_
            refine y_blk 1 tq_X12_drawn (z := (145, [(6, .int (Int32.ofNat i)), (5, .int (Int32.ofNat m)), (4, .int cw), (3, .ref b), (0, .ref (ad 200)), (1, .int row), (2, .int minute)], [.int cw, .ref (ad 201), .ref b])) rfl ?_
            refine y_iald hS tq_X12_drawn rfl hX1.ki (yIn hcell.1 hcell.2) ?_
            refine y_blk 1 tq_X12_drawn (z := (147, [(6, .int (Int32.ofNat i)), (5, .int (Int32.ofNat m)), (4, .int cw), (3, .ref b), (0, .ref (ad 200)), (1, .int row), (2, .int minute)], [.int 1, .int (rV ρ2 201 cw.toNatClampNeg), .ref b])) rfl ?_
            refine y_icmp_ne tq_X12_drawn 156 rfl rfl (fun _ => ?_) (fun _ => ?_)
            rotate_left
            · skip
              refine y_blk 0 tq_X12_drawn (z := (150, [(6, .int (Int32.ofNat i)), (5, .int (Int32.ofNat m)), (4, .int cw), (3, .ref b), (0, .ref (ad 200)), (1, .int row), (2, .int minute)], [.ref b])) rfl ?_
              refine y_ldcwS tq_X12_drawn rfl hZ316 ?_
              refine y_blk 1 tq_X12_drawn (z := (209, [(6, .int (Int32.ofNat i)), (5, .int (Int32.ofNat m)), (4, .int cw), (3, .ref b), (0, .ref (ad 200)), (1, .int row), (2, .int minute)], [.ref z316, .ref b])) rfl ?_
              exact J209 (fun _ => False) z316 G1 (Int32.ofNat i) (fun _ h9 => h9.elim) (hL316 _ _) hB kt
            refine y_blk 1 tq_X12_drawn (z := (157, [(6, .int (Int32.ofNat i)), (5, .int (Int32.ofNat m)), (4, .int cw), (3, .ref b), (0, .ref (ad 200)), (1, .int row), (2, .int minute)], [.ref (ad 200), .ref b])) rfl ?_
            refine y_get hS tq_X12_drawn (v := .ref (ad 201)) rfl fg_X12_7_X12 hX1.m rfl ?_
            refine y_blk 1 tq_X12_drawn (z := (162, [(6, .int (Int32.ofNat i)), (5, .int (Int32.ofNat m)), (4, .int cw), (3, .ref b), (0, .ref (ad 200)), (1, .int row), (2, .int minute)], [.int cw, .ref (ad 201), .ref b])) rfl ?_
            refine y_iald hS tq_X12_drawn rfl hX1.ki (yIn hcell.1 hcell.2) ?_
            refine y_blk 1 tq_X12_drawn (z := (164, [(6, .int (Int32.ofNat i)), (5, .int (Int32.ofNat m)), (4, .int cw), (3, .ref b), (0, .ref (ad 200)), (1, .int row), (2, .int minute)], [.int 2, .int (rV ρ2 201 cw.toNatClampNeg), .ref b])) rfl ?_
            refine y_icmp_ne tq_X12_drawn 173 rfl rfl (fun _ => ?_) (fun _ => ?_)
            rotate_left
            · skip
              refine y_blk 0 tq_X12_drawn (z := (167, [(6, .int (Int32.ofNat i)), (5, .int (Int32.ofNat m)), (4, .int cw), (3, .ref b), (0, .ref (ad 200)), (1, .int row), (2, .int minute)], [.ref b])) rfl ?_
              refine y_ldcwS tq_X12_drawn rfl hZ318 ?_
              refine y_blk 1 tq_X12_drawn (z := (209, [(6, .int (Int32.ofNat i)), (5, .int (Int32.ofNat m)), (4, .int cw), (3, .ref b), (0, .ref (ad 200)), (1, .int row), (2, .int minute)], [.ref z318, .ref b])) rfl ?_
              exact J209 (fun _ => False) z318 G1 (Int32.ofNat i) (fun _ h9 => h9.elim) (hL318 _ _) hB kt
            refine y_blk 1 tq_X12_drawn (z := (174, [(6, .int (Int32.ofNat i)), (5, .int (Int32.ofNat m)), (4, .int cw), (3, .ref b), (0, .ref (ad 200)), (1, .int row), (2, .int minute)], [.ref (ad 200), .ref b])) rfl ?_
            refine y_get hS tq_X12_drawn (v := .ref (ad 201)) rfl fg_X12_7_X12 hX1.m rfl ?_
            refine y_blk 1 tq_X12_drawn (z := (179, [(6, .int (Int32.ofNat i)), (5, .int (Int32.ofNat m)), (4, .int cw), (3, .ref b), (0, .ref (ad 200)), (1, .int row), (2, .int minute)], [.int cw, .ref (ad 201), .ref b])) rfl ?_
            refine y_iald hS tq_X12_drawn rfl hX1.ki (yIn hcell.1 hcell.2) ?_
            refine y_blk 1 tq_X12_drawn (z := (181, [(6, .int (Int32.ofNat i)), (5, .int (Int32.ofNat m)), (4, .int cw), (3, .ref b), (0, .ref (ad 200)), (1, .int row), (2, .int minute)], [.int 3, .int (rV ρ2 201 cw.toNatClampNeg), .ref b])) rfl ?_
            refine y_icmp_ne tq_X12_drawn 190 rfl rfl (fun _ => ?_) (fun _ => ?_)
            rotate_left
            · skip
              refine y_blk 0 tq_X12_drawn (z := (184, [(6, .int (Int32.ofNat i)), (5, .int (Int32.ofNat m)), (4, .int cw), (3, .ref b), (0, .ref (ad 200)), (1, .int row), (2, .int minute)], [.ref b])) rfl ?_
              refine y_ldcwS tq_X12_drawn rfl hZ320 ?_
              refine y_blk 1 tq_X12_drawn (z := (209, [(6, .int (Int32.ofNat i)), (5, .int (Int32.ofNat m)), (4, .int cw), (3, .ref b), (0, .ref (ad 200)), (1, .int row), (2, .int minute)], [.ref z320, .ref b])) rfl ?_
              exact J209 (fun _ => False) z320 G1 (Int32.ofNat i) (fun _ h9 => h9.elim) (hL320 _ _) hB kt
            refine y_blk 3 tq_X12_drawn (z := (194, [(6, .int (Int32.ofNat i)), (5, .int (Int32.ofNat m)), (4, .int cw), (3, .ref b), (0, .ref (ad 200)), (1, .int row), (2, .int minute)], [.int minute, .int cw, .ref (ad 200), .ref b])) rfl ?_
            refine y_callV (kc := 4 * k + 2) (ks := 40 * k + 20) hS tq_X12_drawn rfl (As := [.int cw, .int minute]) rfl cv_X12_183 hX1.m (m_X12_isWatched hS hI hX1 cw minute hcell) rfl (by decide) (Nat.le_of_ble_eq_true rfl) (fun r11 G11 q11 => ?_) (fun _ _ h9 => h9.elim)
            obtain ⟨⟨x11, hx11, rfl⟩, e11⟩ := q11
            have e11 := e11.symm
            subst e11
            refine y_blk 0 tq_X12_drawn (z := (197, [(6, .int (Int32.ofNat i)), (5, .int (Int32.ofNat m)), (4, .int cw), (3, .ref b), (0, .ref (ad 200)), (1, .int row), (2, .int minute)], [.int x11, .ref b])) rfl ?_
            refine y_if_eq tq_X12_drawn 206 rfl rfl (fun _ => ?_) (fun _ => ?_)
            · skip
              refine y_blk 0 tq_X12_drawn (z := (206, [(6, .int (Int32.ofNat i)), (5, .int (Int32.ofNat m)), (4, .int cw), (3, .ref b), (0, .ref (ad 200)), (1, .int row), (2, .int minute)], [.ref b])) rfl ?_
              refine y_ldcwS tq_X12_drawn rfl hZ324 ?_
              exact J209 (fun _ => False) z324 G1 (Int32.ofNat i) (fun _ h9 => h9.elim) (hL324 _ _) hB kt
            · skip
              refine y_blk 0 tq_X12_drawn (z := (200, [(6, .int (Int32.ofNat i)), (5, .int (Int32.ofNat m)), (4, .int cw), (3, .ref b), (0, .ref (ad 200)), (1, .int row), (2, .int minute)], [.ref b])) rfl ?_
              refine y_ldcwS tq_X12_drawn rfl hZ322 ?_
              refine y_blk 1 tq_X12_drawn (z := (209, [(6, .int (Int32.ofNat i)), (5, .int (Int32.ofNat m)), (4, .int cw), (3, .ref b), (0, .ref (ad 200)), (1, .int row), (2, .int minute)], [.ref z322, .ref b])) rfl ?_
              exact J209 (fun _ => False) z322 G1 (Int32.ofNat i) (fun _ h9 => h9.elim) (hL322 _ _) hB kt
          · refine y_less (k2 := 4 * k + 2 + 2 + 1 + 1) (n2 := 40 * k + 20 + 20 + 16 + 4) (by omega) (by omega) ?_
            refine y_blk 0 tq_X12_drawn (z := (115, [(6, .int (Int32.ofNat i)), (5, .int (Int32.ofNat m)), (4, .int cw), (3, .ref b), (0, .ref (ad 200)), (1, .int row), (2, .int minute)], [.ref b])) rfl ?_
            refine y_new 510 hS tq_X12_drawn (kc := 4 * k + 2 + 2 + 1) (ks := 40 * k + 20 + 20 + 16) rfl nw_X12_302 (fun b2 hb2 => ?_)
            have hle2 : yLe G1 (yup G1 b2 (510, .inr (1, [.null, .int 0, .int 0, .int 0]))) := yLe.new hb2
            have hC0 : (yup G1 b2 (510, .inr (1, [.null, .int 0, .int 0, .int 0]))) b2 = some (510, .inr (1, [.null, .int 0, .int 0, .int 0])) := yup_s _ _ _
            generalize yup G1 b2 (510, .inr (1, [.null, .int 0, .int 0, .int 0])) = G20 at hle2 hC0 ⊢
            refine y_blk 1 tq_X12_drawn (z := (119, [(6, .int (Int32.ofNat i)), (5, .int (Int32.ofNat m)), (4, .int cw), (3, .ref b), (0, .ref (ad 200)), (1, .int row), (2, .int minute)], [.ref b2, .ref b2, .ref b])) rfl ?_
            refine y_callI (kc := 4 * k + 2 + 2) (ks := 40 * k + 20 + 20) hS tq_X12_drawn rfl (As := []) rfl ci_X12_304 (m_J4_init_da8c8 hS (by decide) hC0) rfl (by decide) (Nat.le_of_ble_eq_true rfl) (fun r21 G21 q21 => ?_) (fun _ _ h9 => h9.elim)
            obtain ⟨rfl, hC1, kt21⟩ := q21
            refine y_blk 0 tq_X12_drawn (z := (122, [(6, .int (Int32.ofNat i)), (5, .int (Int32.ofNat m)), (4, .int cw), (3, .ref b), (0, .ref (ad 200)), (1, .int row), (2, .int minute)], [.ref b2, .ref b])) rfl ?_
            refine y_ldcwS tq_X12_drawn rfl hZ300 ?_
            refine y_blk 0 tq_X12_drawn (z := (125, [(6, .int (Int32.ofNat i)), (5, .int (Int32.ofNat m)), (4, .int cw), (3, .ref b), (0, .ref (ad 200)), (1, .int row), (2, .int minute)], [.ref z300, .ref b2, .ref b])) rfl ?_
            obtain ⟨w1, g1, n1, hD1, -, -⟩ := id hC1
            refine y_callV (kc := 4 * k + 2 + 2) (ks := 40 * k + 20 + 20) hS tq_X12_drawn rfl (As := [.ref z300]) rfl cv_X12_305 hD1 (m_J4_append_15ec4 hS (by decide) hC1 (hL300 (fun _ => False) _) (by omega) (fun _ h9 => h9.elim)) rfl (by decide) (Nat.le_of_ble_eq_true rfl) (fun r22 G22 q22 => ?_) (fun _ _ h9 => h9.elim)
            obtain ⟨rfl, hC2, kt22⟩ := q22
            refine y_blk 1 tq_X12_drawn (z := (130, [(6, .int (Int32.ofNat i)), (5, .int (Int32.ofNat m)), (4, .int cw), (3, .ref b), (0, .ref (ad 200)), (1, .int row), (2, .int minute)], [.int (Int32.ofNat i), .ref b2, .ref b])) rfl ?_
            obtain ⟨w2, g2, n2, hD2, -, -⟩ := id hC2
            refine y_callV (kc := 4 * k + 2 + 2) (ks := 40 * k + 20 + 20) hS tq_X12_drawn rfl (As := [.int (Int32.ofNat i)]) rfl cv_X12_309 hD2 (m_J4_append_bf812 hS (by decide) hC2 (by omega) hi) rfl (by decide) (Nat.le_of_ble_eq_true rfl) (fun r23 G23 q23 => ?_) (fun _ _ h9 => h9.elim)
            obtain ⟨rfl, hC3, kt23⟩ := q23
            refine y_blk 0 tq_X12_drawn (z := (133, [(6, .int (Int32.ofNat i)), (5, .int (Int32.ofNat m)), (4, .int cw), (3, .ref b), (0, .ref (ad 200)), (1, .int row), (2, .int minute)], [.ref b2, .ref b])) rfl ?_
            obtain ⟨w3, g3, n3, hD3, -, -⟩ := id hC3
            refine y_callV (kc := 4 * k + 2) (ks := 40 * k + 20) hS tq_X12_drawn rfl (As := []) rfl cv_X12_312 hD3 (m_J4_toString_0e30d hS (by decide) hC3 (by omega)) rfl (by decide) (Nat.le_of_ble_eq_true rfl) (fun r24 G24 q24 => ?_) (fun _ _ h9 => h9.elim)
            obtain ⟨q, rfl, hst, kt24⟩ := q24
            have ktn : yTg (fun t => t < 510 ∨ 514 ≤ t) G1 G24 := ((((yTg.le hle2).trans (kt21.narrow (fun t h9 => by omega))).trans (kt22.narrow (fun t h9 => by omega))).trans (kt23.narrow (fun t h9 => by omega))).trans (kt24.narrow (fun t h9 => by omega))
            refine y_blk 1 tq_X12_drawn (z := (209, [(6, .int (Int32.ofNat i)), (5, .int (Int32.ofNat m)), (4, .int cw), (3, .ref b), (0, .ref (ad 200)), (1, .int row), (2, .int minute)], [.ref q, .ref b])) rfl ?_
            exact J209 _ q G24 (Int32.ofNat i) (fun t h9 => by omega) hst (hB.kp ktn (Or.inl (by decide)) (Or.inl (by decide))) (kt.trans (ktn.narrow (fun t h9 => by omega)))
        have bits : ∀ m : Nat, m < 64 → (∀ i : Nat, i < 6 → (Int32.ofNat m >>> (Int32.ofNat i &&& 31)) &&& 1 = 0) → Int32.ofNat m = 0 := by decide +kernel
        have J88 : ∀ (k6 i : Nat), i + k6 = 6 → (∀ i2 : Nat, i2 < i → (Int32.ofNat m >>> (Int32.ofNat i2 &&& 31)) &&& 1 = 0) → Y l S0 D K_X12_drawn 30 36 360 (fun r G1 => (∃ v : Nat, r = some (.ref v)) ∧ ∃ (ad1 : Nat → Nat) (ρ1 : RS), atR aC ic de ad1 G1 ρ1 ∧ ad1 200 = ad 200 ∧ yTg kR G G1 ∧ rSm ρ ρ1) (fun _ _ => False) 88 [(6, .int (Int32.ofNat i)), (5, .int (Int32.ofNat m)), (4, .int cw), (3, .ref b), (0, .ref (ad 200)), (1, .int row), (2, .int minute)] [] G1 (4 * (k + 1) + 2) (40 * (k + 1) + 20) := by
          intro k6
          induction k6 with
          | zero =>
            intro i hi hz
            refine y_blk 1 tq_X12_drawn (z := (90, [(6, .int (Int32.ofNat i)), (5, .int (Int32.ofNat m)), (4, .int cw), (3, .ref b), (0, .ref (ad 200)), (1, .int row), (2, .int minute)], [.int (Int32.ofNat m)])) rfl ?_
            refine y_if_eq tq_X12_drawn 109 rfl rfl (fun _ => ?_) (fun cm => ?_)
            · exact J109 i (by omega)
            · exact absurd (bits m hm (fun i2 h2 => hz i2 (by omega))) cm
          | succ k6 ih6 =>
            intro i hi hz
            refine y_blk 1 tq_X12_drawn (z := (90, [(6, .int (Int32.ofNat i)), (5, .int (Int32.ofNat m)), (4, .int cw), (3, .ref b), (0, .ref (ad 200)), (1, .int row), (2, .int minute)], [.int (Int32.ofNat m)])) rfl ?_
            refine y_if_eq tq_X12_drawn 109 rfl rfl (fun _ => ?_) (fun cm => ?_)
            · exact J109 i (by omega)
            · skip
              refine y_blk 5 tq_X12_drawn (z := (100, [(6, .int (Int32.ofNat i)), (5, .int (Int32.ofNat m)), (4, .int cw), (3, .ref b), (0, .ref (ad 200)), (1, .int row), (2, .int minute)], [.int (((Int32.ofNat m) >>> ((Int32.ofNat i) &&& 31)) &&& 1)])) rfl ?_
              refine y_if_ne tq_X12_drawn 109 rfl rfl (fun _ => ?_) (fun cb => ?_)
              · exact J109 i (by omega)
              · skip
                refine y_blk 2 tq_X12_drawn (z := (88, [(6, .int ((Int32.ofNat i) + 1)), (5, .int (Int32.ofNat m)), (4, .int cw), (3, .ref b), (0, .ref (ad 200)), (1, .int row), (2, .int minute)], [])) rfl ?_
                rw [yofS]
                refine ih6 (i + 1) (by omega) (fun i2 h2 => ?_)
                by_cases e2 : i2 = i
                · rw [e2]
                  exact cb
                · exact hz i2 (by omega)
        exact J88 6 0 rfl (fun i2 h2 => absurd h2 (Nat.not_lt_zero _))
  refine y_less (k2 := 4 * 8 + 2) (n2 := 40 * 8 + 20) (by decide) (by decide) ?_
  have h60 := J60 8 0 G6 rfl hB6 kt6
  have e60 : row * rI ρ2 1 + Int32.ofNat 0 = row * rI ρ2 1 := Int32.add_zero _
  rw [e60] at h60
  exact h60
