/-! ===== contracts: words ===== -/
/-- words begun anew from the number n -/
def xnew (n : Int32) (s : XS) : Prop := s.1 12 = 0 ∧ s.2.2.1 5 = yit 4 n ∧ ∀ j : Nat, j < 4 → s.2.1 11 j = yit (j + 1) n
theorem xfr.nw {m : List Nat} {σ σ1 : XS} {n : Int32} (h : xfr m σ σ1) (e : xnew n σ) (h1 : ¬ 12 ∈ m := by decide) (h2 : ¬ 24 + 11 ∈ m := by decide) (h3 : ¬ 48 + 5 ∈ m := by decide) : xnew n σ1 := ⟨h.z e.1 h1, h.i e.2.1 h3, fun j hj => (congrFun (h.2.1 11 h2) j).trans (e.2.2 j hj)⟩
theorem xnew.at0 {n : Int32} {s : XS} (h : xnew n s) : xat s 11 0 = yaft n := (if_pos (by decide)).trans (h.2.2 0 (by decide))
theorem xnew.eq {σ σ1 : XS} {n : Int32} (h : xnew n σ) (e1 : σ1.1 12 = σ.1 12 := by rfl) (e2 : σ1.2.2.1 5 = σ.2.2.1 5 := by rfl) (e3 : σ1.2.1 11 = σ.2.1 11 := by rfl) : xnew n σ1 := ⟨e1.trans h.1, e2.trans h.2.1, fun j hj => (congrFun e3 j).trans (h.2.2 j hj)⟩
/-- nobody has answered -/
def xans0 (s : XS) : Prop := xfl s 13 0 ∧ xfl s 14 0 ∧ s.2.2.1 6 = 0
theorem xans0.fr {m : List Nat} {σ σ1 : XS} (h : xans0 σ) (hx : xfr m σ σ1) (h1 : ¬ 13 ∈ m := by decide) (h2 : ¬ 24 + 13 ∈ m := by decide) (h3 : ¬ 14 ∈ m := by decide) (h4 : ¬ 24 + 14 ∈ m := by decide) (h5 : ¬ 48 + 6 ∈ m := by decide) : xans0 σ1 := ⟨h.1.fr hx h1 h2, h.2.1.fr hx h3 h4, hx.i h.2.2 h5⟩
theorem xans0.eq {σ σ1 : XS} (h : xans0 σ) (e1 : σ1.1 13 = σ.1 13 := by rfl) (e2 : σ1.2.1 13 = σ.2.1 13 := by rfl) (e3 : σ1.1 14 = σ.1 14 := by rfl) (e4 : σ1.2.1 14 = σ.2.1 14 := by rfl) (e5 : σ1.2.2.1 6 = σ.2.2.1 6 := by rfl) : xans0 σ1 := ⟨h.1.eq e1 e2, h.2.1.eq e3 e4, e5.trans h.2.2⟩
/-- the state behind base -/
def xbase (σ σ1 : XS) (wide high seed : Int32) : Prop := (∀ k : Nat, k ∈ [0, 1, 2, 3, 4, 5, 6, 7, 8, 10, 16, 17, 18, 20, 21, 22, 23] → σ1.1 k = 0) ∧ (σ1.2.2.1 0 = wide ∧ σ1.2.2.1 1 = high ∧ σ1.2.2.1 2 = 1 ∧ σ1.2.2.1 3 = 0) ∧ xbf (wide * high).toInt.toNat seed σ1 ∧ xnew (σ.2.2.1 4) σ1 ∧ xans0 σ1 ∧ xfl σ1 15 (-1)
/-- a word replaced -/
def xrep (σ σ1 : XS) (hour : Int32) : Prop := σ1.1 12 = σ.1 12 + 1 ∧ σ1.2.2.1 5 = yaft (σ.2.2.1 5) ∧ σ1.2.1 11 = upd (σ.2.1 11) hour.toNatClampNeg (yaft (σ.2.2.1 5))
theorem xrep.mk {σ : XS} {hour w : Int32} (hh : 0 ≤ hour.toInt ∧ hour.toInt ≤ 3) (h8 : (σ.1 12).toInt < 8) : xrep σ (xput (xin (xadd σ 12 w) 5 (yaft ((xadd σ 12 w).2.2.1 5))) 11 hour (yaft ((xadd σ 12 w).2.2.1 5))) hour := by
  have e12 : xcap 12 = 8 := by decide
  have e11 : xcap 11 = 4 := by decide
  have ei : (xadd σ 12 w).2.2.1 5 = σ.2.2.1 5 := congrArg (fun z : (Nat → Int32) × (Nat → Int64) × (Nat → Int64) => z.1 5) xadd_in
  rw [ei]
  refine ⟨?_, ?_, ?_⟩
  · rw [xput_sz]
    exact xadd_sz1 (by rw [e12]; omega)
  · unfold xput
    split <;> rfl
  · unfold xput
    rw [e11, if_pos (by omega)]
    show upd ((xin (xadd σ 12 w) 5 (yaft (σ.2.2.1 5))).2.1 11) hour.toNatClampNeg (yaft (σ.2.2.1 5)) = _
    exact congrArg (fun f : Nat → Int32 => upd f hour.toNatClampNeg (yaft (σ.2.2.1 5))) (xadd_arn (by decide))
/-- where the words' row stands, at the hour v of a new beginning -/
def xwp (n : Int32) (s : XS) (v : Int32) : Prop := 0 ≤ v.toInt ∧ v.toInt ≤ 4 ∧ s.1 12 = 0 ∧ s.1 11 = v ∧ s.2.2.1 5 = yit v.toInt.toNat n ∧ ∀ j : Nat, j < v.toInt.toNat → s.2.1 11 j = yit (j + 1) n
theorem xwp.init {n : Int32} {s : XS} (h1 : s.1 12 = 0) (h2 : s.1 11 = 0) (h3 : s.2.2.1 5 = n) : xwp n s 0 := by
  have e0 : (0 : Int32).toInt = 0 := by decide
  refine ⟨by omega, by omega, h1, h2, ?_, fun j hj => ?_⟩
  · rw [e0]; exact h3
  · rw [e0] at hj; exact absurd hj (Nat.not_lt_zero _)
theorem xwp.step {n : Int32} {s : XS} {v : Int32} (h : xwp n s v) (c : ¬ 4 ≤ v) : xwp n (xadd (xin s 5 (yaft (s.2.2.1 5))) 11 (yaft (s.2.2.1 5))) (v + 1) := by
  have e4 : (4 : Int32).toInt = 4 := by decide
  have e1 : (1 : Int32).toInt = 1 := by decide
  have e11 : xcap 11 = 4 := by decide
  obtain ⟨h0, h4, h12, h11, h5, hr⟩ := h
  have c2 : ¬ 4 ≤ v.toInt := fun q => c (yle.mpr (by rw [e4]; exact q))
  have ev : (v + 1).toInt = v.toInt + 1 := by rw [yadd (by omega) (by omega), e1]
  have en : (v + 1).toInt.toNat = v.toInt.toNat + 1 := by omega
  have q11 : (xin s 5 (yaft (s.2.2.1 5))).1 11 = v := h11
  have hlt : ((xin s 5 (yaft (s.2.2.1 5))).1 11).toInt < (xcap 11 : Int) := by rw [q11, e11]; omega
  refine ⟨by omega, by omega, ?_, ?_, ?_, ?_⟩
  · rw [xadd_szn (by decide)]; exact h12
  · rw [xadd_sz1 hlt, q11]
  · rw [en]
    refine (congrArg (fun z : (Nat → Int32) × (Nat → Int64) × (Nat → Int64) => z.1 5) xadd_in).trans ?_
    show yaft (s.2.2.1 5) = _
    rw [h5]
    rfl
  · intro j hj
    rw [en] at hj
    rw [xadd_ar1 (by rw [q11]; exact h0) hlt, q11]
    have ek : v.toNatClampNeg = v.toInt.toNat := rfl
    rw [ek]
    by_cases q : j = v.toInt.toNat
    · subst q
      rw [pk_us, h5]
      rfl
    · rw [pk_un q]
      exact hr j (by omega)
theorem xwp.stop {n : Int32} {s : XS} {v : Int32} (h : xwp n s v) (c : 4 ≤ v) : xnew n s := by
  have e4 : (4 : Int32).toInt = 4 := by decide
  have c2 := yle.mp c
  obtain ⟨h0, h4, h12, h11, h5, hr⟩ := h
  have e : v.toInt.toNat = 4 := by omega
  rw [e] at h5 hr
  exact ⟨h12, h5, hr⟩
set_option maxHeartbeats 4000000 in
set_option maxRecDepth 100000 in
theorem m_X7_wordOf {l : Launch} {S0 : State} {A0 : Array Value} {D : va_G} {aC : Nat → ClassId} {ad : Nat → Nat} {G : AH} {σ : XS} (hS : yS l S0 A0 D aC) (hX : atX aC ad G σ) (hour : Int32) : yM l S0 D yX7_wordOf cX7_wordOf 2 (some .int) 11 0 0 [.ref (ad 7), .int hour] G (fun r G1 => r = some (.int (xat σ 11 hour)) ∧ G1 = G) (fun _ _ => False) := by
  refine yM.ofK K_X7_wordOf rfl (by decide) (Nat.le_of_ble_eq_true rfl) ?_
  refine y_blk 1 tq_X7_wordOf (z := (1, [(0, .ref (ad 7)), (1, .int hour)], [.ref (ad 7)])) rfl ?_
  refine y_get hS tq_X7_wordOf (v := .ref (ad 122)) rfl fg_X7_14_X7 (hX.1 7 _ rfl) rfl ?_
  refine y_blk 1 tq_X7_wordOf (z := (5, [(0, .ref (ad 7)), (1, .int hour)], [.int hour, .ref (ad 122)])) rfl ?_
  refine y_callV hS tq_X7_wordOf rfl (As := [.int hour]) rfl cv_X7_55 (hX.num (k := 11) (by decide)) (m_X5_at hS hX (k := 11) (by decide) hour) rfl (by decide) (Nat.le_of_ble_eq_true rfl) (fun r5 Gc5 q5 => ?_) (fun E9 G9 h9 => h9.elim)
  obtain ⟨rfl, eG5⟩ := q5
  have eG5 := eG5.symm
  subst eG5
  refine y_blk 0 tq_X7_wordOf (z := (8, [(0, .ref (ad 7)), (1, .int hour)], [.int (xat σ 11 hour)])) rfl ?_
  exact y_iret tq_X7_wordOf rfl rfl (⟨by first | rfl | (congr 2; (repeat' split) <;> first | rfl | (exfalso; simp only [ylt, yle, yeqI, yl_m1, yl_0, yl_1, yl_2, yl_3, yl_4, yl_5, yl_6, yl_7, yl_8, yl_9, yl_10, yl_11, yl_12, yl_15, yl_16, yl_20, yl_60, yl_64, yl_90, yl_97, yl_99, yl_100, yl_120, yl_239, yl_240] at *; omega)), rfl⟩)
set_option maxHeartbeats 4000000 in
set_option maxRecDepth 100000 in
theorem m_X7_isLeakedOut {l : Launch} {S0 : State} {A0 : Array Value} {D : va_G} {aC : Nat → ClassId} {ad : Nat → Nat} {G : AH} {σ : XS} (hS : yS l S0 A0 D aC) (hX : atX aC ad G σ) : yM l S0 D yX7_isLeakedOut cX7_isLeakedOut 1 (some .boolean) 11 0 0 [.ref (ad 7)] G (fun r G1 => r = some (.int (if (xcap 12 : Int) ≤ (σ.1 12).toInt then 1 else 0)) ∧ G1 = G) (fun _ _ => False) := by
  refine yM.ofK K_X7_isLeakedOut rfl (by decide) (Nat.le_of_ble_eq_true rfl) ?_
  refine y_blk 1 tq_X7_isLeakedOut (z := (1, [(0, .ref (ad 7))], [.ref (ad 7)])) rfl ?_
  refine y_get hS tq_X7_isLeakedOut (v := .ref (ad 124)) rfl fg_X7_20_X7 (hX.1 7 _ rfl) rfl ?_
  refine y_blk 0 tq_X7_isLeakedOut (z := (4, [(0, .ref (ad 7))], [.ref (ad 124)])) rfl ?_
  refine y_callV hS tq_X7_isLeakedOut rfl (As := []) rfl cv_X7_58 (hX.num (k := 12) (by decide)) (m_X5_isFull hS hX (k := 12) (by decide) ) rfl (by decide) (Nat.le_of_ble_eq_true rfl) (fun r4 Gc4 q4 => ?_) (fun E9 G9 h9 => h9.elim)
  obtain ⟨rfl, eG4⟩ := q4
  have eG4 := eG4.symm
  subst eG4
  refine y_blk 0 tq_X7_isLeakedOut (z := (7, [(0, .ref (ad 7))], [.int (if (xcap 12 : Int) ≤ (σ.1 12).toInt then 1 else 0)])) rfl ?_
  exact y_zret tq_X7_isLeakedOut rfl rfl (y01 (y01i _)) (⟨by first | rfl | (congr 2; (repeat' split) <;> first | rfl | (exfalso; simp only [ylt, yle, yeqI, yl_m1, yl_0, yl_1, yl_2, yl_3, yl_4, yl_5, yl_6, yl_7, yl_8, yl_9, yl_10, yl_11, yl_12, yl_15, yl_16, yl_20, yl_60, yl_64, yl_90, yl_97, yl_99, yl_100, yl_120, yl_239, yl_240] at *; omega)), rfl⟩)
set_option maxHeartbeats 4000000 in
set_option maxRecDepth 100000 in
theorem m_X7_leaks {l : Launch} {S0 : State} {A0 : Array Value} {D : va_G} {aC : Nat → ClassId} {ad : Nat → Nat} {G : AH} {σ : XS} (hS : yS l S0 A0 D aC) (hX : atX aC ad G σ) : yM l S0 D yX7_leaks cX7_leaks 1 (some .int) 11 0 0 [.ref (ad 7)] G (fun r G1 => r = some (.int (σ.1 12)) ∧ G1 = G) (fun _ _ => False) := by
  refine yM.ofK K_X7_leaks rfl (by decide) (Nat.le_of_ble_eq_true rfl) ?_
  refine y_blk 1 tq_X7_leaks (z := (1, [(0, .ref (ad 7))], [.ref (ad 7)])) rfl ?_
  refine y_get hS tq_X7_leaks (v := .ref (ad 124)) rfl fg_X7_20_X7 (hX.1 7 _ rfl) rfl ?_
  refine y_blk 0 tq_X7_leaks (z := (4, [(0, .ref (ad 7))], [.ref (ad 124)])) rfl ?_
  refine y_callV hS tq_X7_leaks rfl (As := []) rfl cv_X7_62 (hX.num (k := 12) (by decide)) (m_X5_size hS hX (k := 12) (by decide) ) rfl (by decide) (Nat.le_of_ble_eq_true rfl) (fun r4 Gc4 q4 => ?_) (fun E9 G9 h9 => h9.elim)
  obtain ⟨rfl, eG4⟩ := q4
  have eG4 := eG4.symm
  subst eG4
  refine y_blk 0 tq_X7_leaks (z := (7, [(0, .ref (ad 7))], [.int (σ.1 12)])) rfl ?_
  exact y_iret tq_X7_leaks rfl rfl (⟨by first | rfl | (congr 2; (repeat' split) <;> first | rfl | (exfalso; simp only [ylt, yle, yeqI, yl_m1, yl_0, yl_1, yl_2, yl_3, yl_4, yl_5, yl_6, yl_7, yl_8, yl_9, yl_10, yl_11, yl_12, yl_15, yl_16, yl_20, yl_60, yl_64, yl_90, yl_97, yl_99, yl_100, yl_120, yl_239, yl_240] at *; omega)), rfl⟩)
set_option maxHeartbeats 4000000 in
set_option maxRecDepth 100000 in
theorem m_X7_rightAnswers {l : Launch} {S0 : State} {A0 : Array Value} {D : va_G} {aC : Nat → ClassId} {ad : Nat → Nat} {G : AH} {σ : XS} (hS : yS l S0 A0 D aC) (hX : atX aC ad G σ) : yM l S0 D yX7_rightAnswers cX7_rightAnswers 1 (some .int) 10 0 0 [.ref (ad 7)] G (fun r G1 => r = some (.int (σ.2.2.1 6)) ∧ G1 = G) (fun _ _ => False) := by
  refine yM.ofK K_X7_rightAnswers rfl (by decide) (Nat.le_of_ble_eq_true rfl) ?_
  refine y_blk 1 tq_X7_rightAnswers (z := (1, [(0, .ref (ad 7))], [.ref (ad 7)])) rfl ?_
  refine y_get hS tq_X7_rightAnswers (v := .int (σ.2.2.1 6)) rfl fg_X7_42_X7 (hX.1 7 _ rfl) rfl ?_
  refine y_blk 0 tq_X7_rightAnswers (z := (4, [(0, .ref (ad 7))], [.int (σ.2.2.1 6)])) rfl ?_
  exact y_iret tq_X7_rightAnswers rfl rfl (⟨by first | rfl | (congr 2; (repeat' split) <;> first | rfl | (exfalso; simp only [ylt, yle, yeqI, yl_m1, yl_0, yl_1, yl_2, yl_3, yl_4, yl_5, yl_6, yl_7, yl_8, yl_9, yl_10, yl_11, yl_12, yl_15, yl_16, yl_20, yl_60, yl_64, yl_90, yl_97, yl_99, yl_100, yl_120, yl_239, yl_240] at *; omega)), rfl⟩)
set_option maxHeartbeats 4000000 in
set_option maxRecDepth 100000 in
theorem m_X7_strikesOf {l : Launch} {S0 : State} {A0 : Array Value} {D : va_G} {aC : Nat → ClassId} {ad : Nat → Nat} {G : AH} {σ : XS} (hS : yS l S0 A0 D aC) (hX : atX aC ad G σ) (guard : Int32) : yM l S0 D yX7_strikesOf cX7_strikesOf 2 (some .int) 11 0 0 [.ref (ad 7), .int guard] G (fun r G1 => r = some (.int (xat σ 13 guard)) ∧ G1 = G) (fun _ _ => False) := by
  refine yM.ofK K_X7_strikesOf rfl (by decide) (Nat.le_of_ble_eq_true rfl) ?_
  refine y_blk 1 tq_X7_strikesOf (z := (1, [(0, .ref (ad 7)), (1, .int guard)], [.ref (ad 7)])) rfl ?_
  refine y_get hS tq_X7_strikesOf (v := .ref (ad 126)) rfl fg_X7_23_X7 (hX.1 7 _ rfl) rfl ?_
  refine y_blk 1 tq_X7_strikesOf (z := (5, [(0, .ref (ad 7)), (1, .int guard)], [.int guard, .ref (ad 126)])) rfl ?_
  refine y_callV hS tq_X7_strikesOf rfl (As := [.int guard]) rfl cv_X7_55 (hX.num (k := 13) (by decide)) (m_X5_at hS hX (k := 13) (by decide) guard) rfl (by decide) (Nat.le_of_ble_eq_true rfl) (fun r5 Gc5 q5 => ?_) (fun E9 G9 h9 => h9.elim)
  obtain ⟨rfl, eG5⟩ := q5
  have eG5 := eG5.symm
  subst eG5
  refine y_blk 0 tq_X7_strikesOf (z := (8, [(0, .ref (ad 7)), (1, .int guard)], [.int (xat σ 13 guard)])) rfl ?_
  exact y_iret tq_X7_strikesOf rfl rfl (⟨by first | rfl | (congr 2; (repeat' split) <;> first | rfl | (exfalso; simp only [ylt, yle, yeqI, yl_m1, yl_0, yl_1, yl_2, yl_3, yl_4, yl_5, yl_6, yl_7, yl_8, yl_9, yl_10, yl_11, yl_12, yl_15, yl_16, yl_20, yl_60, yl_64, yl_90, yl_97, yl_99, yl_100, yl_120, yl_239, yl_240] at *; omega)), rfl⟩)
set_option maxHeartbeats 4000000 in
set_option maxRecDepth 100000 in
theorem m_X7_hoursOf {l : Launch} {S0 : State} {A0 : Array Value} {D : va_G} {aC : Nat → ClassId} {ad : Nat → Nat} {G : AH} {σ : XS} (hS : yS l S0 A0 D aC) (hX : atX aC ad G σ) (guard : Int32) : yM l S0 D yX7_hoursOf cX7_hoursOf 2 (some .int) 11 0 0 [.ref (ad 7), .int guard] G (fun r G1 => r = some (.int (xat σ 14 guard)) ∧ G1 = G) (fun _ _ => False) := by
  refine yM.ofK K_X7_hoursOf rfl (by decide) (Nat.le_of_ble_eq_true rfl) ?_
  refine y_blk 1 tq_X7_hoursOf (z := (1, [(0, .ref (ad 7)), (1, .int guard)], [.ref (ad 7)])) rfl ?_
  refine y_get hS tq_X7_hoursOf (v := .ref (ad 128)) rfl fg_X7_26_X7 (hX.1 7 _ rfl) rfl ?_
  refine y_blk 1 tq_X7_hoursOf (z := (5, [(0, .ref (ad 7)), (1, .int guard)], [.int guard, .ref (ad 128)])) rfl ?_
  refine y_callV hS tq_X7_hoursOf rfl (As := [.int guard]) rfl cv_X7_55 (hX.num (k := 14) (by decide)) (m_X5_at hS hX (k := 14) (by decide) guard) rfl (by decide) (Nat.le_of_ble_eq_true rfl) (fun r5 Gc5 q5 => ?_) (fun E9 G9 h9 => h9.elim)
  obtain ⟨rfl, eG5⟩ := q5
  have eG5 := eG5.symm
  subst eG5
  refine y_blk 0 tq_X7_hoursOf (z := (8, [(0, .ref (ad 7)), (1, .int guard)], [.int (xat σ 14 guard)])) rfl ?_
  exact y_iret tq_X7_hoursOf rfl rfl (⟨by first | rfl | (congr 2; (repeat' split) <;> first | rfl | (exfalso; simp only [ylt, yle, yeqI, yl_m1, yl_0, yl_1, yl_2, yl_3, yl_4, yl_5, yl_6, yl_7, yl_8, yl_9, yl_10, yl_11, yl_12, yl_15, yl_16, yl_20, yl_60, yl_64, yl_90, yl_97, yl_99, yl_100, yl_120, yl_239, yl_240] at *; omega)), rfl⟩)
set_option maxHeartbeats 4000000 in
set_option maxRecDepth 100000 in
theorem m_X7_isBarred {l : Launch} {S0 : State} {A0 : Array Value} {D : va_G} {aC : Nat → ClassId} {ad : Nat → Nat} {G : AH} {σ : XS} (hS : yS l S0 A0 D aC) (hX : atX aC ad G σ) (guard : Int32) : yM l S0 D yX7_isBarred cX7_isBarred 2 (some .boolean) 11 0 0 [.ref (ad 7), .int guard] G (fun r G1 => (∃ v : Int32, (v = 0 ∨ v = 1) ∧ r = some (.int v)) ∧ G1 = G) (fun _ _ => False) := by
  refine yM.ofK K_X7_isBarred rfl (by decide) (Nat.le_of_ble_eq_true rfl) ?_
  have J17 : ∀ (w17_0 : Int32) (hb_w17_0 : w17_0 = 0 ∨ w17_0 = 1), Y l S0 D K_X7_isBarred 11 0 0 (fun r G1 => (∃ v : Int32, (v = 0 ∨ v = 1) ∧ r = some (.int v)) ∧ G1 = G) (fun _ _ => False) 17 [(0, .ref (ad 7)), (1, .int guard)] [.int w17_0] G 0 0 := by
    intro w17_0 hb_w17_0
    exact y_zret tq_X7_isBarred rfl rfl (y01 hb_w17_0) (⟨⟨_, hb_w17_0, rfl⟩, rfl⟩)
  refine y_blk 1 tq_X7_isBarred (z := (1, [(0, .ref (ad 7)), (1, .int guard)], [.ref (ad 7)])) rfl ?_
  refine y_get hS tq_X7_isBarred (v := .ref (ad 126)) rfl fg_X7_23_X7 (hX.1 7 _ rfl) rfl ?_
  refine y_blk 1 tq_X7_isBarred (z := (5, [(0, .ref (ad 7)), (1, .int guard)], [.int guard, .ref (ad 126)])) rfl ?_
  refine y_callV hS tq_X7_isBarred rfl (As := [.int guard]) rfl cv_X7_55 (hX.num (k := 13) (by decide)) (m_X5_at hS hX (k := 13) (by decide) guard) rfl (by decide) (Nat.le_of_ble_eq_true rfl) (fun r5 Gc5 q5 => ?_) (fun E9 G9 h9 => h9.elim)
  obtain ⟨rfl, eG5⟩ := q5
  have eG5 := eG5.symm
  subst eG5
  refine y_blk 1 tq_X7_isBarred (z := (9, [(0, .ref (ad 7)), (1, .int guard)], [.int 3, .int (xat σ 13 guard)])) rfl ?_
  refine y_icmp_lt tq_X7_isBarred 16 rfl rfl (fun c9 => ?_) (fun c9 => ?_)
  · skip
    refine y_blk 1 tq_X7_isBarred (z := (17, [(0, .ref (ad 7)), (1, .int guard)], [.int 0])) rfl ?_
    exact J17 0 (Or.inl rfl)
  · skip
    refine y_blk 2 tq_X7_isBarred (z := (17, [(0, .ref (ad 7)), (1, .int guard)], [.int 1])) rfl ?_
    exact J17 1 (Or.inr rfl)
set_option maxHeartbeats 4000000 in
set_option maxRecDepth 100000 in
theorem m_X7_areStrikesSound {l : Launch} {S0 : State} {A0 : Array Value} {D : va_G} {aC : Nat → ClassId} {ad : Nat → Nat} {G : AH} {σ : XS} (hS : yS l S0 A0 D aC) (hX : atX aC ad G σ) : yM l S0 D yX7_areStrikesSound cX7_areStrikesSound 2 (some .boolean) 11 0 0 [.ref (ad 7)] G (fun r G1 => (∃ v : Int32, (v = 0 ∨ v = 1) ∧ r = some (.int v)) ∧ G1 = G) (fun _ _ => False) := by
  refine yM.ofK K_X7_areStrikesSound rfl (by decide) (Nat.le_of_ble_eq_true rfl) ?_
  have J2 : ∀ (n2 : Nat) (v2_1 : Int32), ((6 : Int32).toInt - v2_1.toInt).toNat = n2 → Y l S0 D K_X7_areStrikesSound 11 0 0 (fun r G1 => (∃ v : Int32, (v = 0 ∨ v = 1) ∧ r = some (.int v)) ∧ G1 = G) (fun _ _ => False) 2 [(0, .ref (ad 7)), (1, .int v2_1)] [] G 0 0 := by
    intro n2
    induction n2 using Nat.strongRecOn with
    | _ n2 ih2 =>
    intro v2_1 hn2
    subst hn2
    refine y_blk 2 tq_X7_areStrikesSound (z := (5, [(0, .ref (ad 7)), (1, .int v2_1)], [.int 6, .int v2_1])) rfl ?_
    refine y_icmp_ge tq_X7_areStrikesSound 28 rfl rfl (fun c5 => ?_) (fun c5 => ?_)
    · skip
      refine y_blk 1 tq_X7_areStrikesSound (z := (29, [(0, .ref (ad 7)), (1, .int v2_1)], [.int 1])) rfl ?_
      exact y_zret tq_X7_areStrikesSound rfl rfl (rfl) (⟨⟨_, (Or.inr rfl), rfl⟩, rfl⟩)
    · skip
      refine y_blk 1 tq_X7_areStrikesSound (z := (9, [(0, .ref (ad 7)), (1, .int v2_1)], [.ref (ad 7)])) rfl ?_
      refine y_get hS tq_X7_areStrikesSound (v := .ref (ad 126)) rfl fg_X7_23_X7 (hX.1 7 _ rfl) rfl ?_
      refine y_blk 1 tq_X7_areStrikesSound (z := (13, [(0, .ref (ad 7)), (1, .int v2_1)], [.int v2_1, .ref (ad 126)])) rfl ?_
      refine y_callV hS tq_X7_areStrikesSound rfl (As := [.int v2_1]) rfl cv_X7_55 (hX.num (k := 13) (by decide)) (m_X5_at hS hX (k := 13) (by decide) v2_1) rfl (by decide) (Nat.le_of_ble_eq_true rfl) (fun r13 Gc13 q13 => ?_) (fun E9 G9 h9 => h9.elim)
      obtain ⟨rfl, eG13⟩ := q13
      have eG13 := eG13.symm
      subst eG13
      refine y_blk 1 tq_X7_areStrikesSound (z := (17, [(0, .ref (ad 7)), (1, .int v2_1)], [.int 3, .int (xat σ 13 v2_1)])) rfl ?_
      refine y_icmp_le tq_X7_areStrikesSound 22 rfl rfl (fun c17 => ?_) (fun c17 => ?_)
      · skip
        refine y_blk 2 tq_X7_areStrikesSound (z := (2, [(1, .int (v2_1 + 1)), (0, .ref (ad 7))], [])) rfl ?_
        refine y_pick (L2 := [(0, .ref (ad 7)), (1, .int (v2_1 + 1))]) [1, 0] rfl ?_
        exact ih2 _ (by exact ydec c5) (v2_1 + 1) rfl
      · skip
        refine y_blk 1 tq_X7_areStrikesSound (z := (21, [(0, .ref (ad 7)), (1, .int v2_1)], [.int 0])) rfl ?_
        exact y_zret tq_X7_areStrikesSound rfl rfl (rfl) (⟨⟨_, (Or.inl rfl), rfl⟩, rfl⟩)
  refine y_blk 2 tq_X7_areStrikesSound (z := (2, [(1, .int 0), (0, .ref (ad 7))], [])) rfl ?_
  refine y_pick (L2 := [(0, .ref (ad 7)), (1, .int 0)]) [1, 0] rfl ?_
  exact J2 _ 0 rfl
set_option maxHeartbeats 4000000 in
set_option maxRecDepth 100000 in
theorem m_X7_startAnew {l : Launch} {S0 : State} {A0 : Array Value} {D : va_G} {aC : Nat → ClassId} {ad : Nat → Nat} {G : AH} {σ : XS} (hS : yS l S0 A0 D aC) (hX : atX aC ad G σ) : yM l S0 D yX7_startAnew cX7_startAnew 2 none 12 0 0 [.ref (ad 7)] G (fun r G1 => r = none ∧ ∃ σ1 : XS, atX aC ad G1 σ1 ∧ keepX G G1 ∧ xfr [11, 12, 13, 14, 35, 37, 38, 53, 54] σ σ1 ∧ xnew (σ.2.2.1 4) σ1 ∧ xans0 σ1) (fun _ _ => False) := by
  refine yM.ofK K_X7_startAnew rfl (by decide) (Nat.le_of_ble_eq_true rfl) ?_
  have J45 : ∀ (n45 : Nat) (v45_1 : Int32) (G45 : AH) (s45 : XS) (hX45 : atX aC ad G45 s45) (hF45 : keepX G G45) (kn45 : xfr [11, 12, 13, 14, 35, 37, 38, 53, 54] σ s45) (hw45 : xwp (σ.2.2.1 4) s45 v45_1) (hz45 : xans0 s45), ((4 : Int32).toInt - v45_1.toInt).toNat = n45 → Y l S0 D K_X7_startAnew 12 0 0 (fun r G1 => r = none ∧ ∃ σ1 : XS, atX aC ad G1 σ1 ∧ keepX G G1 ∧ xfr [11, 12, 13, 14, 35, 37, 38, 53, 54] σ σ1 ∧ xnew (σ.2.2.1 4) σ1 ∧ xans0 σ1) (fun _ _ => False) 45 [(0, .ref (ad 7)), (1, .int v45_1)] [] G45 0 0 := by
    intro n45
    induction n45 using Nat.strongRecOn with
    | _ n45 ih45 =>
    intro v45_1 G45 s45 hX45 hF45 kn45 hw45 hz45 hn45
    subst hn45
    refine y_blk 2 tq_X7_startAnew (z := (47, [(0, .ref (ad 7)), (1, .int v45_1)], [.int 4, .int v45_1])) rfl ?_
    refine y_icmp_ge tq_X7_startAnew 78 rfl rfl (fun c47 => ?_) (fun c47 => ?_)
    · skip
      refine y_blk 0 tq_X7_startAnew (z := (78, [(0, .ref (ad 7)), (1, .int v45_1)], [])) rfl ?_
      exact y_vret tq_X7_startAnew rfl rfl (⟨rfl, _, hX45, hF45, (kn45).w, hw45.stop c47, hz45⟩)
    · skip
      refine y_blk 2 tq_X7_startAnew (z := (52, [(0, .ref (ad 7)), (1, .int v45_1)], [.ref (ad 7), .ref (ad 7)])) rfl ?_
      refine y_get hS tq_X7_startAnew (v := .int (s45.2.2.1 5)) rfl fg_X7_45_X7 (hX45.1 7 _ rfl) rfl ?_
      refine y_blk 0 tq_X7_startAnew (z := (55, [(0, .ref (ad 7)), (1, .int v45_1)], [.int (s45.2.2.1 5), .ref (ad 7)])) rfl ?_
      refine y_callSN hS tq_X7_startAnew rfl (As := [.int (s45.2.2.1 5)]) rfl cs_X7_48 (m_X8_nextOfRow hS  (s45.2.2.1 5)) rfl (by decide) (Nat.le_of_ble_eq_true rfl) (fun r55 Gc55 q55 => ?_) (fun E9 G9 h9 => h9.elim)
      obtain ⟨rfl, eG55⟩ := q55
      have eG55 := eG55.symm
      subst eG55
      refine y_blk 0 tq_X7_startAnew (z := (58, [(0, .ref (ad 7)), (1, .int v45_1)], [.int (yaft (s45.2.2.1 5)), .ref (ad 7)])) rfl ?_
      refine y_put hS tq_X7_startAnew rfl fp_X7_45_X7 (hX45.1 7 _ rfl) (by omega) rfl rfl (Nat.le_of_ble_eq_true rfl) ?_
      have hXw58 : atX aC ad (yup G45 (ad 7) (7, .inr (11, [.ref (ad 122), .ref (ad 124), .ref (ad 126), .ref (ad 128), .int (s45.2.2.1 4), .int (yaft (s45.2.2.1 5)), .int (s45.2.2.1 6)]))) (xin s45 5 (yaft (s45.2.2.1 5))) := hX45.setIn 5 7 (fun q => absurd q (by decide)) (by omega) rfl rfl
      have hFw58 : keepX G (yup G45 (ad 7) (7, .inr (11, [.ref (ad 122), .ref (ad 124), .ref (ad 126), .ref (ad 128), .int (s45.2.2.1 4), .int (yaft (s45.2.2.1 5)), .int (s45.2.2.1 6)]))) := hF45.up (hX45.1 7 _ rfl) (by omega) (by omega)
      show Y l S0 D K_X7_startAnew 12 0 0 (fun r G1 => r = none ∧ ∃ σ1 : XS, atX aC ad G1 σ1 ∧ keepX G G1 ∧ xfr [11, 12, 13, 14, 35, 37, 38, 53, 54] σ σ1 ∧ xnew (σ.2.2.1 4) σ1 ∧ xans0 σ1) (fun _ _ => False) (58 + 3) [(0, .ref (ad 7)), (1, .int v45_1)] [] (yup G45 (ad 7) (7, .inr (11, [.ref (ad 122), .ref (ad 124), .ref (ad 126), .ref (ad 128), .int (s45.2.2.1 4), .int (yaft (s45.2.2.1 5)), .int (s45.2.2.1 6)]))) 0 0
      generalize yup G45 (ad 7) (7, .inr (11, [.ref (ad 122), .ref (ad 124), .ref (ad 126), .ref (ad 128), .int (s45.2.2.1 4), .int (yaft (s45.2.2.1 5)), .int (s45.2.2.1 6)])) = Gw58 at hXw58 hFw58 ⊢
      refine y_blk 1 tq_X7_startAnew (z := (62, [(0, .ref (ad 7)), (1, .int v45_1)], [.ref (ad 7)])) rfl ?_
      refine y_get hS tq_X7_startAnew (v := .ref (ad 122)) rfl fg_X7_14_X7 (hXw58.1 7 _ rfl) rfl ?_
      refine y_blk 1 tq_X7_startAnew (z := (66, [(0, .ref (ad 7)), (1, .int v45_1)], [.ref (ad 7), .ref (ad 122)])) rfl ?_
      refine y_get hS tq_X7_startAnew (v := .int (((xin s45 5 (yaft (s45.2.2.1 5)))).2.2.1 5)) rfl fg_X7_45_X7 (hXw58.1 7 _ rfl) rfl ?_
      refine y_blk 0 tq_X7_startAnew (z := (69, [(0, .ref (ad 7)), (1, .int v45_1)], [.int (((xin s45 5 (yaft (s45.2.2.1 5)))).2.2.1 5), .ref (ad 122)])) rfl ?_
      refine y_callV hS tq_X7_startAnew rfl (As := [.int (((xin s45 5 (yaft (s45.2.2.1 5)))).2.2.1 5)]) rfl cv_X7_52 (hXw58.num (k := 11) (by decide)) (m_X5_add hS hXw58 (k := 11) (by decide) (((xin s45 5 (yaft (s45.2.2.1 5)))).2.2.1 5) (fun q => absurd q (by decide))) rfl (by decide) (Nat.le_of_ble_eq_true rfl) (fun r69 Gc69 q69 => ?_) (fun E9 G9 h9 => h9.elim)
      obtain ⟨rfl, hXc69, hFc69⟩ := q69
      refine y_blk 2 tq_X7_startAnew (z := (45, [(1, .int (v45_1 + 1)), (0, .ref (ad 7))], [])) rfl ?_
      refine y_pick (L2 := [(0, .ref (ad 7)), (1, .int (v45_1 + 1))]) [1, 0] rfl ?_
      exact ih45 _ (by exact ydec c47) (v45_1 + 1) Gc69 (xadd ((xin s45 5 (yaft (s45.2.2.1 5)))) 11 (((xin s45 5 (yaft (s45.2.2.1 5)))).2.2.1 5)) hXc69 (hFw58.trans hFc69) (((xkn.trans (xkn.trans kn45 xkn_in) xkn_add)).w) (by first | exact hw45.step c47 | exact xwp.init (knc27.z (knc19.z rfl)) (knc27.z (knc19.z rfl)) (knc27.i (knc19.i rfl))) (by first | exact hz45.fr (xkn.trans xkn_in xkn_add) | exact ⟨(hR19.fr knc27).eq, hR27.eq, rfl⟩) rfl
  refine y_blk 1 tq_X7_startAnew (z := (1, [(0, .ref (ad 7))], [.ref (ad 7)])) rfl ?_
  refine y_get hS tq_X7_startAnew (v := .ref (ad 122)) rfl fg_X7_14_X7 (hX.1 7 _ rfl) rfl ?_
  refine y_blk 0 tq_X7_startAnew (z := (4, [(0, .ref (ad 7))], [.ref (ad 122)])) rfl ?_
  refine y_callV hS tq_X7_startAnew rfl (As := []) rfl cv_X7_36 (hX.num (k := 11) (by decide)) (m_X5_clear hS hX (k := 11) (by decide) ) rfl (by decide) (Nat.le_of_ble_eq_true rfl) (fun r4 Gc4 q4 => ?_) (fun E9 G9 h9 => h9.elim)
  obtain ⟨rfl, hXc4, hFc4⟩ := q4
  refine y_blk 1 tq_X7_startAnew (z := (8, [(0, .ref (ad 7))], [.ref (ad 7)])) rfl ?_
  refine y_get hS tq_X7_startAnew (v := .ref (ad 124)) rfl fg_X7_20_X7 (hXc4.1 7 _ rfl) rfl ?_
  refine y_blk 0 tq_X7_startAnew (z := (11, [(0, .ref (ad 7))], [.ref (ad 124)])) rfl ?_
  refine y_callV hS tq_X7_startAnew rfl (As := []) rfl cv_X7_36 (hXc4.num (k := 12) (by decide)) (m_X5_clear hS hXc4 (k := 12) (by decide) ) rfl (by decide) (Nat.le_of_ble_eq_true rfl) (fun r11 Gc11 q11 => ?_) (fun E9 G9 h9 => h9.elim)
  obtain ⟨rfl, hXc11, hFc11⟩ := q11
  refine y_blk 1 tq_X7_startAnew (z := (15, [(0, .ref (ad 7))], [.ref (ad 7)])) rfl ?_
  refine y_get hS tq_X7_startAnew (v := .ref (ad 126)) rfl fg_X7_23_X7 (hXc11.1 7 _ rfl) rfl ?_
  refine y_blk 1 tq_X7_startAnew (z := (19, [(0, .ref (ad 7))], [.int 0, .ref (ad 126)])) rfl ?_
  refine y_callV hS tq_X7_startAnew rfl (As := [.int 0]) rfl cv_X7_39 (hXc11.num (k := 13) (by decide)) (m_X5_fill hS hXc11 (k := 13) (by decide) 0 (fun q => absurd q (by decide))) rfl (by decide) (Nat.le_of_ble_eq_true rfl) (fun r19 Gc19 q19 => ?_) (fun E9 G9 h9 => h9.elim)
  obtain ⟨rfl, σ19, hXc19, hFc19, knc19, hR19⟩ := q19
  refine y_blk 1 tq_X7_startAnew (z := (23, [(0, .ref (ad 7))], [.ref (ad 7)])) rfl ?_
  refine y_get hS tq_X7_startAnew (v := .ref (ad 128)) rfl fg_X7_26_X7 (hXc19.1 7 _ rfl) rfl ?_
  refine y_blk 1 tq_X7_startAnew (z := (27, [(0, .ref (ad 7))], [.int 0, .ref (ad 128)])) rfl ?_
  refine y_callV hS tq_X7_startAnew rfl (As := [.int 0]) rfl cv_X7_39 (hXc19.num (k := 14) (by decide)) (m_X5_fill hS hXc19 (k := 14) (by decide) 0 (fun q => absurd q (by decide))) rfl (by decide) (Nat.le_of_ble_eq_true rfl) (fun r27 Gc27 q27 => ?_) (fun E9 G9 h9 => h9.elim)
  obtain ⟨rfl, σ27, hXc27, hFc27, knc27, hR27⟩ := q27
  refine y_blk 2 tq_X7_startAnew (z := (32, [(0, .ref (ad 7))], [.int 0, .ref (ad 7)])) rfl ?_
  refine y_put hS tq_X7_startAnew rfl fp_X7_42_X7 (hXc27.1 7 _ rfl) (by omega) rfl rfl (Nat.le_of_ble_eq_true rfl) ?_
  have hXw32 : atX aC ad (yup Gc27 (ad 7) (7, .inr (11, [.ref (ad 122), .ref (ad 124), .ref (ad 126), .ref (ad 128), .int (σ27.2.2.1 4), .int (σ27.2.2.1 5), .int 0]))) (xin σ27 6 0) := hXc27.setIn 6 7 (fun q => absurd q (by decide)) (by omega) rfl rfl
  have hFw32 : keepX G (yup Gc27 (ad 7) (7, .inr (11, [.ref (ad 122), .ref (ad 124), .ref (ad 126), .ref (ad 128), .int (σ27.2.2.1 4), .int (σ27.2.2.1 5), .int 0]))) := ((((keepX.rfl'.trans hFc4).trans hFc11).trans hFc19).trans hFc27).up (hXc27.1 7 _ rfl) (by omega) (by omega)
  show Y l S0 D K_X7_startAnew 12 0 0 (fun r G1 => r = none ∧ ∃ σ1 : XS, atX aC ad G1 σ1 ∧ keepX G G1 ∧ xfr [11, 12, 13, 14, 35, 37, 38, 53, 54] σ σ1 ∧ xnew (σ.2.2.1 4) σ1 ∧ xans0 σ1) (fun _ _ => False) (32 + 3) [(0, .ref (ad 7))] [] (yup Gc27 (ad 7) (7, .inr (11, [.ref (ad 122), .ref (ad 124), .ref (ad 126), .ref (ad 128), .int (σ27.2.2.1 4), .int (σ27.2.2.1 5), .int 0]))) 0 0
  generalize yup Gc27 (ad 7) (7, .inr (11, [.ref (ad 122), .ref (ad 124), .ref (ad 126), .ref (ad 128), .int (σ27.2.2.1 4), .int (σ27.2.2.1 5), .int 0])) = Gw32 at hXw32 hFw32 ⊢
  refine y_blk 2 tq_X7_startAnew (z := (37, [(0, .ref (ad 7))], [.ref (ad 7), .ref (ad 7)])) rfl ?_
  refine y_get hS tq_X7_startAnew (v := .int (((xin σ27 6 0)).2.2.1 4)) rfl fg_X7_29_X7 (hXw32.1 7 _ rfl) rfl ?_
  refine y_blk 0 tq_X7_startAnew (z := (40, [(0, .ref (ad 7))], [.int (((xin σ27 6 0)).2.2.1 4), .ref (ad 7)])) rfl ?_
  refine y_put hS tq_X7_startAnew rfl fp_X7_45_X7 (hXw32.1 7 _ rfl) (by omega) rfl rfl (Nat.le_of_ble_eq_true rfl) ?_
  have hXw40 : atX aC ad (yup Gw32 (ad 7) (7, .inr (11, [.ref (ad 122), .ref (ad 124), .ref (ad 126), .ref (ad 128), .int (((xin σ27 6 0)).2.2.1 4), .int (((xin σ27 6 0)).2.2.1 4), .int (((xin σ27 6 0)).2.2.1 6)]))) (xin (xin σ27 6 0) 5 (((xin σ27 6 0)).2.2.1 4)) := hXw32.setIn 5 7 (fun q => absurd q (by decide)) (by omega) rfl rfl
  have hFw40 : keepX G (yup Gw32 (ad 7) (7, .inr (11, [.ref (ad 122), .ref (ad 124), .ref (ad 126), .ref (ad 128), .int (((xin σ27 6 0)).2.2.1 4), .int (((xin σ27 6 0)).2.2.1 4), .int (((xin σ27 6 0)).2.2.1 6)]))) := hFw32.up (hXw32.1 7 _ rfl) (by omega) (by omega)
  show Y l S0 D K_X7_startAnew 12 0 0 (fun r G1 => r = none ∧ ∃ σ1 : XS, atX aC ad G1 σ1 ∧ keepX G G1 ∧ xfr [11, 12, 13, 14, 35, 37, 38, 53, 54] σ σ1 ∧ xnew (σ.2.2.1 4) σ1 ∧ xans0 σ1) (fun _ _ => False) (40 + 3) [(0, .ref (ad 7))] [] (yup Gw32 (ad 7) (7, .inr (11, [.ref (ad 122), .ref (ad 124), .ref (ad 126), .ref (ad 128), .int (((xin σ27 6 0)).2.2.1 4), .int (((xin σ27 6 0)).2.2.1 4), .int (((xin σ27 6 0)).2.2.1 6)]))) 0 0
  generalize yup Gw32 (ad 7) (7, .inr (11, [.ref (ad 122), .ref (ad 124), .ref (ad 126), .ref (ad 128), .int (((xin σ27 6 0)).2.2.1 4), .int (((xin σ27 6 0)).2.2.1 4), .int (((xin σ27 6 0)).2.2.1 6)])) = Gw40 at hXw40 hFw40 ⊢
  refine y_blk 2 tq_X7_startAnew (z := (45, [(1, .int 0), (0, .ref (ad 7))], [])) rfl ?_
  refine y_pick (L2 := [(0, .ref (ad 7)), (1, .int 0)]) [1, 0] rfl ?_
  exact J45 _ 0 Gw40 (xin (xin σ27 6 0) 5 (((xin σ27 6 0)).2.2.1 4)) hXw40 hFw40 (((xkn.trans (xkn.trans (xkn.trans (xkn.trans (xkn.trans (xkn.trans xkn.rfl' xkn_sz) xkn_sz) knc19) knc27) xkn_in) xkn_in)).w) (by first | exact hw45.step c47 | exact xwp.init (knc27.z (knc19.z rfl)) (knc27.z (knc19.z rfl)) (knc27.i (knc19.i rfl))) (by first | exact hz45.fr (xkn.trans xkn_in xkn_add) | exact ⟨(hR19.fr knc27).eq, hR27.eq, rfl⟩) rfl
set_option maxHeartbeats 4000000 in
set_option maxRecDepth 100000 in
theorem m_X7_tell {l : Launch} {S0 : State} {A0 : Array Value} {D : va_G} {aC : Nat → ClassId} {ad : Nat → Nat} {G : AH} {σ : XS} (hS : yS l S0 A0 D aC) (hX : atX aC ad G σ) (newSeed : Int32) : yM l S0 D yX7_tell cX7_tell 2 none 13 0 0 [.ref (ad 7), .int newSeed] G (fun r G1 => r = none ∧ ∃ σ1 : XS, atX aC ad G1 σ1 ∧ keepX G G1 ∧ xfr [11, 12, 13, 14, 35, 37, 38, 52, 53, 54] σ σ1 ∧ (xnew newSeed σ1 ∧ xans0 σ1) ∧ σ1.2.2.1 4 = newSeed) (fun _ _ => False) := by
  refine yM.ofK K_X7_tell rfl (by decide) (Nat.le_of_ble_eq_true rfl) ?_
  refine y_blk 2 tq_X7_tell (z := (2, [(0, .ref (ad 7)), (1, .int newSeed)], [.int newSeed, .ref (ad 7)])) rfl ?_
  refine y_put hS tq_X7_tell rfl fp_X7_29_X7 (hX.1 7 _ rfl) (by omega) rfl rfl (Nat.le_of_ble_eq_true rfl) ?_
  have hXw2 : atX aC ad (yup G (ad 7) (7, .inr (11, [.ref (ad 122), .ref (ad 124), .ref (ad 126), .ref (ad 128), .int newSeed, .int (σ.2.2.1 5), .int (σ.2.2.1 6)]))) (xin σ 4 newSeed) := hX.setIn 4 7 (fun q => absurd q (by decide)) (by omega) rfl rfl
  have hFw2 : keepX G (yup G (ad 7) (7, .inr (11, [.ref (ad 122), .ref (ad 124), .ref (ad 126), .ref (ad 128), .int newSeed, .int (σ.2.2.1 5), .int (σ.2.2.1 6)]))) := (keepX.rfl' (G := G)).up (hX.1 7 _ rfl) (by omega) (by omega)
  show Y l S0 D K_X7_tell 13 0 0 (fun r G1 => r = none ∧ ∃ σ1 : XS, atX aC ad G1 σ1 ∧ keepX G G1 ∧ xfr [11, 12, 13, 14, 35, 37, 38, 52, 53, 54] σ σ1 ∧ (xnew newSeed σ1 ∧ xans0 σ1) ∧ σ1.2.2.1 4 = newSeed) (fun _ _ => False) (2 + 3) [(0, .ref (ad 7)), (1, .int newSeed)] [] (yup G (ad 7) (7, .inr (11, [.ref (ad 122), .ref (ad 124), .ref (ad 126), .ref (ad 128), .int newSeed, .int (σ.2.2.1 5), .int (σ.2.2.1 6)]))) 0 0
  generalize yup G (ad 7) (7, .inr (11, [.ref (ad 122), .ref (ad 124), .ref (ad 126), .ref (ad 128), .int newSeed, .int (σ.2.2.1 5), .int (σ.2.2.1 6)])) = Gw2 at hXw2 hFw2 ⊢
  refine y_blk 1 tq_X7_tell (z := (6, [(0, .ref (ad 7)), (1, .int newSeed)], [.ref (ad 7)])) rfl ?_
  refine y_callV hS tq_X7_tell rfl (As := []) rfl cv_X7_33 (hXw2.1 7 _ rfl) (m_X7_startAnew hS hXw2 ) rfl (by decide) (Nat.le_of_ble_eq_true rfl) (fun r6 Gc6 q6 => ?_) (fun E9 G9 h9 => h9.elim)
  obtain ⟨rfl, σ6, hXc6, hFc6, knc6, hR6⟩ := q6
  refine y_blk 0 tq_X7_tell (z := (9, [(0, .ref (ad 7)), (1, .int newSeed)], [])) rfl ?_
  exact y_vret tq_X7_tell rfl rfl (⟨rfl, _, hXc6, (hFw2.trans hFc6), ((xkn.trans (xkn.trans xkn.rfl' xkn_in) knc6)).w, hR6, knc6.i rfl⟩)
set_option maxHeartbeats 4000000 in
set_option maxRecDepth 100000 in
theorem m_X7_replace {l : Launch} {S0 : State} {A0 : Array Value} {D : va_G} {aC : Nat → ClassId} {ad : Nat → Nat} {G : AH} {σ : XS} (hS : yS l S0 A0 D aC) (hX : atX aC ad G σ) (hour : Int32) (hh : 0 ≤ hour.toInt ∧ hour.toInt ≤ 3) (h8 : (σ.1 12).toInt < 8) : yM l S0 D yX7_replace cX7_replace 2 (some .int) 12 0 0 [.ref (ad 7), .int hour] G (fun r G1 => r = some (.int (yaft (σ.2.2.1 5))) ∧ ∃ σ1 : XS, atX aC ad G1 σ1 ∧ keepX G G1 ∧ xfr [12, 35, 36, 53] σ σ1 ∧ xrep σ σ1 hour) (fun _ _ => False) := by
  refine yM.ofK K_X7_replace rfl (by decide) (Nat.le_of_ble_eq_true rfl) ?_
  refine y_blk 1 tq_X7_replace (z := (1, [(0, .ref (ad 7)), (1, .int hour)], [.ref (ad 7)])) rfl ?_
  refine y_get hS tq_X7_replace (v := .ref (ad 124)) rfl fg_X7_20_X7 (hX.1 7 _ rfl) rfl ?_
  refine y_blk 1 tq_X7_replace (z := (5, [(0, .ref (ad 7)), (1, .int hour)], [.ref (ad 7), .ref (ad 124)])) rfl ?_
  refine y_get hS tq_X7_replace (v := .ref (ad 122)) rfl fg_X7_14_X7 (hX.1 7 _ rfl) rfl ?_
  refine y_blk 1 tq_X7_replace (z := (9, [(0, .ref (ad 7)), (1, .int hour)], [.int hour, .ref (ad 122), .ref (ad 124)])) rfl ?_
  refine y_callV hS tq_X7_replace rfl (As := [.int hour]) rfl cv_X7_55 (hX.num (k := 11) (by decide)) (m_X5_at hS hX (k := 11) (by decide) hour) rfl (by decide) (Nat.le_of_ble_eq_true rfl) (fun r9 Gc9 q9 => ?_) (fun E9 G9 h9 => h9.elim)
  obtain ⟨rfl, eG9⟩ := q9
  have eG9 := eG9.symm
  subst eG9
  refine y_blk 0 tq_X7_replace (z := (12, [(0, .ref (ad 7)), (1, .int hour)], [.int (xat σ 11 hour), .ref (ad 124)])) rfl ?_
  refine y_callV hS tq_X7_replace rfl (As := [.int (xat σ 11 hour)]) rfl cv_X7_52 (hX.num (k := 12) (by decide)) (m_X5_add hS hX (k := 12) (by decide) (xat σ 11 hour) (fun q => absurd q (by decide))) rfl (by decide) (Nat.le_of_ble_eq_true rfl) (fun r12 Gc12 q12 => ?_) (fun E9 G9 h9 => h9.elim)
  obtain ⟨rfl, hXc12, hFc12⟩ := q12
  refine y_blk 2 tq_X7_replace (z := (17, [(0, .ref (ad 7)), (1, .int hour)], [.ref (ad 7), .ref (ad 7)])) rfl ?_
  refine y_get hS tq_X7_replace (v := .int (((xadd σ 12 (xat σ 11 hour))).2.2.1 5)) rfl fg_X7_45_X7 (hXc12.1 7 _ rfl) rfl ?_
  refine y_blk 0 tq_X7_replace (z := (20, [(0, .ref (ad 7)), (1, .int hour)], [.int (((xadd σ 12 (xat σ 11 hour))).2.2.1 5), .ref (ad 7)])) rfl ?_
  refine y_callSN hS tq_X7_replace rfl (As := [.int (((xadd σ 12 (xat σ 11 hour))).2.2.1 5)]) rfl cs_X7_48 (m_X8_nextOfRow hS  (((xadd σ 12 (xat σ 11 hour))).2.2.1 5)) rfl (by decide) (Nat.le_of_ble_eq_true rfl) (fun r20 Gc20 q20 => ?_) (fun E9 G9 h9 => h9.elim)
  obtain ⟨rfl, eG20⟩ := q20
  have eG20 := eG20.symm
  subst eG20
  refine y_blk 0 tq_X7_replace (z := (23, [(0, .ref (ad 7)), (1, .int hour)], [.int (yaft (((xadd σ 12 (xat σ 11 hour))).2.2.1 5)), .ref (ad 7)])) rfl ?_
  refine y_put hS tq_X7_replace rfl fp_X7_45_X7 (hXc12.1 7 _ rfl) (by omega) rfl rfl (Nat.le_of_ble_eq_true rfl) ?_
  have hXw23 : atX aC ad (yup Gc12 (ad 7) (7, .inr (11, [.ref (ad 122), .ref (ad 124), .ref (ad 126), .ref (ad 128), .int (((xadd σ 12 (xat σ 11 hour))).2.2.1 4), .int (yaft (((xadd σ 12 (xat σ 11 hour))).2.2.1 5)), .int (((xadd σ 12 (xat σ 11 hour))).2.2.1 6)]))) (xin (xadd σ 12 (xat σ 11 hour)) 5 (yaft (((xadd σ 12 (xat σ 11 hour))).2.2.1 5))) := hXc12.setIn 5 7 (fun q => absurd q (by decide)) (by omega) rfl rfl
  have hFw23 : keepX G (yup Gc12 (ad 7) (7, .inr (11, [.ref (ad 122), .ref (ad 124), .ref (ad 126), .ref (ad 128), .int (((xadd σ 12 (xat σ 11 hour))).2.2.1 4), .int (yaft (((xadd σ 12 (xat σ 11 hour))).2.2.1 5)), .int (((xadd σ 12 (xat σ 11 hour))).2.2.1 6)]))) := (keepX.rfl'.trans hFc12).up (hXc12.1 7 _ rfl) (by omega) (by omega)
  show Y l S0 D K_X7_replace 12 0 0 (fun r G1 => r = some (.int (yaft (σ.2.2.1 5))) ∧ ∃ σ1 : XS, atX aC ad G1 σ1 ∧ keepX G G1 ∧ xfr [12, 35, 36, 53] σ σ1 ∧ xrep σ σ1 hour) (fun _ _ => False) (23 + 3) [(0, .ref (ad 7)), (1, .int hour)] [] (yup Gc12 (ad 7) (7, .inr (11, [.ref (ad 122), .ref (ad 124), .ref (ad 126), .ref (ad 128), .int (((xadd σ 12 (xat σ 11 hour))).2.2.1 4), .int (yaft (((xadd σ 12 (xat σ 11 hour))).2.2.1 5)), .int (((xadd σ 12 (xat σ 11 hour))).2.2.1 6)]))) 0 0
  generalize yup Gc12 (ad 7) (7, .inr (11, [.ref (ad 122), .ref (ad 124), .ref (ad 126), .ref (ad 128), .int (((xadd σ 12 (xat σ 11 hour))).2.2.1 4), .int (yaft (((xadd σ 12 (xat σ 11 hour))).2.2.1 5)), .int (((xadd σ 12 (xat σ 11 hour))).2.2.1 6)])) = Gw23 at hXw23 hFw23 ⊢
  refine y_blk 1 tq_X7_replace (z := (27, [(0, .ref (ad 7)), (1, .int hour)], [.ref (ad 7)])) rfl ?_
  refine y_get hS tq_X7_replace (v := .ref (ad 122)) rfl fg_X7_14_X7 (hXw23.1 7 _ rfl) rfl ?_
  refine y_blk 2 tq_X7_replace (z := (32, [(0, .ref (ad 7)), (1, .int hour)], [.ref (ad 7), .int hour, .ref (ad 122)])) rfl ?_
  refine y_get hS tq_X7_replace (v := .int (((xin (xadd σ 12 (xat σ 11 hour)) 5 (yaft (((xadd σ 12 (xat σ 11 hour))).2.2.1 5)))).2.2.1 5)) rfl fg_X7_45_X7 (hXw23.1 7 _ rfl) rfl ?_
  refine y_blk 0 tq_X7_replace (z := (35, [(0, .ref (ad 7)), (1, .int hour)], [.int (((xin (xadd σ 12 (xat σ 11 hour)) 5 (yaft (((xadd σ 12 (xat σ 11 hour))).2.2.1 5)))).2.2.1 5), .int hour, .ref (ad 122)])) rfl ?_
  refine y_callV hS tq_X7_replace rfl (As := [.int hour, .int (((xin (xadd σ 12 (xat σ 11 hour)) 5 (yaft (((xadd σ 12 (xat σ 11 hour))).2.2.1 5)))).2.2.1 5)]) rfl cv_X7_66 (hXw23.num (k := 11) (by decide)) (m_X5_put hS hXw23 (k := 11) (by decide) hour (((xin (xadd σ 12 (xat σ 11 hour)) 5 (yaft (((xadd σ 12 (xat σ 11 hour))).2.2.1 5)))).2.2.1 5) (fun q => absurd q (by decide))) rfl (by decide) (Nat.le_of_ble_eq_true rfl) (fun r35 Gc35 q35 => ?_) (fun E9 G9 h9 => h9.elim)
  obtain ⟨rfl, hXc35, hFc35⟩ := q35
  refine y_blk 1 tq_X7_replace (z := (39, [(0, .ref (ad 7)), (1, .int hour)], [.ref (ad 7)])) rfl ?_
  refine y_get hS tq_X7_replace (v := .int (((xput ((xin (xadd σ 12 (xat σ 11 hour)) 5 (yaft (((xadd σ 12 (xat σ 11 hour))).2.2.1 5)))) 11 hour (((xin (xadd σ 12 (xat σ 11 hour)) 5 (yaft (((xadd σ 12 (xat σ 11 hour))).2.2.1 5)))).2.2.1 5))).2.2.1 5)) rfl fg_X7_45_X7 (hXc35.1 7 _ rfl) rfl ?_
  refine y_blk 0 tq_X7_replace (z := (42, [(0, .ref (ad 7)), (1, .int hour)], [.int (((xput ((xin (xadd σ 12 (xat σ 11 hour)) 5 (yaft (((xadd σ 12 (xat σ 11 hour))).2.2.1 5)))) 11 hour (((xin (xadd σ 12 (xat σ 11 hour)) 5 (yaft (((xadd σ 12 (xat σ 11 hour))).2.2.1 5)))).2.2.1 5))).2.2.1 5)])) rfl ?_
  exact y_iret tq_X7_replace rfl rfl (⟨congrArg (fun z => some (Value.int z)) (xrep.mk hh h8).2.1, _, hXc35, (hFw23.trans hFc35), ((xkn.trans (xkn.trans (xkn.trans xkn.rfl' xkn_add) xkn_in) xkn_put)).w, xrep.mk hh h8⟩)
set_option maxHeartbeats 4000000 in
set_option maxRecDepth 100000 in
theorem m_X7_verdictOn {l : Launch} {S0 : State} {A0 : Array Value} {D : va_G} {aC : Nat → ClassId} {ad : Nat → Nat} {G : AH} {σ : XS} (hS : yS l S0 A0 D aC) (hX : atX aC ad G σ) (guard : Int32) (hour : Int32) (word : Int32) : yM l S0 D yX7_verdictOn cX7_verdictOn 4 (some .int) 13 0 0 [.ref (ad 7), .int guard, .int hour, .int word] G (fun r G1 => (∃ v : Int32, r = some (.int v)) ∧ G1 = G) (fun _ _ => False) := by
  refine yM.ofK K_X7_verdictOn rfl (by decide) (Nat.le_of_ble_eq_true rfl) ?_
  have J60 : ∀ (w60_0 : Int32), Y l S0 D K_X7_verdictOn 13 0 0 (fun r G1 => (∃ v : Int32, r = some (.int v)) ∧ G1 = G) (fun _ _ => False) 60 [(0, .ref (ad 7)), (1, .int guard), (2, .int hour), (3, .int word)] [.int w60_0] G 0 0 := by
    intro w60_0
    exact y_iret tq_X7_verdictOn rfl rfl (⟨⟨_, rfl⟩, rfl⟩)
  have J55 : ∀ (_ : True), Y l S0 D K_X7_verdictOn 13 0 0 (fun r G1 => (∃ v : Int32, r = some (.int v)) ∧ G1 = G) (fun _ _ => False) 55 [(0, .ref (ad 7)), (1, .int guard), (2, .int hour), (3, .int word)] [] G 0 0 := by
    intro _
    refine y_blk 2 tq_X7_verdictOn (z := (60, [(0, .ref (ad 7)), (1, .int guard), (2, .int hour), (3, .int word)], [.int 2])) rfl ?_
    exact J60 2
  have J32 : ∀ (w32_0 : Int32) (hb_w32_0 : w32_0 = 0 ∨ w32_0 = 1), Y l S0 D K_X7_verdictOn 13 0 0 (fun r G1 => (∃ v : Int32, r = some (.int v)) ∧ G1 = G) (fun _ _ => False) 32 [(0, .ref (ad 7)), (1, .int guard), (2, .int hour), (3, .int word)] [.int w32_0] G 0 0 := by
    intro w32_0 hb_w32_0
    exact y_iret tq_X7_verdictOn rfl rfl (⟨⟨_, rfl⟩, rfl⟩)
  refine y_blk 2 tq_X7_verdictOn (z := (2, [(0, .ref (ad 7)), (1, .int guard), (2, .int hour), (3, .int word)], [.ref (ad 7), .int word])) rfl ?_
  refine y_get hS tq_X7_verdictOn (v := .ref (ad 122)) rfl fg_X7_14_X7 (hX.1 7 _ rfl) rfl ?_
  refine y_blk 1 tq_X7_verdictOn (z := (6, [(0, .ref (ad 7)), (1, .int guard), (2, .int hour), (3, .int word)], [.int hour, .ref (ad 122), .int word])) rfl ?_
  refine y_callV hS tq_X7_verdictOn rfl (As := [.int hour]) rfl cv_X7_55 (hX.num (k := 11) (by decide)) (m_X5_at hS hX (k := 11) (by decide) hour) rfl (by decide) (Nat.le_of_ble_eq_true rfl) (fun r6 Gc6 q6 => ?_) (fun E9 G9 h9 => h9.elim)
  obtain ⟨rfl, eG6⟩ := q6
  have eG6 := eG6.symm
  subst eG6
  refine y_blk 0 tq_X7_verdictOn (z := (9, [(0, .ref (ad 7)), (1, .int guard), (2, .int hour), (3, .int word)], [.int (xat σ 11 hour), .int word])) rfl ?_
  refine y_icmp_ne tq_X7_verdictOn 33 rfl rfl (fun c9 => ?_) (fun c9 => ?_)
  · skip
    refine y_blk 1 tq_X7_verdictOn (z := (34, [(0, .ref (ad 7)), (1, .int guard), (2, .int hour), (3, .int word)], [.ref (ad 7)])) rfl ?_
    refine y_get hS tq_X7_verdictOn (v := .ref (ad 122)) rfl fg_X7_14_X7 (hX.1 7 _ rfl) rfl ?_
    refine y_blk 1 tq_X7_verdictOn (z := (38, [(0, .ref (ad 7)), (1, .int guard), (2, .int hour), (3, .int word)], [.int word, .ref (ad 122)])) rfl ?_
    refine y_callV hS tq_X7_verdictOn rfl (As := [.int word]) rfl cv_X7_78 (hX.num (k := 11) (by decide)) (m_X5_has hS hX (k := 11) (by decide) word) rfl (by decide) (Nat.le_of_ble_eq_true rfl) (fun r38 Gc38 q38 => ?_) (fun E9 G9 h9 => h9.elim)
    obtain ⟨⟨x38, hb_x38, rfl⟩, eG38⟩ := q38
    have eG38 := eG38.symm
    subst eG38
    refine y_blk 0 tq_X7_verdictOn (z := (41, [(0, .ref (ad 7)), (1, .int guard), (2, .int hour), (3, .int word)], [.int x38])) rfl ?_
    refine y_if_ne tq_X7_verdictOn 55 rfl rfl (fun c41 => ?_) (fun c41 => ?_)
    · skip
      refine y_blk 0 tq_X7_verdictOn (z := (55, [(0, .ref (ad 7)), (1, .int guard), (2, .int hour), (3, .int word)], [])) rfl ?_
      exact J55 trivial
    · skip
      refine y_blk 1 tq_X7_verdictOn (z := (45, [(0, .ref (ad 7)), (1, .int guard), (2, .int hour), (3, .int word)], [.ref (ad 7)])) rfl ?_
      refine y_get hS tq_X7_verdictOn (v := .ref (ad 124)) rfl fg_X7_20_X7 (hX.1 7 _ rfl) rfl ?_
      refine y_blk 1 tq_X7_verdictOn (z := (49, [(0, .ref (ad 7)), (1, .int guard), (2, .int hour), (3, .int word)], [.int word, .ref (ad 124)])) rfl ?_
      refine y_callV hS tq_X7_verdictOn rfl (As := [.int word]) rfl cv_X7_78 (hX.num (k := 12) (by decide)) (m_X5_has hS hX (k := 12) (by decide) word) rfl (by decide) (Nat.le_of_ble_eq_true rfl) (fun r49 Gc49 q49 => ?_) (fun E9 G9 h9 => h9.elim)
      obtain ⟨⟨x49, hb_x49, rfl⟩, eG49⟩ := q49
      have eG49 := eG49.symm
      subst eG49
      refine y_blk 0 tq_X7_verdictOn (z := (52, [(0, .ref (ad 7)), (1, .int guard), (2, .int hour), (3, .int word)], [.int x49])) rfl ?_
      refine y_if_eq tq_X7_verdictOn 59 rfl rfl (fun c52 => ?_) (fun c52 => ?_)
      · skip
        refine y_blk 1 tq_X7_verdictOn (z := (60, [(0, .ref (ad 7)), (1, .int guard), (2, .int hour), (3, .int word)], [.int 3])) rfl ?_
        exact J60 3
      · skip
        refine y_blk 0 tq_X7_verdictOn (z := (55, [(0, .ref (ad 7)), (1, .int guard), (2, .int hour), (3, .int word)], [])) rfl ?_
        exact J55 trivial
  · skip
    refine y_blk 1 tq_X7_verdictOn (z := (13, [(0, .ref (ad 7)), (1, .int guard), (2, .int hour), (3, .int word)], [.ref (ad 7)])) rfl ?_
    refine y_get hS tq_X7_verdictOn (v := .ref (ad 128)) rfl fg_X7_26_X7 (hX.1 7 _ rfl) rfl ?_
    refine y_blk 1 tq_X7_verdictOn (z := (17, [(0, .ref (ad 7)), (1, .int guard), (2, .int hour), (3, .int word)], [.int guard, .ref (ad 128)])) rfl ?_
    refine y_callV hS tq_X7_verdictOn rfl (As := [.int guard]) rfl cv_X7_55 (hX.num (k := 14) (by decide)) (m_X5_at hS hX (k := 14) (by decide) guard) rfl (by decide) (Nat.le_of_ble_eq_true rfl) (fun r17 Gc17 q17 => ?_) (fun E9 G9 h9 => h9.elim)
    obtain ⟨rfl, eG17⟩ := q17
    have eG17 := eG17.symm
    subst eG17
    refine y_blk 4 tq_X7_verdictOn (z := (24, [(0, .ref (ad 7)), (1, .int guard), (2, .int hour), (3, .int word)], [.int ((xat σ 14 guard) &&& (1 <<< (hour &&& 31)))])) rfl ?_
    refine y_if_ne tq_X7_verdictOn 31 rfl rfl (fun c24 => ?_) (fun c24 => ?_)
    · skip
      refine y_blk 1 tq_X7_verdictOn (z := (32, [(0, .ref (ad 7)), (1, .int guard), (2, .int hour), (3, .int word)], [.int 1])) rfl ?_
      exact J32 1 (Or.inr rfl)
    · skip
      refine y_blk 2 tq_X7_verdictOn (z := (32, [(0, .ref (ad 7)), (1, .int guard), (2, .int hour), (3, .int word)], [.int 0])) rfl ?_
      exact J32 0 (Or.inl rfl)
set_option maxHeartbeats 4000000 in
set_option maxRecDepth 100000 in
theorem m_X7_judge {l : Launch} {S0 : State} {A0 : Array Value} {D : va_G} {aC : Nat → ClassId} {ad : Nat → Nat} {G : AH} {σ : XS} (hS : yS l S0 A0 D aC) (hX : atX aC ad G σ) (guard : Int32) (hour : Int32) (word : Int32) : yM l S0 D yX7_judge cX7_judge 5 (some .int) 14 0 0 [.ref (ad 7), .int guard, .int hour, .int word] G (fun r G1 => (∃ v : Int32, r = some (.int v)) ∧ ∃ σ1 : XS, atX aC ad G1 σ1 ∧ keepX G G1 ∧ xfr [37, 38, 54] σ σ1) (fun _ _ => False) := by
  refine yM.ofK K_X7_judge rfl (by decide) (Nat.le_of_ble_eq_true rfl) ?_
  have J75 : ∀ (v75_4 : Int32) (G75 : AH) (s75 : XS) (hX75 : atX aC ad G75 s75) (hF75 : keepX G G75) (kn75 : xfr [37, 38, 54] σ s75), Y l S0 D K_X7_judge 14 0 0 (fun r G1 => (∃ v : Int32, r = some (.int v)) ∧ ∃ σ1 : XS, atX aC ad G1 σ1 ∧ keepX G G1 ∧ xfr [37, 38, 54] σ σ1) (fun _ _ => False) 75 [(0, .ref (ad 7)), (1, .int guard), (2, .int hour), (3, .int word), (4, .int v75_4)] [] G75 0 0 := by
    intro v75_4 G75 s75 hX75 hF75 kn75
    refine y_blk 1 tq_X7_judge (z := (77, [(0, .ref (ad 7)), (1, .int guard), (2, .int hour), (3, .int word), (4, .int v75_4)], [.int v75_4])) rfl ?_
    exact y_iret tq_X7_judge rfl rfl (⟨⟨_, rfl⟩, _, hX75, hF75, (kn75).w⟩)
  refine y_blk 2 tq_X7_judge (z := (2, [(0, .ref (ad 7)), (1, .int guard), (2, .int hour), (3, .int word)], [.int guard, .ref (ad 7)])) rfl ?_
  refine y_callV hS tq_X7_judge rfl (As := [.int guard]) rfl cv_X7_70 (hX.1 7 _ rfl) (m_X7_isBarred hS hX guard) rfl (by decide) (Nat.le_of_ble_eq_true rfl) (fun r2 Gc2 q2 => ?_) (fun E9 G9 h9 => h9.elim)
  obtain ⟨⟨x2, hb_x2, rfl⟩, eG2⟩ := q2
  have eG2 := eG2.symm
  subst eG2
  refine y_blk 0 tq_X7_judge (z := (5, [(0, .ref (ad 7)), (1, .int guard), (2, .int hour), (3, .int word)], [.int x2])) rfl ?_
  refine y_if_eq tq_X7_judge 10 rfl rfl (fun c5 => ?_) (fun c5 => ?_)
  · skip
    refine y_blk 4 tq_X7_judge (z := (14, [(0, .ref (ad 7)), (1, .int guard), (2, .int hour), (3, .int word)], [.int word, .int hour, .int guard, .ref (ad 7)])) rfl ?_
    refine y_callV hS tq_X7_judge rfl (As := [.int guard, .int hour, .int word]) rfl cv_X7_74 (hX.1 7 _ rfl) (m_X7_verdictOn hS hX guard hour word) rfl (by decide) (Nat.le_of_ble_eq_true rfl) (fun r14 Gc14 q14 => ?_) (fun E9 G9 h9 => h9.elim)
    obtain ⟨⟨x14, rfl⟩, eG14⟩ := q14
    have eG14 := eG14.symm
    subst eG14
    refine y_blk 2 tq_X7_judge (z := (21, [(4, .int x14), (0, .ref (ad 7)), (1, .int guard), (2, .int hour), (3, .int word)], [.int x14])) rfl ?_
    refine y_if_ne tq_X7_judge 57 rfl rfl (fun c21 => ?_) (fun c21 => ?_)
    · skip
      refine y_blk 1 tq_X7_judge (z := (58, [(4, .int x14), (0, .ref (ad 7)), (1, .int guard), (2, .int hour), (3, .int word)], [.ref (ad 7)])) rfl ?_
      refine y_get hS tq_X7_judge (v := .ref (ad 126)) rfl fg_X7_23_X7 (hX.1 7 _ rfl) rfl ?_
      refine y_blk 2 tq_X7_judge (z := (63, [(4, .int x14), (0, .ref (ad 7)), (1, .int guard), (2, .int hour), (3, .int word)], [.ref (ad 7), .int guard, .ref (ad 126)])) rfl ?_
      refine y_get hS tq_X7_judge (v := .ref (ad 126)) rfl fg_X7_23_X7 (hX.1 7 _ rfl) rfl ?_
      refine y_blk 1 tq_X7_judge (z := (67, [(4, .int x14), (0, .ref (ad 7)), (1, .int guard), (2, .int hour), (3, .int word)], [.int guard, .ref (ad 126), .int guard, .ref (ad 126)])) rfl ?_
      refine y_callV hS tq_X7_judge rfl (As := [.int guard]) rfl cv_X7_55 (hX.num (k := 13) (by decide)) (m_X5_at hS hX (k := 13) (by decide) guard) rfl (by decide) (Nat.le_of_ble_eq_true rfl) (fun r67 Gc67 q67 => ?_) (fun E9 G9 h9 => h9.elim)
      obtain ⟨rfl, eG67⟩ := q67
      have eG67 := eG67.symm
      subst eG67
      refine y_blk 2 tq_X7_judge (z := (72, [(4, .int x14), (0, .ref (ad 7)), (1, .int guard), (2, .int hour), (3, .int word)], [.int ((xat σ 13 guard) + 1), .int guard, .ref (ad 126)])) rfl ?_
      refine y_callV hS tq_X7_judge rfl (As := [.int guard, .int ((xat σ 13 guard) + 1)]) rfl cv_X7_66 (hX.num (k := 13) (by decide)) (m_X5_put hS hX (k := 13) (by decide) guard ((xat σ 13 guard) + 1) (fun q => absurd q (by decide))) rfl (by decide) (Nat.le_of_ble_eq_true rfl) (fun r72 Gc72 q72 => ?_) (fun E9 G9 h9 => h9.elim)
      obtain ⟨rfl, hXc72, hFc72⟩ := q72
      refine y_blk 0 tq_X7_judge (z := (75, [(4, .int x14), (0, .ref (ad 7)), (1, .int guard), (2, .int hour), (3, .int word)], [])) rfl ?_
      refine y_pick (L2 := [(0, .ref (ad 7)), (1, .int guard), (2, .int hour), (3, .int word), (4, .int x14)]) [1, 2, 3, 4, 0] rfl ?_
      exact J75 x14 Gc72 (xput σ 13 guard ((xat σ 13 guard) + 1)) hXc72 (keepX.rfl'.trans hFc72) (((xkn.trans xkn.rfl' xkn_put)).w)
    · skip
      refine y_blk 1 tq_X7_judge (z := (25, [(4, .int x14), (0, .ref (ad 7)), (1, .int guard), (2, .int hour), (3, .int word)], [.ref (ad 7)])) rfl ?_
      refine y_get hS tq_X7_judge (v := .ref (ad 128)) rfl fg_X7_26_X7 (hX.1 7 _ rfl) rfl ?_
      refine y_blk 2 tq_X7_judge (z := (30, [(4, .int x14), (0, .ref (ad 7)), (1, .int guard), (2, .int hour), (3, .int word)], [.ref (ad 7), .int guard, .ref (ad 128)])) rfl ?_
      refine y_get hS tq_X7_judge (v := .ref (ad 128)) rfl fg_X7_26_X7 (hX.1 7 _ rfl) rfl ?_
      refine y_blk 1 tq_X7_judge (z := (34, [(4, .int x14), (0, .ref (ad 7)), (1, .int guard), (2, .int hour), (3, .int word)], [.int guard, .ref (ad 128), .int guard, .ref (ad 128)])) rfl ?_
      refine y_callV hS tq_X7_judge rfl (As := [.int guard]) rfl cv_X7_55 (hX.num (k := 14) (by decide)) (m_X5_at hS hX (k := 14) (by decide) guard) rfl (by decide) (Nat.le_of_ble_eq_true rfl) (fun r34 Gc34 q34 => ?_) (fun E9 G9 h9 => h9.elim)
      obtain ⟨rfl, eG34⟩ := q34
      have eG34 := eG34.symm
      subst eG34
      refine y_blk 4 tq_X7_judge (z := (41, [(4, .int x14), (0, .ref (ad 7)), (1, .int guard), (2, .int hour), (3, .int word)], [.int ((xat σ 14 guard) ||| (1 <<< (hour &&& 31))), .int guard, .ref (ad 128)])) rfl ?_
      refine y_callV hS tq_X7_judge rfl (As := [.int guard, .int ((xat σ 14 guard) ||| (1 <<< (hour &&& 31)))]) rfl cv_X7_66 (hX.num (k := 14) (by decide)) (m_X5_put hS hX (k := 14) (by decide) guard ((xat σ 14 guard) ||| (1 <<< (hour &&& 31))) (fun q => absurd q (by decide))) rfl (by decide) (Nat.le_of_ble_eq_true rfl) (fun r41 Gc41 q41 => ?_) (fun E9 G9 h9 => h9.elim)
      obtain ⟨rfl, hXc41, hFc41⟩ := q41
      refine y_blk 2 tq_X7_judge (z := (46, [(4, .int x14), (0, .ref (ad 7)), (1, .int guard), (2, .int hour), (3, .int word)], [.ref (ad 7), .ref (ad 7)])) rfl ?_
      refine y_get hS tq_X7_judge (v := .int (((xput σ 14 guard ((xat σ 14 guard) ||| (1 <<< (hour &&& 31))))).2.2.1 6)) rfl fg_X7_42_X7 (hXc41.1 7 _ rfl) rfl ?_
      refine y_blk 2 tq_X7_judge (z := (51, [(4, .int x14), (0, .ref (ad 7)), (1, .int guard), (2, .int hour), (3, .int word)], [.int ((((xput σ 14 guard ((xat σ 14 guard) ||| (1 <<< (hour &&& 31))))).2.2.1 6) + 1), .ref (ad 7)])) rfl ?_
      refine y_put hS tq_X7_judge rfl fp_X7_42_X7 (hXc41.1 7 _ rfl) (by omega) rfl rfl (Nat.le_of_ble_eq_true rfl) ?_
      have hXw51 : atX aC ad (yup Gc41 (ad 7) (7, .inr (11, [.ref (ad 122), .ref (ad 124), .ref (ad 126), .ref (ad 128), .int (((xput σ 14 guard ((xat σ 14 guard) ||| (1 <<< (hour &&& 31))))).2.2.1 4), .int (((xput σ 14 guard ((xat σ 14 guard) ||| (1 <<< (hour &&& 31))))).2.2.1 5), .int ((((xput σ 14 guard ((xat σ 14 guard) ||| (1 <<< (hour &&& 31))))).2.2.1 6) + 1)]))) (xin (xput σ 14 guard ((xat σ 14 guard) ||| (1 <<< (hour &&& 31)))) 6 ((((xput σ 14 guard ((xat σ 14 guard) ||| (1 <<< (hour &&& 31))))).2.2.1 6) + 1)) := hXc41.setIn 6 7 (fun q => absurd q (by decide)) (by omega) rfl rfl
      have hFw51 : keepX G (yup Gc41 (ad 7) (7, .inr (11, [.ref (ad 122), .ref (ad 124), .ref (ad 126), .ref (ad 128), .int (((xput σ 14 guard ((xat σ 14 guard) ||| (1 <<< (hour &&& 31))))).2.2.1 4), .int (((xput σ 14 guard ((xat σ 14 guard) ||| (1 <<< (hour &&& 31))))).2.2.1 5), .int ((((xput σ 14 guard ((xat σ 14 guard) ||| (1 <<< (hour &&& 31))))).2.2.1 6) + 1)]))) := (keepX.rfl'.trans hFc41).up (hXc41.1 7 _ rfl) (by omega) (by omega)
      show Y l S0 D K_X7_judge 14 0 0 (fun r G1 => (∃ v : Int32, r = some (.int v)) ∧ ∃ σ1 : XS, atX aC ad G1 σ1 ∧ keepX G G1 ∧ xfr [37, 38, 54] σ σ1) (fun _ _ => False) (51 + 3) [(4, .int x14), (0, .ref (ad 7)), (1, .int guard), (2, .int hour), (3, .int word)] [] (yup Gc41 (ad 7) (7, .inr (11, [.ref (ad 122), .ref (ad 124), .ref (ad 126), .ref (ad 128), .int (((xput σ 14 guard ((xat σ 14 guard) ||| (1 <<< (hour &&& 31))))).2.2.1 4), .int (((xput σ 14 guard ((xat σ 14 guard) ||| (1 <<< (hour &&& 31))))).2.2.1 5), .int ((((xput σ 14 guard ((xat σ 14 guard) ||| (1 <<< (hour &&& 31))))).2.2.1 6) + 1)]))) 0 0
      generalize yup Gc41 (ad 7) (7, .inr (11, [.ref (ad 122), .ref (ad 124), .ref (ad 126), .ref (ad 128), .int (((xput σ 14 guard ((xat σ 14 guard) ||| (1 <<< (hour &&& 31))))).2.2.1 4), .int (((xput σ 14 guard ((xat σ 14 guard) ||| (1 <<< (hour &&& 31))))).2.2.1 5), .int ((((xput σ 14 guard ((xat σ 14 guard) ||| (1 <<< (hour &&& 31))))).2.2.1 6) + 1)])) = Gw51 at hXw51 hFw51 ⊢
      refine y_blk 1 tq_X7_judge (z := (75, [(4, .int x14), (0, .ref (ad 7)), (1, .int guard), (2, .int hour), (3, .int word)], [])) rfl ?_
      refine y_pick (L2 := [(0, .ref (ad 7)), (1, .int guard), (2, .int hour), (3, .int word), (4, .int x14)]) [1, 2, 3, 4, 0] rfl ?_
      exact J75 x14 Gw51 (xin (xput σ 14 guard ((xat σ 14 guard) ||| (1 <<< (hour &&& 31)))) 6 ((((xput σ 14 guard ((xat σ 14 guard) ||| (1 <<< (hour &&& 31))))).2.2.1 6) + 1)) hXw51 hFw51 (((xkn.trans (xkn.trans xkn.rfl' xkn_put) xkn_in)).w)
  · skip
    refine y_blk 1 tq_X7_judge (z := (9, [(0, .ref (ad 7)), (1, .int guard), (2, .int hour), (3, .int word)], [.int 4])) rfl ?_
    exact y_iret tq_X7_judge rfl rfl (⟨⟨_, rfl⟩, _, hX, keepX.rfl', (xkn.rfl').w⟩)
