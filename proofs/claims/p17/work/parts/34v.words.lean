/-! ===== words told exactly, on both sides ===== -/
/-- the next number of the row -/
def yaft (n : Int32) : Int32 := (23 * n + 15) - (23 * n + 15) / 97 * 97
/-- the words' row and the numbers stay -/
def xw (σ σ1 : XS) : Prop := σ1.2.2.1 = σ.2.2.1 ∧ σ1.1 11 = σ.1 11 ∧ σ1.2.1 11 = σ.2.1 11
theorem xw.rfl' {σ : XS} : xw σ σ := ⟨rfl, rfl, rfl⟩
theorem xw.trans {σ σ1 σ2 : XS} (h1 : xw σ σ1) (h2 : xw σ1 σ2) : xw σ σ2 := ⟨h2.1.trans h1.1, h2.2.1.trans h1.2.1, h2.2.2.trans h1.2.2⟩
theorem xw_sz {σ : XS} {k : Nat} {v : Int32} (h : k ≠ 11) : xw σ (xsz σ k v) := ⟨rfl, if_neg (fun e => h e.symm), rfl⟩
theorem xw_put {σ : XS} {k : Nat} {i v : Int32} (h : k ≠ 11) : xw σ (xput σ k i v) := by
  unfold xput
  split
  · exact ⟨rfl, rfl, if_neg (fun e => h e.symm)⟩
  · exact xw.rfl'
theorem xw.kn {σ σ1 : XS} (h : xw σ σ1) : xkn σ σ1 := congrFun h.1 7
/-- where the words' row stands, at the hour v of a new beginning -/
def xwp (n : Int32) (s : XS) (v : Int32) : Prop := (v.toInt = 0 ∧ s.1 11 = 0 ∧ s.2.2.1 5 = n) ∨ (1 ≤ v.toInt ∧ 1 ≤ (s.1 11).toInt ∧ s.2.1 11 0 = yaft n)
theorem xwp.step {n : Int32} {s : XS} {v : Int32} (h : xwp n s v) (hb : xb s) (h0 : 0 ≤ v.toInt) (c : ¬ 4 ≤ v) : xwp n (xadd (xin s 5 (yaft (s.2.2.1 5))) 11 (yaft (s.2.2.1 5))) (v + 1) := by
  have e4 : (4 : Int32).toInt = 4 := by decide
  have e1 : (1 : Int32).toInt = 1 := by decide
  have e0 : (0 : Int32).toInt = 0 := by decide
  have c2 : ¬ 4 ≤ v.toInt := fun q => c (yle.mpr (by rw [e4]; exact q))
  have ev : (v + 1).toInt = v.toInt + 1 := by rw [yadd (by omega) (by omega), e1]
  have ecap : xcap 11 = 4 := by decide
  have b11 := hb.1 11
  rw [ecap] at b11
  refine Or.inr ⟨by omega, ?_⟩
  unfold xadd
  have es : (xin s 5 (yaft (s.2.2.1 5))).1 11 = s.1 11 := rfl
  rw [es, ecap]
  rcases h with ⟨h1, h2, h3⟩ | ⟨h1, h2, h3⟩
  · rw [h2, h3, e0, if_pos (by decide)]
    unfold xput
    rw [ecap, if_pos (by decide)]
    refine ⟨?_, ?_⟩
    · show 1 ≤ (if 11 = 11 then (0 + 1 : Int32) else _).toInt
      rw [if_pos rfl]
      decide
    · have e9 : (0 + 1 - 1 : Int32).toNatClampNeg = 0 := by decide
      show upd (s.2.1 11) ((0 + 1 - 1 : Int32).toNatClampNeg) (yaft n) 0 = yaft n
      rw [e9]
      exact pk_us
  · by_cases hc : (s.1 11).toInt < ((4 : Nat) : Int)
    · rw [if_pos hc]
      have em : (s.1 11 + 1 - 1 : Int32) = s.1 11 := Int32.add_sub_cancel _ _
      rw [em]
      unfold xput
      rw [ecap, if_pos ⟨by omega, hc⟩]
      refine ⟨?_, ?_⟩
      · show 1 ≤ (if 11 = 11 then s.1 11 + 1 else _).toInt
        rw [if_pos rfl, yadd (by omega) (by omega)]
        omega
      · show upd (s.2.1 11) (s.1 11).toNatClampNeg (yaft (s.2.2.1 5)) 0 = yaft n
        have hne : (0 : Nat) ≠ (s.1 11).toNatClampNeg := by
          show 0 ≠ (s.1 11).toInt.toNat
          omega
        rw [pk_un hne]
        exact h3
    · rw [if_neg hc]
      exact ⟨h2, h3⟩
theorem xwp.stop {n : Int32} {s : XS} {v : Int32} (h : xwp n s v) (c : 4 ≤ v) : s.2.1 11 0 = yaft n := by
  have c2 := yle.mp c
  have e4 : (4 : Int32).toInt = 4 := by decide
  rcases h with ⟨h1, -, -⟩ | ⟨-, -, h3⟩
  · omega
  · exact h3
set_option maxHeartbeats 4000000 in
set_option maxRecDepth 100000 in
theorem m_X8_nextOfRowV {l : Launch} {S0 : State} {A0 : Array Value} {D : va_G} {aC : Nat → ClassId} {G : AH} (hS : yS l S0 A0 D aC) (number : Int32) : yM l S0 D yX8_nextOfRow cX8_nextOfRow 1 (some .int) 10 0 0 [.int number] G (fun r G1 => r = some (.int (yaft number)) ∧ G1 = G) (fun _ _ => False) := by
  refine yM.ofK K_X8_nextOfRow rfl (by decide) (Nat.le_of_ble_eq_true rfl) ?_
  refine y_blk 6 tq_X8_nextOfRow (z := (9, [(0, .int number)], [.int 97, .int ((23 * number) + 15)])) rfl ?_
  refine y_irem tq_X8_nextOfRow rfl (by decide) ?_
  refine y_blk 0 tq_X8_nextOfRow (z := (10, [(0, .int number)], [.int (((23 * number) + 15) - ((23 * number) + 15) / 97 * 97)])) rfl ?_
  exact y_iret tq_X8_nextOfRow rfl rfl ⟨rfl, rfl⟩
set_option maxHeartbeats 4000000 in
set_option maxRecDepth 100000 in
theorem m_X5_fillV {l : Launch} {S0 : State} {A0 : Array Value} {D : va_G} {aC : Nat → ClassId} {ad : Nat → Nat} {G : AH} {σ : XS} (hS : yS l S0 A0 D aC) (hX : atX aC ad G σ) {k : Nat} (hk : k < 24) (hk11 : k ≠ 11) (number : Int32) (hv : k = 18 → number.toInt ≤ 1000) : yM l S0 D yX5_fill cX5_fill 3 none 11 0 0 [.ref (ad (100 + 2 * k)), .int number] G (fun r G1 => r = none ∧ ∃ σ1 : XS, atX aC ad G1 σ1 ∧ keepX G G1 ∧ xw σ σ1) (fun _ _ => False) := by
  refine yM.ofK K_X5_fill rfl (by decide) (Nat.le_of_ble_eq_true rfl) ?_
  have hcap := xcap_le k
  have hlen : (Int32.ofNat (xcap k)).toInt = xcap k := yofNat (by omega)
  have J11 : ∀ (n11 : Nat) (v11_2 : Int32) (G11 : AH) (s11 : XS) (hX11 : atX aC ad G11 s11) (hF11 : keepX G G11) (kn11 : xw σ s11), ((s11.1 k : Int32).toInt - v11_2.toInt).toNat = n11 → Y l S0 D K_X5_fill 11 0 0 (fun r G1 => r = none ∧ ∃ σ1 : XS, atX aC ad G1 σ1 ∧ keepX G G1 ∧ xw σ σ1) (fun _ _ => False) 11 [(0, .ref (ad (100 + 2 * k))), (1, .int number), (2, .int v11_2)] [] G11 0 0 := by
    intro n11
    induction n11 using Nat.strongRecOn with
    | _ n11 ih11 =>
    intro v11_2 G11 s11 hX11 hF11 kn11 hn11
    subst hn11
    refine y_blk 2 tq_X5_fill (z := (13, [(0, .ref (ad (100 + 2 * k))), (1, .int number), (2, .int v11_2)], [.ref (ad (100 + 2 * k)), .int v11_2])) rfl ?_
    refine y_get hS tq_X5_fill (v := .int (s11.1 k)) rfl fg_X5_15_X5 (hX11.num hk) rfl ?_
    refine y_blk 0 tq_X5_fill (z := (16, [(0, .ref (ad (100 + 2 * k))), (1, .int number), (2, .int v11_2)], [.int (s11.1 k), .int v11_2])) rfl ?_
    refine y_icmp_ge tq_X5_fill 31 rfl rfl (fun c16 => ?_) (fun c16 => ?_)
    · skip
      refine y_blk 0 tq_X5_fill (z := (31, [(0, .ref (ad (100 + 2 * k))), (1, .int number), (2, .int v11_2)], [])) rfl ?_
      exact y_vret tq_X5_fill rfl rfl (⟨rfl, _, hX11, hF11, kn11⟩)
    · skip
      refine y_blk 3 tq_X5_fill (z := (22, [(0, .ref (ad (100 + 2 * k))), (1, .int number), (2, .int v11_2)], [.int number, .int v11_2, .ref (ad (100 + 2 * k))])) rfl ?_
      refine y_callV hS tq_X5_fill rfl (As := [.int v11_2, .int number]) rfl cv_X5_23 (hX11.num hk) (m_X5_put hS hX11 hk v11_2 number hv) rfl (by decide) (Nat.le_of_ble_eq_true rfl) (fun r22 Gc22 q22 => ?_) (fun E9 G9 h9 => h9.elim)
      obtain ⟨rfl, hXc22, hFc22⟩ := q22
      refine y_blk 2 tq_X5_fill (z := (11, [(2, .int (v11_2 + 1)), (0, .ref (ad (100 + 2 * k))), (1, .int number)], [])) rfl ?_
      refine y_pick (L2 := [(0, .ref (ad (100 + 2 * k))), (1, .int number), (2, .int (v11_2 + 1))]) [1, 2, 0] rfl ?_
      exact ih11 _ (by rw [xput_sz]; exact ydec c16) (v11_2 + 1) Gc22 (xput s11 k v11_2 number) hXc22 (hF11.trans hFc22) (xw.trans kn11 (xw_put hk11)) rfl
  refine y_blk 2 tq_X5_fill (z := (2, [(0, .ref (ad (100 + 2 * k))), (1, .int number)], [.ref (ad (100 + 2 * k)), .ref (ad (100 + 2 * k))])) rfl ?_
  refine y_get hS tq_X5_fill (v := .ref (ad (100 + 2 * k + 1))) rfl fg_X5_9_X5 (hX.num hk) rfl ?_
  refine y_blk 0 tq_X5_fill (z := (5, [(0, .ref (ad (100 + 2 * k))), (1, .int number)], [.ref (ad (100 + 2 * k + 1)), .ref (ad (100 + 2 * k))])) rfl ?_
  refine y_alen hS tq_X5_fill 0 rfl rfl (hX.arr hk) ?_
  refine y_blk 0 tq_X5_fill (z := (6, [(0, .ref (ad (100 + 2 * k))), (1, .int number)], [.int (Int32.ofNat (xcap k)), .ref (ad (100 + 2 * k))])) rfl ?_
  refine y_put hS tq_X5_fill rfl fp_X5_15_X5 (hX.num hk) (by omega) rfl rfl (Nat.le_of_ble_eq_true rfl) ?_
  have hXw6 : atX aC ad (yup G (ad (100 + 2 * k)) ((100 + 2 * k), .inr (9, [.ref (ad (100 + 2 * k + 1)), .int (Int32.ofNat (xcap k))]))) (xsz σ k (Int32.ofNat (xcap k))) := hX.setSz hk (by rw [hlen]; omega) (by rw [hlen]; omega)
  have hFw6 : keepX G (yup G (ad (100 + 2 * k)) ((100 + 2 * k), .inr (9, [.ref (ad (100 + 2 * k + 1)), .int (Int32.ofNat (xcap k))]))) := (keepX.rfl' (G := G)).up (hX.num hk) (by omega) (by omega)
  show Y l S0 D K_X5_fill 11 0 0 (fun r G1 => r = none ∧ ∃ σ1 : XS, atX aC ad G1 σ1 ∧ keepX G G1 ∧ xw σ σ1) (fun _ _ => False) (6 + 3) [(0, .ref (ad (100 + 2 * k))), (1, .int number)] [] (yup G (ad (100 + 2 * k)) ((100 + 2 * k), .inr (9, [.ref (ad (100 + 2 * k + 1)), .int (Int32.ofNat (xcap k))]))) 0 0
  generalize yup G (ad (100 + 2 * k)) ((100 + 2 * k), .inr (9, [.ref (ad (100 + 2 * k + 1)), .int (Int32.ofNat (xcap k))])) = Gw6 at hXw6 hFw6 ⊢
  refine y_blk 2 tq_X5_fill (z := (11, [(2, .int 0), (0, .ref (ad (100 + 2 * k))), (1, .int number)], [])) rfl ?_
  refine y_pick (L2 := [(0, .ref (ad (100 + 2 * k))), (1, .int number), (2, .int 0)]) [1, 2, 0] rfl ?_
  exact J11 _ 0 Gw6 (xsz σ k (Int32.ofNat (xcap k))) hXw6 hFw6 (xw.trans xw.rfl' (xw_sz hk11)) rfl
set_option maxHeartbeats 4000000 in
set_option maxRecDepth 100000 in
theorem m_X7_startAnewV {l : Launch} {S0 : State} {A0 : Array Value} {D : va_G} {aC : Nat → ClassId} {ad : Nat → Nat} {G : AH} {σ : XS} (hS : yS l S0 A0 D aC) (hX : atX aC ad G σ) : yM l S0 D yX7_startAnew cX7_startAnew 2 none 12 0 0 [.ref (ad 7)] G (fun r G1 => r = none ∧ ∃ σ1 : XS, atX aC ad G1 σ1 ∧ keepX G G1 ∧ xkn σ σ1 ∧ σ1.2.1 11 0 = yaft (σ.2.2.1 4)) (fun _ _ => False) := by
  refine yM.ofK K_X7_startAnew rfl (by decide) (Nat.le_of_ble_eq_true rfl) ?_
  have J45 : ∀ (n45 : Nat) (v45_1 : Int32) (G45 : AH) (s45 : XS) (hX45 : atX aC ad G45 s45) (hF45 : keepX G G45) (kn45 : xkn σ s45) (hv45 : 0 ≤ v45_1.toInt) (hw45 : xwp (σ.2.2.1 4) s45 v45_1), ((4 : Int32).toInt - v45_1.toInt).toNat = n45 → Y l S0 D K_X7_startAnew 12 0 0 (fun r G1 => r = none ∧ ∃ σ1 : XS, atX aC ad G1 σ1 ∧ keepX G G1 ∧ xkn σ σ1 ∧ σ1.2.1 11 0 = yaft (σ.2.2.1 4)) (fun _ _ => False) 45 [(0, .ref (ad 7)), (1, .int v45_1)] [] G45 0 0 := by
    intro n45
    induction n45 using Nat.strongRecOn with
    | _ n45 ih45 =>
    intro v45_1 G45 s45 hX45 hF45 kn45 hv45 hw45 hn45
    subst hn45
    refine y_blk 2 tq_X7_startAnew (z := (47, [(0, .ref (ad 7)), (1, .int v45_1)], [.int 4, .int v45_1])) rfl ?_
    refine y_icmp_ge tq_X7_startAnew 78 rfl rfl (fun c47 => ?_) (fun c47 => ?_)
    · skip
      refine y_blk 0 tq_X7_startAnew (z := (78, [(0, .ref (ad 7)), (1, .int v45_1)], [])) rfl ?_
      exact y_vret tq_X7_startAnew rfl rfl ⟨rfl, _, hX45, hF45, kn45, hw45.stop c47⟩
    · skip
      refine y_blk 2 tq_X7_startAnew (z := (52, [(0, .ref (ad 7)), (1, .int v45_1)], [.ref (ad 7), .ref (ad 7)])) rfl ?_
      refine y_get hS tq_X7_startAnew (v := .int (s45.2.2.1 5)) rfl fg_X7_45_X7 (hX45.1 7 _ rfl) rfl ?_
      refine y_blk 0 tq_X7_startAnew (z := (55, [(0, .ref (ad 7)), (1, .int v45_1)], [.int (s45.2.2.1 5), .ref (ad 7)])) rfl ?_
      refine y_callSN hS tq_X7_startAnew rfl (As := [.int (s45.2.2.1 5)]) rfl cs_X7_48 (m_X8_nextOfRowV hS  (s45.2.2.1 5)) rfl (by decide) (Nat.le_of_ble_eq_true rfl) (fun r55 Gc55 q55 => ?_) (fun E9 G9 h9 => h9.elim)
      obtain ⟨rfl, eG55⟩ := q55
      have eG55 := eG55.symm
      subst eG55
      refine y_blk 0 tq_X7_startAnew (z := (58, [(0, .ref (ad 7)), (1, .int v45_1)], [.int (yaft (s45.2.2.1 5)), .ref (ad 7)])) rfl ?_
      refine y_put hS tq_X7_startAnew rfl fp_X7_45_X7 (hX45.1 7 _ rfl) (by omega) rfl rfl (Nat.le_of_ble_eq_true rfl) ?_
      have hXw58 : atX aC ad (yup G45 (ad 7) (7, .inr (11, [.ref (ad 122), .ref (ad 124), .ref (ad 126), .ref (ad 128), .int (s45.2.2.1 4), .int (yaft (s45.2.2.1 5)), .int (s45.2.2.1 6)]))) (xin s45 5 (yaft (s45.2.2.1 5))) := hX45.setIn 5 7 (fun q => absurd q (by decide)) (by omega) rfl rfl
      have hFw58 : keepX G (yup G45 (ad 7) (7, .inr (11, [.ref (ad 122), .ref (ad 124), .ref (ad 126), .ref (ad 128), .int (s45.2.2.1 4), .int (yaft (s45.2.2.1 5)), .int (s45.2.2.1 6)]))) := hF45.up (hX45.1 7 _ rfl) (by omega) (by omega)
      show Y l S0 D K_X7_startAnew 12 0 0 (fun r G1 => r = none ∧ ∃ σ1 : XS, atX aC ad G1 σ1 ∧ keepX G G1 ∧ xkn σ σ1 ∧ σ1.2.1 11 0 = yaft (σ.2.2.1 4)) (fun _ _ => False) (58 + 3) [(0, .ref (ad 7)), (1, .int v45_1)] [] (yup G45 (ad 7) (7, .inr (11, [.ref (ad 122), .ref (ad 124), .ref (ad 126), .ref (ad 128), .int (s45.2.2.1 4), .int (yaft (s45.2.2.1 5)), .int (s45.2.2.1 6)]))) 0 0
      generalize yup G45 (ad 7) (7, .inr (11, [.ref (ad 122), .ref (ad 124), .ref (ad 126), .ref (ad 128), .int (s45.2.2.1 4), .int (yaft (s45.2.2.1 5)), .int (s45.2.2.1 6)])) = Gw58 at hXw58 hFw58 ⊢
      refine y_blk 1 tq_X7_startAnew (z := (62, [(0, .ref (ad 7)), (1, .int v45_1)], [.ref (ad 7)])) rfl ?_
      refine y_get hS tq_X7_startAnew (v := .ref (ad 122)) rfl fg_X7_14_X7 (hXw58.1 7 _ rfl) rfl ?_
      refine y_blk 1 tq_X7_startAnew (z := (66, [(0, .ref (ad 7)), (1, .int v45_1)], [.ref (ad 7), .ref (ad 122)])) rfl ?_
      refine y_get hS tq_X7_startAnew (v := .int (((xin s45 5 (yaft (s45.2.2.1 5)))).2.2.1 5)) rfl fg_X7_45_X7 (hXw58.1 7 _ rfl) rfl ?_
      refine y_blk 0 tq_X7_startAnew (z := (69, [(0, .ref (ad 7)), (1, .int v45_1)], [.int (((xin s45 5 (yaft (s45.2.2.1 5)))).2.2.1 5), .ref (ad 122)])) rfl ?_
      refine y_callV hS tq_X7_startAnew rfl (As := [.int (((xin s45 5 (yaft (s45.2.2.1 5)))).2.2.1 5)]) rfl cv_X7_52 (hXw58.num (k := 11) (by decide)) (m_X5_add hS hXw58 (k := 11) (by decide) (((xin s45 5 (yaft (s45.2.2.1 5)))).2.2.1 5) (fun q => absurd q (by decide))) rfl (by decide) (Nat.le_of_ble_eq_true rfl) (fun r69 Gc69 q69 => ?_) (fun E9 G9 h9 => h9.elim)
      obtain ⟨rfl, hXc69, hFc69⟩ := q69
      refine y_blk 2 tq_X7_startAnew (z := (45, [(1, .int (v45_1 + 1)), (0, .ref (ad 7))], [])) rfl ?_
      refine y_pick (L2 := [(0, .ref (ad 7)), (1, .int (v45_1 + 1))]) [1, 0] rfl ?_
      exact ih45 _ (by exact ydec c47) (v45_1 + 1) Gc69 (xadd ((xin s45 5 (yaft (s45.2.2.1 5)))) 11 (((xin s45 5 (yaft (s45.2.2.1 5)))).2.2.1 5)) hXc69 (hFw58.trans hFc69) (xkn.trans (xkn.trans kn45 (xkn_in (by decide))) xkn_add) (by have c9 : ¬ 4 ≤ v45_1.toInt := (fun q => c47 (yle.mpr (by rw [show (4 : Int32).toInt = 4 from by decide]; exact q))); rw [yadd (by rw [show (1 : Int32).toInt = 1 from by decide]; omega) (by rw [show (1 : Int32).toInt = 1 from by decide]; omega), show (1 : Int32).toInt = 1 from by decide]; omega) (hw45.step hX45.2 hv45 c47) rfl
  refine y_blk 1 tq_X7_startAnew (z := (1, [(0, .ref (ad 7))], [.ref (ad 7)])) rfl ?_
  refine y_get hS tq_X7_startAnew (v := .ref (ad 122)) rfl fg_X7_14_X7 (hX.1 7 _ rfl) rfl ?_
  refine y_blk 0 tq_X7_startAnew (z := (4, [(0, .ref (ad 7))], [.ref (ad 122)])) rfl ?_
  refine y_callV hS tq_X7_startAnew rfl (As := []) rfl cv_X7_36 (hX.num (k := 11) (by decide)) (m_X5_clear hS hX (k := 11) (by decide) ) rfl (by decide) (Nat.le_of_ble_eq_true rfl) (fun r4 Gc4 q4 => ?_) (fun E9 G9 h9 => h9.elim)
  obtain ⟨rfl, hXc4, hFc4⟩ := q4
  refine y_blk 1 tq_X7_startAnew (z := (8, [(0, .ref (ad 7))], [.ref (ad 7)])) rfl ?_
  refine y_get hS tq_X7_startAnew (v := .ref (ad 124)) rfl fg_X7_20_X7 (hXc4.1 7 _ rfl) rfl ?_
  refine y_blk 0 tq_X7_startAnew (z := (11, [(0, .ref (ad 7))], [.ref (ad 124)])) rfl ?_
  refine y_callV hS tq_X7_startAnew rfl (As := []) rfl cv_X7_36 (hXc4.num (k := 12) (by decide)) (m_X5_clear hS hXc4 (k := 12) (by decide) ) rfl (by decide) (Nat.le_of_ble_eq_true rfl) (fun r11 Gc11 q11 => ?_) (fun E9 G9 h9 => h9.elim)
  obtain ⟨rfl, hXc11, hFc11⟩ := q11
  refine y_blk 1 tq_X7_startAnew (z := (15, [(0, .ref (ad 7))], [.ref (ad 7)])) rfl ?_
  refine y_get hS tq_X7_startAnew (v := .ref (ad 126)) rfl fg_X7_23_X7 (hXc11.1 7 _ rfl) rfl ?_
  refine y_blk 1 tq_X7_startAnew (z := (19, [(0, .ref (ad 7))], [.int 0, .ref (ad 126)])) rfl ?_
  refine y_callV hS tq_X7_startAnew rfl (As := [.int 0]) rfl cv_X7_39 (hXc11.num (k := 13) (by decide)) (m_X5_fillV hS hXc11 (k := 13) (by decide) (by decide) 0 (fun q => absurd q (by decide))) rfl (by decide) (Nat.le_of_ble_eq_true rfl) (fun r19 Gc19 q19 => ?_) (fun E9 G9 h9 => h9.elim)
  obtain ⟨rfl, σ19, hXc19, hFc19, knc19⟩ := q19
  refine y_blk 1 tq_X7_startAnew (z := (23, [(0, .ref (ad 7))], [.ref (ad 7)])) rfl ?_
  refine y_get hS tq_X7_startAnew (v := .ref (ad 128)) rfl fg_X7_26_X7 (hXc19.1 7 _ rfl) rfl ?_
  refine y_blk 1 tq_X7_startAnew (z := (27, [(0, .ref (ad 7))], [.int 0, .ref (ad 128)])) rfl ?_
  refine y_callV hS tq_X7_startAnew rfl (As := [.int 0]) rfl cv_X7_39 (hXc19.num (k := 14) (by decide)) (m_X5_fillV hS hXc19 (k := 14) (by decide) (by decide) 0 (fun q => absurd q (by decide))) rfl (by decide) (Nat.le_of_ble_eq_true rfl) (fun r27 Gc27 q27 => ?_) (fun E9 G9 h9 => h9.elim)
  obtain ⟨rfl, σ27, hXc27, hFc27, knc27⟩ := q27
  refine y_blk 2 tq_X7_startAnew (z := (32, [(0, .ref (ad 7))], [.int 0, .ref (ad 7)])) rfl ?_
  refine y_put hS tq_X7_startAnew rfl fp_X7_42_X7 (hXc27.1 7 _ rfl) (by omega) rfl rfl (Nat.le_of_ble_eq_true rfl) ?_
  have hXw32 : atX aC ad (yup Gc27 (ad 7) (7, .inr (11, [.ref (ad 122), .ref (ad 124), .ref (ad 126), .ref (ad 128), .int (σ27.2.2.1 4), .int (σ27.2.2.1 5), .int 0]))) (xin σ27 6 0) := hXc27.setIn 6 7 (fun q => absurd q (by decide)) (by omega) rfl rfl
  have hFw32 : keepX G (yup Gc27 (ad 7) (7, .inr (11, [.ref (ad 122), .ref (ad 124), .ref (ad 126), .ref (ad 128), .int (σ27.2.2.1 4), .int (σ27.2.2.1 5), .int 0]))) := ((((keepX.rfl'.trans hFc4).trans hFc11).trans hFc19).trans hFc27).up (hXc27.1 7 _ rfl) (by omega) (by omega)
  show Y l S0 D K_X7_startAnew 12 0 0 (fun r G1 => r = none ∧ ∃ σ1 : XS, atX aC ad G1 σ1 ∧ keepX G G1 ∧ xkn σ σ1 ∧ σ1.2.1 11 0 = yaft (σ.2.2.1 4)) (fun _ _ => False) (32 + 3) [(0, .ref (ad 7))] [] (yup Gc27 (ad 7) (7, .inr (11, [.ref (ad 122), .ref (ad 124), .ref (ad 126), .ref (ad 128), .int (σ27.2.2.1 4), .int (σ27.2.2.1 5), .int 0]))) 0 0
  generalize yup Gc27 (ad 7) (7, .inr (11, [.ref (ad 122), .ref (ad 124), .ref (ad 126), .ref (ad 128), .int (σ27.2.2.1 4), .int (σ27.2.2.1 5), .int 0])) = Gw32 at hXw32 hFw32 ⊢
  refine y_blk 2 tq_X7_startAnew (z := (37, [(0, .ref (ad 7))], [.ref (ad 7), .ref (ad 7)])) rfl ?_
  refine y_get hS tq_X7_startAnew (v := .int (((xin σ27 6 0)).2.2.1 4)) rfl fg_X7_29_X7 (hXw32.1 7 _ rfl) rfl ?_
  refine y_blk 0 tq_X7_startAnew (z := (40, [(0, .ref (ad 7))], [.int (((xin σ27 6 0)).2.2.1 4), .ref (ad 7)])) rfl ?_
  refine y_put hS tq_X7_startAnew rfl fp_X7_45_X7 (hXw32.1 7 _ rfl) (by omega) rfl rfl (Nat.le_of_ble_eq_true rfl) ?_
  have hXw40 : atX aC ad (yup Gw32 (ad 7) (7, .inr (11, [.ref (ad 122), .ref (ad 124), .ref (ad 126), .ref (ad 128), .int (((xin σ27 6 0)).2.2.1 4), .int (((xin σ27 6 0)).2.2.1 4), .int (((xin σ27 6 0)).2.2.1 6)]))) (xin (xin σ27 6 0) 5 (((xin σ27 6 0)).2.2.1 4)) := hXw32.setIn 5 7 (fun q => absurd q (by decide)) (by omega) rfl rfl
  have hFw40 : keepX G (yup Gw32 (ad 7) (7, .inr (11, [.ref (ad 122), .ref (ad 124), .ref (ad 126), .ref (ad 128), .int (((xin σ27 6 0)).2.2.1 4), .int (((xin σ27 6 0)).2.2.1 4), .int (((xin σ27 6 0)).2.2.1 6)]))) := hFw32.up (hXw32.1 7 _ rfl) (by omega) (by omega)
  show Y l S0 D K_X7_startAnew 12 0 0 (fun r G1 => r = none ∧ ∃ σ1 : XS, atX aC ad G1 σ1 ∧ keepX G G1 ∧ xkn σ σ1 ∧ σ1.2.1 11 0 = yaft (σ.2.2.1 4)) (fun _ _ => False) (40 + 3) [(0, .ref (ad 7))] [] (yup Gw32 (ad 7) (7, .inr (11, [.ref (ad 122), .ref (ad 124), .ref (ad 126), .ref (ad 128), .int (((xin σ27 6 0)).2.2.1 4), .int (((xin σ27 6 0)).2.2.1 4), .int (((xin σ27 6 0)).2.2.1 6)]))) 0 0
  generalize yup Gw32 (ad 7) (7, .inr (11, [.ref (ad 122), .ref (ad 124), .ref (ad 126), .ref (ad 128), .int (((xin σ27 6 0)).2.2.1 4), .int (((xin σ27 6 0)).2.2.1 4), .int (((xin σ27 6 0)).2.2.1 6)])) = Gw40 at hXw40 hFw40 ⊢
  refine y_blk 2 tq_X7_startAnew (z := (45, [(1, .int 0), (0, .ref (ad 7))], [])) rfl ?_
  refine y_pick (L2 := [(0, .ref (ad 7)), (1, .int 0)]) [1, 0] rfl ?_
  refine J45 _ 0 Gw40 (xin (xin σ27 6 0) 5 (((xin σ27 6 0)).2.2.1 4)) hXw40 hFw40 (xkn.trans (xkn.trans (xkn.trans (xkn.trans (xkn.trans (xkn.trans xkn.rfl' xkn_sz) xkn_sz) knc19.kn) knc27.kn) (xkn_in (by decide))) (xkn_in (by decide))) (by decide) (Or.inl ⟨by decide, ?_, ?_⟩) rfl
  · show σ27.1 11 = 0
    rw [knc27.2.1, knc19.2.1]
    rfl
  · show σ27.2.2.1 4 = σ.2.2.1 4
    rw [knc27.1, knc19.1]
    rfl
set_option maxHeartbeats 4000000 in
set_option maxRecDepth 100000 in
theorem m_X7_tellV {l : Launch} {S0 : State} {A0 : Array Value} {D : va_G} {aC : Nat → ClassId} {ad : Nat → Nat} {G : AH} {σ : XS} (hS : yS l S0 A0 D aC) (hX : atX aC ad G σ) (newSeed : Int32) : yM l S0 D yX7_tell cX7_tell 2 none 13 0 0 [.ref (ad 7), .int newSeed] G (fun r G1 => r = none ∧ ∃ σ1 : XS, atX aC ad G1 σ1 ∧ keepX G G1 ∧ xkn σ σ1 ∧ σ1.2.1 11 0 = yaft newSeed) (fun _ _ => False) := by
  refine yM.ofK K_X7_tell rfl (by decide) (Nat.le_of_ble_eq_true rfl) ?_
  refine y_blk 2 tq_X7_tell (z := (2, [(0, .ref (ad 7)), (1, .int newSeed)], [.int newSeed, .ref (ad 7)])) rfl ?_
  refine y_put hS tq_X7_tell rfl fp_X7_29_X7 (hX.1 7 _ rfl) (by omega) rfl rfl (Nat.le_of_ble_eq_true rfl) ?_
  have hXw2 : atX aC ad (yup G (ad 7) (7, .inr (11, [.ref (ad 122), .ref (ad 124), .ref (ad 126), .ref (ad 128), .int newSeed, .int (σ.2.2.1 5), .int (σ.2.2.1 6)]))) (xin σ 4 newSeed) := hX.setIn 4 7 (fun q => absurd q (by decide)) (by omega) rfl rfl
  have hFw2 : keepX G (yup G (ad 7) (7, .inr (11, [.ref (ad 122), .ref (ad 124), .ref (ad 126), .ref (ad 128), .int newSeed, .int (σ.2.2.1 5), .int (σ.2.2.1 6)]))) := (keepX.rfl' (G := G)).up (hX.1 7 _ rfl) (by omega) (by omega)
  show Y l S0 D K_X7_tell 13 0 0 (fun r G1 => r = none ∧ ∃ σ1 : XS, atX aC ad G1 σ1 ∧ keepX G G1 ∧ xkn σ σ1 ∧ σ1.2.1 11 0 = yaft newSeed) (fun _ _ => False) (2 + 3) [(0, .ref (ad 7)), (1, .int newSeed)] [] (yup G (ad 7) (7, .inr (11, [.ref (ad 122), .ref (ad 124), .ref (ad 126), .ref (ad 128), .int newSeed, .int (σ.2.2.1 5), .int (σ.2.2.1 6)]))) 0 0
  generalize yup G (ad 7) (7, .inr (11, [.ref (ad 122), .ref (ad 124), .ref (ad 126), .ref (ad 128), .int newSeed, .int (σ.2.2.1 5), .int (σ.2.2.1 6)])) = Gw2 at hXw2 hFw2 ⊢
  refine y_blk 1 tq_X7_tell (z := (6, [(0, .ref (ad 7)), (1, .int newSeed)], [.ref (ad 7)])) rfl ?_
  refine y_callV hS tq_X7_tell rfl (As := []) rfl cv_X7_33 (hXw2.1 7 _ rfl) (m_X7_startAnewV hS hXw2 ) rfl (by decide) (Nat.le_of_ble_eq_true rfl) (fun r6 Gc6 q6 => ?_) (fun E9 G9 h9 => h9.elim)
  obtain ⟨rfl, σ6, hXc6, hFc6, knc6, hw6⟩ := q6
  refine y_blk 0 tq_X7_tell (z := (9, [(0, .ref (ad 7)), (1, .int newSeed)], [])) rfl ?_
  exact y_vret tq_X7_tell rfl rfl (⟨rfl, _, hXc6, (hFw2.trans hFc6), (xkn.trans (xkn.trans xkn.rfl' (xkn_in (by decide))) knc6), hw6⟩)
set_option maxHeartbeats 4000000 in
set_option maxRecDepth 100000 in
theorem m_X8_wordsV {l : Launch} {S0 : State} {A0 : Array Value} {D : va_G} {aC : Nat → ClassId} {ad : Nat → Nat} {G : AH} {σ : XS} (hS : yS l S0 A0 D aC) (hX : atX aC ad G σ) (seed : Int32) : yM l S0 D yX8_words cX8_words 2 (some .int) 14 1 6 [.ref (ad 1), .int seed] G (fun r G1 => (r = some (.int (yaft seed)) ∧ (0 ≤ seed ∧ seed ≤ 99)) ∧ ∃ σ1 : XS, atX aC ad G1 σ1 ∧ keepX G G1 ∧ xkn σ σ1) (fun E G1 => (E = "java/lang/IllegalArgumentException" ∧ ¬ (0 ≤ seed ∧ seed ≤ 99)) ∧ G1 = G) := by
  refine yM.ofK K_X8_words rfl (by decide) (Nat.le_of_ble_eq_true rfl) ?_
  refine y_blk 3 tq_X8_words (z := (4, [(0, .ref (ad 1)), (1, .int seed)], [.int 99, .int 0, .int seed])) rfl ?_
  refine y_callS hS tq_X8_words rfl (As := [.int seed, .int 0, .int 99]) rfl cs_X8_76 (m_X8_isIn hS  seed 0 99) rfl (by decide) (Nat.le_of_ble_eq_true rfl) (fun r4 Gc4 q4 => ?_) (fun E9 G9 h9 => h9.elim)
  obtain ⟨rfl, eG4⟩ := q4
  have eG4 := eG4.symm
  subst eG4
  refine y_blk 0 tq_X8_words (z := (7, [(0, .ref (ad 1)), (1, .int seed)], [.int (if 0 ≤ seed ∧ seed ≤ 99 then 1 else 0)])) rfl ?_
  refine y_callS hS tq_X8_words rfl (As := [.int (if 0 ≤ seed ∧ seed ≤ 99 then 1 else 0)]) rfl cs_X8_117 (m_X8_needLet hS  (if 0 ≤ seed ∧ seed ≤ 99 then 1 else 0)) rfl (by decide) (Nat.le_of_ble_eq_true rfl) (fun r7 Gc7 q7 => ?_) (fun E9 G9 h9 => ⟨⟨h9.1.1, fun q => by have q2 := h9.1.2; rw [if_pos q] at q2; exact absurd q2 (by decide)⟩, h9.2⟩)
  obtain ⟨⟨rfl, hq7⟩, eG7⟩ := q7
  have eG7 := eG7.symm
  subst eG7
  refine y_blk 1 tq_X8_words (z := (11, [(0, .ref (ad 1)), (1, .int seed)], [.ref (ad 1)])) rfl ?_
  refine y_get hS tq_X8_words (v := .ref (ad 7)) rfl fg_X8_49_X8 (hX.1 1 _ rfl) rfl ?_
  refine y_blk 1 tq_X8_words (z := (15, [(0, .ref (ad 1)), (1, .int seed)], [.int seed, .ref (ad 7)])) rfl ?_
  refine y_callV hS tq_X8_words rfl (As := [.int seed]) rfl cv_X8_70 (hX.1 7 _ rfl) (m_X7_tellV hS hX seed) rfl (by decide) (Nat.le_of_ble_eq_true rfl) (fun r15 Gc15 q15 => ?_) (fun E9 G9 h9 => h9.elim)
  obtain ⟨rfl, σ15, hXc15, hFc15, knc15, hw15⟩ := q15
  refine y_blk 1 tq_X8_words (z := (19, [(0, .ref (ad 1)), (1, .int seed)], [.ref (ad 1)])) rfl ?_
  refine y_get hS tq_X8_words (v := .ref (ad 7)) rfl fg_X8_49_X8 (hXc15.1 1 _ rfl) rfl ?_
  refine y_blk 1 tq_X8_words (z := (23, [(0, .ref (ad 1)), (1, .int seed)], [.int 0, .ref (ad 7)])) rfl ?_
  refine y_callV hS tq_X8_words rfl (As := [.int 0]) rfl cv_X8_242 (hXc15.1 7 _ rfl) (m_X7_wordOf hS hXc15 0) rfl (by decide) (Nat.le_of_ble_eq_true rfl) (fun r23 Gc23 q23 => ?_) (fun E9 G9 h9 => h9.elim)
  obtain ⟨rfl, eG23⟩ := q23
  have eG23 := eG23.symm
  subst eG23
  refine y_blk 0 tq_X8_words (z := (26, [(0, .ref (ad 1)), (1, .int seed)], [.int (xat σ15 11 0)])) rfl ?_
  have ex : xat σ15 11 0 = yaft seed := by
    rw [← hw15]
    exact if_pos (by decide)
  rw [ex]
  exact y_iret tq_X8_words rfl rfl (⟨⟨rfl, yif1 hq7⟩, _, hXc15, (keepX.rfl'.trans hFc15), (xkn.trans xkn.rfl' knc15)⟩)
/-- the first word is the seed's, and nothing is refused or asked anew -/
def rwq (ρ s : RS) : Prop := rV s 202 0 = yaft (rI ρ 5) ∧ rI s 0 = rI ρ 0
def rwp (ρ s : RS) (v : Int32) : Prop := ((v.toInt = 0 ∧ rI s 7 = yaft (rI ρ 5)) ∨ (1 ≤ v.toInt ∧ rV s 202 0 = yaft (rI ρ 5))) ∧ rI s 0 = rI ρ 0
theorem rwp.stop {ρ s : RS} {v : Int32} (h : rwp ρ s v) (c : 4 ≤ v) : rwq ρ s := by
  have c2 := yle.mp c
  have e4 : (4 : Int32).toInt = 4 := by decide
  rcases h with ⟨⟨h1, -⟩ | ⟨-, h3⟩, h4⟩
  · omega
  · exact ⟨h3, h4⟩
theorem rwp.step {ρ s : RS} {v x : Int32} (h : rwp ρ s v) (h0 : 0 ≤ v.toInt) (c : ¬ 4 ≤ v) : rwp ρ (rin (rar s 202 (upd (rV s 202) (Int32.toNatClampNeg v) (rI s 7))) 7 x) (v + 1) := by
  have e4 : (4 : Int32).toInt = 4 := by decide
  have e1 : (1 : Int32).toInt = 1 := by decide
  have c2 : ¬ 4 ≤ v.toInt := fun q => c (yle.mpr (by rw [e4]; exact q))
  have ev : (v + 1).toInt = v.toInt + 1 := by rw [yadd (by omega) (by omega), e1]
  refine ⟨Or.inr ⟨by omega, ?_⟩, h.2⟩
  show upd (rV s 202) (Int32.toNatClampNeg v) (rI s 7) 0 = _
  rcases h.1 with ⟨h1, h2⟩ | ⟨h1, h2⟩
  · have e : Int32.toNatClampNeg v = 0 := by
      show v.toInt.toNat = 0
      omega
    rw [e, pk_us]
    exact h2
  · have hne : (0 : Nat) ≠ Int32.toNatClampNeg v := by
      show 0 ≠ v.toInt.toNat
      omega
    rw [pk_un hne]
    exact h2
set_option maxHeartbeats 4000000 in
set_option maxRecDepth 100000 in
theorem m_X12_beginV {l : Launch} {S0 : State} {A0 : Array Value} {D : va_G} {aC : Nat → ClassId} {ic : Int32 → Nat} {de : Nat} {ad : Nat → Nat} {G : AH} {ρ : RS} (hS : yS l S0 A0 D aC) (hI : yIc S0 ic de) (hX : atH aC ic de ad G ρ) (hz : rsz ρ) (hk0 : rbK ρ) (hw0 : ∀ k : Nat, rsm (rV ρ 202 k)) (hy0 : rky ρ ∨ rZ ρ 201 = 0) : yM l S0 D yX12_begin cX12_begin 2 none 17 1 3 [.ref (ad 200)] G (fun r G1 => r = none ∧ ∃ (ad1 : Nat → Nat) (ρ1 : RS), atR aC ic de ad1 G1 ρ1 ∧ ad1 200 = ad 200 ∧ yTg kR G G1 ∧ rRel ρ ρ1 ∧ rwq ρ ρ1) (fun _ _ => False) := by
  refine yM.ofK K_X12_begin rfl (by decide) (Nat.le_of_ble_eq_true rfl) ?_
  have J150 : ∀ (v150_1 : Int32) (G150 : AH) (s150 : RS) (adn150 : Nat → Nat) (hX150 : atH aC ic de adn150 G150 s150) (hz150 : rsz s150) (h200150 : adn150 200 = ad 200) (kt150 : yTg kR G G150) (r9150 : rRel ρ s150) (hk_150 : rbK s150) (hw_150 : ∀ k : Nat, rsm (rV s150 202 k)) (hq_150 : rwq ρ s150) (h7_150 : rsm (rI s150 7)) (hL_150 : (rI s150 6).toInt = 0 ∧ rZ s150 214 = 0) (hr_150 : rky s150), Y l S0 D K_X12_begin 17 1 3 (fun r G1 => r = none ∧ ∃ (ad1 : Nat → Nat) (ρ1 : RS), atR aC ic de ad1 G1 ρ1 ∧ ad1 200 = ad 200 ∧ yTg kR G G1 ∧ rRel ρ ρ1 ∧ rwq ρ ρ1) (fun _ _ => False) 150 [(0, .ref (ad 200)), (1, .int v150_1)] [] G150 0 0 := by
    intro v150_1 G150 s150 adn150 hX150 hz150 h200150 kt150 r9150 hk_150 hw_150 hq_150 h7_150 hL_150 hr_150
    exact y_vret tq_X12_begin rfl rfl (⟨rfl, adn150, _, ⟨hX150, rbK.rb hk_150 hr_150 ⟨by rw [hL_150.1, hL_150.2]; rfl, fun k q => absurd (hL_150.2 ▸ q) (Nat.not_lt_zero k), hw_150, h7_150⟩⟩, h200150, kt150, r9150, hq_150⟩)
  have J131 : ∀ (n131 : Nat) (v131_1 : Int32) (G131 : AH) (s131 : RS) (adn131 : Nat → Nat) (hX131 : atH aC ic de adn131 G131 s131) (hz131 : rsz s131) (h200131 : adn131 200 = ad 200) (kt131 : yTg kR G G131) (r9131 : rRel ρ s131) (hk_131 : rbK s131) (hw_131 : ∀ k : Nat, rsm (rV s131 202 k)) (hq_131 : rwq ρ s131) (h7_131 : rsm (rI s131 7)) (hL_131 : (rI s131 6).toInt = 0 ∧ rZ s131 214 = 0) (h0_131 : 0 ≤ v131_1.toInt) (hf_131 : ∀ j : Nat, (j : Int) < v131_1.toInt → rV s131 203 j = -1), ((6 : Int32).toInt - v131_1.toInt).toNat = n131 → Y l S0 D K_X12_begin 17 1 3 (fun r G1 => r = none ∧ ∃ (ad1 : Nat → Nat) (ρ1 : RS), atR aC ic de ad1 G1 ρ1 ∧ ad1 200 = ad 200 ∧ yTg kR G G1 ∧ rRel ρ ρ1 ∧ rwq ρ ρ1) (fun _ _ => False) 131 [(0, .ref (ad 200)), (1, .int v131_1)] [] G131 0 0 := by
    intro n131
    induction n131 using Nat.strongRecOn with
    | _ n131 ih131 =>
    intro v131_1 G131 s131 adn131 hX131 hz131 h200131 kt131 r9131 hk_131 hw_131 hq_131 h7_131 hL_131 h0_131 hf_131 hn131
    subst hn131
    refine y_blk 2 tq_X12_begin (z := (134, [(0, .ref (ad 200)), (1, .int v131_1)], [.int 6, .int v131_1])) rfl ?_
    refine y_icmp_ge tq_X12_begin 150 rfl rfl (fun c134 => ?_) (fun c134 => ?_)
    · skip
      refine y_blk 0 tq_X12_begin (z := (150, [(0, .ref (ad 200)), (1, .int v131_1)], [])) rfl ?_
      exact J150 v131_1 G131 s131 adn131 hX131 hz131 h200131 kt131 r9131 (by first | exact hk_13 | exact hk_68 | exact hk_131 | exact hk0 | (refine rbK.sL ?_; exact hk_13) | (refine rbK.sA (by decide) ?_; exact hk_13) | (refine rbK.sA (by decide) ?_; exact hk_131) | exact rbK.sF (by omega) (rbK.sF (by omega) hk_68)) (by first | exact hw_13 | exact hw_68 | exact hw_131 | exact hw0 | exact rsm_upd hw_13 h7_13) (by first | exact hq_68 | exact hq_131 | exact hq_13.stop c15) (by first | exact h7_13 | exact h7_68 | exact h7_131 | exact rsm_after) (by first | exact hL_68 | exact hL_131 | exact ⟨rfl, rfl⟩) (by first | exact hy_68.resolve_right (fun q => c126 (by rw [q]; rfl)) | exact fun i hi => Or.inl (ykf6 hf_131 c134 i hi))
    · skip
      have b134 : v131_1.toInt < ((6 : Nat) : Int) := yIy (by decide) h0_131 c134
      refine y_blk 1 tq_X12_begin (z := (138, [(0, .ref (ad 200)), (1, .int v131_1)], [.ref (ad 200)])) rfl ?_
      refine y_get hS tq_X12_begin (v := .ref (adn131 203)) rfl fg_X12_39_X12 (yEq h200131 hX131.m) rfl ?_
      refine y_blk 2 tq_X12_begin (z := (143, [(0, .ref (ad 200)), (1, .int v131_1)], [.int (-1), .int v131_1, .ref (adn131 203)])) rfl ?_
      refine y_iast hS tq_X12_begin rfl hX131.ke (by omega) (by first | exact yIn (by decide) (by decide) | exact yIn (by assumption) (by assumption) | (exact yIn (by omega) (by omega))) ?_
      have hX143 : atH aC ic de adn131 (yup G131 (adn131 203) (203, .inl (aC 0, 6, .inl (upd (rV s131 203) (Int32.toNatClampNeg v131_1) (-1))))) ((rar s131 203 (upd (rV s131 203) (Int32.toNatClampNeg v131_1) (-1)))) := hX131.setA hz131 (by omega) hX131.ke
      have kt143 : yTg kR G (yup G131 (adn131 203) (203, .inl (aC 0, 6, .inl (upd (rV s131 203) (Int32.toNatClampNeg v131_1) (-1))))) := (kt131).trans (yTg.up hX131.ke (kR_n (by omega) (by omega)))
      generalize yup G131 (adn131 203) (203, .inl (aC 0, 6, .inl (upd (rV s131 203) (Int32.toNatClampNeg v131_1) (-1)))) = G143 at hX143 kt143 ⊢
      refine y_blk 2 tq_X12_begin (z := (131, [(1, .int (v131_1 + 1)), (0, .ref (ad 200))], [])) rfl ?_
      refine y_pick (L2 := [(0, .ref (ad 200)), (1, .int (v131_1 + 1))]) [1, 0] rfl ?_
      exact ih131 _ (by exact ydec c134) (v131_1 + 1) G143 (rar s131 203 (upd (rV s131 203) (Int32.toNatClampNeg v131_1) (-1))) adn131 hX143 hz131 h200131 kt143 r9131 (by first | exact hk_13 | exact hk_68 | exact hk_131 | exact hk0 | (refine rbK.sL ?_; exact hk_13) | (refine rbK.sA (by decide) ?_; exact hk_13) | (refine rbK.sA (by decide) ?_; exact hk_131) | exact rbK.sF (by omega) (rbK.sF (by omega) hk_68)) (by first | exact hw_13 | exact hw_68 | exact hw_131 | exact hw0 | exact rsm_upd hw_13 h7_13) (by first | exact hq_68 | exact hq_131 | exact hq_13.stop c15) (by first | exact h7_13 | exact h7_68 | exact h7_131 | exact rsm_after) (by first | exact hL_68 | exact hL_131 | exact ⟨rfl, rfl⟩) (by first | decide | exact yposgeL (by assumption) c134) (by first | exact ykf0 | exact ykf1 h0_131 (by have z9 : (6 : Int32).toInt = 6 := rfl; rw [yle, z9] at c134; omega) hf_131) rfl
  have J68 : ∀ (n68 : Nat) (v68_1 : Int32) (G68 : AH) (s68 : RS) (adn68 : Nat → Nat) (hX68 : atH aC ic de adn68 G68 s68) (hz68 : rsz s68) (h20068 : adn68 200 = ad 200) (kt68 : yTg kR G G68) (r968 : rRel ρ s68) (hk_68 : rbK s68) (hw_68 : ∀ k : Nat, rsm (rV s68 202 k)) (hq_68 : rwq ρ s68) (h7_68 : rsm (rI s68 7)) (hy_68 : rky s68 ∨ rZ s68 201 = 0) (hL_68 : (rI s68 6).toInt = 0 ∧ rZ s68 214 = 0) (h0_68 : 0 ≤ v68_1.toInt), ((Int32.ofNat (rZ s68 212) : Int32).toInt - v68_1.toInt).toNat = n68 → Y l S0 D K_X12_begin 17 1 3 (fun r G1 => r = none ∧ ∃ (ad1 : Nat → Nat) (ρ1 : RS), atR aC ic de ad1 G1 ρ1 ∧ ad1 200 = ad 200 ∧ yTg kR G G1 ∧ rRel ρ ρ1 ∧ rwq ρ ρ1) (fun _ _ => False) 68 [(0, .ref (ad 200)), (1, .int v68_1)] [] G68 0 0 := by
    intro n68
    induction n68 using Nat.strongRecOn with
    | _ n68 ih68 =>
    intro v68_1 G68 s68 adn68 hX68 hz68 h20068 kt68 r968 hk_68 hw_68 hq_68 h7_68 hy_68 hL_68 h0_68 hn68
    subst hn68
    refine y_blk 2 tq_X12_begin (z := (70, [(0, .ref (ad 200)), (1, .int v68_1)], [.ref (ad 200), .int v68_1])) rfl ?_
    refine y_get hS tq_X12_begin (v := .ref (adn68 212)) rfl fg_X12_27_X12 (yEq h20068 hX68.m) rfl ?_
    refine y_blk 0 tq_X12_begin (z := (73, [(0, .ref (ad 200)), (1, .int v68_1)], [.ref (adn68 212), .int v68_1])) rfl ?_
    refine y_callF hS tq_X12_begin rfl (As := []) rfl cf_X12_58 (Or.inl ⟨_, (hX68.ls 212 (by decide)).1⟩) (m_Jsize hS (hX68.ls 212 (by decide))) rfl (by decide) (Nat.le_of_ble_eq_true rfl) (fun r73 Gc73 q73 => ?_) (fun _ _ h9 => h9.elim)
    obtain ⟨rfl, eG73⟩ := q73
    have eG73 := eG73.symm
    subst eG73
    refine y_blk 0 tq_X12_begin (z := (78, [(0, .ref (ad 200)), (1, .int v68_1)], [.int (Int32.ofNat (rZ s68 212)), .int v68_1])) rfl ?_
    refine y_icmp_ge tq_X12_begin 121 rfl rfl (fun c78 => ?_) (fun c78 => ?_)
    · skip
      refine y_blk 1 tq_X12_begin (z := (122, [(0, .ref (ad 200)), (1, .int v68_1)], [.ref (ad 200)])) rfl ?_
      refine y_get hS tq_X12_begin (v := .ref (adn68 201)) rfl fg_X12_7_X12 (yEq h20068 hX68.m) rfl ?_
      refine y_blk 0 tq_X12_begin (z := (125, [(0, .ref (ad 200)), (1, .int v68_1)], [.ref (adn68 201)])) rfl ?_
      refine y_alen hS tq_X12_begin 0 rfl rfl hX68.ki ?_
      refine y_blk 0 tq_X12_begin (z := (126, [(0, .ref (ad 200)), (1, .int v68_1)], [.int (Int32.ofNat (rZ s68 201))])) rfl ?_
      refine y_if_ne tq_X12_begin 150 rfl rfl (fun c126 => ?_) (fun c126 => ?_)
      · skip
        refine y_blk 0 tq_X12_begin (z := (150, [(0, .ref (ad 200)), (1, .int v68_1)], [])) rfl ?_
        exact J150 v68_1 G68 s68 adn68 hX68 hz68 h20068 kt68 r968 (by first | exact hk_13 | exact hk_68 | exact hk_131 | exact hk0 | (refine rbK.sL ?_; exact hk_13) | (refine rbK.sA (by decide) ?_; exact hk_13) | (refine rbK.sA (by decide) ?_; exact hk_131) | exact rbK.sF (by omega) (rbK.sF (by omega) hk_68)) (by first | exact hw_13 | exact hw_68 | exact hw_131 | exact hw0 | exact rsm_upd hw_13 h7_13) (by first | exact hq_68 | exact hq_131 | exact hq_13.stop c15) (by first | exact h7_13 | exact h7_68 | exact h7_131 | exact rsm_after) (by first | exact hL_68 | exact hL_131 | exact ⟨rfl, rfl⟩) (by first | exact hy_68.resolve_right (fun q => c126 (by rw [q]; rfl)) | exact fun i hi => Or.inl (ykf6 hf_131 c134 i hi))
      · skip
        refine y_blk 2 tq_X12_begin (z := (131, [(1, .int 0), (0, .ref (ad 200))], [])) rfl ?_
        refine y_pick (L2 := [(0, .ref (ad 200)), (1, .int 0)]) [1, 0] rfl ?_
        exact J131 _ 0 G68 s68 adn68 hX68 hz68 h20068 kt68 r968 (by first | exact hk_13 | exact hk_68 | exact hk_131 | exact hk0 | (refine rbK.sL ?_; exact hk_13) | (refine rbK.sA (by decide) ?_; exact hk_13) | (refine rbK.sA (by decide) ?_; exact hk_131) | exact rbK.sF (by omega) (rbK.sF (by omega) hk_68)) (by first | exact hw_13 | exact hw_68 | exact hw_131 | exact hw0 | exact rsm_upd hw_13 h7_13) (by first | exact hq_68 | exact hq_131 | exact hq_13.stop c15) (by first | exact h7_13 | exact h7_68 | exact h7_131 | exact rsm_after) (by first | exact hL_68 | exact hL_131 | exact ⟨rfl, rfl⟩) (by first | decide | exact yposgeL (by assumption) c134) (by first | exact ykf0 | exact ykf1 h0_131 (by have z9 : (6 : Int32).toInt = 6 := rfl; rw [yle, z9] at c134; omega) hf_131) rfl
    · skip
      have hn78 := hz68.le 212 (by decide)
      have b78 : v68_1.toInt < rZ s68 212 := yIy (by omega) h0_68 c78
      have g78 := hz68.2.2.1
      refine y_blk 1 tq_X12_begin (z := (82, [(0, .ref (ad 200)), (1, .int v68_1)], [.ref (ad 200)])) rfl ?_
      refine y_get hS tq_X12_begin (v := .ref (adn68 212)) rfl fg_X12_27_X12 (yEq h20068 hX68.m) rfl ?_
      refine y_blk 1 tq_X12_begin (z := (86, [(0, .ref (ad 200)), (1, .int v68_1)], [.int v68_1, .ref (adn68 212)])) rfl ?_
      refine y_callF hS tq_X12_begin rfl (As := [.int v68_1]) rfl cf_X12_80 (Or.inl ⟨_, (hX68.ls 212 (by decide)).1⟩) (m_RguH hS hX68 (by assumption) (by assumption)) rfl (by decide) (Nat.le_of_ble_eq_true rfl) (fun r86 Gc86 q86 => ?_) (fun _ _ h9 => h9.elim)
      obtain ⟨rfl, eG86⟩ := q86
      have eG86 := eG86.symm
      subst eG86
      have d86 : (Int32.toNatClampNeg v68_1) < rZ s68 212 := yIx (by assumption) (by assumption)
      refine y_blk 0 tq_X12_begin (z := (91, [(0, .ref (ad 200)), (1, .int v68_1)], [.ref (adn68 (360 + (Int32.toNatClampNeg v68_1)))])) rfl ?_
      refine y_castG hS tq_X12_begin rfl kc_X12_84 (Or.inl ⟨_, (hX68.gu (by assumption))⟩) ?_
      refine y_blk 1 tq_X12_begin (z := (95, [(0, .ref (ad 200)), (1, .int v68_1)], [.int 0, .ref (adn68 (360 + (Int32.toNatClampNeg v68_1)))])) rfl ?_
      refine y_put hS tq_X12_begin rfl fp_X12_86_X10 (hX68.gu (by assumption)) (by omega) rfl rfl (Nat.le_of_ble_eq_true rfl) ?_
      have hz_95 := hz68.2.2.1
      have hX95 : atH aC ic de adn68 (yup G68 (adn68 (360 + (Int32.toNatClampNeg v68_1))) ((360 + (Int32.toNatClampNeg v68_1)), .inr (14, [.int (rF s68 (360 + (Int32.toNatClampNeg v68_1)) 0), .int (rF s68 (360 + (Int32.toNatClampNeg v68_1)) 1), .int (rF s68 (360 + (Int32.toNatClampNeg v68_1)) 2), .ref (adn68 (380 + (Int32.toNatClampNeg v68_1))), .int 0, .int (rF s68 (360 + (Int32.toNatClampNeg v68_1)) 4)]))) ((rfd s68 (360 + (Int32.toNatClampNeg v68_1)) 3 0)) := hX68.setG hz68 (by assumption) rGd_3
      have kt95 : yTg kR G (yup G68 (adn68 (360 + (Int32.toNatClampNeg v68_1))) ((360 + (Int32.toNatClampNeg v68_1)), .inr (14, [.int (rF s68 (360 + (Int32.toNatClampNeg v68_1)) 0), .int (rF s68 (360 + (Int32.toNatClampNeg v68_1)) 1), .int (rF s68 (360 + (Int32.toNatClampNeg v68_1)) 2), .ref (adn68 (380 + (Int32.toNatClampNeg v68_1))), .int 0, .int (rF s68 (360 + (Int32.toNatClampNeg v68_1)) 4)]))) := (kt68).trans (yTg.up (hX68.gu (by assumption)) (kR_n (by omega) (by omega)))
      show Y l S0 D K_X12_begin 17 1 3 (fun r G1 => r = none ∧ ∃ (ad1 : Nat → Nat) (ρ1 : RS), atR aC ic de ad1 G1 ρ1 ∧ ad1 200 = ad 200 ∧ yTg kR G G1 ∧ rRel ρ ρ1 ∧ rwq ρ ρ1) (fun _ _ => False) (95 + 3) [(0, .ref (ad 200)), (1, .int v68_1)] [] (yup G68 (adn68 (360 + (Int32.toNatClampNeg v68_1))) ((360 + (Int32.toNatClampNeg v68_1)), .inr (14, [.int (rF s68 (360 + (Int32.toNatClampNeg v68_1)) 0), .int (rF s68 (360 + (Int32.toNatClampNeg v68_1)) 1), .int (rF s68 (360 + (Int32.toNatClampNeg v68_1)) 2), .ref (adn68 (380 + (Int32.toNatClampNeg v68_1))), .int 0, .int (rF s68 (360 + (Int32.toNatClampNeg v68_1)) 4)]))) 0 0
      generalize yup G68 (adn68 (360 + (Int32.toNatClampNeg v68_1))) ((360 + (Int32.toNatClampNeg v68_1)), .inr (14, [.int (rF s68 (360 + (Int32.toNatClampNeg v68_1)) 0), .int (rF s68 (360 + (Int32.toNatClampNeg v68_1)) 1), .int (rF s68 (360 + (Int32.toNatClampNeg v68_1)) 2), .ref (adn68 (380 + (Int32.toNatClampNeg v68_1))), .int 0, .int (rF s68 (360 + (Int32.toNatClampNeg v68_1)) 4)])) = G95 at hX95 kt95 ⊢
      refine y_blk 1 tq_X12_begin (z := (99, [(0, .ref (ad 200)), (1, .int v68_1)], [.ref (ad 200)])) rfl ?_
      refine y_get hS tq_X12_begin (v := .ref (adn68 212)) rfl fg_X12_27_X12 (yEq h20068 hX95.m) rfl ?_
      refine y_blk 1 tq_X12_begin (z := (103, [(0, .ref (ad 200)), (1, .int v68_1)], [.int v68_1, .ref (adn68 212)])) rfl ?_
      refine y_callF hS tq_X12_begin rfl (As := [.int v68_1]) rfl cf_X12_80 (Or.inl ⟨_, (hX95.ls 212 (by decide)).1⟩) (m_RguH hS hX95 (by assumption) (by assumption)) rfl (by decide) (Nat.le_of_ble_eq_true rfl) (fun r103 Gc103 q103 => ?_) (fun _ _ h9 => h9.elim)
      obtain ⟨rfl, eG103⟩ := q103
      have eG103 := eG103.symm
      subst eG103
      have d103 : (Int32.toNatClampNeg v68_1) < rZ ((rfd s68 (360 + (Int32.toNatClampNeg v68_1)) 3 0)) 212 := yIx (by assumption) (by assumption)
      refine y_blk 0 tq_X12_begin (z := (108, [(0, .ref (ad 200)), (1, .int v68_1)], [.ref (adn68 (360 + (Int32.toNatClampNeg v68_1)))])) rfl ?_
      refine y_castG hS tq_X12_begin rfl kc_X12_84 (Or.inl ⟨_, (hX95.gu (by assumption))⟩) ?_
      refine y_blk 1 tq_X12_begin (z := (112, [(0, .ref (ad 200)), (1, .int v68_1)], [.int 0, .ref (adn68 (360 + (Int32.toNatClampNeg v68_1)))])) rfl ?_
      refine y_put hS tq_X12_begin rfl fp_X12_89_X10 (hX95.gu (by assumption)) (by omega) rfl rfl (Nat.le_of_ble_eq_true rfl) ?_
      have hz_112 := hz68.2.2.1
      have hX112 : atH aC ic de adn68 (yup G95 (adn68 (360 + (Int32.toNatClampNeg v68_1))) ((360 + (Int32.toNatClampNeg v68_1)), .inr (14, [.int (rF ((rfd s68 (360 + (Int32.toNatClampNeg v68_1)) 3 0)) (360 + (Int32.toNatClampNeg v68_1)) 0), .int (rF ((rfd s68 (360 + (Int32.toNatClampNeg v68_1)) 3 0)) (360 + (Int32.toNatClampNeg v68_1)) 1), .int (rF ((rfd s68 (360 + (Int32.toNatClampNeg v68_1)) 3 0)) (360 + (Int32.toNatClampNeg v68_1)) 2), .ref (adn68 (380 + (Int32.toNatClampNeg v68_1))), .int (rF ((rfd s68 (360 + (Int32.toNatClampNeg v68_1)) 3 0)) (360 + (Int32.toNatClampNeg v68_1)) 3), .int 0]))) ((rfd ((rfd s68 (360 + (Int32.toNatClampNeg v68_1)) 3 0)) (360 + (Int32.toNatClampNeg v68_1)) 4 0)) := hX95.setG hz68 (by assumption) rGd_4
      have kt112 : yTg kR G (yup G95 (adn68 (360 + (Int32.toNatClampNeg v68_1))) ((360 + (Int32.toNatClampNeg v68_1)), .inr (14, [.int (rF ((rfd s68 (360 + (Int32.toNatClampNeg v68_1)) 3 0)) (360 + (Int32.toNatClampNeg v68_1)) 0), .int (rF ((rfd s68 (360 + (Int32.toNatClampNeg v68_1)) 3 0)) (360 + (Int32.toNatClampNeg v68_1)) 1), .int (rF ((rfd s68 (360 + (Int32.toNatClampNeg v68_1)) 3 0)) (360 + (Int32.toNatClampNeg v68_1)) 2), .ref (adn68 (380 + (Int32.toNatClampNeg v68_1))), .int (rF ((rfd s68 (360 + (Int32.toNatClampNeg v68_1)) 3 0)) (360 + (Int32.toNatClampNeg v68_1)) 3), .int 0]))) := (kt95).trans (yTg.up (hX95.gu (by assumption)) (kR_n (by omega) (by omega)))
      show Y l S0 D K_X12_begin 17 1 3 (fun r G1 => r = none ∧ ∃ (ad1 : Nat → Nat) (ρ1 : RS), atR aC ic de ad1 G1 ρ1 ∧ ad1 200 = ad 200 ∧ yTg kR G G1 ∧ rRel ρ ρ1 ∧ rwq ρ ρ1) (fun _ _ => False) (112 + 3) [(0, .ref (ad 200)), (1, .int v68_1)] [] (yup G95 (adn68 (360 + (Int32.toNatClampNeg v68_1))) ((360 + (Int32.toNatClampNeg v68_1)), .inr (14, [.int (rF ((rfd s68 (360 + (Int32.toNatClampNeg v68_1)) 3 0)) (360 + (Int32.toNatClampNeg v68_1)) 0), .int (rF ((rfd s68 (360 + (Int32.toNatClampNeg v68_1)) 3 0)) (360 + (Int32.toNatClampNeg v68_1)) 1), .int (rF ((rfd s68 (360 + (Int32.toNatClampNeg v68_1)) 3 0)) (360 + (Int32.toNatClampNeg v68_1)) 2), .ref (adn68 (380 + (Int32.toNatClampNeg v68_1))), .int (rF ((rfd s68 (360 + (Int32.toNatClampNeg v68_1)) 3 0)) (360 + (Int32.toNatClampNeg v68_1)) 3), .int 0]))) 0 0
      generalize yup G95 (adn68 (360 + (Int32.toNatClampNeg v68_1))) ((360 + (Int32.toNatClampNeg v68_1)), .inr (14, [.int (rF ((rfd s68 (360 + (Int32.toNatClampNeg v68_1)) 3 0)) (360 + (Int32.toNatClampNeg v68_1)) 0), .int (rF ((rfd s68 (360 + (Int32.toNatClampNeg v68_1)) 3 0)) (360 + (Int32.toNatClampNeg v68_1)) 1), .int (rF ((rfd s68 (360 + (Int32.toNatClampNeg v68_1)) 3 0)) (360 + (Int32.toNatClampNeg v68_1)) 2), .ref (adn68 (380 + (Int32.toNatClampNeg v68_1))), .int (rF ((rfd s68 (360 + (Int32.toNatClampNeg v68_1)) 3 0)) (360 + (Int32.toNatClampNeg v68_1)) 3), .int 0])) = G112 at hX112 kt112 ⊢
      refine y_blk 2 tq_X12_begin (z := (68, [(1, .int (v68_1 + 1)), (0, .ref (ad 200))], [])) rfl ?_
      refine y_pick (L2 := [(0, .ref (ad 200)), (1, .int (v68_1 + 1))]) [1, 0] rfl ?_
      exact ih68 _ (by exact ydec c78) (v68_1 + 1) G112 (rfd ((rfd s68 (360 + (Int32.toNatClampNeg v68_1)) 3 0)) (360 + (Int32.toNatClampNeg v68_1)) 4 0) adn68 hX112 hz68 h20068 kt112 r968 (by first | exact hk_13 | exact hk_68 | exact hk_131 | exact hk0 | (refine rbK.sL ?_; exact hk_13) | (refine rbK.sA (by decide) ?_; exact hk_13) | (refine rbK.sA (by decide) ?_; exact hk_131) | exact rbK.sF (by omega) (rbK.sF (by omega) hk_68)) (by first | exact hw_13 | exact hw_68 | exact hw_131 | exact hw0 | exact rsm_upd hw_13 h7_13) (by first | exact hq_68 | exact hq_131 | exact hq_13.stop c15) (by first | exact h7_13 | exact h7_68 | exact h7_131 | exact rsm_after) (by first | exact hy_13 | exact hy_68 | exact hy0) (by first | exact hL_68 | exact hL_131 | exact ⟨rfl, rfl⟩) (by first | decide | exact yposgeL (by assumption) c78) rfl
  have J13 : ∀ (n13 : Nat) (v13_1 : Int32) (G13 : AH) (s13 : RS) (adn13 : Nat → Nat) (hX13 : atH aC ic de adn13 G13 s13) (hz13 : rsz s13) (h20013 : adn13 200 = ad 200) (kt13 : yTg kR G G13) (r913 : rRel ρ s13) (hk_13 : rbK s13) (hw_13 : ∀ k : Nat, rsm (rV s13 202 k)) (hq_13 : rwp ρ s13 v13_1) (h7_13 : rsm (rI s13 7)) (hy_13 : rky s13 ∨ rZ s13 201 = 0) (h0_13 : 0 ≤ v13_1.toInt), ((4 : Int32).toInt - v13_1.toInt).toNat = n13 → Y l S0 D K_X12_begin 17 1 3 (fun r G1 => r = none ∧ ∃ (ad1 : Nat → Nat) (ρ1 : RS), atR aC ic de ad1 G1 ρ1 ∧ ad1 200 = ad 200 ∧ yTg kR G G1 ∧ rRel ρ ρ1 ∧ rwq ρ ρ1) (fun _ _ => False) 13 [(0, .ref (ad 200)), (1, .int v13_1)] [] G13 1 3 := by
    intro n13
    induction n13 using Nat.strongRecOn with
    | _ n13 ih13 =>
    intro v13_1 G13 s13 adn13 hX13 hz13 h20013 kt13 r913 hk_13 hw_13 hq_13 h7_13 hy_13 h0_13 hn13
    subst hn13
    refine y_blk 2 tq_X12_begin (z := (15, [(0, .ref (ad 200)), (1, .int v13_1)], [.int 4, .int v13_1])) rfl ?_
    refine y_icmp_ge tq_X12_begin 45 rfl rfl (fun c15 => ?_) (fun c15 => ?_)
    · skip
      refine y_blk 2 tq_X12_begin (z := (47, [(0, .ref (ad 200)), (1, .int v13_1)], [.int 0, .ref (ad 200)])) rfl ?_
      refine y_put hS tq_X12_begin rfl fp_X12_74_X12 (yEq h20013 hX13.m) (by omega) rfl rfl (Nat.le_of_ble_eq_true rfl) ?_
      have hX47 : atH aC ic de adn13 (yup G13 (ad 200) (200, .inr (16, [.int (rI s13 0), .int (rI s13 1), .int (rI s13 2), .ref (adn13 201), .int (rI s13 3), .int (rI s13 4), .ref (adn13 210), .ref (adn13 211), .ref (adn13 212), .ref (adn13 213), .int (rI s13 5), .int 0, .int (rI s13 7), .ref (adn13 202), .ref (adn13 214), .int (rI s13 8), .ref (adn13 203), .ref (adn13 215), .ref (adn13 216), .int (rI s13 9)]))) ((rin s13 6 0)) := atH.setIb hX13 hz13 h20013 rfl
      have kt47 : yTg kR G (yup G13 (ad 200) (200, .inr (16, [.int (rI s13 0), .int (rI s13 1), .int (rI s13 2), .ref (adn13 201), .int (rI s13 3), .int (rI s13 4), .ref (adn13 210), .ref (adn13 211), .ref (adn13 212), .ref (adn13 213), .int (rI s13 5), .int 0, .int (rI s13 7), .ref (adn13 202), .ref (adn13 214), .int (rI s13 8), .ref (adn13 203), .ref (adn13 215), .ref (adn13 216), .int (rI s13 9)]))) := (kt13).trans (yTg.up (yEq h20013 hX13.m) (kR_n (by omega) (by omega)))
      show Y l S0 D K_X12_begin 17 1 3 (fun r G1 => r = none ∧ ∃ (ad1 : Nat → Nat) (ρ1 : RS), atR aC ic de ad1 G1 ρ1 ∧ ad1 200 = ad 200 ∧ yTg kR G G1 ∧ rRel ρ ρ1 ∧ rwq ρ ρ1) (fun _ _ => False) (47 + 3) [(0, .ref (ad 200)), (1, .int v13_1)] [] (yup G13 (ad 200) (200, .inr (16, [.int (rI s13 0), .int (rI s13 1), .int (rI s13 2), .ref (adn13 201), .int (rI s13 3), .int (rI s13 4), .ref (adn13 210), .ref (adn13 211), .ref (adn13 212), .ref (adn13 213), .int (rI s13 5), .int 0, .int (rI s13 7), .ref (adn13 202), .ref (adn13 214), .int (rI s13 8), .ref (adn13 203), .ref (adn13 215), .ref (adn13 216), .int (rI s13 9)]))) 1 3
      generalize yup G13 (ad 200) (200, .inr (16, [.int (rI s13 0), .int (rI s13 1), .int (rI s13 2), .ref (adn13 201), .int (rI s13 3), .int (rI s13 4), .ref (adn13 210), .ref (adn13 211), .ref (adn13 212), .ref (adn13 213), .int (rI s13 5), .int 0, .int (rI s13 7), .ref (adn13 202), .ref (adn13 214), .int (rI s13 8), .ref (adn13 203), .ref (adn13 215), .ref (adn13 216), .int (rI s13 9)])) = G47 at hX47 kt47 ⊢
      refine y_blk 2 tq_X12_begin (z := (52, [(0, .ref (ad 200)), (1, .int v13_1)], [.int 0, .ref (ad 200)])) rfl ?_
      refine y_put hS tq_X12_begin rfl fp_X12_77_X12 (yEq h20013 hX47.m) (by omega) rfl rfl (Nat.le_of_ble_eq_true rfl) ?_
      have hX52 : atH aC ic de adn13 (yup G47 (ad 200) (200, .inr (16, [.int (rI ((rin s13 6 0)) 0), .int (rI ((rin s13 6 0)) 1), .int (rI ((rin s13 6 0)) 2), .ref (adn13 201), .int (rI ((rin s13 6 0)) 3), .int (rI ((rin s13 6 0)) 4), .ref (adn13 210), .ref (adn13 211), .ref (adn13 212), .ref (adn13 213), .int (rI ((rin s13 6 0)) 5), .int (rI ((rin s13 6 0)) 6), .int (rI ((rin s13 6 0)) 7), .ref (adn13 202), .ref (adn13 214), .int 0, .ref (adn13 203), .ref (adn13 215), .ref (adn13 216), .int (rI ((rin s13 6 0)) 9)]))) ((rin ((rin s13 6 0)) 8 0)) := atH.setIb hX47 hz13 h20013 rfl
      have kt52 : yTg kR G (yup G47 (ad 200) (200, .inr (16, [.int (rI ((rin s13 6 0)) 0), .int (rI ((rin s13 6 0)) 1), .int (rI ((rin s13 6 0)) 2), .ref (adn13 201), .int (rI ((rin s13 6 0)) 3), .int (rI ((rin s13 6 0)) 4), .ref (adn13 210), .ref (adn13 211), .ref (adn13 212), .ref (adn13 213), .int (rI ((rin s13 6 0)) 5), .int (rI ((rin s13 6 0)) 6), .int (rI ((rin s13 6 0)) 7), .ref (adn13 202), .ref (adn13 214), .int 0, .ref (adn13 203), .ref (adn13 215), .ref (adn13 216), .int (rI ((rin s13 6 0)) 9)]))) := (kt47).trans (yTg.up (yEq h20013 hX47.m) (kR_n (by omega) (by omega)))
      show Y l S0 D K_X12_begin 17 1 3 (fun r G1 => r = none ∧ ∃ (ad1 : Nat → Nat) (ρ1 : RS), atR aC ic de ad1 G1 ρ1 ∧ ad1 200 = ad 200 ∧ yTg kR G G1 ∧ rRel ρ ρ1 ∧ rwq ρ ρ1) (fun _ _ => False) (52 + 3) [(0, .ref (ad 200)), (1, .int v13_1)] [] (yup G47 (ad 200) (200, .inr (16, [.int (rI ((rin s13 6 0)) 0), .int (rI ((rin s13 6 0)) 1), .int (rI ((rin s13 6 0)) 2), .ref (adn13 201), .int (rI ((rin s13 6 0)) 3), .int (rI ((rin s13 6 0)) 4), .ref (adn13 210), .ref (adn13 211), .ref (adn13 212), .ref (adn13 213), .int (rI ((rin s13 6 0)) 5), .int (rI ((rin s13 6 0)) 6), .int (rI ((rin s13 6 0)) 7), .ref (adn13 202), .ref (adn13 214), .int 0, .ref (adn13 203), .ref (adn13 215), .ref (adn13 216), .int (rI ((rin s13 6 0)) 9)]))) 1 3
      generalize yup G47 (ad 200) (200, .inr (16, [.int (rI ((rin s13 6 0)) 0), .int (rI ((rin s13 6 0)) 1), .int (rI ((rin s13 6 0)) 2), .ref (adn13 201), .int (rI ((rin s13 6 0)) 3), .int (rI ((rin s13 6 0)) 4), .ref (adn13 210), .ref (adn13 211), .ref (adn13 212), .ref (adn13 213), .int (rI ((rin s13 6 0)) 5), .int (rI ((rin s13 6 0)) 6), .int (rI ((rin s13 6 0)) 7), .ref (adn13 202), .ref (adn13 214), .int 0, .ref (adn13 203), .ref (adn13 215), .ref (adn13 216), .int (rI ((rin s13 6 0)) 9)])) = G52 at hX52 kt52 ⊢
      refine y_blk 1 tq_X12_begin (z := (56, [(0, .ref (ad 200)), (1, .int v13_1)], [.ref (ad 200)])) rfl ?_
      refine y_new 511 hS tq_X12_begin (kc := 0) (ks := 0) rfl nw_X12_17 (fun a56 hne56 => ?_)
      have hle56 : yLe G52 (yup G52 a56 (511, .inr (3, [.int 0, .null, .int 0]))) := yLe.new hne56
      have hA56 : (yup G52 a56 (511, .inr (3, [.int 0, .null, .int 0]))) a56 = some (511, .inr (3, [.int 0, .null, .int 0])) := yup_s _ _ _
      have hX56 := hX52.kp hz13 (yTg.le hle56)
      have kt56 : yTg kR G (yup G52 a56 (511, .inr (3, [.int 0, .null, .int 0]))) := (kt52).trans (yTg.le hle56)
      generalize yup G52 a56 (511, .inr (3, [.int 0, .null, .int 0])) = G56 at hle56 hA56 hX56 kt56 ⊢
      refine y_blk 1 tq_X12_begin (z := (60, [(0, .ref (ad 200)), (1, .int v13_1)], [.ref a56, .ref a56, .ref (ad 200)])) rfl ?_
      refine y_callI hS tq_X12_begin rfl (As := []) rfl ci_X12_19 (m_Jinit hS hI (by decide) hA56) rfl (by decide) (Nat.le_of_ble_eq_true rfl) (fun r60 Gc60 q60 => ?_) (fun _ _ h9 => h9.elim)
      obtain ⟨rfl, eG60⟩ := q60
      subst eG60
      have hA60 : (yup G56 a56 (511, .inr (3, [.int 0, .ref de, .int 0]))) a56 = some (511, .inr (3, [.int 0, .ref de, .int 0])) := yup_s _ _ _
      have hX60 := hX56.kp hz13 (yTg.up (e1 := .inr (3, [.int 0, .ref de, .int 0])) hA56 (by decide))
      have kt60 : yTg kR G (yup G56 a56 (511, .inr (3, [.int 0, .ref de, .int 0]))) := (kt56).trans (yTg.up hA56 (kR_n (by omega) (by omega)))
      generalize yup G56 a56 (511, .inr (3, [.int 0, .ref de, .int 0])) = G60 at hA60 hX60 kt60 ⊢
      refine y_blk 0 tq_X12_begin (z := (63, [(0, .ref (ad 200)), (1, .int v13_1)], [.ref a56, .ref (ad 200)])) rfl ?_
      refine y_retag (t2 := 214) hA60 (by decide) ?_
      have hR63 : (yup G60 a56 (214, .inr (3, [.int 0, .ref de, .int 0]))) a56 = some (214, .inr (3, [.int 0, .ref de, .int 0])) := yup_s _ _ _
      have hXr63 : atH aC ic de adn13 (yup G60 a56 (214, .inr (3, [.int 0, .ref de, .int 0]))) ((rin ((rin s13 6 0)) 8 0)) := hX60.kp hz13 (yTg.ret hA60 (by decide))
      have ktr63 : yTg kR G (yup G60 a56 (214, .inr (3, [.int 0, .ref de, .int 0]))) := (kt60).trans (yTg.ret hA60 (by decide))
      generalize yup G60 a56 (214, .inr (3, [.int 0, .ref de, .int 0])) = Gr63 at hR63 hXr63 ktr63 ⊢
      refine y_put hS tq_X12_begin rfl fp_X12_36_X12 (yEq h20013 hXr63.m) (by omega) rfl rfl (Nat.le_of_ble_eq_true rfl) ?_
      obtain ⟨adn63, hX63, hd63⟩ : ∃ ad1 : Nat → Nat, atH aC ic de ad1 (yup Gr63 (ad 200) (200, .inr (16, [.int (rI ((rin ((rin s13 6 0)) 8 0)) 0), .int (rI ((rin ((rin s13 6 0)) 8 0)) 1), .int (rI ((rin ((rin s13 6 0)) 8 0)) 2), .ref (adn13 201), .int (rI ((rin ((rin s13 6 0)) 8 0)) 3), .int (rI ((rin ((rin s13 6 0)) 8 0)) 4), .ref (adn13 210), .ref (adn13 211), .ref (adn13 212), .ref (adn13 213), .int (rI ((rin ((rin s13 6 0)) 8 0)) 5), .int (rI ((rin ((rin s13 6 0)) 8 0)) 6), .int (rI ((rin ((rin s13 6 0)) 8 0)) 7), .ref (adn13 202), .ref a56, .int (rI ((rin ((rin s13 6 0)) 8 0)) 8), .ref (adn13 203), .ref (adn13 215), .ref (adn13 216), .int (rI ((rin ((rin s13 6 0)) 8 0)) 9)]))) (rls ((rin ((rin s13 6 0)) 8 0)) 214 false 0 0) ∧ ad1 200 = ad 200 := ⟨_, hXr63.setL hz13 h20013 (by decide) hR63 rfl, (adx_n (by decide)).trans ((adx_n (by decide)).trans h20013)⟩
      have kt63 : yTg kR G (yup Gr63 (ad 200) (200, .inr (16, [.int (rI ((rin ((rin s13 6 0)) 8 0)) 0), .int (rI ((rin ((rin s13 6 0)) 8 0)) 1), .int (rI ((rin ((rin s13 6 0)) 8 0)) 2), .ref (adn13 201), .int (rI ((rin ((rin s13 6 0)) 8 0)) 3), .int (rI ((rin ((rin s13 6 0)) 8 0)) 4), .ref (adn13 210), .ref (adn13 211), .ref (adn13 212), .ref (adn13 213), .int (rI ((rin ((rin s13 6 0)) 8 0)) 5), .int (rI ((rin ((rin s13 6 0)) 8 0)) 6), .int (rI ((rin ((rin s13 6 0)) 8 0)) 7), .ref (adn13 202), .ref a56, .int (rI ((rin ((rin s13 6 0)) 8 0)) 8), .ref (adn13 203), .ref (adn13 215), .ref (adn13 216), .int (rI ((rin ((rin s13 6 0)) 8 0)) 9)]))) := (ktr63).trans (yTg.up (yEq h20013 hXr63.m) (kR_n (by omega) (by omega)))
      show Y l S0 D K_X12_begin 17 1 3 (fun r G1 => r = none ∧ ∃ (ad1 : Nat → Nat) (ρ1 : RS), atR aC ic de ad1 G1 ρ1 ∧ ad1 200 = ad 200 ∧ yTg kR G G1 ∧ rRel ρ ρ1 ∧ rwq ρ ρ1) (fun _ _ => False) (63 + 3) [(0, .ref (ad 200)), (1, .int v13_1)] [] (yup Gr63 (ad 200) (200, .inr (16, [.int (rI ((rin ((rin s13 6 0)) 8 0)) 0), .int (rI ((rin ((rin s13 6 0)) 8 0)) 1), .int (rI ((rin ((rin s13 6 0)) 8 0)) 2), .ref (adn13 201), .int (rI ((rin ((rin s13 6 0)) 8 0)) 3), .int (rI ((rin ((rin s13 6 0)) 8 0)) 4), .ref (adn13 210), .ref (adn13 211), .ref (adn13 212), .ref (adn13 213), .int (rI ((rin ((rin s13 6 0)) 8 0)) 5), .int (rI ((rin ((rin s13 6 0)) 8 0)) 6), .int (rI ((rin ((rin s13 6 0)) 8 0)) 7), .ref (adn13 202), .ref a56, .int (rI ((rin ((rin s13 6 0)) 8 0)) 8), .ref (adn13 203), .ref (adn13 215), .ref (adn13 216), .int (rI ((rin ((rin s13 6 0)) 8 0)) 9)]))) 0 0
      generalize yup Gr63 (ad 200) (200, .inr (16, [.int (rI ((rin ((rin s13 6 0)) 8 0)) 0), .int (rI ((rin ((rin s13 6 0)) 8 0)) 1), .int (rI ((rin ((rin s13 6 0)) 8 0)) 2), .ref (adn13 201), .int (rI ((rin ((rin s13 6 0)) 8 0)) 3), .int (rI ((rin ((rin s13 6 0)) 8 0)) 4), .ref (adn13 210), .ref (adn13 211), .ref (adn13 212), .ref (adn13 213), .int (rI ((rin ((rin s13 6 0)) 8 0)) 5), .int (rI ((rin ((rin s13 6 0)) 8 0)) 6), .int (rI ((rin ((rin s13 6 0)) 8 0)) 7), .ref (adn13 202), .ref a56, .int (rI ((rin ((rin s13 6 0)) 8 0)) 8), .ref (adn13 203), .ref (adn13 215), .ref (adn13 216), .int (rI ((rin ((rin s13 6 0)) 8 0)) 9)])) = G63 at hX63 kt63 ⊢
      refine y_blk 2 tq_X12_begin (z := (68, [(1, .int 0), (0, .ref (ad 200))], [])) rfl ?_
      refine y_pick (L2 := [(0, .ref (ad 200)), (1, .int 0)]) [1, 0] rfl ?_
      exact J68 _ 0 G63 (rls ((rin ((rin s13 6 0)) 8 0)) 214 false 0 0) adn63 hX63 (rsz.setL (lt := 214) (by decide) hz13) hd63 kt63 r913 (by first | exact hk_13 | exact hk_68 | exact hk_131 | exact hk0 | (refine rbK.sL ?_; exact hk_13) | (refine rbK.sA (by decide) ?_; exact hk_13) | (refine rbK.sA (by decide) ?_; exact hk_131) | exact rbK.sF (by omega) (rbK.sF (by omega) hk_68)) (by first | exact hw_13 | exact hw_68 | exact hw_131 | exact hw0 | exact rsm_upd hw_13 h7_13) (by first | exact hq_68 | exact hq_131 | exact hq_13.stop c15) (by first | exact h7_13 | exact h7_68 | exact h7_131 | exact rsm_after) (by first | exact hy_13 | exact hy_68 | exact hy0) (by first | exact hL_68 | exact hL_131 | exact ⟨rfl, rfl⟩) (by first | decide | exact yposgeL (by assumption) c78) rfl
    · skip
      have b15 : v13_1.toInt < ((4 : Nat) : Int) := yIy (by decide) h0_13 c15
      refine y_blk 1 tq_X12_begin (z := (19, [(0, .ref (ad 200)), (1, .int v13_1)], [.ref (ad 200)])) rfl ?_
      refine y_get hS tq_X12_begin (v := .ref (adn13 202)) rfl fg_X12_33_X12 (yEq h20013 hX13.m) rfl ?_
      refine y_blk 2 tq_X12_begin (z := (24, [(0, .ref (ad 200)), (1, .int v13_1)], [.ref (ad 200), .int v13_1, .ref (adn13 202)])) rfl ?_
      refine y_get hS tq_X12_begin (v := .int (rI s13 7)) rfl fg_X12_71_X12 (yEq h20013 hX13.m) rfl ?_
      refine y_blk 0 tq_X12_begin (z := (27, [(0, .ref (ad 200)), (1, .int v13_1)], [.int (rI s13 7), .int v13_1, .ref (adn13 202)])) rfl ?_
      refine y_iast hS tq_X12_begin rfl hX13.wo (by omega) (by first | exact yIn (by decide) (by decide) | exact yIn (by assumption) (by assumption) | (exact yIn (by omega) (by omega))) ?_
      have hX27 : atH aC ic de adn13 (yup G13 (adn13 202) (202, .inl (aC 0, 4, .inl (upd (rV s13 202) (Int32.toNatClampNeg v13_1) (rI s13 7))))) ((rar s13 202 (upd (rV s13 202) (Int32.toNatClampNeg v13_1) (rI s13 7)))) := hX13.setA hz13 (by omega) hX13.wo
      have kt27 : yTg kR G (yup G13 (adn13 202) (202, .inl (aC 0, 4, .inl (upd (rV s13 202) (Int32.toNatClampNeg v13_1) (rI s13 7))))) := (kt13).trans (yTg.up hX13.wo (kR_n (by omega) (by omega)))
      generalize yup G13 (adn13 202) (202, .inl (aC 0, 4, .inl (upd (rV s13 202) (Int32.toNatClampNeg v13_1) (rI s13 7)))) = G27 at hX27 kt27 ⊢
      refine y_blk 2 tq_X12_begin (z := (30, [(0, .ref (ad 200)), (1, .int v13_1)], [.ref (ad 200), .ref (ad 200)])) rfl ?_
      refine y_get hS tq_X12_begin (v := .int (rI ((rar s13 202 (upd (rV s13 202) (Int32.toNatClampNeg v13_1) (rI s13 7)))) 7)) rfl fg_X12_71_X12 (yEq h20013 hX27.m) rfl ?_
      refine y_blk 0 tq_X12_begin (z := (33, [(0, .ref (ad 200)), (1, .int v13_1)], [.int (rI ((rar s13 202 (upd (rV s13 202) (Int32.toNatClampNeg v13_1) (rI s13 7)))) 7), .ref (ad 200)])) rfl ?_
      refine y_callS hS tq_X12_begin rfl (As := [.int (rI ((rar s13 202 (upd (rV s13 202) (Int32.toNatClampNeg v13_1) (rI s13 7)))) 7)]) rfl cs_X12_67 (m_X12_after hS (rI ((rar s13 202 (upd (rV s13 202) (Int32.toNatClampNeg v13_1) (rI s13 7)))) 7)) rfl (by decide) (Nat.le_of_ble_eq_true rfl) (fun r33 Gc33 q33 => ?_) (fun E9 G9 h9 => h9.elim)
      obtain ⟨rfl, eG33⟩ := q33
      have eG33 := eG33.symm
      subst eG33
      refine y_blk 0 tq_X12_begin (z := (36, [(0, .ref (ad 200)), (1, .int v13_1)], [.int ((23 * (rI ((rar s13 202 (upd (rV s13 202) (Int32.toNatClampNeg v13_1) (rI s13 7)))) 7) + 15) - (23 * (rI ((rar s13 202 (upd (rV s13 202) (Int32.toNatClampNeg v13_1) (rI s13 7)))) 7) + 15) / 97 * 97), .ref (ad 200)])) rfl ?_
      refine y_put hS tq_X12_begin rfl fp_X12_71_X12 (yEq h20013 hX27.m) (by omega) rfl rfl (Nat.le_of_ble_eq_true rfl) ?_
      have hX36 : atH aC ic de adn13 (yup G27 (ad 200) (200, .inr (16, [.int (rI ((rar s13 202 (upd (rV s13 202) (Int32.toNatClampNeg v13_1) (rI s13 7)))) 0), .int (rI ((rar s13 202 (upd (rV s13 202) (Int32.toNatClampNeg v13_1) (rI s13 7)))) 1), .int (rI ((rar s13 202 (upd (rV s13 202) (Int32.toNatClampNeg v13_1) (rI s13 7)))) 2), .ref (adn13 201), .int (rI ((rar s13 202 (upd (rV s13 202) (Int32.toNatClampNeg v13_1) (rI s13 7)))) 3), .int (rI ((rar s13 202 (upd (rV s13 202) (Int32.toNatClampNeg v13_1) (rI s13 7)))) 4), .ref (adn13 210), .ref (adn13 211), .ref (adn13 212), .ref (adn13 213), .int (rI ((rar s13 202 (upd (rV s13 202) (Int32.toNatClampNeg v13_1) (rI s13 7)))) 5), .int (rI ((rar s13 202 (upd (rV s13 202) (Int32.toNatClampNeg v13_1) (rI s13 7)))) 6), .int ((23 * (rI ((rar s13 202 (upd (rV s13 202) (Int32.toNatClampNeg v13_1) (rI s13 7)))) 7) + 15) - (23 * (rI ((rar s13 202 (upd (rV s13 202) (Int32.toNatClampNeg v13_1) (rI s13 7)))) 7) + 15) / 97 * 97), .ref (adn13 202), .ref (adn13 214), .int (rI ((rar s13 202 (upd (rV s13 202) (Int32.toNatClampNeg v13_1) (rI s13 7)))) 8), .ref (adn13 203), .ref (adn13 215), .ref (adn13 216), .int (rI ((rar s13 202 (upd (rV s13 202) (Int32.toNatClampNeg v13_1) (rI s13 7)))) 9)]))) ((rin ((rar s13 202 (upd (rV s13 202) (Int32.toNatClampNeg v13_1) (rI s13 7)))) 7 ((23 * (rI ((rar s13 202 (upd (rV s13 202) (Int32.toNatClampNeg v13_1) (rI s13 7)))) 7) + 15) - (23 * (rI ((rar s13 202 (upd (rV s13 202) (Int32.toNatClampNeg v13_1) (rI s13 7)))) 7) + 15) / 97 * 97))) := atH.setIb hX27 hz13 h20013 rfl
      have kt36 : yTg kR G (yup G27 (ad 200) (200, .inr (16, [.int (rI ((rar s13 202 (upd (rV s13 202) (Int32.toNatClampNeg v13_1) (rI s13 7)))) 0), .int (rI ((rar s13 202 (upd (rV s13 202) (Int32.toNatClampNeg v13_1) (rI s13 7)))) 1), .int (rI ((rar s13 202 (upd (rV s13 202) (Int32.toNatClampNeg v13_1) (rI s13 7)))) 2), .ref (adn13 201), .int (rI ((rar s13 202 (upd (rV s13 202) (Int32.toNatClampNeg v13_1) (rI s13 7)))) 3), .int (rI ((rar s13 202 (upd (rV s13 202) (Int32.toNatClampNeg v13_1) (rI s13 7)))) 4), .ref (adn13 210), .ref (adn13 211), .ref (adn13 212), .ref (adn13 213), .int (rI ((rar s13 202 (upd (rV s13 202) (Int32.toNatClampNeg v13_1) (rI s13 7)))) 5), .int (rI ((rar s13 202 (upd (rV s13 202) (Int32.toNatClampNeg v13_1) (rI s13 7)))) 6), .int ((23 * (rI ((rar s13 202 (upd (rV s13 202) (Int32.toNatClampNeg v13_1) (rI s13 7)))) 7) + 15) - (23 * (rI ((rar s13 202 (upd (rV s13 202) (Int32.toNatClampNeg v13_1) (rI s13 7)))) 7) + 15) / 97 * 97), .ref (adn13 202), .ref (adn13 214), .int (rI ((rar s13 202 (upd (rV s13 202) (Int32.toNatClampNeg v13_1) (rI s13 7)))) 8), .ref (adn13 203), .ref (adn13 215), .ref (adn13 216), .int (rI ((rar s13 202 (upd (rV s13 202) (Int32.toNatClampNeg v13_1) (rI s13 7)))) 9)]))) := (kt27).trans (yTg.up (yEq h20013 hX27.m) (kR_n (by omega) (by omega)))
      show Y l S0 D K_X12_begin 17 1 3 (fun r G1 => r = none ∧ ∃ (ad1 : Nat → Nat) (ρ1 : RS), atR aC ic de ad1 G1 ρ1 ∧ ad1 200 = ad 200 ∧ yTg kR G G1 ∧ rRel ρ ρ1 ∧ rwq ρ ρ1) (fun _ _ => False) (36 + 3) [(0, .ref (ad 200)), (1, .int v13_1)] [] (yup G27 (ad 200) (200, .inr (16, [.int (rI ((rar s13 202 (upd (rV s13 202) (Int32.toNatClampNeg v13_1) (rI s13 7)))) 0), .int (rI ((rar s13 202 (upd (rV s13 202) (Int32.toNatClampNeg v13_1) (rI s13 7)))) 1), .int (rI ((rar s13 202 (upd (rV s13 202) (Int32.toNatClampNeg v13_1) (rI s13 7)))) 2), .ref (adn13 201), .int (rI ((rar s13 202 (upd (rV s13 202) (Int32.toNatClampNeg v13_1) (rI s13 7)))) 3), .int (rI ((rar s13 202 (upd (rV s13 202) (Int32.toNatClampNeg v13_1) (rI s13 7)))) 4), .ref (adn13 210), .ref (adn13 211), .ref (adn13 212), .ref (adn13 213), .int (rI ((rar s13 202 (upd (rV s13 202) (Int32.toNatClampNeg v13_1) (rI s13 7)))) 5), .int (rI ((rar s13 202 (upd (rV s13 202) (Int32.toNatClampNeg v13_1) (rI s13 7)))) 6), .int ((23 * (rI ((rar s13 202 (upd (rV s13 202) (Int32.toNatClampNeg v13_1) (rI s13 7)))) 7) + 15) - (23 * (rI ((rar s13 202 (upd (rV s13 202) (Int32.toNatClampNeg v13_1) (rI s13 7)))) 7) + 15) / 97 * 97), .ref (adn13 202), .ref (adn13 214), .int (rI ((rar s13 202 (upd (rV s13 202) (Int32.toNatClampNeg v13_1) (rI s13 7)))) 8), .ref (adn13 203), .ref (adn13 215), .ref (adn13 216), .int (rI ((rar s13 202 (upd (rV s13 202) (Int32.toNatClampNeg v13_1) (rI s13 7)))) 9)]))) 1 3
      generalize yup G27 (ad 200) (200, .inr (16, [.int (rI ((rar s13 202 (upd (rV s13 202) (Int32.toNatClampNeg v13_1) (rI s13 7)))) 0), .int (rI ((rar s13 202 (upd (rV s13 202) (Int32.toNatClampNeg v13_1) (rI s13 7)))) 1), .int (rI ((rar s13 202 (upd (rV s13 202) (Int32.toNatClampNeg v13_1) (rI s13 7)))) 2), .ref (adn13 201), .int (rI ((rar s13 202 (upd (rV s13 202) (Int32.toNatClampNeg v13_1) (rI s13 7)))) 3), .int (rI ((rar s13 202 (upd (rV s13 202) (Int32.toNatClampNeg v13_1) (rI s13 7)))) 4), .ref (adn13 210), .ref (adn13 211), .ref (adn13 212), .ref (adn13 213), .int (rI ((rar s13 202 (upd (rV s13 202) (Int32.toNatClampNeg v13_1) (rI s13 7)))) 5), .int (rI ((rar s13 202 (upd (rV s13 202) (Int32.toNatClampNeg v13_1) (rI s13 7)))) 6), .int ((23 * (rI ((rar s13 202 (upd (rV s13 202) (Int32.toNatClampNeg v13_1) (rI s13 7)))) 7) + 15) - (23 * (rI ((rar s13 202 (upd (rV s13 202) (Int32.toNatClampNeg v13_1) (rI s13 7)))) 7) + 15) / 97 * 97), .ref (adn13 202), .ref (adn13 214), .int (rI ((rar s13 202 (upd (rV s13 202) (Int32.toNatClampNeg v13_1) (rI s13 7)))) 8), .ref (adn13 203), .ref (adn13 215), .ref (adn13 216), .int (rI ((rar s13 202 (upd (rV s13 202) (Int32.toNatClampNeg v13_1) (rI s13 7)))) 9)])) = G36 at hX36 kt36 ⊢
      refine y_blk 2 tq_X12_begin (z := (13, [(1, .int (v13_1 + 1)), (0, .ref (ad 200))], [])) rfl ?_
      refine y_pick (L2 := [(0, .ref (ad 200)), (1, .int (v13_1 + 1))]) [1, 0] rfl ?_
      exact ih13 _ (by exact ydec c15) (v13_1 + 1) G36 (rin ((rar s13 202 (upd (rV s13 202) (Int32.toNatClampNeg v13_1) (rI s13 7)))) 7 ((23 * (rI ((rar s13 202 (upd (rV s13 202) (Int32.toNatClampNeg v13_1) (rI s13 7)))) 7) + 15) - (23 * (rI ((rar s13 202 (upd (rV s13 202) (Int32.toNatClampNeg v13_1) (rI s13 7)))) 7) + 15) / 97 * 97)) adn13 hX36 hz13 h20013 kt36 r913 (by first | exact hk_13 | exact hk_68 | exact hk_131 | exact hk0 | (refine rbK.sL ?_; exact hk_13) | (refine rbK.sA (by decide) ?_; exact hk_13) | (refine rbK.sA (by decide) ?_; exact hk_131) | exact rbK.sF (by omega) (rbK.sF (by omega) hk_68)) (by first | exact hw_13 | exact hw_68 | exact hw_131 | exact hw0 | exact rsm_upd hw_13 h7_13) (by first | exact hq_13.step h0_13 c15 | exact ⟨Or.inl ⟨rfl, rfl⟩, rfl⟩) (by first | exact h7_13 | exact h7_68 | exact h7_131 | exact rsm_after) (by first | exact hy_13 | exact hy_68 | exact hy0) (by first | decide | exact yposgeL (by assumption) c15) rfl
  refine y_blk 2 tq_X12_begin (z := (2, [(0, .ref (ad 200))], [.ref (ad 200), .ref (ad 200)])) rfl ?_
  refine y_get hS tq_X12_begin (v := .int (rI ρ 5)) rfl fg_X12_64_X12 hX.m rfl ?_
  refine y_blk 0 tq_X12_begin (z := (5, [(0, .ref (ad 200))], [.int (rI ρ 5), .ref (ad 200)])) rfl ?_
  refine y_callS hS tq_X12_begin rfl (As := [.int (rI ρ 5)]) rfl cs_X12_67 (m_X12_after hS (rI ρ 5)) rfl (by decide) (Nat.le_of_ble_eq_true rfl) (fun r5 Gc5 q5 => ?_) (fun E9 G9 h9 => h9.elim)
  obtain ⟨rfl, eG5⟩ := q5
  have eG5 := eG5.symm
  subst eG5
  refine y_blk 0 tq_X12_begin (z := (8, [(0, .ref (ad 200))], [.int ((23 * (rI ρ 5) + 15) - (23 * (rI ρ 5) + 15) / 97 * 97), .ref (ad 200)])) rfl ?_
  refine y_put hS tq_X12_begin rfl fp_X12_71_X12 hX.m (by omega) rfl rfl (Nat.le_of_ble_eq_true rfl) ?_
  have hX8 : atH aC ic de ad (yup G (ad 200) (200, .inr (16, [.int (rI ρ 0), .int (rI ρ 1), .int (rI ρ 2), .ref (ad 201), .int (rI ρ 3), .int (rI ρ 4), .ref (ad 210), .ref (ad 211), .ref (ad 212), .ref (ad 213), .int (rI ρ 5), .int (rI ρ 6), .int ((23 * (rI ρ 5) + 15) - (23 * (rI ρ 5) + 15) / 97 * 97), .ref (ad 202), .ref (ad 214), .int (rI ρ 8), .ref (ad 203), .ref (ad 215), .ref (ad 216), .int (rI ρ 9)]))) ((rin ρ 7 ((23 * (rI ρ 5) + 15) - (23 * (rI ρ 5) + 15) / 97 * 97))) := atH.setIb hX hz rfl rfl
  have kt8 : yTg kR G (yup G (ad 200) (200, .inr (16, [.int (rI ρ 0), .int (rI ρ 1), .int (rI ρ 2), .ref (ad 201), .int (rI ρ 3), .int (rI ρ 4), .ref (ad 210), .ref (ad 211), .ref (ad 212), .ref (ad 213), .int (rI ρ 5), .int (rI ρ 6), .int ((23 * (rI ρ 5) + 15) - (23 * (rI ρ 5) + 15) / 97 * 97), .ref (ad 202), .ref (ad 214), .int (rI ρ 8), .ref (ad 203), .ref (ad 215), .ref (ad 216), .int (rI ρ 9)]))) := ((yTg.rfl' (f := kR) (G := G))).trans (yTg.up hX.m (kR_n (by omega) (by omega)))
  show Y l S0 D K_X12_begin 17 1 3 (fun r G1 => r = none ∧ ∃ (ad1 : Nat → Nat) (ρ1 : RS), atR aC ic de ad1 G1 ρ1 ∧ ad1 200 = ad 200 ∧ yTg kR G G1 ∧ rRel ρ ρ1 ∧ rwq ρ ρ1) (fun _ _ => False) (8 + 3) [(0, .ref (ad 200))] [] (yup G (ad 200) (200, .inr (16, [.int (rI ρ 0), .int (rI ρ 1), .int (rI ρ 2), .ref (ad 201), .int (rI ρ 3), .int (rI ρ 4), .ref (ad 210), .ref (ad 211), .ref (ad 212), .ref (ad 213), .int (rI ρ 5), .int (rI ρ 6), .int ((23 * (rI ρ 5) + 15) - (23 * (rI ρ 5) + 15) / 97 * 97), .ref (ad 202), .ref (ad 214), .int (rI ρ 8), .ref (ad 203), .ref (ad 215), .ref (ad 216), .int (rI ρ 9)]))) 1 3
  generalize yup G (ad 200) (200, .inr (16, [.int (rI ρ 0), .int (rI ρ 1), .int (rI ρ 2), .ref (ad 201), .int (rI ρ 3), .int (rI ρ 4), .ref (ad 210), .ref (ad 211), .ref (ad 212), .ref (ad 213), .int (rI ρ 5), .int (rI ρ 6), .int ((23 * (rI ρ 5) + 15) - (23 * (rI ρ 5) + 15) / 97 * 97), .ref (ad 202), .ref (ad 214), .int (rI ρ 8), .ref (ad 203), .ref (ad 215), .ref (ad 216), .int (rI ρ 9)])) = G8 at hX8 kt8 ⊢
  refine y_blk 2 tq_X12_begin (z := (13, [(1, .int 0), (0, .ref (ad 200))], [])) rfl ?_
  refine y_pick (L2 := [(0, .ref (ad 200)), (1, .int 0)]) [1, 0] rfl ?_
  exact J13 _ 0 G8 (rin ρ 7 ((23 * (rI ρ 5) + 15) - (23 * (rI ρ 5) + 15) / 97 * 97)) ad hX8 hz rfl kt8 rRel.rfl' (by first | exact hk_13 | exact hk_68 | exact hk_131 | exact hk0 | (refine rbK.sL ?_; exact hk_13) | (refine rbK.sA (by decide) ?_; exact hk_13) | (refine rbK.sA (by decide) ?_; exact hk_131) | exact rbK.sF (by omega) (rbK.sF (by omega) hk_68)) (by first | exact hw_13 | exact hw_68 | exact hw_131 | exact hw0 | exact rsm_upd hw_13 h7_13) (by first | exact hq_13.step h0_13 c15 | exact ⟨Or.inl ⟨rfl, rfl⟩, rfl⟩) (by first | exact h7_13 | exact h7_68 | exact h7_131 | exact rsm_after) (by first | exact hy_13 | exact hy_68 | exact hy0) (by first | decide | exact yposgeL (by assumption) c15) rfl
set_option maxHeartbeats 4000000 in
set_option maxRecDepth 100000 in
theorem m_X12_wordsV {l : Launch} {S0 : State} {A0 : Array Value} {D : va_G} {aC : Nat → ClassId} {ic : Int32 → Nat} {de : Nat} {ad : Nat → Nat} {G : AH} {ρ : RS} (hS : yS l S0 A0 D aC) (hI : yIc S0 ic de) (hX : atR aC ic de ad G ρ) (seed : Int32) : yM l S0 D yX12_words cX12_words 2 (some .int) 18 1 3 [.ref (ad 200), .int seed] G (fun r G1 => ∃ (ad1 : Nat → Nat) (ρ1 : RS), atR aC ic de ad1 G1 ρ1 ∧ ad1 200 = ad 200 ∧ yTg kR G G1 ∧ rRel ρ ρ1 ∧ (((0 ≤ seed ∧ seed ≤ 99) ∧ r = some (.int (yaft seed)) ∧ rI ρ1 0 = 0) ∨ (¬ (0 ≤ seed ∧ seed ≤ 99) ∧ (∃ v : Int32, r = some (.int v)) ∧ rI ρ1 0 = 1))) (fun _ _ => False) := by
  refine yM.ofK K_X12_words rfl (by decide) (Nat.le_of_ble_eq_true rfl) ?_
  refine y_blk 2 tq_X12_words (z := (2, [(0, .ref (ad 200)), (1, .int seed)], [.int 0, .ref (ad 200)])) rfl ?_
  refine y_put hS tq_X12_words rfl fp_X12_51_X12 hX.m (by omega) rfl rfl (Nat.le_of_ble_eq_true rfl) ?_
  have hX2 : atR aC ic de ad (yup G (ad 200) (200, .inr (16, [.int 0, .int (rI ρ 1), .int (rI ρ 2), .ref (ad 201), .int (rI ρ 3), .int (rI ρ 4), .ref (ad 210), .ref (ad 211), .ref (ad 212), .ref (ad 213), .int (rI ρ 5), .int (rI ρ 6), .int (rI ρ 7), .ref (ad 202), .ref (ad 214), .int (rI ρ 8), .ref (ad 203), .ref (ad 215), .ref (ad 216), .int (rI ρ 9)]))) ((rin ρ 0 0)) := atR.setIb hX rfl rfl (hX.2.setI (by decide))
  have kt2 : yTg kR G (yup G (ad 200) (200, .inr (16, [.int 0, .int (rI ρ 1), .int (rI ρ 2), .ref (ad 201), .int (rI ρ 3), .int (rI ρ 4), .ref (ad 210), .ref (ad 211), .ref (ad 212), .ref (ad 213), .int (rI ρ 5), .int (rI ρ 6), .int (rI ρ 7), .ref (ad 202), .ref (ad 214), .int (rI ρ 8), .ref (ad 203), .ref (ad 215), .ref (ad 216), .int (rI ρ 9)]))) := ((yTg.rfl' (f := kR) (G := G))).trans (yTg.up hX.m (kR_n (by omega) (by omega)))
  show Y l S0 D K_X12_words 18 1 3 (fun r G1 => ∃ (ad1 : Nat → Nat) (ρ1 : RS), atR aC ic de ad1 G1 ρ1 ∧ ad1 200 = ad 200 ∧ yTg kR G G1 ∧ rRel ρ ρ1 ∧ (((0 ≤ seed ∧ seed ≤ 99) ∧ r = some (.int (yaft seed)) ∧ rI ρ1 0 = 0) ∨ (¬ (0 ≤ seed ∧ seed ≤ 99) ∧ (∃ v : Int32, r = some (.int v)) ∧ rI ρ1 0 = 1))) (fun _ _ => False) (2 + 3) [(0, .ref (ad 200)), (1, .int seed)] [] (yup G (ad 200) (200, .inr (16, [.int 0, .int (rI ρ 1), .int (rI ρ 2), .ref (ad 201), .int (rI ρ 3), .int (rI ρ 4), .ref (ad 210), .ref (ad 211), .ref (ad 212), .ref (ad 213), .int (rI ρ 5), .int (rI ρ 6), .int (rI ρ 7), .ref (ad 202), .ref (ad 214), .int (rI ρ 8), .ref (ad 203), .ref (ad 215), .ref (ad 216), .int (rI ρ 9)]))) 1 3
  generalize yup G (ad 200) (200, .inr (16, [.int 0, .int (rI ρ 1), .int (rI ρ 2), .ref (ad 201), .int (rI ρ 3), .int (rI ρ 4), .ref (ad 210), .ref (ad 211), .ref (ad 212), .ref (ad 213), .int (rI ρ 5), .int (rI ρ 6), .int (rI ρ 7), .ref (ad 202), .ref (ad 214), .int (rI ρ 8), .ref (ad 203), .ref (ad 215), .ref (ad 216), .int (rI ρ 9)])) = G2 at hX2 kt2 ⊢
  refine y_blk 3 tq_X12_words (z := (9, [(0, .ref (ad 200)), (1, .int seed)], [.int 99, .int 0, .int seed])) rfl ?_
  refine y_callS hS tq_X12_words rfl (As := [.int seed, .int 0, .int 99]) rfl cs_X12_54 (m_X12_in hS seed 0 99) rfl (by decide) (Nat.le_of_ble_eq_true rfl) (fun r9 Gc9 q9 => ?_) (fun E9 G9 h9 => h9.elim)
  obtain ⟨rfl, eG9⟩ := q9
  have eG9 := eG9.symm
  subst eG9
  refine y_blk 0 tq_X12_words (z := (12, [(0, .ref (ad 200)), (1, .int seed)], [.int (if 0 ≤ seed ∧ seed ≤ 99 then 1 else 0)])) rfl ?_
  refine y_if_ne tq_X12_words 21 rfl rfl (fun c12 => ?_) (fun c12 => ?_)
  · skip
    have hq12 := yif1 c12
    have hq12_ := hq12
    simp only [yle, yl_m1, yl_0, yl_1, yl_2, yl_3, yl_4, yl_5, yl_6, yl_7, yl_8, yl_9, yl_10, yl_11, yl_12, yl_60, yl_90, yl_239, yl_240] at hq12
    have ha12 := hq12.1
    have hb12 := hq12.2
    refine y_blk 2 tq_X12_words (z := (23, [(0, .ref (ad 200)), (1, .int seed)], [.int seed, .ref (ad 200)])) rfl ?_
    refine y_put hS tq_X12_words rfl fp_X12_64_X12 hX2.m (by omega) rfl rfl (Nat.le_of_ble_eq_true rfl) ?_
    have hX23 : atR aC ic de ad (yup G2 (ad 200) (200, .inr (16, [.int (rI ((rin ρ 0 0)) 0), .int (rI ((rin ρ 0 0)) 1), .int (rI ((rin ρ 0 0)) 2), .ref (ad 201), .int (rI ((rin ρ 0 0)) 3), .int (rI ((rin ρ 0 0)) 4), .ref (ad 210), .ref (ad 211), .ref (ad 212), .ref (ad 213), .int seed, .int (rI ((rin ρ 0 0)) 6), .int (rI ((rin ρ 0 0)) 7), .ref (ad 202), .ref (ad 214), .int (rI ((rin ρ 0 0)) 8), .ref (ad 203), .ref (ad 215), .ref (ad 216), .int (rI ((rin ρ 0 0)) 9)]))) ((rin ((rin ρ 0 0)) 5 seed)) := atR.setIb hX2 rfl rfl (hX2.2.setI (by decide))
    have kt23 : yTg kR G (yup G2 (ad 200) (200, .inr (16, [.int (rI ((rin ρ 0 0)) 0), .int (rI ((rin ρ 0 0)) 1), .int (rI ((rin ρ 0 0)) 2), .ref (ad 201), .int (rI ((rin ρ 0 0)) 3), .int (rI ((rin ρ 0 0)) 4), .ref (ad 210), .ref (ad 211), .ref (ad 212), .ref (ad 213), .int seed, .int (rI ((rin ρ 0 0)) 6), .int (rI ((rin ρ 0 0)) 7), .ref (ad 202), .ref (ad 214), .int (rI ((rin ρ 0 0)) 8), .ref (ad 203), .ref (ad 215), .ref (ad 216), .int (rI ((rin ρ 0 0)) 9)]))) := (kt2).trans (yTg.up hX2.m (kR_n (by omega) (by omega)))
    show Y l S0 D K_X12_words 18 1 3 (fun r G1 => ∃ (ad1 : Nat → Nat) (ρ1 : RS), atR aC ic de ad1 G1 ρ1 ∧ ad1 200 = ad 200 ∧ yTg kR G G1 ∧ rRel ρ ρ1 ∧ (((0 ≤ seed ∧ seed ≤ 99) ∧ r = some (.int (yaft seed)) ∧ rI ρ1 0 = 0) ∨ (¬ (0 ≤ seed ∧ seed ≤ 99) ∧ (∃ v : Int32, r = some (.int v)) ∧ rI ρ1 0 = 1))) (fun _ _ => False) (23 + 3) [(0, .ref (ad 200)), (1, .int seed)] [] (yup G2 (ad 200) (200, .inr (16, [.int (rI ((rin ρ 0 0)) 0), .int (rI ((rin ρ 0 0)) 1), .int (rI ((rin ρ 0 0)) 2), .ref (ad 201), .int (rI ((rin ρ 0 0)) 3), .int (rI ((rin ρ 0 0)) 4), .ref (ad 210), .ref (ad 211), .ref (ad 212), .ref (ad 213), .int seed, .int (rI ((rin ρ 0 0)) 6), .int (rI ((rin ρ 0 0)) 7), .ref (ad 202), .ref (ad 214), .int (rI ((rin ρ 0 0)) 8), .ref (ad 203), .ref (ad 215), .ref (ad 216), .int (rI ((rin ρ 0 0)) 9)]))) 1 3
    generalize yup G2 (ad 200) (200, .inr (16, [.int (rI ((rin ρ 0 0)) 0), .int (rI ((rin ρ 0 0)) 1), .int (rI ((rin ρ 0 0)) 2), .ref (ad 201), .int (rI ((rin ρ 0 0)) 3), .int (rI ((rin ρ 0 0)) 4), .ref (ad 210), .ref (ad 211), .ref (ad 212), .ref (ad 213), .int seed, .int (rI ((rin ρ 0 0)) 6), .int (rI ((rin ρ 0 0)) 7), .ref (ad 202), .ref (ad 214), .int (rI ((rin ρ 0 0)) 8), .ref (ad 203), .ref (ad 215), .ref (ad 216), .int (rI ((rin ρ 0 0)) 9)])) = G23 at hX23 kt23 ⊢
    refine y_blk 1 tq_X12_words (z := (27, [(0, .ref (ad 200)), (1, .int seed)], [.ref (ad 200)])) rfl ?_
    refine y_callV hS tq_X12_words rfl (As := []) rfl cv_X12_48 hX23.m (m_X12_beginV hS hI hX23.1 hX23.2.2.1 hX23.2.K hX23.2.2.2.2.2.2.1.2.2.1 (Or.inl hX23.2.2.2.2.2.1)) rfl (by decide) (Nat.le_of_ble_eq_true rfl) (fun r27 Gc27 q27 => ?_) (fun _ _ h9 => h9.elim)
    obtain ⟨rfl, adn27, s27, hX27, hd27, kt27_, r9_27, hw27⟩ := q27
    have kt27 := (kt23).trans kt27_
    have r927 : rRel ρ s27 := rRel.trans (rRel.rfl') r9_27
    refine y_blk 1 tq_X12_words (z := (31, [(0, .ref (ad 200)), (1, .int seed)], [.ref (ad 200)])) rfl ?_
    refine y_get hS tq_X12_words (v := .ref (adn27 202)) rfl fg_X12_33_X12 (yEq hd27 hX27.m) rfl ?_
    refine y_blk 1 tq_X12_words (z := (35, [(0, .ref (ad 200)), (1, .int seed)], [.int 0, .ref (adn27 202)])) rfl ?_
    refine y_iald hS tq_X12_words rfl hX27.wo (by first | exact yIn (by decide) (by decide) | exact yIn (by assumption) (by assumption) | (exact yIn (by omega) (by omega))) ?_
    refine y_blk 0 tq_X12_words (z := (36, [(0, .ref (ad 200)), (1, .int seed)], [.int ((rV s27 202) (Int32.toNatClampNeg 0))])) rfl ?_
    have ew : rV s27 202 (Int32.toNatClampNeg 0) = yaft seed := hw27.1
    rw [ew]
    exact y_iret tq_X12_words rfl rfl ⟨adn27, _, hX27, hd27, kt27, r927, Or.inl ⟨hq12_, rfl, hw27.2⟩⟩
  · skip
    refine y_blk 2 tq_X12_words (z := (17, [(0, .ref (ad 200)), (1, .int seed)], [.int 1, .ref (ad 200)])) rfl ?_
    refine y_callV hS tq_X12_words rfl (As := [.int 1]) rfl cv_X12_140 hX2.m (m_X12_no hS hI hX2 1) rfl (by decide) (Nat.le_of_ble_eq_true rfl) (fun r17 Gc17 q17 => ?_) (fun E9 G9 h9 => h9.elim)
    obtain ⟨rfl, hX17, kt17_⟩ := q17
    have kt17 := (kt2).trans kt17_
    refine y_blk 0 tq_X12_words (z := (20, [(0, .ref (ad 200)), (1, .int seed)], [.int 0])) rfl ?_
    exact y_iret tq_X12_words rfl rfl ⟨ad, _, hX17, rfl, kt17, rRel.rfl', Or.inr ⟨fun q => by rw [if_pos q] at c12; exact absurd c12 (by decide), ⟨_, rfl⟩, rfl⟩⟩
set_option maxHeartbeats 4000000 in
set_option maxRecDepth 100000 in
theorem m_X12_thrown {l : Launch} {S0 : State} {A0 : Array Value} {D : va_G} {aC : Nat → ClassId} {ic : Int32 → Nat} {de : Nat} {ad : Nat → Nat} {G : AH} {ρ : RS} (hS : yS l S0 A0 D aC) (hX : atR aC ic de ad G ρ) : yM l S0 D yX12_thrown cX12_thrown 1 (some .int) 16 0 0 [.ref (ad 200)] G (fun r G1 => r = some (.int (rI ρ 0)) ∧ G1 = G) (fun _ _ => False) := by
  refine yM.ofK K_X12_thrown rfl (by decide) (Nat.le_of_ble_eq_true rfl) ?_
  refine y_blk 1 tq_X12_thrown (z := (1, [(0, .ref (ad 200))], [.ref (ad 200)])) rfl ?_
  refine y_get hS tq_X12_thrown (v := .int (rI ρ 0)) rfl fg_X12_51_X12 hX.m rfl ?_
  refine y_blk 0 tq_X12_thrown (z := (4, [(0, .ref (ad 200))], [.int (rI ρ 0)])) rfl ?_
  exact y_iret tq_X12_thrown rfl rfl ⟨rfl, rfl⟩
