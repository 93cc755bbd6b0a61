/-! part -/
set_option maxHeartbeats 4000000 in
set_option maxRecDepth 100000 in
theorem m_X12_intruderNow_n {l : Launch} {S0 : State} {A0 : Array Value} {D : va_G} {aC : Nat → ClassId} {ic : Int32 → Nat} {de : Nat} {ad : Nat → Nat} {G : AH} {ρ : RS} (hS : yS l S0 A0 D aC) (hI : yIc S0 ic de) (hX : atR aC ic de ad G ρ) (intruder : Int32) (what : Int32) (hi0 : 0 ≤ intruder.toInt) (hi1 : intruder.toInt < rZ ρ 215) (h5 : ¬ what = 5) (h6 : ¬ what = 6) : yM l S0 D yX12_intruderNow cX12_intruderNow 5 (some .int) 23 0 0 [.ref (ad 200), .int intruder, .int what] G (fun r G1 => (∃ v : Int32, r = some (.int v)) ∧ G1 = G) (fun _ _ => False) := by
  refine yM.ofK K_X12_intruderNow rfl (by decide) (Nat.le_of_ble_eq_true rfl) ?_
  refine y_blk 1 tq_X12_intruderNow (z := (1, [(0, .ref (ad 200)), (1, .int intruder), (2, .int what)], [.ref (ad 200)])) rfl ?_
  refine y_get hS tq_X12_intruderNow (v := .ref (ad 215)) rfl fg_X12_42_X12 hX.m rfl ?_
  refine y_blk 1 tq_X12_intruderNow (z := (5, [(0, .ref (ad 200)), (1, .int intruder), (2, .int what)], [.int intruder, .ref (ad 215)])) rfl ?_
  refine y_callF hS tq_X12_intruderNow rfl (As := [.int intruder]) rfl cf_X12_80 (Or.inl ⟨_, (hX.ls 215 (by decide)).1⟩) (m_Rin hS hX (by assumption) (by assumption)) rfl (by decide) (Nat.le_of_ble_eq_true rfl) (fun r5 Gc5 q5 => ?_) (fun _ _ h9 => h9.elim)
  obtain ⟨rfl, eG5⟩ := q5
  have eG5 := eG5.symm
  subst eG5
  have d5 : (Int32.toNatClampNeg intruder) < rZ ρ 215 := yIx (by assumption) (by assumption)
  refine y_blk 0 tq_X12_intruderNow (z := (10, [(0, .ref (ad 200)), (1, .int intruder), (2, .int what)], [.ref (ad (420 + (Int32.toNatClampNeg intruder)))])) rfl ?_
  refine y_castG hS tq_X12_intruderNow rfl kc_X12_152 (Or.inl ⟨_, (hX.in (by assumption))⟩) ?_
  refine y_blk 2 tq_X12_intruderNow (z := (15, [(3, .ref (ad (420 + (Int32.toNatClampNeg intruder)))), (0, .ref (ad 200)), (1, .int intruder), (2, .int what)], [.int what])) rfl ?_
  by_cases s15_0 : what = 0
  · refine y_swIn tq_X12_intruderNow 60 rfl (by rw [s15_0]; decide) (by rw [s15_0]; decide) (by rw [s15_0]; rfl) rfl ?_
    refine y_blk 1 tq_X12_intruderNow (z := (61, [(3, .ref (ad (420 + (Int32.toNatClampNeg intruder)))), (0, .ref (ad 200)), (1, .int intruder), (2, .int what)], [.ref (ad (420 + (Int32.toNatClampNeg intruder)))])) rfl ?_
    refine y_get hS tq_X12_intruderNow (v := .int (rF ρ (420 + (Int32.toNatClampNeg intruder)) 0)) rfl fg_X12_249_X11 (hX.in (by assumption)) rfl ?_
    refine y_blk 0 tq_X12_intruderNow (z := (64, [(3, .ref (ad (420 + (Int32.toNatClampNeg intruder)))), (0, .ref (ad 200)), (1, .int intruder), (2, .int what)], [.int (rF ρ (420 + (Int32.toNatClampNeg intruder)) 0)])) rfl ?_
    exact y_iret tq_X12_intruderNow rfl rfl (⟨⟨_, rfl⟩, rfl⟩)
  by_cases s15_1 : what = 1
  · refine y_swIn tq_X12_intruderNow 65 rfl (by rw [s15_1]; decide) (by rw [s15_1]; decide) (by rw [s15_1]; rfl) rfl ?_
    refine y_blk 1 tq_X12_intruderNow (z := (66, [(3, .ref (ad (420 + (Int32.toNatClampNeg intruder)))), (0, .ref (ad 200)), (1, .int intruder), (2, .int what)], [.ref (ad (420 + (Int32.toNatClampNeg intruder)))])) rfl ?_
    refine y_get hS tq_X12_intruderNow (v := .int (rF ρ (420 + (Int32.toNatClampNeg intruder)) 1)) rfl fg_X12_234_X11 (hX.in (by assumption)) rfl ?_
    refine y_blk 0 tq_X12_intruderNow (z := (69, [(3, .ref (ad (420 + (Int32.toNatClampNeg intruder)))), (0, .ref (ad 200)), (1, .int intruder), (2, .int what)], [.int (rF ρ (420 + (Int32.toNatClampNeg intruder)) 1)])) rfl ?_
    exact y_iret tq_X12_intruderNow rfl rfl (⟨⟨_, rfl⟩, rfl⟩)
  by_cases s15_2 : what = 2
  · refine y_swIn tq_X12_intruderNow 70 rfl (by rw [s15_2]; decide) (by rw [s15_2]; decide) (by rw [s15_2]; rfl) rfl ?_
    refine y_blk 1 tq_X12_intruderNow (z := (71, [(3, .ref (ad (420 + (Int32.toNatClampNeg intruder)))), (0, .ref (ad 200)), (1, .int intruder), (2, .int what)], [.ref (ad (420 + (Int32.toNatClampNeg intruder)))])) rfl ?_
    refine y_get hS tq_X12_intruderNow (v := .ref (ad (440 + (Int32.toNatClampNeg intruder)))) rfl fg_X12_243_X11 (hX.in (by assumption)) rfl ?_
    refine y_blk 1 tq_X12_intruderNow (z := (77, [(3, .ref (ad (420 + (Int32.toNatClampNeg intruder)))), (0, .ref (ad 200)), (1, .int intruder), (2, .int what)], [.int 239, .ref (ad (440 + (Int32.toNatClampNeg intruder)))])) rfl ?_
    refine y_iald hS tq_X12_intruderNow rfl (hX.wa (by assumption)) (by first | exact yIn (by decide) (by decide) | exact yIn (by assumption) (by assumption) | (exact yIn (by omega) (by omega))) ?_
    refine y_blk 0 tq_X12_intruderNow (z := (78, [(3, .ref (ad (420 + (Int32.toNatClampNeg intruder)))), (0, .ref (ad 200)), (1, .int intruder), (2, .int what)], [.int ((rV ρ (440 + (Int32.toNatClampNeg intruder))) (Int32.toNatClampNeg 239))])) rfl ?_
    exact y_iret tq_X12_intruderNow rfl rfl (⟨⟨_, rfl⟩, rfl⟩)
  by_cases s15_3 : what = 3
  · refine y_swIn tq_X12_intruderNow 79 rfl (by rw [s15_3]; decide) (by rw [s15_3]; decide) (by rw [s15_3]; rfl) rfl ?_
    refine y_blk 2 tq_X12_intruderNow (z := (81, [(3, .ref (ad (420 + (Int32.toNatClampNeg intruder)))), (0, .ref (ad 200)), (1, .int intruder), (2, .int what)], [.ref (ad (420 + (Int32.toNatClampNeg intruder))), .ref (ad 200)])) rfl ?_
    refine y_callV hS tq_X12_intruderNow rfl (As := [.ref (ad (420 + (Int32.toNatClampNeg intruder)))]) rfl cv_X12_254 hX.m (m_X12_foundNow hS hI hX (k := (Int32.toNatClampNeg intruder)) (by assumption) ) rfl (by decide) (Nat.le_of_ble_eq_true rfl) (fun r81 Gc81 q81 => ?_) (fun E9 G9 h9 => h9.elim)
    obtain ⟨⟨x81, hr_x81, rfl⟩, eG81⟩ := q81
    have eG81 := eG81.symm
    subst eG81
    refine y_blk 0 tq_X12_intruderNow (z := (84, [(3, .ref (ad (420 + (Int32.toNatClampNeg intruder)))), (0, .ref (ad 200)), (1, .int intruder), (2, .int what)], [.int x81])) rfl ?_
    exact y_iret tq_X12_intruderNow rfl rfl (⟨⟨_, rfl⟩, rfl⟩)
  by_cases s15_4 : what = 4
  · refine y_swIn tq_X12_intruderNow 85 rfl (by rw [s15_4]; decide) (by rw [s15_4]; decide) (by rw [s15_4]; rfl) rfl ?_
    refine y_blk 2 tq_X12_intruderNow (z := (87, [(3, .ref (ad (420 + (Int32.toNatClampNeg intruder)))), (0, .ref (ad 200)), (1, .int intruder), (2, .int what)], [.ref (ad (420 + (Int32.toNatClampNeg intruder))), .ref (ad 200)])) rfl ?_
    refine y_callV hS tq_X12_intruderNow rfl (As := [.ref (ad (420 + (Int32.toNatClampNeg intruder)))]) rfl cv_X12_254 hX.m (m_X12_foundNow hS hI hX (k := (Int32.toNatClampNeg intruder)) (by assumption) ) rfl (by decide) (Nat.le_of_ble_eq_true rfl) (fun r87 Gc87 q87 => ?_) (fun E9 G9 h9 => h9.elim)
    obtain ⟨⟨x87, hr_x87, rfl⟩, eG87⟩ := q87
    have eG87 := eG87.symm
    subst eG87
    refine y_blk 3 tq_X12_intruderNow (z := (95, [(4, .int x87), (3, .ref (ad (420 + (Int32.toNatClampNeg intruder)))), (0, .ref (ad 200)), (1, .int intruder), (2, .int what)], [.int (-1), .int x87])) rfl ?_
    refine y_icmp_ne tq_X12_intruderNow 102 rfl rfl (fun c95 => ?_) (fun c95 => ?_)
    · skip
      obtain ⟨hf0, hf1⟩ := hr_x87.resolve_left c95
      have hfr := (hX.2.2.2.2.1 _ d5).1
      refine y_blk 2 tq_X12_intruderNow (z := (104, [(4, .int x87), (3, .ref (ad (420 + (Int32.toNatClampNeg intruder)))), (0, .ref (ad 200)), (1, .int intruder), (2, .int what)], [.ref (ad (420 + (Int32.toNatClampNeg intruder))), .ref (ad 200)])) rfl ?_
      refine y_get hS tq_X12_intruderNow (v := .ref (ad (440 + (Int32.toNatClampNeg intruder)))) rfl fg_X12_243_X11 (hX.in (by assumption)) rfl ?_
      refine y_blk 1 tq_X12_intruderNow (z := (109, [(4, .int x87), (3, .ref (ad (420 + (Int32.toNatClampNeg intruder)))), (0, .ref (ad 200)), (1, .int intruder), (2, .int what)], [.int x87, .ref (ad (440 + (Int32.toNatClampNeg intruder))), .ref (ad 200)])) rfl ?_
      refine y_iald hS tq_X12_intruderNow rfl (hX.wa (by assumption)) (by first | exact yIn (by decide) (by decide) | exact yIn (by assumption) (by assumption) | (exact yIn (by omega) (by omega))) ?_
      refine y_blk 1 tq_X12_intruderNow (z := (112, [(4, .int x87), (3, .ref (ad (420 + (Int32.toNatClampNeg intruder)))), (0, .ref (ad 200)), (1, .int intruder), (2, .int what)], [.int x87, .int ((rV ρ (440 + (Int32.toNatClampNeg intruder))) (Int32.toNatClampNeg x87)), .ref (ad 200)])) rfl ?_
      refine y_callV hS tq_X12_intruderNow rfl (As := [.int ((rV ρ (440 + (Int32.toNatClampNeg intruder))) (Int32.toNatClampNeg x87)), .int x87]) rfl cv_X12_186 hX.m (m_X12_seers hS hI hX ((rV ρ (440 + (Int32.toNatClampNeg intruder))) (Int32.toNatClampNeg x87)) x87 (by first | assumption | exact hX.lac (by assumption) | exact hX.poc (by assumption) | exact hX.wac (by assumption) (by assumption) (by omega))) rfl (by decide) (Nat.le_of_ble_eq_true rfl) (fun r112 Gc112 q112 => ?_) (fun E9 G9 h9 => h9.elim)
      obtain ⟨⟨x112, rfl⟩, eG112⟩ := q112
      have eG112 := eG112.symm
      subst eG112
      refine y_blk 0 tq_X12_intruderNow (z := (115, [(4, .int x87), (3, .ref (ad (420 + (Int32.toNatClampNeg intruder)))), (0, .ref (ad 200)), (1, .int intruder), (2, .int what)], [.int x112])) rfl ?_
      exact y_iret tq_X12_intruderNow rfl rfl (⟨⟨_, rfl⟩, rfl⟩)
    · skip
      refine y_blk 2 tq_X12_intruderNow (z := (115, [(4, .int x87), (3, .ref (ad (420 + (Int32.toNatClampNeg intruder)))), (0, .ref (ad 200)), (1, .int intruder), (2, .int what)], [.int 0])) rfl ?_
      exact y_iret tq_X12_intruderNow rfl rfl (⟨⟨_, rfl⟩, rfl⟩)
  by_cases s15_5 : what = 5
  · exact absurd s15_5 (by assumption)
  by_cases s15_6 : what = 6
  · exact absurd s15_6 (by assumption)
  by_cases s15_7 : what = 7
  · refine y_swIn tq_X12_intruderNow 130 rfl (by rw [s15_7]; decide) (by rw [s15_7]; decide) (by rw [s15_7]; rfl) rfl ?_
    refine y_blk 1 tq_X12_intruderNow (z := (131, [(3, .ref (ad (420 + (Int32.toNatClampNeg intruder)))), (0, .ref (ad 200)), (1, .int intruder), (2, .int what)], [.ref (ad (420 + (Int32.toNatClampNeg intruder)))])) rfl ?_
    refine y_get hS tq_X12_intruderNow (v := .int (rF ρ (420 + (Int32.toNatClampNeg intruder)) 2)) rfl fg_X12_266_X11 (hX.in (by assumption)) rfl ?_
    refine y_blk 0 tq_X12_intruderNow (z := (134, [(3, .ref (ad (420 + (Int32.toNatClampNeg intruder)))), (0, .ref (ad 200)), (1, .int intruder), (2, .int what)], [.int (rF ρ (420 + (Int32.toNatClampNeg intruder)) 2)])) rfl ?_
    exact y_iret tq_X12_intruderNow rfl rfl (⟨⟨_, rfl⟩, rfl⟩)
  refine y_swOut tq_X12_intruderNow 135 rfl (by have z0 : what.toInt ≠ 0 := fun q => s15_0 (Int32.toInt_inj.mp (q.trans (by decide))); have z1 : what.toInt ≠ 1 := fun q => s15_1 (Int32.toInt_inj.mp (q.trans (by decide))); have z2 : what.toInt ≠ 2 := fun q => s15_2 (Int32.toInt_inj.mp (q.trans (by decide))); have z3 : what.toInt ≠ 3 := fun q => s15_3 (Int32.toInt_inj.mp (q.trans (by decide))); have z4 : what.toInt ≠ 4 := fun q => s15_4 (Int32.toInt_inj.mp (q.trans (by decide))); have z5 : what.toInt ≠ 5 := fun q => s15_5 (Int32.toInt_inj.mp (q.trans (by decide))); have z6 : what.toInt ≠ 6 := fun q => s15_6 (Int32.toInt_inj.mp (q.trans (by decide))); have z7 : what.toInt ≠ 7 := fun q => s15_7 (Int32.toInt_inj.mp (q.trans (by decide))); omega) rfl ?_
  refine y_blk 1 tq_X12_intruderNow (z := (136, [(3, .ref (ad (420 + (Int32.toNatClampNeg intruder)))), (0, .ref (ad 200)), (1, .int intruder), (2, .int what)], [.ref (ad (420 + (Int32.toNatClampNeg intruder)))])) rfl ?_
  refine y_get hS tq_X12_intruderNow (v := .int (rF ρ (420 + (Int32.toNatClampNeg intruder)) 3)) rfl fg_X12_268_X11 (hX.in (by assumption)) rfl ?_
  refine y_blk 0 tq_X12_intruderNow (z := (139, [(3, .ref (ad (420 + (Int32.toNatClampNeg intruder)))), (0, .ref (ad 200)), (1, .int intruder), (2, .int what)], [.int (rF ρ (420 + (Int32.toNatClampNeg intruder)) 3)])) rfl ?_
  exact y_iret tq_X12_intruderNow rfl rfl (⟨⟨_, rfl⟩, rfl⟩)
