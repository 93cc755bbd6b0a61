/-! part -/
set_option maxHeartbeats 4000000 in
set_option maxRecDepth 100000 in
theorem m_X12_words {l : Launch} {S0 : State} {A0 : Array Value} {D : va_G} {aC : Nat → ClassId} {ic : Int32 → Nat} {de : Nat} {ad : Nat → Nat} {G : AH} {ρ : RS} (hS : yS l S0 A0 D aC) (hI : yIc S0 ic de) (hX : atR aC ic de ad G ρ) (seed : Int32) : yM l S0 D yX12_words cX12_words 2 (some .int) 18 1 3 [.ref (ad 200), .int seed] G (fun r G1 => (∃ v : Int32, r = some (.int v)) ∧ ∃ (ad1 : Nat → Nat) (ρ1 : RS), atR aC ic de ad1 G1 ρ1 ∧ ad1 200 = ad 200 ∧ yTg kR G G1 ∧ roWords seed r ρ ρ1) (fun _ _ => False) := by
  refine yM.ofK K_X12_words rfl (by decide) (Nat.le_of_ble_eq_true rfl) ?_
  refine y_blk 2 tq_X12_words (z := (2, [(0, .ref (ad 200)), (1, .int seed)], [.int 0, .ref (ad 200)])) rfl ?_
  refine y_put hS tq_X12_words rfl fp_X12_51_X12 hX.m (by omega) rfl rfl (Nat.le_of_ble_eq_true rfl) ?_
  have hX2 : atR aC ic de ad (yup G (ad 200) (200, .inr (16, [.int 0, .int (rI ρ 1), .int (rI ρ 2), .ref (ad 201), .int (rI ρ 3), .int (rI ρ 4), .ref (ad 210), .ref (ad 211), .ref (ad 212), .ref (ad 213), .int (rI ρ 5), .int (rI ρ 6), .int (rI ρ 7), .ref (ad 202), .ref (ad 214), .int (rI ρ 8), .ref (ad 203), .ref (ad 215), .ref (ad 216), .int (rI ρ 9)]))) ((rin ρ 0 0)) := atR.setIb hX rfl rfl (hX.2.setI (by decide))
  have kt2 : yTg kR G (yup G (ad 200) (200, .inr (16, [.int 0, .int (rI ρ 1), .int (rI ρ 2), .ref (ad 201), .int (rI ρ 3), .int (rI ρ 4), .ref (ad 210), .ref (ad 211), .ref (ad 212), .ref (ad 213), .int (rI ρ 5), .int (rI ρ 6), .int (rI ρ 7), .ref (ad 202), .ref (ad 214), .int (rI ρ 8), .ref (ad 203), .ref (ad 215), .ref (ad 216), .int (rI ρ 9)]))) := ((yTg.rfl' (f := kR) (G := G))).trans (yTg.up hX.m (kR_n (by omega) (by omega)))
  show Y l S0 D K_X12_words 18 1 3 (fun r G1 => (∃ v : Int32, r = some (.int v)) ∧ ∃ (ad1 : Nat → Nat) (ρ1 : RS), atR aC ic de ad1 G1 ρ1 ∧ ad1 200 = ad 200 ∧ yTg kR G G1 ∧ roWords seed r ρ ρ1) (fun _ _ => False) (2 + 3) [(0, .ref (ad 200)), (1, .int seed)] [] (yup G (ad 200) (200, .inr (16, [.int 0, .int (rI ρ 1), .int (rI ρ 2), .ref (ad 201), .int (rI ρ 3), .int (rI ρ 4), .ref (ad 210), .ref (ad 211), .ref (ad 212), .ref (ad 213), .int (rI ρ 5), .int (rI ρ 6), .int (rI ρ 7), .ref (ad 202), .ref (ad 214), .int (rI ρ 8), .ref (ad 203), .ref (ad 215), .ref (ad 216), .int (rI ρ 9)]))) 1 3
  generalize yup G (ad 200) (200, .inr (16, [.int 0, .int (rI ρ 1), .int (rI ρ 2), .ref (ad 201), .int (rI ρ 3), .int (rI ρ 4), .ref (ad 210), .ref (ad 211), .ref (ad 212), .ref (ad 213), .int (rI ρ 5), .int (rI ρ 6), .int (rI ρ 7), .ref (ad 202), .ref (ad 214), .int (rI ρ 8), .ref (ad 203), .ref (ad 215), .ref (ad 216), .int (rI ρ 9)])) = G2 at hX2 kt2 ⊢
  refine y_blk 3 tq_X12_words (z := (9, [(0, .ref (ad 200)), (1, .int seed)], [.int 99, .int 0, .int seed])) rfl ?_
  refine y_callS hS tq_X12_words rfl (As := [.int seed, .int 0, .int 99]) rfl cs_X12_54 (m_X12_in hS seed 0 99) rfl (by decide) (Nat.le_of_ble_eq_true rfl) (fun r9 Gc9 q9 => ?_) (fun E9 G9 h9 => h9.elim)
  obtain ⟨rfl, eG9⟩ := q9
  have eG9 := eG9.symm
  subst eG9
  refine y_blk 0 tq_X12_words (z := (12, [(0, .ref (ad 200)), (1, .int seed)], [.int (if 0 ≤ seed ∧ seed ≤ 99 then 1 else 0)])) rfl ?_
  refine y_if_ne tq_X12_words 21 rfl rfl (fun c12 => ?_) (fun c12 => ?_)
  · skip
    have hq12 := yif1 c12
    simp only [yle, yl_m1, yl_0, yl_1, yl_2, yl_3, yl_4, yl_5, yl_6, yl_7, yl_8, yl_9, yl_10, yl_11, yl_12, yl_60, yl_90, yl_239, yl_240] at hq12
    have ha12 := hq12.1
    have hb12 := hq12.2
    refine y_blk 2 tq_X12_words (z := (23, [(0, .ref (ad 200)), (1, .int seed)], [.int seed, .ref (ad 200)])) rfl ?_
    refine y_put hS tq_X12_words rfl fp_X12_64_X12 hX2.m (by omega) rfl rfl (Nat.le_of_ble_eq_true rfl) ?_
    have hX23 : atR aC ic de ad (yup G2 (ad 200) (200, .inr (16, [.int (rI ((rin ρ 0 0)) 0), .int (rI ((rin ρ 0 0)) 1), .int (rI ((rin ρ 0 0)) 2), .ref (ad 201), .int (rI ((rin ρ 0 0)) 3), .int (rI ((rin ρ 0 0)) 4), .ref (ad 210), .ref (ad 211), .ref (ad 212), .ref (ad 213), .int seed, .int (rI ((rin ρ 0 0)) 6), .int (rI ((rin ρ 0 0)) 7), .ref (ad 202), .ref (ad 214), .int (rI ((rin ρ 0 0)) 8), .ref (ad 203), .ref (ad 215), .ref (ad 216), .int (rI ((rin ρ 0 0)) 9)]))) ((rin ((rin ρ 0 0)) 5 seed)) := atR.setIb hX2 rfl rfl (hX2.2.setI (by decide))
    have kt23 : yTg kR G (yup G2 (ad 200) (200, .inr (16, [.int (rI ((rin ρ 0 0)) 0), .int (rI ((rin ρ 0 0)) 1), .int (rI ((rin ρ 0 0)) 2), .ref (ad 201), .int (rI ((rin ρ 0 0)) 3), .int (rI ((rin ρ 0 0)) 4), .ref (ad 210), .ref (ad 211), .ref (ad 212), .ref (ad 213), .int seed, .int (rI ((rin ρ 0 0)) 6), .int (rI ((rin ρ 0 0)) 7), .ref (ad 202), .ref (ad 214), .int (rI ((rin ρ 0 0)) 8), .ref (ad 203), .ref (ad 215), .ref (ad 216), .int (rI ((rin ρ 0 0)) 9)]))) := (kt2).trans (yTg.up hX2.m (kR_n (by omega) (by omega)))
    show Y l S0 D K_X12_words 18 1 3 (fun r G1 => (∃ v : Int32, r = some (.int v)) ∧ ∃ (ad1 : Nat → Nat) (ρ1 : RS), atR aC ic de ad1 G1 ρ1 ∧ ad1 200 = ad 200 ∧ yTg kR G G1 ∧ roWords seed r ρ ρ1) (fun _ _ => False) (23 + 3) [(0, .ref (ad 200)), (1, .int seed)] [] (yup G2 (ad 200) (200, .inr (16, [.int (rI ((rin ρ 0 0)) 0), .int (rI ((rin ρ 0 0)) 1), .int (rI ((rin ρ 0 0)) 2), .ref (ad 201), .int (rI ((rin ρ 0 0)) 3), .int (rI ((rin ρ 0 0)) 4), .ref (ad 210), .ref (ad 211), .ref (ad 212), .ref (ad 213), .int seed, .int (rI ((rin ρ 0 0)) 6), .int (rI ((rin ρ 0 0)) 7), .ref (ad 202), .ref (ad 214), .int (rI ((rin ρ 0 0)) 8), .ref (ad 203), .ref (ad 215), .ref (ad 216), .int (rI ((rin ρ 0 0)) 9)]))) 1 3
    generalize yup G2 (ad 200) (200, .inr (16, [.int (rI ((rin ρ 0 0)) 0), .int (rI ((rin ρ 0 0)) 1), .int (rI ((rin ρ 0 0)) 2), .ref (ad 201), .int (rI ((rin ρ 0 0)) 3), .int (rI ((rin ρ 0 0)) 4), .ref (ad 210), .ref (ad 211), .ref (ad 212), .ref (ad 213), .int seed, .int (rI ((rin ρ 0 0)) 6), .int (rI ((rin ρ 0 0)) 7), .ref (ad 202), .ref (ad 214), .int (rI ((rin ρ 0 0)) 8), .ref (ad 203), .ref (ad 215), .ref (ad 216), .int (rI ((rin ρ 0 0)) 9)])) = G23 at hX23 kt23 ⊢
    refine y_blk 1 tq_X12_words (z := (27, [(0, .ref (ad 200)), (1, .int seed)], [.ref (ad 200)])) rfl ?_
    refine y_callV hS tq_X12_words rfl (As := []) rfl cv_X12_48 hX23.m (m_X12_begin hS hI hX23.1 hX23.2.2.1 hX23.2.K hX23.2.2.2.2.2.2.1.2.2.1 (Or.inl hX23.2.2.2.2.2.1)) rfl (by decide) (Nat.le_of_ble_eq_true rfl) (fun r27 Gc27 q27 => ?_) (fun _ _ h9 => h9.elim)
    obtain ⟨rfl, adn27, s27, hX27, hd27, kt27_, hq_27, hB_27⟩ := q27
    have kt27 := (kt23).trans kt27_
    refine y_blk 1 tq_X12_words (z := (31, [(0, .ref (ad 200)), (1, .int seed)], [.ref (ad 200)])) rfl ?_
    refine y_get hS tq_X12_words (v := .ref (adn27 202)) rfl fg_X12_33_X12 (yEq hd27 hX27.m) rfl ?_
    refine y_blk 1 tq_X12_words (z := (35, [(0, .ref (ad 200)), (1, .int seed)], [.int 0, .ref (adn27 202)])) rfl ?_
    refine y_iald hS tq_X12_words rfl hX27.wo (by first | exact yIn (by decide) (by decide) | exact yIn (by assumption) (by assumption) | (exact yIn (by omega) (by omega))) ?_
    refine y_blk 0 tq_X12_words (z := (36, [(0, .ref (ad 200)), (1, .int seed)], [.int ((rV s27 202) (Int32.toNatClampNeg 0))])) rfl ?_
    exact y_iret tq_X12_words rfl rfl (⟨⟨_, rfl⟩, adn27, _, hX27, hd27, kt27, Or.inl (⟨yif1 c12, congrArg (fun z => some (Value.int z)) (hq_27.2.2.2.2 0 (by decide)), hq_27, hB_27⟩)⟩)
  · skip
    refine y_blk 2 tq_X12_words (z := (17, [(0, .ref (ad 200)), (1, .int seed)], [.int 1, .ref (ad 200)])) rfl ?_
    refine y_callV hS tq_X12_words rfl (As := [.int 1]) rfl cv_X12_140 hX2.m (m_X12_no hS hI hX2 1) rfl (by decide) (Nat.le_of_ble_eq_true rfl) (fun r17 Gc17 q17 => ?_) (fun E9 G9 h9 => h9.elim)
    obtain ⟨rfl, hX17, kt17_⟩ := q17
    have kt17 := (kt2).trans kt17_
    refine y_blk 0 tq_X12_words (z := (20, [(0, .ref (ad 200)), (1, .int seed)], [.int 0])) rfl ?_
    exact y_iret tq_X12_words rfl rfl (⟨⟨_, rfl⟩, ad, _, hX17, rfl, kt17, Or.inr (⟨rif c12, rfl, (rSm.in0 (rSm.in0 rSm.rfl'))⟩)⟩)
