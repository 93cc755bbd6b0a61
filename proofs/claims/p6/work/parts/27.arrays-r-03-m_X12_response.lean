/-! part -/
set_option maxHeartbeats 4000000 in
set_option maxRecDepth 100000 in
theorem m_X12_response {l : Launch} {S0 : State} {A0 : Array Value} {D : va_G} {aC : Nat → ClassId} {ic : Int32 → Nat} {de : Nat} {ad : Nat → Nat} {G : AH} {ρ : RS} (hS : yS l S0 A0 D aC) (hI : yIc S0 ic de) (hX : atR aC ic de ad G ρ) {k : Nat} (hk : k < rZ ρ 215) (found : Int32) (guard : Int32) (hf0 : (rF ρ (420 + k) 0).toInt ≤ found.toInt) (hg0 : 0 ≤ guard.toInt) (hg1 : guard.toInt < rZ ρ 212) : yM l S0 D yX12_response cX12_response 6 (some .int) 19 2 128 [.ref (ad 200), .ref (ad (420 + k)), .int found, .int guard] G (fun r G1 => (∃ v : Int32, r = some (.int v)) ∧ yTg kA G G1) (fun _ _ => False) := by
  refine yM.ofK K_X12_response rfl (by decide) (Nat.le_of_ble_eq_true rfl) ?_
  have hfr := (hX.2.2.2.2.1 k hk).1
  have J48 : ∀ (n48 : Nat) (v48_4 : Nat) (v48_5 : Int32) (G48 : AH) (f448 : Nat → Int32) (hX48 : atR aC ic de ad G48 ρ) (kt48 : yTg kA G G48) (pA448 : G48 v48_4 = some (500, .inl (aC 0, rZ ρ 201, .inl f448))) (h0_48 : found.toInt ≤ v48_5.toInt), ((239 : Int32).toInt + 1 - v48_5.toInt).toNat = n48 → Y l S0 D K_X12_response 19 2 128 (fun r G1 => (∃ v : Int32, r = some (.int v)) ∧ yTg kA G G1) (fun _ _ => False) 48 [(0, .ref (ad 200)), (1, .ref (ad (420 + k))), (2, .int found), (3, .int guard), (4, .ref v48_4), (5, .int v48_5)] [] G48 0 0 := by
    intro n48
    induction n48 using Nat.strongRecOn with
    | _ n48 ih48 =>
    intro v48_4 v48_5 G48 f448 hX48 kt48 pA448 h0_48 hn48
    subst hn48
    have J90 : ∀ (G90 : AH) (f490 : Nat → Int32) (hX90 : atR aC ic de ad G90 ρ) (kt90 : yTg kA G G90) (pA490 : G90 v48_4 = some (500, .inl (aC 0, rZ ρ 201, .inl f490))) (c53 : ¬ (239 : Int32) < v48_5), Y l S0 D K_X12_response 19 2 128 (fun r G1 => (∃ v : Int32, r = some (.int v)) ∧ yTg kA G G1) (fun _ _ => False) 90 [(0, .ref (ad 200)), (1, .ref (ad (420 + k))), (2, .int found), (3, .int guard), (4, .ref v48_4), (5, .int v48_5)] [] G90 0 0 := by
      intro G90 f490 hX90 kt90 pA490 c53
      have b53 : v48_5.toInt ≤ 239 := by rw [ylt] at c53; have z9 : (239 : Int32).toInt = 239 := (by decide); omega
      refine y_blk 2 tq_X12_response (z := (48, [(5, .int (v48_5 + 1)), (0, .ref (ad 200)), (1, .ref (ad (420 + k))), (2, .int found), (3, .int guard), (4, .ref v48_4)], [])) rfl ?_
      refine y_pick (L2 := [(0, .ref (ad 200)), (1, .ref (ad (420 + k))), (2, .int found), (3, .int guard), (4, .ref v48_4), (5, .int (v48_5 + 1))]) [1, 2, 3, 4, 5, 0] rfl ?_
      exact ih48 _ (by exact ydec2 c53 (by decide)) v48_4 (v48_5 + 1) G90 f490 hX90 kt90 pA490 (by first | decide | assumption | exact Int.le_refl _ | exact yposgtL (by assumption) c53 (by decide)) rfl
    refine y_blk 2 tq_X12_response (z := (53, [(0, .ref (ad 200)), (1, .ref (ad (420 + k))), (2, .int found), (3, .int guard), (4, .ref v48_4), (5, .int v48_5)], [.int 239, .int v48_5])) rfl ?_
    refine y_icmp_gt tq_X12_response 96 rfl rfl (fun c53 => ?_) (fun c53 => ?_)
    · skip
      refine y_blk 1 tq_X12_response (z := (97, [(0, .ref (ad 200)), (1, .ref (ad (420 + k))), (2, .int found), (3, .int guard), (4, .ref v48_4), (5, .int v48_5)], [.int (-1)])) rfl ?_
      exact y_iret tq_X12_response rfl rfl (⟨⟨_, rfl⟩, kt48⟩)
    · skip
      have b53 : v48_5.toInt ≤ 239 := by rw [ylt] at c53; have z9 : (239 : Int32).toInt = 239 := (by decide); omega
      refine y_blk 2 tq_X12_response (z := (59, [(0, .ref (ad 200)), (1, .ref (ad (420 + k))), (2, .int found), (3, .int guard), (4, .ref v48_4), (5, .int v48_5)], [.ref (ad (420 + k)), .ref v48_4])) rfl ?_
      have hw := hX48.wac hk (m := v48_5) (by omega) (by omega)
      have hw0 := hw.1
      have hw1 := hw.2
      refine y_get hS tq_X12_response (v := .ref (ad (440 + k))) rfl fg_X12_243_X11 (hX48.in (by assumption)) rfl ?_
      refine y_blk 1 tq_X12_response (z := (64, [(0, .ref (ad 200)), (1, .ref (ad (420 + k))), (2, .int found), (3, .int guard), (4, .ref v48_4), (5, .int v48_5)], [.int v48_5, .ref (ad (440 + k)), .ref v48_4])) rfl ?_
      refine y_iald hS tq_X12_response rfl (hX48.wa (by assumption)) (by first | exact yIn (by decide) (by decide) | exact yIn (by assumption) (by assumption) | (exact yIn (by omega) (by omega))) ?_
      refine y_blk 0 tq_X12_response (z := (65, [(0, .ref (ad 200)), (1, .ref (ad (420 + k))), (2, .int found), (3, .int guard), (4, .ref v48_4), (5, .int v48_5)], [.int ((rV ρ (440 + k)) (Int32.toNatClampNeg v48_5)), .ref v48_4])) rfl ?_
      refine y_iald hS tq_X12_response rfl pA448 (by first | exact yIn (by decide) (by decide) | exact yIn (by assumption) (by assumption) | (exact yIn (by omega) (by omega))) ?_
      refine y_blk 1 tq_X12_response (z := (67, [(0, .ref (ad 200)), (1, .ref (ad (420 + k))), (2, .int found), (3, .int guard), (4, .ref v48_4), (5, .int v48_5)], [.int (-1), .int (f448 (Int32.toNatClampNeg ((rV ρ (440 + k)) (Int32.toNatClampNeg v48_5))))])) rfl ?_
      refine y_icmp_eq tq_X12_response 90 rfl rfl (fun c67 => ?_) (fun c67 => ?_)
      · skip
        refine y_blk 0 tq_X12_response (z := (90, [(0, .ref (ad 200)), (1, .ref (ad (420 + k))), (2, .int found), (3, .int guard), (4, .ref v48_4), (5, .int v48_5)], [])) rfl ?_
        exact J90 G48 f448 hX48 kt48 pA448 (by exact c53)
      · skip
        refine y_blk 2 tq_X12_response (z := (73, [(0, .ref (ad 200)), (1, .ref (ad (420 + k))), (2, .int found), (3, .int guard), (4, .ref v48_4), (5, .int v48_5)], [.ref (ad (420 + k)), .ref v48_4])) rfl ?_
        have hw := hX48.wac hk (m := v48_5) (by omega) (by omega)
        have hw0 := hw.1
        have hw1 := hw.2
        refine y_get hS tq_X12_response (v := .ref (ad (440 + k))) rfl fg_X12_243_X11 (hX48.in (by assumption)) rfl ?_
        refine y_blk 1 tq_X12_response (z := (78, [(0, .ref (ad 200)), (1, .ref (ad (420 + k))), (2, .int found), (3, .int guard), (4, .ref v48_4), (5, .int v48_5)], [.int v48_5, .ref (ad (440 + k)), .ref v48_4])) rfl ?_
        refine y_iald hS tq_X12_response rfl (hX48.wa (by assumption)) (by first | exact yIn (by decide) (by decide) | exact yIn (by assumption) (by assumption) | (exact yIn (by omega) (by omega))) ?_
        refine y_blk 0 tq_X12_response (z := (79, [(0, .ref (ad 200)), (1, .ref (ad (420 + k))), (2, .int found), (3, .int guard), (4, .ref v48_4), (5, .int v48_5)], [.int ((rV ρ (440 + k)) (Int32.toNatClampNeg v48_5)), .ref v48_4])) rfl ?_
        refine y_iald hS tq_X12_response rfl pA448 (by first | exact yIn (by decide) (by decide) | exact yIn (by assumption) (by assumption) | (exact yIn (by omega) (by omega))) ?_
        refine y_blk 3 tq_X12_response (z := (84, [(0, .ref (ad 200)), (1, .ref (ad (420 + k))), (2, .int found), (3, .int guard), (4, .ref v48_4), (5, .int v48_5)], [.int (v48_5 - found), .int (f448 (Int32.toNatClampNeg ((rV ρ (440 + k)) (Int32.toNatClampNeg v48_5))))])) rfl ?_
        refine y_icmp_gt tq_X12_response 90 rfl rfl (fun c84 => ?_) (fun c84 => ?_)
        · skip
          refine y_blk 0 tq_X12_response (z := (90, [(0, .ref (ad 200)), (1, .ref (ad (420 + k))), (2, .int found), (3, .int guard), (4, .ref v48_4), (5, .int v48_5)], [])) rfl ?_
          exact J90 G48 f448 hX48 kt48 pA448 (by exact c53)
        · skip
          refine y_blk 1 tq_X12_response (z := (89, [(0, .ref (ad 200)), (1, .ref (ad (420 + k))), (2, .int found), (3, .int guard), (4, .ref v48_4), (5, .int v48_5)], [.int v48_5])) rfl ?_
          exact y_iret tq_X12_response rfl rfl (⟨⟨_, rfl⟩, kt48⟩)
  refine y_blk 1 tq_X12_response (z := (1, [(0, .ref (ad 200)), (1, .ref (ad (420 + k))), (2, .int found), (3, .int guard)], [.ref (ad 200)])) rfl ?_
  refine y_get hS tq_X12_response (v := .ref (ad 212)) rfl fg_X12_27_X12 hX.m rfl ?_
  refine y_blk 1 tq_X12_response (z := (5, [(0, .ref (ad 200)), (1, .ref (ad (420 + k))), (2, .int found), (3, .int guard)], [.int guard, .ref (ad 212)])) rfl ?_
  refine y_callF hS tq_X12_response rfl (As := [.int guard]) rfl cf_X12_80 (Or.inl ⟨_, (hX.ls 212 (by decide)).1⟩) (m_Rgu hS hX (by assumption) (by assumption)) rfl (by decide) (Nat.le_of_ble_eq_true rfl) (fun r5 Gc5 q5 => ?_) (fun _ _ h9 => h9.elim)
  obtain ⟨rfl, eG5⟩ := q5
  have eG5 := eG5.symm
  subst eG5
  have d5 : (Int32.toNatClampNeg guard) < rZ ρ 212 := yIx (by assumption) (by assumption)
  refine y_blk 0 tq_X12_response (z := (10, [(0, .ref (ad 200)), (1, .ref (ad (420 + k))), (2, .int found), (3, .int guard)], [.ref (ad (360 + (Int32.toNatClampNeg guard)))])) rfl ?_
  refine y_castG hS tq_X12_response rfl kc_X12_84 (Or.inl ⟨_, (hX.gu (by assumption))⟩) ?_
  refine y_blk 1 tq_X12_response (z := (14, [(0, .ref (ad 200)), (1, .ref (ad (420 + k))), (2, .int found), (3, .int guard)], [.int found, .ref (ad (360 + (Int32.toNatClampNeg guard)))])) rfl ?_
  refine y_callV hS tq_X12_response rfl (As := [.int found]) rfl cv_X12_199 (hX.gu (by assumption)) (m_X10_isOnDuty hS hI hX (k := (Int32.toNatClampNeg guard)) (by assumption) found) rfl (by decide) (Nat.le_of_ble_eq_true rfl) (fun r14 Gc14 q14 => ?_) (fun E9 G9 h9 => h9.elim)
  obtain ⟨rfl, eG14⟩ := q14
  have eG14 := eG14.symm
  subst eG14
  refine y_blk 0 tq_X12_response (z := (17, [(0, .ref (ad 200)), (1, .ref (ad (420 + k))), (2, .int found), (3, .int guard)], [.int (if (rF ρ (360 + (Int32.toNatClampNeg guard)) 0) ≤ found ∧ found ≤ (rF ρ (360 + (Int32.toNatClampNeg guard)) 1) then 1 else 0)])) rfl ?_
  refine y_if_ne tq_X12_response 22 rfl rfl (fun c17 => ?_) (fun c17 => ?_)
  · skip
    have hd := yif1 c17
    refine y_blk 2 tq_X12_response (z := (24, [(0, .ref (ad 200)), (1, .ref (ad (420 + k))), (2, .int found), (3, .int guard)], [.ref (ad 200), .ref (ad 200)])) rfl ?_
    refine y_get hS tq_X12_response (v := .ref (ad 212)) rfl fg_X12_27_X12 hX.m rfl ?_
    refine y_blk 1 tq_X12_response (z := (28, [(0, .ref (ad 200)), (1, .ref (ad (420 + k))), (2, .int found), (3, .int guard)], [.int guard, .ref (ad 212), .ref (ad 200)])) rfl ?_
    refine y_callF hS tq_X12_response rfl (As := [.int guard]) rfl cf_X12_80 (Or.inl ⟨_, (hX.ls 212 (by decide)).1⟩) (m_Rgu hS hX (by assumption) (by assumption)) rfl (by decide) (Nat.le_of_ble_eq_true rfl) (fun r28 Gc28 q28 => ?_) (fun _ _ h9 => h9.elim)
    obtain ⟨rfl, eG28⟩ := q28
    have eG28 := eG28.symm
    subst eG28
    have d28 : (Int32.toNatClampNeg guard) < rZ ρ 212 := yIx (by assumption) (by assumption)
    refine y_blk 0 tq_X12_response (z := (33, [(0, .ref (ad 200)), (1, .ref (ad (420 + k))), (2, .int found), (3, .int guard)], [.ref (ad (360 + (Int32.toNatClampNeg guard))), .ref (ad 200)])) rfl ?_
    refine y_castG hS tq_X12_response rfl kc_X12_84 (Or.inl ⟨_, (hX.gu (by assumption))⟩) ?_
    refine y_blk 1 tq_X12_response (z := (37, [(0, .ref (ad 200)), (1, .ref (ad (420 + k))), (2, .int found), (3, .int guard)], [.int found, .ref (ad (360 + (Int32.toNatClampNeg guard))), .ref (ad 200)])) rfl ?_
    refine y_callV hS tq_X12_response rfl (As := [.int found]) rfl cv_X12_124 (hX.gu (by assumption)) (m_X10_place_d hS hI hX (k := (Int32.toNatClampNeg guard)) (by assumption) found (by assumption)) rfl (by decide) (Nat.le_of_ble_eq_true rfl) (fun r37 Gc37 q37 => ?_) (fun E9 G9 h9 => h9.elim)
    obtain ⟨⟨x37, hr_x37, rfl⟩, eG37⟩ := q37
    have eG37 := eG37.symm
    subst eG37
    refine y_blk 0 tq_X12_response (z := (40, [(0, .ref (ad 200)), (1, .ref (ad (420 + k))), (2, .int found), (3, .int guard)], [.int x37, .ref (ad 200)])) rfl ?_
    refine y_callV hS tq_X12_response rfl (As := [.int x37]) rfl cv_X12_250 hX.m (m_X12_steps hS hI hX x37 (by first | assumption | exact hX.lac (by assumption) | exact hX.poc (by assumption) | exact hX.wac (by assumption) (by assumption) (by omega))) rfl (by decide) (Nat.le_of_ble_eq_true rfl) (fun r40 Gc40 q40 => ?_) (fun E9 G9 h9 => h9.elim)
    obtain ⟨a40, f40, rfl, hA40, kt40⟩ := q40
    have hX40 := hX.kp (kt40.narrow kA_R)
    have ktt40 := ((yTg.rfl' (f := kA) (G := G))).trans kt40
    refine y_blk 3 tq_X12_response (z := (48, [(5, .int found), (4, .ref a40), (0, .ref (ad 200)), (1, .ref (ad (420 + k))), (2, .int found), (3, .int guard)], [])) rfl ?_
    refine y_pick (L2 := [(0, .ref (ad 200)), (1, .ref (ad (420 + k))), (2, .int found), (3, .int guard), (4, .ref a40), (5, .int found)]) [2, 3, 4, 5, 1, 0] rfl ?_
    exact J48 _ a40 found Gc40 f40 hX40 ktt40 hA40 (by first | decide | assumption | exact Int.le_refl _ | exact yposgtL (by assumption) c53 (by decide)) rfl
  · skip
    refine y_blk 1 tq_X12_response (z := (21, [(0, .ref (ad 200)), (1, .ref (ad (420 + k))), (2, .int found), (3, .int guard)], [.int (-1)])) rfl ?_
    exact y_iret tq_X12_response rfl rfl (⟨⟨_, rfl⟩, (yTg.rfl' (f := kA) (G := G))⟩)
