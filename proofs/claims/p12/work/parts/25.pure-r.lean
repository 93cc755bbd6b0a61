/-! ===== contracts of the reference: what changes nothing, second part ===== -/
set_option maxHeartbeats 4000000 in
set_option maxRecDepth 100000 in
theorem m_X12_isTaken {l : Launch} {S0 : State} {A0 : Array Value} {D : va_G} {aC : Nat → ClassId} {ic : Int32 → Nat} {de : Nat} {ad : Nat → Nat} {G : AH} {ρ : RS} (hS : yS l S0 A0 D aC) (hI : yIc S0 ic de) (hX : atR aC ic de ad G ρ) (cell : Int32) : yM l S0 D yX12_isTaken cX12_isTaken 4 (some .boolean) 17 0 0 [.ref (ad 200), .int cell] G (fun r G1 => (∃ v : Int32, (v = 0 ∨ v = 1) ∧ (v = 0 ↔ rfree ρ cell) ∧ r = some (.int v)) ∧ G1 = G) (fun _ _ => False) := by
  refine yM.ofK K_X12_isTaken rfl (by decide) (Nat.le_of_ble_eq_true rfl) ?_
  have J175 : ∀ (n175 : Nat) (v175_2 : Int32) (h0_175 : 0 ≤ v175_2.toInt) (fA_175 : rfA ρ cell (rZ ρ 210)) (fB_175 : rfB ρ cell (rZ ρ 213)) (fC_175 : rfC ρ cell (rZ ρ 212)) (fD_175 : ∀ k : Nat, k < v175_2.toInt.toNat → rfDi ρ cell k 240), (((Int32.ofNat (rZ ρ 215)) : Int32).toInt - v175_2.toInt).toNat = n175 → Y l S0 D K_X12_isTaken 17 0 0 (fun r G1 => (∃ v : Int32, (v = 0 ∨ v = 1) ∧ (v = 0 ↔ rfree ρ cell) ∧ r = some (.int v)) ∧ G1 = G) (fun _ _ => False) 175 [(0, .ref (ad 200)), (1, .int cell), (2, .int v175_2)] [] G 0 0 := by
    intro n175
    induction n175 using Nat.strongRecOn with
    | _ n175 ih175 =>
    intro v175_2 h0_175 fA_175 fB_175 fC_175 fD_175 hn175
    subst hn175
    have J190 : ∀ (n190 : Nat) (v190_3 : Int32) (h0_190 : 0 ≤ v190_3.toInt) (fD_190 : ∀ m : Nat, m < v190_3.toInt.toNat → ¬ rwh ρ (Int32.toNatClampNeg v175_2) m = cell) (c185 : ¬ ((Int32.ofNat (rZ ρ 215)) : Int32) ≤ v175_2), ((239 : Int32).toInt + 1 - v190_3.toInt).toNat = n190 → Y l S0 D K_X12_isTaken 17 0 0 (fun r G1 => (∃ v : Int32, (v = 0 ∨ v = 1) ∧ (v = 0 ↔ rfree ρ cell) ∧ r = some (.int v)) ∧ G1 = G) (fun _ _ => False) 190 [(0, .ref (ad 200)), (1, .int cell), (2, .int v175_2), (3, .int v190_3)] [] G 0 0 := by
      intro n190
      induction n190 using Nat.strongRecOn with
      | _ n190 ih190 =>
      intro v190_3 h0_190 fD_190 c185 hn190
      subst hn190
      have hn185 := hX.2.le10 215 (by decide)
      have b185 : v175_2.toInt < rZ ρ 215 := yIy (by omega) h0_175 c185
      have d185 : Int32.toNatClampNeg v175_2 < rZ ρ 215 := yIx h0_175 b185
      refine y_blk 2 tq_X12_isTaken (z := (194, [(0, .ref (ad 200)), (1, .int cell), (2, .int v175_2), (3, .int v190_3)], [.int 239, .int v190_3])) rfl ?_
      refine y_icmp_gt tq_X12_isTaken 226 rfl rfl (fun c194 => ?_) (fun c194 => ?_)
      · skip
        refine y_blk 2 tq_X12_isTaken (z := (175, [(2, .int (v175_2 + 1)), (0, .ref (ad 200)), (1, .int cell), (3, .int v190_3)], [])) rfl ?_
        refine y_pick (L2 := [(0, .ref (ad 200)), (1, .int cell), (2, .int (v175_2 + 1))]) [1, 2, 0] rfl ?_
        exact ih175 _ (by exact ydec c185) (v175_2 + 1) (by first | decide | assumption | exact Int.le_refl _ | exact yposgeL (by assumption) c185) (by assumption) (by assumption) (by first | assumption | exact allN fC_87 (by have z1 := hX.2.2.1; have z2 := z1.2.2.1; omega) c97) (by first | exact allS fD_175 h0_175 c185 (allG fD_190 c194) | exact all0) rfl
      · skip
        have b194 : v190_3.toInt ≤ 239 := by rw [ylt] at c194; have z9 : (239 : Int32).toInt = 239 := (by decide); omega
        refine y_blk 1 tq_X12_isTaken (z := (198, [(0, .ref (ad 200)), (1, .int cell), (2, .int v175_2), (3, .int v190_3)], [.ref (ad 200)])) rfl ?_
        refine y_get hS tq_X12_isTaken (v := .ref (ad 215)) rfl fg_X12_42_X12 hX.m rfl ?_
        refine y_blk 1 tq_X12_isTaken (z := (202, [(0, .ref (ad 200)), (1, .int cell), (2, .int v175_2), (3, .int v190_3)], [.int v175_2, .ref (ad 215)])) rfl ?_
        refine y_callF hS tq_X12_isTaken rfl (As := [.int v175_2]) rfl cf_X12_80 (Or.inl ⟨_, (hX.ls 215 (by decide)).1⟩) (m_Rin hS hX (by assumption) (by assumption)) rfl (by decide) (Nat.le_of_ble_eq_true rfl) (fun r202 Gc202 q202 => ?_) (fun _ _ h9 => h9.elim)
        obtain ⟨rfl, eG202⟩ := q202
        have eG202 := eG202.symm
        subst eG202
        have d202 : (Int32.toNatClampNeg v175_2) < rZ ρ 215 := yIx (by assumption) (by assumption)
        refine y_blk 0 tq_X12_isTaken (z := (207, [(0, .ref (ad 200)), (1, .int cell), (2, .int v175_2), (3, .int v190_3)], [.ref (ad (420 + (Int32.toNatClampNeg v175_2)))])) rfl ?_
        refine y_castG hS tq_X12_isTaken rfl kc_X12_152 (Or.inl ⟨_, (hX.in (by assumption))⟩) ?_
        refine y_blk 1 tq_X12_isTaken (z := (211, [(0, .ref (ad 200)), (1, .int cell), (2, .int v175_2), (3, .int v190_3)], [.int v190_3, .ref (ad (420 + (Int32.toNatClampNeg v175_2)))])) rfl ?_
        refine y_callV hS tq_X12_isTaken rfl (As := [.int v190_3]) rfl cv_X12_154 (hX.in (by assumption)) (m_X11_where hS hI hX (k := (Int32.toNatClampNeg v175_2)) (by assumption) v190_3 (by omega)) rfl (by decide) (Nat.le_of_ble_eq_true rfl) (fun r211 Gc211 q211 => ?_) (fun E9 G9 h9 => h9.elim)
        obtain ⟨⟨x211, hr_x211, rfl⟩, eG211⟩ := q211
        have eG211 := eG211.symm
        subst eG211
        refine y_blk 1 tq_X12_isTaken (z := (215, [(0, .ref (ad 200)), (1, .int cell), (2, .int v175_2), (3, .int v190_3)], [.int cell, .int x211])) rfl ?_
        refine y_icmp_ne tq_X12_isTaken 220 rfl rfl (fun c215 => ?_) (fun c215 => ?_)
        · skip
          refine y_blk 2 tq_X12_isTaken (z := (190, [(3, .int (v190_3 + 1)), (0, .ref (ad 200)), (1, .int cell), (2, .int v175_2)], [])) rfl ?_
          refine y_pick (L2 := [(0, .ref (ad 200)), (1, .int cell), (2, .int v175_2), (3, .int (v190_3 + 1))]) [1, 2, 3, 0] rfl ?_
          exact ih190 _ (by exact ydec2 c194 (by decide)) (v190_3 + 1) (by first | decide | assumption | exact Int.le_refl _ | exact yposgtL (by assumption) c194 (by decide)) (by first | exact allSg fD_190 h0_190 (by decide) c194 (hr_x211.2 h0_190 ▸ c215) | exact all0) (by exact c185) rfl
        · skip
          refine y_blk 1 tq_X12_isTaken (z := (219, [(0, .ref (ad 200)), (1, .int cell), (2, .int v175_2), (3, .int v190_3)], [.int 1])) rfl ?_
          exact y_zret tq_X12_isTaken rfl rfl (rfl) (⟨⟨_, (Or.inr rfl), by first | exact ⟨fun _ => ⟨fA_175, fB_175, fC_175, allN fD_175 (by have z1 := hX.2.2.1; have z2 := z1.2.2.2.2.2.1; omega) c185⟩, fun _ => rfl⟩ | exact ⟨fun h => absurd h (by decide), fun h => absurd c31 (h.1 _ (by assumption))⟩ | exact ⟨fun h => absurd h (by decide), fun h => absurd c74 (h.2.1 _ (by assumption))⟩ | exact ⟨fun h => absurd h (by decide), fun h => absurd c156 (h.2.2.1 _ (by assumption) _ (by assumption))⟩ | exact ⟨fun h => absurd h (by decide), fun h => absurd (hr_x211.2 h0_190 ▸ c215) (h.2.2.2 _ (by assumption) _ (by have zc := yclamp h0_190; omega))⟩, rfl⟩, rfl⟩)
    refine y_blk 2 tq_X12_isTaken (z := (177, [(0, .ref (ad 200)), (1, .int cell), (2, .int v175_2)], [.ref (ad 200), .int v175_2])) rfl ?_
    refine y_get hS tq_X12_isTaken (v := .ref (ad 215)) rfl fg_X12_42_X12 hX.m rfl ?_
    refine y_blk 0 tq_X12_isTaken (z := (180, [(0, .ref (ad 200)), (1, .int cell), (2, .int v175_2)], [.ref (ad 215), .int v175_2])) rfl ?_
    refine y_callF hS tq_X12_isTaken rfl (As := []) rfl cf_X12_58 (Or.inl ⟨_, (hX.ls 215 (by decide)).1⟩) (m_Jsize hS (hX.ls 215 (by decide))) rfl (by decide) (Nat.le_of_ble_eq_true rfl) (fun r180 Gc180 q180 => ?_) (fun _ _ h9 => h9.elim)
    obtain ⟨rfl, eG180⟩ := q180
    have eG180 := eG180.symm
    subst eG180
    refine y_blk 0 tq_X12_isTaken (z := (185, [(0, .ref (ad 200)), (1, .int cell), (2, .int v175_2)], [.int (Int32.ofNat (rZ ρ 215)), .int v175_2])) rfl ?_
    refine y_icmp_ge tq_X12_isTaken 232 rfl rfl (fun c185 => ?_) (fun c185 => ?_)
    · skip
      refine y_blk 1 tq_X12_isTaken (z := (233, [(0, .ref (ad 200)), (1, .int cell), (2, .int v175_2)], [.int 0])) rfl ?_
      exact y_zret tq_X12_isTaken rfl rfl (rfl) (⟨⟨_, (Or.inl rfl), by first | exact ⟨fun _ => ⟨fA_175, fB_175, fC_175, allN fD_175 (by have z1 := hX.2.2.1; have z2 := z1.2.2.2.2.2.1; omega) c185⟩, fun _ => rfl⟩ | exact ⟨fun h => absurd h (by decide), fun h => absurd c31 (h.1 _ (by assumption))⟩ | exact ⟨fun h => absurd h (by decide), fun h => absurd c74 (h.2.1 _ (by assumption))⟩ | exact ⟨fun h => absurd h (by decide), fun h => absurd c156 (h.2.2.1 _ (by assumption) _ (by assumption))⟩ | exact ⟨fun h => absurd h (by decide), fun h => absurd (hr_x211.2 h0_190 ▸ c215) (h.2.2.2 _ (by assumption) _ (by have zc := yclamp h0_190; omega))⟩, rfl⟩, rfl⟩)
    · skip
      have hn185 := hX.2.le10 215 (by decide)
      have b185 : v175_2.toInt < rZ ρ 215 := yIy (by omega) h0_175 c185
      have d185 : Int32.toNatClampNeg v175_2 < rZ ρ 215 := yIx h0_175 b185
      refine y_blk 2 tq_X12_isTaken (z := (190, [(3, .int 0), (0, .ref (ad 200)), (1, .int cell), (2, .int v175_2)], [])) rfl ?_
      refine y_pick (L2 := [(0, .ref (ad 200)), (1, .int cell), (2, .int v175_2), (3, .int 0)]) [1, 2, 3, 0] rfl ?_
      exact J190 _ 0 (by first | decide | assumption | exact Int.le_refl _ | exact yposgtL (by assumption) c194 (by decide)) (by first | exact allSg fD_190 h0_190 (by decide) c194 (hr_x211.2 h0_190 ▸ c215) | exact all0) (by exact c185) rfl
  have J87 : ∀ (n87 : Nat) (v87_2 : Int32) (h0_87 : 0 ≤ v87_2.toInt) (fA_87 : rfA ρ cell (rZ ρ 210)) (fB_87 : rfB ρ cell (rZ ρ 213)) (fC_87 : ∀ k : Nat, k < v87_2.toInt.toNat → rfCi ρ cell k (rZ ρ (380 + k))), (((Int32.ofNat (rZ ρ 212)) : Int32).toInt - v87_2.toInt).toNat = n87 → Y l S0 D K_X12_isTaken 17 0 0 (fun r G1 => (∃ v : Int32, (v = 0 ∨ v = 1) ∧ (v = 0 ↔ rfree ρ cell) ∧ r = some (.int v)) ∧ G1 = G) (fun _ _ => False) 87 [(0, .ref (ad 200)), (1, .int cell), (2, .int v87_2)] [] G 0 0 := by
    intro n87
    induction n87 using Nat.strongRecOn with
    | _ n87 ih87 =>
    intro v87_2 h0_87 fA_87 fB_87 fC_87 hn87
    subst hn87
    have J102 : ∀ (n102 : Nat) (v102_3 : Int32) (h0_102 : 0 ≤ v102_3.toInt) (fC_102 : ∀ i : Nat, i < v102_3.toInt.toNat → ¬ rV ρ (380 + (Int32.toNatClampNeg v87_2)) i = cell) (c97 : ¬ ((Int32.ofNat (rZ ρ 212)) : Int32) ≤ v87_2), ((Int32.ofNat (rZ ρ (380 + (Int32.toNatClampNeg v87_2)))).toInt - v102_3.toInt).toNat = n102 → Y l S0 D K_X12_isTaken 17 0 0 (fun r G1 => (∃ v : Int32, (v = 0 ∨ v = 1) ∧ (v = 0 ↔ rfree ρ cell) ∧ r = some (.int v)) ∧ G1 = G) (fun _ _ => False) 102 [(0, .ref (ad 200)), (1, .int cell), (2, .int v87_2), (3, .int v102_3)] [] G 0 0 := by
      intro n102
      induction n102 using Nat.strongRecOn with
      | _ n102 ih102 =>
      intro v102_3 h0_102 fC_102 c97 hn102
      subst hn102
      have hn97 := hX.2.le10 212 (by decide)
      have b97 : v87_2.toInt < rZ ρ 212 := yIy (by omega) h0_87 c97
      have d97 : Int32.toNatClampNeg v87_2 < rZ ρ 212 := yIx h0_87 b97
      refine y_blk 2 tq_X12_isTaken (z := (104, [(0, .ref (ad 200)), (1, .int cell), (2, .int v87_2), (3, .int v102_3)], [.ref (ad 200), .int v102_3])) rfl ?_
      refine y_get hS tq_X12_isTaken (v := .ref (ad 212)) rfl fg_X12_27_X12 hX.m rfl ?_
      refine y_blk 1 tq_X12_isTaken (z := (108, [(0, .ref (ad 200)), (1, .int cell), (2, .int v87_2), (3, .int v102_3)], [.int v87_2, .ref (ad 212), .int v102_3])) rfl ?_
      refine y_callF hS tq_X12_isTaken rfl (As := [.int v87_2]) rfl cf_X12_80 (Or.inl ⟨_, (hX.ls 212 (by decide)).1⟩) (m_Rgu hS hX (by assumption) (by assumption)) rfl (by decide) (Nat.le_of_ble_eq_true rfl) (fun r108 Gc108 q108 => ?_) (fun _ _ h9 => h9.elim)
      obtain ⟨rfl, eG108⟩ := q108
      have eG108 := eG108.symm
      subst eG108
      have d108 : (Int32.toNatClampNeg v87_2) < rZ ρ 212 := yIx (by assumption) (by assumption)
      refine y_blk 0 tq_X12_isTaken (z := (113, [(0, .ref (ad 200)), (1, .int cell), (2, .int v87_2), (3, .int v102_3)], [.ref (ad (360 + (Int32.toNatClampNeg v87_2))), .int v102_3])) rfl ?_
      refine y_castG hS tq_X12_isTaken rfl kc_X12_84 (Or.inl ⟨_, (hX.gu (by assumption))⟩) ?_
      refine y_blk 0 tq_X12_isTaken (z := (116, [(0, .ref (ad 200)), (1, .int cell), (2, .int v87_2), (3, .int v102_3)], [.ref (ad (360 + (Int32.toNatClampNeg v87_2))), .int v102_3])) rfl ?_
      refine y_get hS tq_X12_isTaken (v := .ref (ad (380 + (Int32.toNatClampNeg v87_2)))) rfl fg_X12_149_X10 (hX.gu (by assumption)) rfl ?_
      refine y_blk 0 tq_X12_isTaken (z := (119, [(0, .ref (ad 200)), (1, .int cell), (2, .int v87_2), (3, .int v102_3)], [.ref (ad (380 + (Int32.toNatClampNeg v87_2))), .int v102_3])) rfl ?_
      refine y_callF hS tq_X12_isTaken rfl (As := []) rfl cf_X12_58 (Or.inl ⟨_, (hX.gl (by assumption)).1⟩) (m_Jsize hS (hX.gl (by assumption))) rfl (by decide) (Nat.le_of_ble_eq_true rfl) (fun r119 Gc119 q119 => ?_) (fun _ _ h9 => h9.elim)
      obtain ⟨rfl, eG119⟩ := q119
      have eG119 := eG119.symm
      subst eG119
      refine y_blk 0 tq_X12_isTaken (z := (124, [(0, .ref (ad 200)), (1, .int cell), (2, .int v87_2), (3, .int v102_3)], [.int (Int32.ofNat (rZ ρ (380 + (Int32.toNatClampNeg v87_2)))), .int v102_3])) rfl ?_
      refine y_icmp_ge tq_X12_isTaken 167 rfl rfl (fun c124 => ?_) (fun c124 => ?_)
      · skip
        refine y_blk 2 tq_X12_isTaken (z := (87, [(2, .int (v87_2 + 1)), (0, .ref (ad 200)), (1, .int cell), (3, .int v102_3)], [])) rfl ?_
        refine y_pick (L2 := [(0, .ref (ad 200)), (1, .int cell), (2, .int (v87_2 + 1))]) [1, 2, 0] rfl ?_
        exact ih87 _ (by exact ydec c97) (v87_2 + 1) (by first | decide | assumption | exact Int.le_refl _ | exact yposgeL (by assumption) c97) (by assumption) (by first | assumption | exact allN fB_44 (by have z1 := hX.2.2.1; have z2 := z1.2.2.2.1; omega) c54) (by first | exact allS fC_87 h0_87 c97 (allN fC_102 (by have z := (hX.2.2.2.1 _ d97).2.2.2.1; omega) c124) | exact all0) rfl
      · skip
        have hz124 := (hX.2.2.2.1 _ d97).2.2.2.1
        have b124 : v102_3.toInt < rZ ρ (380 + (Int32.toNatClampNeg v87_2)) := yIy (by omega) h0_102 c124
        refine y_blk 1 tq_X12_isTaken (z := (128, [(0, .ref (ad 200)), (1, .int cell), (2, .int v87_2), (3, .int v102_3)], [.ref (ad 200)])) rfl ?_
        refine y_get hS tq_X12_isTaken (v := .ref (ad 212)) rfl fg_X12_27_X12 hX.m rfl ?_
        refine y_blk 1 tq_X12_isTaken (z := (132, [(0, .ref (ad 200)), (1, .int cell), (2, .int v87_2), (3, .int v102_3)], [.int v87_2, .ref (ad 212)])) rfl ?_
        refine y_callF hS tq_X12_isTaken rfl (As := [.int v87_2]) rfl cf_X12_80 (Or.inl ⟨_, (hX.ls 212 (by decide)).1⟩) (m_Rgu hS hX (by assumption) (by assumption)) rfl (by decide) (Nat.le_of_ble_eq_true rfl) (fun r132 Gc132 q132 => ?_) (fun _ _ h9 => h9.elim)
        obtain ⟨rfl, eG132⟩ := q132
        have eG132 := eG132.symm
        subst eG132
        have d132 : (Int32.toNatClampNeg v87_2) < rZ ρ 212 := yIx (by assumption) (by assumption)
        refine y_blk 0 tq_X12_isTaken (z := (137, [(0, .ref (ad 200)), (1, .int cell), (2, .int v87_2), (3, .int v102_3)], [.ref (ad (360 + (Int32.toNatClampNeg v87_2)))])) rfl ?_
        refine y_castG hS tq_X12_isTaken rfl kc_X12_84 (Or.inl ⟨_, (hX.gu (by assumption))⟩) ?_
        refine y_blk 0 tq_X12_isTaken (z := (140, [(0, .ref (ad 200)), (1, .int cell), (2, .int v87_2), (3, .int v102_3)], [.ref (ad (360 + (Int32.toNatClampNeg v87_2)))])) rfl ?_
        refine y_get hS tq_X12_isTaken (v := .ref (ad (380 + (Int32.toNatClampNeg v87_2)))) rfl fg_X12_149_X10 (hX.gu (by assumption)) rfl ?_
        refine y_blk 1 tq_X12_isTaken (z := (144, [(0, .ref (ad 200)), (1, .int cell), (2, .int v87_2), (3, .int v102_3)], [.int v102_3, .ref (ad (380 + (Int32.toNatClampNeg v87_2)))])) rfl ?_
        refine y_callF hS tq_X12_isTaken rfl (As := [.int v102_3]) rfl cf_X12_80 (Or.inl ⟨_, (hX.gl (by assumption)).1⟩) (m_Rgc hS hX (by assumption) (by assumption) (by assumption)) rfl (by decide) (Nat.le_of_ble_eq_true rfl) (fun r144 Gc144 q144 => ?_) (fun _ _ h9 => h9.elim)
        obtain ⟨rfl, eG144⟩ := q144
        have eG144 := eG144.symm
        subst eG144
        have d144 : (Int32.toNatClampNeg v102_3) < rZ ρ (380 + (Int32.toNatClampNeg v87_2)) := yIx (by assumption) (by assumption)
        refine y_blk 0 tq_X12_isTaken (z := (149, [(0, .ref (ad 200)), (1, .int cell), (2, .int v87_2), (3, .int v102_3)], [.ref (ic (rV ρ (380 + (Int32.toNatClampNeg v87_2)) (Int32.toNatClampNeg v102_3)))])) rfl ?_
        refine y_castI hS tq_X12_isTaken rfl kc_X12_108 (hX.gc hI (by assumption) (by assumption)) ?_
        refine y_blk 0 tq_X12_isTaken (z := (152, [(0, .ref (ad 200)), (1, .int cell), (2, .int v87_2), (3, .int v102_3)], [.ref (ic (rV ρ (380 + (Int32.toNatClampNeg v87_2)) (Int32.toNatClampNeg v102_3)))])) rfl ?_
        refine y_callVO hS tq_X12_isTaken rfl (As := []) rfl cv_X12_146 (yIntO (hX.gc hI (by assumption) (by assumption))) (m_JintValue hS (hX.gc hI (by assumption) (by assumption))) rfl (by decide) (Nat.le_of_ble_eq_true rfl) (fun r152 Gc152 q152 => ?_) (fun _ _ h9 => h9.elim)
        obtain ⟨rfl, eG152⟩ := q152
        have eG152 := eG152.symm
        subst eG152
        refine y_blk 1 tq_X12_isTaken (z := (156, [(0, .ref (ad 200)), (1, .int cell), (2, .int v87_2), (3, .int v102_3)], [.int cell, .int (rV ρ (380 + (Int32.toNatClampNeg v87_2)) (Int32.toNatClampNeg v102_3))])) rfl ?_
        refine y_icmp_ne tq_X12_isTaken 161 rfl rfl (fun c156 => ?_) (fun c156 => ?_)
        · skip
          refine y_blk 2 tq_X12_isTaken (z := (102, [(3, .int (v102_3 + 1)), (0, .ref (ad 200)), (1, .int cell), (2, .int v87_2)], [])) rfl ?_
          refine y_pick (L2 := [(0, .ref (ad 200)), (1, .int cell), (2, .int v87_2), (3, .int (v102_3 + 1))]) [1, 2, 3, 0] rfl ?_
          exact ih102 _ (by exact ydec c124) (v102_3 + 1) (by first | decide | exact yposgeL (by assumption) c124) (by first | exact allS fC_102 h0_102 c124 c156 | exact all0) (by exact c97) rfl
        · skip
          refine y_blk 1 tq_X12_isTaken (z := (160, [(0, .ref (ad 200)), (1, .int cell), (2, .int v87_2), (3, .int v102_3)], [.int 1])) rfl ?_
          exact y_zret tq_X12_isTaken rfl rfl (rfl) (⟨⟨_, (Or.inr rfl), by first | exact ⟨fun _ => ⟨fA_175, fB_175, fC_175, allN fD_175 (by have z1 := hX.2.2.1; have z2 := z1.2.2.2.2.2.1; omega) c185⟩, fun _ => rfl⟩ | exact ⟨fun h => absurd h (by decide), fun h => absurd c31 (h.1 _ (by assumption))⟩ | exact ⟨fun h => absurd h (by decide), fun h => absurd c74 (h.2.1 _ (by assumption))⟩ | exact ⟨fun h => absurd h (by decide), fun h => absurd c156 (h.2.2.1 _ (by assumption) _ (by assumption))⟩ | exact ⟨fun h => absurd h (by decide), fun h => absurd (hr_x211.2 h0_190 ▸ c215) (h.2.2.2 _ (by assumption) _ (by have zc := yclamp h0_190; omega))⟩, rfl⟩, rfl⟩)
    refine y_blk 2 tq_X12_isTaken (z := (89, [(0, .ref (ad 200)), (1, .int cell), (2, .int v87_2)], [.ref (ad 200), .int v87_2])) rfl ?_
    refine y_get hS tq_X12_isTaken (v := .ref (ad 212)) rfl fg_X12_27_X12 hX.m rfl ?_
    refine y_blk 0 tq_X12_isTaken (z := (92, [(0, .ref (ad 200)), (1, .int cell), (2, .int v87_2)], [.ref (ad 212), .int v87_2])) rfl ?_
    refine y_callF hS tq_X12_isTaken rfl (As := []) rfl cf_X12_58 (Or.inl ⟨_, (hX.ls 212 (by decide)).1⟩) (m_Jsize hS (hX.ls 212 (by decide))) rfl (by decide) (Nat.le_of_ble_eq_true rfl) (fun r92 Gc92 q92 => ?_) (fun _ _ h9 => h9.elim)
    obtain ⟨rfl, eG92⟩ := q92
    have eG92 := eG92.symm
    subst eG92
    refine y_blk 0 tq_X12_isTaken (z := (97, [(0, .ref (ad 200)), (1, .int cell), (2, .int v87_2)], [.int (Int32.ofNat (rZ ρ 212)), .int v87_2])) rfl ?_
    refine y_icmp_ge tq_X12_isTaken 173 rfl rfl (fun c97 => ?_) (fun c97 => ?_)
    · skip
      refine y_blk 2 tq_X12_isTaken (z := (175, [(2, .int 0), (0, .ref (ad 200)), (1, .int cell)], [])) rfl ?_
      refine y_pick (L2 := [(0, .ref (ad 200)), (1, .int cell), (2, .int 0)]) [1, 2, 0] rfl ?_
      exact J175 _ 0 (by first | decide | assumption | exact Int.le_refl _ | exact yposgeL (by assumption) c185) (by assumption) (by assumption) (by first | assumption | exact allN fC_87 (by have z1 := hX.2.2.1; have z2 := z1.2.2.1; omega) c97) (by first | exact allS fD_175 h0_175 c185 (allG fD_190 c194) | exact all0) rfl
    · skip
      have hn97 := hX.2.le10 212 (by decide)
      have b97 : v87_2.toInt < rZ ρ 212 := yIy (by omega) h0_87 c97
      have d97 : Int32.toNatClampNeg v87_2 < rZ ρ 212 := yIx h0_87 b97
      refine y_blk 2 tq_X12_isTaken (z := (102, [(3, .int 0), (0, .ref (ad 200)), (1, .int cell), (2, .int v87_2)], [])) rfl ?_
      refine y_pick (L2 := [(0, .ref (ad 200)), (1, .int cell), (2, .int v87_2), (3, .int 0)]) [1, 2, 3, 0] rfl ?_
      exact J102 _ 0 (by first | decide | exact yposgeL (by assumption) c124) (by first | exact allS fC_102 h0_102 c124 c156 | exact all0) (by exact c97) rfl
  have J44 : ∀ (n44 : Nat) (v44_2 : Int32) (h0_44 : 0 ≤ v44_2.toInt) (fA_44 : rfA ρ cell (rZ ρ 210)) (fB_44 : ∀ k : Nat, k < v44_2.toInt.toNat → ¬ rV ρ 213 k = cell), (((Int32.ofNat (rZ ρ 213)) : Int32).toInt - v44_2.toInt).toNat = n44 → Y l S0 D K_X12_isTaken 17 0 0 (fun r G1 => (∃ v : Int32, (v = 0 ∨ v = 1) ∧ (v = 0 ↔ rfree ρ cell) ∧ r = some (.int v)) ∧ G1 = G) (fun _ _ => False) 44 [(0, .ref (ad 200)), (1, .int cell), (2, .int v44_2)] [] G 0 0 := by
    intro n44
    induction n44 using Nat.strongRecOn with
    | _ n44 ih44 =>
    intro v44_2 h0_44 fA_44 fB_44 hn44
    subst hn44
    refine y_blk 2 tq_X12_isTaken (z := (46, [(0, .ref (ad 200)), (1, .int cell), (2, .int v44_2)], [.ref (ad 200), .int v44_2])) rfl ?_
    refine y_get hS tq_X12_isTaken (v := .ref (ad 213)) rfl fg_X12_30_X12 hX.m rfl ?_
    refine y_blk 0 tq_X12_isTaken (z := (49, [(0, .ref (ad 200)), (1, .int cell), (2, .int v44_2)], [.ref (ad 213), .int v44_2])) rfl ?_
    refine y_callF hS tq_X12_isTaken rfl (As := []) rfl cf_X12_58 (Or.inl ⟨_, (hX.ls 213 (by decide)).1⟩) (m_Jsize hS (hX.ls 213 (by decide))) rfl (by decide) (Nat.le_of_ble_eq_true rfl) (fun r49 Gc49 q49 => ?_) (fun _ _ h9 => h9.elim)
    obtain ⟨rfl, eG49⟩ := q49
    have eG49 := eG49.symm
    subst eG49
    refine y_blk 0 tq_X12_isTaken (z := (54, [(0, .ref (ad 200)), (1, .int cell), (2, .int v44_2)], [.int (Int32.ofNat (rZ ρ 213)), .int v44_2])) rfl ?_
    refine y_icmp_ge tq_X12_isTaken 85 rfl rfl (fun c54 => ?_) (fun c54 => ?_)
    · skip
      refine y_blk 2 tq_X12_isTaken (z := (87, [(2, .int 0), (0, .ref (ad 200)), (1, .int cell)], [])) rfl ?_
      refine y_pick (L2 := [(0, .ref (ad 200)), (1, .int cell), (2, .int 0)]) [1, 2, 0] rfl ?_
      exact J87 _ 0 (by first | decide | assumption | exact Int.le_refl _ | exact yposgeL (by assumption) c97) (by assumption) (by first | assumption | exact allN fB_44 (by have z1 := hX.2.2.1; have z2 := z1.2.2.2.1; omega) c54) (by first | exact allS fC_87 h0_87 c97 (allN fC_102 (by have z := (hX.2.2.2.1 _ d97).2.2.2.1; omega) c124) | exact all0) rfl
    · skip
      have hn54 := hX.2.le10 213 (by decide)
      have b54 : v44_2.toInt < rZ ρ 213 := yIy (by omega) h0_44 c54
      have d54 : Int32.toNatClampNeg v44_2 < rZ ρ 213 := yIx h0_44 b54
      refine y_blk 1 tq_X12_isTaken (z := (58, [(0, .ref (ad 200)), (1, .int cell), (2, .int v44_2)], [.ref (ad 200)])) rfl ?_
      refine y_get hS tq_X12_isTaken (v := .ref (ad 213)) rfl fg_X12_30_X12 hX.m rfl ?_
      refine y_blk 1 tq_X12_isTaken (z := (62, [(0, .ref (ad 200)), (1, .int cell), (2, .int v44_2)], [.int v44_2, .ref (ad 213)])) rfl ?_
      refine y_callF hS tq_X12_isTaken rfl (As := [.int v44_2]) rfl cf_X12_80 (Or.inl ⟨_, (hX.ls 213 (by decide)).1⟩) (m_Rpo hS hX (by assumption) (by assumption)) rfl (by decide) (Nat.le_of_ble_eq_true rfl) (fun r62 Gc62 q62 => ?_) (fun _ _ h9 => h9.elim)
      obtain ⟨rfl, eG62⟩ := q62
      have eG62 := eG62.symm
      subst eG62
      have d62 : (Int32.toNatClampNeg v44_2) < rZ ρ 213 := yIx (by assumption) (by assumption)
      refine y_blk 0 tq_X12_isTaken (z := (67, [(0, .ref (ad 200)), (1, .int cell), (2, .int v44_2)], [.ref (ic (rV ρ 213 (Int32.toNatClampNeg v44_2)))])) rfl ?_
      refine y_castI hS tq_X12_isTaken rfl kc_X12_108 (hX.po hI (by assumption)) ?_
      refine y_blk 0 tq_X12_isTaken (z := (70, [(0, .ref (ad 200)), (1, .int cell), (2, .int v44_2)], [.ref (ic (rV ρ 213 (Int32.toNatClampNeg v44_2)))])) rfl ?_
      refine y_callVO hS tq_X12_isTaken rfl (As := []) rfl cv_X12_146 (yIntO (hX.po hI (by assumption))) (m_JintValue hS (hX.po hI (by assumption))) rfl (by decide) (Nat.le_of_ble_eq_true rfl) (fun r70 Gc70 q70 => ?_) (fun _ _ h9 => h9.elim)
      obtain ⟨rfl, eG70⟩ := q70
      have eG70 := eG70.symm
      subst eG70
      refine y_blk 1 tq_X12_isTaken (z := (74, [(0, .ref (ad 200)), (1, .int cell), (2, .int v44_2)], [.int cell, .int (rV ρ 213 (Int32.toNatClampNeg v44_2))])) rfl ?_
      refine y_icmp_ne tq_X12_isTaken 79 rfl rfl (fun c74 => ?_) (fun c74 => ?_)
      · skip
        refine y_blk 2 tq_X12_isTaken (z := (44, [(2, .int (v44_2 + 1)), (0, .ref (ad 200)), (1, .int cell)], [])) rfl ?_
        refine y_pick (L2 := [(0, .ref (ad 200)), (1, .int cell), (2, .int (v44_2 + 1))]) [1, 2, 0] rfl ?_
        exact ih44 _ (by exact ydec c54) (v44_2 + 1) (by first | decide | assumption | exact Int.le_refl _ | exact yposgeL (by assumption) c54) (by first | assumption | exact allN fA_2 (by have z1 := hX.2.2.1; have z2 := z1.1; omega) c12) (by first | exact allS fB_44 h0_44 c54 c74 | exact all0) rfl
      · skip
        refine y_blk 1 tq_X12_isTaken (z := (78, [(0, .ref (ad 200)), (1, .int cell), (2, .int v44_2)], [.int 1])) rfl ?_
        exact y_zret tq_X12_isTaken rfl rfl (rfl) (⟨⟨_, (Or.inr rfl), by first | exact ⟨fun _ => ⟨fA_175, fB_175, fC_175, allN fD_175 (by have z1 := hX.2.2.1; have z2 := z1.2.2.2.2.2.1; omega) c185⟩, fun _ => rfl⟩ | exact ⟨fun h => absurd h (by decide), fun h => absurd c31 (h.1 _ (by assumption))⟩ | exact ⟨fun h => absurd h (by decide), fun h => absurd c74 (h.2.1 _ (by assumption))⟩ | exact ⟨fun h => absurd h (by decide), fun h => absurd c156 (h.2.2.1 _ (by assumption) _ (by assumption))⟩ | exact ⟨fun h => absurd h (by decide), fun h => absurd (hr_x211.2 h0_190 ▸ c215) (h.2.2.2 _ (by assumption) _ (by have zc := yclamp h0_190; omega))⟩, rfl⟩, rfl⟩)
  have J2 : ∀ (n2 : Nat) (v2_2 : Int32) (h0_2 : 0 ≤ v2_2.toInt) (fA_2 : ∀ k : Nat, k < v2_2.toInt.toNat → ¬ rV ρ (300 + k) 0 = cell), (((Int32.ofNat (rZ ρ 210)) : Int32).toInt - v2_2.toInt).toNat = n2 → Y l S0 D K_X12_isTaken 17 0 0 (fun r G1 => (∃ v : Int32, (v = 0 ∨ v = 1) ∧ (v = 0 ↔ rfree ρ cell) ∧ r = some (.int v)) ∧ G1 = G) (fun _ _ => False) 2 [(0, .ref (ad 200)), (1, .int cell), (2, .int v2_2)] [] G 0 0 := by
    intro n2
    induction n2 using Nat.strongRecOn with
    | _ n2 ih2 =>
    intro v2_2 h0_2 fA_2 hn2
    subst hn2
    refine y_blk 2 tq_X12_isTaken (z := (4, [(0, .ref (ad 200)), (1, .int cell), (2, .int v2_2)], [.ref (ad 200), .int v2_2])) rfl ?_
    refine y_get hS tq_X12_isTaken (v := .ref (ad 210)) rfl fg_X12_20_X12 hX.m rfl ?_
    refine y_blk 0 tq_X12_isTaken (z := (7, [(0, .ref (ad 200)), (1, .int cell), (2, .int v2_2)], [.ref (ad 210), .int v2_2])) rfl ?_
    refine y_callF hS tq_X12_isTaken rfl (As := []) rfl cf_X12_58 (Or.inl ⟨_, (hX.ls 210 (by decide)).1⟩) (m_Jsize hS (hX.ls 210 (by decide))) rfl (by decide) (Nat.le_of_ble_eq_true rfl) (fun r7 Gc7 q7 => ?_) (fun _ _ h9 => h9.elim)
    obtain ⟨rfl, eG7⟩ := q7
    have eG7 := eG7.symm
    subst eG7
    refine y_blk 0 tq_X12_isTaken (z := (12, [(0, .ref (ad 200)), (1, .int cell), (2, .int v2_2)], [.int (Int32.ofNat (rZ ρ 210)), .int v2_2])) rfl ?_
    refine y_icmp_ge tq_X12_isTaken 42 rfl rfl (fun c12 => ?_) (fun c12 => ?_)
    · skip
      refine y_blk 2 tq_X12_isTaken (z := (44, [(2, .int 0), (0, .ref (ad 200)), (1, .int cell)], [])) rfl ?_
      refine y_pick (L2 := [(0, .ref (ad 200)), (1, .int cell), (2, .int 0)]) [1, 2, 0] rfl ?_
      exact J44 _ 0 (by first | decide | assumption | exact Int.le_refl _ | exact yposgeL (by assumption) c54) (by first | assumption | exact allN fA_2 (by have z1 := hX.2.2.1; have z2 := z1.1; omega) c12) (by first | exact allS fB_44 h0_44 c54 c74 | exact all0) rfl
    · skip
      have hn12 := hX.2.le10 210 (by decide)
      have b12 : v2_2.toInt < rZ ρ 210 := yIy (by omega) h0_2 c12
      have d12 : Int32.toNatClampNeg v2_2 < rZ ρ 210 := yIx h0_2 b12
      refine y_blk 1 tq_X12_isTaken (z := (16, [(0, .ref (ad 200)), (1, .int cell), (2, .int v2_2)], [.ref (ad 200)])) rfl ?_
      refine y_get hS tq_X12_isTaken (v := .ref (ad 210)) rfl fg_X12_20_X12 hX.m rfl ?_
      refine y_blk 1 tq_X12_isTaken (z := (20, [(0, .ref (ad 200)), (1, .int cell), (2, .int v2_2)], [.int v2_2, .ref (ad 210)])) rfl ?_
      refine y_callF hS tq_X12_isTaken rfl (As := [.int v2_2]) rfl cf_X12_80 (Or.inl ⟨_, (hX.ls 210 (by decide)).1⟩) (m_Rla hS hX (by assumption) (by assumption)) rfl (by decide) (Nat.le_of_ble_eq_true rfl) (fun r20 Gc20 q20 => ?_) (fun _ _ h9 => h9.elim)
      obtain ⟨rfl, eG20⟩ := q20
      have eG20 := eG20.symm
      subst eG20
      have d20 : (Int32.toNatClampNeg v2_2) < rZ ρ 210 := yIx (by assumption) (by assumption)
      refine y_blk 0 tq_X12_isTaken (z := (25, [(0, .ref (ad 200)), (1, .int cell), (2, .int v2_2)], [.ref (ad (300 + (Int32.toNatClampNeg v2_2)))])) rfl ?_
      refine y_castA hS tq_X12_isTaken rfl kc_X12_116 (Or.inl ⟨_, (hX.la (by assumption))⟩) ?_
      refine y_blk 1 tq_X12_isTaken (z := (29, [(0, .ref (ad 200)), (1, .int cell), (2, .int v2_2)], [.int 0, .ref (ad (300 + (Int32.toNatClampNeg v2_2)))])) rfl ?_
      refine y_iald hS tq_X12_isTaken rfl (hX.la (by assumption)) (by first | exact yIn (by decide) (by decide) | exact yIn (by assumption) (by assumption) | (exact yIn (by omega) (by omega))) ?_
      refine y_blk 1 tq_X12_isTaken (z := (31, [(0, .ref (ad 200)), (1, .int cell), (2, .int v2_2)], [.int cell, .int ((rV ρ (300 + (Int32.toNatClampNeg v2_2))) (Int32.toNatClampNeg 0))])) rfl ?_
      refine y_icmp_ne tq_X12_isTaken 36 rfl rfl (fun c31 => ?_) (fun c31 => ?_)
      · skip
        refine y_blk 2 tq_X12_isTaken (z := (2, [(2, .int (v2_2 + 1)), (0, .ref (ad 200)), (1, .int cell)], [])) rfl ?_
        refine y_pick (L2 := [(0, .ref (ad 200)), (1, .int cell), (2, .int (v2_2 + 1))]) [1, 2, 0] rfl ?_
        exact ih2 _ (by exact ydec c12) (v2_2 + 1) (by first | decide | assumption | exact Int.le_refl _ | exact yposgeL (by assumption) c12) (by first | exact allS fA_2 h0_2 c12 c31 | exact all0) rfl
      · skip
        refine y_blk 1 tq_X12_isTaken (z := (35, [(0, .ref (ad 200)), (1, .int cell), (2, .int v2_2)], [.int 1])) rfl ?_
        exact y_zret tq_X12_isTaken rfl rfl (rfl) (⟨⟨_, (Or.inr rfl), by first | exact ⟨fun _ => ⟨fA_175, fB_175, fC_175, allN fD_175 (by have z1 := hX.2.2.1; have z2 := z1.2.2.2.2.2.1; omega) c185⟩, fun _ => rfl⟩ | exact ⟨fun h => absurd h (by decide), fun h => absurd c31 (h.1 _ (by assumption))⟩ | exact ⟨fun h => absurd h (by decide), fun h => absurd c74 (h.2.1 _ (by assumption))⟩ | exact ⟨fun h => absurd h (by decide), fun h => absurd c156 (h.2.2.1 _ (by assumption) _ (by assumption))⟩ | exact ⟨fun h => absurd h (by decide), fun h => absurd (hr_x211.2 h0_190 ▸ c215) (h.2.2.2 _ (by assumption) _ (by have zc := yclamp h0_190; omega))⟩, rfl⟩, rfl⟩)
  refine y_blk 2 tq_X12_isTaken (z := (2, [(2, .int 0), (0, .ref (ad 200)), (1, .int cell)], [])) rfl ?_
  refine y_pick (L2 := [(0, .ref (ad 200)), (1, .int cell), (2, .int 0)]) [1, 2, 0] rfl ?_
  exact J2 _ 0 (by first | decide | assumption | exact Int.le_refl _ | exact yposgeL (by assumption) c12) (by first | exact allS fA_2 h0_2 c12 c31 | exact all0) rfl
set_option maxHeartbeats 4000000 in
set_option maxRecDepth 100000 in
theorem m_X12_isEmpty {l : Launch} {S0 : State} {A0 : Array Value} {D : va_G} {aC : Nat → ClassId} {ic : Int32 → Nat} {de : Nat} {ad : Nat → Nat} {G : AH} {ρ : RS} (hS : yS l S0 A0 D aC) (hI : yIc S0 ic de) (hX : atR aC ic de ad G ρ) (post : Int32) (minute : Int32) (hp0 : 0 ≤ post.toInt) (hp1 : post.toInt < rZ ρ 213) : yM l S0 D yX12_isEmpty cX12_isEmpty 3 (some .boolean) 20 0 0 [.ref (ad 200), .int post, .int minute] G (fun r G1 => (∃ v : Int32, (v = 0 ∨ v = 1) ∧ r = some (.int v)) ∧ G1 = G) (fun _ _ => False) := by
  refine yM.ofK K_X12_isEmpty rfl (by decide) (Nat.le_of_ble_eq_true rfl) ?_
  have J29 : ∀ (w29_0 : Int32) (hb_w29_0 : w29_0 = 0 ∨ w29_0 = 1), Y l S0 D K_X12_isEmpty 20 0 0 (fun r G1 => (∃ v : Int32, (v = 0 ∨ v = 1) ∧ r = some (.int v)) ∧ G1 = G) (fun _ _ => False) 29 [(0, .ref (ad 200)), (1, .int post), (2, .int minute)] [.int w29_0] G 0 0 := by
    intro w29_0 hb_w29_0
    exact y_zret tq_X12_isEmpty rfl rfl (y01 hb_w29_0) (⟨⟨_, hb_w29_0, rfl⟩, rfl⟩)
  refine y_blk 2 tq_X12_isEmpty (z := (2, [(0, .ref (ad 200)), (1, .int post), (2, .int minute)], [.ref (ad 200), .ref (ad 200)])) rfl ?_
  refine y_get hS tq_X12_isEmpty (v := .ref (ad 213)) rfl fg_X12_30_X12 hX.m rfl ?_
  refine y_blk 1 tq_X12_isEmpty (z := (6, [(0, .ref (ad 200)), (1, .int post), (2, .int minute)], [.int post, .ref (ad 213), .ref (ad 200)])) rfl ?_
  refine y_callF hS tq_X12_isEmpty rfl (As := [.int post]) rfl cf_X12_80 (Or.inl ⟨_, (hX.ls 213 (by decide)).1⟩) (m_Rpo hS hX (by assumption) (by assumption)) rfl (by decide) (Nat.le_of_ble_eq_true rfl) (fun r6 Gc6 q6 => ?_) (fun _ _ h9 => h9.elim)
  obtain ⟨rfl, eG6⟩ := q6
  have eG6 := eG6.symm
  subst eG6
  have d6 : (Int32.toNatClampNeg post) < rZ ρ 213 := yIx (by assumption) (by assumption)
  refine y_blk 0 tq_X12_isEmpty (z := (11, [(0, .ref (ad 200)), (1, .int post), (2, .int minute)], [.ref (ic (rV ρ 213 (Int32.toNatClampNeg post))), .ref (ad 200)])) rfl ?_
  refine y_castI hS tq_X12_isEmpty rfl kc_X12_108 (hX.po hI (by assumption)) ?_
  refine y_blk 0 tq_X12_isEmpty (z := (14, [(0, .ref (ad 200)), (1, .int post), (2, .int minute)], [.ref (ic (rV ρ 213 (Int32.toNatClampNeg post))), .ref (ad 200)])) rfl ?_
  refine y_callVO hS tq_X12_isEmpty rfl (As := []) rfl cv_X12_146 (yIntO (hX.po hI (by assumption))) (m_JintValue hS (hX.po hI (by assumption))) rfl (by decide) (Nat.le_of_ble_eq_true rfl) (fun r14 Gc14 q14 => ?_) (fun _ _ h9 => h9.elim)
  obtain ⟨rfl, eG14⟩ := q14
  have eG14 := eG14.symm
  subst eG14
  refine y_blk 1 tq_X12_isEmpty (z := (18, [(0, .ref (ad 200)), (1, .int post), (2, .int minute)], [.int minute, .int (rV ρ 213 (Int32.toNatClampNeg post)), .ref (ad 200)])) rfl ?_
  refine y_callV hS tq_X12_isEmpty rfl (As := [.int (rV ρ 213 (Int32.toNatClampNeg post)), .int minute]) rfl cv_X12_189 hX.m (m_X12_onCell hS hI hX (rV ρ 213 (Int32.toNatClampNeg post)) minute) rfl (by decide) (Nat.le_of_ble_eq_true rfl) (fun r18 Gc18 q18 => ?_) (fun E9 G9 h9 => h9.elim)
  obtain ⟨⟨x18, rfl⟩, eG18⟩ := q18
  have eG18 := eG18.symm
  subst eG18
  refine y_blk 0 tq_X12_isEmpty (z := (21, [(0, .ref (ad 200)), (1, .int post), (2, .int minute)], [.int x18])) rfl ?_
  refine y_if_ne tq_X12_isEmpty 28 rfl rfl (fun c21 => ?_) (fun c21 => ?_)
  · skip
    refine y_blk 1 tq_X12_isEmpty (z := (29, [(0, .ref (ad 200)), (1, .int post), (2, .int minute)], [.int 0])) rfl ?_
    exact J29 0 (Or.inl rfl)
  · skip
    refine y_blk 2 tq_X12_isEmpty (z := (29, [(0, .ref (ad 200)), (1, .int post), (2, .int minute)], [.int 1])) rfl ?_
    exact J29 1 (Or.inr rfl)
set_option maxHeartbeats 4000000 in
set_option maxRecDepth 100000 in
theorem m_X12_cellNow {l : Launch} {S0 : State} {A0 : Array Value} {D : va_G} {aC : Nat → ClassId} {ic : Int32 → Nat} {de : Nat} {ad : Nat → Nat} {G : AH} {ρ : RS} (hS : yS l S0 A0 D aC) (hI : yIc S0 ic de) (hX : atR aC ic de ad G ρ) (cell : Int32) (minute : Int32) (what : Int32) (hcell : rcell ρ cell) : yM l S0 D yX12_cellNow cX12_cellNow 4 (some .int) 21 0 0 [.ref (ad 200), .int cell, .int minute, .int what] G (fun r G1 => (∃ v : Int32, r = some (.int v)) ∧ G1 = G) (fun _ _ => False) := by
  refine yM.ofK K_X12_cellNow rfl (by decide) (Nat.le_of_ble_eq_true rfl) ?_
  have hc0 := hcell.1
  have hc1 := hcell.2
  have J81 : ∀ (w81_0 : Int32) (hb_w81_0 : w81_0 = 0 ∨ w81_0 = 1), Y l S0 D K_X12_cellNow 21 0 0 (fun r G1 => (∃ v : Int32, r = some (.int v)) ∧ G1 = G) (fun _ _ => False) 81 [(0, .ref (ad 200)), (1, .int cell), (2, .int minute), (3, .int what)] [.int w81_0] G 0 0 := by
    intro w81_0 hb_w81_0
    exact y_iret tq_X12_cellNow rfl rfl (⟨⟨_, rfl⟩, rfl⟩)
  have J52 : ∀ (w52_0 : Int32) (hb_w52_0 : w52_0 = 0 ∨ w52_0 = 1), Y l S0 D K_X12_cellNow 21 0 0 (fun r G1 => (∃ v : Int32, r = some (.int v)) ∧ G1 = G) (fun _ _ => False) 52 [(0, .ref (ad 200)), (1, .int cell), (2, .int minute), (3, .int what)] [.int w52_0] G 0 0 := by
    intro w52_0 hb_w52_0
    exact y_iret tq_X12_cellNow rfl rfl (⟨⟨_, rfl⟩, rfl⟩)
  refine y_blk 1 tq_X12_cellNow (z := (1, [(0, .ref (ad 200)), (1, .int cell), (2, .int minute), (3, .int what)], [.int what])) rfl ?_
  by_cases s1_0 : what = 0
  · refine y_swIn tq_X12_cellNow 32 rfl (by rw [s1_0]; decide) (by rw [s1_0]; decide) (by rw [s1_0]; rfl) rfl ?_
    refine y_blk 1 tq_X12_cellNow (z := (33, [(0, .ref (ad 200)), (1, .int cell), (2, .int minute), (3, .int what)], [.ref (ad 200)])) rfl ?_
    refine y_get hS tq_X12_cellNow (v := .ref (ad 201)) rfl fg_X12_7_X12 hX.m rfl ?_
    refine y_blk 1 tq_X12_cellNow (z := (37, [(0, .ref (ad 200)), (1, .int cell), (2, .int minute), (3, .int what)], [.int cell, .ref (ad 201)])) rfl ?_
    refine y_iald hS tq_X12_cellNow rfl hX.ki (by first | exact yIn (by decide) (by decide) | exact yIn (by assumption) (by assumption) | (exact yIn (by omega) (by omega))) ?_
    refine y_blk 0 tq_X12_cellNow (z := (38, [(0, .ref (ad 200)), (1, .int cell), (2, .int minute), (3, .int what)], [.int ((rV ρ 201) (Int32.toNatClampNeg cell))])) rfl ?_
    exact y_iret tq_X12_cellNow rfl rfl (⟨⟨_, rfl⟩, rfl⟩)
  by_cases s1_1 : what = 1
  · refine y_swIn tq_X12_cellNow 39 rfl (by rw [s1_1]; decide) (by rw [s1_1]; decide) (by rw [s1_1]; rfl) rfl ?_
    refine y_blk 2 tq_X12_cellNow (z := (41, [(0, .ref (ad 200)), (1, .int cell), (2, .int minute), (3, .int what)], [.int cell, .ref (ad 200)])) rfl ?_
    refine y_callV hS tq_X12_cellNow rfl (As := [.int cell]) rfl cv_X12_120 hX.m (m_X12_isBright hS hI hX cell (by first | (with_reducible assumption) | (with_reducible exact hX.lac (by assumption)) | (with_reducible exact hX.poc (by assumption)) | (with_reducible exact hX.wac (by assumption) (by assumption) (by omega)) | assumption | exact hX.lac (by assumption) | exact hX.poc (by assumption) | exact hX.wac (by assumption) (by assumption) (by omega))) rfl (by decide) (Nat.le_of_ble_eq_true rfl) (fun r41 Gc41 q41 => ?_) (fun E9 G9 h9 => h9.elim)
    obtain ⟨⟨x41, hb_x41, rfl⟩, eG41⟩ := q41
    have eG41 := eG41.symm
    subst eG41
    refine y_blk 0 tq_X12_cellNow (z := (44, [(0, .ref (ad 200)), (1, .int cell), (2, .int minute), (3, .int what)], [.int x41])) rfl ?_
    refine y_if_eq tq_X12_cellNow 51 rfl rfl (fun c44 => ?_) (fun c44 => ?_)
    · skip
      refine y_blk 1 tq_X12_cellNow (z := (52, [(0, .ref (ad 200)), (1, .int cell), (2, .int minute), (3, .int what)], [.int 0])) rfl ?_
      exact J52 0 (Or.inl rfl)
    · skip
      refine y_blk 2 tq_X12_cellNow (z := (52, [(0, .ref (ad 200)), (1, .int cell), (2, .int minute), (3, .int what)], [.int 1])) rfl ?_
      exact J52 1 (Or.inr rfl)
  by_cases s1_2 : what = 2
  · refine y_swIn tq_X12_cellNow 53 rfl (by rw [s1_2]; decide) (by rw [s1_2]; decide) (by rw [s1_2]; rfl) rfl ?_
    refine y_blk 3 tq_X12_cellNow (z := (56, [(0, .ref (ad 200)), (1, .int cell), (2, .int minute), (3, .int what)], [.int minute, .int cell, .ref (ad 200)])) rfl ?_
    refine y_callV hS tq_X12_cellNow rfl (As := [.int cell, .int minute]) rfl cv_X12_186 hX.m (m_X12_seers hS hI hX cell minute (by first | (with_reducible assumption) | (with_reducible exact hX.lac (by assumption)) | (with_reducible exact hX.poc (by assumption)) | (with_reducible exact hX.wac (by assumption) (by assumption) (by omega)) | assumption | exact hX.lac (by assumption) | exact hX.poc (by assumption) | exact hX.wac (by assumption) (by assumption) (by omega))) rfl (by decide) (Nat.le_of_ble_eq_true rfl) (fun r56 Gc56 q56 => ?_) (fun E9 G9 h9 => h9.elim)
    obtain ⟨⟨x56, rfl⟩, eG56⟩ := q56
    have eG56 := eG56.symm
    subst eG56
    refine y_blk 0 tq_X12_cellNow (z := (59, [(0, .ref (ad 200)), (1, .int cell), (2, .int minute), (3, .int what)], [.int x56])) rfl ?_
    exact y_iret tq_X12_cellNow rfl rfl (⟨⟨_, rfl⟩, rfl⟩)
  by_cases s1_3 : what = 3
  · refine y_swIn tq_X12_cellNow 60 rfl (by rw [s1_3]; decide) (by rw [s1_3]; decide) (by rw [s1_3]; rfl) rfl ?_
    refine y_blk 3 tq_X12_cellNow (z := (63, [(0, .ref (ad 200)), (1, .int cell), (2, .int minute), (3, .int what)], [.int minute, .int cell, .ref (ad 200)])) rfl ?_
    refine y_callV hS tq_X12_cellNow rfl (As := [.int cell, .int minute]) rfl cv_X12_189 hX.m (m_X12_onCell hS hI hX cell minute) rfl (by decide) (Nat.le_of_ble_eq_true rfl) (fun r63 Gc63 q63 => ?_) (fun E9 G9 h9 => h9.elim)
    obtain ⟨⟨x63, rfl⟩, eG63⟩ := q63
    have eG63 := eG63.symm
    subst eG63
    refine y_blk 0 tq_X12_cellNow (z := (66, [(0, .ref (ad 200)), (1, .int cell), (2, .int minute), (3, .int what)], [.int x63])) rfl ?_
    exact y_iret tq_X12_cellNow rfl rfl (⟨⟨_, rfl⟩, rfl⟩)
  refine y_swOut tq_X12_cellNow 67 rfl (by have z0 : what.toInt ≠ 0 := fun q => s1_0 (Int32.toInt_inj.mp (q.trans (by decide))); have z1 : what.toInt ≠ 1 := fun q => s1_1 (Int32.toInt_inj.mp (q.trans (by decide))); have z2 : what.toInt ≠ 2 := fun q => s1_2 (Int32.toInt_inj.mp (q.trans (by decide))); have z3 : what.toInt ≠ 3 := fun q => s1_3 (Int32.toInt_inj.mp (q.trans (by decide))); omega) rfl ?_
  refine y_blk 3 tq_X12_cellNow (z := (70, [(0, .ref (ad 200)), (1, .int cell), (2, .int minute), (3, .int what)], [.int minute, .int cell, .ref (ad 200)])) rfl ?_
  refine y_callV hS tq_X12_cellNow rfl (As := [.int cell, .int minute]) rfl cv_X12_192 hX.m (m_X12_isWalked hS hI hX cell minute (by first | (with_reducible assumption) | (with_reducible exact hX.lac (by assumption)) | (with_reducible exact hX.poc (by assumption)) | (with_reducible exact hX.wac (by assumption) (by assumption) (by omega)) | assumption | exact hX.lac (by assumption) | exact hX.poc (by assumption) | exact hX.wac (by assumption) (by assumption) (by omega))) rfl (by decide) (Nat.le_of_ble_eq_true rfl) (fun r70 Gc70 q70 => ?_) (fun E9 G9 h9 => h9.elim)
  obtain ⟨⟨x70, hb_x70, rfl⟩, eG70⟩ := q70
  have eG70 := eG70.symm
  subst eG70
  refine y_blk 0 tq_X12_cellNow (z := (73, [(0, .ref (ad 200)), (1, .int cell), (2, .int minute), (3, .int what)], [.int x70])) rfl ?_
  refine y_if_eq tq_X12_cellNow 80 rfl rfl (fun c73 => ?_) (fun c73 => ?_)
  · skip
    refine y_blk 1 tq_X12_cellNow (z := (81, [(0, .ref (ad 200)), (1, .int cell), (2, .int minute), (3, .int what)], [.int 0])) rfl ?_
    exact J81 0 (Or.inl rfl)
  · skip
    refine y_blk 2 tq_X12_cellNow (z := (81, [(0, .ref (ad 200)), (1, .int cell), (2, .int minute), (3, .int what)], [.int 1])) rfl ?_
    exact J81 1 (Or.inr rfl)
set_option maxHeartbeats 4000000 in
set_option maxRecDepth 100000 in
theorem m_X12_minuteNow {l : Launch} {S0 : State} {A0 : Array Value} {D : va_G} {aC : Nat → ClassId} {ic : Int32 → Nat} {de : Nat} {ad : Nat → Nat} {G : AH} {ρ : RS} (hS : yS l S0 A0 D aC) (hI : yIc S0 ic de) (hX : atR aC ic de ad G ρ) (minute : Int32) (what : Int32) : yM l S0 D yX12_minuteNow cX12_minuteNow 8 (some .int) 21 0 0 [.ref (ad 200), .int minute, .int what] G (fun r G1 => (∃ v : Int32, r = some (.int v)) ∧ G1 = G) (fun _ _ => False) := by
  refine yM.ofK K_X12_minuteNow rfl (by decide) (Nat.le_of_ble_eq_true rfl) ?_
  have J266 : ∀ (n266 : Nat) (v266_3 : Int32) (v266_6 : Int32) (h0_266 : 0 ≤ v266_6.toInt), (((Int32.ofNat 6) : Int32).toInt - v266_6.toInt).toNat = n266 → Y l S0 D K_X12_minuteNow 21 0 0 (fun r G1 => (∃ v : Int32, r = some (.int v)) ∧ G1 = G) (fun _ _ => False) 266 [(0, .ref (ad 200)), (1, .int minute), (2, .int what), (3, .int v266_3), (4, .ref (ad 203)), (5, .int (Int32.ofNat 6)), (6, .int v266_6)] [] G 0 0 := by
    intro n266
    induction n266 using Nat.strongRecOn with
    | _ n266 ih266 =>
    intro v266_3 v266_6 h0_266 hn266
    subst hn266
    have J313 : ∀ (v313_7 : Int32) (w313_0 : Int32) (hb_w313_0 : w313_0 = 0 ∨ w313_0 = 1) (c270 : ¬ ((Int32.ofNat 6) : Int32) ≤ v266_6), Y l S0 D K_X12_minuteNow 21 0 0 (fun r G1 => (∃ v : Int32, r = some (.int v)) ∧ G1 = G) (fun _ _ => False) 313 [(0, .ref (ad 200)), (1, .int minute), (2, .int what), (3, .int v266_3), (4, .ref (ad 203)), (5, .int (Int32.ofNat 6)), (6, .int v266_6), (7, .int v313_7)] [.int w313_0, .int v266_3] G 0 0 := by
      intro v313_7 w313_0 hb_w313_0 c270
      refine y_blk 4 tq_X12_minuteNow (z := (266, [(6, .int (v266_6 + 1)), (3, .int (v266_3 + w313_0)), (0, .ref (ad 200)), (1, .int minute), (2, .int what), (4, .ref (ad 203)), (5, .int (Int32.ofNat 6)), (7, .int v313_7)], [])) rfl ?_
      refine y_pick (L2 := [(0, .ref (ad 200)), (1, .int minute), (2, .int what), (3, .int (v266_3 + w313_0)), (4, .ref (ad 203)), (5, .int (Int32.ofNat 6)), (6, .int (v266_6 + 1))]) [2, 3, 4, 1, 5, 6, 0] rfl ?_
      exact ih266 _ (by exact ydec c270) (v266_3 + w313_0) (v266_6 + 1) (by first | decide | assumption | exact Int.le_refl _ | exact yposgeL (by assumption) c270) rfl
    have J312 : ∀ (v312_7 : Int32) (c270 : ¬ ((Int32.ofNat 6) : Int32) ≤ v266_6), Y l S0 D K_X12_minuteNow 21 0 0 (fun r G1 => (∃ v : Int32, r = some (.int v)) ∧ G1 = G) (fun _ _ => False) 312 [(0, .ref (ad 200)), (1, .int minute), (2, .int what), (3, .int v266_3), (4, .ref (ad 203)), (5, .int (Int32.ofNat 6)), (6, .int v266_6), (7, .int v312_7)] [.int v266_3] G 0 0 := by
      intro v312_7 c270
      refine y_blk 1 tq_X12_minuteNow (z := (313, [(0, .ref (ad 200)), (1, .int minute), (2, .int what), (3, .int v266_3), (4, .ref (ad 203)), (5, .int (Int32.ofNat 6)), (6, .int v266_6), (7, .int v312_7)], [.int 0, .int v266_3])) rfl ?_
      exact J313 v312_7 0 (Or.inl rfl) (by exact c270)
    refine y_blk 2 tq_X12_minuteNow (z := (270, [(0, .ref (ad 200)), (1, .int minute), (2, .int what), (3, .int v266_3), (4, .ref (ad 203)), (5, .int (Int32.ofNat 6)), (6, .int v266_6)], [.int (Int32.ofNat 6), .int v266_6])) rfl ?_
    refine y_icmp_ge tq_X12_minuteNow 321 rfl rfl (fun c270 => ?_) (fun c270 => ?_)
    · skip
      refine y_blk 1 tq_X12_minuteNow (z := (322, [(0, .ref (ad 200)), (1, .int minute), (2, .int what), (3, .int v266_3), (4, .ref (ad 203)), (5, .int (Int32.ofNat 6)), (6, .int v266_6)], [.int v266_3])) rfl ?_
      exact y_iret tq_X12_minuteNow rfl rfl (⟨⟨_, rfl⟩, rfl⟩)
    · skip
      have b270 : v266_6.toInt < ((6 : Nat) : Int) := yIy (by decide) h0_266 c270
      have d270 : Int32.toNatClampNeg v266_6 < 6 := yIx h0_266 b270
      refine y_blk 2 tq_X12_minuteNow (z := (277, [(0, .ref (ad 200)), (1, .int minute), (2, .int what), (3, .int v266_3), (4, .ref (ad 203)), (5, .int (Int32.ofNat 6)), (6, .int v266_6)], [.int v266_6, .ref (ad 203)])) rfl ?_
      refine y_iald hS tq_X12_minuteNow rfl hX.ke (by first | exact yIn (by decide) (by decide) | exact yIn (by assumption) (by assumption) | (exact yIn (by omega) (by omega))) ?_
      refine y_blk 4 tq_X12_minuteNow (z := (284, [(7, .int ((rV ρ 203) (Int32.toNatClampNeg v266_6))), (0, .ref (ad 200)), (1, .int minute), (2, .int what), (3, .int v266_3), (4, .ref (ad 203)), (5, .int (Int32.ofNat 6)), (6, .int v266_6)], [.int (-1), .int ((rV ρ 203) (Int32.toNatClampNeg v266_6)), .int v266_3])) rfl ?_
      refine y_icmp_eq tq_X12_minuteNow 312 rfl rfl (fun c284 => ?_) (fun c284 => ?_)
      · skip
        refine y_blk 0 tq_X12_minuteNow (z := (312, [(7, .int ((rV ρ 203) (Int32.toNatClampNeg v266_6))), (0, .ref (ad 200)), (1, .int minute), (2, .int what), (3, .int v266_3), (4, .ref (ad 203)), (5, .int (Int32.ofNat 6)), (6, .int v266_6)], [.int v266_3])) rfl ?_
        refine y_pick (L2 := [(0, .ref (ad 200)), (1, .int minute), (2, .int what), (3, .int v266_3), (4, .ref (ad 203)), (5, .int (Int32.ofNat 6)), (6, .int v266_6), (7, .int ((rV ρ 203) (Int32.toNatClampNeg v266_6)))]) [1, 2, 3, 4, 5, 6, 7, 0] rfl ?_
        exact J312 ((rV ρ 203) (Int32.toNatClampNeg v266_6)) (by exact c270)
      · skip
        obtain ⟨hk0, hk1⟩ := (hX.2.2.2.2.2.1 _ d270).resolve_left c284
        refine y_blk 1 tq_X12_minuteNow (z := (288, [(7, .int ((rV ρ 203) (Int32.toNatClampNeg v266_6))), (0, .ref (ad 200)), (1, .int minute), (2, .int what), (3, .int v266_3), (4, .ref (ad 203)), (5, .int (Int32.ofNat 6)), (6, .int v266_6)], [.ref (ad 200), .int v266_3])) rfl ?_
        refine y_get hS tq_X12_minuteNow (v := .ref (ad 212)) rfl fg_X12_27_X12 hX.m rfl ?_
        refine y_blk 1 tq_X12_minuteNow (z := (293, [(7, .int ((rV ρ 203) (Int32.toNatClampNeg v266_6))), (0, .ref (ad 200)), (1, .int minute), (2, .int what), (3, .int v266_3), (4, .ref (ad 203)), (5, .int (Int32.ofNat 6)), (6, .int v266_6)], [.int ((rV ρ 203) (Int32.toNatClampNeg v266_6)), .ref (ad 212), .int v266_3])) rfl ?_
        refine y_callF hS tq_X12_minuteNow rfl (As := [.int ((rV ρ 203) (Int32.toNatClampNeg v266_6))]) rfl cf_X12_80 (Or.inl ⟨_, (hX.ls 212 (by decide)).1⟩) (m_Rgu hS hX (by assumption) (by assumption)) rfl (by decide) (Nat.le_of_ble_eq_true rfl) (fun r293 Gc293 q293 => ?_) (fun _ _ h9 => h9.elim)
        obtain ⟨rfl, eG293⟩ := q293
        have eG293 := eG293.symm
        subst eG293
        have d293 : (Int32.toNatClampNeg ((rV ρ 203) (Int32.toNatClampNeg v266_6))) < rZ ρ 212 := yIx (by assumption) (by assumption)
        refine y_blk 0 tq_X12_minuteNow (z := (298, [(7, .int ((rV ρ 203) (Int32.toNatClampNeg v266_6))), (0, .ref (ad 200)), (1, .int minute), (2, .int what), (3, .int v266_3), (4, .ref (ad 203)), (5, .int (Int32.ofNat 6)), (6, .int v266_6)], [.ref (ad (360 + (Int32.toNatClampNeg ((rV ρ 203) (Int32.toNatClampNeg v266_6))))), .int v266_3])) rfl ?_
        refine y_castG hS tq_X12_minuteNow rfl kc_X12_84 (Or.inl ⟨_, (hX.gu (by assumption))⟩) ?_
        refine y_blk 1 tq_X12_minuteNow (z := (302, [(7, .int ((rV ρ 203) (Int32.toNatClampNeg v266_6))), (0, .ref (ad 200)), (1, .int minute), (2, .int what), (3, .int v266_3), (4, .ref (ad 203)), (5, .int (Int32.ofNat 6)), (6, .int v266_6)], [.int minute, .ref (ad (360 + (Int32.toNatClampNeg ((rV ρ 203) (Int32.toNatClampNeg v266_6))))), .int v266_3])) rfl ?_
        refine y_callV hS tq_X12_minuteNow rfl (As := [.int minute]) rfl cv_X12_199 (hX.gu (by assumption)) (m_X10_isOnDuty hS hI hX (k := (Int32.toNatClampNeg ((rV ρ 203) (Int32.toNatClampNeg v266_6)))) (by assumption) minute) rfl (by decide) (Nat.le_of_ble_eq_true rfl) (fun r302 Gc302 q302 => ?_) (fun E9 G9 h9 => h9.elim)
        obtain ⟨rfl, eG302⟩ := q302
        have eG302 := eG302.symm
        subst eG302
        refine y_blk 0 tq_X12_minuteNow (z := (305, [(7, .int ((rV ρ 203) (Int32.toNatClampNeg v266_6))), (0, .ref (ad 200)), (1, .int minute), (2, .int what), (3, .int v266_3), (4, .ref (ad 203)), (5, .int (Int32.ofNat 6)), (6, .int v266_6)], [.int (if (rF ρ (360 + (Int32.toNatClampNeg ((rV ρ 203) (Int32.toNatClampNeg v266_6)))) 0) ≤ minute ∧ minute ≤ (rF ρ (360 + (Int32.toNatClampNeg ((rV ρ 203) (Int32.toNatClampNeg v266_6)))) 1) then 1 else 0), .int v266_3])) rfl ?_
        refine y_if_ne tq_X12_minuteNow 312 rfl rfl (fun c305 => ?_) (fun c305 => ?_)
        · skip
          refine y_blk 0 tq_X12_minuteNow (z := (312, [(7, .int ((rV ρ 203) (Int32.toNatClampNeg v266_6))), (0, .ref (ad 200)), (1, .int minute), (2, .int what), (3, .int v266_3), (4, .ref (ad 203)), (5, .int (Int32.ofNat 6)), (6, .int v266_6)], [.int v266_3])) rfl ?_
          refine y_pick (L2 := [(0, .ref (ad 200)), (1, .int minute), (2, .int what), (3, .int v266_3), (4, .ref (ad 203)), (5, .int (Int32.ofNat 6)), (6, .int v266_6), (7, .int ((rV ρ 203) (Int32.toNatClampNeg v266_6)))]) [1, 2, 3, 4, 5, 6, 7, 0] rfl ?_
          exact J312 ((rV ρ 203) (Int32.toNatClampNeg v266_6)) (by exact c270)
        · skip
          refine y_blk 2 tq_X12_minuteNow (z := (313, [(7, .int ((rV ρ 203) (Int32.toNatClampNeg v266_6))), (0, .ref (ad 200)), (1, .int minute), (2, .int what), (3, .int v266_3), (4, .ref (ad 203)), (5, .int (Int32.ofNat 6)), (6, .int v266_6)], [.int 1, .int v266_3])) rfl ?_
          refine y_pick (L2 := [(0, .ref (ad 200)), (1, .int minute), (2, .int what), (3, .int v266_3), (4, .ref (ad 203)), (5, .int (Int32.ofNat 6)), (6, .int v266_6), (7, .int ((rV ρ 203) (Int32.toNatClampNeg v266_6)))]) [1, 2, 3, 4, 5, 6, 7, 0] rfl ?_
          exact J313 ((rV ρ 203) (Int32.toNatClampNeg v266_6)) 1 (Or.inr rfl) (by exact c270)
  have J49 : ∀ (n49 : Nat) (v49_3 : Int32) (v49_4 : Int32) (h0_49 : 0 ≤ v49_4.toInt), (((Int32.ofNat (rZ ρ 201)) : Int32).toInt - v49_4.toInt).toNat = n49 → Y l S0 D K_X12_minuteNow 21 0 0 (fun r G1 => (∃ v : Int32, r = some (.int v)) ∧ G1 = G) (fun _ _ => False) 49 [(0, .ref (ad 200)), (1, .int minute), (2, .int what), (3, .int v49_3), (4, .int v49_4)] [] G 0 0 := by
    intro n49
    induction n49 using Nat.strongRecOn with
    | _ n49 ih49 =>
    intro v49_3 v49_4 h0_49 hn49
    subst hn49
    have J86 : ∀ (w86_0 : Int32) (hb_w86_0 : w86_0 = 0 ∨ w86_0 = 1) (c56 : ¬ ((Int32.ofNat (rZ ρ 201)) : Int32) ≤ v49_4), Y l S0 D K_X12_minuteNow 21 0 0 (fun r G1 => (∃ v : Int32, r = some (.int v)) ∧ G1 = G) (fun _ _ => False) 86 [(0, .ref (ad 200)), (1, .int minute), (2, .int what), (3, .int v49_3), (4, .int v49_4)] [.int w86_0, .int v49_3] G 0 0 := by
      intro w86_0 hb_w86_0 c56
      have hn56 := hX.2.n64
      have b56 : v49_4.toInt < rZ ρ 201 := yIy (by omega) h0_49 c56
      have d56 : Int32.toNatClampNeg v49_4 < rZ ρ 201 := yIx h0_49 b56
      have e56 : rcell ρ v49_4 := ⟨h0_49, b56⟩
      refine y_blk 4 tq_X12_minuteNow (z := (49, [(4, .int (v49_4 + 1)), (3, .int (v49_3 + w86_0)), (0, .ref (ad 200)), (1, .int minute), (2, .int what)], [])) rfl ?_
      refine y_pick (L2 := [(0, .ref (ad 200)), (1, .int minute), (2, .int what), (3, .int (v49_3 + w86_0)), (4, .int (v49_4 + 1))]) [2, 3, 4, 1, 0] rfl ?_
      exact ih49 _ (by exact ydec c56) (v49_3 + w86_0) (v49_4 + 1) (by first | decide | assumption | exact Int.le_refl _ | exact yposgeL (by assumption) c56) rfl
    have J85 : ∀ (c56 : ¬ ((Int32.ofNat (rZ ρ 201)) : Int32) ≤ v49_4), Y l S0 D K_X12_minuteNow 21 0 0 (fun r G1 => (∃ v : Int32, r = some (.int v)) ∧ G1 = G) (fun _ _ => False) 85 [(0, .ref (ad 200)), (1, .int minute), (2, .int what), (3, .int v49_3), (4, .int v49_4)] [.int v49_3] G 0 0 := by
      intro c56
      have hn56 := hX.2.n64
      have b56 : v49_4.toInt < rZ ρ 201 := yIy (by omega) h0_49 c56
      have d56 : Int32.toNatClampNeg v49_4 < rZ ρ 201 := yIx h0_49 b56
      have e56 : rcell ρ v49_4 := ⟨h0_49, b56⟩
      refine y_blk 1 tq_X12_minuteNow (z := (86, [(0, .ref (ad 200)), (1, .int minute), (2, .int what), (3, .int v49_3), (4, .int v49_4)], [.int 0, .int v49_3])) rfl ?_
      exact J86 0 (Or.inl rfl) (by exact c56)
    refine y_blk 2 tq_X12_minuteNow (z := (52, [(0, .ref (ad 200)), (1, .int minute), (2, .int what), (3, .int v49_3), (4, .int v49_4)], [.ref (ad 200), .int v49_4])) rfl ?_
    refine y_get hS tq_X12_minuteNow (v := .ref (ad 201)) rfl fg_X12_7_X12 hX.m rfl ?_
    refine y_blk 0 tq_X12_minuteNow (z := (55, [(0, .ref (ad 200)), (1, .int minute), (2, .int what), (3, .int v49_3), (4, .int v49_4)], [.ref (ad 201), .int v49_4])) rfl ?_
    refine y_alen hS tq_X12_minuteNow 0 rfl rfl hX.ki ?_
    refine y_blk 0 tq_X12_minuteNow (z := (56, [(0, .ref (ad 200)), (1, .int minute), (2, .int what), (3, .int v49_3), (4, .int v49_4)], [.int (Int32.ofNat (rZ ρ 201)), .int v49_4])) rfl ?_
    refine y_icmp_ge tq_X12_minuteNow 94 rfl rfl (fun c56 => ?_) (fun c56 => ?_)
    · skip
      refine y_blk 1 tq_X12_minuteNow (z := (95, [(0, .ref (ad 200)), (1, .int minute), (2, .int what), (3, .int v49_3), (4, .int v49_4)], [.int v49_3])) rfl ?_
      exact y_iret tq_X12_minuteNow rfl rfl (⟨⟨_, rfl⟩, rfl⟩)
    · skip
      have hn56 := hX.2.n64
      have b56 : v49_4.toInt < rZ ρ 201 := yIy (by omega) h0_49 c56
      have d56 : Int32.toNatClampNeg v49_4 < rZ ρ 201 := yIx h0_49 b56
      have e56 : rcell ρ v49_4 := ⟨h0_49, b56⟩
      refine y_blk 2 tq_X12_minuteNow (z := (61, [(0, .ref (ad 200)), (1, .int minute), (2, .int what), (3, .int v49_3), (4, .int v49_4)], [.ref (ad 200), .int v49_3])) rfl ?_
      refine y_get hS tq_X12_minuteNow (v := .ref (ad 201)) rfl fg_X12_7_X12 hX.m rfl ?_
      refine y_blk 1 tq_X12_minuteNow (z := (66, [(0, .ref (ad 200)), (1, .int minute), (2, .int what), (3, .int v49_3), (4, .int v49_4)], [.int v49_4, .ref (ad 201), .int v49_3])) rfl ?_
      refine y_iald hS tq_X12_minuteNow rfl hX.ki (by first | exact yIn (by decide) (by decide) | exact yIn (by assumption) (by assumption) | (exact yIn (by omega) (by omega))) ?_
      refine y_blk 1 tq_X12_minuteNow (z := (68, [(0, .ref (ad 200)), (1, .int minute), (2, .int what), (3, .int v49_3), (4, .int v49_4)], [.int 1, .int ((rV ρ 201) (Int32.toNatClampNeg v49_4)), .int v49_3])) rfl ?_
      refine y_icmp_eq tq_X12_minuteNow 85 rfl rfl (fun c68 => ?_) (fun c68 => ?_)
      · skip
        refine y_blk 0 tq_X12_minuteNow (z := (85, [(0, .ref (ad 200)), (1, .int minute), (2, .int what), (3, .int v49_3), (4, .int v49_4)], [.int v49_3])) rfl ?_
        exact J85 (by exact c56)
      · skip
        refine y_blk 3 tq_X12_minuteNow (z := (75, [(0, .ref (ad 200)), (1, .int minute), (2, .int what), (3, .int v49_3), (4, .int v49_4)], [.int minute, .int v49_4, .ref (ad 200), .int v49_3])) rfl ?_
        refine y_callV hS tq_X12_minuteNow rfl (As := [.int v49_4, .int minute]) rfl cv_X12_183 hX.m (m_X12_isWatched hS hI hX v49_4 minute (by first | (with_reducible assumption) | (with_reducible exact hX.lac (by assumption)) | (with_reducible exact hX.poc (by assumption)) | (with_reducible exact hX.wac (by assumption) (by assumption) (by omega)) | assumption | exact hX.lac (by assumption) | exact hX.poc (by assumption) | exact hX.wac (by assumption) (by assumption) (by omega))) rfl (by decide) (Nat.le_of_ble_eq_true rfl) (fun r75 Gc75 q75 => ?_) (fun E9 G9 h9 => h9.elim)
        obtain ⟨⟨x75, hb_x75, rfl⟩, eG75⟩ := q75
        have eG75 := eG75.symm
        subst eG75
        refine y_blk 0 tq_X12_minuteNow (z := (78, [(0, .ref (ad 200)), (1, .int minute), (2, .int what), (3, .int v49_3), (4, .int v49_4)], [.int x75, .int v49_3])) rfl ?_
        refine y_if_ne tq_X12_minuteNow 85 rfl rfl (fun c78 => ?_) (fun c78 => ?_)
        · skip
          refine y_blk 0 tq_X12_minuteNow (z := (85, [(0, .ref (ad 200)), (1, .int minute), (2, .int what), (3, .int v49_3), (4, .int v49_4)], [.int v49_3])) rfl ?_
          exact J85 (by exact c56)
        · skip
          refine y_blk 2 tq_X12_minuteNow (z := (86, [(0, .ref (ad 200)), (1, .int minute), (2, .int what), (3, .int v49_3), (4, .int v49_4)], [.int 1, .int v49_3])) rfl ?_
          exact J86 1 (Or.inr rfl) (by exact c56)
  have J99 : ∀ (n99 : Nat) (v99_3 : Int32) (v99_4 : Int32) (h0_99 : 0 ≤ v99_4.toInt), (((Int32.ofNat (rZ ρ 212)) : Int32).toInt - v99_4.toInt).toNat = n99 → Y l S0 D K_X12_minuteNow 21 0 0 (fun r G1 => (∃ v : Int32, r = some (.int v)) ∧ G1 = G) (fun _ _ => False) 99 [(0, .ref (ad 200)), (1, .int minute), (2, .int what), (3, .int v99_3), (4, .int v99_4)] [] G 0 0 := by
    intro n99
    induction n99 using Nat.strongRecOn with
    | _ n99 ih99 =>
    intro v99_3 v99_4 h0_99 hn99
    subst hn99
    have J140 : ∀ (w140_0 : Int32) (hb_w140_0 : w140_0 = 0 ∨ w140_0 = 1) (c110 : ¬ ((Int32.ofNat (rZ ρ 212)) : Int32) ≤ v99_4), Y l S0 D K_X12_minuteNow 21 0 0 (fun r G1 => (∃ v : Int32, r = some (.int v)) ∧ G1 = G) (fun _ _ => False) 140 [(0, .ref (ad 200)), (1, .int minute), (2, .int what), (3, .int v99_3), (4, .int v99_4)] [.int w140_0, .int v99_3] G 0 0 := by
      intro w140_0 hb_w140_0 c110
      have hn110 := hX.2.le10 212 (by decide)
      have b110 : v99_4.toInt < rZ ρ 212 := yIy (by omega) h0_99 c110
      have d110 : Int32.toNatClampNeg v99_4 < rZ ρ 212 := yIx h0_99 b110
      refine y_blk 4 tq_X12_minuteNow (z := (99, [(4, .int (v99_4 + 1)), (3, .int (v99_3 + w140_0)), (0, .ref (ad 200)), (1, .int minute), (2, .int what)], [])) rfl ?_
      refine y_pick (L2 := [(0, .ref (ad 200)), (1, .int minute), (2, .int what), (3, .int (v99_3 + w140_0)), (4, .int (v99_4 + 1))]) [2, 3, 4, 1, 0] rfl ?_
      exact ih99 _ (by exact ydec c110) (v99_3 + w140_0) (v99_4 + 1) (by first | decide | assumption | exact Int.le_refl _ | exact yposgeL (by assumption) c110) rfl
    refine y_blk 2 tq_X12_minuteNow (z := (102, [(0, .ref (ad 200)), (1, .int minute), (2, .int what), (3, .int v99_3), (4, .int v99_4)], [.ref (ad 200), .int v99_4])) rfl ?_
    refine y_get hS tq_X12_minuteNow (v := .ref (ad 212)) rfl fg_X12_27_X12 hX.m rfl ?_
    refine y_blk 0 tq_X12_minuteNow (z := (105, [(0, .ref (ad 200)), (1, .int minute), (2, .int what), (3, .int v99_3), (4, .int v99_4)], [.ref (ad 212), .int v99_4])) rfl ?_
    refine y_callF hS tq_X12_minuteNow rfl (As := []) rfl cf_X12_58 (Or.inl ⟨_, (hX.ls 212 (by decide)).1⟩) (m_Jsize hS (hX.ls 212 (by decide))) rfl (by decide) (Nat.le_of_ble_eq_true rfl) (fun r105 Gc105 q105 => ?_) (fun _ _ h9 => h9.elim)
    obtain ⟨rfl, eG105⟩ := q105
    have eG105 := eG105.symm
    subst eG105
    refine y_blk 0 tq_X12_minuteNow (z := (110, [(0, .ref (ad 200)), (1, .int minute), (2, .int what), (3, .int v99_3), (4, .int v99_4)], [.int (Int32.ofNat (rZ ρ 212)), .int v99_4])) rfl ?_
    refine y_icmp_ge tq_X12_minuteNow 148 rfl rfl (fun c110 => ?_) (fun c110 => ?_)
    · skip
      refine y_blk 1 tq_X12_minuteNow (z := (149, [(0, .ref (ad 200)), (1, .int minute), (2, .int what), (3, .int v99_3), (4, .int v99_4)], [.int v99_3])) rfl ?_
      exact y_iret tq_X12_minuteNow rfl rfl (⟨⟨_, rfl⟩, rfl⟩)
    · skip
      have hn110 := hX.2.le10 212 (by decide)
      have b110 : v99_4.toInt < rZ ρ 212 := yIy (by omega) h0_99 c110
      have d110 : Int32.toNatClampNeg v99_4 < rZ ρ 212 := yIx h0_99 b110
      refine y_blk 2 tq_X12_minuteNow (z := (115, [(0, .ref (ad 200)), (1, .int minute), (2, .int what), (3, .int v99_3), (4, .int v99_4)], [.ref (ad 200), .int v99_3])) rfl ?_
      refine y_get hS tq_X12_minuteNow (v := .ref (ad 212)) rfl fg_X12_27_X12 hX.m rfl ?_
      refine y_blk 1 tq_X12_minuteNow (z := (120, [(0, .ref (ad 200)), (1, .int minute), (2, .int what), (3, .int v99_3), (4, .int v99_4)], [.int v99_4, .ref (ad 212), .int v99_3])) rfl ?_
      refine y_callF hS tq_X12_minuteNow rfl (As := [.int v99_4]) rfl cf_X12_80 (Or.inl ⟨_, (hX.ls 212 (by decide)).1⟩) (m_Rgu hS hX (by assumption) (by assumption)) rfl (by decide) (Nat.le_of_ble_eq_true rfl) (fun r120 Gc120 q120 => ?_) (fun _ _ h9 => h9.elim)
      obtain ⟨rfl, eG120⟩ := q120
      have eG120 := eG120.symm
      subst eG120
      have d120 : (Int32.toNatClampNeg v99_4) < rZ ρ 212 := yIx (by assumption) (by assumption)
      refine y_blk 0 tq_X12_minuteNow (z := (125, [(0, .ref (ad 200)), (1, .int minute), (2, .int what), (3, .int v99_3), (4, .int v99_4)], [.ref (ad (360 + (Int32.toNatClampNeg v99_4))), .int v99_3])) rfl ?_
      refine y_castG hS tq_X12_minuteNow rfl kc_X12_84 (Or.inl ⟨_, (hX.gu (by assumption))⟩) ?_
      refine y_blk 1 tq_X12_minuteNow (z := (129, [(0, .ref (ad 200)), (1, .int minute), (2, .int what), (3, .int v99_3), (4, .int v99_4)], [.int minute, .ref (ad (360 + (Int32.toNatClampNeg v99_4))), .int v99_3])) rfl ?_
      refine y_callV hS tq_X12_minuteNow rfl (As := [.int minute]) rfl cv_X12_199 (hX.gu (by assumption)) (m_X10_isOnDuty hS hI hX (k := (Int32.toNatClampNeg v99_4)) (by assumption) minute) rfl (by decide) (Nat.le_of_ble_eq_true rfl) (fun r129 Gc129 q129 => ?_) (fun E9 G9 h9 => h9.elim)
      obtain ⟨rfl, eG129⟩ := q129
      have eG129 := eG129.symm
      subst eG129
      refine y_blk 0 tq_X12_minuteNow (z := (132, [(0, .ref (ad 200)), (1, .int minute), (2, .int what), (3, .int v99_3), (4, .int v99_4)], [.int (if (rF ρ (360 + (Int32.toNatClampNeg v99_4)) 0) ≤ minute ∧ minute ≤ (rF ρ (360 + (Int32.toNatClampNeg v99_4)) 1) then 1 else 0), .int v99_3])) rfl ?_
      refine y_if_eq tq_X12_minuteNow 139 rfl rfl (fun c132 => ?_) (fun c132 => ?_)
      · skip
        refine y_blk 1 tq_X12_minuteNow (z := (140, [(0, .ref (ad 200)), (1, .int minute), (2, .int what), (3, .int v99_3), (4, .int v99_4)], [.int 0, .int v99_3])) rfl ?_
        exact J140 0 (Or.inl rfl) (by exact c110)
      · skip
        refine y_blk 2 tq_X12_minuteNow (z := (140, [(0, .ref (ad 200)), (1, .int minute), (2, .int what), (3, .int v99_3), (4, .int v99_4)], [.int 1, .int v99_3])) rfl ?_
        exact J140 1 (Or.inr rfl) (by exact c110)
  have J153 : ∀ (n153 : Nat) (v153_3 : Int32) (v153_4 : Int32) (h0_153 : 0 ≤ v153_4.toInt), (((Int32.ofNat (rZ ρ 212)) : Int32).toInt - v153_4.toInt).toNat = n153 → Y l S0 D K_X12_minuteNow 21 0 0 (fun r G1 => (∃ v : Int32, r = some (.int v)) ∧ G1 = G) (fun _ _ => False) 153 [(0, .ref (ad 200)), (1, .int minute), (2, .int what), (3, .int v153_3), (4, .int v153_4)] [] G 0 0 := by
    intro n153
    induction n153 using Nat.strongRecOn with
    | _ n153 ih153 =>
    intro v153_3 v153_4 h0_153 hn153
    subst hn153
    have J194 : ∀ (w194_0 : Int32) (hb_w194_0 : w194_0 = 0 ∨ w194_0 = 1) (c164 : ¬ ((Int32.ofNat (rZ ρ 212)) : Int32) ≤ v153_4), Y l S0 D K_X12_minuteNow 21 0 0 (fun r G1 => (∃ v : Int32, r = some (.int v)) ∧ G1 = G) (fun _ _ => False) 194 [(0, .ref (ad 200)), (1, .int minute), (2, .int what), (3, .int v153_3), (4, .int v153_4)] [.int w194_0, .int v153_3] G 0 0 := by
      intro w194_0 hb_w194_0 c164
      have hn164 := hX.2.le10 212 (by decide)
      have b164 : v153_4.toInt < rZ ρ 212 := yIy (by omega) h0_153 c164
      have d164 : Int32.toNatClampNeg v153_4 < rZ ρ 212 := yIx h0_153 b164
      refine y_blk 4 tq_X12_minuteNow (z := (153, [(4, .int (v153_4 + 1)), (3, .int (v153_3 + w194_0)), (0, .ref (ad 200)), (1, .int minute), (2, .int what)], [])) rfl ?_
      refine y_pick (L2 := [(0, .ref (ad 200)), (1, .int minute), (2, .int what), (3, .int (v153_3 + w194_0)), (4, .int (v153_4 + 1))]) [2, 3, 4, 1, 0] rfl ?_
      exact ih153 _ (by exact ydec c164) (v153_3 + w194_0) (v153_4 + 1) (by first | decide | assumption | exact Int.le_refl _ | exact yposgeL (by assumption) c164) rfl
    refine y_blk 2 tq_X12_minuteNow (z := (156, [(0, .ref (ad 200)), (1, .int minute), (2, .int what), (3, .int v153_3), (4, .int v153_4)], [.ref (ad 200), .int v153_4])) rfl ?_
    refine y_get hS tq_X12_minuteNow (v := .ref (ad 212)) rfl fg_X12_27_X12 hX.m rfl ?_
    refine y_blk 0 tq_X12_minuteNow (z := (159, [(0, .ref (ad 200)), (1, .int minute), (2, .int what), (3, .int v153_3), (4, .int v153_4)], [.ref (ad 212), .int v153_4])) rfl ?_
    refine y_callF hS tq_X12_minuteNow rfl (As := []) rfl cf_X12_58 (Or.inl ⟨_, (hX.ls 212 (by decide)).1⟩) (m_Jsize hS (hX.ls 212 (by decide))) rfl (by decide) (Nat.le_of_ble_eq_true rfl) (fun r159 Gc159 q159 => ?_) (fun _ _ h9 => h9.elim)
    obtain ⟨rfl, eG159⟩ := q159
    have eG159 := eG159.symm
    subst eG159
    refine y_blk 0 tq_X12_minuteNow (z := (164, [(0, .ref (ad 200)), (1, .int minute), (2, .int what), (3, .int v153_3), (4, .int v153_4)], [.int (Int32.ofNat (rZ ρ 212)), .int v153_4])) rfl ?_
    refine y_icmp_ge tq_X12_minuteNow 202 rfl rfl (fun c164 => ?_) (fun c164 => ?_)
    · skip
      refine y_blk 1 tq_X12_minuteNow (z := (203, [(0, .ref (ad 200)), (1, .int minute), (2, .int what), (3, .int v153_3), (4, .int v153_4)], [.int v153_3])) rfl ?_
      exact y_iret tq_X12_minuteNow rfl rfl (⟨⟨_, rfl⟩, rfl⟩)
    · skip
      have hn164 := hX.2.le10 212 (by decide)
      have b164 : v153_4.toInt < rZ ρ 212 := yIy (by omega) h0_153 c164
      have d164 : Int32.toNatClampNeg v153_4 < rZ ρ 212 := yIx h0_153 b164
      refine y_blk 2 tq_X12_minuteNow (z := (169, [(0, .ref (ad 200)), (1, .int minute), (2, .int what), (3, .int v153_3), (4, .int v153_4)], [.ref (ad 200), .int v153_3])) rfl ?_
      refine y_get hS tq_X12_minuteNow (v := .ref (ad 212)) rfl fg_X12_27_X12 hX.m rfl ?_
      refine y_blk 1 tq_X12_minuteNow (z := (174, [(0, .ref (ad 200)), (1, .int minute), (2, .int what), (3, .int v153_3), (4, .int v153_4)], [.int v153_4, .ref (ad 212), .int v153_3])) rfl ?_
      refine y_callF hS tq_X12_minuteNow rfl (As := [.int v153_4]) rfl cf_X12_80 (Or.inl ⟨_, (hX.ls 212 (by decide)).1⟩) (m_Rgu hS hX (by assumption) (by assumption)) rfl (by decide) (Nat.le_of_ble_eq_true rfl) (fun r174 Gc174 q174 => ?_) (fun _ _ h9 => h9.elim)
      obtain ⟨rfl, eG174⟩ := q174
      have eG174 := eG174.symm
      subst eG174
      have d174 : (Int32.toNatClampNeg v153_4) < rZ ρ 212 := yIx (by assumption) (by assumption)
      refine y_blk 0 tq_X12_minuteNow (z := (179, [(0, .ref (ad 200)), (1, .int minute), (2, .int what), (3, .int v153_3), (4, .int v153_4)], [.ref (ad (360 + (Int32.toNatClampNeg v153_4))), .int v153_3])) rfl ?_
      refine y_castG hS tq_X12_minuteNow rfl kc_X12_84 (Or.inl ⟨_, (hX.gu (by assumption))⟩) ?_
      refine y_blk 1 tq_X12_minuteNow (z := (183, [(0, .ref (ad 200)), (1, .int minute), (2, .int what), (3, .int v153_3), (4, .int v153_4)], [.int minute, .ref (ad (360 + (Int32.toNatClampNeg v153_4))), .int v153_3])) rfl ?_
      refine y_callV hS tq_X12_minuteNow rfl (As := [.int minute]) rfl cv_X12_127 (hX.gu (by assumption)) (m_X10_isTired hS hI hX (k := (Int32.toNatClampNeg v153_4)) (by assumption) minute) rfl (by decide) (Nat.le_of_ble_eq_true rfl) (fun r183 Gc183 q183 => ?_) (fun E9 G9 h9 => h9.elim)
      obtain ⟨⟨x183, hb_x183, rfl⟩, eG183⟩ := q183
      have eG183 := eG183.symm
      subst eG183
      refine y_blk 0 tq_X12_minuteNow (z := (186, [(0, .ref (ad 200)), (1, .int minute), (2, .int what), (3, .int v153_3), (4, .int v153_4)], [.int x183, .int v153_3])) rfl ?_
      refine y_if_eq tq_X12_minuteNow 193 rfl rfl (fun c186 => ?_) (fun c186 => ?_)
      · skip
        refine y_blk 1 tq_X12_minuteNow (z := (194, [(0, .ref (ad 200)), (1, .int minute), (2, .int what), (3, .int v153_3), (4, .int v153_4)], [.int 0, .int v153_3])) rfl ?_
        exact J194 0 (Or.inl rfl) (by exact c164)
      · skip
        refine y_blk 2 tq_X12_minuteNow (z := (194, [(0, .ref (ad 200)), (1, .int minute), (2, .int what), (3, .int v153_3), (4, .int v153_4)], [.int 1, .int v153_3])) rfl ?_
        exact J194 1 (Or.inr rfl) (by exact c164)
  have J207 : ∀ (n207 : Nat) (v207_3 : Int32) (v207_4 : Int32) (h0_207 : 0 ≤ v207_4.toInt), (((Int32.ofNat (rZ ρ 213)) : Int32).toInt - v207_4.toInt).toNat = n207 → Y l S0 D K_X12_minuteNow 21 0 0 (fun r G1 => (∃ v : Int32, r = some (.int v)) ∧ G1 = G) (fun _ _ => False) 207 [(0, .ref (ad 200)), (1, .int minute), (2, .int what), (3, .int v207_3), (4, .int v207_4)] [] G 0 0 := by
    intro n207
    induction n207 using Nat.strongRecOn with
    | _ n207 ih207 =>
    intro v207_3 v207_4 h0_207 hn207
    subst hn207
    have J237 : ∀ (w237_0 : Int32) (hb_w237_0 : w237_0 = 0 ∨ w237_0 = 1) (c218 : ¬ ((Int32.ofNat (rZ ρ 213)) : Int32) ≤ v207_4), Y l S0 D K_X12_minuteNow 21 0 0 (fun r G1 => (∃ v : Int32, r = some (.int v)) ∧ G1 = G) (fun _ _ => False) 237 [(0, .ref (ad 200)), (1, .int minute), (2, .int what), (3, .int v207_3), (4, .int v207_4)] [.int w237_0, .int v207_3] G 0 0 := by
      intro w237_0 hb_w237_0 c218
      have hn218 := hX.2.le10 213 (by decide)
      have b218 : v207_4.toInt < rZ ρ 213 := yIy (by omega) h0_207 c218
      have d218 : Int32.toNatClampNeg v207_4 < rZ ρ 213 := yIx h0_207 b218
      refine y_blk 4 tq_X12_minuteNow (z := (207, [(4, .int (v207_4 + 1)), (3, .int (v207_3 + w237_0)), (0, .ref (ad 200)), (1, .int minute), (2, .int what)], [])) rfl ?_
      refine y_pick (L2 := [(0, .ref (ad 200)), (1, .int minute), (2, .int what), (3, .int (v207_3 + w237_0)), (4, .int (v207_4 + 1))]) [2, 3, 4, 1, 0] rfl ?_
      exact ih207 _ (by exact ydec c218) (v207_3 + w237_0) (v207_4 + 1) (by first | decide | assumption | exact Int.le_refl _ | exact yposgeL (by assumption) c218) rfl
    refine y_blk 2 tq_X12_minuteNow (z := (210, [(0, .ref (ad 200)), (1, .int minute), (2, .int what), (3, .int v207_3), (4, .int v207_4)], [.ref (ad 200), .int v207_4])) rfl ?_
    refine y_get hS tq_X12_minuteNow (v := .ref (ad 213)) rfl fg_X12_30_X12 hX.m rfl ?_
    refine y_blk 0 tq_X12_minuteNow (z := (213, [(0, .ref (ad 200)), (1, .int minute), (2, .int what), (3, .int v207_3), (4, .int v207_4)], [.ref (ad 213), .int v207_4])) rfl ?_
    refine y_callF hS tq_X12_minuteNow rfl (As := []) rfl cf_X12_58 (Or.inl ⟨_, (hX.ls 213 (by decide)).1⟩) (m_Jsize hS (hX.ls 213 (by decide))) rfl (by decide) (Nat.le_of_ble_eq_true rfl) (fun r213 Gc213 q213 => ?_) (fun _ _ h9 => h9.elim)
    obtain ⟨rfl, eG213⟩ := q213
    have eG213 := eG213.symm
    subst eG213
    refine y_blk 0 tq_X12_minuteNow (z := (218, [(0, .ref (ad 200)), (1, .int minute), (2, .int what), (3, .int v207_3), (4, .int v207_4)], [.int (Int32.ofNat (rZ ρ 213)), .int v207_4])) rfl ?_
    refine y_icmp_ge tq_X12_minuteNow 245 rfl rfl (fun c218 => ?_) (fun c218 => ?_)
    · skip
      refine y_blk 1 tq_X12_minuteNow (z := (246, [(0, .ref (ad 200)), (1, .int minute), (2, .int what), (3, .int v207_3), (4, .int v207_4)], [.int v207_3])) rfl ?_
      exact y_iret tq_X12_minuteNow rfl rfl (⟨⟨_, rfl⟩, rfl⟩)
    · skip
      have hn218 := hX.2.le10 213 (by decide)
      have b218 : v207_4.toInt < rZ ρ 213 := yIy (by omega) h0_207 c218
      have d218 : Int32.toNatClampNeg v207_4 < rZ ρ 213 := yIx h0_207 b218
      refine y_blk 4 tq_X12_minuteNow (z := (226, [(0, .ref (ad 200)), (1, .int minute), (2, .int what), (3, .int v207_3), (4, .int v207_4)], [.int minute, .int v207_4, .ref (ad 200), .int v207_3])) rfl ?_
      refine y_callV hS tq_X12_minuteNow rfl (As := [.int v207_4, .int minute]) rfl cv_X12_202 hX.m (m_X12_isEmpty hS hI hX v207_4 minute (by assumption) (by assumption)) rfl (by decide) (Nat.le_of_ble_eq_true rfl) (fun r226 Gc226 q226 => ?_) (fun E9 G9 h9 => h9.elim)
      obtain ⟨⟨x226, hb_x226, rfl⟩, eG226⟩ := q226
      have eG226 := eG226.symm
      subst eG226
      refine y_blk 0 tq_X12_minuteNow (z := (229, [(0, .ref (ad 200)), (1, .int minute), (2, .int what), (3, .int v207_3), (4, .int v207_4)], [.int x226, .int v207_3])) rfl ?_
      refine y_if_eq tq_X12_minuteNow 236 rfl rfl (fun c229 => ?_) (fun c229 => ?_)
      · skip
        refine y_blk 1 tq_X12_minuteNow (z := (237, [(0, .ref (ad 200)), (1, .int minute), (2, .int what), (3, .int v207_3), (4, .int v207_4)], [.int 0, .int v207_3])) rfl ?_
        exact J237 0 (Or.inl rfl) (by exact c218)
      · skip
        refine y_blk 2 tq_X12_minuteNow (z := (237, [(0, .ref (ad 200)), (1, .int minute), (2, .int what), (3, .int v207_3), (4, .int v207_4)], [.int 1, .int v207_3])) rfl ?_
        exact J237 1 (Or.inr rfl) (by exact c218)
  refine y_blk 3 tq_X12_minuteNow (z := (3, [(3, .int 0), (0, .ref (ad 200)), (1, .int minute), (2, .int what)], [.int what])) rfl ?_
  by_cases s3_0 : what = 0
  · refine y_swIn tq_X12_minuteNow 40 rfl (by rw [s3_0]; decide) (by rw [s3_0]; decide) (by rw [s3_0]; rfl) rfl ?_
    refine y_blk 2 tq_X12_minuteNow (z := (42, [(3, .int 0), (0, .ref (ad 200)), (1, .int minute), (2, .int what)], [.int minute, .ref (ad 200)])) rfl ?_
    refine y_callV hS tq_X12_minuteNow rfl (As := [.int minute]) rfl cv_X12_130 hX.m (m_X12_fogAt hS hI hX minute) rfl (by decide) (Nat.le_of_ble_eq_true rfl) (fun r42 Gc42 q42 => ?_) (fun E9 G9 h9 => h9.elim)
    obtain ⟨⟨x42, rfl⟩, eG42⟩ := q42
    have eG42 := eG42.symm
    subst eG42
    refine y_blk 0 tq_X12_minuteNow (z := (45, [(3, .int 0), (0, .ref (ad 200)), (1, .int minute), (2, .int what)], [.int x42])) rfl ?_
    exact y_iret tq_X12_minuteNow rfl rfl (⟨⟨_, rfl⟩, rfl⟩)
  by_cases s3_1 : what = 1
  · refine y_swIn tq_X12_minuteNow 46 rfl (by rw [s3_1]; decide) (by rw [s3_1]; decide) (by rw [s3_1]; rfl) rfl ?_
    refine y_blk 2 tq_X12_minuteNow (z := (49, [(4, .int 0), (3, .int 0), (0, .ref (ad 200)), (1, .int minute), (2, .int what)], [])) rfl ?_
    refine y_pick (L2 := [(0, .ref (ad 200)), (1, .int minute), (2, .int what), (3, .int 0), (4, .int 0)]) [2, 3, 4, 1, 0] rfl ?_
    exact J49 _ 0 0 (by first | decide | assumption | exact Int.le_refl _ | exact yposgeL (by assumption) c56) rfl
  by_cases s3_2 : what = 2
  · refine y_swIn tq_X12_minuteNow 96 rfl (by rw [s3_2]; decide) (by rw [s3_2]; decide) (by rw [s3_2]; rfl) rfl ?_
    refine y_blk 2 tq_X12_minuteNow (z := (99, [(4, .int 0), (3, .int 0), (0, .ref (ad 200)), (1, .int minute), (2, .int what)], [])) rfl ?_
    refine y_pick (L2 := [(0, .ref (ad 200)), (1, .int minute), (2, .int what), (3, .int 0), (4, .int 0)]) [2, 3, 4, 1, 0] rfl ?_
    exact J99 _ 0 0 (by first | decide | assumption | exact Int.le_refl _ | exact yposgeL (by assumption) c110) rfl
  by_cases s3_3 : what = 3
  · refine y_swIn tq_X12_minuteNow 150 rfl (by rw [s3_3]; decide) (by rw [s3_3]; decide) (by rw [s3_3]; rfl) rfl ?_
    refine y_blk 2 tq_X12_minuteNow (z := (153, [(4, .int 0), (3, .int 0), (0, .ref (ad 200)), (1, .int minute), (2, .int what)], [])) rfl ?_
    refine y_pick (L2 := [(0, .ref (ad 200)), (1, .int minute), (2, .int what), (3, .int 0), (4, .int 0)]) [2, 3, 4, 1, 0] rfl ?_
    exact J153 _ 0 0 (by first | decide | assumption | exact Int.le_refl _ | exact yposgeL (by assumption) c164) rfl
  by_cases s3_4 : what = 4
  · refine y_swIn tq_X12_minuteNow 204 rfl (by rw [s3_4]; decide) (by rw [s3_4]; decide) (by rw [s3_4]; rfl) rfl ?_
    refine y_blk 2 tq_X12_minuteNow (z := (207, [(4, .int 0), (3, .int 0), (0, .ref (ad 200)), (1, .int minute), (2, .int what)], [])) rfl ?_
    refine y_pick (L2 := [(0, .ref (ad 200)), (1, .int minute), (2, .int what), (3, .int 0), (4, .int 0)]) [2, 3, 4, 1, 0] rfl ?_
    exact J207 _ 0 0 (by first | decide | assumption | exact Int.le_refl _ | exact yposgeL (by assumption) c218) rfl
  by_cases s3_5 : what = 5
  · refine y_swIn tq_X12_minuteNow 247 rfl (by rw [s3_5]; decide) (by rw [s3_5]; decide) (by rw [s3_5]; rfl) rfl ?_
    refine y_blk 1 tq_X12_minuteNow (z := (248, [(3, .int 0), (0, .ref (ad 200)), (1, .int minute), (2, .int what)], [.ref (ad 200)])) rfl ?_
    refine y_callV hS tq_X12_minuteNow rfl (As := []) rfl cv_X12_170 hX.m (m_X12_brights hS hI hX ) rfl (by decide) (Nat.le_of_ble_eq_true rfl) (fun r248 Gc248 q248 => ?_) (fun E9 G9 h9 => h9.elim)
    obtain ⟨⟨x248, rfl⟩, eG248⟩ := q248
    have eG248 := eG248.symm
    subst eG248
    refine y_blk 0 tq_X12_minuteNow (z := (251, [(3, .int 0), (0, .ref (ad 200)), (1, .int minute), (2, .int what)], [.int x248])) rfl ?_
    exact y_iret tq_X12_minuteNow rfl rfl (⟨⟨_, rfl⟩, rfl⟩)
  refine y_swOut tq_X12_minuteNow 252 rfl (by have z0 : what.toInt ≠ 0 := fun q => s3_0 (Int32.toInt_inj.mp (q.trans (by decide))); have z1 : what.toInt ≠ 1 := fun q => s3_1 (Int32.toInt_inj.mp (q.trans (by decide))); have z2 : what.toInt ≠ 2 := fun q => s3_2 (Int32.toInt_inj.mp (q.trans (by decide))); have z3 : what.toInt ≠ 3 := fun q => s3_3 (Int32.toInt_inj.mp (q.trans (by decide))); have z4 : what.toInt ≠ 4 := fun q => s3_4 (Int32.toInt_inj.mp (q.trans (by decide))); have z5 : what.toInt ≠ 5 := fun q => s3_5 (Int32.toInt_inj.mp (q.trans (by decide))); omega) rfl ?_
  refine y_blk 1 tq_X12_minuteNow (z := (253, [(3, .int 0), (0, .ref (ad 200)), (1, .int minute), (2, .int what)], [.ref (ad 200)])) rfl ?_
  refine y_get hS tq_X12_minuteNow (v := .ref (ad 203)) rfl fg_X12_39_X12 hX.m rfl ?_
  refine y_blk 2 tq_X12_minuteNow (z := (260, [(4, .ref (ad 203)), (3, .int 0), (0, .ref (ad 200)), (1, .int minute), (2, .int what)], [.ref (ad 203)])) rfl ?_
  refine y_alen hS tq_X12_minuteNow 0 rfl rfl hX.ke ?_
  refine y_blk 3 tq_X12_minuteNow (z := (266, [(6, .int 0), (5, .int (Int32.ofNat 6)), (4, .ref (ad 203)), (3, .int 0), (0, .ref (ad 200)), (1, .int minute), (2, .int what)], [])) rfl ?_
  refine y_pick (L2 := [(0, .ref (ad 200)), (1, .int minute), (2, .int what), (3, .int 0), (4, .ref (ad 203)), (5, .int (Int32.ofNat 6)), (6, .int 0)]) [4, 5, 6, 3, 2, 1, 0] rfl ?_
  exact J266 _ 0 0 (by first | decide | assumption | exact Int.le_refl _ | exact yposgeL (by assumption) c270) rfl
set_option maxHeartbeats 4000000 in
set_option maxRecDepth 100000 in
theorem m_X12_emptyNow {l : Launch} {S0 : State} {A0 : Array Value} {D : va_G} {aC : Nat → ClassId} {ic : Int32 → Nat} {de : Nat} {ad : Nat → Nat} {G : AH} {ρ : RS} (hS : yS l S0 A0 D aC) (hI : yIc S0 ic de) (hX : atR aC ic de ad G ρ) (post : Int32) (isFirst : Int32) (hp0 : 0 ≤ post.toInt) (hp1 : post.toInt < rZ ρ 213) : yM l S0 D yX12_emptyNow cX12_emptyNow 5 (some .int) 21 0 0 [.ref (ad 200), .int post, .int isFirst] G (fun r G1 => (∃ v : Int32, r = some (.int v)) ∧ G1 = G) (fun _ _ => False) := by
  refine yM.ofK K_X12_emptyNow rfl (by decide) (Nat.le_of_ble_eq_true rfl) ?_
  have J51 : ∀ (v51_3 : Int32) (v51_4 : Int32) (w51_0 : Int32), Y l S0 D K_X12_emptyNow 21 0 0 (fun r G1 => (∃ v : Int32, r = some (.int v)) ∧ G1 = G) (fun _ _ => False) 51 [(0, .ref (ad 200)), (1, .int post), (2, .int isFirst), (3, .int v51_3), (4, .int v51_4)] [.int w51_0] G 0 0 := by
    intro v51_3 v51_4 w51_0
    exact y_iret tq_X12_emptyNow rfl rfl (⟨⟨_, rfl⟩, rfl⟩)
  have J5 : ∀ (n5 : Nat) (v5_3 : Int32) (v5_4 : Int32) (h0_5 : 0 ≤ v5_4.toInt), ((239 : Int32).toInt + 1 - v5_4.toInt).toNat = n5 → Y l S0 D K_X12_emptyNow 21 0 0 (fun r G1 => (∃ v : Int32, r = some (.int v)) ∧ G1 = G) (fun _ _ => False) 5 [(0, .ref (ad 200)), (1, .int post), (2, .int isFirst), (3, .int v5_3), (4, .int v5_4)] [] G 0 0 := by
    intro n5
    induction n5 using Nat.strongRecOn with
    | _ n5 ih5 =>
    intro v5_3 v5_4 h0_5 hn5
    subst hn5
    have J36 : ∀ (v36_3 : Int32) (c10 : ¬ (239 : Int32) < v5_4), Y l S0 D K_X12_emptyNow 21 0 0 (fun r G1 => (∃ v : Int32, r = some (.int v)) ∧ G1 = G) (fun _ _ => False) 36 [(0, .ref (ad 200)), (1, .int post), (2, .int isFirst), (3, .int v36_3), (4, .int v5_4)] [] G 0 0 := by
      intro v36_3 c10
      have b10 : v5_4.toInt ≤ 239 := by rw [ylt] at c10; have z9 : (239 : Int32).toInt = 239 := (by decide); omega
      refine y_blk 2 tq_X12_emptyNow (z := (5, [(4, .int (v5_4 + 1)), (0, .ref (ad 200)), (1, .int post), (2, .int isFirst), (3, .int v36_3)], [])) rfl ?_
      refine y_pick (L2 := [(0, .ref (ad 200)), (1, .int post), (2, .int isFirst), (3, .int v36_3), (4, .int (v5_4 + 1))]) [1, 2, 3, 4, 0] rfl ?_
      exact ih5 _ (by exact ydec2 c10 (by decide)) v36_3 (v5_4 + 1) (by first | decide | assumption | exact Int.le_refl _ | exact yposgtL (by assumption) c10 (by decide)) rfl
    refine y_blk 2 tq_X12_emptyNow (z := (10, [(0, .ref (ad 200)), (1, .int post), (2, .int isFirst), (3, .int v5_3), (4, .int v5_4)], [.int 239, .int v5_4])) rfl ?_
    refine y_icmp_gt tq_X12_emptyNow 42 rfl rfl (fun c10 => ?_) (fun c10 => ?_)
    · skip
      refine y_blk 1 tq_X12_emptyNow (z := (43, [(0, .ref (ad 200)), (1, .int post), (2, .int isFirst), (3, .int v5_3), (4, .int v5_4)], [.int isFirst])) rfl ?_
      refine y_if_eq tq_X12_emptyNow 50 rfl rfl (fun c43 => ?_) (fun c43 => ?_)
      · skip
        refine y_blk 1 tq_X12_emptyNow (z := (51, [(0, .ref (ad 200)), (1, .int post), (2, .int isFirst), (3, .int v5_3), (4, .int v5_4)], [.int v5_3])) rfl ?_
        exact J51 v5_3 v5_4 v5_3
      · skip
        refine y_blk 2 tq_X12_emptyNow (z := (51, [(0, .ref (ad 200)), (1, .int post), (2, .int isFirst), (3, .int v5_3), (4, .int v5_4)], [.int (-1)])) rfl ?_
        exact J51 v5_3 v5_4 (-1)
    · skip
      have b10 : v5_4.toInt ≤ 239 := by rw [ylt] at c10; have z9 : (239 : Int32).toInt = 239 := (by decide); omega
      refine y_blk 3 tq_X12_emptyNow (z := (17, [(0, .ref (ad 200)), (1, .int post), (2, .int isFirst), (3, .int v5_3), (4, .int v5_4)], [.int v5_4, .int post, .ref (ad 200)])) rfl ?_
      refine y_callV hS tq_X12_emptyNow rfl (As := [.int post, .int v5_4]) rfl cv_X12_202 hX.m (m_X12_isEmpty hS hI hX post v5_4 (by assumption) (by assumption)) rfl (by decide) (Nat.le_of_ble_eq_true rfl) (fun r17 Gc17 q17 => ?_) (fun E9 G9 h9 => h9.elim)
      obtain ⟨⟨x17, hb_x17, rfl⟩, eG17⟩ := q17
      have eG17 := eG17.symm
      subst eG17
      refine y_blk 0 tq_X12_emptyNow (z := (20, [(0, .ref (ad 200)), (1, .int post), (2, .int isFirst), (3, .int v5_3), (4, .int v5_4)], [.int x17])) rfl ?_
      refine y_if_ne tq_X12_emptyNow 26 rfl rfl (fun c20 => ?_) (fun c20 => ?_)
      · skip
        refine y_blk 1 tq_X12_emptyNow (z := (27, [(0, .ref (ad 200)), (1, .int post), (2, .int isFirst), (3, .int v5_3), (4, .int v5_4)], [.int isFirst])) rfl ?_
        refine y_if_eq tq_X12_emptyNow 33 rfl rfl (fun c27 => ?_) (fun c27 => ?_)
        · skip
          refine y_blk 1 tq_X12_emptyNow (z := (36, [(3, .int (v5_3 + 1)), (0, .ref (ad 200)), (1, .int post), (2, .int isFirst), (4, .int v5_4)], [])) rfl ?_
          refine y_pick (L2 := [(0, .ref (ad 200)), (1, .int post), (2, .int isFirst), (3, .int (v5_3 + 1)), (4, .int v5_4)]) [1, 2, 3, 0, 4] rfl ?_
          exact J36 (v5_3 + 1) (by exact c10)
        · skip
          refine y_blk 1 tq_X12_emptyNow (z := (32, [(0, .ref (ad 200)), (1, .int post), (2, .int isFirst), (3, .int v5_3), (4, .int v5_4)], [.int v5_4])) rfl ?_
          exact y_iret tq_X12_emptyNow rfl rfl (⟨⟨_, rfl⟩, rfl⟩)
      · skip
        refine y_blk 1 tq_X12_emptyNow (z := (36, [(0, .ref (ad 200)), (1, .int post), (2, .int isFirst), (3, .int v5_3), (4, .int v5_4)], [])) rfl ?_
        exact J36 v5_3 (by exact c10)
  refine y_blk 4 tq_X12_emptyNow (z := (5, [(4, .int 0), (3, .int 0), (0, .ref (ad 200)), (1, .int post), (2, .int isFirst)], [])) rfl ?_
  refine y_pick (L2 := [(0, .ref (ad 200)), (1, .int post), (2, .int isFirst), (3, .int 0), (4, .int 0)]) [2, 3, 4, 1, 0] rfl ?_
  exact J5 _ 0 0 (by first | decide | assumption | exact Int.le_refl _ | exact yposgtL (by assumption) c10 (by decide)) rfl
