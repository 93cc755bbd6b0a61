/-! part -/
set_option maxHeartbeats 4000000 in
set_option maxRecDepth 100000 in
theorem m_X12_steps {l : Launch} {S0 : State} {A0 : Array Value} {D : va_G} {aC : Nat → ClassId} {ic : Int32 → Nat} {de : Nat} {ad : Nat → Nat} {G : AH} {ρ : RS} (hS : yS l S0 A0 D aC) (hI : yIc S0 ic de) (hX : atR aC ic de ad G ρ) (from_ : Int32) (hfrom : rcell ρ from_) : yM l S0 D yX12_steps cX12_steps 8 (some (.array .int)) 17 2 128 [.ref (ad 200), .int from_] G (fun r G1 => ∃ (a : Nat) (f : Nat → Int32), r = some (.ref a) ∧ G1 a = some (500, .inl (aC 0, rZ ρ 201, .inl f)) ∧ yTg kA G G1) (fun _ _ => False) := by
  refine yM.ofK K_X12_steps rfl (by decide) (Nat.le_of_ble_eq_true rfl) ?_
  have hn64 := hX.2.n64
  have J51 : ∀ (n51 : Nat) (v51_2 : Nat) (v51_3 : Nat) (v51_4 : Int32) (v51_5 : Int32) (G51 : AH) (f251 : Nat → Int32) (f351 : Nat → Int32) (hX51 : atR aC ic de ad G51 ρ) (kt51 : yTg kA G G51) (pA251 : G51 v51_2 = some (500, .inl (aC 0, rZ ρ 201, .inl f251))) (pA351 : G51 v51_3 = some (501, .inl (aC 0, rZ ρ 201, .inl f351))) (h0_51 : 0 ≤ v51_5.toInt) (hq51 : stQ ρ f251 f351 v51_4), (65 - v51_5.toInt).toNat = n51 → Y l S0 D K_X12_steps 17 2 128 (fun r G1 => ∃ (a : Nat) (f : Nat → Int32), r = some (.ref a) ∧ G1 a = some (500, .inl (aC 0, rZ ρ 201, .inl f)) ∧ yTg kA G G1) (fun _ _ => False) 51 [(0, .ref (ad 200)), (1, .int from_), (2, .ref v51_2), (3, .ref v51_3), (4, .int v51_4), (5, .int v51_5)] [] G51 0 0 := by
    intro n51
    induction n51 using Nat.strongRecOn with
    | _ n51 ih51 =>
    intro v51_2 v51_3 v51_4 v51_5 G51 f251 f351 hX51 kt51 pA251 pA351 h0_51 hq51 hn51
    subst hn51
    have J61 : ∀ (n61 : Nat) (v61_4 : Int32) (v61_6 : Int32) (G61 : AH) (f261 : Nat → Int32) (f361 : Nat → Int32) (hX61 : atR aC ic de ad G61 ρ) (kt61 : yTg kA G G61) (pA261 : G61 v51_2 = some (500, .inl (aC 0, rZ ρ 201, .inl f261))) (pA361 : G61 v51_3 = some (501, .inl (aC 0, rZ ρ 201, .inl f361))) (hq61 : stQ ρ f261 f361 v61_4) (c55n : v51_5.toInt < v61_4.toInt), ((4 : Int32).toInt + 1 - v61_6.toInt).toNat = n61 → Y l S0 D K_X12_steps 17 2 128 (fun r G1 => ∃ (a : Nat) (f : Nat → Int32), r = some (.ref a) ∧ G1 a = some (500, .inl (aC 0, rZ ρ 201, .inl f)) ∧ yTg kA G G1) (fun _ _ => False) 61 [(0, .ref (ad 200)), (1, .int from_), (2, .ref v51_2), (3, .ref v51_3), (4, .int v61_4), (5, .int v51_5), (6, .int v61_6)] [] G61 0 0 := by
      intro n61
      induction n61 using Nat.strongRecOn with
      | _ n61 ih61 =>
      intro v61_4 v61_6 G61 f261 f361 hX61 kt61 pA261 pA361 hq61 c55n hn61
      subst hn61
      have J128 : ∀ (v128_4 : Int32) (v128_7 : Int32) (G128 : AH) (f2128 : Nat → Int32) (f3128 : Nat → Int32) (hX128 : atR aC ic de ad G128 ρ) (kt128 : yTg kA G G128) (pA2128 : G128 v51_2 = some (500, .inl (aC 0, rZ ρ 201, .inl f2128))) (pA3128 : G128 v51_3 = some (501, .inl (aC 0, rZ ρ 201, .inl f3128))) (hq128 : stQ ρ f2128 f3128 v128_4) (c55k : v51_5.toInt < v128_4.toInt) (c64 : ¬ (4 : Int32) < v61_6), Y l S0 D K_X12_steps 17 2 128 (fun r G1 => ∃ (a : Nat) (f : Nat → Int32), r = some (.ref a) ∧ G1 a = some (500, .inl (aC 0, rZ ρ 201, .inl f)) ∧ yTg kA G G1) (fun _ _ => False) 128 [(0, .ref (ad 200)), (1, .int from_), (2, .ref v51_2), (3, .ref v51_3), (4, .int v128_4), (5, .int v51_5), (6, .int v61_6), (7, .int v128_7)] [] G128 0 0 := by
        intro v128_4 v128_7 G128 f2128 f3128 hX128 kt128 pA2128 pA3128 hq128 c55k c64
        refine y_blk 2 tq_X12_steps (z := (61, [(6, .int (v61_6 + 1)), (0, .ref (ad 200)), (1, .int from_), (2, .ref v51_2), (3, .ref v51_3), (4, .int v128_4), (5, .int v51_5), (7, .int v128_7)], [])) rfl ?_
        refine y_pick (L2 := [(0, .ref (ad 200)), (1, .int from_), (2, .ref v51_2), (3, .ref v51_3), (4, .int v128_4), (5, .int v51_5), (6, .int (v61_6 + 1))]) [1, 2, 3, 4, 5, 6, 0] rfl ?_
        exact ih61 _ (by exact ydec2 c64 (by decide)) v128_4 (v61_6 + 1) G128 f2128 f3128 hX128 kt128 pA2128 pA3128 (by assumption) (by first | exact c55m | assumption) rfl
      refine y_blk 2 tq_X12_steps (z := (64, [(0, .ref (ad 200)), (1, .int from_), (2, .ref v51_2), (3, .ref v51_3), (4, .int v61_4), (5, .int v51_5), (6, .int v61_6)], [.int 4, .int v61_6])) rfl ?_
      refine y_icmp_gt tq_X12_steps 134 rfl rfl (fun c64 => ?_) (fun c64 => ?_)
      · skip
        refine y_blk 2 tq_X12_steps (z := (51, [(5, .int (v51_5 + 1)), (0, .ref (ad 200)), (1, .int from_), (2, .ref v51_2), (3, .ref v51_3), (4, .int v61_4), (6, .int v61_6)], [])) rfl ?_
        refine y_pick (L2 := [(0, .ref (ad 200)), (1, .int from_), (2, .ref v51_2), (3, .ref v51_3), (4, .int v61_4), (5, .int (v51_5 + 1))]) [1, 2, 3, 4, 5, 0] rfl ?_
        exact ih51 _ (by exact stQ_dec hX.2 hq61 h0_51 c55n) v51_2 v51_3 v61_4 (v51_5 + 1) G61 f261 f361 hX61 kt61 pA261 pA361 (by first | decide | exact stQ_h0 hX.2 hq61 h0_51 c55n) (by first | exact stQ_init hX.2 hfrom hall | assumption) rfl
      · skip
        have b64 : v61_6.toInt ≤ 4 := by rw [ylt] at c64; have z9 : (4 : Int32).toInt = 4 := (by decide); omega
        refine y_blk 3 tq_X12_steps (z := (71, [(0, .ref (ad 200)), (1, .int from_), (2, .ref v51_2), (3, .ref v51_3), (4, .int v61_4), (5, .int v51_5), (6, .int v61_6)], [.int v51_5, .ref v51_3, .ref (ad 200)])) rfl ?_
        obtain ⟨hqc, hqd⟩ := stQ_get hq61 h0_51 c55n
        refine y_iald hS tq_X12_steps rfl pA361 (by exact stQ_vin hX.2 hq61 h0_51 c55n) ?_
        refine y_blk 1 tq_X12_steps (z := (74, [(0, .ref (ad 200)), (1, .int from_), (2, .ref v51_2), (3, .ref v51_3), (4, .int v61_4), (5, .int v51_5), (6, .int v61_6)], [.int v61_6, .int (f361 (Int32.toNatClampNeg v51_5)), .ref (ad 200)])) rfl ?_
        refine y_callV hS tq_X12_steps rfl (As := [.int (f361 (Int32.toNatClampNeg v51_5)), .int v61_6]) rfl cv_X12_240 hX61.m (m_X12_moved hS hI hX61 (f361 (Int32.toNatClampNeg v51_5)) v61_6 (by first | assumption | exact hX61.lac (by assumption) | exact hX61.poc (by assumption) | exact hX61.wac (by assumption) (by assumption) (by omega))) rfl (by decide) (Nat.le_of_ble_eq_true rfl) (fun r74 Gc74 q74 => ?_) (fun E9 G9 h9 => h9.elim)
        obtain ⟨⟨x74, hr_x74, rfl⟩, eG74⟩ := q74
        have eG74 := eG74.symm
        subst eG74
        refine y_blk 3 tq_X12_steps (z := (82, [(7, .int x74), (0, .ref (ad 200)), (1, .int from_), (2, .ref v51_2), (3, .ref v51_3), (4, .int v61_4), (5, .int v51_5), (6, .int v61_6)], [.int (-1), .int x74])) rfl ?_
        refine y_icmp_eq tq_X12_steps 128 rfl rfl (fun c82 => ?_) (fun c82 => ?_)
        · skip
          refine y_blk 0 tq_X12_steps (z := (128, [(7, .int x74), (0, .ref (ad 200)), (1, .int from_), (2, .ref v51_2), (3, .ref v51_3), (4, .int v61_4), (5, .int v51_5), (6, .int v61_6)], [])) rfl ?_
          refine y_pick (L2 := [(0, .ref (ad 200)), (1, .int from_), (2, .ref v51_2), (3, .ref v51_3), (4, .int v61_4), (5, .int v51_5), (6, .int v61_6), (7, .int x74)]) [1, 2, 3, 4, 5, 6, 7, 0] rfl ?_
          exact J128 v61_4 x74 G61 f261 f361 hX61 kt61 pA261 pA361 (by first | assumption | exact stQ_push hX.2 hq61 h0_51 c55n hmv (by assumption)) (by first | assumption | exact stQ_lt hX.2 hq61 c55n) (by exact c64)
        · skip
          refine y_blk 1 tq_X12_steps (z := (86, [(7, .int x74), (0, .ref (ad 200)), (1, .int from_), (2, .ref v51_2), (3, .ref v51_3), (4, .int v61_4), (5, .int v51_5), (6, .int v61_6)], [.ref (ad 200)])) rfl ?_
          refine y_get hS tq_X12_steps (v := .ref (ad 201)) rfl fg_X12_7_X12 hX61.m rfl ?_
          refine y_blk 1 tq_X12_steps (z := (91, [(7, .int x74), (0, .ref (ad 200)), (1, .int from_), (2, .ref v51_2), (3, .ref v51_3), (4, .int v61_4), (5, .int v51_5), (6, .int v61_6)], [.int x74, .ref (ad 201)])) rfl ?_
          have hmv := hr_x74.1.resolve_left c82
          have hm0 := hmv.1
          have hm1 := hmv.2
          refine y_iald hS tq_X12_steps rfl hX61.ki (by first | exact yIn (by decide) (by decide) | exact yIn (by assumption) (by assumption) | (exact yIn (by omega) (by omega))) ?_
          refine y_blk 1 tq_X12_steps (z := (93, [(7, .int x74), (0, .ref (ad 200)), (1, .int from_), (2, .ref v51_2), (3, .ref v51_3), (4, .int v61_4), (5, .int v51_5), (6, .int v61_6)], [.int 1, .int ((rV ρ 201) (Int32.toNatClampNeg x74))])) rfl ?_
          refine y_icmp_eq tq_X12_steps 128 rfl rfl (fun c93 => ?_) (fun c93 => ?_)
          · skip
            refine y_blk 0 tq_X12_steps (z := (128, [(7, .int x74), (0, .ref (ad 200)), (1, .int from_), (2, .ref v51_2), (3, .ref v51_3), (4, .int v61_4), (5, .int v51_5), (6, .int v61_6)], [])) rfl ?_
            refine y_pick (L2 := [(0, .ref (ad 200)), (1, .int from_), (2, .ref v51_2), (3, .ref v51_3), (4, .int v61_4), (5, .int v51_5), (6, .int v61_6), (7, .int x74)]) [1, 2, 3, 4, 5, 6, 7, 0] rfl ?_
            exact J128 v61_4 x74 G61 f261 f361 hX61 kt61 pA261 pA361 (by first | assumption | exact stQ_push hX.2 hq61 h0_51 c55n hmv (by assumption)) (by first | assumption | exact stQ_lt hX.2 hq61 c55n) (by exact c64)
          · skip
            refine y_blk 2 tq_X12_steps (z := (99, [(7, .int x74), (0, .ref (ad 200)), (1, .int from_), (2, .ref v51_2), (3, .ref v51_3), (4, .int v61_4), (5, .int v51_5), (6, .int v61_6)], [.int x74, .ref v51_2])) rfl ?_
            refine y_iald hS tq_X12_steps rfl pA261 (by first | exact yIn (by decide) (by decide) | exact yIn (by assumption) (by assumption) | (exact yIn (by omega) (by omega))) ?_
            refine y_blk 1 tq_X12_steps (z := (101, [(7, .int x74), (0, .ref (ad 200)), (1, .int from_), (2, .ref v51_2), (3, .ref v51_3), (4, .int v61_4), (5, .int v51_5), (6, .int v61_6)], [.int (-1), .int (f261 (Int32.toNatClampNeg x74))])) rfl ?_
            refine y_icmp_eq tq_X12_steps 107 rfl rfl (fun c101 => ?_) (fun c101 => ?_)
            · skip
              refine y_blk 5 tq_X12_steps (z := (114, [(7, .int x74), (0, .ref (ad 200)), (1, .int from_), (2, .ref v51_2), (3, .ref v51_3), (4, .int v61_4), (5, .int v51_5), (6, .int v61_6)], [.int v51_5, .ref v51_3, .ref v51_2, .int x74, .ref v51_2])) rfl ?_
              obtain ⟨hqc, hqd⟩ := stQ_get hq61 h0_51 c55n
              have hqc0 := hqc.1
              have hqc1 := hqc.2
              refine y_iald hS tq_X12_steps rfl pA361 (by exact stQ_vin hX.2 hq61 h0_51 c55n) ?_
              refine y_blk 0 tq_X12_steps (z := (115, [(7, .int x74), (0, .ref (ad 200)), (1, .int from_), (2, .ref v51_2), (3, .ref v51_3), (4, .int v61_4), (5, .int v51_5), (6, .int v61_6)], [.int (f361 (Int32.toNatClampNeg v51_5)), .ref v51_2, .int x74, .ref v51_2])) rfl ?_
              refine y_iald hS tq_X12_steps rfl pA261 (by exact yIn hqc.1 hqc.2) ?_
              refine y_blk 2 tq_X12_steps (z := (118, [(7, .int x74), (0, .ref (ad 200)), (1, .int from_), (2, .ref v51_2), (3, .ref v51_3), (4, .int v61_4), (5, .int v51_5), (6, .int v61_6)], [.int ((f261 (Int32.toNatClampNeg (f361 (Int32.toNatClampNeg v51_5)))) + 1), .int x74, .ref v51_2])) rfl ?_
              refine y_iast hS tq_X12_steps rfl pA261 (by decide) (by first | exact yIn (by decide) (by decide) | exact yIn (by assumption) (by assumption) | (exact yIn (by omega) (by omega))) ?_
              have hA118 : (yup G61 v51_2 (500, .inl (aC 0, (rZ ρ 201), .inl (upd f261 (Int32.toNatClampNeg x74) ((f261 (Int32.toNatClampNeg (f361 (Int32.toNatClampNeg v51_5)))) + 1))))) v51_2 = some (500, .inl (aC 0, (rZ ρ 201), .inl (upd f261 (Int32.toNatClampNeg x74) ((f261 (Int32.toNatClampNeg (f361 (Int32.toNatClampNeg v51_5)))) + 1)))) := yup_s _ _ _
              have hX118 : atR aC ic de ad (yup G61 v51_2 (500, .inl (aC 0, (rZ ρ 201), .inl (upd f261 (Int32.toNatClampNeg x74) ((f261 (Int32.toNatClampNeg (f361 (Int32.toNatClampNeg v51_5)))) + 1))))) ρ := hX61.kp (yTg.up pA261 (by decide))
              have kt118 : yTg kA G (yup G61 v51_2 (500, .inl (aC 0, (rZ ρ 201), .inl (upd f261 (Int32.toNatClampNeg x74) ((f261 (Int32.toNatClampNeg (f361 (Int32.toNatClampNeg v51_5)))) + 1))))) := (kt61).trans (yTg.up pA261 (by decide))
              have hB118_v51_3 : (yup G61 v51_2 (500, .inl (aC 0, (rZ ρ 201), .inl (upd f261 (Int32.toNatClampNeg x74) ((f261 (Int32.toNatClampNeg (f361 (Int32.toNatClampNeg v51_5)))) + 1))))) v51_3 = some (501, .inl (aC 0, (rZ ρ 201), .inl f361)) := yup_o pA361 pA261 (by decide)
              generalize yup G61 v51_2 (500, .inl (aC 0, (rZ ρ 201), .inl (upd f261 (Int32.toNatClampNeg x74) ((f261 (Int32.toNatClampNeg (f361 (Int32.toNatClampNeg v51_5)))) + 1)))) = G118 at hA118 hX118 kt118 hB118_v51_3 ⊢
              refine y_blk 4 tq_X12_steps (z := (127, [(4, .int (v61_4 + 1)), (7, .int x74), (0, .ref (ad 200)), (1, .int from_), (2, .ref v51_2), (3, .ref v51_3), (5, .int v51_5), (6, .int v61_6)], [.int x74, .int v61_4, .ref v51_3])) rfl ?_
              refine y_iast hS tq_X12_steps rfl hB118_v51_3 (by decide) (by exact stQ_vin2 hX.2 hq61 hmv (by assumption)) ?_
              have hA127 : (yup G118 v51_3 (501, .inl (aC 0, (rZ ρ 201), .inl (upd f361 (Int32.toNatClampNeg v61_4) x74)))) v51_3 = some (501, .inl (aC 0, (rZ ρ 201), .inl (upd f361 (Int32.toNatClampNeg v61_4) x74))) := yup_s _ _ _
              have hX127 : atR aC ic de ad (yup G118 v51_3 (501, .inl (aC 0, (rZ ρ 201), .inl (upd f361 (Int32.toNatClampNeg v61_4) x74)))) ρ := hX118.kp (yTg.up hB118_v51_3 (by decide))
              have kt127 : yTg kA G (yup G118 v51_3 (501, .inl (aC 0, (rZ ρ 201), .inl (upd f361 (Int32.toNatClampNeg v61_4) x74)))) := (kt118).trans (yTg.up hB118_v51_3 (by decide))
              have hB127_v51_2 : (yup G118 v51_3 (501, .inl (aC 0, (rZ ρ 201), .inl (upd f361 (Int32.toNatClampNeg v61_4) x74)))) v51_2 = some (500, .inl (aC 0, (rZ ρ 201), .inl (upd f261 (Int32.toNatClampNeg x74) ((f261 (Int32.toNatClampNeg (f361 (Int32.toNatClampNeg v51_5)))) + 1)))) := yup_o hA118 hB118_v51_3 (by decide)
              generalize yup G118 v51_3 (501, .inl (aC 0, (rZ ρ 201), .inl (upd f361 (Int32.toNatClampNeg v61_4) x74))) = G127 at hA127 hX127 kt127 hB127_v51_2 ⊢
              refine y_blk 0 tq_X12_steps (z := (128, [(4, .int (v61_4 + 1)), (7, .int x74), (0, .ref (ad 200)), (1, .int from_), (2, .ref v51_2), (3, .ref v51_3), (5, .int v51_5), (6, .int v61_6)], [])) rfl ?_
              refine y_pick (L2 := [(0, .ref (ad 200)), (1, .int from_), (2, .ref v51_2), (3, .ref v51_3), (4, .int (v61_4 + 1)), (5, .int v51_5), (6, .int v61_6), (7, .int x74)]) [2, 3, 4, 5, 0, 6, 7, 1] rfl ?_
              exact J128 (v61_4 + 1) x74 G127 (upd f261 (Int32.toNatClampNeg x74) ((f261 (Int32.toNatClampNeg (f361 (Int32.toNatClampNeg v51_5)))) + 1)) (upd f361 (Int32.toNatClampNeg v61_4) x74) hX127 kt127 hB127_v51_2 hA127 (by first | assumption | exact stQ_push hX.2 hq61 h0_51 c55n hmv (by assumption)) (by first | assumption | exact stQ_lt hX.2 hq61 c55n) (by exact c64)
            · skip
              refine y_blk 1 tq_X12_steps (z := (128, [(7, .int x74), (0, .ref (ad 200)), (1, .int from_), (2, .ref v51_2), (3, .ref v51_3), (4, .int v61_4), (5, .int v51_5), (6, .int v61_6)], [])) rfl ?_
              refine y_pick (L2 := [(0, .ref (ad 200)), (1, .int from_), (2, .ref v51_2), (3, .ref v51_3), (4, .int v61_4), (5, .int v51_5), (6, .int v61_6), (7, .int x74)]) [1, 2, 3, 4, 5, 6, 7, 0] rfl ?_
              exact J128 v61_4 x74 G61 f261 f361 hX61 kt61 pA261 pA361 (by first | assumption | exact stQ_push hX.2 hq61 h0_51 c55n hmv (by assumption)) (by first | assumption | exact stQ_lt hX.2 hq61 c55n) (by exact c64)
    refine y_blk 2 tq_X12_steps (z := (55, [(0, .ref (ad 200)), (1, .int from_), (2, .ref v51_2), (3, .ref v51_3), (4, .int v51_4), (5, .int v51_5)], [.int v51_4, .int v51_5])) rfl ?_
    refine y_icmp_ge tq_X12_steps 140 rfl rfl (fun c55 => ?_) (fun c55 => ?_)
    · skip
      refine y_blk 1 tq_X12_steps (z := (141, [(0, .ref (ad 200)), (1, .int from_), (2, .ref v51_2), (3, .ref v51_3), (4, .int v51_4), (5, .int v51_5)], [.ref v51_2])) rfl ?_
      exact y_aret tq_X12_steps rfl rfl (Or.inr ⟨_, rfl⟩) (Or.inr ⟨_, rfl⟩) (⟨_, _, rfl, pA251, kt51⟩)
    · skip
      have c55m : v51_5.toInt < v51_4.toInt := stQ_c hq51 c55
      refine y_blk 2 tq_X12_steps (z := (61, [(6, .int 1), (0, .ref (ad 200)), (1, .int from_), (2, .ref v51_2), (3, .ref v51_3), (4, .int v51_4), (5, .int v51_5)], [])) rfl ?_
      refine y_pick (L2 := [(0, .ref (ad 200)), (1, .int from_), (2, .ref v51_2), (3, .ref v51_3), (4, .int v51_4), (5, .int v51_5), (6, .int 1)]) [1, 2, 3, 4, 5, 6, 0] rfl ?_
      exact J61 _ v51_4 1 G51 f251 f351 hX51 kt51 pA251 pA351 (by assumption) (by first | exact c55m | assumption) rfl
  have J19 : ∀ (n19 : Nat) (v19_2 : Nat) (v19_3 : Nat) (v19_4 : Int32) (G19 : AH) (f219 : Nat → Int32) (f319 : Nat → Int32) (hX19 : atR aC ic de ad G19 ρ) (kt19 : yTg kA G G19) (pA219 : G19 v19_2 = some (500, .inl (aC 0, rZ ρ 201, .inl f219))) (pA319 : G19 v19_3 = some (501, .inl (aC 0, rZ ρ 201, .inl f319))) (h0_19 : 0 ≤ v19_4.toInt) (h19 : ∀ j : Nat, (j : Int) < v19_4.toInt → f219 j = -1), ((Int32.ofNat (rZ ρ 201) : Int32).toInt - v19_4.toInt).toNat = n19 → Y l S0 D K_X12_steps 17 2 128 (fun r G1 => ∃ (a : Nat) (f : Nat → Int32), r = some (.ref a) ∧ G1 a = some (500, .inl (aC 0, rZ ρ 201, .inl f)) ∧ yTg kA G G1) (fun _ _ => False) 19 [(0, .ref (ad 200)), (1, .int from_), (2, .ref v19_2), (3, .ref v19_3), (4, .int v19_4)] [] G19 0 0 := by
    intro n19
    induction n19 using Nat.strongRecOn with
    | _ n19 ih19 =>
    intro v19_2 v19_3 v19_4 G19 f219 f319 hX19 kt19 pA219 pA319 h0_19 h19 hn19
    subst hn19
    refine y_blk 2 tq_X12_steps (z := (22, [(0, .ref (ad 200)), (1, .int from_), (2, .ref v19_2), (3, .ref v19_3), (4, .int v19_4)], [.ref v19_2, .int v19_4])) rfl ?_
    refine y_alen hS tq_X12_steps 0 rfl rfl pA219 ?_
    refine y_blk 0 tq_X12_steps (z := (23, [(0, .ref (ad 200)), (1, .int from_), (2, .ref v19_2), (3, .ref v19_3), (4, .int v19_4)], [.int (Int32.ofNat (rZ ρ 201)), .int v19_4])) rfl ?_
    refine y_icmp_ge tq_X12_steps 37 rfl rfl (fun c23 => ?_) (fun c23 => ?_)
    · skip
      have hall : ∀ j, j < rZ ρ 201 → f219 j = -1 := stQ_all hX.2 h19 c23
      refine y_blk 3 tq_X12_steps (z := (40, [(0, .ref (ad 200)), (1, .int from_), (2, .ref v19_2), (3, .ref v19_3), (4, .int v19_4)], [.int 0, .int from_, .ref v19_2])) rfl ?_
      refine y_iast hS tq_X12_steps rfl pA219 (by decide) (by exact yIn hfrom.1 hfrom.2) ?_
      have hA40 : (yup G19 v19_2 (500, .inl (aC 0, (rZ ρ 201), .inl (upd f219 (Int32.toNatClampNeg from_) 0)))) v19_2 = some (500, .inl (aC 0, (rZ ρ 201), .inl (upd f219 (Int32.toNatClampNeg from_) 0))) := yup_s _ _ _
      have hX40 : atR aC ic de ad (yup G19 v19_2 (500, .inl (aC 0, (rZ ρ 201), .inl (upd f219 (Int32.toNatClampNeg from_) 0)))) ρ := hX19.kp (yTg.up pA219 (by decide))
      have kt40 : yTg kA G (yup G19 v19_2 (500, .inl (aC 0, (rZ ρ 201), .inl (upd f219 (Int32.toNatClampNeg from_) 0)))) := (kt19).trans (yTg.up pA219 (by decide))
      have hB40_v19_3 : (yup G19 v19_2 (500, .inl (aC 0, (rZ ρ 201), .inl (upd f219 (Int32.toNatClampNeg from_) 0)))) v19_3 = some (501, .inl (aC 0, (rZ ρ 201), .inl f319)) := yup_o pA319 pA219 (by decide)
      generalize yup G19 v19_2 (500, .inl (aC 0, (rZ ρ 201), .inl (upd f219 (Int32.toNatClampNeg from_) 0))) = G40 at hA40 hX40 kt40 hB40_v19_3 ⊢
      refine y_blk 3 tq_X12_steps (z := (44, [(0, .ref (ad 200)), (1, .int from_), (2, .ref v19_2), (3, .ref v19_3), (4, .int v19_4)], [.int from_, .int 0, .ref v19_3])) rfl ?_
      refine y_iast hS tq_X12_steps rfl hB40_v19_3 (by decide) (by exact yIn (by decide) (by have := hfrom.1; have := hfrom.2; rw [yl_0]; omega)) ?_
      have hA44 : (yup G40 v19_3 (501, .inl (aC 0, (rZ ρ 201), .inl (upd f319 (Int32.toNatClampNeg 0) from_)))) v19_3 = some (501, .inl (aC 0, (rZ ρ 201), .inl (upd f319 (Int32.toNatClampNeg 0) from_))) := yup_s _ _ _
      have hX44 : atR aC ic de ad (yup G40 v19_3 (501, .inl (aC 0, (rZ ρ 201), .inl (upd f319 (Int32.toNatClampNeg 0) from_)))) ρ := hX40.kp (yTg.up hB40_v19_3 (by decide))
      have kt44 : yTg kA G (yup G40 v19_3 (501, .inl (aC 0, (rZ ρ 201), .inl (upd f319 (Int32.toNatClampNeg 0) from_)))) := (kt40).trans (yTg.up hB40_v19_3 (by decide))
      have hB44_v19_2 : (yup G40 v19_3 (501, .inl (aC 0, (rZ ρ 201), .inl (upd f319 (Int32.toNatClampNeg 0) from_)))) v19_2 = some (500, .inl (aC 0, (rZ ρ 201), .inl (upd f219 (Int32.toNatClampNeg from_) 0))) := yup_o hA40 hB40_v19_3 (by decide)
      generalize yup G40 v19_3 (501, .inl (aC 0, (rZ ρ 201), .inl (upd f319 (Int32.toNatClampNeg 0) from_))) = G44 at hA44 hX44 kt44 hB44_v19_2 ⊢
      refine y_blk 4 tq_X12_steps (z := (51, [(5, .int 0), (4, .int 1), (0, .ref (ad 200)), (1, .int from_), (2, .ref v19_2), (3, .ref v19_3)], [])) rfl ?_
      refine y_pick (L2 := [(0, .ref (ad 200)), (1, .int from_), (2, .ref v19_2), (3, .ref v19_3), (4, .int 1), (5, .int 0)]) [2, 3, 4, 5, 1, 0] rfl ?_
      exact J51 _ v19_2 v19_3 1 0 G44 (upd f219 (Int32.toNatClampNeg from_) 0) (upd f319 (Int32.toNatClampNeg 0) from_) hX44 kt44 hB44_v19_2 hA44 (by first | decide | exact stQ_h0 hX.2 hq61 h0_51 c55n) (by first | exact stQ_init hX.2 hfrom hall | assumption) rfl
    · skip
      have b23 : v19_4.toInt < rZ ρ 201 := yIy (by omega) h0_19 c23
      refine y_blk 3 tq_X12_steps (z := (30, [(0, .ref (ad 200)), (1, .int from_), (2, .ref v19_2), (3, .ref v19_3), (4, .int v19_4)], [.int (-1), .int v19_4, .ref v19_2])) rfl ?_
      refine y_iast hS tq_X12_steps rfl pA219 (by decide) (by exact yIn h0_19 b23) ?_
      have hA30 : (yup G19 v19_2 (500, .inl (aC 0, (rZ ρ 201), .inl (upd f219 (Int32.toNatClampNeg v19_4) (-1))))) v19_2 = some (500, .inl (aC 0, (rZ ρ 201), .inl (upd f219 (Int32.toNatClampNeg v19_4) (-1)))) := yup_s _ _ _
      have hX30 : atR aC ic de ad (yup G19 v19_2 (500, .inl (aC 0, (rZ ρ 201), .inl (upd f219 (Int32.toNatClampNeg v19_4) (-1))))) ρ := hX19.kp (yTg.up pA219 (by decide))
      have kt30 : yTg kA G (yup G19 v19_2 (500, .inl (aC 0, (rZ ρ 201), .inl (upd f219 (Int32.toNatClampNeg v19_4) (-1))))) := (kt19).trans (yTg.up pA219 (by decide))
      have hB30_v19_3 : (yup G19 v19_2 (500, .inl (aC 0, (rZ ρ 201), .inl (upd f219 (Int32.toNatClampNeg v19_4) (-1))))) v19_3 = some (501, .inl (aC 0, (rZ ρ 201), .inl f319)) := yup_o pA319 pA219 (by decide)
      generalize yup G19 v19_2 (500, .inl (aC 0, (rZ ρ 201), .inl (upd f219 (Int32.toNatClampNeg v19_4) (-1)))) = G30 at hA30 hX30 kt30 hB30_v19_3 ⊢
      refine y_blk 2 tq_X12_steps (z := (19, [(4, .int (v19_4 + 1)), (0, .ref (ad 200)), (1, .int from_), (2, .ref v19_2), (3, .ref v19_3)], [])) rfl ?_
      refine y_pick (L2 := [(0, .ref (ad 200)), (1, .int from_), (2, .ref v19_2), (3, .ref v19_3), (4, .int (v19_4 + 1))]) [1, 2, 3, 4, 0] rfl ?_
      exact ih19 _ (by exact ydec c23) v19_2 v19_3 (v19_4 + 1) G30 (upd f219 (Int32.toNatClampNeg v19_4) (-1)) f319 hX30 kt30 hA30 hB30_v19_3 (by first | decide | exact yposgeL (by assumption) c23) (by first | exact stQ_i0 | exact stQ_i1 h0_19 b23 h19) rfl
  refine y_blk 1 tq_X12_steps (z := (1, [(0, .ref (ad 200)), (1, .int from_)], [.ref (ad 200)])) rfl ?_
  refine y_get hS tq_X12_steps (v := .ref (ad 201)) rfl fg_X12_7_X12 hX.m rfl ?_
  refine y_blk 0 tq_X12_steps (z := (4, [(0, .ref (ad 200)), (1, .int from_)], [.ref (ad 201)])) rfl ?_
  refine y_alen hS tq_X12_steps 0 rfl rfl hX.ki ?_
  refine y_blk 0 tq_X12_steps (z := (5, [(0, .ref (ad 200)), (1, .int from_)], [.int (Int32.ofNat (rZ ρ 201))])) rfl ?_
  refine y_less (k2 := 1 + 1) (n2 := 64 + (rZ ρ 201)) (by omega) (by omega) ?_
  refine y_newa_int 500 hS tq_X12_steps rfl wd_176 (by rw [ylt, yl_0, yofn (by omega)]; omega) (yofc (by omega)) (by omega) (fun a5 hne5 => ?_)
  have hle5 : yLe G (yup G a5 (500, .inl (aC 0, (rZ ρ 201), .inl (fun _ => 0)))) := yLe.new hne5
  have hA5 : (yup G a5 (500, .inl (aC 0, (rZ ρ 201), .inl (fun _ => 0)))) a5 = some (500, .inl (aC 0, (rZ ρ 201), .inl (fun _ => 0))) := yup_s _ _ _
  generalize yup G a5 (500, .inl (aC 0, (rZ ρ 201), .inl (fun _ => 0))) = G5 at hle5 hA5 ⊢
  have hX5 := hX.le hle5
  have kt5 := ((yTg.rfl' (f := kA) (G := G))).trans (yTg.le hle5)
  refine y_blk 2 tq_X12_steps (z := (9, [(2, .ref a5), (0, .ref (ad 200)), (1, .int from_)], [.ref (ad 200)])) rfl ?_
  refine y_get hS tq_X12_steps (v := .ref (ad 201)) rfl fg_X12_7_X12 hX5.m rfl ?_
  refine y_blk 0 tq_X12_steps (z := (12, [(2, .ref a5), (0, .ref (ad 200)), (1, .int from_)], [.ref (ad 201)])) rfl ?_
  refine y_alen hS tq_X12_steps 0 rfl rfl hX5.ki ?_
  refine y_blk 0 tq_X12_steps (z := (13, [(2, .ref a5), (0, .ref (ad 200)), (1, .int from_)], [.int (Int32.ofNat (rZ ρ 201))])) rfl ?_
  refine y_less (k2 := 0 + 1) (n2 := 0 + (rZ ρ 201)) (by omega) (by omega) ?_
  refine y_newa_int 501 hS tq_X12_steps rfl wd_176 (by rw [ylt, yl_0, yofn (by omega)]; omega) (yofc (by omega)) (by omega) (fun a13 hne13 => ?_)
  have hle13 : yLe G5 (yup G5 a13 (501, .inl (aC 0, (rZ ρ 201), .inl (fun _ => 0)))) := yLe.new hne13
  have hA13 : (yup G5 a13 (501, .inl (aC 0, (rZ ρ 201), .inl (fun _ => 0)))) a13 = some (501, .inl (aC 0, (rZ ρ 201), .inl (fun _ => 0))) := yup_s _ _ _
  generalize yup G5 a13 (501, .inl (aC 0, (rZ ρ 201), .inl (fun _ => 0))) = G13 at hle13 hA13 ⊢
  have hX13 := hX5.le hle13
  have kt13 := (kt5).trans (yTg.le hle13)
  refine y_blk 3 tq_X12_steps (z := (19, [(4, .int 0), (3, .ref a13), (2, .ref a5), (0, .ref (ad 200)), (1, .int from_)], [])) rfl ?_
  refine y_pick (L2 := [(0, .ref (ad 200)), (1, .int from_), (2, .ref a5), (3, .ref a13), (4, .int 0)]) [3, 4, 2, 1, 0] rfl ?_
  exact J19 _ a5 a13 0 G13 (fun _ => 0) (fun _ => 0) hX13 kt13 (hle13 _ _ hA5) hA13 (by first | decide | exact yposgeL (by assumption) c23) (by first | exact stQ_i0 | exact stQ_i1 h0_19 b23 h19) rfl
