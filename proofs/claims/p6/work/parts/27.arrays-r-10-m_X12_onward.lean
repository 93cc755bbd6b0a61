/-! part -/
set_option maxHeartbeats 4000000 in
set_option maxRecDepth 100000 in
theorem m_X12_onward {l : Launch} {S0 : State} {A0 : Array Value} {D : va_G} {aC : Nat → ClassId} {ic : Int32 → Nat} {de : Nat} {ad : Nat → Nat} {G : AH} {ρ : RS} (hS : yS l S0 A0 D aC) (hI : yIc S0 ic de) (hX : atR aC ic de ad G ρ) (minute : Int32) {w : Nat} {fw : Nat → Int32} (hw : G w = some (501, .inl (aC 2, rZ ρ 201, .inl fw))) : yM l S0 D yX12_onward cX12_onward 7 (some (.array .boolean)) 22 1 64 [.ref (ad 200), .ref w, .int minute] G (fun r G1 => ∃ (a : Nat) (f : Nat → Int32), r = some (.ref a) ∧ G1 a = some (501, .inl (aC 2, rZ ρ 201, .inl f)) ∧ yTg kA G G1) (fun _ _ => False) := by
  refine yM.ofK K_X12_onward rfl (by decide) (Nat.le_of_ble_eq_true rfl) ?_
  have hn64 := hX.2.n64
  refine y_retag (t2 := 500) hw (by decide) ?_
  have hw0 : (yup G w (500, .inl (aC 2, (rZ ρ 201), .inl fw))) w = some (500, .inl (aC 2, (rZ ρ 201), .inl fw)) := yup_s _ _ _
  have hX0 : atR aC ic de ad (yup G w (500, .inl (aC 2, (rZ ρ 201), .inl fw))) ρ := hX.kp (yTg.ret hw (by decide))
  have kt0 : yTg kA G (yup G w (500, .inl (aC 2, (rZ ρ 201), .inl fw))) := yTg.ret hw (by decide)
  generalize yup G w (500, .inl (aC 2, (rZ ρ 201), .inl fw)) = G0 at hw0 hX0 kt0 ⊢
  have J8 : ∀ (n8 : Nat) (v8_3 : Nat) (v8_4 : Int32) (G8 : AH) (f18 : Nat → Int32) (f38 : Nat → Int32) (hX8 : atR aC ic de ad G8 ρ) (kt8 : yTg kA G G8) (pA18 : G8 w = some (500, .inl (aC 2, rZ ρ 201, .inl f18))) (pA38 : G8 v8_3 = some (501, .inl (aC 2, rZ ρ 201, .inl f38))) (h0_8 : 0 ≤ v8_4.toInt), ((Int32.ofNat (rZ ρ 201) : Int32).toInt - v8_4.toInt).toNat = n8 → Y l S0 D K_X12_onward 22 1 64 (fun r G1 => ∃ (a : Nat) (f : Nat → Int32), r = some (.ref a) ∧ G1 a = some (501, .inl (aC 2, rZ ρ 201, .inl f)) ∧ yTg kA G G1) (fun _ _ => False) 8 [(0, .ref (ad 200)), (1, .ref w), (2, .int minute), (3, .ref v8_3), (4, .int v8_4)] [] G8 0 0 := by
    intro n8
    induction n8 using Nat.strongRecOn with
    | _ n8 ih8 =>
    intro v8_3 v8_4 G8 f18 f38 hX8 kt8 pA18 pA38 h0_8 hn8
    subst hn8
    have J74 : ∀ (G74 : AH) (f174 : Nat → Int32) (f374 : Nat → Int32) (hX74 : atR aC ic de ad G74 ρ) (kt74 : yTg kA G G74) (pA174 : G74 w = some (500, .inl (aC 2, rZ ρ 201, .inl f174))) (pA374 : G74 v8_3 = some (501, .inl (aC 2, rZ ρ 201, .inl f374))) (c12 : ¬ (Int32.ofNat (rZ ρ 201) : Int32) ≤ v8_4), Y l S0 D K_X12_onward 22 1 64 (fun r G1 => ∃ (a : Nat) (f : Nat → Int32), r = some (.ref a) ∧ G1 a = some (501, .inl (aC 2, rZ ρ 201, .inl f)) ∧ yTg kA G G1) (fun _ _ => False) 74 [(0, .ref (ad 200)), (1, .ref w), (2, .int minute), (3, .ref v8_3), (4, .int v8_4)] [] G74 0 0 := by
      intro G74 f174 f374 hX74 kt74 pA174 pA374 c12
      have b12 : v8_4.toInt < rZ ρ 201 := yIy (by omega) h0_8 c12
      have e12 : rcell ρ v8_4 := ⟨h0_8, b12⟩
      refine y_blk 2 tq_X12_onward (z := (8, [(4, .int (v8_4 + 1)), (0, .ref (ad 200)), (1, .ref w), (2, .int minute), (3, .ref v8_3)], [])) rfl ?_
      refine y_pick (L2 := [(0, .ref (ad 200)), (1, .ref w), (2, .int minute), (3, .ref v8_3), (4, .int (v8_4 + 1))]) [1, 2, 3, 4, 0] rfl ?_
      exact ih8 _ (by exact ydec c12) v8_3 (v8_4 + 1) G74 f174 f374 hX74 kt74 pA174 pA374 (by first | decide | assumption | exact yposgeL (by assumption) c12) rfl
    have J28 : ∀ (n28 : Nat) (v28_5 : Int32) (G28 : AH) (f128 : Nat → Int32) (f328 : Nat → Int32) (hX28 : atR aC ic de ad G28 ρ) (kt28 : yTg kA G G28) (pA128 : G28 w = some (500, .inl (aC 2, rZ ρ 201, .inl f128))) (pA328 : G28 v8_3 = some (501, .inl (aC 2, rZ ρ 201, .inl f328))) (h0_28 : 0 ≤ v28_5.toInt) (c12 : ¬ (Int32.ofNat (rZ ρ 201) : Int32) ≤ v8_4), ((4 : Int32).toInt + 1 - v28_5.toInt).toNat = n28 → Y l S0 D K_X12_onward 22 1 64 (fun r G1 => ∃ (a : Nat) (f : Nat → Int32), r = some (.ref a) ∧ G1 a = some (501, .inl (aC 2, rZ ρ 201, .inl f)) ∧ yTg kA G G1) (fun _ _ => False) 28 [(0, .ref (ad 200)), (1, .ref w), (2, .int minute), (3, .ref v8_3), (4, .int v8_4), (5, .int v28_5)] [] G28 0 0 := by
      intro n28
      induction n28 using Nat.strongRecOn with
      | _ n28 ih28 =>
      intro v28_5 G28 f128 f328 hX28 kt28 pA128 pA328 h0_28 c12 hn28
      subst hn28
      have b12 : v8_4.toInt < rZ ρ 201 := yIy (by omega) h0_8 c12
      have e12 : rcell ρ v8_4 := ⟨h0_8, b12⟩
      have J68 : ∀ (v68_6 : Int32) (G68 : AH) (f168 : Nat → Int32) (f368 : Nat → Int32) (hX68 : atR aC ic de ad G68 ρ) (kt68 : yTg kA G G68) (pA168 : G68 w = some (500, .inl (aC 2, rZ ρ 201, .inl f168))) (pA368 : G68 v8_3 = some (501, .inl (aC 2, rZ ρ 201, .inl f368))) (c31 : ¬ (4 : Int32) < v28_5) (c12 : ¬ (Int32.ofNat (rZ ρ 201) : Int32) ≤ v8_4), Y l S0 D K_X12_onward 22 1 64 (fun r G1 => ∃ (a : Nat) (f : Nat → Int32), r = some (.ref a) ∧ G1 a = some (501, .inl (aC 2, rZ ρ 201, .inl f)) ∧ yTg kA G G1) (fun _ _ => False) 68 [(0, .ref (ad 200)), (1, .ref w), (2, .int minute), (3, .ref v8_3), (4, .int v8_4), (5, .int v28_5), (6, .int v68_6)] [] G68 0 0 := by
        intro v68_6 G68 f168 f368 hX68 kt68 pA168 pA368 c31 c12
        have b31 : v28_5.toInt ≤ 4 := by rw [ylt] at c31; have z9 : (4 : Int32).toInt = 4 := (by decide); omega
        have b12 : v8_4.toInt < rZ ρ 201 := yIy (by omega) h0_8 c12
        have e12 : rcell ρ v8_4 := ⟨h0_8, b12⟩
        refine y_blk 2 tq_X12_onward (z := (28, [(5, .int (v28_5 + 1)), (0, .ref (ad 200)), (1, .ref w), (2, .int minute), (3, .ref v8_3), (4, .int v8_4), (6, .int v68_6)], [])) rfl ?_
        refine y_pick (L2 := [(0, .ref (ad 200)), (1, .ref w), (2, .int minute), (3, .ref v8_3), (4, .int v8_4), (5, .int (v28_5 + 1))]) [1, 2, 3, 4, 5, 0] rfl ?_
        exact ih28 _ (by exact ydec2 c31 (by decide)) (v28_5 + 1) G68 f168 f368 hX68 kt68 pA168 pA368 (by first | decide | assumption | exact Int.le_refl _ | exact yposgtL (by assumption) c31 (by decide)) (by exact c12) rfl
      refine y_blk 2 tq_X12_onward (z := (31, [(0, .ref (ad 200)), (1, .ref w), (2, .int minute), (3, .ref v8_3), (4, .int v8_4), (5, .int v28_5)], [.int 4, .int v28_5])) rfl ?_
      refine y_icmp_gt tq_X12_onward 74 rfl rfl (fun c31 => ?_) (fun c31 => ?_)
      · skip
        refine y_blk 0 tq_X12_onward (z := (74, [(0, .ref (ad 200)), (1, .ref w), (2, .int minute), (3, .ref v8_3), (4, .int v8_4), (5, .int v28_5)], [])) rfl ?_
        refine y_pick (L2 := [(0, .ref (ad 200)), (1, .ref w), (2, .int minute), (3, .ref v8_3), (4, .int v8_4)]) [0, 1, 2, 3, 4] rfl ?_
        exact J74 G28 f128 f328 hX28 kt28 pA128 pA328 (by exact c12)
      · skip
        have b31 : v28_5.toInt ≤ 4 := by rw [ylt] at c31; have z9 : (4 : Int32).toInt = 4 := (by decide); omega
        refine y_blk 3 tq_X12_onward (z := (39, [(0, .ref (ad 200)), (1, .ref w), (2, .int minute), (3, .ref v8_3), (4, .int v8_4), (5, .int v28_5)], [.int v28_5, .int v8_4, .ref (ad 200)])) rfl ?_
        refine y_callV hS tq_X12_onward rfl (As := [.int v8_4, .int v28_5]) rfl cv_X12_240 hX28.m (m_X12_moved hS hI hX28 v8_4 v28_5 (by first | assumption | exact hX28.lac (by assumption) | exact hX28.poc (by assumption) | exact hX28.wac (by assumption) (by assumption) (by omega))) rfl (by decide) (Nat.le_of_ble_eq_true rfl) (fun r39 Gc39 q39 => ?_) (fun E9 G9 h9 => h9.elim)
        obtain ⟨⟨x39, hr_x39, rfl⟩, eG39⟩ := q39
        have eG39 := eG39.symm
        subst eG39
        refine y_blk 3 tq_X12_onward (z := (47, [(6, .int x39), (0, .ref (ad 200)), (1, .ref w), (2, .int minute), (3, .ref v8_3), (4, .int v8_4), (5, .int v28_5)], [.int (-1), .int x39])) rfl ?_
        refine y_icmp_eq tq_X12_onward 68 rfl rfl (fun c47 => ?_) (fun c47 => ?_)
        · skip
          refine y_blk 0 tq_X12_onward (z := (68, [(6, .int x39), (0, .ref (ad 200)), (1, .ref w), (2, .int minute), (3, .ref v8_3), (4, .int v8_4), (5, .int v28_5)], [])) rfl ?_
          refine y_pick (L2 := [(0, .ref (ad 200)), (1, .ref w), (2, .int minute), (3, .ref v8_3), (4, .int v8_4), (5, .int v28_5), (6, .int x39)]) [1, 2, 3, 4, 5, 6, 0] rfl ?_
          exact J68 x39 G28 f128 f328 hX28 kt28 pA128 pA328 (by exact c31) (by exact c12)
        · skip
          have hmv := hr_x39.1.resolve_left c47
          have hm0 := hmv.1
          have hm1 := hmv.2
          refine y_blk 2 tq_X12_onward (z := (53, [(6, .int x39), (0, .ref (ad 200)), (1, .ref w), (2, .int minute), (3, .ref v8_3), (4, .int v8_4), (5, .int v28_5)], [.int x39, .ref v8_3])) rfl ?_
          refine y_zald hS tq_X12_onward rfl pA328 (by first | exact yIn (by decide) (by decide) | exact yIn (by assumption) (by assumption) | (exact yIn (by omega) (by omega))) ?_
          refine y_blk 0 tq_X12_onward (z := (54, [(6, .int x39), (0, .ref (ad 200)), (1, .ref w), (2, .int minute), (3, .ref v8_3), (4, .int v8_4), (5, .int v28_5)], [.int (f328 (Int32.toNatClampNeg x39))])) rfl ?_
          refine y_if_ne tq_X12_onward 68 rfl rfl (fun c54 => ?_) (fun c54 => ?_)
          · skip
            refine y_blk 0 tq_X12_onward (z := (68, [(6, .int x39), (0, .ref (ad 200)), (1, .ref w), (2, .int minute), (3, .ref v8_3), (4, .int v8_4), (5, .int v28_5)], [])) rfl ?_
            refine y_pick (L2 := [(0, .ref (ad 200)), (1, .ref w), (2, .int minute), (3, .ref v8_3), (4, .int v8_4), (5, .int v28_5), (6, .int x39)]) [1, 2, 3, 4, 5, 6, 0] rfl ?_
            exact J68 x39 G28 f128 f328 hX28 kt28 pA128 pA328 (by exact c31) (by exact c12)
          · skip
            refine y_blk 5 tq_X12_onward (z := (64, [(6, .int x39), (0, .ref (ad 200)), (1, .ref w), (2, .int minute), (3, .ref v8_3), (4, .int v8_4), (5, .int v28_5)], [.int minute, .int x39, .ref (ad 200), .int x39, .ref v8_3])) rfl ?_
            refine y_callV hS tq_X12_onward rfl (As := [.int x39, .int minute]) rfl cv_X12_280 hX28.m (m_X12_isUnseen hS hI hX28 x39 minute (by first | assumption | exact hX28.lac (by assumption) | exact hX28.poc (by assumption) | exact hX28.wac (by assumption) (by assumption) (by omega))) rfl (by decide) (Nat.le_of_ble_eq_true rfl) (fun r64 Gc64 q64 => ?_) (fun E9 G9 h9 => h9.elim)
            obtain ⟨⟨x64, hb_x64, rfl⟩, eG64⟩ := q64
            have eG64 := eG64.symm
            subst eG64
            refine y_blk 0 tq_X12_onward (z := (67, [(6, .int x39), (0, .ref (ad 200)), (1, .ref w), (2, .int minute), (3, .ref v8_3), (4, .int v8_4), (5, .int v28_5)], [.int x64, .int x39, .ref v8_3])) rfl ?_
            refine y_zast hS tq_X12_onward rfl pA328 (by decide) (by first | exact yIn (by decide) (by decide) | exact yIn (by assumption) (by assumption) | (exact yIn (by omega) (by omega))) ?_
            have hA67 : (yup G28 v8_3 (501, .inl (aC 2, (rZ ρ 201), .inl (upd f328 (Int32.toNatClampNeg x39) (vp_nar .boolean x64))))) v8_3 = some (501, .inl (aC 2, (rZ ρ 201), .inl (upd f328 (Int32.toNatClampNeg x39) (vp_nar .boolean x64)))) := yup_s _ _ _
            have hX67 : atR aC ic de ad (yup G28 v8_3 (501, .inl (aC 2, (rZ ρ 201), .inl (upd f328 (Int32.toNatClampNeg x39) (vp_nar .boolean x64))))) ρ := hX28.kp (yTg.up pA328 (by decide))
            have kt67 : yTg kA G (yup G28 v8_3 (501, .inl (aC 2, (rZ ρ 201), .inl (upd f328 (Int32.toNatClampNeg x39) (vp_nar .boolean x64))))) := (kt28).trans (yTg.up pA328 (by decide))
            have hB67_w : (yup G28 v8_3 (501, .inl (aC 2, (rZ ρ 201), .inl (upd f328 (Int32.toNatClampNeg x39) (vp_nar .boolean x64))))) w = some (500, .inl (aC 2, (rZ ρ 201), .inl f128)) := yup_o pA128 pA328 (by decide)
            generalize yup G28 v8_3 (501, .inl (aC 2, (rZ ρ 201), .inl (upd f328 (Int32.toNatClampNeg x39) (vp_nar .boolean x64)))) = G67 at hA67 hX67 kt67 hB67_w ⊢
            generalize (upd f328 (Int32.toNatClampNeg x39) (vp_nar .boolean x64)) = f67 at hA67
            refine y_blk 0 tq_X12_onward (z := (68, [(6, .int x39), (0, .ref (ad 200)), (1, .ref w), (2, .int minute), (3, .ref v8_3), (4, .int v8_4), (5, .int v28_5)], [])) rfl ?_
            refine y_pick (L2 := [(0, .ref (ad 200)), (1, .ref w), (2, .int minute), (3, .ref v8_3), (4, .int v8_4), (5, .int v28_5), (6, .int x39)]) [1, 2, 3, 4, 5, 6, 0] rfl ?_
            exact J68 x39 G67 f128 f67 hX67 kt67 hB67_w hA67 (by exact c31) (by exact c12)
    refine y_blk 2 tq_X12_onward (z := (11, [(0, .ref (ad 200)), (1, .ref w), (2, .int minute), (3, .ref v8_3), (4, .int v8_4)], [.ref w, .int v8_4])) rfl ?_
    refine y_alen hS tq_X12_onward 2 rfl rfl pA18 ?_
    refine y_blk 0 tq_X12_onward (z := (12, [(0, .ref (ad 200)), (1, .ref w), (2, .int minute), (3, .ref v8_3), (4, .int v8_4)], [.int (Int32.ofNat (rZ ρ 201)), .int v8_4])) rfl ?_
    refine y_icmp_ge tq_X12_onward 80 rfl rfl (fun c12 => ?_) (fun c12 => ?_)
    · skip
      refine y_blk 1 tq_X12_onward (z := (81, [(0, .ref (ad 200)), (1, .ref w), (2, .int minute), (3, .ref v8_3), (4, .int v8_4)], [.ref v8_3])) rfl ?_
      exact y_aret tq_X12_onward rfl rfl (Or.inr ⟨_, rfl⟩) (Or.inr ⟨_, rfl⟩) (⟨_, _, rfl, pA38, kt8⟩)
    · skip
      have b12 : v8_4.toInt < rZ ρ 201 := yIy (by omega) h0_8 c12
      have e12 : rcell ρ v8_4 := ⟨h0_8, b12⟩
      refine y_blk 2 tq_X12_onward (z := (18, [(0, .ref (ad 200)), (1, .ref w), (2, .int minute), (3, .ref v8_3), (4, .int v8_4)], [.int v8_4, .ref w])) rfl ?_
      refine y_zald hS tq_X12_onward rfl pA18 (by first | exact yIn (by decide) (by decide) | exact yIn (by assumption) (by assumption) | (exact yIn (by omega) (by omega))) ?_
      refine y_blk 0 tq_X12_onward (z := (19, [(0, .ref (ad 200)), (1, .ref w), (2, .int minute), (3, .ref v8_3), (4, .int v8_4)], [.int (f18 (Int32.toNatClampNeg v8_4))])) rfl ?_
      refine y_if_ne tq_X12_onward 25 rfl rfl (fun c19 => ?_) (fun c19 => ?_)
      · skip
        refine y_blk 2 tq_X12_onward (z := (28, [(5, .int 0), (0, .ref (ad 200)), (1, .ref w), (2, .int minute), (3, .ref v8_3), (4, .int v8_4)], [])) rfl ?_
        refine y_pick (L2 := [(0, .ref (ad 200)), (1, .ref w), (2, .int minute), (3, .ref v8_3), (4, .int v8_4), (5, .int 0)]) [1, 2, 3, 4, 5, 0] rfl ?_
        exact J28 _ 0 G8 f18 f38 hX8 kt8 pA18 pA38 (by first | decide | assumption | exact Int.le_refl _ | exact yposgtL (by assumption) c31 (by decide)) (by exact c12) rfl
      · skip
        refine y_blk 1 tq_X12_onward (z := (74, [(0, .ref (ad 200)), (1, .ref w), (2, .int minute), (3, .ref v8_3), (4, .int v8_4)], [])) rfl ?_
        exact J74 G8 f18 f38 hX8 kt8 pA18 pA38 (by exact c12)
  refine y_blk 1 tq_X12_onward (z := (1, [(0, .ref (ad 200)), (1, .ref w), (2, .int minute)], [.ref w])) rfl ?_
  refine y_alen hS tq_X12_onward 2 rfl rfl hw0 ?_
  refine y_blk 0 tq_X12_onward (z := (2, [(0, .ref (ad 200)), (1, .ref w), (2, .int minute)], [.int (Int32.ofNat (rZ ρ 201))])) rfl ?_
  refine y_less (k2 := 0 + 1) (n2 := 0 + (rZ ρ 201)) (by omega) (by omega) ?_
  refine y_newa_bool 501 hS tq_X12_onward rfl wd_2116 (by rw [ylt, yl_0, yofn (by omega)]; omega) (yofc (by omega)) (by omega) (fun a2 hne2 => ?_)
  have hle2 : yLe G0 (yup G0 a2 (501, .inl (aC 2, (rZ ρ 201), .inl (fun _ => 0)))) := yLe.new hne2
  have hA2 : (yup G0 a2 (501, .inl (aC 2, (rZ ρ 201), .inl (fun _ => 0)))) a2 = some (501, .inl (aC 2, (rZ ρ 201), .inl (fun _ => 0))) := yup_s _ _ _
  generalize yup G0 a2 (501, .inl (aC 2, (rZ ρ 201), .inl (fun _ => 0))) = G2 at hle2 hA2 ⊢
  have hX2 := hX0.le hle2
  have kt2 := (kt0).trans (yTg.le hle2)
  refine y_blk 3 tq_X12_onward (z := (8, [(4, .int 0), (3, .ref a2), (0, .ref (ad 200)), (1, .ref w), (2, .int minute)], [])) rfl ?_
  refine y_pick (L2 := [(0, .ref (ad 200)), (1, .ref w), (2, .int minute), (3, .ref a2), (4, .int 0)]) [2, 3, 4, 1, 0] rfl ?_
  exact J8 _ a2 0 G2 fw (fun _ => 0) hX2 kt2 (hle2 _ _ hw0) hA2 (by first | decide | assumption | exact yposgeL (by assumption) c12) rfl

