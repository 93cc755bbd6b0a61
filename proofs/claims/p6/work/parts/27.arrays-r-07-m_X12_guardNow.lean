/-! part -/
set_option maxHeartbeats 4000000 in
set_option maxRecDepth 100000 in
theorem m_X12_guardNow {l : Launch} {S0 : State} {A0 : Array Value} {D : va_G} {aC : Nat → ClassId} {ic : Int32 → Nat} {de : Nat} {ad : Nat → Nat} {G : AH} {ρ : RS} (hS : yS l S0 A0 D aC) (hI : yIc S0 ic de) (hX : atR aC ic de ad G ρ) (guard : Int32) (what : Int32) (hg0 : 0 ≤ guard.toInt) (hg1 : guard.toInt < rZ ρ 212) (hw0 : 0 ≤ what.toInt) (hw1 : what.toInt < 9) : yM l S0 D yX12_guardNow cX12_guardNow 6 (some .int) 16 1 9 [.ref (ad 200), .int guard, .int what] G (fun r G1 => (∃ v : Int32, r = some (.int v)) ∧ yTg kA G G1) (fun _ _ => False) := by
  refine yM.ofK K_X12_guardNow rfl (by decide) (Nat.le_of_ble_eq_true rfl) ?_
  have dg := yIx hg0 hg1
  have J20 : ∀ (n20 : Nat) (v20_4 : Int32) (v20_5 : Int32) (h0_20 : 0 ≤ v20_5.toInt), ((6 : Int32).toInt - v20_5.toInt).toNat = n20 → Y l S0 D K_X12_guardNow 16 1 9 (fun r G1 => (∃ v : Int32, r = some (.int v)) ∧ yTg kA G G1) (fun _ _ => False) 20 [(0, .ref (ad 200)), (1, .int guard), (2, .int what), (3, .ref (ad (360 + (Int32.toNatClampNeg guard)))), (4, .int v20_4), (5, .int v20_5)] [] G 1 9 := by
    intro n20
    induction n20 using Nat.strongRecOn with
    | _ n20 ih20 =>
    intro v20_4 v20_5 h0_20 hn20
    subst hn20
    refine y_blk 2 tq_X12_guardNow (z := (24, [(0, .ref (ad 200)), (1, .int guard), (2, .int what), (3, .ref (ad (360 + (Int32.toNatClampNeg guard)))), (4, .int v20_4), (5, .int v20_5)], [.int 6, .int v20_5])) rfl ?_
    refine y_icmp_ge tq_X12_guardNow 57 rfl rfl (fun c24 => ?_) (fun c24 => ?_)
    · skip
      refine y_blk 1 tq_X12_guardNow (z := (59, [(0, .ref (ad 200)), (1, .int guard), (2, .int what), (3, .ref (ad (360 + (Int32.toNatClampNeg guard)))), (4, .int v20_4), (5, .int v20_5)], [.int 9])) rfl ?_
      refine y_newa_int 500 hS tq_X12_guardNow (kc := 0) (ks := 0) (n := 9) rfl wd_176 (by decide) (by decide) (by decide) (fun a59 hne59 => ?_)
      have hle59 : yLe G (yup G a59 (500, .inl (aC 0, 9, .inl (fun _ => 0)))) := yLe.new hne59
      have hA59 : (yup G a59 (500, .inl (aC 0, 9, .inl (fun _ => 0)))) a59 = some (500, .inl (aC 0, 9, .inl (fun _ => 0))) := yup_s _ _ _
      generalize yup G a59 (500, .inl (aC 0, 9, .inl (fun _ => 0))) = G59 at hle59 hA59 ⊢
      have hX59 := hX.le hle59
      have kt59 := ((yTg.rfl' (f := kA) (G := G))).trans (yTg.le hle59)
      refine y_blk 3 tq_X12_guardNow (z := (64, [(0, .ref (ad 200)), (1, .int guard), (2, .int what), (3, .ref (ad (360 + (Int32.toNatClampNeg guard)))), (4, .int v20_4), (5, .int v20_5)], [.ref (ad (360 + (Int32.toNatClampNeg guard))), .int 0, .ref a59, .ref a59])) rfl ?_
      refine y_get hS tq_X12_guardNow (v := .int (rF ρ (360 + (Int32.toNatClampNeg guard)) 0)) rfl fg_X12_216_X10 (hX59.gu (by assumption)) rfl ?_
      refine y_blk 0 tq_X12_guardNow (z := (67, [(0, .ref (ad 200)), (1, .int guard), (2, .int what), (3, .ref (ad (360 + (Int32.toNatClampNeg guard)))), (4, .int v20_4), (5, .int v20_5)], [.int (rF ρ (360 + (Int32.toNatClampNeg guard)) 0), .int 0, .ref a59, .ref a59])) rfl ?_
      refine y_iast hS tq_X12_guardNow rfl hA59 (by decide) (by first | exact yIn (by decide) (by decide) | exact yIn (by assumption) (by assumption) | (exact yIn (by omega) (by omega))) ?_
      have hA67 : (yup G59 a59 (500, .inl (aC 0, 9, .inl (upd (fun _ => 0) (Int32.toNatClampNeg 0) (rF ρ (360 + (Int32.toNatClampNeg guard)) 0))))) a59 = some (500, .inl (aC 0, 9, .inl (upd (fun _ => 0) (Int32.toNatClampNeg 0) (rF ρ (360 + (Int32.toNatClampNeg guard)) 0)))) := yup_s _ _ _
      have hX67 : atR aC ic de ad (yup G59 a59 (500, .inl (aC 0, 9, .inl (upd (fun _ => 0) (Int32.toNatClampNeg 0) (rF ρ (360 + (Int32.toNatClampNeg guard)) 0))))) ρ := hX59.kp (yTg.up hA59 (by decide))
      have kt67 : yTg kA G (yup G59 a59 (500, .inl (aC 0, 9, .inl (upd (fun _ => 0) (Int32.toNatClampNeg 0) (rF ρ (360 + (Int32.toNatClampNeg guard)) 0))))) := (kt59).trans (yTg.up hA59 (by decide))
      generalize yup G59 a59 (500, .inl (aC 0, 9, .inl (upd (fun _ => 0) (Int32.toNatClampNeg 0) (rF ρ (360 + (Int32.toNatClampNeg guard)) 0)))) = G67 at hA67 hX67 kt67 ⊢
      generalize (upd (fun _ => 0) (Int32.toNatClampNeg 0) (rF ρ (360 + (Int32.toNatClampNeg guard)) 0)) = f67 at hA67
      refine y_blk 3 tq_X12_guardNow (z := (71, [(0, .ref (ad 200)), (1, .int guard), (2, .int what), (3, .ref (ad (360 + (Int32.toNatClampNeg guard)))), (4, .int v20_4), (5, .int v20_5)], [.ref (ad (360 + (Int32.toNatClampNeg guard))), .int 1, .ref a59, .ref a59])) rfl ?_
      refine y_get hS tq_X12_guardNow (v := .int (rF ρ (360 + (Int32.toNatClampNeg guard)) 1)) rfl fg_X12_219_X10 (hX67.gu (by assumption)) rfl ?_
      refine y_blk 0 tq_X12_guardNow (z := (74, [(0, .ref (ad 200)), (1, .int guard), (2, .int what), (3, .ref (ad (360 + (Int32.toNatClampNeg guard)))), (4, .int v20_4), (5, .int v20_5)], [.int (rF ρ (360 + (Int32.toNatClampNeg guard)) 1), .int 1, .ref a59, .ref a59])) rfl ?_
      refine y_iast hS tq_X12_guardNow rfl hA67 (by decide) (by first | exact yIn (by decide) (by decide) | exact yIn (by assumption) (by assumption) | (exact yIn (by omega) (by omega))) ?_
      have hA74 : (yup G67 a59 (500, .inl (aC 0, 9, .inl (upd f67 (Int32.toNatClampNeg 1) (rF ρ (360 + (Int32.toNatClampNeg guard)) 1))))) a59 = some (500, .inl (aC 0, 9, .inl (upd f67 (Int32.toNatClampNeg 1) (rF ρ (360 + (Int32.toNatClampNeg guard)) 1)))) := yup_s _ _ _
      have hX74 : atR aC ic de ad (yup G67 a59 (500, .inl (aC 0, 9, .inl (upd f67 (Int32.toNatClampNeg 1) (rF ρ (360 + (Int32.toNatClampNeg guard)) 1))))) ρ := hX67.kp (yTg.up hA67 (by decide))
      have kt74 : yTg kA G (yup G67 a59 (500, .inl (aC 0, 9, .inl (upd f67 (Int32.toNatClampNeg 1) (rF ρ (360 + (Int32.toNatClampNeg guard)) 1))))) := (kt67).trans (yTg.up hA67 (by decide))
      generalize yup G67 a59 (500, .inl (aC 0, 9, .inl (upd f67 (Int32.toNatClampNeg 1) (rF ρ (360 + (Int32.toNatClampNeg guard)) 1)))) = G74 at hA74 hX74 kt74 ⊢
      generalize (upd f67 (Int32.toNatClampNeg 1) (rF ρ (360 + (Int32.toNatClampNeg guard)) 1)) = f74 at hA74
      refine y_blk 3 tq_X12_guardNow (z := (78, [(0, .ref (ad 200)), (1, .int guard), (2, .int what), (3, .ref (ad (360 + (Int32.toNatClampNeg guard)))), (4, .int v20_4), (5, .int v20_5)], [.ref (ad (360 + (Int32.toNatClampNeg guard))), .int 2, .ref a59, .ref a59])) rfl ?_
      refine y_get hS tq_X12_guardNow (v := .int (rF ρ (360 + (Int32.toNatClampNeg guard)) 2)) rfl fg_X12_222_X10 (hX74.gu (by assumption)) rfl ?_
      refine y_blk 0 tq_X12_guardNow (z := (81, [(0, .ref (ad 200)), (1, .int guard), (2, .int what), (3, .ref (ad (360 + (Int32.toNatClampNeg guard)))), (4, .int v20_4), (5, .int v20_5)], [.int (rF ρ (360 + (Int32.toNatClampNeg guard)) 2), .int 2, .ref a59, .ref a59])) rfl ?_
      refine y_iast hS tq_X12_guardNow rfl hA74 (by decide) (by first | exact yIn (by decide) (by decide) | exact yIn (by assumption) (by assumption) | (exact yIn (by omega) (by omega))) ?_
      have hA81 : (yup G74 a59 (500, .inl (aC 0, 9, .inl (upd f74 (Int32.toNatClampNeg 2) (rF ρ (360 + (Int32.toNatClampNeg guard)) 2))))) a59 = some (500, .inl (aC 0, 9, .inl (upd f74 (Int32.toNatClampNeg 2) (rF ρ (360 + (Int32.toNatClampNeg guard)) 2)))) := yup_s _ _ _
      have hX81 : atR aC ic de ad (yup G74 a59 (500, .inl (aC 0, 9, .inl (upd f74 (Int32.toNatClampNeg 2) (rF ρ (360 + (Int32.toNatClampNeg guard)) 2))))) ρ := hX74.kp (yTg.up hA74 (by decide))
      have kt81 : yTg kA G (yup G74 a59 (500, .inl (aC 0, 9, .inl (upd f74 (Int32.toNatClampNeg 2) (rF ρ (360 + (Int32.toNatClampNeg guard)) 2))))) := (kt74).trans (yTg.up hA74 (by decide))
      generalize yup G74 a59 (500, .inl (aC 0, 9, .inl (upd f74 (Int32.toNatClampNeg 2) (rF ρ (360 + (Int32.toNatClampNeg guard)) 2)))) = G81 at hA81 hX81 kt81 ⊢
      generalize (upd f74 (Int32.toNatClampNeg 2) (rF ρ (360 + (Int32.toNatClampNeg guard)) 2)) = f81 at hA81
      refine y_blk 3 tq_X12_guardNow (z := (85, [(0, .ref (ad 200)), (1, .int guard), (2, .int what), (3, .ref (ad (360 + (Int32.toNatClampNeg guard)))), (4, .int v20_4), (5, .int v20_5)], [.ref (ad (360 + (Int32.toNatClampNeg guard))), .int 3, .ref a59, .ref a59])) rfl ?_
      refine y_get hS tq_X12_guardNow (v := .ref (ad (380 + (Int32.toNatClampNeg guard)))) rfl fg_X12_149_X10 (hX81.gu (by assumption)) rfl ?_
      refine y_blk 0 tq_X12_guardNow (z := (88, [(0, .ref (ad 200)), (1, .int guard), (2, .int what), (3, .ref (ad (360 + (Int32.toNatClampNeg guard)))), (4, .int v20_4), (5, .int v20_5)], [.ref (ad (380 + (Int32.toNatClampNeg guard))), .int 3, .ref a59, .ref a59])) rfl ?_
      refine y_callF hS tq_X12_guardNow rfl (As := []) rfl cf_X12_58 (Or.inl ⟨_, (hX81.gl (by assumption)).1⟩) (m_Jsize hS (hX81.gl (by assumption))) rfl (by decide) (Nat.le_of_ble_eq_true rfl) (fun r88 Gc88 q88 => ?_) (fun _ _ h9 => h9.elim)
      obtain ⟨rfl, eG88⟩ := q88
      have eG88 := eG88.symm
      subst eG88
      refine y_blk 0 tq_X12_guardNow (z := (93, [(0, .ref (ad 200)), (1, .int guard), (2, .int what), (3, .ref (ad (360 + (Int32.toNatClampNeg guard)))), (4, .int v20_4), (5, .int v20_5)], [.int (Int32.ofNat (rZ ρ (380 + (Int32.toNatClampNeg guard)))), .int 3, .ref a59, .ref a59])) rfl ?_
      refine y_iast hS tq_X12_guardNow rfl hA81 (by decide) (by first | exact yIn (by decide) (by decide) | exact yIn (by assumption) (by assumption) | (exact yIn (by omega) (by omega))) ?_
      have hA93 : (yup G81 a59 (500, .inl (aC 0, 9, .inl (upd f81 (Int32.toNatClampNeg 3) (Int32.ofNat (rZ ρ (380 + (Int32.toNatClampNeg guard)))))))) a59 = some (500, .inl (aC 0, 9, .inl (upd f81 (Int32.toNatClampNeg 3) (Int32.ofNat (rZ ρ (380 + (Int32.toNatClampNeg guard))))))) := yup_s _ _ _
      have hX93 : atR aC ic de ad (yup G81 a59 (500, .inl (aC 0, 9, .inl (upd f81 (Int32.toNatClampNeg 3) (Int32.ofNat (rZ ρ (380 + (Int32.toNatClampNeg guard)))))))) ρ := hX81.kp (yTg.up hA81 (by decide))
      have kt93 : yTg kA G (yup G81 a59 (500, .inl (aC 0, 9, .inl (upd f81 (Int32.toNatClampNeg 3) (Int32.ofNat (rZ ρ (380 + (Int32.toNatClampNeg guard)))))))) := (kt81).trans (yTg.up hA81 (by decide))
      generalize yup G81 a59 (500, .inl (aC 0, 9, .inl (upd f81 (Int32.toNatClampNeg 3) (Int32.ofNat (rZ ρ (380 + (Int32.toNatClampNeg guard))))))) = G93 at hA93 hX93 kt93 ⊢
      generalize (upd f81 (Int32.toNatClampNeg 3) (Int32.ofNat (rZ ρ (380 + (Int32.toNatClampNeg guard))))) = f93 at hA93
      refine y_blk 3 tq_X12_guardNow (z := (97, [(0, .ref (ad 200)), (1, .int guard), (2, .int what), (3, .ref (ad (360 + (Int32.toNatClampNeg guard)))), (4, .int v20_4), (5, .int v20_5)], [.ref (ad (360 + (Int32.toNatClampNeg guard))), .int 4, .ref a59, .ref a59])) rfl ?_
      refine y_get hS tq_X12_guardNow (v := .int (rF ρ (360 + (Int32.toNatClampNeg guard)) 3)) rfl fg_X12_86_X10 (hX93.gu (by assumption)) rfl ?_
      refine y_blk 0 tq_X12_guardNow (z := (100, [(0, .ref (ad 200)), (1, .int guard), (2, .int what), (3, .ref (ad (360 + (Int32.toNatClampNeg guard)))), (4, .int v20_4), (5, .int v20_5)], [.int (rF ρ (360 + (Int32.toNatClampNeg guard)) 3), .int 4, .ref a59, .ref a59])) rfl ?_
      refine y_iast hS tq_X12_guardNow rfl hA93 (by decide) (by first | exact yIn (by decide) (by decide) | exact yIn (by assumption) (by assumption) | (exact yIn (by omega) (by omega))) ?_
      have hA100 : (yup G93 a59 (500, .inl (aC 0, 9, .inl (upd f93 (Int32.toNatClampNeg 4) (rF ρ (360 + (Int32.toNatClampNeg guard)) 3))))) a59 = some (500, .inl (aC 0, 9, .inl (upd f93 (Int32.toNatClampNeg 4) (rF ρ (360 + (Int32.toNatClampNeg guard)) 3)))) := yup_s _ _ _
      have hX100 : atR aC ic de ad (yup G93 a59 (500, .inl (aC 0, 9, .inl (upd f93 (Int32.toNatClampNeg 4) (rF ρ (360 + (Int32.toNatClampNeg guard)) 3))))) ρ := hX93.kp (yTg.up hA93 (by decide))
      have kt100 : yTg kA G (yup G93 a59 (500, .inl (aC 0, 9, .inl (upd f93 (Int32.toNatClampNeg 4) (rF ρ (360 + (Int32.toNatClampNeg guard)) 3))))) := (kt93).trans (yTg.up hA93 (by decide))
      generalize yup G93 a59 (500, .inl (aC 0, 9, .inl (upd f93 (Int32.toNatClampNeg 4) (rF ρ (360 + (Int32.toNatClampNeg guard)) 3)))) = G100 at hA100 hX100 kt100 ⊢
      generalize (upd f93 (Int32.toNatClampNeg 4) (rF ρ (360 + (Int32.toNatClampNeg guard)) 3)) = f100 at hA100
      refine y_blk 3 tq_X12_guardNow (z := (104, [(0, .ref (ad 200)), (1, .int guard), (2, .int what), (3, .ref (ad (360 + (Int32.toNatClampNeg guard)))), (4, .int v20_4), (5, .int v20_5)], [.ref (ad (360 + (Int32.toNatClampNeg guard))), .int 5, .ref a59, .ref a59])) rfl ?_
      refine y_get hS tq_X12_guardNow (v := .int (rF ρ (360 + (Int32.toNatClampNeg guard)) 3)) rfl fg_X12_86_X10 (hX100.gu (by assumption)) rfl ?_
      refine y_blk 1 tq_X12_guardNow (z := (108, [(0, .ref (ad 200)), (1, .int guard), (2, .int what), (3, .ref (ad (360 + (Int32.toNatClampNeg guard)))), (4, .int v20_4), (5, .int v20_5)], [.int 3, .int (rF ρ (360 + (Int32.toNatClampNeg guard)) 3), .int 5, .ref a59, .ref a59])) rfl ?_
      refine y_icmp_ne tq_X12_guardNow 115 rfl rfl (fun c108 => ?_) (fun c108 => ?_)
      · skip
        refine y_blk 1 tq_X12_guardNow (z := (116, [(0, .ref (ad 200)), (1, .int guard), (2, .int what), (3, .ref (ad (360 + (Int32.toNatClampNeg guard)))), (4, .int v20_4), (5, .int v20_5)], [.int 0, .int 5, .ref a59, .ref a59])) rfl ?_
        refine y_iast hS tq_X12_guardNow rfl hA100 (by decide) (by first | exact yIn (by decide) (by decide) | exact yIn (by assumption) (by assumption) | (exact yIn (by omega) (by omega))) ?_
        have hA116 : (yup G100 a59 (500, .inl (aC 0, 9, .inl (upd f100 (Int32.toNatClampNeg 5) 0)))) a59 = some (500, .inl (aC 0, 9, .inl (upd f100 (Int32.toNatClampNeg 5) 0))) := yup_s _ _ _
        have hX116 : atR aC ic de ad (yup G100 a59 (500, .inl (aC 0, 9, .inl (upd f100 (Int32.toNatClampNeg 5) 0)))) ρ := hX100.kp (yTg.up hA100 (by decide))
        have kt116 : yTg kA G (yup G100 a59 (500, .inl (aC 0, 9, .inl (upd f100 (Int32.toNatClampNeg 5) 0)))) := (kt100).trans (yTg.up hA100 (by decide))
        generalize yup G100 a59 (500, .inl (aC 0, 9, .inl (upd f100 (Int32.toNatClampNeg 5) 0))) = G116 at hA116 hX116 kt116 ⊢
        generalize (upd f100 (Int32.toNatClampNeg 5) 0) = f116 at hA116
        refine y_blk 3 tq_X12_guardNow (z := (122, [(0, .ref (ad 200)), (1, .int guard), (2, .int what), (3, .ref (ad (360 + (Int32.toNatClampNeg guard)))), (4, .int v20_4), (5, .int v20_5)], [.int v20_4, .int 6, .ref a59, .ref a59])) rfl ?_
        refine y_iast hS tq_X12_guardNow rfl hA116 (by decide) (by first | exact yIn (by decide) (by decide) | exact yIn (by assumption) (by assumption) | (exact yIn (by omega) (by omega))) ?_
        have hA122 : (yup G116 a59 (500, .inl (aC 0, 9, .inl (upd f116 (Int32.toNatClampNeg 6) v20_4)))) a59 = some (500, .inl (aC 0, 9, .inl (upd f116 (Int32.toNatClampNeg 6) v20_4))) := yup_s _ _ _
        have hX122 : atR aC ic de ad (yup G116 a59 (500, .inl (aC 0, 9, .inl (upd f116 (Int32.toNatClampNeg 6) v20_4)))) ρ := hX116.kp (yTg.up hA116 (by decide))
        have kt122 : yTg kA G (yup G116 a59 (500, .inl (aC 0, 9, .inl (upd f116 (Int32.toNatClampNeg 6) v20_4)))) := (kt116).trans (yTg.up hA116 (by decide))
        generalize yup G116 a59 (500, .inl (aC 0, 9, .inl (upd f116 (Int32.toNatClampNeg 6) v20_4))) = G122 at hA122 hX122 kt122 ⊢
        generalize (upd f116 (Int32.toNatClampNeg 6) v20_4) = f122 at hA122
        refine y_blk 3 tq_X12_guardNow (z := (127, [(0, .ref (ad 200)), (1, .int guard), (2, .int what), (3, .ref (ad (360 + (Int32.toNatClampNeg guard)))), (4, .int v20_4), (5, .int v20_5)], [.ref (ad (360 + (Int32.toNatClampNeg guard))), .int 7, .ref a59, .ref a59])) rfl ?_
        refine y_get hS tq_X12_guardNow (v := .int (rF ρ (360 + (Int32.toNatClampNeg guard)) 4)) rfl fg_X12_89_X10 (hX122.gu (by assumption)) rfl ?_
        refine y_blk 0 tq_X12_guardNow (z := (130, [(0, .ref (ad 200)), (1, .int guard), (2, .int what), (3, .ref (ad (360 + (Int32.toNatClampNeg guard)))), (4, .int v20_4), (5, .int v20_5)], [.int (rF ρ (360 + (Int32.toNatClampNeg guard)) 4), .int 7, .ref a59, .ref a59])) rfl ?_
        refine y_iast hS tq_X12_guardNow rfl hA122 (by decide) (by first | exact yIn (by decide) (by decide) | exact yIn (by assumption) (by assumption) | (exact yIn (by omega) (by omega))) ?_
        have hA130 : (yup G122 a59 (500, .inl (aC 0, 9, .inl (upd f122 (Int32.toNatClampNeg 7) (rF ρ (360 + (Int32.toNatClampNeg guard)) 4))))) a59 = some (500, .inl (aC 0, 9, .inl (upd f122 (Int32.toNatClampNeg 7) (rF ρ (360 + (Int32.toNatClampNeg guard)) 4)))) := yup_s _ _ _
        have hX130 : atR aC ic de ad (yup G122 a59 (500, .inl (aC 0, 9, .inl (upd f122 (Int32.toNatClampNeg 7) (rF ρ (360 + (Int32.toNatClampNeg guard)) 4))))) ρ := hX122.kp (yTg.up hA122 (by decide))
        have kt130 : yTg kA G (yup G122 a59 (500, .inl (aC 0, 9, .inl (upd f122 (Int32.toNatClampNeg 7) (rF ρ (360 + (Int32.toNatClampNeg guard)) 4))))) := (kt122).trans (yTg.up hA122 (by decide))
        generalize yup G122 a59 (500, .inl (aC 0, 9, .inl (upd f122 (Int32.toNatClampNeg 7) (rF ρ (360 + (Int32.toNatClampNeg guard)) 4)))) = G130 at hA130 hX130 kt130 ⊢
        generalize (upd f122 (Int32.toNatClampNeg 7) (rF ρ (360 + (Int32.toNatClampNeg guard)) 4)) = f130 at hA130
        refine y_blk 4 tq_X12_guardNow (z := (136, [(0, .ref (ad 200)), (1, .int guard), (2, .int what), (3, .ref (ad (360 + (Int32.toNatClampNeg guard)))), (4, .int v20_4), (5, .int v20_5)], [.ref (ad (360 + (Int32.toNatClampNeg guard))), .int 0, .int 8, .ref a59, .ref a59])) rfl ?_
        refine y_get hS tq_X12_guardNow (v := .int (rF ρ (360 + (Int32.toNatClampNeg guard)) 1)) rfl fg_X12_219_X10 (hX130.gu (by assumption)) rfl ?_
        refine y_blk 1 tq_X12_guardNow (z := (140, [(0, .ref (ad 200)), (1, .int guard), (2, .int what), (3, .ref (ad (360 + (Int32.toNatClampNeg guard)))), (4, .int v20_4), (5, .int v20_5)], [.ref (ad (360 + (Int32.toNatClampNeg guard))), .int (rF ρ (360 + (Int32.toNatClampNeg guard)) 1), .int 0, .int 8, .ref a59, .ref a59])) rfl ?_
        refine y_get hS tq_X12_guardNow (v := .int (rF ρ (360 + (Int32.toNatClampNeg guard)) 0)) rfl fg_X12_216_X10 (hX130.gu (by assumption)) rfl ?_
        refine y_blk 3 tq_X12_guardNow (z := (147, [(0, .ref (ad 200)), (1, .int guard), (2, .int what), (3, .ref (ad (360 + (Int32.toNatClampNeg guard)))), (4, .int v20_4), (5, .int v20_5)], [.int (((rF ρ (360 + (Int32.toNatClampNeg guard)) 1) - (rF ρ (360 + (Int32.toNatClampNeg guard)) 0)) - 89), .int 0, .int 8, .ref a59, .ref a59])) rfl ?_
        refine y_mmax hS tq_X12_guardNow rfl ⟨by decide +kernel, by decide +kernel⟩ (Nat.le_of_ble_eq_true rfl) (by decide) ?_
        refine y_blk 0 tq_X12_guardNow (z := (150, [(0, .ref (ad 200)), (1, .int guard), (2, .int what), (3, .ref (ad (360 + (Int32.toNatClampNeg guard)))), (4, .int v20_4), (5, .int v20_5)], [.int (if 0 < (((rF ρ (360 + (Int32.toNatClampNeg guard)) 1) - (rF ρ (360 + (Int32.toNatClampNeg guard)) 0)) - 89) then (((rF ρ (360 + (Int32.toNatClampNeg guard)) 1) - (rF ρ (360 + (Int32.toNatClampNeg guard)) 0)) - 89) else 0), .int 8, .ref a59, .ref a59])) rfl ?_
        refine y_iast hS tq_X12_guardNow rfl hA130 (by decide) (by first | exact yIn (by decide) (by decide) | exact yIn (by assumption) (by assumption) | (exact yIn (by omega) (by omega))) ?_
        have hA150 : (yup G130 a59 (500, .inl (aC 0, 9, .inl (upd f130 (Int32.toNatClampNeg 8) (if 0 < (((rF ρ (360 + (Int32.toNatClampNeg guard)) 1) - (rF ρ (360 + (Int32.toNatClampNeg guard)) 0)) - 89) then (((rF ρ (360 + (Int32.toNatClampNeg guard)) 1) - (rF ρ (360 + (Int32.toNatClampNeg guard)) 0)) - 89) else 0))))) a59 = some (500, .inl (aC 0, 9, .inl (upd f130 (Int32.toNatClampNeg 8) (if 0 < (((rF ρ (360 + (Int32.toNatClampNeg guard)) 1) - (rF ρ (360 + (Int32.toNatClampNeg guard)) 0)) - 89) then (((rF ρ (360 + (Int32.toNatClampNeg guard)) 1) - (rF ρ (360 + (Int32.toNatClampNeg guard)) 0)) - 89) else 0)))) := yup_s _ _ _
        have hX150 : atR aC ic de ad (yup G130 a59 (500, .inl (aC 0, 9, .inl (upd f130 (Int32.toNatClampNeg 8) (if 0 < (((rF ρ (360 + (Int32.toNatClampNeg guard)) 1) - (rF ρ (360 + (Int32.toNatClampNeg guard)) 0)) - 89) then (((rF ρ (360 + (Int32.toNatClampNeg guard)) 1) - (rF ρ (360 + (Int32.toNatClampNeg guard)) 0)) - 89) else 0))))) ρ := hX130.kp (yTg.up hA130 (by decide))
        have kt150 : yTg kA G (yup G130 a59 (500, .inl (aC 0, 9, .inl (upd f130 (Int32.toNatClampNeg 8) (if 0 < (((rF ρ (360 + (Int32.toNatClampNeg guard)) 1) - (rF ρ (360 + (Int32.toNatClampNeg guard)) 0)) - 89) then (((rF ρ (360 + (Int32.toNatClampNeg guard)) 1) - (rF ρ (360 + (Int32.toNatClampNeg guard)) 0)) - 89) else 0))))) := (kt130).trans (yTg.up hA130 (by decide))
        generalize yup G130 a59 (500, .inl (aC 0, 9, .inl (upd f130 (Int32.toNatClampNeg 8) (if 0 < (((rF ρ (360 + (Int32.toNatClampNeg guard)) 1) - (rF ρ (360 + (Int32.toNatClampNeg guard)) 0)) - 89) then (((rF ρ (360 + (Int32.toNatClampNeg guard)) 1) - (rF ρ (360 + (Int32.toNatClampNeg guard)) 0)) - 89) else 0)))) = G150 at hA150 hX150 kt150 ⊢
        generalize (upd f130 (Int32.toNatClampNeg 8) (if 0 < (((rF ρ (360 + (Int32.toNatClampNeg guard)) 1) - (rF ρ (360 + (Int32.toNatClampNeg guard)) 0)) - 89) then (((rF ρ (360 + (Int32.toNatClampNeg guard)) 1) - (rF ρ (360 + (Int32.toNatClampNeg guard)) 0)) - 89) else 0)) = f150 at hA150
        refine y_blk 3 tq_X12_guardNow (z := (156, [(5, .ref a59), (0, .ref (ad 200)), (1, .int guard), (2, .int what), (3, .ref (ad (360 + (Int32.toNatClampNeg guard)))), (4, .int v20_4)], [.int what, .ref a59])) rfl ?_
        refine y_iald hS tq_X12_guardNow rfl hA150 (by first | exact yIn (by decide) (by decide) | exact yIn (by assumption) (by assumption) | (exact yIn (by omega) (by omega))) ?_
        refine y_blk 0 tq_X12_guardNow (z := (157, [(5, .ref a59), (0, .ref (ad 200)), (1, .int guard), (2, .int what), (3, .ref (ad (360 + (Int32.toNatClampNeg guard)))), (4, .int v20_4)], [.int (f150 (Int32.toNatClampNeg what))])) rfl ?_
        exact y_iret tq_X12_guardNow rfl rfl (⟨⟨_, rfl⟩, kt150⟩)
      · skip
        refine y_blk 2 tq_X12_guardNow (z := (116, [(0, .ref (ad 200)), (1, .int guard), (2, .int what), (3, .ref (ad (360 + (Int32.toNatClampNeg guard)))), (4, .int v20_4), (5, .int v20_5)], [.int 1, .int 5, .ref a59, .ref a59])) rfl ?_
        refine y_iast hS tq_X12_guardNow rfl hA100 (by decide) (by first | exact yIn (by decide) (by decide) | exact yIn (by assumption) (by assumption) | (exact yIn (by omega) (by omega))) ?_
        have hA116 : (yup G100 a59 (500, .inl (aC 0, 9, .inl (upd f100 (Int32.toNatClampNeg 5) 1)))) a59 = some (500, .inl (aC 0, 9, .inl (upd f100 (Int32.toNatClampNeg 5) 1))) := yup_s _ _ _
        have hX116 : atR aC ic de ad (yup G100 a59 (500, .inl (aC 0, 9, .inl (upd f100 (Int32.toNatClampNeg 5) 1)))) ρ := hX100.kp (yTg.up hA100 (by decide))
        have kt116 : yTg kA G (yup G100 a59 (500, .inl (aC 0, 9, .inl (upd f100 (Int32.toNatClampNeg 5) 1)))) := (kt100).trans (yTg.up hA100 (by decide))
        generalize yup G100 a59 (500, .inl (aC 0, 9, .inl (upd f100 (Int32.toNatClampNeg 5) 1))) = G116 at hA116 hX116 kt116 ⊢
        generalize (upd f100 (Int32.toNatClampNeg 5) 1) = f116 at hA116
        refine y_blk 3 tq_X12_guardNow (z := (122, [(0, .ref (ad 200)), (1, .int guard), (2, .int what), (3, .ref (ad (360 + (Int32.toNatClampNeg guard)))), (4, .int v20_4), (5, .int v20_5)], [.int v20_4, .int 6, .ref a59, .ref a59])) rfl ?_
        refine y_iast hS tq_X12_guardNow rfl hA116 (by decide) (by first | exact yIn (by decide) (by decide) | exact yIn (by assumption) (by assumption) | (exact yIn (by omega) (by omega))) ?_
        have hA122 : (yup G116 a59 (500, .inl (aC 0, 9, .inl (upd f116 (Int32.toNatClampNeg 6) v20_4)))) a59 = some (500, .inl (aC 0, 9, .inl (upd f116 (Int32.toNatClampNeg 6) v20_4))) := yup_s _ _ _
        have hX122 : atR aC ic de ad (yup G116 a59 (500, .inl (aC 0, 9, .inl (upd f116 (Int32.toNatClampNeg 6) v20_4)))) ρ := hX116.kp (yTg.up hA116 (by decide))
        have kt122 : yTg kA G (yup G116 a59 (500, .inl (aC 0, 9, .inl (upd f116 (Int32.toNatClampNeg 6) v20_4)))) := (kt116).trans (yTg.up hA116 (by decide))
        generalize yup G116 a59 (500, .inl (aC 0, 9, .inl (upd f116 (Int32.toNatClampNeg 6) v20_4))) = G122 at hA122 hX122 kt122 ⊢
        generalize (upd f116 (Int32.toNatClampNeg 6) v20_4) = f122 at hA122
        refine y_blk 3 tq_X12_guardNow (z := (127, [(0, .ref (ad 200)), (1, .int guard), (2, .int what), (3, .ref (ad (360 + (Int32.toNatClampNeg guard)))), (4, .int v20_4), (5, .int v20_5)], [.ref (ad (360 + (Int32.toNatClampNeg guard))), .int 7, .ref a59, .ref a59])) rfl ?_
        refine y_get hS tq_X12_guardNow (v := .int (rF ρ (360 + (Int32.toNatClampNeg guard)) 4)) rfl fg_X12_89_X10 (hX122.gu (by assumption)) rfl ?_
        refine y_blk 0 tq_X12_guardNow (z := (130, [(0, .ref (ad 200)), (1, .int guard), (2, .int what), (3, .ref (ad (360 + (Int32.toNatClampNeg guard)))), (4, .int v20_4), (5, .int v20_5)], [.int (rF ρ (360 + (Int32.toNatClampNeg guard)) 4), .int 7, .ref a59, .ref a59])) rfl ?_
        refine y_iast hS tq_X12_guardNow rfl hA122 (by decide) (by first | exact yIn (by decide) (by decide) | exact yIn (by assumption) (by assumption) | (exact yIn (by omega) (by omega))) ?_
        have hA130 : (yup G122 a59 (500, .inl (aC 0, 9, .inl (upd f122 (Int32.toNatClampNeg 7) (rF ρ (360 + (Int32.toNatClampNeg guard)) 4))))) a59 = some (500, .inl (aC 0, 9, .inl (upd f122 (Int32.toNatClampNeg 7) (rF ρ (360 + (Int32.toNatClampNeg guard)) 4)))) := yup_s _ _ _
        have hX130 : atR aC ic de ad (yup G122 a59 (500, .inl (aC 0, 9, .inl (upd f122 (Int32.toNatClampNeg 7) (rF ρ (360 + (Int32.toNatClampNeg guard)) 4))))) ρ := hX122.kp (yTg.up hA122 (by decide))
        have kt130 : yTg kA G (yup G122 a59 (500, .inl (aC 0, 9, .inl (upd f122 (Int32.toNatClampNeg 7) (rF ρ (360 + (Int32.toNatClampNeg guard)) 4))))) := (kt122).trans (yTg.up hA122 (by decide))
        generalize yup G122 a59 (500, .inl (aC 0, 9, .inl (upd f122 (Int32.toNatClampNeg 7) (rF ρ (360 + (Int32.toNatClampNeg guard)) 4)))) = G130 at hA130 hX130 kt130 ⊢
        generalize (upd f122 (Int32.toNatClampNeg 7) (rF ρ (360 + (Int32.toNatClampNeg guard)) 4)) = f130 at hA130
        refine y_blk 4 tq_X12_guardNow (z := (136, [(0, .ref (ad 200)), (1, .int guard), (2, .int what), (3, .ref (ad (360 + (Int32.toNatClampNeg guard)))), (4, .int v20_4), (5, .int v20_5)], [.ref (ad (360 + (Int32.toNatClampNeg guard))), .int 0, .int 8, .ref a59, .ref a59])) rfl ?_
        refine y_get hS tq_X12_guardNow (v := .int (rF ρ (360 + (Int32.toNatClampNeg guard)) 1)) rfl fg_X12_219_X10 (hX130.gu (by assumption)) rfl ?_
        refine y_blk 1 tq_X12_guardNow (z := (140, [(0, .ref (ad 200)), (1, .int guard), (2, .int what), (3, .ref (ad (360 + (Int32.toNatClampNeg guard)))), (4, .int v20_4), (5, .int v20_5)], [.ref (ad (360 + (Int32.toNatClampNeg guard))), .int (rF ρ (360 + (Int32.toNatClampNeg guard)) 1), .int 0, .int 8, .ref a59, .ref a59])) rfl ?_
        refine y_get hS tq_X12_guardNow (v := .int (rF ρ (360 + (Int32.toNatClampNeg guard)) 0)) rfl fg_X12_216_X10 (hX130.gu (by assumption)) rfl ?_
        refine y_blk 3 tq_X12_guardNow (z := (147, [(0, .ref (ad 200)), (1, .int guard), (2, .int what), (3, .ref (ad (360 + (Int32.toNatClampNeg guard)))), (4, .int v20_4), (5, .int v20_5)], [.int (((rF ρ (360 + (Int32.toNatClampNeg guard)) 1) - (rF ρ (360 + (Int32.toNatClampNeg guard)) 0)) - 89), .int 0, .int 8, .ref a59, .ref a59])) rfl ?_
        refine y_mmax hS tq_X12_guardNow rfl ⟨by decide +kernel, by decide +kernel⟩ (Nat.le_of_ble_eq_true rfl) (by decide) ?_
        refine y_blk 0 tq_X12_guardNow (z := (150, [(0, .ref (ad 200)), (1, .int guard), (2, .int what), (3, .ref (ad (360 + (Int32.toNatClampNeg guard)))), (4, .int v20_4), (5, .int v20_5)], [.int (if 0 < (((rF ρ (360 + (Int32.toNatClampNeg guard)) 1) - (rF ρ (360 + (Int32.toNatClampNeg guard)) 0)) - 89) then (((rF ρ (360 + (Int32.toNatClampNeg guard)) 1) - (rF ρ (360 + (Int32.toNatClampNeg guard)) 0)) - 89) else 0), .int 8, .ref a59, .ref a59])) rfl ?_
        refine y_iast hS tq_X12_guardNow rfl hA130 (by decide) (by first | exact yIn (by decide) (by decide) | exact yIn (by assumption) (by assumption) | (exact yIn (by omega) (by omega))) ?_
        have hA150 : (yup G130 a59 (500, .inl (aC 0, 9, .inl (upd f130 (Int32.toNatClampNeg 8) (if 0 < (((rF ρ (360 + (Int32.toNatClampNeg guard)) 1) - (rF ρ (360 + (Int32.toNatClampNeg guard)) 0)) - 89) then (((rF ρ (360 + (Int32.toNatClampNeg guard)) 1) - (rF ρ (360 + (Int32.toNatClampNeg guard)) 0)) - 89) else 0))))) a59 = some (500, .inl (aC 0, 9, .inl (upd f130 (Int32.toNatClampNeg 8) (if 0 < (((rF ρ (360 + (Int32.toNatClampNeg guard)) 1) - (rF ρ (360 + (Int32.toNatClampNeg guard)) 0)) - 89) then (((rF ρ (360 + (Int32.toNatClampNeg guard)) 1) - (rF ρ (360 + (Int32.toNatClampNeg guard)) 0)) - 89) else 0)))) := yup_s _ _ _
        have hX150 : atR aC ic de ad (yup G130 a59 (500, .inl (aC 0, 9, .inl (upd f130 (Int32.toNatClampNeg 8) (if 0 < (((rF ρ (360 + (Int32.toNatClampNeg guard)) 1) - (rF ρ (360 + (Int32.toNatClampNeg guard)) 0)) - 89) then (((rF ρ (360 + (Int32.toNatClampNeg guard)) 1) - (rF ρ (360 + (Int32.toNatClampNeg guard)) 0)) - 89) else 0))))) ρ := hX130.kp (yTg.up hA130 (by decide))
        have kt150 : yTg kA G (yup G130 a59 (500, .inl (aC 0, 9, .inl (upd f130 (Int32.toNatClampNeg 8) (if 0 < (((rF ρ (360 + (Int32.toNatClampNeg guard)) 1) - (rF ρ (360 + (Int32.toNatClampNeg guard)) 0)) - 89) then (((rF ρ (360 + (Int32.toNatClampNeg guard)) 1) - (rF ρ (360 + (Int32.toNatClampNeg guard)) 0)) - 89) else 0))))) := (kt130).trans (yTg.up hA130 (by decide))
        generalize yup G130 a59 (500, .inl (aC 0, 9, .inl (upd f130 (Int32.toNatClampNeg 8) (if 0 < (((rF ρ (360 + (Int32.toNatClampNeg guard)) 1) - (rF ρ (360 + (Int32.toNatClampNeg guard)) 0)) - 89) then (((rF ρ (360 + (Int32.toNatClampNeg guard)) 1) - (rF ρ (360 + (Int32.toNatClampNeg guard)) 0)) - 89) else 0)))) = G150 at hA150 hX150 kt150 ⊢
        generalize (upd f130 (Int32.toNatClampNeg 8) (if 0 < (((rF ρ (360 + (Int32.toNatClampNeg guard)) 1) - (rF ρ (360 + (Int32.toNatClampNeg guard)) 0)) - 89) then (((rF ρ (360 + (Int32.toNatClampNeg guard)) 1) - (rF ρ (360 + (Int32.toNatClampNeg guard)) 0)) - 89) else 0)) = f150 at hA150
        refine y_blk 3 tq_X12_guardNow (z := (156, [(5, .ref a59), (0, .ref (ad 200)), (1, .int guard), (2, .int what), (3, .ref (ad (360 + (Int32.toNatClampNeg guard)))), (4, .int v20_4)], [.int what, .ref a59])) rfl ?_
        refine y_iald hS tq_X12_guardNow rfl hA150 (by first | exact yIn (by decide) (by decide) | exact yIn (by assumption) (by assumption) | (exact yIn (by omega) (by omega))) ?_
        refine y_blk 0 tq_X12_guardNow (z := (157, [(5, .ref a59), (0, .ref (ad 200)), (1, .int guard), (2, .int what), (3, .ref (ad (360 + (Int32.toNatClampNeg guard)))), (4, .int v20_4)], [.int (f150 (Int32.toNatClampNeg what))])) rfl ?_
        exact y_iret tq_X12_guardNow rfl rfl (⟨⟨_, rfl⟩, kt150⟩)
    · skip
      have b24 : v20_5.toInt < 6 := by rw [yle] at c24; have z9 : (6 : Int32).toInt = 6 := (by decide); omega
      refine y_blk 2 tq_X12_guardNow (z := (30, [(0, .ref (ad 200)), (1, .int guard), (2, .int what), (3, .ref (ad (360 + (Int32.toNatClampNeg guard)))), (4, .int v20_4), (5, .int v20_5)], [.ref (ad 200), .int v20_4])) rfl ?_
      refine y_get hS tq_X12_guardNow (v := .ref (ad 203)) rfl fg_X12_39_X12 hX.m rfl ?_
      refine y_blk 1 tq_X12_guardNow (z := (35, [(0, .ref (ad 200)), (1, .int guard), (2, .int what), (3, .ref (ad (360 + (Int32.toNatClampNeg guard)))), (4, .int v20_4), (5, .int v20_5)], [.int v20_5, .ref (ad 203), .int v20_4])) rfl ?_
      refine y_iald hS tq_X12_guardNow rfl hX.ke (by first | exact yIn (by decide) (by decide) | exact yIn (by assumption) (by assumption) | (exact yIn (by omega) (by omega))) ?_
      refine y_blk 1 tq_X12_guardNow (z := (37, [(0, .ref (ad 200)), (1, .int guard), (2, .int what), (3, .ref (ad (360 + (Int32.toNatClampNeg guard)))), (4, .int v20_4), (5, .int v20_5)], [.int guard, .int ((rV ρ 203) (Int32.toNatClampNeg v20_5)), .int v20_4])) rfl ?_
      refine y_icmp_ne tq_X12_guardNow 47 rfl rfl (fun c37 => ?_) (fun c37 => ?_)
      · skip
        refine y_blk 5 tq_X12_guardNow (z := (20, [(5, .int (v20_5 + 1)), (4, .int (v20_4 ||| 0)), (0, .ref (ad 200)), (1, .int guard), (2, .int what), (3, .ref (ad (360 + (Int32.toNatClampNeg guard))))], [])) rfl ?_
        refine y_pick (L2 := [(0, .ref (ad 200)), (1, .int guard), (2, .int what), (3, .ref (ad (360 + (Int32.toNatClampNeg guard)))), (4, .int (v20_4 ||| 0)), (5, .int (v20_5 + 1))]) [2, 3, 4, 5, 1, 0] rfl ?_
        exact ih20 _ (by exact ydec c24) (v20_4 ||| 0) (v20_5 + 1) (by first | decide | assumption | exact Int.le_refl _ | exact yposgeL (by assumption) c24) rfl
      · skip
        refine y_blk 8 tq_X12_guardNow (z := (20, [(5, .int (v20_5 + 1)), (4, .int (v20_4 ||| (1 <<< (v20_5 &&& 31)))), (0, .ref (ad 200)), (1, .int guard), (2, .int what), (3, .ref (ad (360 + (Int32.toNatClampNeg guard))))], [])) rfl ?_
        refine y_pick (L2 := [(0, .ref (ad 200)), (1, .int guard), (2, .int what), (3, .ref (ad (360 + (Int32.toNatClampNeg guard)))), (4, .int (v20_4 ||| (1 <<< (v20_5 &&& 31)))), (5, .int (v20_5 + 1))]) [2, 3, 4, 5, 1, 0] rfl ?_
        exact ih20 _ (by exact ydec c24) (v20_4 ||| (1 <<< (v20_5 &&& 31))) (v20_5 + 1) (by first | decide | assumption | exact Int.le_refl _ | exact yposgeL (by assumption) c24) rfl
  refine y_blk 1 tq_X12_guardNow (z := (1, [(0, .ref (ad 200)), (1, .int guard), (2, .int what)], [.ref (ad 200)])) rfl ?_
  refine y_get hS tq_X12_guardNow (v := .ref (ad 212)) rfl fg_X12_27_X12 hX.m rfl ?_
  refine y_blk 1 tq_X12_guardNow (z := (5, [(0, .ref (ad 200)), (1, .int guard), (2, .int what)], [.int guard, .ref (ad 212)])) rfl ?_
  refine y_callF hS tq_X12_guardNow rfl (As := [.int guard]) rfl cf_X12_80 (Or.inl ⟨_, (hX.ls 212 (by decide)).1⟩) (m_Rgu hS hX (by assumption) (by assumption)) rfl (by decide) (Nat.le_of_ble_eq_true rfl) (fun r5 Gc5 q5 => ?_) (fun _ _ h9 => h9.elim)
  obtain ⟨rfl, eG5⟩ := q5
  have eG5 := eG5.symm
  subst eG5
  have d5 : (Int32.toNatClampNeg guard) < rZ ρ 212 := yIx (by assumption) (by assumption)
  refine y_blk 0 tq_X12_guardNow (z := (10, [(0, .ref (ad 200)), (1, .int guard), (2, .int what)], [.ref (ad (360 + (Int32.toNatClampNeg guard)))])) rfl ?_
  refine y_castG hS tq_X12_guardNow rfl kc_X12_84 (Or.inl ⟨_, (hX.gu (by assumption))⟩) ?_
  refine y_blk 5 tq_X12_guardNow (z := (20, [(5, .int 0), (4, .int 0), (3, .ref (ad (360 + (Int32.toNatClampNeg guard)))), (0, .ref (ad 200)), (1, .int guard), (2, .int what)], [])) rfl ?_
  refine y_pick (L2 := [(0, .ref (ad 200)), (1, .int guard), (2, .int what), (3, .ref (ad (360 + (Int32.toNatClampNeg guard)))), (4, .int 0), (5, .int 0)]) [3, 4, 5, 2, 1, 0] rfl ?_
  exact J20 _ 0 0 (by first | decide | assumption | exact Int.le_refl _ | exact yposgeL (by assumption) c24) rfl
