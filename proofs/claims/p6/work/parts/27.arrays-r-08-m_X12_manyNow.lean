/-! part -/
set_option maxHeartbeats 4000000 in
set_option maxRecDepth 100000 in
theorem m_X12_manyNow {l : Launch} {S0 : State} {A0 : Array Value} {D : va_G} {aC : Nat → ClassId} {ic : Int32 → Nat} {de : Nat} {ad : Nat → Nat} {G : AH} {ρ : RS} (hS : yS l S0 A0 D aC) (hI : yIc S0 ic de) (hX : atR aC ic de ad G ρ) (what : Int32) (hw0 : 0 ≤ what.toInt) (hw1 : what.toInt < 13) : yM l S0 D yX12_manyNow cX12_manyNow 10 (some .int) 22 1 13 [.ref (ad 200), .int what] G (fun r G1 => (∃ v : Int32, r = some (.int v)) ∧ yTg kA G G1) (fun _ _ => False) := by
  refine yM.ofK K_X12_manyNow rfl (by decide) (Nat.le_of_ble_eq_true rfl) ?_
  have J164 : ∀ (n164 : Nat) (v164_2 : Int32) (v164_3 : Int32) (v164_4 : Int32) (v164_5 : Int32) (v164_6 : Int32) (v164_8 : Int32) (h0_164 : 0 ≤ v164_6.toInt), ((239 : Int32).toInt + 1 - v164_6.toInt).toNat = n164 → Y l S0 D K_X12_manyNow 22 1 13 (fun r G1 => (∃ v : Int32, r = some (.int v)) ∧ yTg kA G G1) (fun _ _ => False) 164 [(0, .ref (ad 200)), (1, .int what), (2, .int v164_2), (3, .int v164_3), (4, .int v164_4), (5, .int v164_5), (6, .int v164_6), (7, .int (Int32.ofNat 6)), (8, .int v164_8)] [] G 1 13 := by
    intro n164
    induction n164 using Nat.strongRecOn with
    | _ n164 ih164 =>
    intro v164_2 v164_3 v164_4 v164_5 v164_6 v164_8 h0_164 hn164
    subst hn164
    refine y_blk 2 tq_X12_manyNow (z := (169, [(0, .ref (ad 200)), (1, .int what), (2, .int v164_2), (3, .int v164_3), (4, .int v164_4), (5, .int v164_5), (6, .int v164_6), (7, .int (Int32.ofNat 6)), (8, .int v164_8)], [.int 239, .int v164_6])) rfl ?_
    refine y_icmp_gt tq_X12_manyNow 204 rfl rfl (fun c169 => ?_) (fun c169 => ?_)
    · skip
      refine y_blk 1 tq_X12_manyNow (z := (206, [(0, .ref (ad 200)), (1, .int what), (2, .int v164_2), (3, .int v164_3), (4, .int v164_4), (5, .int v164_5), (6, .int v164_6), (7, .int (Int32.ofNat 6)), (8, .int v164_8)], [.int 13])) rfl ?_
      refine y_newa_int 500 hS tq_X12_manyNow (kc := 0) (ks := 0) (n := 13) rfl wd_176 (by decide) (by decide) (by decide) (fun a206 hne206 => ?_)
      have hle206 : yLe G (yup G a206 (500, .inl (aC 0, 13, .inl (fun _ => 0)))) := yLe.new hne206
      have hA206 : (yup G a206 (500, .inl (aC 0, 13, .inl (fun _ => 0)))) a206 = some (500, .inl (aC 0, 13, .inl (fun _ => 0))) := yup_s _ _ _
      generalize yup G a206 (500, .inl (aC 0, 13, .inl (fun _ => 0))) = G206 at hle206 hA206 ⊢
      have hX206 := hX.le hle206
      have kt206 := ((yTg.rfl' (f := kA) (G := G))).trans (yTg.le hle206)
      refine y_blk 3 tq_X12_manyNow (z := (211, [(0, .ref (ad 200)), (1, .int what), (2, .int v164_2), (3, .int v164_3), (4, .int v164_4), (5, .int v164_5), (6, .int v164_6), (7, .int (Int32.ofNat 6)), (8, .int v164_8)], [.ref (ad 200), .int 0, .ref a206, .ref a206])) rfl ?_
      refine y_get hS tq_X12_manyNow (v := .ref (ad 201)) rfl fg_X12_7_X12 hX206.m rfl ?_
      refine y_blk 0 tq_X12_manyNow (z := (214, [(0, .ref (ad 200)), (1, .int what), (2, .int v164_2), (3, .int v164_3), (4, .int v164_4), (5, .int v164_5), (6, .int v164_6), (7, .int (Int32.ofNat 6)), (8, .int v164_8)], [.ref (ad 201), .int 0, .ref a206, .ref a206])) rfl ?_
      refine y_alen hS tq_X12_manyNow 0 rfl rfl hX206.ki ?_
      refine y_blk 0 tq_X12_manyNow (z := (215, [(0, .ref (ad 200)), (1, .int what), (2, .int v164_2), (3, .int v164_3), (4, .int v164_4), (5, .int v164_5), (6, .int v164_6), (7, .int (Int32.ofNat 6)), (8, .int v164_8)], [.int (Int32.ofNat (rZ ρ 201)), .int 0, .ref a206, .ref a206])) rfl ?_
      refine y_iast hS tq_X12_manyNow rfl hA206 (by decide) (by first | exact yIn (by decide) (by decide) | exact yIn (by assumption) (by assumption) | (exact yIn (by omega) (by omega))) ?_
      have hA215 : (yup G206 a206 (500, .inl (aC 0, 13, .inl (upd (fun _ => 0) (Int32.toNatClampNeg 0) (Int32.ofNat (rZ ρ 201)))))) a206 = some (500, .inl (aC 0, 13, .inl (upd (fun _ => 0) (Int32.toNatClampNeg 0) (Int32.ofNat (rZ ρ 201))))) := yup_s _ _ _
      have hX215 : atR aC ic de ad (yup G206 a206 (500, .inl (aC 0, 13, .inl (upd (fun _ => 0) (Int32.toNatClampNeg 0) (Int32.ofNat (rZ ρ 201)))))) ρ := hX206.kp (yTg.up hA206 (by decide))
      have kt215 : yTg kA G (yup G206 a206 (500, .inl (aC 0, 13, .inl (upd (fun _ => 0) (Int32.toNatClampNeg 0) (Int32.ofNat (rZ ρ 201)))))) := (kt206).trans (yTg.up hA206 (by decide))
      generalize yup G206 a206 (500, .inl (aC 0, 13, .inl (upd (fun _ => 0) (Int32.toNatClampNeg 0) (Int32.ofNat (rZ ρ 201))))) = G215 at hA215 hX215 kt215 ⊢
      generalize (upd (fun _ => 0) (Int32.toNatClampNeg 0) (Int32.ofNat (rZ ρ 201))) = f215 at hA215
      refine y_blk 3 tq_X12_manyNow (z := (219, [(0, .ref (ad 200)), (1, .int what), (2, .int v164_2), (3, .int v164_3), (4, .int v164_4), (5, .int v164_5), (6, .int v164_6), (7, .int (Int32.ofNat 6)), (8, .int v164_8)], [.ref (ad 200), .int 1, .ref a206, .ref a206])) rfl ?_
      refine y_get hS tq_X12_manyNow (v := .ref (ad 210)) rfl fg_X12_20_X12 hX215.m rfl ?_
      refine y_blk 0 tq_X12_manyNow (z := (222, [(0, .ref (ad 200)), (1, .int what), (2, .int v164_2), (3, .int v164_3), (4, .int v164_4), (5, .int v164_5), (6, .int v164_6), (7, .int (Int32.ofNat 6)), (8, .int v164_8)], [.ref (ad 210), .int 1, .ref a206, .ref a206])) rfl ?_
      refine y_callF hS tq_X12_manyNow rfl (As := []) rfl cf_X12_58 (Or.inl ⟨_, (hX215.ls 210 (by decide)).1⟩) (m_Jsize hS (hX215.ls 210 (by decide))) rfl (by decide) (Nat.le_of_ble_eq_true rfl) (fun r222 Gc222 q222 => ?_) (fun _ _ h9 => h9.elim)
      obtain ⟨rfl, eG222⟩ := q222
      have eG222 := eG222.symm
      subst eG222
      refine y_blk 0 tq_X12_manyNow (z := (227, [(0, .ref (ad 200)), (1, .int what), (2, .int v164_2), (3, .int v164_3), (4, .int v164_4), (5, .int v164_5), (6, .int v164_6), (7, .int (Int32.ofNat 6)), (8, .int v164_8)], [.int (Int32.ofNat (rZ ρ 210)), .int 1, .ref a206, .ref a206])) rfl ?_
      refine y_iast hS tq_X12_manyNow rfl hA215 (by decide) (by first | exact yIn (by decide) (by decide) | exact yIn (by assumption) (by assumption) | (exact yIn (by omega) (by omega))) ?_
      have hA227 : (yup G215 a206 (500, .inl (aC 0, 13, .inl (upd f215 (Int32.toNatClampNeg 1) (Int32.ofNat (rZ ρ 210)))))) a206 = some (500, .inl (aC 0, 13, .inl (upd f215 (Int32.toNatClampNeg 1) (Int32.ofNat (rZ ρ 210))))) := yup_s _ _ _
      have hX227 : atR aC ic de ad (yup G215 a206 (500, .inl (aC 0, 13, .inl (upd f215 (Int32.toNatClampNeg 1) (Int32.ofNat (rZ ρ 210)))))) ρ := hX215.kp (yTg.up hA215 (by decide))
      have kt227 : yTg kA G (yup G215 a206 (500, .inl (aC 0, 13, .inl (upd f215 (Int32.toNatClampNeg 1) (Int32.ofNat (rZ ρ 210)))))) := (kt215).trans (yTg.up hA215 (by decide))
      generalize yup G215 a206 (500, .inl (aC 0, 13, .inl (upd f215 (Int32.toNatClampNeg 1) (Int32.ofNat (rZ ρ 210))))) = G227 at hA227 hX227 kt227 ⊢
      generalize (upd f215 (Int32.toNatClampNeg 1) (Int32.ofNat (rZ ρ 210))) = f227 at hA227
      refine y_blk 3 tq_X12_manyNow (z := (231, [(0, .ref (ad 200)), (1, .int what), (2, .int v164_2), (3, .int v164_3), (4, .int v164_4), (5, .int v164_5), (6, .int v164_6), (7, .int (Int32.ofNat 6)), (8, .int v164_8)], [.int v164_2, .int 2, .ref a206, .ref a206])) rfl ?_
      refine y_iast hS tq_X12_manyNow rfl hA227 (by decide) (by first | exact yIn (by decide) (by decide) | exact yIn (by assumption) (by assumption) | (exact yIn (by omega) (by omega))) ?_
      have hA231 : (yup G227 a206 (500, .inl (aC 0, 13, .inl (upd f227 (Int32.toNatClampNeg 2) v164_2)))) a206 = some (500, .inl (aC 0, 13, .inl (upd f227 (Int32.toNatClampNeg 2) v164_2))) := yup_s _ _ _
      have hX231 : atR aC ic de ad (yup G227 a206 (500, .inl (aC 0, 13, .inl (upd f227 (Int32.toNatClampNeg 2) v164_2)))) ρ := hX227.kp (yTg.up hA227 (by decide))
      have kt231 : yTg kA G (yup G227 a206 (500, .inl (aC 0, 13, .inl (upd f227 (Int32.toNatClampNeg 2) v164_2)))) := (kt227).trans (yTg.up hA227 (by decide))
      generalize yup G227 a206 (500, .inl (aC 0, 13, .inl (upd f227 (Int32.toNatClampNeg 2) v164_2))) = G231 at hA231 hX231 kt231 ⊢
      generalize (upd f227 (Int32.toNatClampNeg 2) v164_2) = f231 at hA231
      refine y_blk 3 tq_X12_manyNow (z := (235, [(0, .ref (ad 200)), (1, .int what), (2, .int v164_2), (3, .int v164_3), (4, .int v164_4), (5, .int v164_5), (6, .int v164_6), (7, .int (Int32.ofNat 6)), (8, .int v164_8)], [.ref (ad 200), .int 3, .ref a206, .ref a206])) rfl ?_
      refine y_get hS tq_X12_manyNow (v := .ref (ad 212)) rfl fg_X12_27_X12 hX231.m rfl ?_
      refine y_blk 0 tq_X12_manyNow (z := (238, [(0, .ref (ad 200)), (1, .int what), (2, .int v164_2), (3, .int v164_3), (4, .int v164_4), (5, .int v164_5), (6, .int v164_6), (7, .int (Int32.ofNat 6)), (8, .int v164_8)], [.ref (ad 212), .int 3, .ref a206, .ref a206])) rfl ?_
      refine y_callF hS tq_X12_manyNow rfl (As := []) rfl cf_X12_58 (Or.inl ⟨_, (hX231.ls 212 (by decide)).1⟩) (m_Jsize hS (hX231.ls 212 (by decide))) rfl (by decide) (Nat.le_of_ble_eq_true rfl) (fun r238 Gc238 q238 => ?_) (fun _ _ h9 => h9.elim)
      obtain ⟨rfl, eG238⟩ := q238
      have eG238 := eG238.symm
      subst eG238
      refine y_blk 0 tq_X12_manyNow (z := (243, [(0, .ref (ad 200)), (1, .int what), (2, .int v164_2), (3, .int v164_3), (4, .int v164_4), (5, .int v164_5), (6, .int v164_6), (7, .int (Int32.ofNat 6)), (8, .int v164_8)], [.int (Int32.ofNat (rZ ρ 212)), .int 3, .ref a206, .ref a206])) rfl ?_
      refine y_iast hS tq_X12_manyNow rfl hA231 (by decide) (by first | exact yIn (by decide) (by decide) | exact yIn (by assumption) (by assumption) | (exact yIn (by omega) (by omega))) ?_
      have hA243 : (yup G231 a206 (500, .inl (aC 0, 13, .inl (upd f231 (Int32.toNatClampNeg 3) (Int32.ofNat (rZ ρ 212)))))) a206 = some (500, .inl (aC 0, 13, .inl (upd f231 (Int32.toNatClampNeg 3) (Int32.ofNat (rZ ρ 212))))) := yup_s _ _ _
      have hX243 : atR aC ic de ad (yup G231 a206 (500, .inl (aC 0, 13, .inl (upd f231 (Int32.toNatClampNeg 3) (Int32.ofNat (rZ ρ 212)))))) ρ := hX231.kp (yTg.up hA231 (by decide))
      have kt243 : yTg kA G (yup G231 a206 (500, .inl (aC 0, 13, .inl (upd f231 (Int32.toNatClampNeg 3) (Int32.ofNat (rZ ρ 212)))))) := (kt231).trans (yTg.up hA231 (by decide))
      generalize yup G231 a206 (500, .inl (aC 0, 13, .inl (upd f231 (Int32.toNatClampNeg 3) (Int32.ofNat (rZ ρ 212))))) = G243 at hA243 hX243 kt243 ⊢
      generalize (upd f231 (Int32.toNatClampNeg 3) (Int32.ofNat (rZ ρ 212))) = f243 at hA243
      refine y_blk 3 tq_X12_manyNow (z := (247, [(0, .ref (ad 200)), (1, .int what), (2, .int v164_2), (3, .int v164_3), (4, .int v164_4), (5, .int v164_5), (6, .int v164_6), (7, .int (Int32.ofNat 6)), (8, .int v164_8)], [.ref (ad 200), .int 4, .ref a206, .ref a206])) rfl ?_
      refine y_get hS tq_X12_manyNow (v := .ref (ad 213)) rfl fg_X12_30_X12 hX243.m rfl ?_
      refine y_blk 0 tq_X12_manyNow (z := (250, [(0, .ref (ad 200)), (1, .int what), (2, .int v164_2), (3, .int v164_3), (4, .int v164_4), (5, .int v164_5), (6, .int v164_6), (7, .int (Int32.ofNat 6)), (8, .int v164_8)], [.ref (ad 213), .int 4, .ref a206, .ref a206])) rfl ?_
      refine y_callF hS tq_X12_manyNow rfl (As := []) rfl cf_X12_58 (Or.inl ⟨_, (hX243.ls 213 (by decide)).1⟩) (m_Jsize hS (hX243.ls 213 (by decide))) rfl (by decide) (Nat.le_of_ble_eq_true rfl) (fun r250 Gc250 q250 => ?_) (fun _ _ h9 => h9.elim)
      obtain ⟨rfl, eG250⟩ := q250
      have eG250 := eG250.symm
      subst eG250
      refine y_blk 0 tq_X12_manyNow (z := (255, [(0, .ref (ad 200)), (1, .int what), (2, .int v164_2), (3, .int v164_3), (4, .int v164_4), (5, .int v164_5), (6, .int v164_6), (7, .int (Int32.ofNat 6)), (8, .int v164_8)], [.int (Int32.ofNat (rZ ρ 213)), .int 4, .ref a206, .ref a206])) rfl ?_
      refine y_iast hS tq_X12_manyNow rfl hA243 (by decide) (by first | exact yIn (by decide) (by decide) | exact yIn (by assumption) (by assumption) | (exact yIn (by omega) (by omega))) ?_
      have hA255 : (yup G243 a206 (500, .inl (aC 0, 13, .inl (upd f243 (Int32.toNatClampNeg 4) (Int32.ofNat (rZ ρ 213)))))) a206 = some (500, .inl (aC 0, 13, .inl (upd f243 (Int32.toNatClampNeg 4) (Int32.ofNat (rZ ρ 213))))) := yup_s _ _ _
      have hX255 : atR aC ic de ad (yup G243 a206 (500, .inl (aC 0, 13, .inl (upd f243 (Int32.toNatClampNeg 4) (Int32.ofNat (rZ ρ 213)))))) ρ := hX243.kp (yTg.up hA243 (by decide))
      have kt255 : yTg kA G (yup G243 a206 (500, .inl (aC 0, 13, .inl (upd f243 (Int32.toNatClampNeg 4) (Int32.ofNat (rZ ρ 213)))))) := (kt243).trans (yTg.up hA243 (by decide))
      generalize yup G243 a206 (500, .inl (aC 0, 13, .inl (upd f243 (Int32.toNatClampNeg 4) (Int32.ofNat (rZ ρ 213))))) = G255 at hA255 hX255 kt255 ⊢
      generalize (upd f243 (Int32.toNatClampNeg 4) (Int32.ofNat (rZ ρ 213))) = f255 at hA255
      refine y_blk 3 tq_X12_manyNow (z := (259, [(0, .ref (ad 200)), (1, .int what), (2, .int v164_2), (3, .int v164_3), (4, .int v164_4), (5, .int v164_5), (6, .int v164_6), (7, .int (Int32.ofNat 6)), (8, .int v164_8)], [.ref (ad 200), .int 5, .ref a206, .ref a206])) rfl ?_
      refine y_get hS tq_X12_manyNow (v := .ref (ad 215)) rfl fg_X12_42_X12 hX255.m rfl ?_
      refine y_blk 0 tq_X12_manyNow (z := (262, [(0, .ref (ad 200)), (1, .int what), (2, .int v164_2), (3, .int v164_3), (4, .int v164_4), (5, .int v164_5), (6, .int v164_6), (7, .int (Int32.ofNat 6)), (8, .int v164_8)], [.ref (ad 215), .int 5, .ref a206, .ref a206])) rfl ?_
      refine y_callF hS tq_X12_manyNow rfl (As := []) rfl cf_X12_58 (Or.inl ⟨_, (hX255.ls 215 (by decide)).1⟩) (m_Jsize hS (hX255.ls 215 (by decide))) rfl (by decide) (Nat.le_of_ble_eq_true rfl) (fun r262 Gc262 q262 => ?_) (fun _ _ h9 => h9.elim)
      obtain ⟨rfl, eG262⟩ := q262
      have eG262 := eG262.symm
      subst eG262
      refine y_blk 0 tq_X12_manyNow (z := (267, [(0, .ref (ad 200)), (1, .int what), (2, .int v164_2), (3, .int v164_3), (4, .int v164_4), (5, .int v164_5), (6, .int v164_6), (7, .int (Int32.ofNat 6)), (8, .int v164_8)], [.int (Int32.ofNat (rZ ρ 215)), .int 5, .ref a206, .ref a206])) rfl ?_
      refine y_iast hS tq_X12_manyNow rfl hA255 (by decide) (by first | exact yIn (by decide) (by decide) | exact yIn (by assumption) (by assumption) | (exact yIn (by omega) (by omega))) ?_
      have hA267 : (yup G255 a206 (500, .inl (aC 0, 13, .inl (upd f255 (Int32.toNatClampNeg 5) (Int32.ofNat (rZ ρ 215)))))) a206 = some (500, .inl (aC 0, 13, .inl (upd f255 (Int32.toNatClampNeg 5) (Int32.ofNat (rZ ρ 215))))) := yup_s _ _ _
      have hX267 : atR aC ic de ad (yup G255 a206 (500, .inl (aC 0, 13, .inl (upd f255 (Int32.toNatClampNeg 5) (Int32.ofNat (rZ ρ 215)))))) ρ := hX255.kp (yTg.up hA255 (by decide))
      have kt267 : yTg kA G (yup G255 a206 (500, .inl (aC 0, 13, .inl (upd f255 (Int32.toNatClampNeg 5) (Int32.ofNat (rZ ρ 215)))))) := (kt255).trans (yTg.up hA255 (by decide))
      generalize yup G255 a206 (500, .inl (aC 0, 13, .inl (upd f255 (Int32.toNatClampNeg 5) (Int32.ofNat (rZ ρ 215))))) = G267 at hA267 hX267 kt267 ⊢
      generalize (upd f255 (Int32.toNatClampNeg 5) (Int32.ofNat (rZ ρ 215))) = f267 at hA267
      refine y_blk 3 tq_X12_manyNow (z := (272, [(0, .ref (ad 200)), (1, .int what), (2, .int v164_2), (3, .int v164_3), (4, .int v164_4), (5, .int v164_5), (6, .int v164_6), (7, .int (Int32.ofNat 6)), (8, .int v164_8)], [.int v164_3, .int 6, .ref a206, .ref a206])) rfl ?_
      refine y_iast hS tq_X12_manyNow rfl hA267 (by decide) (by first | exact yIn (by decide) (by decide) | exact yIn (by assumption) (by assumption) | (exact yIn (by omega) (by omega))) ?_
      have hA272 : (yup G267 a206 (500, .inl (aC 0, 13, .inl (upd f267 (Int32.toNatClampNeg 6) v164_3)))) a206 = some (500, .inl (aC 0, 13, .inl (upd f267 (Int32.toNatClampNeg 6) v164_3))) := yup_s _ _ _
      have hX272 : atR aC ic de ad (yup G267 a206 (500, .inl (aC 0, 13, .inl (upd f267 (Int32.toNatClampNeg 6) v164_3)))) ρ := hX267.kp (yTg.up hA267 (by decide))
      have kt272 : yTg kA G (yup G267 a206 (500, .inl (aC 0, 13, .inl (upd f267 (Int32.toNatClampNeg 6) v164_3)))) := (kt267).trans (yTg.up hA267 (by decide))
      generalize yup G267 a206 (500, .inl (aC 0, 13, .inl (upd f267 (Int32.toNatClampNeg 6) v164_3))) = G272 at hA272 hX272 kt272 ⊢
      generalize (upd f267 (Int32.toNatClampNeg 6) v164_3) = f272 at hA272
      refine y_blk 3 tq_X12_manyNow (z := (277, [(0, .ref (ad 200)), (1, .int what), (2, .int v164_2), (3, .int v164_3), (4, .int v164_4), (5, .int v164_5), (6, .int v164_6), (7, .int (Int32.ofNat 6)), (8, .int v164_8)], [.ref (ad 200), .int 7, .ref a206, .ref a206])) rfl ?_
      refine y_get hS tq_X12_manyNow (v := .ref (ad 216)) rfl fg_X12_45_X12 hX272.m rfl ?_
      refine y_blk 0 tq_X12_manyNow (z := (280, [(0, .ref (ad 200)), (1, .int what), (2, .int v164_2), (3, .int v164_3), (4, .int v164_4), (5, .int v164_5), (6, .int v164_6), (7, .int (Int32.ofNat 6)), (8, .int v164_8)], [.ref (ad 216), .int 7, .ref a206, .ref a206])) rfl ?_
      refine y_callF hS tq_X12_manyNow rfl (As := []) rfl cf_X12_58 (Or.inl ⟨_, (hX272.ls 216 (by decide)).1⟩) (m_Jsize hS (hX272.ls 216 (by decide))) rfl (by decide) (Nat.le_of_ble_eq_true rfl) (fun r280 Gc280 q280 => ?_) (fun _ _ h9 => h9.elim)
      obtain ⟨rfl, eG280⟩ := q280
      have eG280 := eG280.symm
      subst eG280
      refine y_blk 0 tq_X12_manyNow (z := (285, [(0, .ref (ad 200)), (1, .int what), (2, .int v164_2), (3, .int v164_3), (4, .int v164_4), (5, .int v164_5), (6, .int v164_6), (7, .int (Int32.ofNat 6)), (8, .int v164_8)], [.int (Int32.ofNat (rZ ρ 216)), .int 7, .ref a206, .ref a206])) rfl ?_
      refine y_iast hS tq_X12_manyNow rfl hA272 (by decide) (by first | exact yIn (by decide) (by decide) | exact yIn (by assumption) (by assumption) | (exact yIn (by omega) (by omega))) ?_
      have hA285 : (yup G272 a206 (500, .inl (aC 0, 13, .inl (upd f272 (Int32.toNatClampNeg 7) (Int32.ofNat (rZ ρ 216)))))) a206 = some (500, .inl (aC 0, 13, .inl (upd f272 (Int32.toNatClampNeg 7) (Int32.ofNat (rZ ρ 216))))) := yup_s _ _ _
      have hX285 : atR aC ic de ad (yup G272 a206 (500, .inl (aC 0, 13, .inl (upd f272 (Int32.toNatClampNeg 7) (Int32.ofNat (rZ ρ 216)))))) ρ := hX272.kp (yTg.up hA272 (by decide))
      have kt285 : yTg kA G (yup G272 a206 (500, .inl (aC 0, 13, .inl (upd f272 (Int32.toNatClampNeg 7) (Int32.ofNat (rZ ρ 216)))))) := (kt272).trans (yTg.up hA272 (by decide))
      generalize yup G272 a206 (500, .inl (aC 0, 13, .inl (upd f272 (Int32.toNatClampNeg 7) (Int32.ofNat (rZ ρ 216))))) = G285 at hA285 hX285 kt285 ⊢
      generalize (upd f272 (Int32.toNatClampNeg 7) (Int32.ofNat (rZ ρ 216))) = f285 at hA285
      refine y_blk 3 tq_X12_manyNow (z := (291, [(0, .ref (ad 200)), (1, .int what), (2, .int v164_2), (3, .int v164_3), (4, .int v164_4), (5, .int v164_5), (6, .int v164_6), (7, .int (Int32.ofNat 6)), (8, .int v164_8)], [.int v164_4, .int 8, .ref a206, .ref a206])) rfl ?_
      refine y_iast hS tq_X12_manyNow rfl hA285 (by decide) (by first | exact yIn (by decide) (by decide) | exact yIn (by assumption) (by assumption) | (exact yIn (by omega) (by omega))) ?_
      have hA291 : (yup G285 a206 (500, .inl (aC 0, 13, .inl (upd f285 (Int32.toNatClampNeg 8) v164_4)))) a206 = some (500, .inl (aC 0, 13, .inl (upd f285 (Int32.toNatClampNeg 8) v164_4))) := yup_s _ _ _
      have hX291 : atR aC ic de ad (yup G285 a206 (500, .inl (aC 0, 13, .inl (upd f285 (Int32.toNatClampNeg 8) v164_4)))) ρ := hX285.kp (yTg.up hA285 (by decide))
      have kt291 : yTg kA G (yup G285 a206 (500, .inl (aC 0, 13, .inl (upd f285 (Int32.toNatClampNeg 8) v164_4)))) := (kt285).trans (yTg.up hA285 (by decide))
      generalize yup G285 a206 (500, .inl (aC 0, 13, .inl (upd f285 (Int32.toNatClampNeg 8) v164_4))) = G291 at hA291 hX291 kt291 ⊢
      generalize (upd f285 (Int32.toNatClampNeg 8) v164_4) = f291 at hA291
      refine y_blk 3 tq_X12_manyNow (z := (296, [(0, .ref (ad 200)), (1, .int what), (2, .int v164_2), (3, .int v164_3), (4, .int v164_4), (5, .int v164_5), (6, .int v164_6), (7, .int (Int32.ofNat 6)), (8, .int v164_8)], [.ref (ad 200), .int 9, .ref a206, .ref a206])) rfl ?_
      refine y_get hS tq_X12_manyNow (v := .int (rI ρ 6)) rfl fg_X12_74_X12 hX291.m rfl ?_
      refine y_blk 0 tq_X12_manyNow (z := (299, [(0, .ref (ad 200)), (1, .int what), (2, .int v164_2), (3, .int v164_3), (4, .int v164_4), (5, .int v164_5), (6, .int v164_6), (7, .int (Int32.ofNat 6)), (8, .int v164_8)], [.int (rI ρ 6), .int 9, .ref a206, .ref a206])) rfl ?_
      refine y_iast hS tq_X12_manyNow rfl hA291 (by decide) (by first | exact yIn (by decide) (by decide) | exact yIn (by assumption) (by assumption) | (exact yIn (by omega) (by omega))) ?_
      have hA299 : (yup G291 a206 (500, .inl (aC 0, 13, .inl (upd f291 (Int32.toNatClampNeg 9) (rI ρ 6))))) a206 = some (500, .inl (aC 0, 13, .inl (upd f291 (Int32.toNatClampNeg 9) (rI ρ 6)))) := yup_s _ _ _
      have hX299 : atR aC ic de ad (yup G291 a206 (500, .inl (aC 0, 13, .inl (upd f291 (Int32.toNatClampNeg 9) (rI ρ 6))))) ρ := hX291.kp (yTg.up hA291 (by decide))
      have kt299 : yTg kA G (yup G291 a206 (500, .inl (aC 0, 13, .inl (upd f291 (Int32.toNatClampNeg 9) (rI ρ 6))))) := (kt291).trans (yTg.up hA291 (by decide))
      generalize yup G291 a206 (500, .inl (aC 0, 13, .inl (upd f291 (Int32.toNatClampNeg 9) (rI ρ 6)))) = G299 at hA299 hX299 kt299 ⊢
      generalize (upd f291 (Int32.toNatClampNeg 9) (rI ρ 6)) = f299 at hA299
      refine y_blk 3 tq_X12_manyNow (z := (304, [(0, .ref (ad 200)), (1, .int what), (2, .int v164_2), (3, .int v164_3), (4, .int v164_4), (5, .int v164_5), (6, .int v164_6), (7, .int (Int32.ofNat 6)), (8, .int v164_8)], [.ref (ad 200), .int 10, .ref a206, .ref a206])) rfl ?_
      refine y_get hS tq_X12_manyNow (v := .int (rI ρ 8)) rfl fg_X12_77_X12 hX299.m rfl ?_
      refine y_blk 0 tq_X12_manyNow (z := (307, [(0, .ref (ad 200)), (1, .int what), (2, .int v164_2), (3, .int v164_3), (4, .int v164_4), (5, .int v164_5), (6, .int v164_6), (7, .int (Int32.ofNat 6)), (8, .int v164_8)], [.int (rI ρ 8), .int 10, .ref a206, .ref a206])) rfl ?_
      refine y_iast hS tq_X12_manyNow rfl hA299 (by decide) (by first | exact yIn (by decide) (by decide) | exact yIn (by assumption) (by assumption) | (exact yIn (by omega) (by omega))) ?_
      have hA307 : (yup G299 a206 (500, .inl (aC 0, 13, .inl (upd f299 (Int32.toNatClampNeg 10) (rI ρ 8))))) a206 = some (500, .inl (aC 0, 13, .inl (upd f299 (Int32.toNatClampNeg 10) (rI ρ 8)))) := yup_s _ _ _
      have hX307 : atR aC ic de ad (yup G299 a206 (500, .inl (aC 0, 13, .inl (upd f299 (Int32.toNatClampNeg 10) (rI ρ 8))))) ρ := hX299.kp (yTg.up hA299 (by decide))
      have kt307 : yTg kA G (yup G299 a206 (500, .inl (aC 0, 13, .inl (upd f299 (Int32.toNatClampNeg 10) (rI ρ 8))))) := (kt299).trans (yTg.up hA299 (by decide))
      generalize yup G299 a206 (500, .inl (aC 0, 13, .inl (upd f299 (Int32.toNatClampNeg 10) (rI ρ 8)))) = G307 at hA307 hX307 kt307 ⊢
      generalize (upd f299 (Int32.toNatClampNeg 10) (rI ρ 8)) = f307 at hA307
      refine y_blk 3 tq_X12_manyNow (z := (313, [(0, .ref (ad 200)), (1, .int what), (2, .int v164_2), (3, .int v164_3), (4, .int v164_4), (5, .int v164_5), (6, .int v164_6), (7, .int (Int32.ofNat 6)), (8, .int v164_8)], [.int v164_5, .int 11, .ref a206, .ref a206])) rfl ?_
      refine y_iast hS tq_X12_manyNow rfl hA307 (by decide) (by first | exact yIn (by decide) (by decide) | exact yIn (by assumption) (by assumption) | (exact yIn (by omega) (by omega))) ?_
      have hA313 : (yup G307 a206 (500, .inl (aC 0, 13, .inl (upd f307 (Int32.toNatClampNeg 11) v164_5)))) a206 = some (500, .inl (aC 0, 13, .inl (upd f307 (Int32.toNatClampNeg 11) v164_5))) := yup_s _ _ _
      have hX313 : atR aC ic de ad (yup G307 a206 (500, .inl (aC 0, 13, .inl (upd f307 (Int32.toNatClampNeg 11) v164_5)))) ρ := hX307.kp (yTg.up hA307 (by decide))
      have kt313 : yTg kA G (yup G307 a206 (500, .inl (aC 0, 13, .inl (upd f307 (Int32.toNatClampNeg 11) v164_5)))) := (kt307).trans (yTg.up hA307 (by decide))
      generalize yup G307 a206 (500, .inl (aC 0, 13, .inl (upd f307 (Int32.toNatClampNeg 11) v164_5))) = G313 at hA313 hX313 kt313 ⊢
      generalize (upd f307 (Int32.toNatClampNeg 11) v164_5) = f313 at hA313
      refine y_blk 3 tq_X12_manyNow (z := (318, [(0, .ref (ad 200)), (1, .int what), (2, .int v164_2), (3, .int v164_3), (4, .int v164_4), (5, .int v164_5), (6, .int v164_6), (7, .int (Int32.ofNat 6)), (8, .int v164_8)], [.ref (ad 200), .int 12, .ref a206, .ref a206])) rfl ?_
      refine y_get hS tq_X12_manyNow (v := .int (rI ρ 9)) rfl fg_X12_294_X12 hX313.m rfl ?_
      refine y_blk 0 tq_X12_manyNow (z := (321, [(0, .ref (ad 200)), (1, .int what), (2, .int v164_2), (3, .int v164_3), (4, .int v164_4), (5, .int v164_5), (6, .int v164_6), (7, .int (Int32.ofNat 6)), (8, .int v164_8)], [.int (rI ρ 9), .int 12, .ref a206, .ref a206])) rfl ?_
      refine y_iast hS tq_X12_manyNow rfl hA313 (by decide) (by first | exact yIn (by decide) (by decide) | exact yIn (by assumption) (by assumption) | (exact yIn (by omega) (by omega))) ?_
      have hA321 : (yup G313 a206 (500, .inl (aC 0, 13, .inl (upd f313 (Int32.toNatClampNeg 12) (rI ρ 9))))) a206 = some (500, .inl (aC 0, 13, .inl (upd f313 (Int32.toNatClampNeg 12) (rI ρ 9)))) := yup_s _ _ _
      have hX321 : atR aC ic de ad (yup G313 a206 (500, .inl (aC 0, 13, .inl (upd f313 (Int32.toNatClampNeg 12) (rI ρ 9))))) ρ := hX313.kp (yTg.up hA313 (by decide))
      have kt321 : yTg kA G (yup G313 a206 (500, .inl (aC 0, 13, .inl (upd f313 (Int32.toNatClampNeg 12) (rI ρ 9))))) := (kt313).trans (yTg.up hA313 (by decide))
      generalize yup G313 a206 (500, .inl (aC 0, 13, .inl (upd f313 (Int32.toNatClampNeg 12) (rI ρ 9)))) = G321 at hA321 hX321 kt321 ⊢
      generalize (upd f313 (Int32.toNatClampNeg 12) (rI ρ 9)) = f321 at hA321
      refine y_blk 3 tq_X12_manyNow (z := (327, [(6, .ref a206), (0, .ref (ad 200)), (1, .int what), (2, .int v164_2), (3, .int v164_3), (4, .int v164_4), (5, .int v164_5), (7, .int (Int32.ofNat 6)), (8, .int v164_8)], [.int what, .ref a206])) rfl ?_
      refine y_iald hS tq_X12_manyNow rfl hA321 (by first | exact yIn (by decide) (by decide) | exact yIn (by assumption) (by assumption) | (exact yIn (by omega) (by omega))) ?_
      refine y_blk 0 tq_X12_manyNow (z := (328, [(6, .ref a206), (0, .ref (ad 200)), (1, .int what), (2, .int v164_2), (3, .int v164_3), (4, .int v164_4), (5, .int v164_5), (7, .int (Int32.ofNat 6)), (8, .int v164_8)], [.int (f321 (Int32.toNatClampNeg what))])) rfl ?_
      exact y_iret tq_X12_manyNow rfl rfl (⟨⟨_, rfl⟩, kt321⟩)
    · skip
      have b169 : v164_6.toInt ≤ 239 := by rw [ylt] at c169; have z9 : (239 : Int32).toInt = 239 := (by decide); omega
      refine y_blk 2 tq_X12_manyNow (z := (175, [(0, .ref (ad 200)), (1, .int what), (2, .int v164_2), (3, .int v164_3), (4, .int v164_4), (5, .int v164_5), (6, .int v164_6), (7, .int (Int32.ofNat 6)), (8, .int v164_8)], [.int 11, .int what])) rfl ?_
      refine y_icmp_ne tq_X12_manyNow 204 rfl rfl (fun c175 => ?_) (fun c175 => ?_)
      · skip
        refine y_blk 1 tq_X12_manyNow (z := (206, [(0, .ref (ad 200)), (1, .int what), (2, .int v164_2), (3, .int v164_3), (4, .int v164_4), (5, .int v164_5), (6, .int v164_6), (7, .int (Int32.ofNat 6)), (8, .int v164_8)], [.int 13])) rfl ?_
        refine y_newa_int 500 hS tq_X12_manyNow (kc := 0) (ks := 0) (n := 13) rfl wd_176 (by decide) (by decide) (by decide) (fun a206 hne206 => ?_)
        have hle206 : yLe G (yup G a206 (500, .inl (aC 0, 13, .inl (fun _ => 0)))) := yLe.new hne206
        have hA206 : (yup G a206 (500, .inl (aC 0, 13, .inl (fun _ => 0)))) a206 = some (500, .inl (aC 0, 13, .inl (fun _ => 0))) := yup_s _ _ _
        generalize yup G a206 (500, .inl (aC 0, 13, .inl (fun _ => 0))) = G206 at hle206 hA206 ⊢
        have hX206 := hX.le hle206
        have kt206 := ((yTg.rfl' (f := kA) (G := G))).trans (yTg.le hle206)
        refine y_blk 3 tq_X12_manyNow (z := (211, [(0, .ref (ad 200)), (1, .int what), (2, .int v164_2), (3, .int v164_3), (4, .int v164_4), (5, .int v164_5), (6, .int v164_6), (7, .int (Int32.ofNat 6)), (8, .int v164_8)], [.ref (ad 200), .int 0, .ref a206, .ref a206])) rfl ?_
        refine y_get hS tq_X12_manyNow (v := .ref (ad 201)) rfl fg_X12_7_X12 hX206.m rfl ?_
        refine y_blk 0 tq_X12_manyNow (z := (214, [(0, .ref (ad 200)), (1, .int what), (2, .int v164_2), (3, .int v164_3), (4, .int v164_4), (5, .int v164_5), (6, .int v164_6), (7, .int (Int32.ofNat 6)), (8, .int v164_8)], [.ref (ad 201), .int 0, .ref a206, .ref a206])) rfl ?_
        refine y_alen hS tq_X12_manyNow 0 rfl rfl hX206.ki ?_
        refine y_blk 0 tq_X12_manyNow (z := (215, [(0, .ref (ad 200)), (1, .int what), (2, .int v164_2), (3, .int v164_3), (4, .int v164_4), (5, .int v164_5), (6, .int v164_6), (7, .int (Int32.ofNat 6)), (8, .int v164_8)], [.int (Int32.ofNat (rZ ρ 201)), .int 0, .ref a206, .ref a206])) rfl ?_
        refine y_iast hS tq_X12_manyNow rfl hA206 (by decide) (by first | exact yIn (by decide) (by decide) | exact yIn (by assumption) (by assumption) | (exact yIn (by omega) (by omega))) ?_
        have hA215 : (yup G206 a206 (500, .inl (aC 0, 13, .inl (upd (fun _ => 0) (Int32.toNatClampNeg 0) (Int32.ofNat (rZ ρ 201)))))) a206 = some (500, .inl (aC 0, 13, .inl (upd (fun _ => 0) (Int32.toNatClampNeg 0) (Int32.ofNat (rZ ρ 201))))) := yup_s _ _ _
        have hX215 : atR aC ic de ad (yup G206 a206 (500, .inl (aC 0, 13, .inl (upd (fun _ => 0) (Int32.toNatClampNeg 0) (Int32.ofNat (rZ ρ 201)))))) ρ := hX206.kp (yTg.up hA206 (by decide))
        have kt215 : yTg kA G (yup G206 a206 (500, .inl (aC 0, 13, .inl (upd (fun _ => 0) (Int32.toNatClampNeg 0) (Int32.ofNat (rZ ρ 201)))))) := (kt206).trans (yTg.up hA206 (by decide))
        generalize yup G206 a206 (500, .inl (aC 0, 13, .inl (upd (fun _ => 0) (Int32.toNatClampNeg 0) (Int32.ofNat (rZ ρ 201))))) = G215 at hA215 hX215 kt215 ⊢
        generalize (upd (fun _ => 0) (Int32.toNatClampNeg 0) (Int32.ofNat (rZ ρ 201))) = f215 at hA215
        refine y_blk 3 tq_X12_manyNow (z := (219, [(0, .ref (ad 200)), (1, .int what), (2, .int v164_2), (3, .int v164_3), (4, .int v164_4), (5, .int v164_5), (6, .int v164_6), (7, .int (Int32.ofNat 6)), (8, .int v164_8)], [.ref (ad 200), .int 1, .ref a206, .ref a206])) rfl ?_
        refine y_get hS tq_X12_manyNow (v := .ref (ad 210)) rfl fg_X12_20_X12 hX215.m rfl ?_
        refine y_blk 0 tq_X12_manyNow (z := (222, [(0, .ref (ad 200)), (1, .int what), (2, .int v164_2), (3, .int v164_3), (4, .int v164_4), (5, .int v164_5), (6, .int v164_6), (7, .int (Int32.ofNat 6)), (8, .int v164_8)], [.ref (ad 210), .int 1, .ref a206, .ref a206])) rfl ?_
        refine y_callF hS tq_X12_manyNow rfl (As := []) rfl cf_X12_58 (Or.inl ⟨_, (hX215.ls 210 (by decide)).1⟩) (m_Jsize hS (hX215.ls 210 (by decide))) rfl (by decide) (Nat.le_of_ble_eq_true rfl) (fun r222 Gc222 q222 => ?_) (fun _ _ h9 => h9.elim)
        obtain ⟨rfl, eG222⟩ := q222
        have eG222 := eG222.symm
        subst eG222
        refine y_blk 0 tq_X12_manyNow (z := (227, [(0, .ref (ad 200)), (1, .int what), (2, .int v164_2), (3, .int v164_3), (4, .int v164_4), (5, .int v164_5), (6, .int v164_6), (7, .int (Int32.ofNat 6)), (8, .int v164_8)], [.int (Int32.ofNat (rZ ρ 210)), .int 1, .ref a206, .ref a206])) rfl ?_
        refine y_iast hS tq_X12_manyNow rfl hA215 (by decide) (by first | exact yIn (by decide) (by decide) | exact yIn (by assumption) (by assumption) | (exact yIn (by omega) (by omega))) ?_
        have hA227 : (yup G215 a206 (500, .inl (aC 0, 13, .inl (upd f215 (Int32.toNatClampNeg 1) (Int32.ofNat (rZ ρ 210)))))) a206 = some (500, .inl (aC 0, 13, .inl (upd f215 (Int32.toNatClampNeg 1) (Int32.ofNat (rZ ρ 210))))) := yup_s _ _ _
        have hX227 : atR aC ic de ad (yup G215 a206 (500, .inl (aC 0, 13, .inl (upd f215 (Int32.toNatClampNeg 1) (Int32.ofNat (rZ ρ 210)))))) ρ := hX215.kp (yTg.up hA215 (by decide))
        have kt227 : yTg kA G (yup G215 a206 (500, .inl (aC 0, 13, .inl (upd f215 (Int32.toNatClampNeg 1) (Int32.ofNat (rZ ρ 210)))))) := (kt215).trans (yTg.up hA215 (by decide))
        generalize yup G215 a206 (500, .inl (aC 0, 13, .inl (upd f215 (Int32.toNatClampNeg 1) (Int32.ofNat (rZ ρ 210))))) = G227 at hA227 hX227 kt227 ⊢
        generalize (upd f215 (Int32.toNatClampNeg 1) (Int32.ofNat (rZ ρ 210))) = f227 at hA227
        refine y_blk 3 tq_X12_manyNow (z := (231, [(0, .ref (ad 200)), (1, .int what), (2, .int v164_2), (3, .int v164_3), (4, .int v164_4), (5, .int v164_5), (6, .int v164_6), (7, .int (Int32.ofNat 6)), (8, .int v164_8)], [.int v164_2, .int 2, .ref a206, .ref a206])) rfl ?_
        refine y_iast hS tq_X12_manyNow rfl hA227 (by decide) (by first | exact yIn (by decide) (by decide) | exact yIn (by assumption) (by assumption) | (exact yIn (by omega) (by omega))) ?_
        have hA231 : (yup G227 a206 (500, .inl (aC 0, 13, .inl (upd f227 (Int32.toNatClampNeg 2) v164_2)))) a206 = some (500, .inl (aC 0, 13, .inl (upd f227 (Int32.toNatClampNeg 2) v164_2))) := yup_s _ _ _
        have hX231 : atR aC ic de ad (yup G227 a206 (500, .inl (aC 0, 13, .inl (upd f227 (Int32.toNatClampNeg 2) v164_2)))) ρ := hX227.kp (yTg.up hA227 (by decide))
        have kt231 : yTg kA G (yup G227 a206 (500, .inl (aC 0, 13, .inl (upd f227 (Int32.toNatClampNeg 2) v164_2)))) := (kt227).trans (yTg.up hA227 (by decide))
        generalize yup G227 a206 (500, .inl (aC 0, 13, .inl (upd f227 (Int32.toNatClampNeg 2) v164_2))) = G231 at hA231 hX231 kt231 ⊢
        generalize (upd f227 (Int32.toNatClampNeg 2) v164_2) = f231 at hA231
        refine y_blk 3 tq_X12_manyNow (z := (235, [(0, .ref (ad 200)), (1, .int what), (2, .int v164_2), (3, .int v164_3), (4, .int v164_4), (5, .int v164_5), (6, .int v164_6), (7, .int (Int32.ofNat 6)), (8, .int v164_8)], [.ref (ad 200), .int 3, .ref a206, .ref a206])) rfl ?_
        refine y_get hS tq_X12_manyNow (v := .ref (ad 212)) rfl fg_X12_27_X12 hX231.m rfl ?_
        refine y_blk 0 tq_X12_manyNow (z := (238, [(0, .ref (ad 200)), (1, .int what), (2, .int v164_2), (3, .int v164_3), (4, .int v164_4), (5, .int v164_5), (6, .int v164_6), (7, .int (Int32.ofNat 6)), (8, .int v164_8)], [.ref (ad 212), .int 3, .ref a206, .ref a206])) rfl ?_
        refine y_callF hS tq_X12_manyNow rfl (As := []) rfl cf_X12_58 (Or.inl ⟨_, (hX231.ls 212 (by decide)).1⟩) (m_Jsize hS (hX231.ls 212 (by decide))) rfl (by decide) (Nat.le_of_ble_eq_true rfl) (fun r238 Gc238 q238 => ?_) (fun _ _ h9 => h9.elim)
        obtain ⟨rfl, eG238⟩ := q238
        have eG238 := eG238.symm
        subst eG238
        refine y_blk 0 tq_X12_manyNow (z := (243, [(0, .ref (ad 200)), (1, .int what), (2, .int v164_2), (3, .int v164_3), (4, .int v164_4), (5, .int v164_5), (6, .int v164_6), (7, .int (Int32.ofNat 6)), (8, .int v164_8)], [.int (Int32.ofNat (rZ ρ 212)), .int 3, .ref a206, .ref a206])) rfl ?_
        refine y_iast hS tq_X12_manyNow rfl hA231 (by decide) (by first | exact yIn (by decide) (by decide) | exact yIn (by assumption) (by assumption) | (exact yIn (by omega) (by omega))) ?_
        have hA243 : (yup G231 a206 (500, .inl (aC 0, 13, .inl (upd f231 (Int32.toNatClampNeg 3) (Int32.ofNat (rZ ρ 212)))))) a206 = some (500, .inl (aC 0, 13, .inl (upd f231 (Int32.toNatClampNeg 3) (Int32.ofNat (rZ ρ 212))))) := yup_s _ _ _
        have hX243 : atR aC ic de ad (yup G231 a206 (500, .inl (aC 0, 13, .inl (upd f231 (Int32.toNatClampNeg 3) (Int32.ofNat (rZ ρ 212)))))) ρ := hX231.kp (yTg.up hA231 (by decide))
        have kt243 : yTg kA G (yup G231 a206 (500, .inl (aC 0, 13, .inl (upd f231 (Int32.toNatClampNeg 3) (Int32.ofNat (rZ ρ 212)))))) := (kt231).trans (yTg.up hA231 (by decide))
        generalize yup G231 a206 (500, .inl (aC 0, 13, .inl (upd f231 (Int32.toNatClampNeg 3) (Int32.ofNat (rZ ρ 212))))) = G243 at hA243 hX243 kt243 ⊢
        generalize (upd f231 (Int32.toNatClampNeg 3) (Int32.ofNat (rZ ρ 212))) = f243 at hA243
        refine y_blk 3 tq_X12_manyNow (z := (247, [(0, .ref (ad 200)), (1, .int what), (2, .int v164_2), (3, .int v164_3), (4, .int v164_4), (5, .int v164_5), (6, .int v164_6), (7, .int (Int32.ofNat 6)), (8, .int v164_8)], [.ref (ad 200), .int 4, .ref a206, .ref a206])) rfl ?_
        refine y_get hS tq_X12_manyNow (v := .ref (ad 213)) rfl fg_X12_30_X12 hX243.m rfl ?_
        refine y_blk 0 tq_X12_manyNow (z := (250, [(0, .ref (ad 200)), (1, .int what), (2, .int v164_2), (3, .int v164_3), (4, .int v164_4), (5, .int v164_5), (6, .int v164_6), (7, .int (Int32.ofNat 6)), (8, .int v164_8)], [.ref (ad 213), .int 4, .ref a206, .ref a206])) rfl ?_
        refine y_callF hS tq_X12_manyNow rfl (As := []) rfl cf_X12_58 (Or.inl ⟨_, (hX243.ls 213 (by decide)).1⟩) (m_Jsize hS (hX243.ls 213 (by decide))) rfl (by decide) (Nat.le_of_ble_eq_true rfl) (fun r250 Gc250 q250 => ?_) (fun _ _ h9 => h9.elim)
        obtain ⟨rfl, eG250⟩ := q250
        have eG250 := eG250.symm
        subst eG250
        refine y_blk 0 tq_X12_manyNow (z := (255, [(0, .ref (ad 200)), (1, .int what), (2, .int v164_2), (3, .int v164_3), (4, .int v164_4), (5, .int v164_5), (6, .int v164_6), (7, .int (Int32.ofNat 6)), (8, .int v164_8)], [.int (Int32.ofNat (rZ ρ 213)), .int 4, .ref a206, .ref a206])) rfl ?_
        refine y_iast hS tq_X12_manyNow rfl hA243 (by decide) (by first | exact yIn (by decide) (by decide) | exact yIn (by assumption) (by assumption) | (exact yIn (by omega) (by omega))) ?_
        have hA255 : (yup G243 a206 (500, .inl (aC 0, 13, .inl (upd f243 (Int32.toNatClampNeg 4) (Int32.ofNat (rZ ρ 213)))))) a206 = some (500, .inl (aC 0, 13, .inl (upd f243 (Int32.toNatClampNeg 4) (Int32.ofNat (rZ ρ 213))))) := yup_s _ _ _
        have hX255 : atR aC ic de ad (yup G243 a206 (500, .inl (aC 0, 13, .inl (upd f243 (Int32.toNatClampNeg 4) (Int32.ofNat (rZ ρ 213)))))) ρ := hX243.kp (yTg.up hA243 (by decide))
        have kt255 : yTg kA G (yup G243 a206 (500, .inl (aC 0, 13, .inl (upd f243 (Int32.toNatClampNeg 4) (Int32.ofNat (rZ ρ 213)))))) := (kt243).trans (yTg.up hA243 (by decide))
        generalize yup G243 a206 (500, .inl (aC 0, 13, .inl (upd f243 (Int32.toNatClampNeg 4) (Int32.ofNat (rZ ρ 213))))) = G255 at hA255 hX255 kt255 ⊢
        generalize (upd f243 (Int32.toNatClampNeg 4) (Int32.ofNat (rZ ρ 213))) = f255 at hA255
        refine y_blk 3 tq_X12_manyNow (z := (259, [(0, .ref (ad 200)), (1, .int what), (2, .int v164_2), (3, .int v164_3), (4, .int v164_4), (5, .int v164_5), (6, .int v164_6), (7, .int (Int32.ofNat 6)), (8, .int v164_8)], [.ref (ad 200), .int 5, .ref a206, .ref a206])) rfl ?_
        refine y_get hS tq_X12_manyNow (v := .ref (ad 215)) rfl fg_X12_42_X12 hX255.m rfl ?_
        refine y_blk 0 tq_X12_manyNow (z := (262, [(0, .ref (ad 200)), (1, .int what), (2, .int v164_2), (3, .int v164_3), (4, .int v164_4), (5, .int v164_5), (6, .int v164_6), (7, .int (Int32.ofNat 6)), (8, .int v164_8)], [.ref (ad 215), .int 5, .ref a206, .ref a206])) rfl ?_
        refine y_callF hS tq_X12_manyNow rfl (As := []) rfl cf_X12_58 (Or.inl ⟨_, (hX255.ls 215 (by decide)).1⟩) (m_Jsize hS (hX255.ls 215 (by decide))) rfl (by decide) (Nat.le_of_ble_eq_true rfl) (fun r262 Gc262 q262 => ?_) (fun _ _ h9 => h9.elim)
        obtain ⟨rfl, eG262⟩ := q262
        have eG262 := eG262.symm
        subst eG262
        refine y_blk 0 tq_X12_manyNow (z := (267, [(0, .ref (ad 200)), (1, .int what), (2, .int v164_2), (3, .int v164_3), (4, .int v164_4), (5, .int v164_5), (6, .int v164_6), (7, .int (Int32.ofNat 6)), (8, .int v164_8)], [.int (Int32.ofNat (rZ ρ 215)), .int 5, .ref a206, .ref a206])) rfl ?_
        refine y_iast hS tq_X12_manyNow rfl hA255 (by decide) (by first | exact yIn (by decide) (by decide) | exact yIn (by assumption) (by assumption) | (exact yIn (by omega) (by omega))) ?_
        have hA267 : (yup G255 a206 (500, .inl (aC 0, 13, .inl (upd f255 (Int32.toNatClampNeg 5) (Int32.ofNat (rZ ρ 215)))))) a206 = some (500, .inl (aC 0, 13, .inl (upd f255 (Int32.toNatClampNeg 5) (Int32.ofNat (rZ ρ 215))))) := yup_s _ _ _
        have hX267 : atR aC ic de ad (yup G255 a206 (500, .inl (aC 0, 13, .inl (upd f255 (Int32.toNatClampNeg 5) (Int32.ofNat (rZ ρ 215)))))) ρ := hX255.kp (yTg.up hA255 (by decide))
        have kt267 : yTg kA G (yup G255 a206 (500, .inl (aC 0, 13, .inl (upd f255 (Int32.toNatClampNeg 5) (Int32.ofNat (rZ ρ 215)))))) := (kt255).trans (yTg.up hA255 (by decide))
        generalize yup G255 a206 (500, .inl (aC 0, 13, .inl (upd f255 (Int32.toNatClampNeg 5) (Int32.ofNat (rZ ρ 215))))) = G267 at hA267 hX267 kt267 ⊢
        generalize (upd f255 (Int32.toNatClampNeg 5) (Int32.ofNat (rZ ρ 215))) = f267 at hA267
        refine y_blk 3 tq_X12_manyNow (z := (272, [(0, .ref (ad 200)), (1, .int what), (2, .int v164_2), (3, .int v164_3), (4, .int v164_4), (5, .int v164_5), (6, .int v164_6), (7, .int (Int32.ofNat 6)), (8, .int v164_8)], [.int v164_3, .int 6, .ref a206, .ref a206])) rfl ?_
        refine y_iast hS tq_X12_manyNow rfl hA267 (by decide) (by first | exact yIn (by decide) (by decide) | exact yIn (by assumption) (by assumption) | (exact yIn (by omega) (by omega))) ?_
        have hA272 : (yup G267 a206 (500, .inl (aC 0, 13, .inl (upd f267 (Int32.toNatClampNeg 6) v164_3)))) a206 = some (500, .inl (aC 0, 13, .inl (upd f267 (Int32.toNatClampNeg 6) v164_3))) := yup_s _ _ _
        have hX272 : atR aC ic de ad (yup G267 a206 (500, .inl (aC 0, 13, .inl (upd f267 (Int32.toNatClampNeg 6) v164_3)))) ρ := hX267.kp (yTg.up hA267 (by decide))
        have kt272 : yTg kA G (yup G267 a206 (500, .inl (aC 0, 13, .inl (upd f267 (Int32.toNatClampNeg 6) v164_3)))) := (kt267).trans (yTg.up hA267 (by decide))
        generalize yup G267 a206 (500, .inl (aC 0, 13, .inl (upd f267 (Int32.toNatClampNeg 6) v164_3))) = G272 at hA272 hX272 kt272 ⊢
        generalize (upd f267 (Int32.toNatClampNeg 6) v164_3) = f272 at hA272
        refine y_blk 3 tq_X12_manyNow (z := (277, [(0, .ref (ad 200)), (1, .int what), (2, .int v164_2), (3, .int v164_3), (4, .int v164_4), (5, .int v164_5), (6, .int v164_6), (7, .int (Int32.ofNat 6)), (8, .int v164_8)], [.ref (ad 200), .int 7, .ref a206, .ref a206])) rfl ?_
        refine y_get hS tq_X12_manyNow (v := .ref (ad 216)) rfl fg_X12_45_X12 hX272.m rfl ?_
        refine y_blk 0 tq_X12_manyNow (z := (280, [(0, .ref (ad 200)), (1, .int what), (2, .int v164_2), (3, .int v164_3), (4, .int v164_4), (5, .int v164_5), (6, .int v164_6), (7, .int (Int32.ofNat 6)), (8, .int v164_8)], [.ref (ad 216), .int 7, .ref a206, .ref a206])) rfl ?_
        refine y_callF hS tq_X12_manyNow rfl (As := []) rfl cf_X12_58 (Or.inl ⟨_, (hX272.ls 216 (by decide)).1⟩) (m_Jsize hS (hX272.ls 216 (by decide))) rfl (by decide) (Nat.le_of_ble_eq_true rfl) (fun r280 Gc280 q280 => ?_) (fun _ _ h9 => h9.elim)
        obtain ⟨rfl, eG280⟩ := q280
        have eG280 := eG280.symm
        subst eG280
        refine y_blk 0 tq_X12_manyNow (z := (285, [(0, .ref (ad 200)), (1, .int what), (2, .int v164_2), (3, .int v164_3), (4, .int v164_4), (5, .int v164_5), (6, .int v164_6), (7, .int (Int32.ofNat 6)), (8, .int v164_8)], [.int (Int32.ofNat (rZ ρ 216)), .int 7, .ref a206, .ref a206])) rfl ?_
        refine y_iast hS tq_X12_manyNow rfl hA272 (by decide) (by first | exact yIn (by decide) (by decide) | exact yIn (by assumption) (by assumption) | (exact yIn (by omega) (by omega))) ?_
        have hA285 : (yup G272 a206 (500, .inl (aC 0, 13, .inl (upd f272 (Int32.toNatClampNeg 7) (Int32.ofNat (rZ ρ 216)))))) a206 = some (500, .inl (aC 0, 13, .inl (upd f272 (Int32.toNatClampNeg 7) (Int32.ofNat (rZ ρ 216))))) := yup_s _ _ _
        have hX285 : atR aC ic de ad (yup G272 a206 (500, .inl (aC 0, 13, .inl (upd f272 (Int32.toNatClampNeg 7) (Int32.ofNat (rZ ρ 216)))))) ρ := hX272.kp (yTg.up hA272 (by decide))
        have kt285 : yTg kA G (yup G272 a206 (500, .inl (aC 0, 13, .inl (upd f272 (Int32.toNatClampNeg 7) (Int32.ofNat (rZ ρ 216)))))) := (kt272).trans (yTg.up hA272 (by decide))
        generalize yup G272 a206 (500, .inl (aC 0, 13, .inl (upd f272 (Int32.toNatClampNeg 7) (Int32.ofNat (rZ ρ 216))))) = G285 at hA285 hX285 kt285 ⊢
        generalize (upd f272 (Int32.toNatClampNeg 7) (Int32.ofNat (rZ ρ 216))) = f285 at hA285
        refine y_blk 3 tq_X12_manyNow (z := (291, [(0, .ref (ad 200)), (1, .int what), (2, .int v164_2), (3, .int v164_3), (4, .int v164_4), (5, .int v164_5), (6, .int v164_6), (7, .int (Int32.ofNat 6)), (8, .int v164_8)], [.int v164_4, .int 8, .ref a206, .ref a206])) rfl ?_
        refine y_iast hS tq_X12_manyNow rfl hA285 (by decide) (by first | exact yIn (by decide) (by decide) | exact yIn (by assumption) (by assumption) | (exact yIn (by omega) (by omega))) ?_
        have hA291 : (yup G285 a206 (500, .inl (aC 0, 13, .inl (upd f285 (Int32.toNatClampNeg 8) v164_4)))) a206 = some (500, .inl (aC 0, 13, .inl (upd f285 (Int32.toNatClampNeg 8) v164_4))) := yup_s _ _ _
        have hX291 : atR aC ic de ad (yup G285 a206 (500, .inl (aC 0, 13, .inl (upd f285 (Int32.toNatClampNeg 8) v164_4)))) ρ := hX285.kp (yTg.up hA285 (by decide))
        have kt291 : yTg kA G (yup G285 a206 (500, .inl (aC 0, 13, .inl (upd f285 (Int32.toNatClampNeg 8) v164_4)))) := (kt285).trans (yTg.up hA285 (by decide))
        generalize yup G285 a206 (500, .inl (aC 0, 13, .inl (upd f285 (Int32.toNatClampNeg 8) v164_4))) = G291 at hA291 hX291 kt291 ⊢
        generalize (upd f285 (Int32.toNatClampNeg 8) v164_4) = f291 at hA291
        refine y_blk 3 tq_X12_manyNow (z := (296, [(0, .ref (ad 200)), (1, .int what), (2, .int v164_2), (3, .int v164_3), (4, .int v164_4), (5, .int v164_5), (6, .int v164_6), (7, .int (Int32.ofNat 6)), (8, .int v164_8)], [.ref (ad 200), .int 9, .ref a206, .ref a206])) rfl ?_
        refine y_get hS tq_X12_manyNow (v := .int (rI ρ 6)) rfl fg_X12_74_X12 hX291.m rfl ?_
        refine y_blk 0 tq_X12_manyNow (z := (299, [(0, .ref (ad 200)), (1, .int what), (2, .int v164_2), (3, .int v164_3), (4, .int v164_4), (5, .int v164_5), (6, .int v164_6), (7, .int (Int32.ofNat 6)), (8, .int v164_8)], [.int (rI ρ 6), .int 9, .ref a206, .ref a206])) rfl ?_
        refine y_iast hS tq_X12_manyNow rfl hA291 (by decide) (by first | exact yIn (by decide) (by decide) | exact yIn (by assumption) (by assumption) | (exact yIn (by omega) (by omega))) ?_
        have hA299 : (yup G291 a206 (500, .inl (aC 0, 13, .inl (upd f291 (Int32.toNatClampNeg 9) (rI ρ 6))))) a206 = some (500, .inl (aC 0, 13, .inl (upd f291 (Int32.toNatClampNeg 9) (rI ρ 6)))) := yup_s _ _ _
        have hX299 : atR aC ic de ad (yup G291 a206 (500, .inl (aC 0, 13, .inl (upd f291 (Int32.toNatClampNeg 9) (rI ρ 6))))) ρ := hX291.kp (yTg.up hA291 (by decide))
        have kt299 : yTg kA G (yup G291 a206 (500, .inl (aC 0, 13, .inl (upd f291 (Int32.toNatClampNeg 9) (rI ρ 6))))) := (kt291).trans (yTg.up hA291 (by decide))
        generalize yup G291 a206 (500, .inl (aC 0, 13, .inl (upd f291 (Int32.toNatClampNeg 9) (rI ρ 6)))) = G299 at hA299 hX299 kt299 ⊢
        generalize (upd f291 (Int32.toNatClampNeg 9) (rI ρ 6)) = f299 at hA299
        refine y_blk 3 tq_X12_manyNow (z := (304, [(0, .ref (ad 200)), (1, .int what), (2, .int v164_2), (3, .int v164_3), (4, .int v164_4), (5, .int v164_5), (6, .int v164_6), (7, .int (Int32.ofNat 6)), (8, .int v164_8)], [.ref (ad 200), .int 10, .ref a206, .ref a206])) rfl ?_
        refine y_get hS tq_X12_manyNow (v := .int (rI ρ 8)) rfl fg_X12_77_X12 hX299.m rfl ?_
        refine y_blk 0 tq_X12_manyNow (z := (307, [(0, .ref (ad 200)), (1, .int what), (2, .int v164_2), (3, .int v164_3), (4, .int v164_4), (5, .int v164_5), (6, .int v164_6), (7, .int (Int32.ofNat 6)), (8, .int v164_8)], [.int (rI ρ 8), .int 10, .ref a206, .ref a206])) rfl ?_
        refine y_iast hS tq_X12_manyNow rfl hA299 (by decide) (by first | exact yIn (by decide) (by decide) | exact yIn (by assumption) (by assumption) | (exact yIn (by omega) (by omega))) ?_
        have hA307 : (yup G299 a206 (500, .inl (aC 0, 13, .inl (upd f299 (Int32.toNatClampNeg 10) (rI ρ 8))))) a206 = some (500, .inl (aC 0, 13, .inl (upd f299 (Int32.toNatClampNeg 10) (rI ρ 8)))) := yup_s _ _ _
        have hX307 : atR aC ic de ad (yup G299 a206 (500, .inl (aC 0, 13, .inl (upd f299 (Int32.toNatClampNeg 10) (rI ρ 8))))) ρ := hX299.kp (yTg.up hA299 (by decide))
        have kt307 : yTg kA G (yup G299 a206 (500, .inl (aC 0, 13, .inl (upd f299 (Int32.toNatClampNeg 10) (rI ρ 8))))) := (kt299).trans (yTg.up hA299 (by decide))
        generalize yup G299 a206 (500, .inl (aC 0, 13, .inl (upd f299 (Int32.toNatClampNeg 10) (rI ρ 8)))) = G307 at hA307 hX307 kt307 ⊢
        generalize (upd f299 (Int32.toNatClampNeg 10) (rI ρ 8)) = f307 at hA307
        refine y_blk 3 tq_X12_manyNow (z := (313, [(0, .ref (ad 200)), (1, .int what), (2, .int v164_2), (3, .int v164_3), (4, .int v164_4), (5, .int v164_5), (6, .int v164_6), (7, .int (Int32.ofNat 6)), (8, .int v164_8)], [.int v164_5, .int 11, .ref a206, .ref a206])) rfl ?_
        refine y_iast hS tq_X12_manyNow rfl hA307 (by decide) (by first | exact yIn (by decide) (by decide) | exact yIn (by assumption) (by assumption) | (exact yIn (by omega) (by omega))) ?_
        have hA313 : (yup G307 a206 (500, .inl (aC 0, 13, .inl (upd f307 (Int32.toNatClampNeg 11) v164_5)))) a206 = some (500, .inl (aC 0, 13, .inl (upd f307 (Int32.toNatClampNeg 11) v164_5))) := yup_s _ _ _
        have hX313 : atR aC ic de ad (yup G307 a206 (500, .inl (aC 0, 13, .inl (upd f307 (Int32.toNatClampNeg 11) v164_5)))) ρ := hX307.kp (yTg.up hA307 (by decide))
        have kt313 : yTg kA G (yup G307 a206 (500, .inl (aC 0, 13, .inl (upd f307 (Int32.toNatClampNeg 11) v164_5)))) := (kt307).trans (yTg.up hA307 (by decide))
        generalize yup G307 a206 (500, .inl (aC 0, 13, .inl (upd f307 (Int32.toNatClampNeg 11) v164_5))) = G313 at hA313 hX313 kt313 ⊢
        generalize (upd f307 (Int32.toNatClampNeg 11) v164_5) = f313 at hA313
        refine y_blk 3 tq_X12_manyNow (z := (318, [(0, .ref (ad 200)), (1, .int what), (2, .int v164_2), (3, .int v164_3), (4, .int v164_4), (5, .int v164_5), (6, .int v164_6), (7, .int (Int32.ofNat 6)), (8, .int v164_8)], [.ref (ad 200), .int 12, .ref a206, .ref a206])) rfl ?_
        refine y_get hS tq_X12_manyNow (v := .int (rI ρ 9)) rfl fg_X12_294_X12 hX313.m rfl ?_
        refine y_blk 0 tq_X12_manyNow (z := (321, [(0, .ref (ad 200)), (1, .int what), (2, .int v164_2), (3, .int v164_3), (4, .int v164_4), (5, .int v164_5), (6, .int v164_6), (7, .int (Int32.ofNat 6)), (8, .int v164_8)], [.int (rI ρ 9), .int 12, .ref a206, .ref a206])) rfl ?_
        refine y_iast hS tq_X12_manyNow rfl hA313 (by decide) (by first | exact yIn (by decide) (by decide) | exact yIn (by assumption) (by assumption) | (exact yIn (by omega) (by omega))) ?_
        have hA321 : (yup G313 a206 (500, .inl (aC 0, 13, .inl (upd f313 (Int32.toNatClampNeg 12) (rI ρ 9))))) a206 = some (500, .inl (aC 0, 13, .inl (upd f313 (Int32.toNatClampNeg 12) (rI ρ 9)))) := yup_s _ _ _
        have hX321 : atR aC ic de ad (yup G313 a206 (500, .inl (aC 0, 13, .inl (upd f313 (Int32.toNatClampNeg 12) (rI ρ 9))))) ρ := hX313.kp (yTg.up hA313 (by decide))
        have kt321 : yTg kA G (yup G313 a206 (500, .inl (aC 0, 13, .inl (upd f313 (Int32.toNatClampNeg 12) (rI ρ 9))))) := (kt313).trans (yTg.up hA313 (by decide))
        generalize yup G313 a206 (500, .inl (aC 0, 13, .inl (upd f313 (Int32.toNatClampNeg 12) (rI ρ 9)))) = G321 at hA321 hX321 kt321 ⊢
        generalize (upd f313 (Int32.toNatClampNeg 12) (rI ρ 9)) = f321 at hA321
        refine y_blk 3 tq_X12_manyNow (z := (327, [(6, .ref a206), (0, .ref (ad 200)), (1, .int what), (2, .int v164_2), (3, .int v164_3), (4, .int v164_4), (5, .int v164_5), (7, .int (Int32.ofNat 6)), (8, .int v164_8)], [.int what, .ref a206])) rfl ?_
        refine y_iald hS tq_X12_manyNow rfl hA321 (by first | exact yIn (by decide) (by decide) | exact yIn (by assumption) (by assumption) | (exact yIn (by omega) (by omega))) ?_
        refine y_blk 0 tq_X12_manyNow (z := (328, [(6, .ref a206), (0, .ref (ad 200)), (1, .int what), (2, .int v164_2), (3, .int v164_3), (4, .int v164_4), (5, .int v164_5), (7, .int (Int32.ofNat 6)), (8, .int v164_8)], [.int (f321 (Int32.toNatClampNeg what))])) rfl ?_
        exact y_iret tq_X12_manyNow rfl rfl (⟨⟨_, rfl⟩, kt321⟩)
      · skip
        refine y_blk 4 tq_X12_manyNow (z := (184, [(0, .ref (ad 200)), (1, .int what), (2, .int v164_2), (3, .int v164_3), (4, .int v164_4), (5, .int v164_5), (6, .int v164_6), (7, .int (Int32.ofNat 6)), (8, .int v164_8)], [.int 4, .int v164_6, .ref (ad 200), .int v164_5])) rfl ?_
        refine y_callV hS tq_X12_manyNow rfl (As := [.int v164_6, .int 4]) rfl cv_X12_205 hX.m (m_X12_minuteNow hS hI hX v164_6 4) rfl (by decide) (Nat.le_of_ble_eq_true rfl) (fun r184 Gc184 q184 => ?_) (fun E9 G9 h9 => h9.elim)
        obtain ⟨⟨x184, rfl⟩, eG184⟩ := q184
        have eG184 := eG184.symm
        subst eG184
        refine y_blk 0 tq_X12_manyNow (z := (187, [(0, .ref (ad 200)), (1, .int what), (2, .int v164_2), (3, .int v164_3), (4, .int v164_4), (5, .int v164_5), (6, .int v164_6), (7, .int (Int32.ofNat 6)), (8, .int v164_8)], [.int x184, .int v164_5])) rfl ?_
        refine y_if_le tq_X12_manyNow 194 rfl rfl (fun c187 => ?_) (fun c187 => ?_)
        · skip
          refine y_blk 5 tq_X12_manyNow (z := (164, [(6, .int (v164_6 + 1)), (5, .int (v164_5 + 0)), (0, .ref (ad 200)), (1, .int what), (2, .int v164_2), (3, .int v164_3), (4, .int v164_4), (7, .int (Int32.ofNat 6)), (8, .int v164_8)], [])) rfl ?_
          refine y_pick (L2 := [(0, .ref (ad 200)), (1, .int what), (2, .int v164_2), (3, .int v164_3), (4, .int v164_4), (5, .int (v164_5 + 0)), (6, .int (v164_6 + 1)), (7, .int (Int32.ofNat 6)), (8, .int v164_8)]) [2, 3, 4, 5, 6, 1, 0, 7, 8] rfl ?_
          exact ih164 _ (by exact ydec2 c169 (by decide)) v164_2 v164_3 v164_4 (v164_5 + 0) (v164_6 + 1) v164_8 (by first | decide | assumption | exact Int.le_refl _ | exact yposgtL (by assumption) c169 (by decide)) rfl
        · skip
          refine y_blk 6 tq_X12_manyNow (z := (164, [(6, .int (v164_6 + 1)), (5, .int (v164_5 + 1)), (0, .ref (ad 200)), (1, .int what), (2, .int v164_2), (3, .int v164_3), (4, .int v164_4), (7, .int (Int32.ofNat 6)), (8, .int v164_8)], [])) rfl ?_
          refine y_pick (L2 := [(0, .ref (ad 200)), (1, .int what), (2, .int v164_2), (3, .int v164_3), (4, .int v164_4), (5, .int (v164_5 + 1)), (6, .int (v164_6 + 1)), (7, .int (Int32.ofNat 6)), (8, .int v164_8)]) [2, 3, 4, 5, 6, 1, 0, 7, 8] rfl ?_
          exact ih164 _ (by exact ydec2 c169 (by decide)) v164_2 v164_3 v164_4 (v164_5 + 1) (v164_6 + 1) v164_8 (by first | decide | assumption | exact Int.le_refl _ | exact yposgtL (by assumption) c169 (by decide)) rfl
  have J125 : ∀ (n125 : Nat) (v125_2 : Int32) (v125_3 : Int32) (v125_4 : Int32) (v125_5 : Int32) (v125_8 : Int32) (hb_v125_5 : v125_5 = 0 ∨ v125_5 = 1) (h0_125 : 0 ≤ v125_8.toInt), (((Int32.ofNat 6) : Int32).toInt - v125_8.toInt).toNat = n125 → Y l S0 D K_X12_manyNow 22 1 13 (fun r G1 => (∃ v : Int32, r = some (.int v)) ∧ yTg kA G G1) (fun _ _ => False) 125 [(0, .ref (ad 200)), (1, .int what), (2, .int v125_2), (3, .int v125_3), (4, .int v125_4), (5, .int v125_5), (6, .ref (ad 203)), (7, .int (Int32.ofNat 6)), (8, .int v125_8)] [] G 1 13 := by
    intro n125
    induction n125 using Nat.strongRecOn with
    | _ n125 ih125 =>
    intro v125_2 v125_3 v125_4 v125_5 v125_8 hb_v125_5 h0_125 hn125
    subst hn125
    refine y_blk 2 tq_X12_manyNow (z := (129, [(0, .ref (ad 200)), (1, .int what), (2, .int v125_2), (3, .int v125_3), (4, .int v125_4), (5, .int v125_5), (6, .ref (ad 203)), (7, .int (Int32.ofNat 6)), (8, .int v125_8)], [.int (Int32.ofNat 6), .int v125_8])) rfl ?_
    refine y_icmp_ge tq_X12_manyNow 161 rfl rfl (fun c129 => ?_) (fun c129 => ?_)
    · skip
      refine y_blk 2 tq_X12_manyNow (z := (164, [(6, .int 0), (0, .ref (ad 200)), (1, .int what), (2, .int v125_2), (3, .int v125_3), (4, .int v125_4), (5, .int v125_5), (7, .int (Int32.ofNat 6)), (8, .int v125_8)], [])) rfl ?_
      refine y_pick (L2 := [(0, .ref (ad 200)), (1, .int what), (2, .int v125_2), (3, .int v125_3), (4, .int v125_4), (5, .int v125_5), (6, .int 0), (7, .int (Int32.ofNat 6)), (8, .int v125_8)]) [1, 2, 3, 4, 5, 6, 0, 7, 8] rfl ?_
      exact J164 _ v125_2 v125_3 v125_4 v125_5 0 v125_8 (by first | decide | assumption | exact Int.le_refl _ | exact yposgtL (by assumption) c169 (by decide)) rfl
    · skip
      have b129 : v125_8.toInt < ((6 : Nat) : Int) := yIy (by decide) h0_125 c129
      refine y_blk 2 tq_X12_manyNow (z := (136, [(0, .ref (ad 200)), (1, .int what), (2, .int v125_2), (3, .int v125_3), (4, .int v125_4), (5, .int v125_5), (6, .ref (ad 203)), (7, .int (Int32.ofNat 6)), (8, .int v125_8)], [.int v125_8, .ref (ad 203)])) rfl ?_
      refine y_iald hS tq_X12_manyNow rfl hX.ke (by first | exact yIn (by decide) (by decide) | exact yIn (by assumption) (by assumption) | (exact yIn (by omega) (by omega))) ?_
      refine y_blk 4 tq_X12_manyNow (z := (144, [(9, .int ((rV ρ 203) (Int32.toNatClampNeg v125_8))), (0, .ref (ad 200)), (1, .int what), (2, .int v125_2), (3, .int v125_3), (4, .int v125_4), (5, .int v125_5), (6, .ref (ad 203)), (7, .int (Int32.ofNat 6)), (8, .int v125_8)], [.int (-1), .int ((rV ρ 203) (Int32.toNatClampNeg v125_8)), .int v125_4])) rfl ?_
      refine y_icmp_ne tq_X12_manyNow 151 rfl rfl (fun c144 => ?_) (fun c144 => ?_)
      · skip
        refine y_blk 5 tq_X12_manyNow (z := (125, [(8, .int (v125_8 + 1)), (4, .int (v125_4 + 1)), (9, .int ((rV ρ 203) (Int32.toNatClampNeg v125_8))), (0, .ref (ad 200)), (1, .int what), (2, .int v125_2), (3, .int v125_3), (5, .int v125_5), (6, .ref (ad 203)), (7, .int (Int32.ofNat 6))], [])) rfl ?_
        refine y_pick (L2 := [(0, .ref (ad 200)), (1, .int what), (2, .int v125_2), (3, .int v125_3), (4, .int (v125_4 + 1)), (5, .int v125_5), (6, .ref (ad 203)), (7, .int (Int32.ofNat 6)), (8, .int (v125_8 + 1))]) [3, 4, 5, 6, 1, 7, 8, 9, 0] rfl ?_
        exact ih125 _ (by exact ydec c129) v125_2 v125_3 (v125_4 + 1) v125_5 (v125_8 + 1) hb_v125_5 (by first | decide | assumption | exact Int.le_refl _ | exact yposgeL (by assumption) c129) rfl
      · skip
        refine y_blk 6 tq_X12_manyNow (z := (125, [(8, .int (v125_8 + 1)), (4, .int (v125_4 + 0)), (9, .int ((rV ρ 203) (Int32.toNatClampNeg v125_8))), (0, .ref (ad 200)), (1, .int what), (2, .int v125_2), (3, .int v125_3), (5, .int v125_5), (6, .ref (ad 203)), (7, .int (Int32.ofNat 6))], [])) rfl ?_
        refine y_pick (L2 := [(0, .ref (ad 200)), (1, .int what), (2, .int v125_2), (3, .int v125_3), (4, .int (v125_4 + 0)), (5, .int v125_5), (6, .ref (ad 203)), (7, .int (Int32.ofNat 6)), (8, .int (v125_8 + 1))]) [3, 4, 5, 6, 1, 7, 8, 9, 0] rfl ?_
        exact ih125 _ (by exact ydec c129) v125_2 v125_3 (v125_4 + 0) v125_5 (v125_8 + 1) hb_v125_5 (by first | decide | assumption | exact Int.le_refl _ | exact yposgeL (by assumption) c129) rfl
  have J55 : ∀ (n55 : Nat) (v55_2 : Int32) (v55_3 : Int32) (v55_4 : Int32) (v55_5 : Int32) (v55_6 : Int32) (hb_v55_4 : v55_4 = 0 ∨ v55_4 = 1) (hb_v55_5 : v55_5 = 0 ∨ v55_5 = 1) (h0_55 : 0 ≤ v55_6.toInt), (((Int32.ofNat (rZ ρ 215)) : Int32).toInt - v55_6.toInt).toNat = n55 → Y l S0 D K_X12_manyNow 22 1 13 (fun r G1 => (∃ v : Int32, r = some (.int v)) ∧ yTg kA G G1) (fun _ _ => False) 55 [(0, .ref (ad 200)), (1, .int what), (2, .int v55_2), (3, .int v55_3), (4, .int v55_4), (5, .int v55_5), (6, .int v55_6)] [] G 1 13 := by
    intro n55
    induction n55 using Nat.strongRecOn with
    | _ n55 ih55 =>
    intro v55_2 v55_3 v55_4 v55_5 v55_6 hb_v55_4 hb_v55_5 h0_55 hn55
    subst hn55
    refine y_blk 2 tq_X12_manyNow (z := (58, [(0, .ref (ad 200)), (1, .int what), (2, .int v55_2), (3, .int v55_3), (4, .int v55_4), (5, .int v55_5), (6, .int v55_6)], [.ref (ad 200), .int v55_6])) rfl ?_
    refine y_get hS tq_X12_manyNow (v := .ref (ad 215)) rfl fg_X12_42_X12 hX.m rfl ?_
    refine y_blk 0 tq_X12_manyNow (z := (61, [(0, .ref (ad 200)), (1, .int what), (2, .int v55_2), (3, .int v55_3), (4, .int v55_4), (5, .int v55_5), (6, .int v55_6)], [.ref (ad 215), .int v55_6])) rfl ?_
    refine y_callF hS tq_X12_manyNow rfl (As := []) rfl cf_X12_58 (Or.inl ⟨_, (hX.ls 215 (by decide)).1⟩) (m_Jsize hS (hX.ls 215 (by decide))) rfl (by decide) (Nat.le_of_ble_eq_true rfl) (fun r61 Gc61 q61 => ?_) (fun _ _ h9 => h9.elim)
    obtain ⟨rfl, eG61⟩ := q61
    have eG61 := eG61.symm
    subst eG61
    refine y_blk 0 tq_X12_manyNow (z := (66, [(0, .ref (ad 200)), (1, .int what), (2, .int v55_2), (3, .int v55_3), (4, .int v55_4), (5, .int v55_5), (6, .int v55_6)], [.int (Int32.ofNat (rZ ρ 215)), .int v55_6])) rfl ?_
    refine y_icmp_ge tq_X12_manyNow 111 rfl rfl (fun c66 => ?_) (fun c66 => ?_)
    · skip
      refine y_blk 1 tq_X12_manyNow (z := (112, [(0, .ref (ad 200)), (1, .int what), (2, .int v55_2), (3, .int v55_3), (4, .int v55_4), (5, .int v55_5), (6, .int v55_6)], [.ref (ad 200)])) rfl ?_
      refine y_get hS tq_X12_manyNow (v := .ref (ad 203)) rfl fg_X12_39_X12 hX.m rfl ?_
      refine y_blk 2 tq_X12_manyNow (z := (119, [(6, .ref (ad 203)), (0, .ref (ad 200)), (1, .int what), (2, .int v55_2), (3, .int v55_3), (4, .int v55_4), (5, .int v55_5)], [.ref (ad 203)])) rfl ?_
      refine y_alen hS tq_X12_manyNow 0 rfl rfl hX.ke ?_
      refine y_blk 3 tq_X12_manyNow (z := (125, [(8, .int 0), (7, .int (Int32.ofNat 6)), (6, .ref (ad 203)), (0, .ref (ad 200)), (1, .int what), (2, .int v55_2), (3, .int v55_3), (4, .int v55_4), (5, .int v55_5)], [])) rfl ?_
      refine y_pick (L2 := [(0, .ref (ad 200)), (1, .int what), (2, .int v55_2), (3, .int v55_3), (4, .int v55_4), (5, .int v55_5), (6, .ref (ad 203)), (7, .int (Int32.ofNat 6)), (8, .int 0)]) [3, 4, 5, 6, 7, 8, 2, 1, 0] rfl ?_
      exact J125 _ v55_2 v55_3 v55_4 v55_5 0 hb_v55_5 (by first | decide | assumption | exact Int.le_refl _ | exact yposgeL (by assumption) c129) rfl
    · skip
      have hn66 := hX.2.le10 215 (by decide)
      have b66 : v55_6.toInt < rZ ρ 215 := yIy (by omega) h0_55 c66
      have d66 : Int32.toNatClampNeg v55_6 < rZ ρ 215 := yIx h0_55 b66
      refine y_blk 2 tq_X12_manyNow (z := (72, [(0, .ref (ad 200)), (1, .int what), (2, .int v55_2), (3, .int v55_3), (4, .int v55_4), (5, .int v55_5), (6, .int v55_6)], [.int 6, .int what])) rfl ?_
      refine y_icmp_ne tq_X12_manyNow 111 rfl rfl (fun c72 => ?_) (fun c72 => ?_)
      · skip
        refine y_blk 1 tq_X12_manyNow (z := (112, [(0, .ref (ad 200)), (1, .int what), (2, .int v55_2), (3, .int v55_3), (4, .int v55_4), (5, .int v55_5), (6, .int v55_6)], [.ref (ad 200)])) rfl ?_
        refine y_get hS tq_X12_manyNow (v := .ref (ad 203)) rfl fg_X12_39_X12 hX.m rfl ?_
        refine y_blk 2 tq_X12_manyNow (z := (119, [(6, .ref (ad 203)), (0, .ref (ad 200)), (1, .int what), (2, .int v55_2), (3, .int v55_3), (4, .int v55_4), (5, .int v55_5)], [.ref (ad 203)])) rfl ?_
        refine y_alen hS tq_X12_manyNow 0 rfl rfl hX.ke ?_
        refine y_blk 3 tq_X12_manyNow (z := (125, [(8, .int 0), (7, .int (Int32.ofNat 6)), (6, .ref (ad 203)), (0, .ref (ad 200)), (1, .int what), (2, .int v55_2), (3, .int v55_3), (4, .int v55_4), (5, .int v55_5)], [])) rfl ?_
        refine y_pick (L2 := [(0, .ref (ad 200)), (1, .int what), (2, .int v55_2), (3, .int v55_3), (4, .int v55_4), (5, .int v55_5), (6, .ref (ad 203)), (7, .int (Int32.ofNat 6)), (8, .int 0)]) [3, 4, 5, 6, 7, 8, 2, 1, 0] rfl ?_
        exact J125 _ v55_2 v55_3 v55_4 v55_5 0 hb_v55_5 (by first | decide | assumption | exact Int.le_refl _ | exact yposgeL (by assumption) c129) rfl
      · skip
        refine y_blk 3 tq_X12_manyNow (z := (78, [(0, .ref (ad 200)), (1, .int what), (2, .int v55_2), (3, .int v55_3), (4, .int v55_4), (5, .int v55_5), (6, .int v55_6)], [.ref (ad 200), .ref (ad 200), .int v55_3])) rfl ?_
        refine y_get hS tq_X12_manyNow (v := .ref (ad 215)) rfl fg_X12_42_X12 hX.m rfl ?_
        refine y_blk 1 tq_X12_manyNow (z := (83, [(0, .ref (ad 200)), (1, .int what), (2, .int v55_2), (3, .int v55_3), (4, .int v55_4), (5, .int v55_5), (6, .int v55_6)], [.int v55_6, .ref (ad 215), .ref (ad 200), .int v55_3])) rfl ?_
        refine y_callF hS tq_X12_manyNow rfl (As := [.int v55_6]) rfl cf_X12_80 (Or.inl ⟨_, (hX.ls 215 (by decide)).1⟩) (m_Rin hS hX (by assumption) (by assumption)) rfl (by decide) (Nat.le_of_ble_eq_true rfl) (fun r83 Gc83 q83 => ?_) (fun _ _ h9 => h9.elim)
        obtain ⟨rfl, eG83⟩ := q83
        have eG83 := eG83.symm
        subst eG83
        have d83 : (Int32.toNatClampNeg v55_6) < rZ ρ 215 := yIx (by assumption) (by assumption)
        refine y_blk 0 tq_X12_manyNow (z := (88, [(0, .ref (ad 200)), (1, .int what), (2, .int v55_2), (3, .int v55_3), (4, .int v55_4), (5, .int v55_5), (6, .int v55_6)], [.ref (ad (420 + (Int32.toNatClampNeg v55_6))), .ref (ad 200), .int v55_3])) rfl ?_
        refine y_castG hS tq_X12_manyNow rfl kc_X12_152 (Or.inl ⟨_, (hX.in (by assumption))⟩) ?_
        refine y_blk 0 tq_X12_manyNow (z := (91, [(0, .ref (ad 200)), (1, .int what), (2, .int v55_2), (3, .int v55_3), (4, .int v55_4), (5, .int v55_5), (6, .int v55_6)], [.ref (ad (420 + (Int32.toNatClampNeg v55_6))), .ref (ad 200), .int v55_3])) rfl ?_
        refine y_callV hS tq_X12_manyNow rfl (As := [.ref (ad (420 + (Int32.toNatClampNeg v55_6)))]) rfl cv_X12_254 hX.m (m_X12_foundNow hS hI hX (k := (Int32.toNatClampNeg v55_6)) (by assumption) ) rfl (by decide) (Nat.le_of_ble_eq_true rfl) (fun r91 Gc91 q91 => ?_) (fun E9 G9 h9 => h9.elim)
        obtain ⟨⟨x91, hr_x91, rfl⟩, eG91⟩ := q91
        have eG91 := eG91.symm
        subst eG91
        refine y_blk 1 tq_X12_manyNow (z := (95, [(0, .ref (ad 200)), (1, .int what), (2, .int v55_2), (3, .int v55_3), (4, .int v55_4), (5, .int v55_5), (6, .int v55_6)], [.int (-1), .int x91, .int v55_3])) rfl ?_
        refine y_icmp_ne tq_X12_manyNow 102 rfl rfl (fun c95 => ?_) (fun c95 => ?_)
        · skip
          refine y_blk 5 tq_X12_manyNow (z := (55, [(6, .int (v55_6 + 1)), (3, .int (v55_3 + 1)), (0, .ref (ad 200)), (1, .int what), (2, .int v55_2), (4, .int v55_4), (5, .int v55_5)], [])) rfl ?_
          refine y_pick (L2 := [(0, .ref (ad 200)), (1, .int what), (2, .int v55_2), (3, .int (v55_3 + 1)), (4, .int v55_4), (5, .int v55_5), (6, .int (v55_6 + 1))]) [2, 3, 4, 1, 5, 6, 0] rfl ?_
          exact ih55 _ (by exact ydec c66) v55_2 (v55_3 + 1) v55_4 v55_5 (v55_6 + 1) hb_v55_4 hb_v55_5 (by first | decide | assumption | exact Int.le_refl _ | exact yposgeL (by assumption) c66) rfl
        · skip
          refine y_blk 6 tq_X12_manyNow (z := (55, [(6, .int (v55_6 + 1)), (3, .int (v55_3 + 0)), (0, .ref (ad 200)), (1, .int what), (2, .int v55_2), (4, .int v55_4), (5, .int v55_5)], [])) rfl ?_
          refine y_pick (L2 := [(0, .ref (ad 200)), (1, .int what), (2, .int v55_2), (3, .int (v55_3 + 0)), (4, .int v55_4), (5, .int v55_5), (6, .int (v55_6 + 1))]) [2, 3, 4, 1, 5, 6, 0] rfl ?_
          exact ih55 _ (by exact ydec c66) v55_2 (v55_3 + 0) v55_4 v55_5 (v55_6 + 1) hb_v55_4 hb_v55_5 (by first | decide | assumption | exact Int.le_refl _ | exact yposgeL (by assumption) c66) rfl
  have J13 : ∀ (n13 : Nat) (v13_2 : Int32) (v13_3 : Int32) (v13_4 : Int32) (v13_5 : Int32) (v13_6 : Int32) (hb_v13_3 : v13_3 = 0 ∨ v13_3 = 1) (hb_v13_4 : v13_4 = 0 ∨ v13_4 = 1) (hb_v13_5 : v13_5 = 0 ∨ v13_5 = 1) (h0_13 : 0 ≤ v13_6.toInt), (((Int32.ofNat (rZ ρ 210)) : Int32).toInt - v13_6.toInt).toNat = n13 → Y l S0 D K_X12_manyNow 22 1 13 (fun r G1 => (∃ v : Int32, r = some (.int v)) ∧ yTg kA G G1) (fun _ _ => False) 13 [(0, .ref (ad 200)), (1, .int what), (2, .int v13_2), (3, .int v13_3), (4, .int v13_4), (5, .int v13_5), (6, .int v13_6)] [] G 1 13 := by
    intro n13
    induction n13 using Nat.strongRecOn with
    | _ n13 ih13 =>
    intro v13_2 v13_3 v13_4 v13_5 v13_6 hb_v13_3 hb_v13_4 hb_v13_5 h0_13 hn13
    subst hn13
    refine y_blk 2 tq_X12_manyNow (z := (16, [(0, .ref (ad 200)), (1, .int what), (2, .int v13_2), (3, .int v13_3), (4, .int v13_4), (5, .int v13_5), (6, .int v13_6)], [.ref (ad 200), .int v13_6])) rfl ?_
    refine y_get hS tq_X12_manyNow (v := .ref (ad 210)) rfl fg_X12_20_X12 hX.m rfl ?_
    refine y_blk 0 tq_X12_manyNow (z := (19, [(0, .ref (ad 200)), (1, .int what), (2, .int v13_2), (3, .int v13_3), (4, .int v13_4), (5, .int v13_5), (6, .int v13_6)], [.ref (ad 210), .int v13_6])) rfl ?_
    refine y_callF hS tq_X12_manyNow rfl (As := []) rfl cf_X12_58 (Or.inl ⟨_, (hX.ls 210 (by decide)).1⟩) (m_Jsize hS (hX.ls 210 (by decide))) rfl (by decide) (Nat.le_of_ble_eq_true rfl) (fun r19 Gc19 q19 => ?_) (fun _ _ h9 => h9.elim)
    obtain ⟨rfl, eG19⟩ := q19
    have eG19 := eG19.symm
    subst eG19
    refine y_blk 0 tq_X12_manyNow (z := (24, [(0, .ref (ad 200)), (1, .int what), (2, .int v13_2), (3, .int v13_3), (4, .int v13_4), (5, .int v13_5), (6, .int v13_6)], [.int (Int32.ofNat (rZ ρ 210)), .int v13_6])) rfl ?_
    refine y_icmp_ge tq_X12_manyNow 52 rfl rfl (fun c24 => ?_) (fun c24 => ?_)
    · skip
      refine y_blk 2 tq_X12_manyNow (z := (55, [(6, .int 0), (0, .ref (ad 200)), (1, .int what), (2, .int v13_2), (3, .int v13_3), (4, .int v13_4), (5, .int v13_5)], [])) rfl ?_
      refine y_pick (L2 := [(0, .ref (ad 200)), (1, .int what), (2, .int v13_2), (3, .int v13_3), (4, .int v13_4), (5, .int v13_5), (6, .int 0)]) [1, 2, 3, 4, 5, 6, 0] rfl ?_
      exact J55 _ v13_2 v13_3 v13_4 v13_5 0 hb_v13_4 hb_v13_5 (by first | decide | assumption | exact Int.le_refl _ | exact yposgeL (by assumption) c66) rfl
    · skip
      have hn24 := hX.2.le10 210 (by decide)
      have b24 : v13_6.toInt < rZ ρ 210 := yIy (by omega) h0_13 c24
      have d24 : Int32.toNatClampNeg v13_6 < rZ ρ 210 := yIx h0_13 b24
      refine y_blk 2 tq_X12_manyNow (z := (29, [(0, .ref (ad 200)), (1, .int what), (2, .int v13_2), (3, .int v13_3), (4, .int v13_4), (5, .int v13_5), (6, .int v13_6)], [.ref (ad 200), .int v13_2])) rfl ?_
      refine y_get hS tq_X12_manyNow (v := .ref (ad 210)) rfl fg_X12_20_X12 hX.m rfl ?_
      refine y_blk 1 tq_X12_manyNow (z := (34, [(0, .ref (ad 200)), (1, .int what), (2, .int v13_2), (3, .int v13_3), (4, .int v13_4), (5, .int v13_5), (6, .int v13_6)], [.int v13_6, .ref (ad 210), .int v13_2])) rfl ?_
      refine y_callF hS tq_X12_manyNow rfl (As := [.int v13_6]) rfl cf_X12_80 (Or.inl ⟨_, (hX.ls 210 (by decide)).1⟩) (m_Rla hS hX (by assumption) (by assumption)) rfl (by decide) (Nat.le_of_ble_eq_true rfl) (fun r34 Gc34 q34 => ?_) (fun _ _ h9 => h9.elim)
      obtain ⟨rfl, eG34⟩ := q34
      have eG34 := eG34.symm
      subst eG34
      have d34 : (Int32.toNatClampNeg v13_6) < rZ ρ 210 := yIx (by assumption) (by assumption)
      refine y_blk 0 tq_X12_manyNow (z := (39, [(0, .ref (ad 200)), (1, .int what), (2, .int v13_2), (3, .int v13_3), (4, .int v13_4), (5, .int v13_5), (6, .int v13_6)], [.ref (ad (300 + (Int32.toNatClampNeg v13_6))), .int v13_2])) rfl ?_
      refine y_castA hS tq_X12_manyNow rfl kc_X12_116 (Or.inl ⟨_, (hX.la (by assumption))⟩) ?_
      refine y_blk 1 tq_X12_manyNow (z := (43, [(0, .ref (ad 200)), (1, .int what), (2, .int v13_2), (3, .int v13_3), (4, .int v13_4), (5, .int v13_5), (6, .int v13_6)], [.int 2, .ref (ad (300 + (Int32.toNatClampNeg v13_6))), .int v13_2])) rfl ?_
      refine y_iald hS tq_X12_manyNow rfl (hX.la (by assumption)) (by first | exact yIn (by decide) (by decide) | exact yIn (by assumption) (by assumption) | (exact yIn (by omega) (by omega))) ?_
      refine y_blk 4 tq_X12_manyNow (z := (13, [(6, .int (v13_6 + 1)), (2, .int (v13_2 + ((rV ρ (300 + (Int32.toNatClampNeg v13_6))) (Int32.toNatClampNeg 2)))), (0, .ref (ad 200)), (1, .int what), (3, .int v13_3), (4, .int v13_4), (5, .int v13_5)], [])) rfl ?_
      refine y_pick (L2 := [(0, .ref (ad 200)), (1, .int what), (2, .int (v13_2 + ((rV ρ (300 + (Int32.toNatClampNeg v13_6))) (Int32.toNatClampNeg 2)))), (3, .int v13_3), (4, .int v13_4), (5, .int v13_5), (6, .int (v13_6 + 1))]) [2, 3, 1, 4, 5, 6, 0] rfl ?_
      exact ih13 _ (by exact ydec c24) (v13_2 + ((rV ρ (300 + (Int32.toNatClampNeg v13_6))) (Int32.toNatClampNeg 2))) v13_3 v13_4 v13_5 (v13_6 + 1) hb_v13_3 hb_v13_4 hb_v13_5 (by first | decide | assumption | exact Int.le_refl _ | exact yposgeL (by assumption) c24) rfl
  refine y_blk 10 tq_X12_manyNow (z := (13, [(6, .int 0), (5, .int 0), (4, .int 0), (3, .int 0), (2, .int 0), (0, .ref (ad 200)), (1, .int what)], [])) rfl ?_
  refine y_pick (L2 := [(0, .ref (ad 200)), (1, .int what), (2, .int 0), (3, .int 0), (4, .int 0), (5, .int 0), (6, .int 0)]) [5, 6, 4, 3, 2, 1, 0] rfl ?_
  exact J13 _ 0 0 0 0 0 (Or.inl rfl) (Or.inl rfl) (Or.inl rfl) (by first | decide | assumption | exact Int.le_refl _ | exact yposgeL (by assumption) c24) rfl
