/-! ===== contracts of the reference: lists of the face ===== -/
theorem rsz.setL {ρ : RS} {lt : Nat} (hlt : 210 ≤ lt ∧ lt < 217) (h : rsz ρ) : rsz (rls ρ lt false 0 0) := by
  have z : ∀ j, rZ (rls ρ lt false 0 0) j ≤ rZ ρ j := fun j => by
    show (if j = lt then 0 else rZ ρ j) ≤ rZ ρ j
    split <;> omega
  obtain ⟨b1, b2, b3, b4, b5, b6, b7⟩ := h
  exact ⟨Nat.le_trans (z _) b1, Nat.le_trans (z _) b2, Nat.le_trans (z _) b3, Nat.le_trans (z _) b4, Nat.le_trans (z _) b5, Nat.le_trans (z _) b6, Nat.le_trans (z _) b7⟩
theorem rsz.setK {ρ : RS} {n : Nat} {f : Nat → Int32} (h : rsz ρ) : rsz (rkn ρ n f) := h
theorem atH.setIb {aC : Nat → ClassId} {ic : Int32 → Nat} {de : Nat} {ad : Nat → Nat} {G : AH} {ρ : RS} {b k : Nat} {v : Int32} {e1 : va_E} (h : atH aC ic de ad G ρ) (hz : rsz ρ) (hb : ad 200 = b) (he : e1 = rMod ad (rin ρ k v)) : atH aC ic de ad (yup G b (200, e1)) (rin ρ k v) := by
  subst hb
  exact h.setI hz he
abbrev rlmp (cell reach : Int32) : Nat → Int32 := upd (upd (upd (fun _ => 0) (Int32.toNatClampNeg 0) cell) (Int32.toNatClampNeg 1) reach) (Int32.toNatClampNeg 2) 1
abbrev rtwo (a b : Int32) : Nat → Int32 := upd (upd (fun _ => 0) (Int32.toNatClampNeg 0) a) (Int32.toNatClampNeg 1) b
abbrev roLamp (cell reach : Int32) (r : Option Value) (ρ ρ1 : RS) : Prop := (OKR ρ cell ∧ (1 ≤ reach ∧ reach ≤ 4) ∧ (¬ Int32.ofNat (rZ ρ 210) = 6 ∧ ¬ rkd ρ cell = 1) ∧ r = some (.int (Int32.ofNat (rZ ρ 210 + 1) - 1)) ∧ ρ1 = rAdd (rar (rin ρ 0 0) (300 + rZ ρ 210) (rlmp cell reach)) 210) ∨ roNo (¬ OKR ρ cell) 1 ρ ρ1 ∨ roNo (OKR ρ cell ∧ ¬ (1 ≤ reach ∧ reach ≤ 4)) 2 ρ ρ1 ∨ roNo (OKR ρ cell ∧ (1 ≤ reach ∧ reach ≤ 4) ∧ ¬ (¬ Int32.ofNat (rZ ρ 210) = 6 ∧ ¬ rkd ρ cell = 1)) 3 ρ ρ1
abbrev OKF2 (minute fog : Int32) : Prop := (0 ≤ minute ∧ minute ≤ 239) ∧ (0 ≤ fog ∧ fog ≤ 5)
abbrev roFog (minute fog : Int32) (r : Option Value) (ρ ρ1 : RS) : Prop := (OKF2 minute fog ∧ ¬ Int32.ofNat (rZ ρ 211) = 8 ∧ r = some (.int (Int32.ofNat (rZ ρ 211 + 1))) ∧ ρ1 = rAdd (rar (rin ρ 0 0) (320 + rZ ρ 211) (rtwo minute fog)) 211) ∨ roNo (¬ OKF2 minute fog) 1 ρ ρ1 ∨ roNo (OKF2 minute fog ∧ ¬ ¬ Int32.ofNat (rZ ρ 211) = 8) 2 ρ ρ1
abbrev roWire (cell bar : Int32) (r : Option Value) (ρ ρ1 : RS) : Prop := (OKR ρ cell ∧ (1 ≤ bar ∧ bar ≤ 12) ∧ ¬ Int32.ofNat (rZ ρ 216) = 5 ∧ r = some (.int (Int32.ofNat (rZ ρ 216 + 1) - 1)) ∧ ρ1 = rAdd (rar (rin ρ 0 0) (340 + rZ ρ 216) (rtwo cell bar)) 216) ∨ roNo (¬ OKR ρ cell) 1 ρ ρ1 ∨ roNo (OKR ρ cell ∧ ¬ (1 ≤ bar ∧ bar ≤ 12)) 2 ρ ρ1 ∨ roNo (OKR ρ cell ∧ (1 ≤ bar ∧ bar ≤ 12) ∧ ¬ ¬ Int32.ofNat (rZ ρ 216) = 5) 3 ρ ρ1
abbrev rpush (ρ : RS) (t : Nat) (v : Int32) : Nat → Int32 := fun i => if i = rZ ρ t then v else rV ρ t i
abbrev roPost (cell : Int32) (r : Option Value) (ρ ρ1 : RS) : Prop := (OKR ρ cell ∧ (¬ Int32.ofNat (rZ ρ 213) = 4 ∧ ¬ rkd ρ cell = 1) ∧ r = some (.int (Int32.ofNat (rZ ρ 213 + 1) - 1)) ∧ ρ1 = rAdd (rar (rin ρ 0 0) 213 (rpush ρ 213 cell)) 213) ∨ roNo (¬ OKR ρ cell) 1 ρ ρ1 ∨ roNo (OKR ρ cell ∧ ¬ (¬ Int32.ofNat (rZ ρ 213) = 4 ∧ ¬ rkd ρ cell = 1)) 2 ρ ρ1
abbrev rgl (guard : Int32) : Nat := 380 + (Int32.toNatClampNeg guard)
abbrev roRound (guard cell : Int32) (r : Option Value) (ρ ρ1 : RS) : Prop := ((OKG ρ guard ∧ OKR ρ cell) ∧ (¬ Int32.ofNat (rZ ρ (rgl guard)) = 6 ∧ ¬ rkd ρ cell = 1) ∧ r = some (.int (Int32.ofNat ((if rgl guard = rgl guard then rZ ρ (rgl guard) + 1 else rZ ρ (rgl guard))))) ∧ ρ1 = rAdd (rar (rin ρ 0 0) (rgl guard) (rpush ρ (rgl guard) cell)) (rgl guard)) ∨ roNo (¬ (OKG ρ guard ∧ OKR ρ cell)) 1 ρ ρ1 ∨ roNo ((OKG ρ guard ∧ OKR ρ cell) ∧ ¬ (¬ Int32.ofNat (rZ ρ (rgl guard)) = 6 ∧ ¬ rkd ρ cell = 1)) 2 ρ ρ1
set_option maxHeartbeats 4000000 in
set_option maxRecDepth 100000 in
theorem m_X12_lamp {l : Launch} {S0 : State} {A0 : Array Value} {D : va_G} {aC : Nat → ClassId} {ic : Int32 → Nat} {de : Nat} {ad : Nat → Nat} {G : AH} {ρ : RS} (hS : yS l S0 A0 D aC) (hI : yIc S0 ic de) (hX : atR aC ic de ad G ρ) (cell : Int32) (reach : Int32) (h6 : rZ ρ 210 ≤ 6) : yM l S0 D yX12_lamp cX12_lamp 3 (some .int) 18 2 13 [.ref (ad 200), .int cell, .int reach] G (fun r G1 => (∃ v : Int32, r = some (.int v)) ∧ ∃ (ad1 : Nat → Nat) (ρ1 : RS), atR aC ic de ad1 G1 ρ1 ∧ ad1 200 = ad 200 ∧ yTg kR G G1 ∧ roLamp cell reach r ρ ρ1) (fun _ _ => False) := by
  refine yM.ofK K_X12_lamp rfl (by decide) (Nat.le_of_ble_eq_true rfl) ?_
  refine y_blk 2 tq_X12_lamp (z := (2, [(0, .ref (ad 200)), (1, .int cell), (2, .int reach)], [.int 0, .ref (ad 200)])) rfl ?_
  refine y_put hS tq_X12_lamp rfl fp_X12_51_X12 hX.m (by omega) rfl rfl (Nat.le_of_ble_eq_true rfl) ?_
  have hX2 : atR aC ic de ad (yup G (ad 200) (200, .inr (16, [.int 0, .int (rI ρ 1), .int (rI ρ 2), .ref (ad 201), .int (rI ρ 3), .int (rI ρ 4), .ref (ad 210), .ref (ad 211), .ref (ad 212), .ref (ad 213), .int (rI ρ 5), .int (rI ρ 6), .int (rI ρ 7), .ref (ad 202), .ref (ad 214), .int (rI ρ 8), .ref (ad 203), .ref (ad 215), .ref (ad 216), .int (rI ρ 9)]))) ((rin ρ 0 0)) := atR.setIb hX rfl rfl (hX.2.setI (by decide))
  have kt2 : yTg kR G (yup G (ad 200) (200, .inr (16, [.int 0, .int (rI ρ 1), .int (rI ρ 2), .ref (ad 201), .int (rI ρ 3), .int (rI ρ 4), .ref (ad 210), .ref (ad 211), .ref (ad 212), .ref (ad 213), .int (rI ρ 5), .int (rI ρ 6), .int (rI ρ 7), .ref (ad 202), .ref (ad 214), .int (rI ρ 8), .ref (ad 203), .ref (ad 215), .ref (ad 216), .int (rI ρ 9)]))) := ((yTg.rfl' (f := kR) (G := G))).trans (yTg.up hX.m (kR_n (by omega) (by omega)))
  show Y l S0 D K_X12_lamp 18 2 13 (fun r G1 => (∃ v : Int32, r = some (.int v)) ∧ ∃ (ad1 : Nat → Nat) (ρ1 : RS), atR aC ic de ad1 G1 ρ1 ∧ ad1 200 = ad 200 ∧ yTg kR G G1 ∧ roLamp cell reach r ρ ρ1) (fun _ _ => False) (2 + 3) [(0, .ref (ad 200)), (1, .int cell), (2, .int reach)] [] (yup G (ad 200) (200, .inr (16, [.int 0, .int (rI ρ 1), .int (rI ρ 2), .ref (ad 201), .int (rI ρ 3), .int (rI ρ 4), .ref (ad 210), .ref (ad 211), .ref (ad 212), .ref (ad 213), .int (rI ρ 5), .int (rI ρ 6), .int (rI ρ 7), .ref (ad 202), .ref (ad 214), .int (rI ρ 8), .ref (ad 203), .ref (ad 215), .ref (ad 216), .int (rI ρ 9)]))) 2 13
  generalize yup G (ad 200) (200, .inr (16, [.int 0, .int (rI ρ 1), .int (rI ρ 2), .ref (ad 201), .int (rI ρ 3), .int (rI ρ 4), .ref (ad 210), .ref (ad 211), .ref (ad 212), .ref (ad 213), .int (rI ρ 5), .int (rI ρ 6), .int (rI ρ 7), .ref (ad 202), .ref (ad 214), .int (rI ρ 8), .ref (ad 203), .ref (ad 215), .ref (ad 216), .int (rI ρ 9)])) = G2 at hX2 kt2 ⊢
  refine y_blk 2 tq_X12_lamp (z := (7, [(0, .ref (ad 200)), (1, .int cell), (2, .int reach)], [.int cell, .ref (ad 200)])) rfl ?_
  refine y_callV hS tq_X12_lamp rfl (As := [.int cell]) rfl cv_X12_157 hX2.m (m_X12_isCell hS hI hX2 cell) rfl (by decide) (Nat.le_of_ble_eq_true rfl) (fun r7 Gc7 q7 => ?_) (fun E9 G9 h9 => h9.elim)
  obtain ⟨rfl, eG7⟩ := q7
  have eG7 := eG7.symm
  subst eG7
  refine y_blk 0 tq_X12_lamp (z := (10, [(0, .ref (ad 200)), (1, .int cell), (2, .int reach)], [.int (if 0 ≤ cell ∧ cell ≤ (Int32.ofNat (rZ ((rin ρ 0 0)) 201)) - 1 then 1 else 0)])) rfl ?_
  refine y_if_ne tq_X12_lamp 19 rfl rfl (fun c10 => ?_) (fun c10 => ?_)
  · skip
    have hq10 := yif1 c10
    have hn10 := yinN (n := rZ ((rin ρ 0 0)) 201) (by have := hX2.2.n64; omega) hq10
    have ha10 := hn10.1
    have hb10 := hn10.2
    refine y_blk 3 tq_X12_lamp (z := (22, [(0, .ref (ad 200)), (1, .int cell), (2, .int reach)], [.int 4, .int 1, .int reach])) rfl ?_
    refine y_callS hS tq_X12_lamp rfl (As := [.int reach, .int 1, .int 4]) rfl cs_X12_54 (m_X12_in hS reach 1 4) rfl (by decide) (Nat.le_of_ble_eq_true rfl) (fun r22 Gc22 q22 => ?_) (fun E9 G9 h9 => h9.elim)
    obtain ⟨rfl, eG22⟩ := q22
    have eG22 := eG22.symm
    subst eG22
    refine y_blk 0 tq_X12_lamp (z := (25, [(0, .ref (ad 200)), (1, .int cell), (2, .int reach)], [.int (if 1 ≤ reach ∧ reach ≤ 4 then 1 else 0)])) rfl ?_
    refine y_if_ne tq_X12_lamp 34 rfl rfl (fun c25 => ?_) (fun c25 => ?_)
    · skip
      have hq25 := yif1 c25
      simp only [yle, yl_m1, yl_0, yl_1, yl_2, yl_3, yl_4, yl_5, yl_6, yl_7, yl_8, yl_9, yl_10, yl_11, yl_12, yl_60, yl_90, yl_239, yl_240] at hq25
      have ha25 := hq25.1
      have hb25 := hq25.2
      refine y_blk 1 tq_X12_lamp (z := (35, [(0, .ref (ad 200)), (1, .int cell), (2, .int reach)], [.ref (ad 200)])) rfl ?_
      refine y_get hS tq_X12_lamp (v := .ref (ad 210)) rfl fg_X12_20_X12 hX2.m rfl ?_
      refine y_blk 0 tq_X12_lamp (z := (38, [(0, .ref (ad 200)), (1, .int cell), (2, .int reach)], [.ref (ad 210)])) rfl ?_
      refine y_callF hS tq_X12_lamp rfl (As := []) rfl cf_X12_58 (Or.inl ⟨_, (hX2.ls 210 (by decide)).1⟩) (m_Jsize hS (hX2.ls 210 (by decide))) rfl (by decide) (Nat.le_of_ble_eq_true rfl) (fun r38 Gc38 q38 => ?_) (fun _ _ h9 => h9.elim)
      obtain ⟨rfl, eG38⟩ := q38
      have eG38 := eG38.symm
      subst eG38
      refine y_blk 1 tq_X12_lamp (z := (45, [(0, .ref (ad 200)), (1, .int cell), (2, .int reach)], [.int 6, .int (Int32.ofNat (rZ ((rin ρ 0 0)) 210))])) rfl ?_
      refine y_icmp_eq tq_X12_lamp 58 rfl rfl (fun c45 => ?_) (fun c45 => ?_)
      · skip
        refine y_blk 2 tq_X12_lamp (z := (60, [(0, .ref (ad 200)), (1, .int cell), (2, .int reach)], [.int 3, .ref (ad 200)])) rfl ?_
        refine y_callV hS tq_X12_lamp rfl (As := [.int 3]) rfl cv_X12_140 hX2.m (m_X12_no hS hI hX2 3) rfl (by decide) (Nat.le_of_ble_eq_true rfl) (fun r60 Gc60 q60 => ?_) (fun E9 G9 h9 => h9.elim)
        obtain ⟨rfl, hX60, kt60_⟩ := q60
        have kt60 := (kt2).trans kt60_
        refine y_blk 0 tq_X12_lamp (z := (63, [(0, .ref (ad 200)), (1, .int cell), (2, .int reach)], [.int 0])) rfl ?_
        exact y_iret tq_X12_lamp rfl rfl (⟨⟨_, rfl⟩, ad, _, hX60, rfl, kt60, Or.inr (Or.inr (Or.inr (⟨⟨yif1 c10, yif1 c25, (by first | exact fun q => q.1 c45 | exact fun q => q.2 c55)⟩, rfl, (rSm.in0 (rSm.in0 rSm.rfl'))⟩)))⟩)
      · skip
        refine y_blk 1 tq_X12_lamp (z := (49, [(0, .ref (ad 200)), (1, .int cell), (2, .int reach)], [.ref (ad 200)])) rfl ?_
        refine y_get hS tq_X12_lamp (v := .ref (ad 201)) rfl fg_X12_7_X12 hX2.m rfl ?_
        refine y_blk 1 tq_X12_lamp (z := (53, [(0, .ref (ad 200)), (1, .int cell), (2, .int reach)], [.int cell, .ref (ad 201)])) rfl ?_
        refine y_iald hS tq_X12_lamp rfl hX2.ki (by first | exact yIn (by decide) (by decide) | exact yIn (by assumption) (by assumption) | (exact yIn (by omega) (by omega))) ?_
        refine y_blk 1 tq_X12_lamp (z := (55, [(0, .ref (ad 200)), (1, .int cell), (2, .int reach)], [.int 1, .int ((rV ((rin ρ 0 0)) 201) (Int32.toNatClampNeg cell))])) rfl ?_
        refine y_icmp_ne tq_X12_lamp 64 rfl rfl (fun c55 => ?_) (fun c55 => ?_)
        · skip
          refine y_blk 1 tq_X12_lamp (z := (65, [(0, .ref (ad 200)), (1, .int cell), (2, .int reach)], [.ref (ad 200)])) rfl ?_
          refine y_get hS tq_X12_lamp (v := .ref (ad 210)) rfl fg_X12_20_X12 hX2.m rfl ?_
          refine y_blk 1 tq_X12_lamp (z := (69, [(0, .ref (ad 200)), (1, .int cell), (2, .int reach)], [.int 3, .ref (ad 210)])) rfl ?_
          refine y_newa_int 500 hS tq_X12_lamp (kc := 1) (ks := 10) (n := 3) rfl wd_176 (by decide) (by decide) (by decide) (fun a69 hne69 => ?_)
          have hle69 : yLe G2 (yup G2 a69 (500, .inl (aC 0, 3, .inl (fun _ => 0)))) := yLe.new hne69
          have hA69 : (yup G2 a69 (500, .inl (aC 0, 3, .inl (fun _ => 0)))) a69 = some (500, .inl (aC 0, 3, .inl (fun _ => 0))) := yup_s _ _ _
          generalize yup G2 a69 (500, .inl (aC 0, 3, .inl (fun _ => 0))) = G69 at hle69 hA69 ⊢
          have hX69 := hX2.le hle69
          have kt69 := (kt2).trans (yTg.le hle69)
          refine y_blk 3 tq_X12_lamp (z := (74, [(0, .ref (ad 200)), (1, .int cell), (2, .int reach)], [.int cell, .int 0, .ref a69, .ref a69, .ref (ad 210)])) rfl ?_
          refine y_iast hS tq_X12_lamp rfl hA69 (by decide) (by first | exact yIn (by decide) (by decide) | exact yIn (by assumption) (by assumption) | (exact yIn (by omega) (by omega))) ?_
          have hA74 : (yup G69 a69 (500, .inl (aC 0, 3, .inl (upd (fun _ => 0) (Int32.toNatClampNeg 0) cell)))) a69 = some (500, .inl (aC 0, 3, .inl (upd (fun _ => 0) (Int32.toNatClampNeg 0) cell))) := yup_s _ _ _
          have hX74 : atR aC ic de ad (yup G69 a69 (500, .inl (aC 0, 3, .inl (upd (fun _ => 0) (Int32.toNatClampNeg 0) cell)))) ((rin ρ 0 0)) := hX69.kp (yTg.up hA69 (by decide))
          have kt74 : yTg kR G (yup G69 a69 (500, .inl (aC 0, 3, .inl (upd (fun _ => 0) (Int32.toNatClampNeg 0) cell)))) := (kt69).trans (yTg.up hA69 (by decide))
          generalize yup G69 a69 (500, .inl (aC 0, 3, .inl (upd (fun _ => 0) (Int32.toNatClampNeg 0) cell))) = G74 at hA74 hX74 kt74 ⊢
          refine y_blk 3 tq_X12_lamp (z := (78, [(0, .ref (ad 200)), (1, .int cell), (2, .int reach)], [.int reach, .int 1, .ref a69, .ref a69, .ref (ad 210)])) rfl ?_
          refine y_iast hS tq_X12_lamp rfl hA74 (by decide) (by first | exact yIn (by decide) (by decide) | exact yIn (by assumption) (by assumption) | (exact yIn (by omega) (by omega))) ?_
          have hA78 : (yup G74 a69 (500, .inl (aC 0, 3, .inl (upd (upd (fun _ => 0) (Int32.toNatClampNeg 0) cell) (Int32.toNatClampNeg 1) reach)))) a69 = some (500, .inl (aC 0, 3, .inl (upd (upd (fun _ => 0) (Int32.toNatClampNeg 0) cell) (Int32.toNatClampNeg 1) reach))) := yup_s _ _ _
          have hX78 : atR aC ic de ad (yup G74 a69 (500, .inl (aC 0, 3, .inl (upd (upd (fun _ => 0) (Int32.toNatClampNeg 0) cell) (Int32.toNatClampNeg 1) reach)))) ((rin ρ 0 0)) := hX74.kp (yTg.up hA74 (by decide))
          have kt78 : yTg kR G (yup G74 a69 (500, .inl (aC 0, 3, .inl (upd (upd (fun _ => 0) (Int32.toNatClampNeg 0) cell) (Int32.toNatClampNeg 1) reach)))) := (kt74).trans (yTg.up hA74 (by decide))
          generalize yup G74 a69 (500, .inl (aC 0, 3, .inl (upd (upd (fun _ => 0) (Int32.toNatClampNeg 0) cell) (Int32.toNatClampNeg 1) reach))) = G78 at hA78 hX78 kt78 ⊢
          refine y_blk 3 tq_X12_lamp (z := (82, [(0, .ref (ad 200)), (1, .int cell), (2, .int reach)], [.int 1, .int 2, .ref a69, .ref a69, .ref (ad 210)])) rfl ?_
          refine y_iast hS tq_X12_lamp rfl hA78 (by decide) (by first | exact yIn (by decide) (by decide) | exact yIn (by assumption) (by assumption) | (exact yIn (by omega) (by omega))) ?_
          have hA82 : (yup G78 a69 (500, .inl (aC 0, 3, .inl (upd (upd (upd (fun _ => 0) (Int32.toNatClampNeg 0) cell) (Int32.toNatClampNeg 1) reach) (Int32.toNatClampNeg 2) 1)))) a69 = some (500, .inl (aC 0, 3, .inl (upd (upd (upd (fun _ => 0) (Int32.toNatClampNeg 0) cell) (Int32.toNatClampNeg 1) reach) (Int32.toNatClampNeg 2) 1))) := yup_s _ _ _
          have hX82 : atR aC ic de ad (yup G78 a69 (500, .inl (aC 0, 3, .inl (upd (upd (upd (fun _ => 0) (Int32.toNatClampNeg 0) cell) (Int32.toNatClampNeg 1) reach) (Int32.toNatClampNeg 2) 1)))) ((rin ρ 0 0)) := hX78.kp (yTg.up hA78 (by decide))
          have kt82 : yTg kR G (yup G78 a69 (500, .inl (aC 0, 3, .inl (upd (upd (upd (fun _ => 0) (Int32.toNatClampNeg 0) cell) (Int32.toNatClampNeg 1) reach) (Int32.toNatClampNeg 2) 1)))) := (kt78).trans (yTg.up hA78 (by decide))
          generalize yup G78 a69 (500, .inl (aC 0, 3, .inl (upd (upd (upd (fun _ => 0) (Int32.toNatClampNeg 0) cell) (Int32.toNatClampNeg 1) reach) (Int32.toNatClampNeg 2) 1))) = G82 at hA82 hX82 kt82 ⊢
          refine y_blk 0 tq_X12_lamp (z := (83, [(0, .ref (ad 200)), (1, .int cell), (2, .int reach)], [.ref a69, .ref (ad 210)])) rfl ?_
          have hne83 : rZ ρ 210 ≠ 6 := fun q => c45 (by show Int32.ofNat (rZ ρ 210) = 6; rw [q]; rfl)
          refine y_retag (t2 := 300 + rZ ((rin ρ 0 0)) 210) hA82 (by decide) ?_
          have hR83 : (yup G82 a69 (300 + rZ ((rin ρ 0 0)) 210, .inl (aC 0, 3, .inl (upd (upd (upd (fun _ => 0) (Int32.toNatClampNeg 0) cell) (Int32.toNatClampNeg 1) reach) (Int32.toNatClampNeg 2) 1)))) a69 = some (300 + rZ ((rin ρ 0 0)) 210, .inl (aC 0, 3, .inl (upd (upd (upd (fun _ => 0) (Int32.toNatClampNeg 0) cell) (Int32.toNatClampNeg 1) reach) (Int32.toNatClampNeg 2) 1))) := yup_s _ _ _
          have hXr83 : atR aC ic de ad (yup G82 a69 (300 + rZ ((rin ρ 0 0)) 210, .inl (aC 0, 3, .inl (upd (upd (upd (fun _ => 0) (Int32.toNatClampNeg 0) cell) (Int32.toNatClampNeg 1) reach) (Int32.toNatClampNeg 2) 1)))) ((rin ρ 0 0)) := hX82.kp (yTg.ret hA82 (by decide))
          have ktr83 : yTg kR G (yup G82 a69 (300 + rZ ((rin ρ 0 0)) 210, .inl (aC 0, 3, .inl (upd (upd (upd (fun _ => 0) (Int32.toNatClampNeg 0) cell) (Int32.toNatClampNeg 1) reach) (Int32.toNatClampNeg 2) 1)))) := (kt82).trans (yTg.ret hA82 (by decide))
          generalize yup G82 a69 (300 + rZ ((rin ρ 0 0)) 210, .inl (aC 0, 3, .inl (upd (upd (upd (fun _ => 0) (Int32.toNatClampNeg 0) cell) (Int32.toNatClampNeg 1) reach) (Int32.toNatClampNeg 2) 1))) = Gr83 at hR83 hXr83 ktr83 ⊢
          refine y_callF hS tq_X12_lamp rfl (As := [.ref a69]) rfl cf_X12_166 (Or.inl ⟨_, (hXr83.ls 210 (by decide)).1⟩) (m_Raddrow hS hI hXr83 (Or.inl ⟨rfl, rfl, rfl⟩) hR83 (by show rZ ρ 210 + 1 ≤ 7; omega) (fun _ => yf3 hn10)) rfl (by decide) (Nat.le_of_ble_eq_true rfl) (fun r83 Gc83 q83 => ?_) (fun _ _ h9 => h9.elim)
          obtain ⟨rfl, adn83, hX83, hd83, kt83_⟩ := q83
          have kt83 := (ktr83).trans kt83_
          show Y l S0 D K_X12_lamp 18 2 13 (fun r G1 => (∃ v : Int32, r = some (.int v)) ∧ ∃ (ad1 : Nat → Nat) (ρ1 : RS), atR aC ic de ad1 G1 ρ1 ∧ ad1 200 = ad 200 ∧ yTg kR G G1 ∧ roLamp cell reach r ρ ρ1) (fun _ _ => False) 88 [(0, .ref (ad 200)), (1, .int cell), (2, .int reach)] [.int 1] Gc83 0 0
          refine y_blk 2 tq_X12_lamp (z := (90, [(0, .ref (ad 200)), (1, .int cell), (2, .int reach)], [.ref (ad 200)])) rfl ?_
          refine y_get hS tq_X12_lamp (v := .ref (adn83 210)) rfl fg_X12_20_X12 (yEq hd83 hX83.m) rfl ?_
          refine y_blk 0 tq_X12_lamp (z := (93, [(0, .ref (ad 200)), (1, .int cell), (2, .int reach)], [.ref (adn83 210)])) rfl ?_
          refine y_callF hS tq_X12_lamp rfl (As := []) rfl cf_X12_58 (Or.inl ⟨_, (hX83.ls 210 (by decide)).1⟩) (m_Jsize hS (hX83.ls 210 (by decide))) rfl (by decide) (Nat.le_of_ble_eq_true rfl) (fun r93 Gc93 q93 => ?_) (fun _ _ h9 => h9.elim)
          obtain ⟨rfl, eG93⟩ := q93
          have eG93 := eG93.symm
          subst eG93
          refine y_blk 2 tq_X12_lamp (z := (100, [(0, .ref (ad 200)), (1, .int cell), (2, .int reach)], [.int ((Int32.ofNat (rZ ((rAdd (rar ((rin ρ 0 0)) (300 + rZ ((rin ρ 0 0)) 210) (upd (upd (upd (fun _ => 0) (Int32.toNatClampNeg 0) cell) (Int32.toNatClampNeg 1) reach) (Int32.toNatClampNeg 2) 1)) 210)) 210)) - 1)])) rfl ?_
          exact y_iret tq_X12_lamp rfl rfl (⟨⟨_, rfl⟩, adn83, _, hX83, hd83, kt83, Or.inl (⟨yif1 c10, yif1 c25, ⟨c45, c55⟩, rfl, rfl⟩)⟩)
        · skip
          refine y_blk 2 tq_X12_lamp (z := (60, [(0, .ref (ad 200)), (1, .int cell), (2, .int reach)], [.int 3, .ref (ad 200)])) rfl ?_
          refine y_callV hS tq_X12_lamp rfl (As := [.int 3]) rfl cv_X12_140 hX2.m (m_X12_no hS hI hX2 3) rfl (by decide) (Nat.le_of_ble_eq_true rfl) (fun r60 Gc60 q60 => ?_) (fun E9 G9 h9 => h9.elim)
          obtain ⟨rfl, hX60, kt60_⟩ := q60
          have kt60 := (kt2).trans kt60_
          refine y_blk 0 tq_X12_lamp (z := (63, [(0, .ref (ad 200)), (1, .int cell), (2, .int reach)], [.int 0])) rfl ?_
          exact y_iret tq_X12_lamp rfl rfl (⟨⟨_, rfl⟩, ad, _, hX60, rfl, kt60, Or.inr (Or.inr (Or.inr (⟨⟨yif1 c10, yif1 c25, (by first | exact fun q => q.1 c45 | exact fun q => q.2 c55)⟩, rfl, (rSm.in0 (rSm.in0 rSm.rfl'))⟩)))⟩)
    · skip
      refine y_blk 2 tq_X12_lamp (z := (30, [(0, .ref (ad 200)), (1, .int cell), (2, .int reach)], [.int 2, .ref (ad 200)])) rfl ?_
      refine y_callV hS tq_X12_lamp rfl (As := [.int 2]) rfl cv_X12_140 hX2.m (m_X12_no hS hI hX2 2) rfl (by decide) (Nat.le_of_ble_eq_true rfl) (fun r30 Gc30 q30 => ?_) (fun E9 G9 h9 => h9.elim)
      obtain ⟨rfl, hX30, kt30_⟩ := q30
      have kt30 := (kt2).trans kt30_
      refine y_blk 0 tq_X12_lamp (z := (33, [(0, .ref (ad 200)), (1, .int cell), (2, .int reach)], [.int 0])) rfl ?_
      exact y_iret tq_X12_lamp rfl rfl (⟨⟨_, rfl⟩, ad, _, hX30, rfl, kt30, Or.inr (Or.inr (Or.inl (⟨⟨yif1 c10, rif c25⟩, rfl, (rSm.in0 (rSm.in0 rSm.rfl'))⟩)))⟩)
  · skip
    refine y_blk 2 tq_X12_lamp (z := (15, [(0, .ref (ad 200)), (1, .int cell), (2, .int reach)], [.int 1, .ref (ad 200)])) rfl ?_
    refine y_callV hS tq_X12_lamp rfl (As := [.int 1]) rfl cv_X12_140 hX2.m (m_X12_no hS hI hX2 1) rfl (by decide) (Nat.le_of_ble_eq_true rfl) (fun r15 Gc15 q15 => ?_) (fun E9 G9 h9 => h9.elim)
    obtain ⟨rfl, hX15, kt15_⟩ := q15
    have kt15 := (kt2).trans kt15_
    refine y_blk 0 tq_X12_lamp (z := (18, [(0, .ref (ad 200)), (1, .int cell), (2, .int reach)], [.int 0])) rfl ?_
    exact y_iret tq_X12_lamp rfl rfl (⟨⟨_, rfl⟩, ad, _, hX15, rfl, kt15, Or.inr (Or.inl (⟨rif c10, rfl, (rSm.in0 (rSm.in0 rSm.rfl'))⟩))⟩)
set_option maxHeartbeats 4000000 in
set_option maxRecDepth 100000 in
theorem m_X12_fog {l : Launch} {S0 : State} {A0 : Array Value} {D : va_G} {aC : Nat → ClassId} {ic : Int32 → Nat} {de : Nat} {ad : Nat → Nat} {G : AH} {ρ : RS} (hS : yS l S0 A0 D aC) (hI : yIc S0 ic de) (hX : atR aC ic de ad G ρ) (minute : Int32) (fog : Int32) : yM l S0 D yX12_fog cX12_fog 3 (some .int) 18 2 12 [.ref (ad 200), .int minute, .int fog] G (fun r G1 => (∃ v : Int32, r = some (.int v)) ∧ ∃ (ad1 : Nat → Nat) (ρ1 : RS), atR aC ic de ad1 G1 ρ1 ∧ ad1 200 = ad 200 ∧ yTg kR G G1 ∧ roFog minute fog r ρ ρ1) (fun _ _ => False) := by
  refine yM.ofK K_X12_fog rfl (by decide) (Nat.le_of_ble_eq_true rfl) ?_
  refine y_blk 2 tq_X12_fog (z := (2, [(0, .ref (ad 200)), (1, .int minute), (2, .int fog)], [.int 0, .ref (ad 200)])) rfl ?_
  refine y_put hS tq_X12_fog rfl fp_X12_51_X12 hX.m (by omega) rfl rfl (Nat.le_of_ble_eq_true rfl) ?_
  have hX2 : atR aC ic de ad (yup G (ad 200) (200, .inr (16, [.int 0, .int (rI ρ 1), .int (rI ρ 2), .ref (ad 201), .int (rI ρ 3), .int (rI ρ 4), .ref (ad 210), .ref (ad 211), .ref (ad 212), .ref (ad 213), .int (rI ρ 5), .int (rI ρ 6), .int (rI ρ 7), .ref (ad 202), .ref (ad 214), .int (rI ρ 8), .ref (ad 203), .ref (ad 215), .ref (ad 216), .int (rI ρ 9)]))) ((rin ρ 0 0)) := atR.setIb hX rfl rfl (hX.2.setI (by decide))
  have kt2 : yTg kR G (yup G (ad 200) (200, .inr (16, [.int 0, .int (rI ρ 1), .int (rI ρ 2), .ref (ad 201), .int (rI ρ 3), .int (rI ρ 4), .ref (ad 210), .ref (ad 211), .ref (ad 212), .ref (ad 213), .int (rI ρ 5), .int (rI ρ 6), .int (rI ρ 7), .ref (ad 202), .ref (ad 214), .int (rI ρ 8), .ref (ad 203), .ref (ad 215), .ref (ad 216), .int (rI ρ 9)]))) := ((yTg.rfl' (f := kR) (G := G))).trans (yTg.up hX.m (kR_n (by omega) (by omega)))
  show Y l S0 D K_X12_fog 18 2 12 (fun r G1 => (∃ v : Int32, r = some (.int v)) ∧ ∃ (ad1 : Nat → Nat) (ρ1 : RS), atR aC ic de ad1 G1 ρ1 ∧ ad1 200 = ad 200 ∧ yTg kR G G1 ∧ roFog minute fog r ρ ρ1) (fun _ _ => False) (2 + 3) [(0, .ref (ad 200)), (1, .int minute), (2, .int fog)] [] (yup G (ad 200) (200, .inr (16, [.int 0, .int (rI ρ 1), .int (rI ρ 2), .ref (ad 201), .int (rI ρ 3), .int (rI ρ 4), .ref (ad 210), .ref (ad 211), .ref (ad 212), .ref (ad 213), .int (rI ρ 5), .int (rI ρ 6), .int (rI ρ 7), .ref (ad 202), .ref (ad 214), .int (rI ρ 8), .ref (ad 203), .ref (ad 215), .ref (ad 216), .int (rI ρ 9)]))) 2 12
  generalize yup G (ad 200) (200, .inr (16, [.int 0, .int (rI ρ 1), .int (rI ρ 2), .ref (ad 201), .int (rI ρ 3), .int (rI ρ 4), .ref (ad 210), .ref (ad 211), .ref (ad 212), .ref (ad 213), .int (rI ρ 5), .int (rI ρ 6), .int (rI ρ 7), .ref (ad 202), .ref (ad 214), .int (rI ρ 8), .ref (ad 203), .ref (ad 215), .ref (ad 216), .int (rI ρ 9)])) = G2 at hX2 kt2 ⊢
  refine y_blk 1 tq_X12_fog (z := (6, [(0, .ref (ad 200)), (1, .int minute), (2, .int fog)], [.int minute])) rfl ?_
  refine y_callS hS tq_X12_fog rfl (As := [.int minute]) rfl cs_X12_163 (m_X12_isMinute hS minute) rfl (by decide) (Nat.le_of_ble_eq_true rfl) (fun r6 Gc6 q6 => ?_) (fun E9 G9 h9 => h9.elim)
  obtain ⟨rfl, eG6⟩ := q6
  have eG6 := eG6.symm
  subst eG6
  refine y_blk 0 tq_X12_fog (z := (9, [(0, .ref (ad 200)), (1, .int minute), (2, .int fog)], [.int (if 0 ≤ minute ∧ minute ≤ 239 then 1 else 0)])) rfl ?_
  refine y_if_eq tq_X12_fog 21 rfl rfl (fun c9 => ?_) (fun c9 => ?_)
  · skip
    refine y_blk 2 tq_X12_fog (z := (23, [(0, .ref (ad 200)), (1, .int minute), (2, .int fog)], [.int 1, .ref (ad 200)])) rfl ?_
    refine y_callV hS tq_X12_fog rfl (As := [.int 1]) rfl cv_X12_140 hX2.m (m_X12_no hS hI hX2 1) rfl (by decide) (Nat.le_of_ble_eq_true rfl) (fun r23 Gc23 q23 => ?_) (fun E9 G9 h9 => h9.elim)
    obtain ⟨rfl, hX23, kt23_⟩ := q23
    have kt23 := (kt2).trans kt23_
    refine y_blk 0 tq_X12_fog (z := (26, [(0, .ref (ad 200)), (1, .int minute), (2, .int fog)], [.int 0])) rfl ?_
    exact y_iret tq_X12_fog rfl rfl (⟨⟨_, rfl⟩, ad, _, hX23, rfl, kt23, Or.inr (Or.inl (⟨(by first | exact fun q => rif c18 q.2 | exact fun q => rif c9 q.1), rfl, (rSm.in0 (rSm.in0 rSm.rfl'))⟩))⟩)
  · skip
    have hq9 := yif1 c9
    simp only [yle, yl_m1, yl_0, yl_1, yl_2, yl_3, yl_4, yl_5, yl_6, yl_7, yl_8, yl_9, yl_10, yl_11, yl_12, yl_60, yl_90, yl_239, yl_240] at hq9
    have ha9 := hq9.1
    have hb9 := hq9.2
    refine y_blk 3 tq_X12_fog (z := (15, [(0, .ref (ad 200)), (1, .int minute), (2, .int fog)], [.int 5, .int 0, .int fog])) rfl ?_
    refine y_callS hS tq_X12_fog rfl (As := [.int fog, .int 0, .int 5]) rfl cs_X12_54 (m_X12_in hS fog 0 5) rfl (by decide) (Nat.le_of_ble_eq_true rfl) (fun r15 Gc15 q15 => ?_) (fun E9 G9 h9 => h9.elim)
    obtain ⟨rfl, eG15⟩ := q15
    have eG15 := eG15.symm
    subst eG15
    refine y_blk 0 tq_X12_fog (z := (18, [(0, .ref (ad 200)), (1, .int minute), (2, .int fog)], [.int (if 0 ≤ fog ∧ fog ≤ 5 then 1 else 0)])) rfl ?_
    refine y_if_ne tq_X12_fog 27 rfl rfl (fun c18 => ?_) (fun c18 => ?_)
    · skip
      have hq18 := yif1 c18
      simp only [yle, yl_m1, yl_0, yl_1, yl_2, yl_3, yl_4, yl_5, yl_6, yl_7, yl_8, yl_9, yl_10, yl_11, yl_12, yl_60, yl_90, yl_239, yl_240] at hq18
      have ha18 := hq18.1
      have hb18 := hq18.2
      refine y_blk 1 tq_X12_fog (z := (28, [(0, .ref (ad 200)), (1, .int minute), (2, .int fog)], [.ref (ad 200)])) rfl ?_
      refine y_get hS tq_X12_fog (v := .ref (ad 211)) rfl fg_X12_24_X12 hX2.m rfl ?_
      refine y_blk 0 tq_X12_fog (z := (31, [(0, .ref (ad 200)), (1, .int minute), (2, .int fog)], [.ref (ad 211)])) rfl ?_
      refine y_callF hS tq_X12_fog rfl (As := []) rfl cf_X12_58 (Or.inl ⟨_, (hX2.ls 211 (by decide)).1⟩) (m_Jsize hS (hX2.ls 211 (by decide))) rfl (by decide) (Nat.le_of_ble_eq_true rfl) (fun r31 Gc31 q31 => ?_) (fun _ _ h9 => h9.elim)
      obtain ⟨rfl, eG31⟩ := q31
      have eG31 := eG31.symm
      subst eG31
      refine y_blk 1 tq_X12_fog (z := (38, [(0, .ref (ad 200)), (1, .int minute), (2, .int fog)], [.int 8, .int (Int32.ofNat (rZ ((rin ρ 0 0)) 211))])) rfl ?_
      refine y_icmp_ne tq_X12_fog 47 rfl rfl (fun c38 => ?_) (fun c38 => ?_)
      · skip
        refine y_blk 1 tq_X12_fog (z := (48, [(0, .ref (ad 200)), (1, .int minute), (2, .int fog)], [.ref (ad 200)])) rfl ?_
        refine y_get hS tq_X12_fog (v := .ref (ad 211)) rfl fg_X12_24_X12 hX2.m rfl ?_
        refine y_blk 1 tq_X12_fog (z := (52, [(0, .ref (ad 200)), (1, .int minute), (2, .int fog)], [.int 2, .ref (ad 211)])) rfl ?_
        refine y_newa_int 500 hS tq_X12_fog (kc := 1) (ks := 10) (n := 2) rfl wd_176 (by decide) (by decide) (by decide) (fun a52 hne52 => ?_)
        have hle52 : yLe G2 (yup G2 a52 (500, .inl (aC 0, 2, .inl (fun _ => 0)))) := yLe.new hne52
        have hA52 : (yup G2 a52 (500, .inl (aC 0, 2, .inl (fun _ => 0)))) a52 = some (500, .inl (aC 0, 2, .inl (fun _ => 0))) := yup_s _ _ _
        generalize yup G2 a52 (500, .inl (aC 0, 2, .inl (fun _ => 0))) = G52 at hle52 hA52 ⊢
        have hX52 := hX2.le hle52
        have kt52 := (kt2).trans (yTg.le hle52)
        refine y_blk 3 tq_X12_fog (z := (57, [(0, .ref (ad 200)), (1, .int minute), (2, .int fog)], [.int minute, .int 0, .ref a52, .ref a52, .ref (ad 211)])) rfl ?_
        refine y_iast hS tq_X12_fog rfl hA52 (by decide) (by first | exact yIn (by decide) (by decide) | exact yIn (by assumption) (by assumption) | (exact yIn (by omega) (by omega))) ?_
        have hA57 : (yup G52 a52 (500, .inl (aC 0, 2, .inl (upd (fun _ => 0) (Int32.toNatClampNeg 0) minute)))) a52 = some (500, .inl (aC 0, 2, .inl (upd (fun _ => 0) (Int32.toNatClampNeg 0) minute))) := yup_s _ _ _
        have hX57 : atR aC ic de ad (yup G52 a52 (500, .inl (aC 0, 2, .inl (upd (fun _ => 0) (Int32.toNatClampNeg 0) minute)))) ((rin ρ 0 0)) := hX52.kp (yTg.up hA52 (by decide))
        have kt57 : yTg kR G (yup G52 a52 (500, .inl (aC 0, 2, .inl (upd (fun _ => 0) (Int32.toNatClampNeg 0) minute)))) := (kt52).trans (yTg.up hA52 (by decide))
        generalize yup G52 a52 (500, .inl (aC 0, 2, .inl (upd (fun _ => 0) (Int32.toNatClampNeg 0) minute))) = G57 at hA57 hX57 kt57 ⊢
        refine y_blk 3 tq_X12_fog (z := (61, [(0, .ref (ad 200)), (1, .int minute), (2, .int fog)], [.int fog, .int 1, .ref a52, .ref a52, .ref (ad 211)])) rfl ?_
        refine y_iast hS tq_X12_fog rfl hA57 (by decide) (by first | exact yIn (by decide) (by decide) | exact yIn (by assumption) (by assumption) | (exact yIn (by omega) (by omega))) ?_
        have hA61 : (yup G57 a52 (500, .inl (aC 0, 2, .inl (upd (upd (fun _ => 0) (Int32.toNatClampNeg 0) minute) (Int32.toNatClampNeg 1) fog)))) a52 = some (500, .inl (aC 0, 2, .inl (upd (upd (fun _ => 0) (Int32.toNatClampNeg 0) minute) (Int32.toNatClampNeg 1) fog))) := yup_s _ _ _
        have hX61 : atR aC ic de ad (yup G57 a52 (500, .inl (aC 0, 2, .inl (upd (upd (fun _ => 0) (Int32.toNatClampNeg 0) minute) (Int32.toNatClampNeg 1) fog)))) ((rin ρ 0 0)) := hX57.kp (yTg.up hA57 (by decide))
        have kt61 : yTg kR G (yup G57 a52 (500, .inl (aC 0, 2, .inl (upd (upd (fun _ => 0) (Int32.toNatClampNeg 0) minute) (Int32.toNatClampNeg 1) fog)))) := (kt57).trans (yTg.up hA57 (by decide))
        generalize yup G57 a52 (500, .inl (aC 0, 2, .inl (upd (upd (fun _ => 0) (Int32.toNatClampNeg 0) minute) (Int32.toNatClampNeg 1) fog))) = G61 at hA61 hX61 kt61 ⊢
        refine y_blk 0 tq_X12_fog (z := (62, [(0, .ref (ad 200)), (1, .int minute), (2, .int fog)], [.ref a52, .ref (ad 211)])) rfl ?_
        have hne62 : rZ ρ 211 ≠ 8 := fun q => c38 (by show Int32.ofNat (rZ ρ 211) = 8; rw [q]; rfl)
        have hz62 : rZ ρ 211 ≤ 8 := hX.2.2.1.2.1
        refine y_retag (t2 := 320 + rZ ((rin ρ 0 0)) 211) hA61 (by decide) ?_
        have hR62 : (yup G61 a52 (320 + rZ ((rin ρ 0 0)) 211, .inl (aC 0, 2, .inl (upd (upd (fun _ => 0) (Int32.toNatClampNeg 0) minute) (Int32.toNatClampNeg 1) fog)))) a52 = some (320 + rZ ((rin ρ 0 0)) 211, .inl (aC 0, 2, .inl (upd (upd (fun _ => 0) (Int32.toNatClampNeg 0) minute) (Int32.toNatClampNeg 1) fog))) := yup_s _ _ _
        have hXr62 : atR aC ic de ad (yup G61 a52 (320 + rZ ((rin ρ 0 0)) 211, .inl (aC 0, 2, .inl (upd (upd (fun _ => 0) (Int32.toNatClampNeg 0) minute) (Int32.toNatClampNeg 1) fog)))) ((rin ρ 0 0)) := hX61.kp (yTg.ret hA61 (by decide))
        have ktr62 : yTg kR G (yup G61 a52 (320 + rZ ((rin ρ 0 0)) 211, .inl (aC 0, 2, .inl (upd (upd (fun _ => 0) (Int32.toNatClampNeg 0) minute) (Int32.toNatClampNeg 1) fog)))) := (kt61).trans (yTg.ret hA61 (by decide))
        generalize yup G61 a52 (320 + rZ ((rin ρ 0 0)) 211, .inl (aC 0, 2, .inl (upd (upd (fun _ => 0) (Int32.toNatClampNeg 0) minute) (Int32.toNatClampNeg 1) fog))) = Gr62 at hR62 hXr62 ktr62 ⊢
        refine y_callF hS tq_X12_fog rfl (As := [.ref a52]) rfl cf_X12_166 (Or.inl ⟨_, (hXr62.ls 211 (by decide)).1⟩) (m_Raddrow hS hI hXr62 (Or.inr (Or.inl ⟨rfl, rfl, rfl⟩)) hR62 (by show rZ ρ 211 + 1 ≤ 8; omega) (fun e => absurd e (by decide))) rfl (by decide) (Nat.le_of_ble_eq_true rfl) (fun r62 Gc62 q62 => ?_) (fun _ _ h9 => h9.elim)
        obtain ⟨rfl, adn62, hX62, hd62, kt62_⟩ := q62
        have kt62 := (ktr62).trans kt62_
        show Y l S0 D K_X12_fog 18 2 12 (fun r G1 => (∃ v : Int32, r = some (.int v)) ∧ ∃ (ad1 : Nat → Nat) (ρ1 : RS), atR aC ic de ad1 G1 ρ1 ∧ ad1 200 = ad 200 ∧ yTg kR G G1 ∧ roFog minute fog r ρ ρ1) (fun _ _ => False) 67 [(0, .ref (ad 200)), (1, .int minute), (2, .int fog)] [.int 1] Gc62 0 0
        refine y_blk 2 tq_X12_fog (z := (69, [(0, .ref (ad 200)), (1, .int minute), (2, .int fog)], [.ref (ad 200)])) rfl ?_
        refine y_get hS tq_X12_fog (v := .ref (adn62 211)) rfl fg_X12_24_X12 (yEq hd62 hX62.m) rfl ?_
        refine y_blk 0 tq_X12_fog (z := (72, [(0, .ref (ad 200)), (1, .int minute), (2, .int fog)], [.ref (adn62 211)])) rfl ?_
        refine y_callF hS tq_X12_fog rfl (As := []) rfl cf_X12_58 (Or.inl ⟨_, (hX62.ls 211 (by decide)).1⟩) (m_Jsize hS (hX62.ls 211 (by decide))) rfl (by decide) (Nat.le_of_ble_eq_true rfl) (fun r72 Gc72 q72 => ?_) (fun _ _ h9 => h9.elim)
        obtain ⟨rfl, eG72⟩ := q72
        have eG72 := eG72.symm
        subst eG72
        refine y_blk 0 tq_X12_fog (z := (77, [(0, .ref (ad 200)), (1, .int minute), (2, .int fog)], [.int (Int32.ofNat (rZ ((rAdd (rar ((rin ρ 0 0)) (320 + rZ ((rin ρ 0 0)) 211) (upd (upd (fun _ => 0) (Int32.toNatClampNeg 0) minute) (Int32.toNatClampNeg 1) fog)) 211)) 211))])) rfl ?_
        exact y_iret tq_X12_fog rfl rfl (⟨⟨_, rfl⟩, adn62, _, hX62, hd62, kt62, Or.inl (⟨⟨yif1 c9, yif1 c18⟩, c38, rfl, rfl⟩)⟩)
      · skip
        refine y_blk 2 tq_X12_fog (z := (43, [(0, .ref (ad 200)), (1, .int minute), (2, .int fog)], [.int 2, .ref (ad 200)])) rfl ?_
        refine y_callV hS tq_X12_fog rfl (As := [.int 2]) rfl cv_X12_140 hX2.m (m_X12_no hS hI hX2 2) rfl (by decide) (Nat.le_of_ble_eq_true rfl) (fun r43 Gc43 q43 => ?_) (fun E9 G9 h9 => h9.elim)
        obtain ⟨rfl, hX43, kt43_⟩ := q43
        have kt43 := (kt2).trans kt43_
        refine y_blk 0 tq_X12_fog (z := (46, [(0, .ref (ad 200)), (1, .int minute), (2, .int fog)], [.int 0])) rfl ?_
        exact y_iret tq_X12_fog rfl rfl (⟨⟨_, rfl⟩, ad, _, hX43, rfl, kt43, Or.inr (Or.inr (⟨⟨⟨yif1 c9, yif1 c18⟩, fun q => q c38⟩, rfl, (rSm.in0 (rSm.in0 rSm.rfl'))⟩))⟩)
    · skip
      refine y_blk 2 tq_X12_fog (z := (23, [(0, .ref (ad 200)), (1, .int minute), (2, .int fog)], [.int 1, .ref (ad 200)])) rfl ?_
      refine y_callV hS tq_X12_fog rfl (As := [.int 1]) rfl cv_X12_140 hX2.m (m_X12_no hS hI hX2 1) rfl (by decide) (Nat.le_of_ble_eq_true rfl) (fun r23 Gc23 q23 => ?_) (fun E9 G9 h9 => h9.elim)
      obtain ⟨rfl, hX23, kt23_⟩ := q23
      have kt23 := (kt2).trans kt23_
      refine y_blk 0 tq_X12_fog (z := (26, [(0, .ref (ad 200)), (1, .int minute), (2, .int fog)], [.int 0])) rfl ?_
      exact y_iret tq_X12_fog rfl rfl (⟨⟨_, rfl⟩, ad, _, hX23, rfl, kt23, Or.inr (Or.inl (⟨(by first | exact fun q => rif c18 q.2 | exact fun q => rif c9 q.1), rfl, (rSm.in0 (rSm.in0 rSm.rfl'))⟩))⟩)
set_option maxHeartbeats 4000000 in
set_option maxRecDepth 100000 in
theorem m_X12_wire {l : Launch} {S0 : State} {A0 : Array Value} {D : va_G} {aC : Nat → ClassId} {ic : Int32 → Nat} {de : Nat} {ad : Nat → Nat} {G : AH} {ρ : RS} (hS : yS l S0 A0 D aC) (hI : yIc S0 ic de) (hX : atR aC ic de ad G ρ) (cell : Int32) (bar : Int32) : yM l S0 D yX12_wire cX12_wire 3 (some .int) 18 2 12 [.ref (ad 200), .int cell, .int bar] G (fun r G1 => (∃ v : Int32, r = some (.int v)) ∧ ∃ (ad1 : Nat → Nat) (ρ1 : RS), atR aC ic de ad1 G1 ρ1 ∧ ad1 200 = ad 200 ∧ yTg kR G G1 ∧ roWire cell bar r ρ ρ1) (fun _ _ => False) := by
  refine yM.ofK K_X12_wire rfl (by decide) (Nat.le_of_ble_eq_true rfl) ?_
  refine y_blk 2 tq_X12_wire (z := (2, [(0, .ref (ad 200)), (1, .int cell), (2, .int bar)], [.int 0, .ref (ad 200)])) rfl ?_
  refine y_put hS tq_X12_wire rfl fp_X12_51_X12 hX.m (by omega) rfl rfl (Nat.le_of_ble_eq_true rfl) ?_
  have hX2 : atR aC ic de ad (yup G (ad 200) (200, .inr (16, [.int 0, .int (rI ρ 1), .int (rI ρ 2), .ref (ad 201), .int (rI ρ 3), .int (rI ρ 4), .ref (ad 210), .ref (ad 211), .ref (ad 212), .ref (ad 213), .int (rI ρ 5), .int (rI ρ 6), .int (rI ρ 7), .ref (ad 202), .ref (ad 214), .int (rI ρ 8), .ref (ad 203), .ref (ad 215), .ref (ad 216), .int (rI ρ 9)]))) ((rin ρ 0 0)) := atR.setIb hX rfl rfl (hX.2.setI (by decide))
  have kt2 : yTg kR G (yup G (ad 200) (200, .inr (16, [.int 0, .int (rI ρ 1), .int (rI ρ 2), .ref (ad 201), .int (rI ρ 3), .int (rI ρ 4), .ref (ad 210), .ref (ad 211), .ref (ad 212), .ref (ad 213), .int (rI ρ 5), .int (rI ρ 6), .int (rI ρ 7), .ref (ad 202), .ref (ad 214), .int (rI ρ 8), .ref (ad 203), .ref (ad 215), .ref (ad 216), .int (rI ρ 9)]))) := ((yTg.rfl' (f := kR) (G := G))).trans (yTg.up hX.m (kR_n (by omega) (by omega)))
  show Y l S0 D K_X12_wire 18 2 12 (fun r G1 => (∃ v : Int32, r = some (.int v)) ∧ ∃ (ad1 : Nat → Nat) (ρ1 : RS), atR aC ic de ad1 G1 ρ1 ∧ ad1 200 = ad 200 ∧ yTg kR G G1 ∧ roWire cell bar r ρ ρ1) (fun _ _ => False) (2 + 3) [(0, .ref (ad 200)), (1, .int cell), (2, .int bar)] [] (yup G (ad 200) (200, .inr (16, [.int 0, .int (rI ρ 1), .int (rI ρ 2), .ref (ad 201), .int (rI ρ 3), .int (rI ρ 4), .ref (ad 210), .ref (ad 211), .ref (ad 212), .ref (ad 213), .int (rI ρ 5), .int (rI ρ 6), .int (rI ρ 7), .ref (ad 202), .ref (ad 214), .int (rI ρ 8), .ref (ad 203), .ref (ad 215), .ref (ad 216), .int (rI ρ 9)]))) 2 12
  generalize yup G (ad 200) (200, .inr (16, [.int 0, .int (rI ρ 1), .int (rI ρ 2), .ref (ad 201), .int (rI ρ 3), .int (rI ρ 4), .ref (ad 210), .ref (ad 211), .ref (ad 212), .ref (ad 213), .int (rI ρ 5), .int (rI ρ 6), .int (rI ρ 7), .ref (ad 202), .ref (ad 214), .int (rI ρ 8), .ref (ad 203), .ref (ad 215), .ref (ad 216), .int (rI ρ 9)])) = G2 at hX2 kt2 ⊢
  refine y_blk 2 tq_X12_wire (z := (7, [(0, .ref (ad 200)), (1, .int cell), (2, .int bar)], [.int cell, .ref (ad 200)])) rfl ?_
  refine y_callV hS tq_X12_wire rfl (As := [.int cell]) rfl cv_X12_157 hX2.m (m_X12_isCell hS hI hX2 cell) rfl (by decide) (Nat.le_of_ble_eq_true rfl) (fun r7 Gc7 q7 => ?_) (fun E9 G9 h9 => h9.elim)
  obtain ⟨rfl, eG7⟩ := q7
  have eG7 := eG7.symm
  subst eG7
  refine y_blk 0 tq_X12_wire (z := (10, [(0, .ref (ad 200)), (1, .int cell), (2, .int bar)], [.int (if 0 ≤ cell ∧ cell ≤ (Int32.ofNat (rZ ((rin ρ 0 0)) 201)) - 1 then 1 else 0)])) rfl ?_
  refine y_if_ne tq_X12_wire 19 rfl rfl (fun c10 => ?_) (fun c10 => ?_)
  · skip
    have hq10 := yif1 c10
    have hn10 := yinN (n := rZ ((rin ρ 0 0)) 201) (by have := hX2.2.n64; omega) hq10
    have ha10 := hn10.1
    have hb10 := hn10.2
    refine y_blk 3 tq_X12_wire (z := (23, [(0, .ref (ad 200)), (1, .int cell), (2, .int bar)], [.int 12, .int 1, .int bar])) rfl ?_
    refine y_callS hS tq_X12_wire rfl (As := [.int bar, .int 1, .int 12]) rfl cs_X12_54 (m_X12_in hS bar 1 12) rfl (by decide) (Nat.le_of_ble_eq_true rfl) (fun r23 Gc23 q23 => ?_) (fun E9 G9 h9 => h9.elim)
    obtain ⟨rfl, eG23⟩ := q23
    have eG23 := eG23.symm
    subst eG23
    refine y_blk 0 tq_X12_wire (z := (26, [(0, .ref (ad 200)), (1, .int cell), (2, .int bar)], [.int (if 1 ≤ bar ∧ bar ≤ 12 then 1 else 0)])) rfl ?_
    refine y_if_ne tq_X12_wire 35 rfl rfl (fun c26 => ?_) (fun c26 => ?_)
    · skip
      have hq26 := yif1 c26
      simp only [yle, yl_m1, yl_0, yl_1, yl_2, yl_3, yl_4, yl_5, yl_6, yl_7, yl_8, yl_9, yl_10, yl_11, yl_12, yl_60, yl_90, yl_239, yl_240] at hq26
      have ha26 := hq26.1
      have hb26 := hq26.2
      refine y_blk 1 tq_X12_wire (z := (36, [(0, .ref (ad 200)), (1, .int cell), (2, .int bar)], [.ref (ad 200)])) rfl ?_
      refine y_get hS tq_X12_wire (v := .ref (ad 216)) rfl fg_X12_45_X12 hX2.m rfl ?_
      refine y_blk 0 tq_X12_wire (z := (39, [(0, .ref (ad 200)), (1, .int cell), (2, .int bar)], [.ref (ad 216)])) rfl ?_
      refine y_callF hS tq_X12_wire rfl (As := []) rfl cf_X12_58 (Or.inl ⟨_, (hX2.ls 216 (by decide)).1⟩) (m_Jsize hS (hX2.ls 216 (by decide))) rfl (by decide) (Nat.le_of_ble_eq_true rfl) (fun r39 Gc39 q39 => ?_) (fun _ _ h9 => h9.elim)
      obtain ⟨rfl, eG39⟩ := q39
      have eG39 := eG39.symm
      subst eG39
      refine y_blk 1 tq_X12_wire (z := (45, [(0, .ref (ad 200)), (1, .int cell), (2, .int bar)], [.int 5, .int (Int32.ofNat (rZ ((rin ρ 0 0)) 216))])) rfl ?_
      refine y_icmp_ne tq_X12_wire 54 rfl rfl (fun c45 => ?_) (fun c45 => ?_)
      · skip
        refine y_blk 1 tq_X12_wire (z := (55, [(0, .ref (ad 200)), (1, .int cell), (2, .int bar)], [.ref (ad 200)])) rfl ?_
        refine y_get hS tq_X12_wire (v := .ref (ad 216)) rfl fg_X12_45_X12 hX2.m rfl ?_
        refine y_blk 1 tq_X12_wire (z := (59, [(0, .ref (ad 200)), (1, .int cell), (2, .int bar)], [.int 2, .ref (ad 216)])) rfl ?_
        refine y_newa_int 500 hS tq_X12_wire (kc := 1) (ks := 10) (n := 2) rfl wd_176 (by decide) (by decide) (by decide) (fun a59 hne59 => ?_)
        have hle59 : yLe G2 (yup G2 a59 (500, .inl (aC 0, 2, .inl (fun _ => 0)))) := yLe.new hne59
        have hA59 : (yup G2 a59 (500, .inl (aC 0, 2, .inl (fun _ => 0)))) a59 = some (500, .inl (aC 0, 2, .inl (fun _ => 0))) := yup_s _ _ _
        generalize yup G2 a59 (500, .inl (aC 0, 2, .inl (fun _ => 0))) = G59 at hle59 hA59 ⊢
        have hX59 := hX2.le hle59
        have kt59 := (kt2).trans (yTg.le hle59)
        refine y_blk 3 tq_X12_wire (z := (64, [(0, .ref (ad 200)), (1, .int cell), (2, .int bar)], [.int cell, .int 0, .ref a59, .ref a59, .ref (ad 216)])) rfl ?_
        refine y_iast hS tq_X12_wire rfl hA59 (by decide) (by first | exact yIn (by decide) (by decide) | exact yIn (by assumption) (by assumption) | (exact yIn (by omega) (by omega))) ?_
        have hA64 : (yup G59 a59 (500, .inl (aC 0, 2, .inl (upd (fun _ => 0) (Int32.toNatClampNeg 0) cell)))) a59 = some (500, .inl (aC 0, 2, .inl (upd (fun _ => 0) (Int32.toNatClampNeg 0) cell))) := yup_s _ _ _
        have hX64 : atR aC ic de ad (yup G59 a59 (500, .inl (aC 0, 2, .inl (upd (fun _ => 0) (Int32.toNatClampNeg 0) cell)))) ((rin ρ 0 0)) := hX59.kp (yTg.up hA59 (by decide))
        have kt64 : yTg kR G (yup G59 a59 (500, .inl (aC 0, 2, .inl (upd (fun _ => 0) (Int32.toNatClampNeg 0) cell)))) := (kt59).trans (yTg.up hA59 (by decide))
        generalize yup G59 a59 (500, .inl (aC 0, 2, .inl (upd (fun _ => 0) (Int32.toNatClampNeg 0) cell))) = G64 at hA64 hX64 kt64 ⊢
        refine y_blk 3 tq_X12_wire (z := (68, [(0, .ref (ad 200)), (1, .int cell), (2, .int bar)], [.int bar, .int 1, .ref a59, .ref a59, .ref (ad 216)])) rfl ?_
        refine y_iast hS tq_X12_wire rfl hA64 (by decide) (by first | exact yIn (by decide) (by decide) | exact yIn (by assumption) (by assumption) | (exact yIn (by omega) (by omega))) ?_
        have hA68 : (yup G64 a59 (500, .inl (aC 0, 2, .inl (upd (upd (fun _ => 0) (Int32.toNatClampNeg 0) cell) (Int32.toNatClampNeg 1) bar)))) a59 = some (500, .inl (aC 0, 2, .inl (upd (upd (fun _ => 0) (Int32.toNatClampNeg 0) cell) (Int32.toNatClampNeg 1) bar))) := yup_s _ _ _
        have hX68 : atR aC ic de ad (yup G64 a59 (500, .inl (aC 0, 2, .inl (upd (upd (fun _ => 0) (Int32.toNatClampNeg 0) cell) (Int32.toNatClampNeg 1) bar)))) ((rin ρ 0 0)) := hX64.kp (yTg.up hA64 (by decide))
        have kt68 : yTg kR G (yup G64 a59 (500, .inl (aC 0, 2, .inl (upd (upd (fun _ => 0) (Int32.toNatClampNeg 0) cell) (Int32.toNatClampNeg 1) bar)))) := (kt64).trans (yTg.up hA64 (by decide))
        generalize yup G64 a59 (500, .inl (aC 0, 2, .inl (upd (upd (fun _ => 0) (Int32.toNatClampNeg 0) cell) (Int32.toNatClampNeg 1) bar))) = G68 at hA68 hX68 kt68 ⊢
        refine y_blk 0 tq_X12_wire (z := (69, [(0, .ref (ad 200)), (1, .int cell), (2, .int bar)], [.ref a59, .ref (ad 216)])) rfl ?_
        have hne69 : rZ ρ 216 ≠ 5 := fun q => c45 (by show Int32.ofNat (rZ ρ 216) = 5; rw [q]; rfl)
        have hz69 : rZ ρ 216 ≤ 5 := hX.2.2.1.2.2.2.2.2.2
        refine y_retag (t2 := 340 + rZ ((rin ρ 0 0)) 216) hA68 (by decide) ?_
        have hR69 : (yup G68 a59 (340 + rZ ((rin ρ 0 0)) 216, .inl (aC 0, 2, .inl (upd (upd (fun _ => 0) (Int32.toNatClampNeg 0) cell) (Int32.toNatClampNeg 1) bar)))) a59 = some (340 + rZ ((rin ρ 0 0)) 216, .inl (aC 0, 2, .inl (upd (upd (fun _ => 0) (Int32.toNatClampNeg 0) cell) (Int32.toNatClampNeg 1) bar))) := yup_s _ _ _
        have hXr69 : atR aC ic de ad (yup G68 a59 (340 + rZ ((rin ρ 0 0)) 216, .inl (aC 0, 2, .inl (upd (upd (fun _ => 0) (Int32.toNatClampNeg 0) cell) (Int32.toNatClampNeg 1) bar)))) ((rin ρ 0 0)) := hX68.kp (yTg.ret hA68 (by decide))
        have ktr69 : yTg kR G (yup G68 a59 (340 + rZ ((rin ρ 0 0)) 216, .inl (aC 0, 2, .inl (upd (upd (fun _ => 0) (Int32.toNatClampNeg 0) cell) (Int32.toNatClampNeg 1) bar)))) := (kt68).trans (yTg.ret hA68 (by decide))
        generalize yup G68 a59 (340 + rZ ((rin ρ 0 0)) 216, .inl (aC 0, 2, .inl (upd (upd (fun _ => 0) (Int32.toNatClampNeg 0) cell) (Int32.toNatClampNeg 1) bar))) = Gr69 at hR69 hXr69 ktr69 ⊢
        refine y_callF hS tq_X12_wire rfl (As := [.ref a59]) rfl cf_X12_166 (Or.inl ⟨_, (hXr69.ls 216 (by decide)).1⟩) (m_Raddrow hS hI hXr69 (Or.inr (Or.inr ⟨rfl, rfl, rfl⟩)) hR69 (by show rZ ρ 216 + 1 ≤ 5; omega) (fun e => absurd e (by decide))) rfl (by decide) (Nat.le_of_ble_eq_true rfl) (fun r69 Gc69 q69 => ?_) (fun _ _ h9 => h9.elim)
        obtain ⟨rfl, adn69, hX69, hd69, kt69_⟩ := q69
        have kt69 := (ktr69).trans kt69_
        show Y l S0 D K_X12_wire 18 2 12 (fun r G1 => (∃ v : Int32, r = some (.int v)) ∧ ∃ (ad1 : Nat → Nat) (ρ1 : RS), atR aC ic de ad1 G1 ρ1 ∧ ad1 200 = ad 200 ∧ yTg kR G G1 ∧ roWire cell bar r ρ ρ1) (fun _ _ => False) 74 [(0, .ref (ad 200)), (1, .int cell), (2, .int bar)] [.int 1] Gc69 0 0
        refine y_blk 2 tq_X12_wire (z := (76, [(0, .ref (ad 200)), (1, .int cell), (2, .int bar)], [.ref (ad 200)])) rfl ?_
        refine y_get hS tq_X12_wire (v := .ref (adn69 216)) rfl fg_X12_45_X12 (yEq hd69 hX69.m) rfl ?_
        refine y_blk 0 tq_X12_wire (z := (79, [(0, .ref (ad 200)), (1, .int cell), (2, .int bar)], [.ref (adn69 216)])) rfl ?_
        refine y_callF hS tq_X12_wire rfl (As := []) rfl cf_X12_58 (Or.inl ⟨_, (hX69.ls 216 (by decide)).1⟩) (m_Jsize hS (hX69.ls 216 (by decide))) rfl (by decide) (Nat.le_of_ble_eq_true rfl) (fun r79 Gc79 q79 => ?_) (fun _ _ h9 => h9.elim)
        obtain ⟨rfl, eG79⟩ := q79
        have eG79 := eG79.symm
        subst eG79
        refine y_blk 2 tq_X12_wire (z := (86, [(0, .ref (ad 200)), (1, .int cell), (2, .int bar)], [.int ((Int32.ofNat (rZ ((rAdd (rar ((rin ρ 0 0)) (340 + rZ ((rin ρ 0 0)) 216) (upd (upd (fun _ => 0) (Int32.toNatClampNeg 0) cell) (Int32.toNatClampNeg 1) bar)) 216)) 216)) - 1)])) rfl ?_
        exact y_iret tq_X12_wire rfl rfl (⟨⟨_, rfl⟩, adn69, _, hX69, hd69, kt69, Or.inl (⟨yif1 c10, yif1 c26, c45, rfl, rfl⟩)⟩)
      · skip
        refine y_blk 2 tq_X12_wire (z := (50, [(0, .ref (ad 200)), (1, .int cell), (2, .int bar)], [.int 3, .ref (ad 200)])) rfl ?_
        refine y_callV hS tq_X12_wire rfl (As := [.int 3]) rfl cv_X12_140 hX2.m (m_X12_no hS hI hX2 3) rfl (by decide) (Nat.le_of_ble_eq_true rfl) (fun r50 Gc50 q50 => ?_) (fun E9 G9 h9 => h9.elim)
        obtain ⟨rfl, hX50, kt50_⟩ := q50
        have kt50 := (kt2).trans kt50_
        refine y_blk 0 tq_X12_wire (z := (53, [(0, .ref (ad 200)), (1, .int cell), (2, .int bar)], [.int 0])) rfl ?_
        exact y_iret tq_X12_wire rfl rfl (⟨⟨_, rfl⟩, ad, _, hX50, rfl, kt50, Or.inr (Or.inr (Or.inr (⟨⟨yif1 c10, yif1 c26, fun q => q c45⟩, rfl, (rSm.in0 (rSm.in0 rSm.rfl'))⟩)))⟩)
    · skip
      refine y_blk 2 tq_X12_wire (z := (31, [(0, .ref (ad 200)), (1, .int cell), (2, .int bar)], [.int 2, .ref (ad 200)])) rfl ?_
      refine y_callV hS tq_X12_wire rfl (As := [.int 2]) rfl cv_X12_140 hX2.m (m_X12_no hS hI hX2 2) rfl (by decide) (Nat.le_of_ble_eq_true rfl) (fun r31 Gc31 q31 => ?_) (fun E9 G9 h9 => h9.elim)
      obtain ⟨rfl, hX31, kt31_⟩ := q31
      have kt31 := (kt2).trans kt31_
      refine y_blk 0 tq_X12_wire (z := (34, [(0, .ref (ad 200)), (1, .int cell), (2, .int bar)], [.int 0])) rfl ?_
      exact y_iret tq_X12_wire rfl rfl (⟨⟨_, rfl⟩, ad, _, hX31, rfl, kt31, Or.inr (Or.inr (Or.inl (⟨⟨yif1 c10, rif c26⟩, rfl, (rSm.in0 (rSm.in0 rSm.rfl'))⟩)))⟩)
  · skip
    refine y_blk 2 tq_X12_wire (z := (15, [(0, .ref (ad 200)), (1, .int cell), (2, .int bar)], [.int 1, .ref (ad 200)])) rfl ?_
    refine y_callV hS tq_X12_wire rfl (As := [.int 1]) rfl cv_X12_140 hX2.m (m_X12_no hS hI hX2 1) rfl (by decide) (Nat.le_of_ble_eq_true rfl) (fun r15 Gc15 q15 => ?_) (fun E9 G9 h9 => h9.elim)
    obtain ⟨rfl, hX15, kt15_⟩ := q15
    have kt15 := (kt2).trans kt15_
    refine y_blk 0 tq_X12_wire (z := (18, [(0, .ref (ad 200)), (1, .int cell), (2, .int bar)], [.int 0])) rfl ?_
    exact y_iret tq_X12_wire rfl rfl (⟨⟨_, rfl⟩, ad, _, hX15, rfl, kt15, Or.inr (Or.inl (⟨rif c10, rfl, (rSm.in0 (rSm.in0 rSm.rfl'))⟩))⟩)
set_option maxHeartbeats 4000000 in
set_option maxRecDepth 100000 in
theorem m_X12_post {l : Launch} {S0 : State} {A0 : Array Value} {D : va_G} {aC : Nat → ClassId} {ic : Int32 → Nat} {de : Nat} {ad : Nat → Nat} {G : AH} {ρ : RS} (hS : yS l S0 A0 D aC) (hI : yIc S0 ic de) (hX : atR aC ic de ad G ρ) (cell : Int32) : yM l S0 D yX12_post cX12_post 2 (some .int) 18 1 10 [.ref (ad 200), .int cell] G (fun r G1 => (∃ v : Int32, r = some (.int v)) ∧ ∃ (ad1 : Nat → Nat) (ρ1 : RS), atR aC ic de ad1 G1 ρ1 ∧ ad1 200 = ad 200 ∧ yTg kR G G1 ∧ roPost cell r ρ ρ1) (fun _ _ => False) := by
  refine yM.ofK K_X12_post rfl (by decide) (Nat.le_of_ble_eq_true rfl) ?_
  refine y_blk 2 tq_X12_post (z := (2, [(0, .ref (ad 200)), (1, .int cell)], [.int 0, .ref (ad 200)])) rfl ?_
  refine y_put hS tq_X12_post rfl fp_X12_51_X12 hX.m (by omega) rfl rfl (Nat.le_of_ble_eq_true rfl) ?_
  have hX2 : atR aC ic de ad (yup G (ad 200) (200, .inr (16, [.int 0, .int (rI ρ 1), .int (rI ρ 2), .ref (ad 201), .int (rI ρ 3), .int (rI ρ 4), .ref (ad 210), .ref (ad 211), .ref (ad 212), .ref (ad 213), .int (rI ρ 5), .int (rI ρ 6), .int (rI ρ 7), .ref (ad 202), .ref (ad 214), .int (rI ρ 8), .ref (ad 203), .ref (ad 215), .ref (ad 216), .int (rI ρ 9)]))) ((rin ρ 0 0)) := atR.setIb hX rfl rfl (hX.2.setI (by decide))
  have kt2 : yTg kR G (yup G (ad 200) (200, .inr (16, [.int 0, .int (rI ρ 1), .int (rI ρ 2), .ref (ad 201), .int (rI ρ 3), .int (rI ρ 4), .ref (ad 210), .ref (ad 211), .ref (ad 212), .ref (ad 213), .int (rI ρ 5), .int (rI ρ 6), .int (rI ρ 7), .ref (ad 202), .ref (ad 214), .int (rI ρ 8), .ref (ad 203), .ref (ad 215), .ref (ad 216), .int (rI ρ 9)]))) := ((yTg.rfl' (f := kR) (G := G))).trans (yTg.up hX.m (kR_n (by omega) (by omega)))
  show Y l S0 D K_X12_post 18 1 10 (fun r G1 => (∃ v : Int32, r = some (.int v)) ∧ ∃ (ad1 : Nat → Nat) (ρ1 : RS), atR aC ic de ad1 G1 ρ1 ∧ ad1 200 = ad 200 ∧ yTg kR G G1 ∧ roPost cell r ρ ρ1) (fun _ _ => False) (2 + 3) [(0, .ref (ad 200)), (1, .int cell)] [] (yup G (ad 200) (200, .inr (16, [.int 0, .int (rI ρ 1), .int (rI ρ 2), .ref (ad 201), .int (rI ρ 3), .int (rI ρ 4), .ref (ad 210), .ref (ad 211), .ref (ad 212), .ref (ad 213), .int (rI ρ 5), .int (rI ρ 6), .int (rI ρ 7), .ref (ad 202), .ref (ad 214), .int (rI ρ 8), .ref (ad 203), .ref (ad 215), .ref (ad 216), .int (rI ρ 9)]))) 1 10
  generalize yup G (ad 200) (200, .inr (16, [.int 0, .int (rI ρ 1), .int (rI ρ 2), .ref (ad 201), .int (rI ρ 3), .int (rI ρ 4), .ref (ad 210), .ref (ad 211), .ref (ad 212), .ref (ad 213), .int (rI ρ 5), .int (rI ρ 6), .int (rI ρ 7), .ref (ad 202), .ref (ad 214), .int (rI ρ 8), .ref (ad 203), .ref (ad 215), .ref (ad 216), .int (rI ρ 9)])) = G2 at hX2 kt2 ⊢
  refine y_blk 2 tq_X12_post (z := (7, [(0, .ref (ad 200)), (1, .int cell)], [.int cell, .ref (ad 200)])) rfl ?_
  refine y_callV hS tq_X12_post rfl (As := [.int cell]) rfl cv_X12_157 hX2.m (m_X12_isCell hS hI hX2 cell) rfl (by decide) (Nat.le_of_ble_eq_true rfl) (fun r7 Gc7 q7 => ?_) (fun E9 G9 h9 => h9.elim)
  obtain ⟨rfl, eG7⟩ := q7
  have eG7 := eG7.symm
  subst eG7
  refine y_blk 0 tq_X12_post (z := (10, [(0, .ref (ad 200)), (1, .int cell)], [.int (if 0 ≤ cell ∧ cell ≤ (Int32.ofNat (rZ ((rin ρ 0 0)) 201)) - 1 then 1 else 0)])) rfl ?_
  refine y_if_ne tq_X12_post 19 rfl rfl (fun c10 => ?_) (fun c10 => ?_)
  · skip
    have hq10 := yif1 c10
    have hn10 := yinN (n := rZ ((rin ρ 0 0)) 201) (by have := hX2.2.n64; omega) hq10
    have ha10 := hn10.1
    have hb10 := hn10.2
    refine y_blk 1 tq_X12_post (z := (20, [(0, .ref (ad 200)), (1, .int cell)], [.ref (ad 200)])) rfl ?_
    refine y_get hS tq_X12_post (v := .ref (ad 213)) rfl fg_X12_30_X12 hX2.m rfl ?_
    refine y_blk 0 tq_X12_post (z := (23, [(0, .ref (ad 200)), (1, .int cell)], [.ref (ad 213)])) rfl ?_
    refine y_callF hS tq_X12_post rfl (As := []) rfl cf_X12_58 (Or.inl ⟨_, (hX2.ls 213 (by decide)).1⟩) (m_Jsize hS (hX2.ls 213 (by decide))) rfl (by decide) (Nat.le_of_ble_eq_true rfl) (fun r23 Gc23 q23 => ?_) (fun _ _ h9 => h9.elim)
    obtain ⟨rfl, eG23⟩ := q23
    have eG23 := eG23.symm
    subst eG23
    refine y_blk 1 tq_X12_post (z := (29, [(0, .ref (ad 200)), (1, .int cell)], [.int 4, .int (Int32.ofNat (rZ ((rin ρ 0 0)) 213))])) rfl ?_
    refine y_icmp_eq tq_X12_post 42 rfl rfl (fun c29 => ?_) (fun c29 => ?_)
    · skip
      refine y_blk 2 tq_X12_post (z := (44, [(0, .ref (ad 200)), (1, .int cell)], [.int 2, .ref (ad 200)])) rfl ?_
      refine y_callV hS tq_X12_post rfl (As := [.int 2]) rfl cv_X12_140 hX2.m (m_X12_no hS hI hX2 2) rfl (by decide) (Nat.le_of_ble_eq_true rfl) (fun r44 Gc44 q44 => ?_) (fun E9 G9 h9 => h9.elim)
      obtain ⟨rfl, hX44, kt44_⟩ := q44
      have kt44 := (kt2).trans kt44_
      refine y_blk 0 tq_X12_post (z := (47, [(0, .ref (ad 200)), (1, .int cell)], [.int 0])) rfl ?_
      exact y_iret tq_X12_post rfl rfl (⟨⟨_, rfl⟩, ad, _, hX44, rfl, kt44, Or.inr (Or.inr (⟨⟨yif1 c10, (by first | exact fun q => q.1 c29 | exact fun q => q.2 c39)⟩, rfl, (rSm.in0 (rSm.in0 rSm.rfl'))⟩))⟩)
    · skip
      refine y_blk 1 tq_X12_post (z := (33, [(0, .ref (ad 200)), (1, .int cell)], [.ref (ad 200)])) rfl ?_
      refine y_get hS tq_X12_post (v := .ref (ad 201)) rfl fg_X12_7_X12 hX2.m rfl ?_
      refine y_blk 1 tq_X12_post (z := (37, [(0, .ref (ad 200)), (1, .int cell)], [.int cell, .ref (ad 201)])) rfl ?_
      refine y_iald hS tq_X12_post rfl hX2.ki (by first | exact yIn (by decide) (by decide) | exact yIn (by assumption) (by assumption) | (exact yIn (by omega) (by omega))) ?_
      refine y_blk 1 tq_X12_post (z := (39, [(0, .ref (ad 200)), (1, .int cell)], [.int 1, .int ((rV ((rin ρ 0 0)) 201) (Int32.toNatClampNeg cell))])) rfl ?_
      refine y_icmp_ne tq_X12_post 48 rfl rfl (fun c39 => ?_) (fun c39 => ?_)
      · skip
        refine y_blk 1 tq_X12_post (z := (49, [(0, .ref (ad 200)), (1, .int cell)], [.ref (ad 200)])) rfl ?_
        refine y_get hS tq_X12_post (v := .ref (ad 213)) rfl fg_X12_30_X12 hX2.m rfl ?_
        refine y_blk 1 tq_X12_post (z := (53, [(0, .ref (ad 200)), (1, .int cell)], [.int cell, .ref (ad 213)])) rfl ?_
        refine y_callS hS tq_X12_post rfl (As := [.int cell]) rfl cs_X12_179 (m_JvalueOf hS hI (rcell.sm hX2.2 hn10).1 (rcell.sm hX2.2 hn10).2) rfl (by decide) (Nat.le_of_ble_eq_true rfl) (fun r53 Gc53 q53 => ?_) (fun _ _ h9 => h9.elim)
        obtain ⟨rfl, eG53⟩ := q53
        have eG53 := eG53.symm
        subst eG53
        refine y_blk 0 tq_X12_post (z := (56, [(0, .ref (ad 200)), (1, .int cell)], [.ref (ic cell), .ref (ad 213)])) rfl ?_
        have hne56 : rZ ρ 213 ≠ 4 := fun q => c29 (by show Int32.ofNat (rZ ρ 213) = 4; rw [q]; rfl)
        have hz56 : rZ ρ 213 ≤ 4 := hX.2.2.1.2.2.2.1
        refine y_callF hS tq_X12_post rfl (As := [.ref (ic cell)]) rfl cf_X12_166 (Or.inl ⟨_, (hX2.ls 213 (by decide)).1⟩) (m_RaddI hS hI hX2 (lt := 213) (Or.inl ⟨rfl, (by show rZ ρ 213 ≤ 3; omega)⟩) hn10) rfl (by decide) (Nat.le_of_ble_eq_true rfl) (fun r56 Gc56 q56 => ?_) (fun _ _ h9 => h9.elim)
        obtain ⟨rfl, adn56, hX56, hd56, hj56, hk56, kt56_⟩ := q56
        have kt56 := (kt2).trans kt56_
        show Y l S0 D K_X12_post 18 1 10 (fun r G1 => (∃ v : Int32, r = some (.int v)) ∧ ∃ (ad1 : Nat → Nat) (ρ1 : RS), atR aC ic de ad1 G1 ρ1 ∧ ad1 200 = ad 200 ∧ yTg kR G G1 ∧ roPost cell r ρ ρ1) (fun _ _ => False) 61 [(0, .ref (ad 200)), (1, .int cell)] [.int 1] Gc56 0 0
        refine y_blk 2 tq_X12_post (z := (63, [(0, .ref (ad 200)), (1, .int cell)], [.ref (ad 200)])) rfl ?_
        refine y_get hS tq_X12_post (v := .ref (adn56 213)) rfl fg_X12_30_X12 (yEq hd56 hX56.m) rfl ?_
        refine y_blk 0 tq_X12_post (z := (66, [(0, .ref (ad 200)), (1, .int cell)], [.ref (adn56 213)])) rfl ?_
        refine y_callF hS tq_X12_post rfl (As := []) rfl cf_X12_58 (Or.inl ⟨_, (hX56.ls 213 (by decide)).1⟩) (m_Jsize hS (hX56.ls 213 (by decide))) rfl (by decide) (Nat.le_of_ble_eq_true rfl) (fun r66 Gc66 q66 => ?_) (fun _ _ h9 => h9.elim)
        obtain ⟨rfl, eG66⟩ := q66
        have eG66 := eG66.symm
        subst eG66
        refine y_blk 2 tq_X12_post (z := (73, [(0, .ref (ad 200)), (1, .int cell)], [.int ((Int32.ofNat (rZ ((rAdd (rar ((rin ρ 0 0)) 213 (fun i => if i = rZ ((rin ρ 0 0)) 213 then cell else rV ((rin ρ 0 0)) 213 i)) 213)) 213)) - 1)])) rfl ?_
        exact y_iret tq_X12_post rfl rfl (⟨⟨_, rfl⟩, adn56, _, hX56, hd56, kt56, Or.inl (⟨yif1 c10, ⟨c29, c39⟩, rfl, rfl⟩)⟩)
      · skip
        refine y_blk 2 tq_X12_post (z := (44, [(0, .ref (ad 200)), (1, .int cell)], [.int 2, .ref (ad 200)])) rfl ?_
        refine y_callV hS tq_X12_post rfl (As := [.int 2]) rfl cv_X12_140 hX2.m (m_X12_no hS hI hX2 2) rfl (by decide) (Nat.le_of_ble_eq_true rfl) (fun r44 Gc44 q44 => ?_) (fun E9 G9 h9 => h9.elim)
        obtain ⟨rfl, hX44, kt44_⟩ := q44
        have kt44 := (kt2).trans kt44_
        refine y_blk 0 tq_X12_post (z := (47, [(0, .ref (ad 200)), (1, .int cell)], [.int 0])) rfl ?_
        exact y_iret tq_X12_post rfl rfl (⟨⟨_, rfl⟩, ad, _, hX44, rfl, kt44, Or.inr (Or.inr (⟨⟨yif1 c10, (by first | exact fun q => q.1 c29 | exact fun q => q.2 c39)⟩, rfl, (rSm.in0 (rSm.in0 rSm.rfl'))⟩))⟩)
  · skip
    refine y_blk 2 tq_X12_post (z := (15, [(0, .ref (ad 200)), (1, .int cell)], [.int 1, .ref (ad 200)])) rfl ?_
    refine y_callV hS tq_X12_post rfl (As := [.int 1]) rfl cv_X12_140 hX2.m (m_X12_no hS hI hX2 1) rfl (by decide) (Nat.le_of_ble_eq_true rfl) (fun r15 Gc15 q15 => ?_) (fun E9 G9 h9 => h9.elim)
    obtain ⟨rfl, hX15, kt15_⟩ := q15
    have kt15 := (kt2).trans kt15_
    refine y_blk 0 tq_X12_post (z := (18, [(0, .ref (ad 200)), (1, .int cell)], [.int 0])) rfl ?_
    exact y_iret tq_X12_post rfl rfl (⟨⟨_, rfl⟩, ad, _, hX15, rfl, kt15, Or.inr (Or.inl (⟨rif c10, rfl, (rSm.in0 (rSm.in0 rSm.rfl'))⟩))⟩)
set_option maxHeartbeats 4000000 in
set_option maxRecDepth 100000 in
theorem m_X12_round {l : Launch} {S0 : State} {A0 : Array Value} {D : va_G} {aC : Nat → ClassId} {ic : Int32 → Nat} {de : Nat} {ad : Nat → Nat} {G : AH} {ρ : RS} (hS : yS l S0 A0 D aC) (hI : yIc S0 ic de) (hX : atR aC ic de ad G ρ) (guard : Int32) (cell : Int32) : yM l S0 D yX12_round cX12_round 4 (some .int) 18 1 10 [.ref (ad 200), .int guard, .int cell] G (fun r G1 => (∃ v : Int32, r = some (.int v)) ∧ ∃ (ad1 : Nat → Nat) (ρ1 : RS), atR aC ic de ad1 G1 ρ1 ∧ ad1 200 = ad 200 ∧ yTg kR G G1 ∧ roRound guard cell r ρ ρ1) (fun _ _ => False) := by
  refine yM.ofK K_X12_round rfl (by decide) (Nat.le_of_ble_eq_true rfl) ?_
  refine y_blk 2 tq_X12_round (z := (2, [(0, .ref (ad 200)), (1, .int guard), (2, .int cell)], [.int 0, .ref (ad 200)])) rfl ?_
  refine y_put hS tq_X12_round rfl fp_X12_51_X12 hX.m (by omega) rfl rfl (Nat.le_of_ble_eq_true rfl) ?_
  have hX2 : atR aC ic de ad (yup G (ad 200) (200, .inr (16, [.int 0, .int (rI ρ 1), .int (rI ρ 2), .ref (ad 201), .int (rI ρ 3), .int (rI ρ 4), .ref (ad 210), .ref (ad 211), .ref (ad 212), .ref (ad 213), .int (rI ρ 5), .int (rI ρ 6), .int (rI ρ 7), .ref (ad 202), .ref (ad 214), .int (rI ρ 8), .ref (ad 203), .ref (ad 215), .ref (ad 216), .int (rI ρ 9)]))) ((rin ρ 0 0)) := atR.setIb hX rfl rfl (hX.2.setI (by decide))
  have kt2 : yTg kR G (yup G (ad 200) (200, .inr (16, [.int 0, .int (rI ρ 1), .int (rI ρ 2), .ref (ad 201), .int (rI ρ 3), .int (rI ρ 4), .ref (ad 210), .ref (ad 211), .ref (ad 212), .ref (ad 213), .int (rI ρ 5), .int (rI ρ 6), .int (rI ρ 7), .ref (ad 202), .ref (ad 214), .int (rI ρ 8), .ref (ad 203), .ref (ad 215), .ref (ad 216), .int (rI ρ 9)]))) := ((yTg.rfl' (f := kR) (G := G))).trans (yTg.up hX.m (kR_n (by omega) (by omega)))
  show Y l S0 D K_X12_round 18 1 10 (fun r G1 => (∃ v : Int32, r = some (.int v)) ∧ ∃ (ad1 : Nat → Nat) (ρ1 : RS), atR aC ic de ad1 G1 ρ1 ∧ ad1 200 = ad 200 ∧ yTg kR G G1 ∧ roRound guard cell r ρ ρ1) (fun _ _ => False) (2 + 3) [(0, .ref (ad 200)), (1, .int guard), (2, .int cell)] [] (yup G (ad 200) (200, .inr (16, [.int 0, .int (rI ρ 1), .int (rI ρ 2), .ref (ad 201), .int (rI ρ 3), .int (rI ρ 4), .ref (ad 210), .ref (ad 211), .ref (ad 212), .ref (ad 213), .int (rI ρ 5), .int (rI ρ 6), .int (rI ρ 7), .ref (ad 202), .ref (ad 214), .int (rI ρ 8), .ref (ad 203), .ref (ad 215), .ref (ad 216), .int (rI ρ 9)]))) 1 10
  generalize yup G (ad 200) (200, .inr (16, [.int 0, .int (rI ρ 1), .int (rI ρ 2), .ref (ad 201), .int (rI ρ 3), .int (rI ρ 4), .ref (ad 210), .ref (ad 211), .ref (ad 212), .ref (ad 213), .int (rI ρ 5), .int (rI ρ 6), .int (rI ρ 7), .ref (ad 202), .ref (ad 214), .int (rI ρ 8), .ref (ad 203), .ref (ad 215), .ref (ad 216), .int (rI ρ 9)])) = G2 at hX2 kt2 ⊢
  refine y_blk 2 tq_X12_round (z := (7, [(0, .ref (ad 200)), (1, .int guard), (2, .int cell)], [.int guard, .ref (ad 200)])) rfl ?_
  refine y_callV hS tq_X12_round rfl (As := [.int guard]) rfl cv_X12_176 hX2.m (m_X12_isGuard hS hI hX2 guard) rfl (by decide) (Nat.le_of_ble_eq_true rfl) (fun r7 Gc7 q7 => ?_) (fun E9 G9 h9 => h9.elim)
  obtain ⟨rfl, eG7⟩ := q7
  have eG7 := eG7.symm
  subst eG7
  refine y_blk 0 tq_X12_round (z := (10, [(0, .ref (ad 200)), (1, .int guard), (2, .int cell)], [.int (if 0 ≤ guard ∧ guard ≤ (Int32.ofNat (rZ ((rin ρ 0 0)) 212)) - 1 then 1 else 0)])) rfl ?_
  refine y_if_eq tq_X12_round 21 rfl rfl (fun c10 => ?_) (fun c10 => ?_)
  · skip
    refine y_blk 2 tq_X12_round (z := (23, [(0, .ref (ad 200)), (1, .int guard), (2, .int cell)], [.int 1, .ref (ad 200)])) rfl ?_
    refine y_callV hS tq_X12_round rfl (As := [.int 1]) rfl cv_X12_140 hX2.m (m_X12_no hS hI hX2 1) rfl (by decide) (Nat.le_of_ble_eq_true rfl) (fun r23 Gc23 q23 => ?_) (fun E9 G9 h9 => h9.elim)
    obtain ⟨rfl, hX23, kt23_⟩ := q23
    have kt23 := (kt2).trans kt23_
    refine y_blk 0 tq_X12_round (z := (26, [(0, .ref (ad 200)), (1, .int guard), (2, .int cell)], [.int 0])) rfl ?_
    exact y_iret tq_X12_round rfl rfl (⟨⟨_, rfl⟩, ad, _, hX23, rfl, kt23, Or.inr (Or.inl (⟨(by first | exact fun q => rif c18 q.2 | exact fun q => rif c10 q.1), rfl, (rSm.in0 (rSm.in0 rSm.rfl'))⟩))⟩)
  · skip
    have hq10 := yif1 c10
    have hn10 := yinN (n := rZ ((rin ρ 0 0)) 212) (by have := hX2.2.le10 212 (by decide); omega) hq10
    have ha10 := hn10.1
    have hb10 := hn10.2
    refine y_blk 2 tq_X12_round (z := (15, [(0, .ref (ad 200)), (1, .int guard), (2, .int cell)], [.int cell, .ref (ad 200)])) rfl ?_
    refine y_callV hS tq_X12_round rfl (As := [.int cell]) rfl cv_X12_157 hX2.m (m_X12_isCell hS hI hX2 cell) rfl (by decide) (Nat.le_of_ble_eq_true rfl) (fun r15 Gc15 q15 => ?_) (fun E9 G9 h9 => h9.elim)
    obtain ⟨rfl, eG15⟩ := q15
    have eG15 := eG15.symm
    subst eG15
    refine y_blk 0 tq_X12_round (z := (18, [(0, .ref (ad 200)), (1, .int guard), (2, .int cell)], [.int (if 0 ≤ cell ∧ cell ≤ (Int32.ofNat (rZ ((rin ρ 0 0)) 201)) - 1 then 1 else 0)])) rfl ?_
    refine y_if_ne tq_X12_round 27 rfl rfl (fun c18 => ?_) (fun c18 => ?_)
    · skip
      have hq18 := yif1 c18
      have hn18 := yinN (n := rZ ((rin ρ 0 0)) 201) (by have := hX2.2.n64; omega) hq18
      have ha18 := hn18.1
      have hb18 := hn18.2
      refine y_blk 1 tq_X12_round (z := (28, [(0, .ref (ad 200)), (1, .int guard), (2, .int cell)], [.ref (ad 200)])) rfl ?_
      refine y_get hS tq_X12_round (v := .ref (ad 212)) rfl fg_X12_27_X12 hX2.m rfl ?_
      refine y_blk 1 tq_X12_round (z := (32, [(0, .ref (ad 200)), (1, .int guard), (2, .int cell)], [.int guard, .ref (ad 212)])) rfl ?_
      refine y_callF hS tq_X12_round rfl (As := [.int guard]) rfl cf_X12_80 (Or.inl ⟨_, (hX2.ls 212 (by decide)).1⟩) (m_Rgu hS hX2 (by assumption) (by assumption)) rfl (by decide) (Nat.le_of_ble_eq_true rfl) (fun r32 Gc32 q32 => ?_) (fun _ _ h9 => h9.elim)
      obtain ⟨rfl, eG32⟩ := q32
      have eG32 := eG32.symm
      subst eG32
      have d32 : (Int32.toNatClampNeg guard) < rZ ((rin ρ 0 0)) 212 := yIx (by assumption) (by assumption)
      refine y_blk 0 tq_X12_round (z := (37, [(0, .ref (ad 200)), (1, .int guard), (2, .int cell)], [.ref (ad (360 + (Int32.toNatClampNeg guard)))])) rfl ?_
      refine y_castG hS tq_X12_round rfl kc_X12_84 (Or.inl ⟨_, (hX2.gu (by assumption))⟩) ?_
      refine y_blk 2 tq_X12_round (z := (42, [(3, .ref (ad (360 + (Int32.toNatClampNeg guard)))), (0, .ref (ad 200)), (1, .int guard), (2, .int cell)], [.ref (ad (360 + (Int32.toNatClampNeg guard)))])) rfl ?_
      refine y_get hS tq_X12_round (v := .ref (ad (380 + (Int32.toNatClampNeg guard)))) rfl fg_X12_149_X10 (hX2.gu (by assumption)) rfl ?_
      refine y_blk 0 tq_X12_round (z := (45, [(3, .ref (ad (360 + (Int32.toNatClampNeg guard)))), (0, .ref (ad 200)), (1, .int guard), (2, .int cell)], [.ref (ad (380 + (Int32.toNatClampNeg guard)))])) rfl ?_
      refine y_callF hS tq_X12_round rfl (As := []) rfl cf_X12_58 (Or.inl ⟨_, (hX2.gl (by assumption)).1⟩) (m_Jsize hS (hX2.gl (by assumption))) rfl (by decide) (Nat.le_of_ble_eq_true rfl) (fun r45 Gc45 q45 => ?_) (fun _ _ h9 => h9.elim)
      obtain ⟨rfl, eG45⟩ := q45
      have eG45 := eG45.symm
      subst eG45
      refine y_blk 1 tq_X12_round (z := (52, [(3, .ref (ad (360 + (Int32.toNatClampNeg guard)))), (0, .ref (ad 200)), (1, .int guard), (2, .int cell)], [.int 6, .int (Int32.ofNat (rZ ((rin ρ 0 0)) (380 + (Int32.toNatClampNeg guard))))])) rfl ?_
      refine y_icmp_eq tq_X12_round 65 rfl rfl (fun c52 => ?_) (fun c52 => ?_)
      · skip
        refine y_blk 2 tq_X12_round (z := (67, [(3, .ref (ad (360 + (Int32.toNatClampNeg guard)))), (0, .ref (ad 200)), (1, .int guard), (2, .int cell)], [.int 2, .ref (ad 200)])) rfl ?_
        refine y_callV hS tq_X12_round rfl (As := [.int 2]) rfl cv_X12_140 hX2.m (m_X12_no hS hI hX2 2) rfl (by decide) (Nat.le_of_ble_eq_true rfl) (fun r67 Gc67 q67 => ?_) (fun E9 G9 h9 => h9.elim)
        obtain ⟨rfl, hX67, kt67_⟩ := q67
        have kt67 := (kt2).trans kt67_
        refine y_blk 0 tq_X12_round (z := (70, [(3, .ref (ad (360 + (Int32.toNatClampNeg guard)))), (0, .ref (ad 200)), (1, .int guard), (2, .int cell)], [.int 0])) rfl ?_
        exact y_iret tq_X12_round rfl rfl (⟨⟨_, rfl⟩, ad, _, hX67, rfl, kt67, Or.inr (Or.inr (⟨⟨⟨yif1 c10, yif1 c18⟩, (by first | exact fun q => q.1 c52 | exact fun q => q.2 c62)⟩, rfl, (rSm.in0 (rSm.in0 rSm.rfl'))⟩))⟩)
      · skip
        refine y_blk 1 tq_X12_round (z := (56, [(3, .ref (ad (360 + (Int32.toNatClampNeg guard)))), (0, .ref (ad 200)), (1, .int guard), (2, .int cell)], [.ref (ad 200)])) rfl ?_
        refine y_get hS tq_X12_round (v := .ref (ad 201)) rfl fg_X12_7_X12 hX2.m rfl ?_
        refine y_blk 1 tq_X12_round (z := (60, [(3, .ref (ad (360 + (Int32.toNatClampNeg guard)))), (0, .ref (ad 200)), (1, .int guard), (2, .int cell)], [.int cell, .ref (ad 201)])) rfl ?_
        refine y_iald hS tq_X12_round rfl hX2.ki (by first | exact yIn (by decide) (by decide) | exact yIn (by assumption) (by assumption) | (exact yIn (by omega) (by omega))) ?_
        refine y_blk 1 tq_X12_round (z := (62, [(3, .ref (ad (360 + (Int32.toNatClampNeg guard)))), (0, .ref (ad 200)), (1, .int guard), (2, .int cell)], [.int 1, .int ((rV ((rin ρ 0 0)) 201) (Int32.toNatClampNeg cell))])) rfl ?_
        refine y_icmp_ne tq_X12_round 71 rfl rfl (fun c62 => ?_) (fun c62 => ?_)
        · skip
          refine y_blk 1 tq_X12_round (z := (72, [(3, .ref (ad (360 + (Int32.toNatClampNeg guard)))), (0, .ref (ad 200)), (1, .int guard), (2, .int cell)], [.ref (ad (360 + (Int32.toNatClampNeg guard)))])) rfl ?_
          refine y_get hS tq_X12_round (v := .ref (ad (380 + (Int32.toNatClampNeg guard)))) rfl fg_X12_149_X10 (hX2.gu (by assumption)) rfl ?_
          refine y_blk 1 tq_X12_round (z := (76, [(3, .ref (ad (360 + (Int32.toNatClampNeg guard)))), (0, .ref (ad 200)), (1, .int guard), (2, .int cell)], [.int cell, .ref (ad (380 + (Int32.toNatClampNeg guard)))])) rfl ?_
          refine y_callS hS tq_X12_round rfl (As := [.int cell]) rfl cs_X12_179 (m_JvalueOf hS hI (rcell.sm hX2.2 hn18).1 (rcell.sm hX2.2 hn18).2) rfl (by decide) (Nat.le_of_ble_eq_true rfl) (fun r76 Gc76 q76 => ?_) (fun _ _ h9 => h9.elim)
          obtain ⟨rfl, eG76⟩ := q76
          have eG76 := eG76.symm
          subst eG76
          refine y_blk 0 tq_X12_round (z := (79, [(3, .ref (ad (360 + (Int32.toNatClampNeg guard)))), (0, .ref (ad 200)), (1, .int guard), (2, .int cell)], [.ref (ic cell), .ref (ad (380 + (Int32.toNatClampNeg guard)))])) rfl ?_
          have hne79 : rZ ρ (380 + (Int32.toNatClampNeg guard)) ≠ 6 := fun q => c52 (by show Int32.ofNat (rZ ρ (380 + (Int32.toNatClampNeg guard))) = 6; rw [q]; rfl)
          have hz79 : rZ ρ (380 + (Int32.toNatClampNeg guard)) ≤ 6 := (hX.2.2.2.1 _ d32).2.2.2.1
          have hg79 : rZ ρ 212 ≤ 6 := hX.2.2.1.2.2.1
          have dd79 : Int32.toNatClampNeg guard < rZ ρ 212 := d32
          refine y_callF hS tq_X12_round rfl (As := [.ref (ic cell)]) rfl cf_X12_166 (Or.inl ⟨_, (hX2.gl (by assumption)).1⟩) (m_RaddI hS hI hX2 (lt := (380 + (Int32.toNatClampNeg guard))) (Or.inr ⟨_, rfl, d32, (by show rZ ρ (380 + (Int32.toNatClampNeg guard)) ≤ 5; omega)⟩) hn18) rfl (by decide) (Nat.le_of_ble_eq_true rfl) (fun r79 Gc79 q79 => ?_) (fun _ _ h9 => h9.elim)
          obtain ⟨rfl, adn79, hX79, hd79, hj79, hk79, kt79_⟩ := q79
          have kt79 := (kt2).trans kt79_
          show Y l S0 D K_X12_round 18 1 10 (fun r G1 => (∃ v : Int32, r = some (.int v)) ∧ ∃ (ad1 : Nat → Nat) (ρ1 : RS), atR aC ic de ad1 G1 ρ1 ∧ ad1 200 = ad 200 ∧ yTg kR G G1 ∧ roRound guard cell r ρ ρ1) (fun _ _ => False) 84 [(3, .ref (ad (360 + (Int32.toNatClampNeg guard)))), (0, .ref (ad 200)), (1, .int guard), (2, .int cell)] [.int 1] Gc79 0 0
          refine y_blk 2 tq_X12_round (z := (86, [(3, .ref (ad (360 + (Int32.toNatClampNeg guard)))), (0, .ref (ad 200)), (1, .int guard), (2, .int cell)], [.ref (ad (360 + (Int32.toNatClampNeg guard)))])) rfl ?_
          have dq79 : Int32.toNatClampNeg guard < rZ (rAdd (rar ((rin ρ 0 0)) (380 + (Int32.toNatClampNeg guard)) (fun i => if i = rZ ((rin ρ 0 0)) (380 + (Int32.toNatClampNeg guard)) then cell else rV ((rin ρ 0 0)) (380 + (Int32.toNatClampNeg guard)) i)) (380 + (Int32.toNatClampNeg guard))) 212 := (by show _ < (if 212 = (380 + (Int32.toNatClampNeg guard)) then _ else rZ ρ 212); rw [if_neg (by omega)]; exact dd79)
          refine y_get hS tq_X12_round (v := .ref (adn79 (380 + (Int32.toNatClampNeg guard)))) rfl fg_X12_149_X10 (yEq (hk79 (360 + (Int32.toNatClampNeg guard)) (by omega) (by omega)) (hX79.gu (by assumption))) rfl ?_
          refine y_blk 0 tq_X12_round (z := (89, [(3, .ref (ad (360 + (Int32.toNatClampNeg guard)))), (0, .ref (ad 200)), (1, .int guard), (2, .int cell)], [.ref (adn79 (380 + (Int32.toNatClampNeg guard)))])) rfl ?_
          refine y_callF hS tq_X12_round rfl (As := []) rfl cf_X12_58 (Or.inl ⟨_, (hX79.gl (by assumption)).1⟩) (m_Jsize hS (hX79.gl (by assumption))) rfl (by decide) (Nat.le_of_ble_eq_true rfl) (fun r89 Gc89 q89 => ?_) (fun _ _ h9 => h9.elim)
          obtain ⟨rfl, eG89⟩ := q89
          have eG89 := eG89.symm
          subst eG89
          refine y_blk 0 tq_X12_round (z := (94, [(3, .ref (ad (360 + (Int32.toNatClampNeg guard)))), (0, .ref (ad 200)), (1, .int guard), (2, .int cell)], [.int (Int32.ofNat (rZ ((rAdd (rar ((rin ρ 0 0)) (380 + (Int32.toNatClampNeg guard)) (fun i => if i = rZ ((rin ρ 0 0)) (380 + (Int32.toNatClampNeg guard)) then cell else rV ((rin ρ 0 0)) (380 + (Int32.toNatClampNeg guard)) i)) (380 + (Int32.toNatClampNeg guard)))) (380 + (Int32.toNatClampNeg guard))))])) rfl ?_
          exact y_iret tq_X12_round rfl rfl (⟨⟨_, rfl⟩, adn79, _, hX79, hd79, kt79, Or.inl (⟨⟨yif1 c10, yif1 c18⟩, ⟨c52, c62⟩, rfl, rfl⟩)⟩)
        · skip
          refine y_blk 2 tq_X12_round (z := (67, [(3, .ref (ad (360 + (Int32.toNatClampNeg guard)))), (0, .ref (ad 200)), (1, .int guard), (2, .int cell)], [.int 2, .ref (ad 200)])) rfl ?_
          refine y_callV hS tq_X12_round rfl (As := [.int 2]) rfl cv_X12_140 hX2.m (m_X12_no hS hI hX2 2) rfl (by decide) (Nat.le_of_ble_eq_true rfl) (fun r67 Gc67 q67 => ?_) (fun E9 G9 h9 => h9.elim)
          obtain ⟨rfl, hX67, kt67_⟩ := q67
          have kt67 := (kt2).trans kt67_
          refine y_blk 0 tq_X12_round (z := (70, [(3, .ref (ad (360 + (Int32.toNatClampNeg guard)))), (0, .ref (ad 200)), (1, .int guard), (2, .int cell)], [.int 0])) rfl ?_
          exact y_iret tq_X12_round rfl rfl (⟨⟨_, rfl⟩, ad, _, hX67, rfl, kt67, Or.inr (Or.inr (⟨⟨⟨yif1 c10, yif1 c18⟩, (by first | exact fun q => q.1 c52 | exact fun q => q.2 c62)⟩, rfl, (rSm.in0 (rSm.in0 rSm.rfl'))⟩))⟩)
    · skip
      refine y_blk 2 tq_X12_round (z := (23, [(0, .ref (ad 200)), (1, .int guard), (2, .int cell)], [.int 1, .ref (ad 200)])) rfl ?_
      refine y_callV hS tq_X12_round rfl (As := [.int 1]) rfl cv_X12_140 hX2.m (m_X12_no hS hI hX2 1) rfl (by decide) (Nat.le_of_ble_eq_true rfl) (fun r23 Gc23 q23 => ?_) (fun E9 G9 h9 => h9.elim)
      obtain ⟨rfl, hX23, kt23_⟩ := q23
      have kt23 := (kt2).trans kt23_
      refine y_blk 0 tq_X12_round (z := (26, [(0, .ref (ad 200)), (1, .int guard), (2, .int cell)], [.int 0])) rfl ?_
      exact y_iret tq_X12_round rfl rfl (⟨⟨_, rfl⟩, ad, _, hX23, rfl, kt23, Or.inr (Or.inl (⟨(by first | exact fun q => rif c18 q.2 | exact fun q => rif c10 q.1), rfl, (rSm.in0 (rSm.in0 rSm.rfl'))⟩))⟩)
