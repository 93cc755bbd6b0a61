/-! ===== contracts of the reference: what would be, the digest ===== -/
theorem yKp.tg2 {a b : Nat} {G G1 : AH} {ta tb : Nat} {ea eb : va_E} (hk : yKp a b G G1) (ha : G a = some (ta, ea)) (hb : G b = some (tb, eb)) : yTg (fun t => t ≠ ta ∧ t ≠ tb) G G1 := fun q t e hq ht => hk q _ hq (fun e9 => by
  rw [e9, ha] at hq
  cases hq
  exact ht.1 rfl) (fun e9 => by
  rw [e9, hb] at hq
  cases hq
  exact ht.2 rfl)
theorem m_RremLa {l : Launch} {S0 : State} {A0 : Array Value} {D : va_G} {aC : Nat → ClassId} {ic : Int32 → Nat} {de : Nat} {ad : Nat → Nat} {G : AH} {ρ : RS} (hS : yS l S0 A0 D aC) (h : atR aC ic de ad G ρ) {s : Nat} (hs : rZ ρ 210 = s + 1) (ho : rB ρ 210 = true) : yM l S0 D yJx4a65c_remove_915e3 cJx4a65c_remove_915e3 4 (some (.object "java/lang/Object")) 13 0 0 [.ref (ad 210), .int (Int32.ofNat s)] G (fun r G1 => (∃ o : Nat, r = some (.ref o)) ∧ atR aC ic de ad G1 (rls ρ 210 true (rM ρ 210 + 1) s) ∧ yTg kR G G1) (fun _ _ => False) := by
  have hl : yLst aC de G 210 220 (ad 210) (ad 220) (rB ρ 210) (rM ρ 210) (rZ ρ 210) (rEl ic ad ρ 210) := h.ls 210 (by decide)
  rw [hs, ho] at hl
  refine yM.mono (m_Jremove hS hl (by decide) (by decide)) (fun r G1 q => ?_) (fun _ _ q => q)
  obtain ⟨hr, hy, hk⟩ := q
  have hb := (hl.2.resolve_right (fun q => Bool.noConfusion q.1)).2.2
  have hT := hk.tg2 hl.1 hb
  exact ⟨⟨_, hr⟩, ⟨h.1.remL h.2.2.1 hs hy hT, h.2.remLa hs⟩, hT.narrow (fun t ht => by omega)⟩
theorem ydec60r {x : Int32} (h2 : ¬ (180 : Int32) < x) : ((180 : Int32).toInt + 1 - (x + 60).toInt).toNat < ((180 : Int32).toInt + 1 - x.toInt).toNat := by
  have e : (180 : Int32).toInt = 180 := rfl
  rw [ylt, e] at h2
  have h3 := yrng x
  rw [yadd (by rw [yl_60]; omega) (by rw [yl_60]; omega), yl_60, e]
  omega
set_option maxHeartbeats 4000000 in
set_option maxRecDepth 100000 in
theorem m_X12_sneak {l : Launch} {S0 : State} {A0 : Array Value} {D : va_G} {aC : Nat → ClassId} {ic : Int32 → Nat} {de : Nat} {ad : Nat → Nat} {G : AH} {ρ : RS} (hS : yS l S0 A0 D aC) (hI : yIc S0 ic de) (hX : atR aC ic de ad G ρ) (from_ : Int32) (to : Int32) (minute : Int32) (most : Int32) : yM l S0 D yX12_sneak cX12_sneak 7 (some .int) 23 62 3968 [.ref (ad 200), .int from_, .int to, .int minute, .int most] G (fun r G1 => (∃ v : Int32, r = some (.int v)) ∧ ∃ (ad1 : Nat → Nat) (ρ1 : RS), atR aC ic de ad1 G1 ρ1 ∧ ad1 200 = ad 200 ∧ yTg kR G G1 ∧ rSm ρ ρ1) (fun _ _ => False) := by
  refine yM.ofK K_X12_sneak rfl (by decide) (Nat.le_of_ble_eq_true rfl) ?_
  have J62 : ∀ (n62 : Nat) (v62_5 : Nat) (v62_6 : Int32) (G62 : AH) (s62 : RS) (f562 : Nat → Int32) (hX62 : atR aC ic de ad G62 s62) (kt62 : yTg kR G G62) (r962 : rSm ρ s62) (pA562 : G62 v62_5 = some (501, .inl (aC 2, rZ s62 201, .inl f562))) (hto_62 : rcell s62 to) (hm_62 : most.toInt ≤ 60) (h0_62 : 0 ≤ v62_6.toInt), (most.toInt + 1 - v62_6.toInt).toNat = n62 → Y l S0 D K_X12_sneak 23 62 3968 (fun r G1 => (∃ v : Int32, r = some (.int v)) ∧ ∃ (ad1 : Nat → Nat) (ρ1 : RS), atR aC ic de ad1 G1 ρ1 ∧ ad1 200 = ad 200 ∧ yTg kR G G1 ∧ rSm ρ ρ1) (fun _ _ => False) 62 [(0, .ref (ad 200)), (1, .int from_), (2, .int to), (3, .int minute), (4, .int most), (5, .ref v62_5), (6, .int v62_6)] [] G62 (61 - (Int32.toInt v62_6).toNat) (64 * (61 - (Int32.toInt v62_6).toNat)) := by
    intro n62
    induction n62 using Nat.strongRecOn with
    | _ n62 ih62 =>
    intro v62_5 v62_6 G62 s62 f562 hX62 kt62 r962 pA562 hto_62 hm_62 h0_62 hn62
    subst hn62
    refine y_blk 2 tq_X12_sneak (z := (66, [(0, .ref (ad 200)), (1, .int from_), (2, .int to), (3, .int minute), (4, .int most), (5, .ref v62_5), (6, .int v62_6)], [.int most, .int v62_6])) rfl ?_
    refine y_icmp_gt tq_X12_sneak 112 rfl rfl (fun c66 => ?_) (fun c66 => ?_)
    · skip
      refine y_blk 1 tq_X12_sneak (z := (113, [(0, .ref (ad 200)), (1, .int from_), (2, .int to), (3, .int minute), (4, .int most), (5, .ref v62_5), (6, .int v62_6)], [.int (-1)])) rfl ?_
      exact y_iret tq_X12_sneak rfl rfl (⟨⟨_, rfl⟩, ad, _, hX62, rfl, kt62, r962⟩)
    · skip
      have b66 : v62_6.toInt ≤ 60 := by rw [ylt] at c66; omega
      have ht0 := hto_62.1
      have ht1 := hto_62.2
      refine y_blk 4 tq_X12_sneak (z := (76, [(0, .ref (ad 200)), (1, .int from_), (2, .int to), (3, .int minute), (4, .int most), (5, .ref v62_5), (6, .int v62_6)], [.int 239, .int (minute + v62_6)])) rfl ?_
      refine y_icmp_gt tq_X12_sneak 112 rfl rfl (fun c76 => ?_) (fun c76 => ?_)
      · skip
        refine y_blk 1 tq_X12_sneak (z := (113, [(0, .ref (ad 200)), (1, .int from_), (2, .int to), (3, .int minute), (4, .int most), (5, .ref v62_5), (6, .int v62_6)], [.int (-1)])) rfl ?_
        exact y_iret tq_X12_sneak rfl rfl (⟨⟨_, rfl⟩, ad, _, hX62, rfl, kt62, r962⟩)
      · skip
        refine y_blk 1 tq_X12_sneak (z := (81, [(0, .ref (ad 200)), (1, .int from_), (2, .int to), (3, .int minute), (4, .int most), (5, .ref v62_5), (6, .int v62_6)], [.int v62_6])) rfl ?_
        refine y_if_le tq_X12_sneak 96 rfl rfl (fun c81 => ?_) (fun c81 => ?_)
        · skip
          refine y_blk 2 tq_X12_sneak (z := (99, [(0, .ref (ad 200)), (1, .int from_), (2, .int to), (3, .int minute), (4, .int most), (5, .ref v62_5), (6, .int v62_6)], [.int to, .ref v62_5])) rfl ?_
          refine y_zald hS tq_X12_sneak rfl pA562 (by exact yIn hto_62.1 hto_62.2) ?_
          refine y_blk 0 tq_X12_sneak (z := (100, [(0, .ref (ad 200)), (1, .int from_), (2, .int to), (3, .int minute), (4, .int most), (5, .ref v62_5), (6, .int v62_6)], [.int (f562 (Int32.toNatClampNeg to))])) rfl ?_
          refine y_if_eq tq_X12_sneak 106 rfl rfl (fun c100 => ?_) (fun c100 => ?_)
          · skip
            refine y_blk 2 tq_X12_sneak (z := (62, [(6, .int (v62_6 + 1)), (0, .ref (ad 200)), (1, .int from_), (2, .int to), (3, .int minute), (4, .int most), (5, .ref v62_5)], [])) rfl ?_
            have e6 : (v62_6 + 1).toInt = v62_6.toInt + 1 := by rw [yadd (by rw [yl_1]; omega) (by rw [yl_1]; omega), yl_1]
            refine y_less (k2 := 61 - (Int32.toInt (v62_6 + 1)).toNat) (n2 := 64 * (61 - (Int32.toInt (v62_6 + 1)).toNat)) (by first | decide | omega | (simp only [Nat.mul_eq]; omega) | (rw [e6]; omega) | (simp only [Nat.mul_eq, e6]; omega) | (show (_ : Nat) ≤ _; rw [e6]; omega)) (by first | decide | omega | (simp only [Nat.mul_eq]; omega) | (rw [e6]; omega) | (simp only [Nat.mul_eq, e6]; omega) | (show (_ : Nat) ≤ _; rw [e6]; omega)) ?_
            refine y_pick (L2 := [(0, .ref (ad 200)), (1, .int from_), (2, .int to), (3, .int minute), (4, .int most), (5, .ref v62_5), (6, .int (v62_6 + 1))]) [1, 2, 3, 4, 5, 6, 0] rfl ?_
            exact ih62 _ (by exact ydec2 c66 (by omega)) v62_5 (v62_6 + 1) G62 s62 f562 hX62 kt62 r962 pA562 (by assumption) (by omega) (by first | decide | exact yposgtL (by assumption) c66 (by omega)) rfl
          · skip
            refine y_blk 1 tq_X12_sneak (z := (105, [(0, .ref (ad 200)), (1, .int from_), (2, .int to), (3, .int minute), (4, .int most), (5, .ref v62_5), (6, .int v62_6)], [.int v62_6])) rfl ?_
            exact y_iret tq_X12_sneak rfl rfl (⟨⟨_, rfl⟩, ad, _, hX62, rfl, kt62, r962⟩)
        · skip
          refine y_blk 5 tq_X12_sneak (z := (91, [(0, .ref (ad 200)), (1, .int from_), (2, .int to), (3, .int minute), (4, .int most), (5, .ref v62_5), (6, .int v62_6)], [.int (minute + v62_6), .ref v62_5, .ref (ad 200)])) rfl ?_
          refine y_less (k2 := 60 - (Int32.toInt v62_6).toNat + 1) (n2 := 64 * (60 - (Int32.toInt v62_6).toNat) + 64) (by first | omega | (simp only [Nat.mul_eq]; omega)) (by first | omega | (simp only [Nat.mul_eq]; omega)) ?_
          refine y_callV hS tq_X12_sneak rfl (As := [.ref v62_5, .int (minute + v62_6)]) rfl cv_X12_287 hX62.m (m_X12_onward hS hI hX62 (minute + v62_6) (pA562)) rfl (by decide) (Nat.le_of_ble_eq_true rfl) (fun r91 Gc91 q91 => ?_) (fun E9 G9 h9 => h9.elim)
          obtain ⟨a91, f91, rfl, hA91, kt91⟩ := q91
          have hX91 := hX62.kp (kt91.narrow kA_R)
          have ktt91 := (kt62).trans (kt91.narrow kR_A)
          refine y_blk 3 tq_X12_sneak (z := (99, [(5, .ref a91), (0, .ref (ad 200)), (1, .int from_), (2, .int to), (3, .int minute), (4, .int most), (6, .int v62_6)], [.int to, .ref a91])) rfl ?_
          refine y_zald hS tq_X12_sneak rfl hA91 (by exact yIn hto_62.1 hto_62.2) ?_
          refine y_blk 0 tq_X12_sneak (z := (100, [(5, .ref a91), (0, .ref (ad 200)), (1, .int from_), (2, .int to), (3, .int minute), (4, .int most), (6, .int v62_6)], [.int (f91 (Int32.toNatClampNeg to))])) rfl ?_
          refine y_if_eq tq_X12_sneak 106 rfl rfl (fun c100 => ?_) (fun c100 => ?_)
          · skip
            refine y_blk 2 tq_X12_sneak (z := (62, [(6, .int (v62_6 + 1)), (5, .ref a91), (0, .ref (ad 200)), (1, .int from_), (2, .int to), (3, .int minute), (4, .int most)], [])) rfl ?_
            have e6 : (v62_6 + 1).toInt = v62_6.toInt + 1 := by rw [yadd (by rw [yl_1]; omega) (by rw [yl_1]; omega), yl_1]
            refine y_less (k2 := 61 - (Int32.toInt (v62_6 + 1)).toNat) (n2 := 64 * (61 - (Int32.toInt (v62_6 + 1)).toNat)) (by first | decide | omega | (simp only [Nat.mul_eq]; omega) | (rw [e6]; omega) | (simp only [Nat.mul_eq, e6]; omega) | (show (_ : Nat) ≤ _; rw [e6]; omega)) (by first | decide | omega | (simp only [Nat.mul_eq]; omega) | (rw [e6]; omega) | (simp only [Nat.mul_eq, e6]; omega) | (show (_ : Nat) ≤ _; rw [e6]; omega)) ?_
            refine y_pick (L2 := [(0, .ref (ad 200)), (1, .int from_), (2, .int to), (3, .int minute), (4, .int most), (5, .ref a91), (6, .int (v62_6 + 1))]) [2, 3, 4, 5, 6, 1, 0] rfl ?_
            exact ih62 _ (by exact ydec2 c66 (by omega)) a91 (v62_6 + 1) Gc91 s62 f91 hX91 ktt91 r962 hA91 (by assumption) (by omega) (by first | decide | exact yposgtL (by assumption) c66 (by omega)) rfl
          · skip
            refine y_blk 1 tq_X12_sneak (z := (105, [(5, .ref a91), (0, .ref (ad 200)), (1, .int from_), (2, .int to), (3, .int minute), (4, .int most), (6, .int v62_6)], [.int v62_6])) rfl ?_
            exact y_iret tq_X12_sneak rfl rfl (⟨⟨_, rfl⟩, ad, _, hX91, rfl, ktt91, r962⟩)
  refine y_blk 2 tq_X12_sneak (z := (2, [(0, .ref (ad 200)), (1, .int from_), (2, .int to), (3, .int minute), (4, .int most)], [.int 0, .ref (ad 200)])) rfl ?_
  refine y_put hS tq_X12_sneak rfl fp_X12_51_X12 hX.m (by omega) rfl rfl (Nat.le_of_ble_eq_true rfl) ?_
  have hX2 : atR aC ic de ad (yup G (ad 200) (200, .inr (16, [.int 0, .int (rI ρ 1), .int (rI ρ 2), .ref (ad 201), .int (rI ρ 3), .int (rI ρ 4), .ref (ad 210), .ref (ad 211), .ref (ad 212), .ref (ad 213), .int (rI ρ 5), .int (rI ρ 6), .int (rI ρ 7), .ref (ad 202), .ref (ad 214), .int (rI ρ 8), .ref (ad 203), .ref (ad 215), .ref (ad 216), .int (rI ρ 9)]))) ((rin ρ 0 0)) := atR.setIb hX rfl rfl (hX.2.setI (by decide))
  have kt2 : yTg kR G (yup G (ad 200) (200, .inr (16, [.int 0, .int (rI ρ 1), .int (rI ρ 2), .ref (ad 201), .int (rI ρ 3), .int (rI ρ 4), .ref (ad 210), .ref (ad 211), .ref (ad 212), .ref (ad 213), .int (rI ρ 5), .int (rI ρ 6), .int (rI ρ 7), .ref (ad 202), .ref (ad 214), .int (rI ρ 8), .ref (ad 203), .ref (ad 215), .ref (ad 216), .int (rI ρ 9)]))) := ((yTg.rfl' (f := kR) (G := G))).trans (yTg.up hX.m (kR_n (by omega) (by omega)))
  show Y l S0 D K_X12_sneak 23 62 3968 (fun r G1 => (∃ v : Int32, r = some (.int v)) ∧ ∃ (ad1 : Nat → Nat) (ρ1 : RS), atR aC ic de ad1 G1 ρ1 ∧ ad1 200 = ad 200 ∧ yTg kR G G1 ∧ rSm ρ ρ1) (fun _ _ => False) (2 + 3) [(0, .ref (ad 200)), (1, .int from_), (2, .int to), (3, .int minute), (4, .int most)] [] (yup G (ad 200) (200, .inr (16, [.int 0, .int (rI ρ 1), .int (rI ρ 2), .ref (ad 201), .int (rI ρ 3), .int (rI ρ 4), .ref (ad 210), .ref (ad 211), .ref (ad 212), .ref (ad 213), .int (rI ρ 5), .int (rI ρ 6), .int (rI ρ 7), .ref (ad 202), .ref (ad 214), .int (rI ρ 8), .ref (ad 203), .ref (ad 215), .ref (ad 216), .int (rI ρ 9)]))) 62 3968
  generalize yup G (ad 200) (200, .inr (16, [.int 0, .int (rI ρ 1), .int (rI ρ 2), .ref (ad 201), .int (rI ρ 3), .int (rI ρ 4), .ref (ad 210), .ref (ad 211), .ref (ad 212), .ref (ad 213), .int (rI ρ 5), .int (rI ρ 6), .int (rI ρ 7), .ref (ad 202), .ref (ad 214), .int (rI ρ 8), .ref (ad 203), .ref (ad 215), .ref (ad 216), .int (rI ρ 9)])) = G2 at hX2 kt2 ⊢
  refine y_blk 2 tq_X12_sneak (z := (7, [(0, .ref (ad 200)), (1, .int from_), (2, .int to), (3, .int minute), (4, .int most)], [.int from_, .ref (ad 200)])) rfl ?_
  refine y_callV hS tq_X12_sneak rfl (As := [.int from_]) rfl cv_X12_157 hX2.m (m_X12_isCell hS hI hX2 from_) rfl (by decide) (Nat.le_of_ble_eq_true rfl) (fun r7 Gc7 q7 => ?_) (fun E9 G9 h9 => h9.elim)
  obtain ⟨rfl, eG7⟩ := q7
  have eG7 := eG7.symm
  subst eG7
  refine y_blk 0 tq_X12_sneak (z := (10, [(0, .ref (ad 200)), (1, .int from_), (2, .int to), (3, .int minute), (4, .int most)], [.int (if 0 ≤ from_ ∧ from_ ≤ (Int32.ofNat (rZ ((rin ρ 0 0)) 201)) - 1 then 1 else 0)])) rfl ?_
  refine y_if_eq tq_X12_sneak 21 rfl rfl (fun c10 => ?_) (fun c10 => ?_)
  · skip
    refine y_blk 2 tq_X12_sneak (z := (23, [(0, .ref (ad 200)), (1, .int from_), (2, .int to), (3, .int minute), (4, .int most)], [.int 1, .ref (ad 200)])) rfl ?_
    refine y_callV hS tq_X12_sneak rfl (As := [.int 1]) rfl cv_X12_140 hX2.m (m_X12_no hS hI hX2 1) rfl (by decide) (Nat.le_of_ble_eq_true rfl) (fun r23 Gc23 q23 => ?_) (fun E9 G9 h9 => h9.elim)
    obtain ⟨rfl, hX23, kt23_⟩ := q23
    have kt23 := (kt2).trans kt23_
    refine y_blk 0 tq_X12_sneak (z := (26, [(0, .ref (ad 200)), (1, .int from_), (2, .int to), (3, .int minute), (4, .int most)], [.int 0])) rfl ?_
    exact y_iret tq_X12_sneak rfl rfl (⟨⟨_, rfl⟩, ad, _, hX23, rfl, kt23, (rSm.in0 (rSm.in0 rSm.rfl'))⟩)
  · skip
    have hq10 := yif1 c10
    have hn10 := yinN (n := rZ ((rin ρ 0 0)) 201) (by have := hX2.2.n64; omega) hq10
    have ha10 := hn10.1
    have hb10 := hn10.2
    refine y_blk 2 tq_X12_sneak (z := (15, [(0, .ref (ad 200)), (1, .int from_), (2, .int to), (3, .int minute), (4, .int most)], [.int to, .ref (ad 200)])) rfl ?_
    refine y_callV hS tq_X12_sneak rfl (As := [.int to]) rfl cv_X12_157 hX2.m (m_X12_isCell hS hI hX2 to) rfl (by decide) (Nat.le_of_ble_eq_true rfl) (fun r15 Gc15 q15 => ?_) (fun E9 G9 h9 => h9.elim)
    obtain ⟨rfl, eG15⟩ := q15
    have eG15 := eG15.symm
    subst eG15
    refine y_blk 0 tq_X12_sneak (z := (18, [(0, .ref (ad 200)), (1, .int from_), (2, .int to), (3, .int minute), (4, .int most)], [.int (if 0 ≤ to ∧ to ≤ (Int32.ofNat (rZ ((rin ρ 0 0)) 201)) - 1 then 1 else 0)])) rfl ?_
    refine y_if_ne tq_X12_sneak 27 rfl rfl (fun c18 => ?_) (fun c18 => ?_)
    · skip
      have hq18 := yif1 c18
      have hn18 := yinN (n := rZ ((rin ρ 0 0)) 201) (by have := hX2.2.n64; omega) hq18
      have ha18 := hn18.1
      have hb18 := hn18.2
      refine y_blk 1 tq_X12_sneak (z := (28, [(0, .ref (ad 200)), (1, .int from_), (2, .int to), (3, .int minute), (4, .int most)], [.int minute])) rfl ?_
      refine y_callS hS tq_X12_sneak rfl (As := [.int minute]) rfl cs_X12_163 (m_X12_isMinute hS minute) rfl (by decide) (Nat.le_of_ble_eq_true rfl) (fun r28 Gc28 q28 => ?_) (fun E9 G9 h9 => h9.elim)
      obtain ⟨rfl, eG28⟩ := q28
      have eG28 := eG28.symm
      subst eG28
      refine y_blk 0 tq_X12_sneak (z := (31, [(0, .ref (ad 200)), (1, .int from_), (2, .int to), (3, .int minute), (4, .int most)], [.int (if 0 ≤ minute ∧ minute ≤ 239 then 1 else 0)])) rfl ?_
      refine y_if_eq tq_X12_sneak 45 rfl rfl (fun c31 => ?_) (fun c31 => ?_)
      · skip
        refine y_blk 2 tq_X12_sneak (z := (47, [(0, .ref (ad 200)), (1, .int from_), (2, .int to), (3, .int minute), (4, .int most)], [.int 2, .ref (ad 200)])) rfl ?_
        refine y_callV hS tq_X12_sneak rfl (As := [.int 2]) rfl cv_X12_140 hX2.m (m_X12_no hS hI hX2 2) rfl (by decide) (Nat.le_of_ble_eq_true rfl) (fun r47 Gc47 q47 => ?_) (fun E9 G9 h9 => h9.elim)
        obtain ⟨rfl, hX47, kt47_⟩ := q47
        have kt47 := (kt2).trans kt47_
        refine y_blk 0 tq_X12_sneak (z := (50, [(0, .ref (ad 200)), (1, .int from_), (2, .int to), (3, .int minute), (4, .int most)], [.int 0])) rfl ?_
        exact y_iret tq_X12_sneak rfl rfl (⟨⟨_, rfl⟩, ad, _, hX47, rfl, kt47, (rSm.in0 (rSm.in0 rSm.rfl'))⟩)
      · skip
        have hq31 := yif1 c31
        simp only [yle, yl_m1, yl_0, yl_1, yl_2, yl_3, yl_4, yl_5, yl_6, yl_7, yl_8, yl_9, yl_10, yl_11, yl_12, yl_60, yl_90, yl_239, yl_240] at hq31
        have ha31 := hq31.1
        have hb31 := hq31.2
        refine y_blk 3 tq_X12_sneak (z := (39, [(0, .ref (ad 200)), (1, .int from_), (2, .int to), (3, .int minute), (4, .int most)], [.int 60, .int 0, .int most])) rfl ?_
        refine y_callS hS tq_X12_sneak rfl (As := [.int most, .int 0, .int 60]) rfl cs_X12_54 (m_X12_in hS most 0 60) rfl (by decide) (Nat.le_of_ble_eq_true rfl) (fun r39 Gc39 q39 => ?_) (fun E9 G9 h9 => h9.elim)
        obtain ⟨rfl, eG39⟩ := q39
        have eG39 := eG39.symm
        subst eG39
        refine y_blk 0 tq_X12_sneak (z := (42, [(0, .ref (ad 200)), (1, .int from_), (2, .int to), (3, .int minute), (4, .int most)], [.int (if 0 ≤ most ∧ most ≤ 60 then 1 else 0)])) rfl ?_
        refine y_if_ne tq_X12_sneak 51 rfl rfl (fun c42 => ?_) (fun c42 => ?_)
        · skip
          have hq42 := yif1 c42
          simp only [yle, yl_m1, yl_0, yl_1, yl_2, yl_3, yl_4, yl_5, yl_6, yl_7, yl_8, yl_9, yl_10, yl_11, yl_12, yl_60, yl_90, yl_239, yl_240] at hq42
          have ha42 := hq42.1
          have hb42 := hq42.2
          refine y_blk 3 tq_X12_sneak (z := (54, [(0, .ref (ad 200)), (1, .int from_), (2, .int to), (3, .int minute), (4, .int most)], [.int minute, .int from_, .ref (ad 200)])) rfl ?_
          refine y_callV hS tq_X12_sneak rfl (As := [.int from_, .int minute]) rfl cv_X12_283 hX2.m (m_X12_at hS hI hX2 from_ minute (by first | (with_reducible assumption) | (with_reducible exact hX2.lac (by assumption)) | (with_reducible exact hX2.poc (by assumption)) | (with_reducible exact hX2.wac (by assumption) (by assumption) (by omega)) | assumption | exact hX2.lac (by assumption) | exact hX2.poc (by assumption) | exact hX2.wac (by assumption) (by assumption) (by omega))) rfl (by decide) (Nat.le_of_ble_eq_true rfl) (fun r54 Gc54 q54 => ?_) (fun E9 G9 h9 => h9.elim)
          obtain ⟨a54, f54, rfl, hA54, kt54⟩ := q54
          have hX54 := hX2.kp (kt54.narrow kA_R)
          have ktt54 := (kt2).trans (kt54.narrow kR_A)
          refine y_blk 3 tq_X12_sneak (z := (62, [(6, .int 0), (5, .ref a54), (0, .ref (ad 200)), (1, .int from_), (2, .int to), (3, .int minute), (4, .int most)], [])) rfl ?_
          refine y_less (k2 := 61 - (Int32.toInt 0).toNat) (n2 := 64 * (61 - (Int32.toInt 0).toNat)) (by first | decide | omega | (simp only [Nat.mul_eq]; omega) | (rw [e6]; omega) | (simp only [Nat.mul_eq, e6]; omega) | (show (_ : Nat) ≤ _; rw [e6]; omega)) (by first | decide | omega | (simp only [Nat.mul_eq]; omega) | (rw [e6]; omega) | (simp only [Nat.mul_eq, e6]; omega) | (show (_ : Nat) ≤ _; rw [e6]; omega)) ?_
          refine y_pick (L2 := [(0, .ref (ad 200)), (1, .int from_), (2, .int to), (3, .int minute), (4, .int most), (5, .ref a54), (6, .int 0)]) [2, 3, 4, 5, 6, 1, 0] rfl ?_
          exact J62 _ a54 0 Gc54 (rin ρ 0 0) f54 hX54 ktt54 (rSm.in0 rSm.rfl') hA54 (by assumption) (by omega) (by first | decide | exact yposgtL (by assumption) c66 (by omega)) rfl
        · skip
          refine y_blk 2 tq_X12_sneak (z := (47, [(0, .ref (ad 200)), (1, .int from_), (2, .int to), (3, .int minute), (4, .int most)], [.int 2, .ref (ad 200)])) rfl ?_
          refine y_callV hS tq_X12_sneak rfl (As := [.int 2]) rfl cv_X12_140 hX2.m (m_X12_no hS hI hX2 2) rfl (by decide) (Nat.le_of_ble_eq_true rfl) (fun r47 Gc47 q47 => ?_) (fun E9 G9 h9 => h9.elim)
          obtain ⟨rfl, hX47, kt47_⟩ := q47
          have kt47 := (kt2).trans kt47_
          refine y_blk 0 tq_X12_sneak (z := (50, [(0, .ref (ad 200)), (1, .int from_), (2, .int to), (3, .int minute), (4, .int most)], [.int 0])) rfl ?_
          exact y_iret tq_X12_sneak rfl rfl (⟨⟨_, rfl⟩, ad, _, hX47, rfl, kt47, (rSm.in0 (rSm.in0 rSm.rfl'))⟩)
    · skip
      refine y_blk 2 tq_X12_sneak (z := (23, [(0, .ref (ad 200)), (1, .int from_), (2, .int to), (3, .int minute), (4, .int most)], [.int 1, .ref (ad 200)])) rfl ?_
      refine y_callV hS tq_X12_sneak rfl (As := [.int 1]) rfl cv_X12_140 hX2.m (m_X12_no hS hI hX2 1) rfl (by decide) (Nat.le_of_ble_eq_true rfl) (fun r23 Gc23 q23 => ?_) (fun E9 G9 h9 => h9.elim)
      obtain ⟨rfl, hX23, kt23_⟩ := q23
      have kt23 := (kt2).trans kt23_
      refine y_blk 0 tq_X12_sneak (z := (26, [(0, .ref (ad 200)), (1, .int from_), (2, .int to), (3, .int minute), (4, .int most)], [.int 0])) rfl ?_
      exact y_iret tq_X12_sneak rfl rfl (⟨⟨_, rfl⟩, ad, _, hX23, rfl, kt23, (rSm.in0 (rSm.in0 rSm.rfl'))⟩)
set_option maxHeartbeats 4000000 in
set_option maxRecDepth 100000 in
theorem m_X12_reach {l : Launch} {S0 : State} {A0 : Array Value} {D : va_G} {aC : Nat → ClassId} {ic : Int32 → Nat} {de : Nat} {ad : Nat → Nat} {G : AH} {ρ : RS} (hS : yS l S0 A0 D aC) (hI : yIc S0 ic de) (hX : atR aC ic de ad G ρ) (from_ : Int32) (minute : Int32) (most : Int32) : yM l S0 D yX12_reach cX12_reach 10 (some .int) 23 61 3904 [.ref (ad 200), .int from_, .int minute, .int most] G (fun r G1 => (∃ v : Int32, r = some (.int v)) ∧ ∃ (ad1 : Nat → Nat) (ρ1 : RS), atR aC ic de ad1 G1 ρ1 ∧ ad1 200 = ad 200 ∧ yTg kR G G1 ∧ rSm ρ ρ1) (fun _ _ => False) := by
  refine yM.ofK K_X12_reach rfl (by decide) (Nat.le_of_ble_eq_true rfl) ?_
  have J101 : ∀ (n101 : Nat) (v101_4 : Nat) (v101_5 : Int32) (v101_6 : Nat) (v101_7 : Int32) (v101_8 : Int32) (G101 : AH) (s101 : RS) (f6101 : Nat → Int32) (hX101 : atR aC ic de ad G101 s101) (kt101 : yTg kR G G101) (r9101 : rSm ρ s101) (pA6101 : G101 v101_6 = some (501, .inl (aC 2, rZ s101 201, .inl f6101))) (hl_101 : v101_7 = Int32.ofNat (rZ s101 201)) (h0_101 : 0 ≤ v101_8.toInt), (v101_7.toInt - v101_8.toInt).toNat = n101 → Y l S0 D K_X12_reach 23 61 3904 (fun r G1 => (∃ v : Int32, r = some (.int v)) ∧ ∃ (ad1 : Nat → Nat) (ρ1 : RS), atR aC ic de ad1 G1 ρ1 ∧ ad1 200 = ad 200 ∧ yTg kR G G1 ∧ rSm ρ ρ1) (fun _ _ => False) 101 [(0, .ref (ad 200)), (1, .int from_), (2, .int minute), (3, .int most), (4, .ref v101_4), (5, .int v101_5), (6, .ref v101_6), (7, .int v101_7), (8, .int v101_8)] [] G101 0 0 := by
    intro n101
    induction n101 using Nat.strongRecOn with
    | _ n101 ih101 =>
    intro v101_4 v101_5 v101_6 v101_7 v101_8 G101 s101 f6101 hX101 kt101 r9101 pA6101 hl_101 h0_101 hn101
    subst hn101
    refine y_blk 2 tq_X12_reach (z := (105, [(0, .ref (ad 200)), (1, .int from_), (2, .int minute), (3, .int most), (4, .ref v101_4), (5, .int v101_5), (6, .ref v101_6), (7, .int v101_7), (8, .int v101_8)], [.int v101_7, .int v101_8])) rfl ?_
    refine y_icmp_ge tq_X12_reach 136 rfl rfl (fun c105 => ?_) (fun c105 => ?_)
    · skip
      refine y_blk 1 tq_X12_reach (z := (138, [(0, .ref (ad 200)), (1, .int from_), (2, .int minute), (3, .int most), (4, .ref v101_4), (5, .int v101_5), (6, .ref v101_6), (7, .int v101_7), (8, .int v101_8)], [.int v101_5])) rfl ?_
      exact y_iret tq_X12_reach rfl rfl (⟨⟨_, rfl⟩, ad, _, hX101, rfl, kt101, r9101⟩)
    · skip
      have b105 : v101_8.toInt < rZ s101 201 := yIy (by have := hX101.2.n64; omega) h0_101 (by rw [hl_101] at c105; exact c105)
      refine y_blk 2 tq_X12_reach (z := (112, [(0, .ref (ad 200)), (1, .int from_), (2, .int minute), (3, .int most), (4, .ref v101_4), (5, .int v101_5), (6, .ref v101_6), (7, .int v101_7), (8, .int v101_8)], [.int v101_8, .ref v101_6])) rfl ?_
      refine y_zald hS tq_X12_reach rfl pA6101 (by first | exact yIn (by decide) (by decide) | exact yIn (by assumption) (by assumption) | (exact yIn (by omega) (by omega))) ?_
      refine y_blk 3 tq_X12_reach (z := (119, [(9, .int (f6101 (Int32.toNatClampNeg v101_8))), (0, .ref (ad 200)), (1, .int from_), (2, .int minute), (3, .int most), (4, .ref v101_4), (5, .int v101_5), (6, .ref v101_6), (7, .int v101_7), (8, .int v101_8)], [.int (f6101 (Int32.toNatClampNeg v101_8)), .int v101_5])) rfl ?_
      refine y_if_eq tq_X12_reach 126 rfl rfl (fun c119 => ?_) (fun c119 => ?_)
      · skip
        refine y_blk 5 tq_X12_reach (z := (101, [(8, .int (v101_8 + 1)), (5, .int (v101_5 + 0)), (9, .int (f6101 (Int32.toNatClampNeg v101_8))), (0, .ref (ad 200)), (1, .int from_), (2, .int minute), (3, .int most), (4, .ref v101_4), (6, .ref v101_6), (7, .int v101_7)], [])) rfl ?_
        refine y_pick (L2 := [(0, .ref (ad 200)), (1, .int from_), (2, .int minute), (3, .int most), (4, .ref v101_4), (5, .int (v101_5 + 0)), (6, .ref v101_6), (7, .int v101_7), (8, .int (v101_8 + 1))]) [3, 4, 5, 6, 7, 1, 8, 9, 0] rfl ?_
        exact ih101 _ (by exact ydec c105) v101_4 (v101_5 + 0) v101_6 v101_7 (v101_8 + 1) G101 s101 f6101 hX101 kt101 r9101 pA6101 (by first | rfl | assumption) (by first | decide | exact yposgeL (by assumption) c105) rfl
      · skip
        refine y_blk 6 tq_X12_reach (z := (101, [(8, .int (v101_8 + 1)), (5, .int (v101_5 + 1)), (9, .int (f6101 (Int32.toNatClampNeg v101_8))), (0, .ref (ad 200)), (1, .int from_), (2, .int minute), (3, .int most), (4, .ref v101_4), (6, .ref v101_6), (7, .int v101_7)], [])) rfl ?_
        refine y_pick (L2 := [(0, .ref (ad 200)), (1, .int from_), (2, .int minute), (3, .int most), (4, .ref v101_4), (5, .int (v101_5 + 1)), (6, .ref v101_6), (7, .int v101_7), (8, .int (v101_8 + 1))]) [3, 4, 5, 6, 7, 1, 8, 9, 0] rfl ?_
        exact ih101 _ (by exact ydec c105) v101_4 (v101_5 + 1) v101_6 v101_7 (v101_8 + 1) G101 s101 f6101 hX101 kt101 r9101 pA6101 (by first | rfl | assumption) (by first | decide | exact yposgeL (by assumption) c105) rfl
  have J62 : ∀ (n62 : Nat) (v62_4 : Nat) (v62_5 : Int32) (G62 : AH) (s62 : RS) (f462 : Nat → Int32) (hX62 : atR aC ic de ad G62 s62) (kt62 : yTg kR G G62) (r962 : rSm ρ s62) (pA462 : G62 v62_4 = some (501, .inl (aC 2, rZ s62 201, .inl f462))) (hm_62 : most.toInt ≤ 60) (h0_62 : 1 ≤ v62_5.toInt), (most.toInt + 1 - v62_5.toInt).toNat = n62 → Y l S0 D K_X12_reach 23 61 3904 (fun r G1 => (∃ v : Int32, r = some (.int v)) ∧ ∃ (ad1 : Nat → Nat) (ρ1 : RS), atR aC ic de ad1 G1 ρ1 ∧ ad1 200 = ad 200 ∧ yTg kR G G1 ∧ rSm ρ ρ1) (fun _ _ => False) 62 [(0, .ref (ad 200)), (1, .int from_), (2, .int minute), (3, .int most), (4, .ref v62_4), (5, .int v62_5)] [] G62 (61 - (Int32.toInt v62_5).toNat) (64 * (61 - (Int32.toInt v62_5).toNat)) := by
    intro n62
    induction n62 using Nat.strongRecOn with
    | _ n62 ih62 =>
    intro v62_4 v62_5 G62 s62 f462 hX62 kt62 r962 pA462 hm_62 h0_62 hn62
    subst hn62
    refine y_blk 2 tq_X12_reach (z := (65, [(0, .ref (ad 200)), (1, .int from_), (2, .int minute), (3, .int most), (4, .ref v62_4), (5, .int v62_5)], [.int most, .int v62_5])) rfl ?_
    refine y_icmp_gt tq_X12_reach 86 rfl rfl (fun c65 => ?_) (fun c65 => ?_)
    · skip
      refine y_blk 5 tq_X12_reach (z := (95, [(6, .ref v62_4), (5, .int 0), (0, .ref (ad 200)), (1, .int from_), (2, .int minute), (3, .int most), (4, .ref v62_4)], [.ref v62_4])) rfl ?_
      refine y_alen hS tq_X12_reach 2 rfl rfl pA462 ?_
      refine y_blk 3 tq_X12_reach (z := (101, [(8, .int 0), (7, .int (Int32.ofNat (rZ s62 201))), (6, .ref v62_4), (5, .int 0), (0, .ref (ad 200)), (1, .int from_), (2, .int minute), (3, .int most), (4, .ref v62_4)], [])) rfl ?_
      refine y_less (k2 := 0) (n2 := 0) (Nat.zero_le _) (Nat.zero_le _) ?_
      refine y_pick (L2 := [(0, .ref (ad 200)), (1, .int from_), (2, .int minute), (3, .int most), (4, .ref v62_4), (5, .int 0), (6, .ref v62_4), (7, .int (Int32.ofNat (rZ s62 201))), (8, .int 0)]) [4, 5, 6, 7, 8, 3, 2, 1, 0] rfl ?_
      exact J101 _ v62_4 0 v62_4 (Int32.ofNat (rZ s62 201)) 0 G62 s62 f462 hX62 kt62 r962 pA462 (by first | rfl | assumption) (by first | decide | exact yposgeL (by assumption) c105) rfl
    · skip
      have b65 : v62_5.toInt ≤ 60 := by rw [ylt] at c65; omega
      refine y_blk 5 tq_X12_reach (z := (75, [(0, .ref (ad 200)), (1, .int from_), (2, .int minute), (3, .int most), (4, .ref v62_4), (5, .int v62_5)], [.int (minute + v62_5), .ref v62_4, .ref (ad 200)])) rfl ?_
      refine y_less (k2 := 60 - (Int32.toInt v62_5).toNat + 1) (n2 := 64 * (60 - (Int32.toInt v62_5).toNat) + 64) (by first | omega | (simp only [Nat.mul_eq]; omega)) (by first | omega | (simp only [Nat.mul_eq]; omega)) ?_
      refine y_callV hS tq_X12_reach rfl (As := [.ref v62_4, .int (minute + v62_5)]) rfl cv_X12_287 hX62.m (m_X12_onward hS hI hX62 (minute + v62_5) (pA462)) rfl (by decide) (Nat.le_of_ble_eq_true rfl) (fun r75 Gc75 q75 => ?_) (fun E9 G9 h9 => h9.elim)
      obtain ⟨a75, f75, rfl, hA75, kt75⟩ := q75
      have hX75 := hX62.kp (kt75.narrow kA_R)
      have ktt75 := (kt62).trans (kt75.narrow kR_A)
      refine y_blk 3 tq_X12_reach (z := (62, [(5, .int (v62_5 + 1)), (4, .ref a75), (0, .ref (ad 200)), (1, .int from_), (2, .int minute), (3, .int most)], [])) rfl ?_
      have e6 : (v62_5 + 1).toInt = v62_5.toInt + 1 := by rw [yadd (by rw [yl_1]; omega) (by rw [yl_1]; omega), yl_1]
      refine y_less (k2 := 61 - (Int32.toInt (v62_5 + 1)).toNat) (n2 := 64 * (61 - (Int32.toInt (v62_5 + 1)).toNat)) (by first | decide | omega | (simp only [Nat.mul_eq]; omega) | (rw [e6]; omega) | (simp only [Nat.mul_eq, e6]; omega) | (show (_ : Nat) ≤ _; rw [e6]; omega)) (by first | decide | omega | (simp only [Nat.mul_eq]; omega) | (rw [e6]; omega) | (simp only [Nat.mul_eq, e6]; omega) | (show (_ : Nat) ≤ _; rw [e6]; omega)) ?_
      refine y_pick (L2 := [(0, .ref (ad 200)), (1, .int from_), (2, .int minute), (3, .int most), (4, .ref a75), (5, .int (v62_5 + 1))]) [2, 3, 4, 5, 1, 0] rfl ?_
      exact ih62 _ (by exact ydec2 c65 (by omega)) a75 (v62_5 + 1) Gc75 s62 f75 hX75 ktt75 r962 hA75 (by omega) (by first | decide | exact yposgtL (by assumption) c65 (by omega)) rfl
  refine y_blk 2 tq_X12_reach (z := (2, [(0, .ref (ad 200)), (1, .int from_), (2, .int minute), (3, .int most)], [.int 0, .ref (ad 200)])) rfl ?_
  refine y_put hS tq_X12_reach rfl fp_X12_51_X12 hX.m (by omega) rfl rfl (Nat.le_of_ble_eq_true rfl) ?_
  have hX2 : atR aC ic de ad (yup G (ad 200) (200, .inr (16, [.int 0, .int (rI ρ 1), .int (rI ρ 2), .ref (ad 201), .int (rI ρ 3), .int (rI ρ 4), .ref (ad 210), .ref (ad 211), .ref (ad 212), .ref (ad 213), .int (rI ρ 5), .int (rI ρ 6), .int (rI ρ 7), .ref (ad 202), .ref (ad 214), .int (rI ρ 8), .ref (ad 203), .ref (ad 215), .ref (ad 216), .int (rI ρ 9)]))) ((rin ρ 0 0)) := atR.setIb hX rfl rfl (hX.2.setI (by decide))
  have kt2 : yTg kR G (yup G (ad 200) (200, .inr (16, [.int 0, .int (rI ρ 1), .int (rI ρ 2), .ref (ad 201), .int (rI ρ 3), .int (rI ρ 4), .ref (ad 210), .ref (ad 211), .ref (ad 212), .ref (ad 213), .int (rI ρ 5), .int (rI ρ 6), .int (rI ρ 7), .ref (ad 202), .ref (ad 214), .int (rI ρ 8), .ref (ad 203), .ref (ad 215), .ref (ad 216), .int (rI ρ 9)]))) := ((yTg.rfl' (f := kR) (G := G))).trans (yTg.up hX.m (kR_n (by omega) (by omega)))
  show Y l S0 D K_X12_reach 23 61 3904 (fun r G1 => (∃ v : Int32, r = some (.int v)) ∧ ∃ (ad1 : Nat → Nat) (ρ1 : RS), atR aC ic de ad1 G1 ρ1 ∧ ad1 200 = ad 200 ∧ yTg kR G G1 ∧ rSm ρ ρ1) (fun _ _ => False) (2 + 3) [(0, .ref (ad 200)), (1, .int from_), (2, .int minute), (3, .int most)] [] (yup G (ad 200) (200, .inr (16, [.int 0, .int (rI ρ 1), .int (rI ρ 2), .ref (ad 201), .int (rI ρ 3), .int (rI ρ 4), .ref (ad 210), .ref (ad 211), .ref (ad 212), .ref (ad 213), .int (rI ρ 5), .int (rI ρ 6), .int (rI ρ 7), .ref (ad 202), .ref (ad 214), .int (rI ρ 8), .ref (ad 203), .ref (ad 215), .ref (ad 216), .int (rI ρ 9)]))) 61 3904
  generalize yup G (ad 200) (200, .inr (16, [.int 0, .int (rI ρ 1), .int (rI ρ 2), .ref (ad 201), .int (rI ρ 3), .int (rI ρ 4), .ref (ad 210), .ref (ad 211), .ref (ad 212), .ref (ad 213), .int (rI ρ 5), .int (rI ρ 6), .int (rI ρ 7), .ref (ad 202), .ref (ad 214), .int (rI ρ 8), .ref (ad 203), .ref (ad 215), .ref (ad 216), .int (rI ρ 9)])) = G2 at hX2 kt2 ⊢
  refine y_blk 2 tq_X12_reach (z := (7, [(0, .ref (ad 200)), (1, .int from_), (2, .int minute), (3, .int most)], [.int from_, .ref (ad 200)])) rfl ?_
  refine y_callV hS tq_X12_reach rfl (As := [.int from_]) rfl cv_X12_157 hX2.m (m_X12_isCell hS hI hX2 from_) rfl (by decide) (Nat.le_of_ble_eq_true rfl) (fun r7 Gc7 q7 => ?_) (fun E9 G9 h9 => h9.elim)
  obtain ⟨rfl, eG7⟩ := q7
  have eG7 := eG7.symm
  subst eG7
  refine y_blk 0 tq_X12_reach (z := (10, [(0, .ref (ad 200)), (1, .int from_), (2, .int minute), (3, .int most)], [.int (if 0 ≤ from_ ∧ from_ ≤ (Int32.ofNat (rZ ((rin ρ 0 0)) 201)) - 1 then 1 else 0)])) rfl ?_
  refine y_if_ne tq_X12_reach 19 rfl rfl (fun c10 => ?_) (fun c10 => ?_)
  · skip
    have hq10 := yif1 c10
    have hn10 := yinN (n := rZ ((rin ρ 0 0)) 201) (by have := hX2.2.n64; omega) hq10
    have ha10 := hn10.1
    have hb10 := hn10.2
    refine y_blk 1 tq_X12_reach (z := (20, [(0, .ref (ad 200)), (1, .int from_), (2, .int minute), (3, .int most)], [.int minute])) rfl ?_
    refine y_callS hS tq_X12_reach rfl (As := [.int minute]) rfl cs_X12_163 (m_X12_isMinute hS minute) rfl (by decide) (Nat.le_of_ble_eq_true rfl) (fun r20 Gc20 q20 => ?_) (fun E9 G9 h9 => h9.elim)
    obtain ⟨rfl, eG20⟩ := q20
    have eG20 := eG20.symm
    subst eG20
    refine y_blk 0 tq_X12_reach (z := (23, [(0, .ref (ad 200)), (1, .int from_), (2, .int minute), (3, .int most)], [.int (if 0 ≤ minute ∧ minute ≤ 239 then 1 else 0)])) rfl ?_
    refine y_if_eq tq_X12_reach 45 rfl rfl (fun c23 => ?_) (fun c23 => ?_)
    · skip
      refine y_blk 2 tq_X12_reach (z := (47, [(0, .ref (ad 200)), (1, .int from_), (2, .int minute), (3, .int most)], [.int 2, .ref (ad 200)])) rfl ?_
      refine y_callV hS tq_X12_reach rfl (As := [.int 2]) rfl cv_X12_140 hX2.m (m_X12_no hS hI hX2 2) rfl (by decide) (Nat.le_of_ble_eq_true rfl) (fun r47 Gc47 q47 => ?_) (fun E9 G9 h9 => h9.elim)
      obtain ⟨rfl, hX47, kt47_⟩ := q47
      have kt47 := (kt2).trans kt47_
      refine y_blk 0 tq_X12_reach (z := (50, [(0, .ref (ad 200)), (1, .int from_), (2, .int minute), (3, .int most)], [.int 0])) rfl ?_
      exact y_iret tq_X12_reach rfl rfl (⟨⟨_, rfl⟩, ad, _, hX47, rfl, kt47, (rSm.in0 (rSm.in0 rSm.rfl'))⟩)
    · skip
      have hq23 := yif1 c23
      simp only [yle, yl_m1, yl_0, yl_1, yl_2, yl_3, yl_4, yl_5, yl_6, yl_7, yl_8, yl_9, yl_10, yl_11, yl_12, yl_60, yl_90, yl_239, yl_240] at hq23
      have ha23 := hq23.1
      have hb23 := hq23.2
      refine y_blk 3 tq_X12_reach (z := (30, [(0, .ref (ad 200)), (1, .int from_), (2, .int minute), (3, .int most)], [.int 60, .int 0, .int most])) rfl ?_
      refine y_callS hS tq_X12_reach rfl (As := [.int most, .int 0, .int 60]) rfl cs_X12_54 (m_X12_in hS most 0 60) rfl (by decide) (Nat.le_of_ble_eq_true rfl) (fun r30 Gc30 q30 => ?_) (fun E9 G9 h9 => h9.elim)
      obtain ⟨rfl, eG30⟩ := q30
      have eG30 := eG30.symm
      subst eG30
      refine y_blk 0 tq_X12_reach (z := (33, [(0, .ref (ad 200)), (1, .int from_), (2, .int minute), (3, .int most)], [.int (if 0 ≤ most ∧ most ≤ 60 then 1 else 0)])) rfl ?_
      refine y_if_eq tq_X12_reach 45 rfl rfl (fun c33 => ?_) (fun c33 => ?_)
      · skip
        refine y_blk 2 tq_X12_reach (z := (47, [(0, .ref (ad 200)), (1, .int from_), (2, .int minute), (3, .int most)], [.int 2, .ref (ad 200)])) rfl ?_
        refine y_callV hS tq_X12_reach rfl (As := [.int 2]) rfl cv_X12_140 hX2.m (m_X12_no hS hI hX2 2) rfl (by decide) (Nat.le_of_ble_eq_true rfl) (fun r47 Gc47 q47 => ?_) (fun E9 G9 h9 => h9.elim)
        obtain ⟨rfl, hX47, kt47_⟩ := q47
        have kt47 := (kt2).trans kt47_
        refine y_blk 0 tq_X12_reach (z := (50, [(0, .ref (ad 200)), (1, .int from_), (2, .int minute), (3, .int most)], [.int 0])) rfl ?_
        exact y_iret tq_X12_reach rfl rfl (⟨⟨_, rfl⟩, ad, _, hX47, rfl, kt47, (rSm.in0 (rSm.in0 rSm.rfl'))⟩)
      · skip
        have hq33 := yif1 c33
        simp only [yle, yl_m1, yl_0, yl_1, yl_2, yl_3, yl_4, yl_5, yl_6, yl_7, yl_8, yl_9, yl_10, yl_11, yl_12, yl_60, yl_90, yl_239, yl_240] at hq33
        have ha33 := hq33.1
        have hb33 := hq33.2
        refine y_blk 4 tq_X12_reach (z := (42, [(0, .ref (ad 200)), (1, .int from_), (2, .int minute), (3, .int most)], [.int 239, .int (minute + most)])) rfl ?_
        refine y_icmp_le tq_X12_reach 51 rfl rfl (fun c42 => ?_) (fun c42 => ?_)
        · skip
          refine y_blk 3 tq_X12_reach (z := (54, [(0, .ref (ad 200)), (1, .int from_), (2, .int minute), (3, .int most)], [.int minute, .int from_, .ref (ad 200)])) rfl ?_
          refine y_callV hS tq_X12_reach rfl (As := [.int from_, .int minute]) rfl cv_X12_283 hX2.m (m_X12_at hS hI hX2 from_ minute (by first | (with_reducible assumption) | (with_reducible exact hX2.lac (by assumption)) | (with_reducible exact hX2.poc (by assumption)) | (with_reducible exact hX2.wac (by assumption) (by assumption) (by omega)) | assumption | exact hX2.lac (by assumption) | exact hX2.poc (by assumption) | exact hX2.wac (by assumption) (by assumption) (by omega))) rfl (by decide) (Nat.le_of_ble_eq_true rfl) (fun r54 Gc54 q54 => ?_) (fun E9 G9 h9 => h9.elim)
          obtain ⟨a54, f54, rfl, hA54, kt54⟩ := q54
          have hX54 := hX2.kp (kt54.narrow kA_R)
          have ktt54 := (kt2).trans (kt54.narrow kR_A)
          refine y_blk 3 tq_X12_reach (z := (62, [(5, .int 1), (4, .ref a54), (0, .ref (ad 200)), (1, .int from_), (2, .int minute), (3, .int most)], [])) rfl ?_
          refine y_less (k2 := 61 - (Int32.toInt 1).toNat) (n2 := 64 * (61 - (Int32.toInt 1).toNat)) (by first | decide | omega | (simp only [Nat.mul_eq]; omega) | (rw [e6]; omega) | (simp only [Nat.mul_eq, e6]; omega) | (show (_ : Nat) ≤ _; rw [e6]; omega)) (by first | decide | omega | (simp only [Nat.mul_eq]; omega) | (rw [e6]; omega) | (simp only [Nat.mul_eq, e6]; omega) | (show (_ : Nat) ≤ _; rw [e6]; omega)) ?_
          refine y_pick (L2 := [(0, .ref (ad 200)), (1, .int from_), (2, .int minute), (3, .int most), (4, .ref a54), (5, .int 1)]) [2, 3, 4, 5, 1, 0] rfl ?_
          exact J62 _ a54 1 Gc54 (rin ρ 0 0) f54 hX54 ktt54 (rSm.in0 rSm.rfl') hA54 (by omega) (by first | decide | exact yposgtL (by assumption) c65 (by omega)) rfl
        · skip
          refine y_blk 2 tq_X12_reach (z := (47, [(0, .ref (ad 200)), (1, .int from_), (2, .int minute), (3, .int most)], [.int 2, .ref (ad 200)])) rfl ?_
          refine y_callV hS tq_X12_reach rfl (As := [.int 2]) rfl cv_X12_140 hX2.m (m_X12_no hS hI hX2 2) rfl (by decide) (Nat.le_of_ble_eq_true rfl) (fun r47 Gc47 q47 => ?_) (fun E9 G9 h9 => h9.elim)
          obtain ⟨rfl, hX47, kt47_⟩ := q47
          have kt47 := (kt2).trans kt47_
          refine y_blk 0 tq_X12_reach (z := (50, [(0, .ref (ad 200)), (1, .int from_), (2, .int minute), (3, .int most)], [.int 0])) rfl ?_
          exact y_iret tq_X12_reach rfl rfl (⟨⟨_, rfl⟩, ad, _, hX47, rfl, kt47, (rSm.in0 (rSm.in0 rSm.rfl'))⟩)
  · skip
    refine y_blk 2 tq_X12_reach (z := (15, [(0, .ref (ad 200)), (1, .int from_), (2, .int minute), (3, .int most)], [.int 1, .ref (ad 200)])) rfl ?_
    refine y_callV hS tq_X12_reach rfl (As := [.int 1]) rfl cv_X12_140 hX2.m (m_X12_no hS hI hX2 1) rfl (by decide) (Nat.le_of_ble_eq_true rfl) (fun r15 Gc15 q15 => ?_) (fun E9 G9 h9 => h9.elim)
    obtain ⟨rfl, hX15, kt15_⟩ := q15
    have kt15 := (kt2).trans kt15_
    refine y_blk 0 tq_X12_reach (z := (18, [(0, .ref (ad 200)), (1, .int from_), (2, .int minute), (3, .int most)], [.int 0])) rfl ?_
    exact y_iret tq_X12_reach rfl rfl (⟨⟨_, rfl⟩, ad, _, hX15, rfl, kt15, (rSm.in0 (rSm.in0 rSm.rfl'))⟩)
set_option maxHeartbeats 4000000 in
set_option maxRecDepth 100000 in
theorem m_X12_nextLamp {l : Launch} {S0 : State} {A0 : Array Value} {D : va_G} {aC : Nat → ClassId} {ic : Int32 → Nat} {de : Nat} {ad : Nat → Nat} {G : AH} {ρ : RS} (hS : yS l S0 A0 D aC) (hI : yIc S0 ic de) (hX : atR aC ic de ad G ρ) (minute : Int32) (reach : Int32) (isCell : Int32) (h6 : rZ ρ 210 ≤ 6) : yM l S0 D yX12_nextLamp cX12_nextLamp 9 (some .int) 22 128 832 [.ref (ad 200), .int minute, .int reach, .int isCell] G (fun r G1 => (∃ v : Int32, r = some (.int v)) ∧ ∃ (ad1 : Nat → Nat) (ρ1 : RS), atR aC ic de ad1 G1 ρ1 ∧ ad1 200 = ad 200 ∧ yTg kR G G1 ∧ rSm ρ ρ1) (fun _ _ => False) := by
  refine yM.ofK K_X12_nextLamp rfl (by decide) (Nat.le_of_ble_eq_true rfl) ?_
  have hn64 := hX.2.n64
  have J44 : ∀ (n44 : Nat) (v44_4 : Int32) (v44_5 : Int32) (v44_6 : Int32) (v44_7 : Int32) (G44 : AH) (s44 : RS) (adn44 : Nat → Nat) (hX44 : atR aC ic de adn44 G44 s44) (h20044 : adn44 200 = ad 200) (kt44 : yTg kR G G44) (r944 : rSm ρ s44) (h0_44 : 0 ≤ v44_7.toInt) (h6_44 : rZ s44 210 ≤ 6), ((Int32.ofNat (rZ s44 201) : Int32).toInt - v44_7.toInt).toNat = n44 → Y l S0 D K_X12_nextLamp 22 128 832 (fun r G1 => (∃ v : Int32, r = some (.int v)) ∧ ∃ (ad1 : Nat → Nat) (ρ1 : RS), atR aC ic de ad1 G1 ρ1 ∧ ad1 200 = ad 200 ∧ yTg kR G G1 ∧ rSm ρ ρ1) (fun _ _ => False) 44 [(0, .ref (ad 200)), (1, .int minute), (2, .int reach), (3, .int isCell), (4, .int v44_4), (5, .int v44_5), (6, .int v44_6), (7, .int v44_7)] [] G44 (2 * (64 - (Int32.toInt v44_7).toNat)) (13 * (64 - (Int32.toInt v44_7).toNat)) := by
    intro n44
    induction n44 using Nat.strongRecOn with
    | _ n44 ih44 =>
    intro v44_4 v44_5 v44_6 v44_7 G44 s44 adn44 hX44 h20044 kt44 r944 h0_44 h6_44 hn44
    subst hn44
    refine y_blk 2 tq_X12_nextLamp (z := (47, [(0, .ref (ad 200)), (1, .int minute), (2, .int reach), (3, .int isCell), (4, .int v44_4), (5, .int v44_5), (6, .int v44_6), (7, .int v44_7)], [.ref (ad 200), .int v44_7])) rfl ?_
    refine y_get hS tq_X12_nextLamp (v := .ref (adn44 201)) rfl fg_X12_7_X12 (yEq h20044 hX44.m) rfl ?_
    refine y_blk 0 tq_X12_nextLamp (z := (50, [(0, .ref (ad 200)), (1, .int minute), (2, .int reach), (3, .int isCell), (4, .int v44_4), (5, .int v44_5), (6, .int v44_6), (7, .int v44_7)], [.ref (adn44 201), .int v44_7])) rfl ?_
    refine y_alen hS tq_X12_nextLamp 0 rfl rfl hX44.ki ?_
    refine y_blk 0 tq_X12_nextLamp (z := (51, [(0, .ref (ad 200)), (1, .int minute), (2, .int reach), (3, .int isCell), (4, .int v44_4), (5, .int v44_5), (6, .int v44_6), (7, .int v44_7)], [.int (Int32.ofNat (rZ s44 201)), .int v44_7])) rfl ?_
    refine y_icmp_ge tq_X12_nextLamp 150 rfl rfl (fun c51 => ?_) (fun c51 => ?_)
    · skip
      refine y_blk 1 tq_X12_nextLamp (z := (151, [(0, .ref (ad 200)), (1, .int minute), (2, .int reach), (3, .int isCell), (4, .int v44_4), (5, .int v44_5), (6, .int v44_6), (7, .int v44_7)], [.int isCell])) rfl ?_
      refine y_if_eq tq_X12_nextLamp 159 rfl rfl (fun c151 => ?_) (fun c151 => ?_)
      · skip
        refine y_blk 1 tq_X12_nextLamp (z := (161, [(0, .ref (ad 200)), (1, .int minute), (2, .int reach), (3, .int isCell), (4, .int v44_4), (5, .int v44_5), (6, .int v44_6), (7, .int v44_7)], [.int v44_6])) rfl ?_
        exact y_iret tq_X12_nextLamp rfl rfl (⟨⟨_, rfl⟩, adn44, _, hX44, h20044, kt44, r944⟩)
      · skip
        refine y_blk 2 tq_X12_nextLamp (z := (161, [(0, .ref (ad 200)), (1, .int minute), (2, .int reach), (3, .int isCell), (4, .int v44_4), (5, .int v44_5), (6, .int v44_6), (7, .int v44_7)], [.int v44_5])) rfl ?_
        exact y_iret tq_X12_nextLamp rfl rfl (⟨⟨_, rfl⟩, adn44, _, hX44, h20044, kt44, r944⟩)
    · skip
      have n51 := hX44.2.n64
      have b51 : v44_7.toInt < rZ s44 201 := yIy (by omega) h0_44 c51
      have e51 : rcell s44 v44_7 := ⟨h0_44, b51⟩
      refine y_blk 1 tq_X12_nextLamp (z := (55, [(0, .ref (ad 200)), (1, .int minute), (2, .int reach), (3, .int isCell), (4, .int v44_4), (5, .int v44_5), (6, .int v44_6), (7, .int v44_7)], [.ref (ad 200)])) rfl ?_
      refine y_get hS tq_X12_nextLamp (v := .ref (adn44 201)) rfl fg_X12_7_X12 (yEq h20044 hX44.m) rfl ?_
      refine y_blk 1 tq_X12_nextLamp (z := (60, [(0, .ref (ad 200)), (1, .int minute), (2, .int reach), (3, .int isCell), (4, .int v44_4), (5, .int v44_5), (6, .int v44_6), (7, .int v44_7)], [.int v44_7, .ref (adn44 201)])) rfl ?_
      refine y_iald hS tq_X12_nextLamp rfl hX44.ki (by exact yIn h0_44 b51) ?_
      refine y_blk 1 tq_X12_nextLamp (z := (62, [(0, .ref (ad 200)), (1, .int minute), (2, .int reach), (3, .int isCell), (4, .int v44_4), (5, .int v44_5), (6, .int v44_6), (7, .int v44_7)], [.int 1, .int ((rV s44 201) (Int32.toNatClampNeg v44_7))])) rfl ?_
      refine y_icmp_ne tq_X12_nextLamp 68 rfl rfl (fun c62 => ?_) (fun c62 => ?_)
      · skip
        refine y_blk 1 tq_X12_nextLamp (z := (69, [(0, .ref (ad 200)), (1, .int minute), (2, .int reach), (3, .int isCell), (4, .int v44_4), (5, .int v44_5), (6, .int v44_6), (7, .int v44_7)], [.ref (ad 200)])) rfl ?_
        refine y_get hS tq_X12_nextLamp (v := .ref (adn44 210)) rfl fg_X12_20_X12 (yEq h20044 hX44.m) rfl ?_
        refine y_blk 1 tq_X12_nextLamp (z := (73, [(0, .ref (ad 200)), (1, .int minute), (2, .int reach), (3, .int isCell), (4, .int v44_4), (5, .int v44_5), (6, .int v44_6), (7, .int v44_7)], [.int 3, .ref (adn44 210)])) rfl ?_
        refine y_less (k2 := 2 * (63 - (Int32.toInt v44_7).toNat) + 1 + 1) (n2 := 13 * (63 - (Int32.toInt v44_7).toNat) + 10 + 3) (by omega) (by omega) ?_
        refine y_newa_int 500 hS tq_X12_nextLamp (kc := 2 * (63 - (Int32.toInt v44_7).toNat) + 1) (ks := 13 * (63 - (Int32.toInt v44_7).toNat) + 10) (n := 3) rfl wd_176 (by decide) (by decide) (by decide) (fun a73 hne73 => ?_)
        have hle73 : yLe G44 (yup G44 a73 (500, .inl (aC 0, 3, .inl (fun _ => 0)))) := yLe.new hne73
        have hA73 : (yup G44 a73 (500, .inl (aC 0, 3, .inl (fun _ => 0)))) a73 = some (500, .inl (aC 0, 3, .inl (fun _ => 0))) := yup_s _ _ _
        generalize yup G44 a73 (500, .inl (aC 0, 3, .inl (fun _ => 0))) = G73 at hle73 hA73 ⊢
        have hX73 := hX44.le hle73
        have kt73 := (kt44).trans (yTg.le hle73)
        refine y_blk 3 tq_X12_nextLamp (z := (79, [(0, .ref (ad 200)), (1, .int minute), (2, .int reach), (3, .int isCell), (4, .int v44_4), (5, .int v44_5), (6, .int v44_6), (7, .int v44_7)], [.int v44_7, .int 0, .ref a73, .ref a73, .ref (adn44 210)])) rfl ?_
        refine y_iast hS tq_X12_nextLamp rfl hA73 (by decide) (by first | exact yIn (by decide) (by decide) | exact yIn (by assumption) (by assumption) | (exact yIn (by omega) (by omega))) ?_
        have hA79 : (yup G73 a73 (500, .inl (aC 0, 3, .inl (upd (fun _ => 0) (Int32.toNatClampNeg 0) v44_7)))) a73 = some (500, .inl (aC 0, 3, .inl (upd (fun _ => 0) (Int32.toNatClampNeg 0) v44_7))) := yup_s _ _ _
        have hX79 : atR aC ic de adn44 (yup G73 a73 (500, .inl (aC 0, 3, .inl (upd (fun _ => 0) (Int32.toNatClampNeg 0) v44_7)))) s44 := hX73.kp (yTg.up hA73 (by decide))
        have kt79 : yTg kR G (yup G73 a73 (500, .inl (aC 0, 3, .inl (upd (fun _ => 0) (Int32.toNatClampNeg 0) v44_7)))) := (kt73).trans (yTg.up hA73 (by decide))
        generalize yup G73 a73 (500, .inl (aC 0, 3, .inl (upd (fun _ => 0) (Int32.toNatClampNeg 0) v44_7))) = G79 at hA79 hX79 kt79 ⊢
        refine y_blk 3 tq_X12_nextLamp (z := (83, [(0, .ref (ad 200)), (1, .int minute), (2, .int reach), (3, .int isCell), (4, .int v44_4), (5, .int v44_5), (6, .int v44_6), (7, .int v44_7)], [.int reach, .int 1, .ref a73, .ref a73, .ref (adn44 210)])) rfl ?_
        refine y_iast hS tq_X12_nextLamp rfl hA79 (by decide) (by first | exact yIn (by decide) (by decide) | exact yIn (by assumption) (by assumption) | (exact yIn (by omega) (by omega))) ?_
        have hA83 : (yup G79 a73 (500, .inl (aC 0, 3, .inl (upd (upd (fun _ => 0) (Int32.toNatClampNeg 0) v44_7) (Int32.toNatClampNeg 1) reach)))) a73 = some (500, .inl (aC 0, 3, .inl (upd (upd (fun _ => 0) (Int32.toNatClampNeg 0) v44_7) (Int32.toNatClampNeg 1) reach))) := yup_s _ _ _
        have hX83 : atR aC ic de adn44 (yup G79 a73 (500, .inl (aC 0, 3, .inl (upd (upd (fun _ => 0) (Int32.toNatClampNeg 0) v44_7) (Int32.toNatClampNeg 1) reach)))) s44 := hX79.kp (yTg.up hA79 (by decide))
        have kt83 : yTg kR G (yup G79 a73 (500, .inl (aC 0, 3, .inl (upd (upd (fun _ => 0) (Int32.toNatClampNeg 0) v44_7) (Int32.toNatClampNeg 1) reach)))) := (kt79).trans (yTg.up hA79 (by decide))
        generalize yup G79 a73 (500, .inl (aC 0, 3, .inl (upd (upd (fun _ => 0) (Int32.toNatClampNeg 0) v44_7) (Int32.toNatClampNeg 1) reach))) = G83 at hA83 hX83 kt83 ⊢
        refine y_blk 3 tq_X12_nextLamp (z := (87, [(0, .ref (ad 200)), (1, .int minute), (2, .int reach), (3, .int isCell), (4, .int v44_4), (5, .int v44_5), (6, .int v44_6), (7, .int v44_7)], [.int 1, .int 2, .ref a73, .ref a73, .ref (adn44 210)])) rfl ?_
        refine y_iast hS tq_X12_nextLamp rfl hA83 (by decide) (by first | exact yIn (by decide) (by decide) | exact yIn (by assumption) (by assumption) | (exact yIn (by omega) (by omega))) ?_
        have hA87 : (yup G83 a73 (500, .inl (aC 0, 3, .inl (upd (upd (upd (fun _ => 0) (Int32.toNatClampNeg 0) v44_7) (Int32.toNatClampNeg 1) reach) (Int32.toNatClampNeg 2) 1)))) a73 = some (500, .inl (aC 0, 3, .inl (upd (upd (upd (fun _ => 0) (Int32.toNatClampNeg 0) v44_7) (Int32.toNatClampNeg 1) reach) (Int32.toNatClampNeg 2) 1))) := yup_s _ _ _
        have hX87 : atR aC ic de adn44 (yup G83 a73 (500, .inl (aC 0, 3, .inl (upd (upd (upd (fun _ => 0) (Int32.toNatClampNeg 0) v44_7) (Int32.toNatClampNeg 1) reach) (Int32.toNatClampNeg 2) 1)))) s44 := hX83.kp (yTg.up hA83 (by decide))
        have kt87 : yTg kR G (yup G83 a73 (500, .inl (aC 0, 3, .inl (upd (upd (upd (fun _ => 0) (Int32.toNatClampNeg 0) v44_7) (Int32.toNatClampNeg 1) reach) (Int32.toNatClampNeg 2) 1)))) := (kt83).trans (yTg.up hA83 (by decide))
        generalize yup G83 a73 (500, .inl (aC 0, 3, .inl (upd (upd (upd (fun _ => 0) (Int32.toNatClampNeg 0) v44_7) (Int32.toNatClampNeg 1) reach) (Int32.toNatClampNeg 2) 1))) = G87 at hA87 hX87 kt87 ⊢
        refine y_blk 0 tq_X12_nextLamp (z := (88, [(0, .ref (ad 200)), (1, .int minute), (2, .int reach), (3, .int isCell), (4, .int v44_4), (5, .int v44_5), (6, .int v44_6), (7, .int v44_7)], [.ref a73, .ref (adn44 210)])) rfl ?_
        refine y_retag (t2 := 300 + rZ s44 210) hA87 (by decide) ?_
        have hR88 : (yup G87 a73 (300 + rZ s44 210, .inl (aC 0, 3, .inl (upd (upd (upd (fun _ => 0) (Int32.toNatClampNeg 0) v44_7) (Int32.toNatClampNeg 1) reach) (Int32.toNatClampNeg 2) 1)))) a73 = some (300 + rZ s44 210, .inl (aC 0, 3, .inl (upd (upd (upd (fun _ => 0) (Int32.toNatClampNeg 0) v44_7) (Int32.toNatClampNeg 1) reach) (Int32.toNatClampNeg 2) 1))) := yup_s _ _ _
        have hXr88 : atR aC ic de adn44 (yup G87 a73 (300 + rZ s44 210, .inl (aC 0, 3, .inl (upd (upd (upd (fun _ => 0) (Int32.toNatClampNeg 0) v44_7) (Int32.toNatClampNeg 1) reach) (Int32.toNatClampNeg 2) 1)))) s44 := hX87.kp (yTg.ret hA87 (by decide))
        have ktr88 : yTg kR G (yup G87 a73 (300 + rZ s44 210, .inl (aC 0, 3, .inl (upd (upd (upd (fun _ => 0) (Int32.toNatClampNeg 0) v44_7) (Int32.toNatClampNeg 1) reach) (Int32.toNatClampNeg 2) 1)))) := (kt87).trans (yTg.ret hA87 (by decide))
        generalize yup G87 a73 (300 + rZ s44 210, .inl (aC 0, 3, .inl (upd (upd (upd (fun _ => 0) (Int32.toNatClampNeg 0) v44_7) (Int32.toNatClampNeg 1) reach) (Int32.toNatClampNeg 2) 1))) = Gr88 at hR88 hXr88 ktr88 ⊢
        refine y_less (k2 := 2 * (63 - (Int32.toInt v44_7).toNat) + 1) (n2 := 13 * (63 - (Int32.toInt v44_7).toNat) + 10) (by first | omega | (simp only [Nat.mul_eq]; omega)) (by first | omega | (simp only [Nat.mul_eq]; omega)) ?_
        refine y_callF hS tq_X12_nextLamp rfl (As := [.ref a73]) rfl cf_X12_166 (Or.inl ⟨_, (hXr88.ls 210 (by decide)).1⟩) (m_Raddrow hS hI hXr88 (Or.inl ⟨rfl, rfl, rfl⟩) hR88 (by show rZ s44 210 + 1 ≤ 7; omega) (fun _ => yf3 e51)) rfl (by decide) (Nat.le_of_ble_eq_true rfl) (fun r88 Gc88 q88 => ?_) (fun _ _ h9 => h9.elim)
        obtain ⟨rfl, adn88, hX88, hd88, kt88_⟩ := q88
        have kt88 := (ktr88).trans kt88_
        show Y l S0 D K_X12_nextLamp 22 128 832 (fun r G1 => (∃ v : Int32, r = some (.int v)) ∧ ∃ (ad1 : Nat → Nat) (ρ1 : RS), atR aC ic de ad1 G1 ρ1 ∧ ad1 200 = ad 200 ∧ yTg kR G G1 ∧ rSm ρ ρ1) (fun _ _ => False) 93 [(0, .ref (ad 200)), (1, .int minute), (2, .int reach), (3, .int isCell), (4, .int v44_4), (5, .int v44_5), (6, .int v44_6), (7, .int v44_7)] [.int 1] Gc88 (2 * (63 - (Int32.toInt v44_7).toNat)) (13 * (63 - (Int32.toInt v44_7).toNat))
        refine y_blk 5 tq_X12_nextLamp (z := (99, [(0, .ref (ad 200)), (1, .int minute), (2, .int reach), (3, .int isCell), (4, .int v44_4), (5, .int v44_5), (6, .int v44_6), (7, .int v44_7)], [.int 1, .int minute, .ref (ad 200), .int v44_4])) rfl ?_
        refine y_callV hS tq_X12_nextLamp rfl (As := [.int minute, .int 1]) rfl cv_X12_205 (yEq (hd88.trans h20044) hX88.m) (yM.eq (hd88.trans h20044) (m_X12_minuteNow hS hI hX88 minute 1)) rfl (by decide) (Nat.le_of_ble_eq_true rfl) (fun r99 Gc99 q99 => ?_) (fun E9 G9 h9 => h9.elim)
        obtain ⟨⟨x99, rfl⟩, eG99⟩ := q99
        have eG99 := eG99.symm
        subst eG99
        refine y_blk 3 tq_X12_nextLamp (z := (106, [(8, .int (v44_4 - x99)), (0, .ref (ad 200)), (1, .int minute), (2, .int reach), (3, .int isCell), (4, .int v44_4), (5, .int v44_5), (6, .int v44_6), (7, .int v44_7)], [.ref (ad 200)])) rfl ?_
        refine y_get hS tq_X12_nextLamp (v := .ref (adn88 210)) rfl fg_X12_20_X12 (yEq (hd88.trans h20044) hX88.m) rfl ?_
        refine y_blk 1 tq_X12_nextLamp (z := (110, [(8, .int (v44_4 - x99)), (0, .ref (ad 200)), (1, .int minute), (2, .int reach), (3, .int isCell), (4, .int v44_4), (5, .int v44_5), (6, .int v44_6), (7, .int v44_7)], [.ref (ad 200), .ref (adn88 210)])) rfl ?_
        refine y_get hS tq_X12_nextLamp (v := .ref (adn88 210)) rfl fg_X12_20_X12 (yEq (hd88.trans h20044) hX88.m) rfl ?_
        refine y_blk 0 tq_X12_nextLamp (z := (113, [(8, .int (v44_4 - x99)), (0, .ref (ad 200)), (1, .int minute), (2, .int reach), (3, .int isCell), (4, .int v44_4), (5, .int v44_5), (6, .int v44_6), (7, .int v44_7)], [.ref (adn88 210), .ref (adn88 210)])) rfl ?_
        refine y_callF hS tq_X12_nextLamp rfl (As := []) rfl cf_X12_58 (Or.inl ⟨_, (hX88.ls 210 (by decide)).1⟩) (m_Jsize hS (hX88.ls 210 (by decide))) rfl (by decide) (Nat.le_of_ble_eq_true rfl) (fun r113 Gc113 q113 => ?_) (fun _ _ h9 => h9.elim)
        obtain ⟨rfl, eG113⟩ := q113
        have eG113 := eG113.symm
        subst eG113
        refine y_blk 2 tq_X12_nextLamp (z := (120, [(8, .int (v44_4 - x99)), (0, .ref (ad 200)), (1, .int minute), (2, .int reach), (3, .int isCell), (4, .int v44_4), (5, .int v44_5), (6, .int v44_6), (7, .int v44_7)], [.int ((Int32.ofNat (rZ ((rAdd (rar s44 (300 + rZ s44 210) (upd (upd (upd (fun _ => 0) (Int32.toNatClampNeg 0) v44_7) (Int32.toNatClampNeg 1) reach) (Int32.toNatClampNeg 2) 1)) 210)) 210)) - 1), .ref (adn88 210)])) rfl ?_
        have e120 : Int32.ofNat (rZ ((rAdd (rar s44 (300 + rZ s44 210) (upd (upd (upd (fun _ => 0) (Int32.toNatClampNeg 0) v44_7) (Int32.toNatClampNeg 1) reach) (Int32.toNatClampNeg 2) 1)) 210)) 210) - 1 = Int32.ofNat (rZ s44 210) := yofp (n := rZ s44 210) (by omega)
        rw [e120]
        refine y_callF hS tq_X12_nextLamp rfl (As := [.int (Int32.ofNat (rZ s44 210))]) rfl cf_X12_291 (Or.inl ⟨_, (hX88.ls 210 (by decide)).1⟩) (m_RremLa hS hX88 rfl rfl) rfl (by decide) (Nat.le_of_ble_eq_true rfl) (fun r120 Gc120 q120 => ?_) (fun _ _ h9 => h9.elim)
        obtain ⟨⟨o120, rfl⟩, hX120, kt120_⟩ := q120
        have kt120 := (kt88).trans kt120_
        refine y_blk 3 tq_X12_nextLamp (z := (130, [(8, .int (v44_4 - x99)), (0, .ref (ad 200)), (1, .int minute), (2, .int reach), (3, .int isCell), (4, .int v44_4), (5, .int v44_5), (6, .int v44_6), (7, .int v44_7)], [.int v44_6, .int (v44_4 - x99)])) rfl ?_
        refine y_icmp_gt tq_X12_nextLamp 136 rfl rfl (fun c130 => ?_) (fun c130 => ?_)
        · skip
          refine y_blk 6 tq_X12_nextLamp (z := (44, [(7, .int (v44_7 + 1)), (5, .int v44_7), (6, .int (v44_4 - x99)), (8, .int (v44_4 - x99)), (0, .ref (ad 200)), (1, .int minute), (2, .int reach), (3, .int isCell), (4, .int v44_4)], [])) rfl ?_
          have e6 : (v44_7 + 1).toInt = v44_7.toInt + 1 := by rw [yadd (by rw [yl_1]; omega) (by rw [yl_1]; omega), yl_1]
          refine y_less (k2 := 2 * (64 - (Int32.toInt (v44_7 + 1)).toNat)) (n2 := 13 * (64 - (Int32.toInt (v44_7 + 1)).toNat)) (by first | decide | omega | (simp only [Nat.mul_eq]; omega) | (rw [e6]; omega) | (simp only [Nat.mul_eq, e6]; omega) | (show (_ : Nat) ≤ _; rw [e6]; omega)) (by first | decide | omega | (simp only [Nat.mul_eq]; omega) | (rw [e6]; omega) | (simp only [Nat.mul_eq, e6]; omega) | (show (_ : Nat) ≤ _; rw [e6]; omega)) ?_
          refine y_pick (L2 := [(0, .ref (ad 200)), (1, .int minute), (2, .int reach), (3, .int isCell), (4, .int v44_4), (5, .int v44_7), (6, .int (v44_4 - x99)), (7, .int (v44_7 + 1))]) [4, 5, 6, 7, 8, 1, 2, 0] rfl ?_
          exact ih44 _ (by exact ydec c51) v44_4 v44_7 (v44_4 - x99) (v44_7 + 1) Gc120 (rls ((rAdd (rar s44 (300 + rZ s44 210) (upd (upd (upd (fun _ => 0) (Int32.toNatClampNeg 0) v44_7) (Int32.toNatClampNeg 1) reach) (Int32.toNatClampNeg 2) 1)) 210)) 210 true (rM ((rAdd (rar s44 (300 + rZ s44 210) (upd (upd (upd (fun _ => 0) (Int32.toNatClampNeg 0) v44_7) (Int32.toNatClampNeg 1) reach) (Int32.toNatClampNeg 2) 1)) 210)) 210 + 1) (rZ s44 210)) adn88 hX120 (hd88.trans h20044) kt120 (rSm.trans r944 (rSm.la h6_44)) (by first | decide | exact yposgeL (by assumption) c51) (by first | exact h6 | exact h6_44) rfl
        · skip
          refine y_blk 3 tq_X12_nextLamp (z := (44, [(7, .int (v44_7 + 1)), (8, .int (v44_4 - x99)), (0, .ref (ad 200)), (1, .int minute), (2, .int reach), (3, .int isCell), (4, .int v44_4), (5, .int v44_5), (6, .int v44_6)], [])) rfl ?_
          have e6 : (v44_7 + 1).toInt = v44_7.toInt + 1 := by rw [yadd (by rw [yl_1]; omega) (by rw [yl_1]; omega), yl_1]
          refine y_less (k2 := 2 * (64 - (Int32.toInt (v44_7 + 1)).toNat)) (n2 := 13 * (64 - (Int32.toInt (v44_7 + 1)).toNat)) (by first | decide | omega | (simp only [Nat.mul_eq]; omega) | (rw [e6]; omega) | (simp only [Nat.mul_eq, e6]; omega) | (show (_ : Nat) ≤ _; rw [e6]; omega)) (by first | decide | omega | (simp only [Nat.mul_eq]; omega) | (rw [e6]; omega) | (simp only [Nat.mul_eq, e6]; omega) | (show (_ : Nat) ≤ _; rw [e6]; omega)) ?_
          refine y_pick (L2 := [(0, .ref (ad 200)), (1, .int minute), (2, .int reach), (3, .int isCell), (4, .int v44_4), (5, .int v44_5), (6, .int v44_6), (7, .int (v44_7 + 1))]) [2, 3, 4, 5, 6, 7, 8, 0] rfl ?_
          exact ih44 _ (by exact ydec c51) v44_4 v44_5 v44_6 (v44_7 + 1) Gc120 (rls ((rAdd (rar s44 (300 + rZ s44 210) (upd (upd (upd (fun _ => 0) (Int32.toNatClampNeg 0) v44_7) (Int32.toNatClampNeg 1) reach) (Int32.toNatClampNeg 2) 1)) 210)) 210 true (rM ((rAdd (rar s44 (300 + rZ s44 210) (upd (upd (upd (fun _ => 0) (Int32.toNatClampNeg 0) v44_7) (Int32.toNatClampNeg 1) reach) (Int32.toNatClampNeg 2) 1)) 210)) 210 + 1) (rZ s44 210)) adn88 hX120 (hd88.trans h20044) kt120 (rSm.trans r944 (rSm.la h6_44)) (by first | decide | exact yposgeL (by assumption) c51) (by first | exact h6 | exact h6_44) rfl
      · skip
        refine y_blk 3 tq_X12_nextLamp (z := (44, [(7, .int (v44_7 + 1)), (0, .ref (ad 200)), (1, .int minute), (2, .int reach), (3, .int isCell), (4, .int v44_4), (5, .int v44_5), (6, .int v44_6)], [])) rfl ?_
        have e6 : (v44_7 + 1).toInt = v44_7.toInt + 1 := by rw [yadd (by rw [yl_1]; omega) (by rw [yl_1]; omega), yl_1]
        refine y_less (k2 := 2 * (64 - (Int32.toInt (v44_7 + 1)).toNat)) (n2 := 13 * (64 - (Int32.toInt (v44_7 + 1)).toNat)) (by first | decide | omega | (simp only [Nat.mul_eq]; omega) | (rw [e6]; omega) | (simp only [Nat.mul_eq, e6]; omega) | (show (_ : Nat) ≤ _; rw [e6]; omega)) (by first | decide | omega | (simp only [Nat.mul_eq]; omega) | (rw [e6]; omega) | (simp only [Nat.mul_eq, e6]; omega) | (show (_ : Nat) ≤ _; rw [e6]; omega)) ?_
        refine y_pick (L2 := [(0, .ref (ad 200)), (1, .int minute), (2, .int reach), (3, .int isCell), (4, .int v44_4), (5, .int v44_5), (6, .int v44_6), (7, .int (v44_7 + 1))]) [1, 2, 3, 4, 5, 6, 7, 0] rfl ?_
        exact ih44 _ (by exact ydec c51) v44_4 v44_5 v44_6 (v44_7 + 1) G44 s44 adn44 hX44 h20044 kt44 r944 (by first | decide | exact yposgeL (by assumption) c51) (by first | exact h6 | exact h6_44) rfl
  refine y_blk 2 tq_X12_nextLamp (z := (2, [(0, .ref (ad 200)), (1, .int minute), (2, .int reach), (3, .int isCell)], [.int 0, .ref (ad 200)])) rfl ?_
  refine y_put hS tq_X12_nextLamp rfl fp_X12_51_X12 hX.m (by omega) rfl rfl (Nat.le_of_ble_eq_true rfl) ?_
  have hX2 : atR aC ic de ad (yup G (ad 200) (200, .inr (16, [.int 0, .int (rI ρ 1), .int (rI ρ 2), .ref (ad 201), .int (rI ρ 3), .int (rI ρ 4), .ref (ad 210), .ref (ad 211), .ref (ad 212), .ref (ad 213), .int (rI ρ 5), .int (rI ρ 6), .int (rI ρ 7), .ref (ad 202), .ref (ad 214), .int (rI ρ 8), .ref (ad 203), .ref (ad 215), .ref (ad 216), .int (rI ρ 9)]))) ((rin ρ 0 0)) := atR.setIb hX rfl rfl (hX.2.setI (by decide))
  have kt2 : yTg kR G (yup G (ad 200) (200, .inr (16, [.int 0, .int (rI ρ 1), .int (rI ρ 2), .ref (ad 201), .int (rI ρ 3), .int (rI ρ 4), .ref (ad 210), .ref (ad 211), .ref (ad 212), .ref (ad 213), .int (rI ρ 5), .int (rI ρ 6), .int (rI ρ 7), .ref (ad 202), .ref (ad 214), .int (rI ρ 8), .ref (ad 203), .ref (ad 215), .ref (ad 216), .int (rI ρ 9)]))) := ((yTg.rfl' (f := kR) (G := G))).trans (yTg.up hX.m (kR_n (by omega) (by omega)))
  show Y l S0 D K_X12_nextLamp 22 128 832 (fun r G1 => (∃ v : Int32, r = some (.int v)) ∧ ∃ (ad1 : Nat → Nat) (ρ1 : RS), atR aC ic de ad1 G1 ρ1 ∧ ad1 200 = ad 200 ∧ yTg kR G G1 ∧ rSm ρ ρ1) (fun _ _ => False) (2 + 3) [(0, .ref (ad 200)), (1, .int minute), (2, .int reach), (3, .int isCell)] [] (yup G (ad 200) (200, .inr (16, [.int 0, .int (rI ρ 1), .int (rI ρ 2), .ref (ad 201), .int (rI ρ 3), .int (rI ρ 4), .ref (ad 210), .ref (ad 211), .ref (ad 212), .ref (ad 213), .int (rI ρ 5), .int (rI ρ 6), .int (rI ρ 7), .ref (ad 202), .ref (ad 214), .int (rI ρ 8), .ref (ad 203), .ref (ad 215), .ref (ad 216), .int (rI ρ 9)]))) 128 832
  generalize yup G (ad 200) (200, .inr (16, [.int 0, .int (rI ρ 1), .int (rI ρ 2), .ref (ad 201), .int (rI ρ 3), .int (rI ρ 4), .ref (ad 210), .ref (ad 211), .ref (ad 212), .ref (ad 213), .int (rI ρ 5), .int (rI ρ 6), .int (rI ρ 7), .ref (ad 202), .ref (ad 214), .int (rI ρ 8), .ref (ad 203), .ref (ad 215), .ref (ad 216), .int (rI ρ 9)])) = G2 at hX2 kt2 ⊢
  refine y_blk 1 tq_X12_nextLamp (z := (6, [(0, .ref (ad 200)), (1, .int minute), (2, .int reach), (3, .int isCell)], [.int minute])) rfl ?_
  refine y_callS hS tq_X12_nextLamp rfl (As := [.int minute]) rfl cs_X12_163 (m_X12_isMinute hS minute) rfl (by decide) (Nat.le_of_ble_eq_true rfl) (fun r6 Gc6 q6 => ?_) (fun E9 G9 h9 => h9.elim)
  obtain ⟨rfl, eG6⟩ := q6
  have eG6 := eG6.symm
  subst eG6
  refine y_blk 0 tq_X12_nextLamp (z := (9, [(0, .ref (ad 200)), (1, .int minute), (2, .int reach), (3, .int isCell)], [.int (if 0 ≤ minute ∧ minute ≤ 239 then 1 else 0)])) rfl ?_
  refine y_if_eq tq_X12_nextLamp 21 rfl rfl (fun c9 => ?_) (fun c9 => ?_)
  · skip
    refine y_blk 2 tq_X12_nextLamp (z := (23, [(0, .ref (ad 200)), (1, .int minute), (2, .int reach), (3, .int isCell)], [.int 1, .ref (ad 200)])) rfl ?_
    refine y_callV hS tq_X12_nextLamp rfl (As := [.int 1]) rfl cv_X12_140 hX2.m (m_X12_no hS hI hX2 1) rfl (by decide) (Nat.le_of_ble_eq_true rfl) (fun r23 Gc23 q23 => ?_) (fun E9 G9 h9 => h9.elim)
    obtain ⟨rfl, hX23, kt23_⟩ := q23
    have kt23 := (kt2).trans kt23_
    refine y_blk 0 tq_X12_nextLamp (z := (26, [(0, .ref (ad 200)), (1, .int minute), (2, .int reach), (3, .int isCell)], [.int 0])) rfl ?_
    exact y_iret tq_X12_nextLamp rfl rfl (⟨⟨_, rfl⟩, ad, _, hX23, rfl, kt23, (rSm.in0 (rSm.in0 rSm.rfl'))⟩)
  · skip
    have hq9 := yif1 c9
    simp only [yle, yl_m1, yl_0, yl_1, yl_2, yl_3, yl_4, yl_5, yl_6, yl_7, yl_8, yl_9, yl_10, yl_11, yl_12, yl_60, yl_90, yl_239, yl_240] at hq9
    have ha9 := hq9.1
    have hb9 := hq9.2
    refine y_blk 3 tq_X12_nextLamp (z := (15, [(0, .ref (ad 200)), (1, .int minute), (2, .int reach), (3, .int isCell)], [.int 4, .int 1, .int reach])) rfl ?_
    refine y_callS hS tq_X12_nextLamp rfl (As := [.int reach, .int 1, .int 4]) rfl cs_X12_54 (m_X12_in hS reach 1 4) rfl (by decide) (Nat.le_of_ble_eq_true rfl) (fun r15 Gc15 q15 => ?_) (fun E9 G9 h9 => h9.elim)
    obtain ⟨rfl, eG15⟩ := q15
    have eG15 := eG15.symm
    subst eG15
    refine y_blk 0 tq_X12_nextLamp (z := (18, [(0, .ref (ad 200)), (1, .int minute), (2, .int reach), (3, .int isCell)], [.int (if 1 ≤ reach ∧ reach ≤ 4 then 1 else 0)])) rfl ?_
    refine y_if_ne tq_X12_nextLamp 27 rfl rfl (fun c18 => ?_) (fun c18 => ?_)
    · skip
      have hq18 := yif1 c18
      simp only [yle, yl_m1, yl_0, yl_1, yl_2, yl_3, yl_4, yl_5, yl_6, yl_7, yl_8, yl_9, yl_10, yl_11, yl_12, yl_60, yl_90, yl_239, yl_240] at hq18
      have ha18 := hq18.1
      have hb18 := hq18.2
      refine y_blk 3 tq_X12_nextLamp (z := (30, [(0, .ref (ad 200)), (1, .int minute), (2, .int reach), (3, .int isCell)], [.int 1, .int minute, .ref (ad 200)])) rfl ?_
      refine y_callV hS tq_X12_nextLamp rfl (As := [.int minute, .int 1]) rfl cv_X12_205 hX2.m (m_X12_minuteNow hS hI hX2 minute 1) rfl (by decide) (Nat.le_of_ble_eq_true rfl) (fun r30 Gc30 q30 => ?_) (fun E9 G9 h9 => h9.elim)
      obtain ⟨⟨x30, rfl⟩, eG30⟩ := q30
      have eG30 := eG30.symm
      subst eG30
      refine y_blk 7 tq_X12_nextLamp (z := (44, [(7, .int 0), (6, .int (-1)), (5, .int (-1)), (4, .int x30), (0, .ref (ad 200)), (1, .int minute), (2, .int reach), (3, .int isCell)], [])) rfl ?_
      refine y_less (k2 := 2 * (64 - (Int32.toInt 0).toNat)) (n2 := 13 * (64 - (Int32.toInt 0).toNat)) (by first | decide | omega | (simp only [Nat.mul_eq]; omega) | (rw [e6]; omega) | (simp only [Nat.mul_eq, e6]; omega) | (show (_ : Nat) ≤ _; rw [e6]; omega)) (by first | decide | omega | (simp only [Nat.mul_eq]; omega) | (rw [e6]; omega) | (simp only [Nat.mul_eq, e6]; omega) | (show (_ : Nat) ≤ _; rw [e6]; omega)) ?_
      refine y_pick (L2 := [(0, .ref (ad 200)), (1, .int minute), (2, .int reach), (3, .int isCell), (4, .int x30), (5, .int (-1)), (6, .int (-1)), (7, .int 0)]) [4, 5, 6, 7, 3, 2, 1, 0] rfl ?_
      exact J44 _ x30 (-1) (-1) 0 G2 (rin ρ 0 0) ad hX2 rfl kt2 (rSm.in0 rSm.rfl') (by first | decide | exact yposgeL (by assumption) c51) (by first | exact h6 | exact h6_44) rfl
    · skip
      refine y_blk 2 tq_X12_nextLamp (z := (23, [(0, .ref (ad 200)), (1, .int minute), (2, .int reach), (3, .int isCell)], [.int 1, .ref (ad 200)])) rfl ?_
      refine y_callV hS tq_X12_nextLamp rfl (As := [.int 1]) rfl cv_X12_140 hX2.m (m_X12_no hS hI hX2 1) rfl (by decide) (Nat.le_of_ble_eq_true rfl) (fun r23 Gc23 q23 => ?_) (fun E9 G9 h9 => h9.elim)
      obtain ⟨rfl, hX23, kt23_⟩ := q23
      have kt23 := (kt2).trans kt23_
      refine y_blk 0 tq_X12_nextLamp (z := (26, [(0, .ref (ad 200)), (1, .int minute), (2, .int reach), (3, .int isCell)], [.int 0])) rfl ?_
      exact y_iret tq_X12_nextLamp rfl rfl (⟨⟨_, rfl⟩, ad, _, hX23, rfl, kt23, (rSm.in0 (rSm.in0 rSm.rfl'))⟩)
set_option maxHeartbeats 4000000 in
set_option maxRecDepth 100000 in
theorem m_X12_digest {l : Launch} {S0 : State} {A0 : Array Value} {D : va_G} {aC : Nat → ClassId} {ic : Int32 → Nat} {de : Nat} {ad : Nat → Nat} {G : AH} {ρ : RS} (hS : yS l S0 A0 D aC) (hI : yIc S0 ic de) (hX : atR aC ic de ad G ρ) : yM l S0 D yX12_digest cX12_digest 5 (some .long) 24 163 6799 [.ref (ad 200)] G (fun r G1 => (∃ v : Int64, r = some (.long v)) ∧ ∃ (ad1 : Nat → Nat) (ρ1 : RS), atR aC ic de ad1 G1 ρ1 ∧ ad1 200 = ad 200 ∧ yTg kR G G1 ∧ rSm ρ ρ1) (fun _ _ => False) := by
  refine yM.ofK K_X12_digest rfl (by decide) (Nat.le_of_ble_eq_true rfl) ?_
  have g6 : rZ ρ 212 ≤ 6 := hX.2.2.1.2.2.1
  have g4 : rZ ρ 215 ≤ 4 := hX.2.2.1.2.2.2.2.2.1
  have J286 : ∀ (n286 : Nat) (v286_1 : Int64) (v286_3 : Int32) (G286 : AH) (hX286 : atR aC ic de ad G286 (rin ρ 0 0)) (kt286 : yTg kR G G286) (h0_286 : 0 ≤ v286_3.toInt), (((Int32.ofNat (rZ ρ 216)) : Int32).toInt - v286_3.toInt).toNat = n286 → Y l S0 D K_X12_digest 24 163 6799 (fun r G1 => (∃ v : Int64, r = some (.long v)) ∧ ∃ (ad1 : Nat → Nat) (ρ1 : RS), atR aC ic de ad1 G1 ρ1 ∧ ad1 200 = ad 200 ∧ yTg kR G G1 ∧ rSm ρ ρ1) (fun _ _ => False) 286 [(0, .ref (ad 200)), (1, .long v286_1), (3, .int v286_3)] [] G286 0 0 := by
    intro n286
    induction n286 using Nat.strongRecOn with
    | _ n286 ih286 =>
    intro v286_1 v286_3 G286 hX286 kt286 h0_286 hn286
    subst hn286
    have J302 : ∀ (n302 : Nat) (v302_1 : Int64) (v302_4 : Int32) (G302 : AH) (hX302 : atR aC ic de ad G302 (rin ρ 0 0)) (kt302 : yTg kR G G302) (h0_302 : 0 ≤ v302_4.toInt) (c296 : ¬ ((Int32.ofNat (rZ ρ 216)) : Int32) ≤ v286_3), ((4 : Int32).toInt + 1 - v302_4.toInt).toNat = n302 → Y l S0 D K_X12_digest 24 163 6799 (fun r G1 => (∃ v : Int64, r = some (.long v)) ∧ ∃ (ad1 : Nat → Nat) (ρ1 : RS), atR aC ic de ad1 G1 ρ1 ∧ ad1 200 = ad 200 ∧ yTg kR G G1 ∧ rSm ρ ρ1) (fun _ _ => False) 302 [(0, .ref (ad 200)), (1, .long v302_1), (3, .int v286_3), (4, .int v302_4)] [] G302 0 0 := by
      intro n302
      induction n302 using Nat.strongRecOn with
      | _ n302 ih302 =>
      intro v302_1 v302_4 G302 hX302 kt302 h0_302 c296 hn302
      subst hn302
      have hn296 := hX.2.le10 216 (by decide)
      have b296 : v286_3.toInt < rZ ρ 216 := yIy (by omega) h0_286 c296
      have d296 : Int32.toNatClampNeg v286_3 < rZ ρ 216 := yIx h0_286 b296
      refine y_blk 2 tq_X12_digest (z := (305, [(0, .ref (ad 200)), (1, .long v302_1), (3, .int v286_3), (4, .int v302_4)], [.int 4, .int v302_4])) rfl ?_
      refine y_icmp_gt tq_X12_digest 329 rfl rfl (fun c305 => ?_) (fun c305 => ?_)
      · skip
        refine y_blk 2 tq_X12_digest (z := (286, [(3, .int (v286_3 + 1)), (0, .ref (ad 200)), (1, .long v302_1), (4, .int v302_4)], [])) rfl ?_
        refine y_pick (L2 := [(0, .ref (ad 200)), (1, .long v302_1), (3, .int (v286_3 + 1))]) [1, 2, 0] rfl ?_
        exact ih286 _ (by exact ydec c296) v302_1 (v286_3 + 1) G302 hX302 kt302 (by first | decide | assumption | exact Int.le_refl _ | exact yposgeL (by assumption) c296) rfl
      · skip
        have b305 : v302_4.toInt ≤ 4 := by rw [ylt] at c305; have z9 : (4 : Int32).toInt = 4 := (by decide); omega
        refine y_blk 1 tq_X12_digest (z := (309, [(0, .ref (ad 200)), (1, .long v302_1), (3, .int v286_3), (4, .int v302_4)], [.long v302_1])) rfl ?_
        refine y_ldc2 hS tq_X12_digest rfl ld_X12_332 ?_
        refine y_blk 4 tq_X12_digest (z := (317, [(0, .ref (ad 200)), (1, .long v302_1), (3, .int v286_3), (4, .int v302_4)], [.int v302_4, .int v286_3, .ref (ad 200), .long (v302_1 * (31))])) rfl ?_
        refine y_callV hS tq_X12_digest rfl (As := [.int v286_3, .int v302_4]) rfl cv_X12_277 hX302.m (m_X12_wireNow hS hI hX302 v286_3 v302_4 (by assumption) (by assumption) (by omega)) rfl (by decide) (Nat.le_of_ble_eq_true rfl) (fun r317 Gc317 q317 => ?_) (fun E9 G9 h9 => h9.elim)
        obtain ⟨⟨x317, rfl⟩, eG317⟩ := q317
        have eG317 := eG317.symm
        subst eG317
        refine y_blk 5 tq_X12_digest (z := (302, [(4, .int (v302_4 + 1)), (1, .long ((v302_1 * (31)) + (Int32.toInt64 x317))), (0, .ref (ad 200)), (3, .int v286_3)], [])) rfl ?_
        refine y_pick (L2 := [(0, .ref (ad 200)), (1, .long ((v302_1 * (31)) + (Int32.toInt64 x317))), (3, .int v286_3), (4, .int (v302_4 + 1))]) [2, 1, 3, 0] rfl ?_
        exact ih302 _ (by exact ydec2 c305 (by decide)) ((v302_1 * (31)) + (Int32.toInt64 x317)) (v302_4 + 1) G302 hX302 kt302 (by first | decide | assumption | exact Int.le_refl _ | exact yposgtL (by assumption) c305 (by decide)) (by exact c296) rfl
    refine y_blk 2 tq_X12_digest (z := (288, [(0, .ref (ad 200)), (1, .long v286_1), (3, .int v286_3)], [.ref (ad 200), .int v286_3])) rfl ?_
    refine y_get hS tq_X12_digest (v := .ref (ad 216)) rfl fg_X12_45_X12 hX286.m rfl ?_
    refine y_blk 0 tq_X12_digest (z := (291, [(0, .ref (ad 200)), (1, .long v286_1), (3, .int v286_3)], [.ref (ad 216), .int v286_3])) rfl ?_
    refine y_callF hS tq_X12_digest rfl (As := []) rfl cf_X12_58 (Or.inl ⟨_, (hX286.ls 216 (by decide)).1⟩) (m_Jsize hS (hX286.ls 216 (by decide))) rfl (by decide) (Nat.le_of_ble_eq_true rfl) (fun r291 Gc291 q291 => ?_) (fun _ _ h9 => h9.elim)
    obtain ⟨rfl, eG291⟩ := q291
    have eG291 := eG291.symm
    subst eG291
    refine y_blk 0 tq_X12_digest (z := (296, [(0, .ref (ad 200)), (1, .long v286_1), (3, .int v286_3)], [.int (Int32.ofNat (rZ ((rin ρ 0 0)) 216)), .int v286_3])) rfl ?_
    refine y_icmp_ge tq_X12_digest 335 rfl rfl (fun c296 => ?_) (fun c296 => ?_)
    · skip
      refine y_blk 1 tq_X12_digest (z := (336, [(0, .ref (ad 200)), (1, .long v286_1), (3, .int v286_3)], [.long v286_1])) rfl ?_
      refine y_ldc2 hS tq_X12_digest rfl ld_X12_332 ?_
      refine y_blk 2 tq_X12_digest (z := (341, [(0, .ref (ad 200)), (1, .long v286_1), (3, .int v286_3)], [.ref (ad 200), .long (v286_1 * (31))])) rfl ?_
      refine y_callV hS tq_X12_digest rfl (As := []) rfl cv_X12_326 hX286.m (m_X12_isSoundNow hS hI hX286 ) rfl (by decide) (Nat.le_of_ble_eq_true rfl) (fun r341 Gc341 q341 => ?_) (fun E9 G9 h9 => h9.elim)
      obtain ⟨⟨x341, hb_x341, rfl⟩, eG341⟩ := q341
      have eG341 := eG341.symm
      subst eG341
      refine y_blk 0 tq_X12_digest (z := (344, [(0, .ref (ad 200)), (1, .long v286_1), (3, .int v286_3)], [.int x341, .long (v286_1 * (31))])) rfl ?_
      refine y_if_eq tq_X12_digest 351 rfl rfl (fun c344 => ?_) (fun c344 => ?_)
      · skip
        refine y_blk 3 tq_X12_digest (z := (354, [(0, .ref (ad 200)), (1, .long v286_1), (3, .int v286_3)], [.long ((v286_1 * (31)) + (Int32.toInt64 0))])) rfl ?_
        exact y_lret tq_X12_digest rfl rfl (⟨⟨_, rfl⟩, ad, _, hX286, rfl, kt286, (rSm.in0 rSm.rfl')⟩)
      · skip
        refine y_blk 4 tq_X12_digest (z := (354, [(0, .ref (ad 200)), (1, .long v286_1), (3, .int v286_3)], [.long ((v286_1 * (31)) + (Int32.toInt64 1))])) rfl ?_
        exact y_lret tq_X12_digest rfl rfl (⟨⟨_, rfl⟩, ad, _, hX286, rfl, kt286, (rSm.in0 rSm.rfl')⟩)
    · skip
      have hn296 := hX.2.le10 216 (by decide)
      have b296 : v286_3.toInt < rZ ρ 216 := yIy (by omega) h0_286 c296
      have d296 : Int32.toNatClampNeg v286_3 < rZ ρ 216 := yIx h0_286 b296
      refine y_blk 2 tq_X12_digest (z := (302, [(4, .int 0), (0, .ref (ad 200)), (1, .long v286_1), (3, .int v286_3)], [])) rfl ?_
      refine y_pick (L2 := [(0, .ref (ad 200)), (1, .long v286_1), (3, .int v286_3), (4, .int 0)]) [1, 2, 3, 0] rfl ?_
      exact J302 _ v286_1 0 G286 hX286 kt286 (by first | decide | assumption | exact Int.le_refl _ | exact yposgtL (by assumption) c305 (by decide)) (by exact c296) rfl
  have J234 : ∀ (n234 : Nat) (v234_1 : Int64) (v234_3 : Int32) (G234 : AH) (hX234 : atR aC ic de ad G234 (rin ρ 0 0)) (kt234 : yTg kR G G234) (h0_234 : 0 ≤ v234_3.toInt), (((Int32.ofNat (rZ ρ 215)) : Int32).toInt - v234_3.toInt).toNat = n234 → Y l S0 D K_X12_digest 24 163 6799 (fun r G1 => (∃ v : Int64, r = some (.long v)) ∧ ∃ (ad1 : Nat → Nat) (ρ1 : RS), atR aC ic de ad1 G1 ρ1 ∧ ad1 200 = ad 200 ∧ yTg kR G G1 ∧ rSm ρ ρ1) (fun _ _ => False) 234 [(0, .ref (ad 200)), (1, .long v234_1), (3, .int v234_3)] [] G234 (24 * (4 - (Int32.toInt v234_3).toNat)) (1536 * (4 - (Int32.toInt v234_3).toNat)) := by
    intro n234
    induction n234 using Nat.strongRecOn with
    | _ n234 ih234 =>
    intro v234_1 v234_3 G234 hX234 kt234 h0_234 hn234
    subst hn234
    have J250 : ∀ (n250 : Nat) (v250_1 : Int64) (v250_4 : Int32) (G250 : AH) (hX250 : atR aC ic de ad G250 (rin ρ 0 0)) (kt250 : yTg kR G G250) (h0_250 : 0 ≤ v250_4.toInt) (c244 : ¬ ((Int32.ofNat (rZ ρ 215)) : Int32) ≤ v234_3), ((8 : Int32).toInt + 1 - v250_4.toInt).toNat = n250 → Y l S0 D K_X12_digest 24 163 6799 (fun r G1 => (∃ v : Int64, r = some (.long v)) ∧ ∃ (ad1 : Nat → Nat) (ρ1 : RS), atR aC ic de ad1 G1 ρ1 ∧ ad1 200 = ad 200 ∧ yTg kR G G1 ∧ rSm ρ ρ1) (fun _ _ => False) 250 [(0, .ref (ad 200)), (1, .long v250_1), (3, .int v234_3), (4, .int v250_4)] [] G250 (24 * (3 - (Int32.toInt v234_3).toNat) + 12 * (2 - ((Int32.toInt v250_4).toNat - 5))) (1536 * (3 - (Int32.toInt v234_3).toNat) + 768 * (2 - ((Int32.toInt v250_4).toNat - 5))) := by
      intro n250
      induction n250 using Nat.strongRecOn with
      | _ n250 ih250 =>
      intro v250_1 v250_4 G250 hX250 kt250 h0_250 c244 hn250
      subst hn250
      have hn244 := hX.2.le10 215 (by decide)
      have b244 : v234_3.toInt < rZ ρ 215 := yIy (by omega) h0_234 c244
      have d244 : Int32.toNatClampNeg v234_3 < rZ ρ 215 := yIx h0_234 b244
      refine y_blk 2 tq_X12_digest (z := (254, [(0, .ref (ad 200)), (1, .long v250_1), (3, .int v234_3), (4, .int v250_4)], [.int 8, .int v250_4])) rfl ?_
      refine y_icmp_gt tq_X12_digest 278 rfl rfl (fun c254 => ?_) (fun c254 => ?_)
      · skip
        refine y_blk 2 tq_X12_digest (z := (234, [(3, .int (v234_3 + 1)), (0, .ref (ad 200)), (1, .long v250_1), (4, .int v250_4)], [])) rfl ?_
        have e6 : (v234_3 + 1).toInt = v234_3.toInt + 1 := by rw [yadd (by rw [yl_1]; omega) (by rw [yl_1]; omega), yl_1]
        refine y_less (k2 := 24 * (4 - (Int32.toInt (v234_3 + 1)).toNat)) (n2 := 1536 * (4 - (Int32.toInt (v234_3 + 1)).toNat)) (by first | decide | omega | (simp only [Nat.mul_eq]; omega) | (rw [e6]; omega) | (simp only [Nat.mul_eq, e6]; omega) | (show (_ : Nat) ≤ _; rw [e6]; omega)) (by first | decide | omega | (simp only [Nat.mul_eq]; omega) | (rw [e6]; omega) | (simp only [Nat.mul_eq, e6]; omega) | (show (_ : Nat) ≤ _; rw [e6]; omega)) ?_
        refine y_pick (L2 := [(0, .ref (ad 200)), (1, .long v250_1), (3, .int (v234_3 + 1))]) [1, 2, 0] rfl ?_
        exact ih234 _ (by exact ydec c244) v250_1 (v234_3 + 1) G250 hX250 kt250 (by first | decide | assumption | exact Int.le_refl _ | exact yposgeL (by assumption) c244) rfl
      · skip
        have b254 : v250_4.toInt ≤ 8 := by rw [ylt] at c254; have z9 : (8 : Int32).toInt = 8 := (by decide); omega
        refine y_blk 1 tq_X12_digest (z := (258, [(0, .ref (ad 200)), (1, .long v250_1), (3, .int v234_3), (4, .int v250_4)], [.long v250_1])) rfl ?_
        refine y_ldc2 hS tq_X12_digest rfl ld_X12_332 ?_
        refine y_blk 4 tq_X12_digest (z := (266, [(0, .ref (ad 200)), (1, .long v250_1), (3, .int v234_3), (4, .int v250_4)], [.int v250_4, .int v234_3, .ref (ad 200), .long (v250_1 * (31))])) rfl ?_
        by_cases h5 : v250_4 = 5
        · skip
          have e5 : v250_4.toInt = 5 := by rw [h5]; rfl
          refine y_less (k2 := 24 * (3 - (Int32.toInt v234_3).toNat) + 12 * (1 - ((Int32.toInt v250_4).toNat - 5)) + 12) (n2 := 1536 * (3 - (Int32.toInt v234_3).toNat) + 768 * (1 - ((Int32.toInt v250_4).toNat - 5)) + 768) (by first | omega | (simp only [Nat.mul_eq]; omega)) (by first | omega | (simp only [Nat.mul_eq]; omega)) ?_
          refine y_callV hS tq_X12_digest rfl (As := [.int v234_3, .int v250_4]) rfl cv_X12_271 hX250.m (m_X12_intruderNow hS hI hX250 v234_3 v250_4 (by assumption) (by assumption)) rfl (by decide) (Nat.le_of_ble_eq_true rfl) (fun r266 Gc266 q266 => ?_) (fun E9 G9 h9 => h9.elim)
          obtain ⟨⟨x266, rfl⟩, kt266⟩ := q266
          have hX266 := hX250.kp (kt266.narrow kA_R)
          have ktt266 := (kt250).trans (kt266.narrow kR_A)
          refine y_blk 5 tq_X12_digest (z := (250, [(4, .int (v250_4 + 1)), (1, .long ((v250_1 * (31)) + (Int32.toInt64 x266))), (0, .ref (ad 200)), (3, .int v234_3)], [])) rfl ?_
          have e6 : (v250_4 + 1).toInt = v250_4.toInt + 1 := by rw [yadd (by rw [yl_1]; omega) (by rw [yl_1]; omega), yl_1]
          refine y_less (k2 := 24 * (3 - (Int32.toInt v234_3).toNat) + 12 * (2 - ((Int32.toInt (v250_4 + 1)).toNat - 5))) (n2 := 1536 * (3 - (Int32.toInt v234_3).toNat) + 768 * (2 - ((Int32.toInt (v250_4 + 1)).toNat - 5))) (by first | decide | omega | (simp only [Nat.mul_eq]; omega) | (rw [e6]; omega) | (simp only [Nat.mul_eq, e6]; omega) | (show (_ : Nat) ≤ _; rw [e6]; omega)) (by first | decide | omega | (simp only [Nat.mul_eq]; omega) | (rw [e6]; omega) | (simp only [Nat.mul_eq, e6]; omega) | (show (_ : Nat) ≤ _; rw [e6]; omega)) ?_
          refine y_pick (L2 := [(0, .ref (ad 200)), (1, .long ((v250_1 * (31)) + (Int32.toInt64 x266))), (3, .int v234_3), (4, .int (v250_4 + 1))]) [2, 1, 3, 0] rfl ?_
          exact ih250 _ (by exact ydec2 c254 (by decide)) ((v250_1 * (31)) + (Int32.toInt64 x266)) (v250_4 + 1) Gc266 hX266 ktt266 (by first | decide | assumption | exact Int.le_refl _ | exact yposgtL (by assumption) c254 (by decide)) (by exact c244) rfl
        by_cases h6 : v250_4 = 6
        · skip
          have e5 : v250_4.toInt = 6 := by rw [h6]; rfl
          refine y_less (k2 := 24 * (3 - (Int32.toInt v234_3).toNat) + 12 * (1 - ((Int32.toInt v250_4).toNat - 5)) + 12) (n2 := 1536 * (3 - (Int32.toInt v234_3).toNat) + 768 * (1 - ((Int32.toInt v250_4).toNat - 5)) + 768) (by first | omega | (simp only [Nat.mul_eq]; omega)) (by first | omega | (simp only [Nat.mul_eq]; omega)) ?_
          refine y_callV hS tq_X12_digest rfl (As := [.int v234_3, .int v250_4]) rfl cv_X12_271 hX250.m (m_X12_intruderNow hS hI hX250 v234_3 v250_4 (by assumption) (by assumption)) rfl (by decide) (Nat.le_of_ble_eq_true rfl) (fun r266 Gc266 q266 => ?_) (fun E9 G9 h9 => h9.elim)
          obtain ⟨⟨x266, rfl⟩, kt266⟩ := q266
          have hX266 := hX250.kp (kt266.narrow kA_R)
          have ktt266 := (kt250).trans (kt266.narrow kR_A)
          refine y_blk 5 tq_X12_digest (z := (250, [(4, .int (v250_4 + 1)), (1, .long ((v250_1 * (31)) + (Int32.toInt64 x266))), (0, .ref (ad 200)), (3, .int v234_3)], [])) rfl ?_
          have e6 : (v250_4 + 1).toInt = v250_4.toInt + 1 := by rw [yadd (by rw [yl_1]; omega) (by rw [yl_1]; omega), yl_1]
          refine y_less (k2 := 24 * (3 - (Int32.toInt v234_3).toNat) + 12 * (2 - ((Int32.toInt (v250_4 + 1)).toNat - 5))) (n2 := 1536 * (3 - (Int32.toInt v234_3).toNat) + 768 * (2 - ((Int32.toInt (v250_4 + 1)).toNat - 5))) (by first | decide | omega | (simp only [Nat.mul_eq]; omega) | (rw [e6]; omega) | (simp only [Nat.mul_eq, e6]; omega) | (show (_ : Nat) ≤ _; rw [e6]; omega)) (by first | decide | omega | (simp only [Nat.mul_eq]; omega) | (rw [e6]; omega) | (simp only [Nat.mul_eq, e6]; omega) | (show (_ : Nat) ≤ _; rw [e6]; omega)) ?_
          refine y_pick (L2 := [(0, .ref (ad 200)), (1, .long ((v250_1 * (31)) + (Int32.toInt64 x266))), (3, .int v234_3), (4, .int (v250_4 + 1))]) [2, 1, 3, 0] rfl ?_
          exact ih250 _ (by exact ydec2 c254 (by decide)) ((v250_1 * (31)) + (Int32.toInt64 x266)) (v250_4 + 1) Gc266 hX266 ktt266 (by first | decide | assumption | exact Int.le_refl _ | exact yposgtL (by assumption) c254 (by decide)) (by exact c244) rfl
        refine y_less (k2 := (24 * (3 - (Int32.toInt v234_3).toNat) + 12 * (2 - ((Int32.toInt v250_4).toNat - 5))) + 0) (n2 := (1536 * (3 - (Int32.toInt v234_3).toNat) + 768 * (2 - ((Int32.toInt v250_4).toNat - 5))) + 0) (Nat.le_refl _) (Nat.le_refl _) ?_
        refine y_callV hS tq_X12_digest rfl (As := [.int v234_3, .int v250_4]) rfl cv_X12_271 hX250.m (m_X12_intruderNow_n hS hI hX250 v234_3 v250_4 (by assumption) (by assumption) (by assumption) (by assumption)) rfl (by decide) (Nat.le_of_ble_eq_true rfl) (fun r266 Gc266 q266 => ?_) (fun E9 G9 h9 => h9.elim)
        obtain ⟨⟨x266, rfl⟩, eG266⟩ := q266
        have eG266 := eG266.symm
        subst eG266
        refine y_blk 5 tq_X12_digest (z := (250, [(4, .int (v250_4 + 1)), (1, .long ((v250_1 * (31)) + (Int32.toInt64 x266))), (0, .ref (ad 200)), (3, .int v234_3)], [])) rfl ?_
        have e6 : (v250_4 + 1).toInt = v250_4.toInt + 1 := by rw [yadd (by rw [yl_1]; omega) (by rw [yl_1]; omega), yl_1]
        refine y_less (k2 := 24 * (3 - (Int32.toInt v234_3).toNat) + 12 * (2 - ((Int32.toInt (v250_4 + 1)).toNat - 5))) (n2 := 1536 * (3 - (Int32.toInt v234_3).toNat) + 768 * (2 - ((Int32.toInt (v250_4 + 1)).toNat - 5))) (by first | decide | omega | (simp only [Nat.mul_eq]; omega) | (rw [e6]; omega) | (simp only [Nat.mul_eq, e6]; omega) | (show (_ : Nat) ≤ _; rw [e6]; omega)) (by first | decide | omega | (simp only [Nat.mul_eq]; omega) | (rw [e6]; omega) | (simp only [Nat.mul_eq, e6]; omega) | (show (_ : Nat) ≤ _; rw [e6]; omega)) ?_
        refine y_pick (L2 := [(0, .ref (ad 200)), (1, .long ((v250_1 * (31)) + (Int32.toInt64 x266))), (3, .int v234_3), (4, .int (v250_4 + 1))]) [2, 1, 3, 0] rfl ?_
        exact ih250 _ (by exact ydec2 c254 (by decide)) ((v250_1 * (31)) + (Int32.toInt64 x266)) (v250_4 + 1) G250 hX250 kt250 (by first | decide | assumption | exact Int.le_refl _ | exact yposgtL (by assumption) c254 (by decide)) (by exact c244) rfl
    refine y_blk 2 tq_X12_digest (z := (236, [(0, .ref (ad 200)), (1, .long v234_1), (3, .int v234_3)], [.ref (ad 200), .int v234_3])) rfl ?_
    refine y_get hS tq_X12_digest (v := .ref (ad 215)) rfl fg_X12_42_X12 hX234.m rfl ?_
    refine y_blk 0 tq_X12_digest (z := (239, [(0, .ref (ad 200)), (1, .long v234_1), (3, .int v234_3)], [.ref (ad 215), .int v234_3])) rfl ?_
    refine y_callF hS tq_X12_digest rfl (As := []) rfl cf_X12_58 (Or.inl ⟨_, (hX234.ls 215 (by decide)).1⟩) (m_Jsize hS (hX234.ls 215 (by decide))) rfl (by decide) (Nat.le_of_ble_eq_true rfl) (fun r239 Gc239 q239 => ?_) (fun _ _ h9 => h9.elim)
    obtain ⟨rfl, eG239⟩ := q239
    have eG239 := eG239.symm
    subst eG239
    refine y_blk 0 tq_X12_digest (z := (244, [(0, .ref (ad 200)), (1, .long v234_1), (3, .int v234_3)], [.int (Int32.ofNat (rZ ((rin ρ 0 0)) 215)), .int v234_3])) rfl ?_
    refine y_icmp_ge tq_X12_digest 284 rfl rfl (fun c244 => ?_) (fun c244 => ?_)
    · skip
      refine y_blk 2 tq_X12_digest (z := (286, [(3, .int 0), (0, .ref (ad 200)), (1, .long v234_1)], [])) rfl ?_
      refine y_less (k2 := 0) (n2 := 0) (Nat.zero_le _) (Nat.zero_le _) ?_
      refine y_pick (L2 := [(0, .ref (ad 200)), (1, .long v234_1), (3, .int 0)]) [1, 2, 0] rfl ?_
      exact J286 _ v234_1 0 G234 hX234 kt234 (by first | decide | assumption | exact Int.le_refl _ | exact yposgeL (by assumption) c296) rfl
    · skip
      have hn244 := hX.2.le10 215 (by decide)
      have b244 : v234_3.toInt < rZ ρ 215 := yIy (by omega) h0_234 c244
      have d244 : Int32.toNatClampNeg v234_3 < rZ ρ 215 := yIx h0_234 b244
      refine y_blk 2 tq_X12_digest (z := (250, [(4, .int 0), (0, .ref (ad 200)), (1, .long v234_1), (3, .int v234_3)], [])) rfl ?_
      refine y_less (k2 := 24 * (3 - (Int32.toInt v234_3).toNat) + 12 * (2 - ((Int32.toInt 0).toNat - 5))) (n2 := 1536 * (3 - (Int32.toInt v234_3).toNat) + 768 * (2 - ((Int32.toInt 0).toNat - 5))) (by first | decide | omega | (simp only [Nat.mul_eq]; omega) | (rw [e6]; omega) | (simp only [Nat.mul_eq, e6]; omega) | (show (_ : Nat) ≤ _; rw [e6]; omega)) (by first | decide | omega | (simp only [Nat.mul_eq]; omega) | (rw [e6]; omega) | (simp only [Nat.mul_eq, e6]; omega) | (show (_ : Nat) ≤ _; rw [e6]; omega)) ?_
      refine y_pick (L2 := [(0, .ref (ad 200)), (1, .long v234_1), (3, .int v234_3), (4, .int 0)]) [1, 2, 3, 0] rfl ?_
      exact J250 _ v234_1 0 G234 hX234 kt234 (by first | decide | assumption | exact Int.le_refl _ | exact yposgtL (by assumption) c254 (by decide)) (by exact c244) rfl
  have J185 : ∀ (n185 : Nat) (v185_1 : Int64) (v185_3 : Int32) (G185 : AH) (hX185 : atR aC ic de ad G185 (rin ρ 0 0)) (kt185 : yTg kR G G185) (h0_185 : 0 ≤ v185_3.toInt), (((Int32.ofNat (rZ ρ 213)) : Int32).toInt - v185_3.toInt).toNat = n185 → Y l S0 D K_X12_digest 24 163 6799 (fun r G1 => (∃ v : Int64, r = some (.long v)) ∧ ∃ (ad1 : Nat → Nat) (ρ1 : RS), atR aC ic de ad1 G1 ρ1 ∧ ad1 200 = ad 200 ∧ yTg kR G G1 ∧ rSm ρ ρ1) (fun _ _ => False) 185 [(0, .ref (ad 200)), (1, .long v185_1), (3, .int v185_3)] [] G185 96 6144 := by
    intro n185
    induction n185 using Nat.strongRecOn with
    | _ n185 ih185 =>
    intro v185_1 v185_3 G185 hX185 kt185 h0_185 hn185
    subst hn185
    refine y_blk 2 tq_X12_digest (z := (187, [(0, .ref (ad 200)), (1, .long v185_1), (3, .int v185_3)], [.ref (ad 200), .int v185_3])) rfl ?_
    refine y_get hS tq_X12_digest (v := .ref (ad 213)) rfl fg_X12_30_X12 hX185.m rfl ?_
    refine y_blk 0 tq_X12_digest (z := (190, [(0, .ref (ad 200)), (1, .long v185_1), (3, .int v185_3)], [.ref (ad 213), .int v185_3])) rfl ?_
    refine y_callF hS tq_X12_digest rfl (As := []) rfl cf_X12_58 (Or.inl ⟨_, (hX185.ls 213 (by decide)).1⟩) (m_Jsize hS (hX185.ls 213 (by decide))) rfl (by decide) (Nat.le_of_ble_eq_true rfl) (fun r190 Gc190 q190 => ?_) (fun _ _ h9 => h9.elim)
    obtain ⟨rfl, eG190⟩ := q190
    have eG190 := eG190.symm
    subst eG190
    refine y_blk 0 tq_X12_digest (z := (195, [(0, .ref (ad 200)), (1, .long v185_1), (3, .int v185_3)], [.int (Int32.ofNat (rZ ((rin ρ 0 0)) 213)), .int v185_3])) rfl ?_
    refine y_icmp_ge tq_X12_digest 232 rfl rfl (fun c195 => ?_) (fun c195 => ?_)
    · skip
      refine y_blk 2 tq_X12_digest (z := (234, [(3, .int 0), (0, .ref (ad 200)), (1, .long v185_1)], [])) rfl ?_
      refine y_less (k2 := 24 * (4 - (Int32.toInt 0).toNat)) (n2 := 1536 * (4 - (Int32.toInt 0).toNat)) (by first | decide | omega | (simp only [Nat.mul_eq]; omega) | (rw [e6]; omega) | (simp only [Nat.mul_eq, e6]; omega) | (show (_ : Nat) ≤ _; rw [e6]; omega)) (by first | decide | omega | (simp only [Nat.mul_eq]; omega) | (rw [e6]; omega) | (simp only [Nat.mul_eq, e6]; omega) | (show (_ : Nat) ≤ _; rw [e6]; omega)) ?_
      refine y_pick (L2 := [(0, .ref (ad 200)), (1, .long v185_1), (3, .int 0)]) [1, 2, 0] rfl ?_
      exact J234 _ v185_1 0 G185 hX185 kt185 (by first | decide | assumption | exact Int.le_refl _ | exact yposgeL (by assumption) c244) rfl
    · skip
      have hn195 := hX.2.le10 213 (by decide)
      have b195 : v185_3.toInt < rZ ρ 213 := yIy (by omega) h0_185 c195
      have d195 : Int32.toNatClampNeg v185_3 < rZ ρ 213 := yIx h0_185 b195
      refine y_blk 1 tq_X12_digest (z := (199, [(0, .ref (ad 200)), (1, .long v185_1), (3, .int v185_3)], [.long v185_1])) rfl ?_
      refine y_ldc2 hS tq_X12_digest rfl ld_X12_332 ?_
      refine y_blk 4 tq_X12_digest (z := (206, [(0, .ref (ad 200)), (1, .long v185_1), (3, .int v185_3)], [.int 1, .int v185_3, .ref (ad 200), .long (v185_1 * (31))])) rfl ?_
      refine y_callV hS tq_X12_digest rfl (As := [.int v185_3, .int 1]) rfl cv_X12_208 hX185.m (m_X12_emptyNow hS hI hX185 v185_3 1 (by assumption) (by assumption)) rfl (by decide) (Nat.le_of_ble_eq_true rfl) (fun r206 Gc206 q206 => ?_) (fun E9 G9 h9 => h9.elim)
      obtain ⟨⟨x206, rfl⟩, eG206⟩ := q206
      have eG206 := eG206.symm
      subst eG206
      refine y_blk 4 tq_X12_digest (z := (213, [(1, .long ((v185_1 * (31)) + (Int32.toInt64 x206))), (0, .ref (ad 200)), (3, .int v185_3)], [.long ((v185_1 * (31)) + (Int32.toInt64 x206))])) rfl ?_
      refine y_ldc2 hS tq_X12_digest rfl ld_X12_332 ?_
      refine y_blk 4 tq_X12_digest (z := (220, [(1, .long ((v185_1 * (31)) + (Int32.toInt64 x206))), (0, .ref (ad 200)), (3, .int v185_3)], [.int 0, .int v185_3, .ref (ad 200), .long (((v185_1 * (31)) + (Int32.toInt64 x206)) * (31))])) rfl ?_
      refine y_callV hS tq_X12_digest rfl (As := [.int v185_3, .int 0]) rfl cv_X12_208 hX185.m (m_X12_emptyNow hS hI hX185 v185_3 0 (by assumption) (by assumption)) rfl (by decide) (Nat.le_of_ble_eq_true rfl) (fun r220 Gc220 q220 => ?_) (fun E9 G9 h9 => h9.elim)
      obtain ⟨⟨x220, rfl⟩, eG220⟩ := q220
      have eG220 := eG220.symm
      subst eG220
      refine y_blk 5 tq_X12_digest (z := (185, [(3, .int (v185_3 + 1)), (1, .long ((((v185_1 * (31)) + (Int32.toInt64 x206)) * (31)) + (Int32.toInt64 x220))), (0, .ref (ad 200))], [])) rfl ?_
      refine y_pick (L2 := [(0, .ref (ad 200)), (1, .long ((((v185_1 * (31)) + (Int32.toInt64 x206)) * (31)) + (Int32.toInt64 x220))), (3, .int (v185_3 + 1))]) [2, 1, 0] rfl ?_
      exact ih185 _ (by exact ydec c195) ((((v185_1 * (31)) + (Int32.toInt64 x206)) * (31)) + (Int32.toInt64 x220)) (v185_3 + 1) G185 hX185 kt185 (by first | decide | assumption | exact Int.le_refl _ | exact yposgeL (by assumption) c195) rfl
  have J133 : ∀ (n133 : Nat) (v133_1 : Int64) (v133_3 : Int32) (G133 : AH) (hX133 : atR aC ic de ad G133 (rin ρ 0 0)) (kt133 : yTg kR G G133) (h0_133 : 0 ≤ v133_3.toInt), (((Int32.ofNat (rZ ρ 212)) : Int32).toInt - v133_3.toInt).toNat = n133 → Y l S0 D K_X12_digest 24 163 6799 (fun r G1 => (∃ v : Int64, r = some (.long v)) ∧ ∃ (ad1 : Nat → Nat) (ρ1 : RS), atR aC ic de ad1 G1 ρ1 ∧ ad1 200 = ad 200 ∧ yTg kR G G1 ∧ rSm ρ ρ1) (fun _ _ => False) 133 [(0, .ref (ad 200)), (1, .long v133_1), (3, .int v133_3)] [] G133 (9 * (6 - (Int32.toInt v133_3).toNat) + 96) (81 * (6 - (Int32.toInt v133_3).toNat) + 6144) := by
    intro n133
    induction n133 using Nat.strongRecOn with
    | _ n133 ih133 =>
    intro v133_1 v133_3 G133 hX133 kt133 h0_133 hn133
    subst hn133
    have J149 : ∀ (n149 : Nat) (v149_1 : Int64) (v149_4 : Int32) (G149 : AH) (hX149 : atR aC ic de ad G149 (rin ρ 0 0)) (kt149 : yTg kR G G149) (h0_149 : 0 ≤ v149_4.toInt) (c143 : ¬ ((Int32.ofNat (rZ ρ 212)) : Int32) ≤ v133_3), ((8 : Int32).toInt + 1 - v149_4.toInt).toNat = n149 → Y l S0 D K_X12_digest 24 163 6799 (fun r G1 => (∃ v : Int64, r = some (.long v)) ∧ ∃ (ad1 : Nat → Nat) (ρ1 : RS), atR aC ic de ad1 G1 ρ1 ∧ ad1 200 = ad 200 ∧ yTg kR G G1 ∧ rSm ρ ρ1) (fun _ _ => False) 149 [(0, .ref (ad 200)), (1, .long v149_1), (3, .int v133_3), (4, .int v149_4)] [] G149 (9 * (5 - (Int32.toInt v133_3).toNat) + (9 - (Int32.toInt v149_4).toNat) + 96) (81 * (5 - (Int32.toInt v133_3).toNat) + 9 * (9 - (Int32.toInt v149_4).toNat) + 6144) := by
      intro n149
      induction n149 using Nat.strongRecOn with
      | _ n149 ih149 =>
      intro v149_1 v149_4 G149 hX149 kt149 h0_149 c143 hn149
      subst hn149
      have hn143 := hX.2.le10 212 (by decide)
      have b143 : v133_3.toInt < rZ ρ 212 := yIy (by omega) h0_133 c143
      have d143 : Int32.toNatClampNeg v133_3 < rZ ρ 212 := yIx h0_133 b143
      refine y_blk 2 tq_X12_digest (z := (153, [(0, .ref (ad 200)), (1, .long v149_1), (3, .int v133_3), (4, .int v149_4)], [.int 8, .int v149_4])) rfl ?_
      refine y_icmp_gt tq_X12_digest 177 rfl rfl (fun c153 => ?_) (fun c153 => ?_)
      · skip
        refine y_blk 2 tq_X12_digest (z := (133, [(3, .int (v133_3 + 1)), (0, .ref (ad 200)), (1, .long v149_1), (4, .int v149_4)], [])) rfl ?_
        have e6 : (v133_3 + 1).toInt = v133_3.toInt + 1 := by rw [yadd (by rw [yl_1]; omega) (by rw [yl_1]; omega), yl_1]
        refine y_less (k2 := 9 * (6 - (Int32.toInt (v133_3 + 1)).toNat) + 96) (n2 := 81 * (6 - (Int32.toInt (v133_3 + 1)).toNat) + 6144) (by first | decide | omega | (simp only [Nat.mul_eq]; omega) | (rw [e6]; omega) | (simp only [Nat.mul_eq, e6]; omega) | (show (_ : Nat) ≤ _; rw [e6]; omega)) (by first | decide | omega | (simp only [Nat.mul_eq]; omega) | (rw [e6]; omega) | (simp only [Nat.mul_eq, e6]; omega) | (show (_ : Nat) ≤ _; rw [e6]; omega)) ?_
        refine y_pick (L2 := [(0, .ref (ad 200)), (1, .long v149_1), (3, .int (v133_3 + 1))]) [1, 2, 0] rfl ?_
        exact ih133 _ (by exact ydec c143) v149_1 (v133_3 + 1) G149 hX149 kt149 (by first | decide | assumption | exact Int.le_refl _ | exact yposgeL (by assumption) c143) rfl
      · skip
        have b153 : v149_4.toInt ≤ 8 := by rw [ylt] at c153; have z9 : (8 : Int32).toInt = 8 := (by decide); omega
        refine y_blk 1 tq_X12_digest (z := (157, [(0, .ref (ad 200)), (1, .long v149_1), (3, .int v133_3), (4, .int v149_4)], [.long v149_1])) rfl ?_
        refine y_ldc2 hS tq_X12_digest rfl ld_X12_332 ?_
        refine y_blk 4 tq_X12_digest (z := (165, [(0, .ref (ad 200)), (1, .long v149_1), (3, .int v133_3), (4, .int v149_4)], [.int v149_4, .int v133_3, .ref (ad 200), .long (v149_1 * (31))])) rfl ?_
        refine y_less (k2 := 9 * (5 - (Int32.toInt v133_3).toNat) + (8 - (Int32.toInt v149_4).toNat) + 96 + 1) (n2 := 81 * (5 - (Int32.toInt v133_3).toNat) + 9 * (8 - (Int32.toInt v149_4).toNat) + 6144 + 9) (by first | omega | (simp only [Nat.mul_eq]; omega)) (by first | omega | (simp only [Nat.mul_eq]; omega)) ?_
        refine y_callV hS tq_X12_digest rfl (As := [.int v133_3, .int v149_4]) rfl cv_X12_225 hX149.m (m_X12_guardNow hS hI hX149 v133_3 v149_4 (by assumption) (by assumption) (by omega) (by omega)) rfl (by decide) (Nat.le_of_ble_eq_true rfl) (fun r165 Gc165 q165 => ?_) (fun E9 G9 h9 => h9.elim)
        obtain ⟨⟨x165, rfl⟩, kt165⟩ := q165
        have hX165 := hX149.kp (kt165.narrow kA_R)
        have ktt165 := (kt149).trans (kt165.narrow kR_A)
        refine y_blk 5 tq_X12_digest (z := (149, [(4, .int (v149_4 + 1)), (1, .long ((v149_1 * (31)) + (Int32.toInt64 x165))), (0, .ref (ad 200)), (3, .int v133_3)], [])) rfl ?_
        have e6 : (v149_4 + 1).toInt = v149_4.toInt + 1 := by rw [yadd (by rw [yl_1]; omega) (by rw [yl_1]; omega), yl_1]
        refine y_less (k2 := 9 * (5 - (Int32.toInt v133_3).toNat) + (9 - (Int32.toInt (v149_4 + 1)).toNat) + 96) (n2 := 81 * (5 - (Int32.toInt v133_3).toNat) + 9 * (9 - (Int32.toInt (v149_4 + 1)).toNat) + 6144) (by first | decide | omega | (simp only [Nat.mul_eq]; omega) | (rw [e6]; omega) | (simp only [Nat.mul_eq, e6]; omega) | (show (_ : Nat) ≤ _; rw [e6]; omega)) (by first | decide | omega | (simp only [Nat.mul_eq]; omega) | (rw [e6]; omega) | (simp only [Nat.mul_eq, e6]; omega) | (show (_ : Nat) ≤ _; rw [e6]; omega)) ?_
        refine y_pick (L2 := [(0, .ref (ad 200)), (1, .long ((v149_1 * (31)) + (Int32.toInt64 x165))), (3, .int v133_3), (4, .int (v149_4 + 1))]) [2, 1, 3, 0] rfl ?_
        exact ih149 _ (by exact ydec2 c153 (by decide)) ((v149_1 * (31)) + (Int32.toInt64 x165)) (v149_4 + 1) Gc165 hX165 ktt165 (by first | decide | assumption | exact Int.le_refl _ | exact yposgtL (by assumption) c153 (by decide)) (by exact c143) rfl
    refine y_blk 2 tq_X12_digest (z := (135, [(0, .ref (ad 200)), (1, .long v133_1), (3, .int v133_3)], [.ref (ad 200), .int v133_3])) rfl ?_
    refine y_get hS tq_X12_digest (v := .ref (ad 212)) rfl fg_X12_27_X12 hX133.m rfl ?_
    refine y_blk 0 tq_X12_digest (z := (138, [(0, .ref (ad 200)), (1, .long v133_1), (3, .int v133_3)], [.ref (ad 212), .int v133_3])) rfl ?_
    refine y_less (k2 := (9 * (6 - (Int32.toInt v133_3).toNat) + 96) + 0) (n2 := (81 * (6 - (Int32.toInt v133_3).toNat) + 6144) + 0) (Nat.le_refl _) (Nat.le_refl _) ?_
    refine y_callF hS tq_X12_digest rfl (As := []) rfl cf_X12_58 (Or.inl ⟨_, (hX133.ls 212 (by decide)).1⟩) (m_Jsize hS (hX133.ls 212 (by decide))) rfl (by decide) (Nat.le_of_ble_eq_true rfl) (fun r138 Gc138 q138 => ?_) (fun _ _ h9 => h9.elim)
    obtain ⟨rfl, eG138⟩ := q138
    have eG138 := eG138.symm
    subst eG138
    refine y_blk 0 tq_X12_digest (z := (143, [(0, .ref (ad 200)), (1, .long v133_1), (3, .int v133_3)], [.int (Int32.ofNat (rZ ((rin ρ 0 0)) 212)), .int v133_3])) rfl ?_
    refine y_icmp_ge tq_X12_digest 183 rfl rfl (fun c143 => ?_) (fun c143 => ?_)
    · skip
      refine y_blk 2 tq_X12_digest (z := (185, [(3, .int 0), (0, .ref (ad 200)), (1, .long v133_1)], [])) rfl ?_
      refine y_less (k2 := 96) (n2 := 6144) (by first | decide | omega | (simp only [Nat.mul_eq]; omega) | (rw [e6]; omega) | (simp only [Nat.mul_eq, e6]; omega) | (show (_ : Nat) ≤ _; rw [e6]; omega)) (by first | decide | omega | (simp only [Nat.mul_eq]; omega) | (rw [e6]; omega) | (simp only [Nat.mul_eq, e6]; omega) | (show (_ : Nat) ≤ _; rw [e6]; omega)) ?_
      refine y_pick (L2 := [(0, .ref (ad 200)), (1, .long v133_1), (3, .int 0)]) [1, 2, 0] rfl ?_
      exact J185 _ v133_1 0 G133 hX133 kt133 (by first | decide | assumption | exact Int.le_refl _ | exact yposgeL (by assumption) c195) rfl
    · skip
      have hn143 := hX.2.le10 212 (by decide)
      have b143 : v133_3.toInt < rZ ρ 212 := yIy (by omega) h0_133 c143
      have d143 : Int32.toNatClampNeg v133_3 < rZ ρ 212 := yIx h0_133 b143
      refine y_blk 2 tq_X12_digest (z := (149, [(4, .int 0), (0, .ref (ad 200)), (1, .long v133_1), (3, .int v133_3)], [])) rfl ?_
      refine y_less (k2 := 9 * (5 - (Int32.toInt v133_3).toNat) + (9 - (Int32.toInt 0).toNat) + 96) (n2 := 81 * (5 - (Int32.toInt v133_3).toNat) + 9 * (9 - (Int32.toInt 0).toNat) + 6144) (by first | decide | omega | (simp only [Nat.mul_eq]; omega) | (rw [e6]; omega) | (simp only [Nat.mul_eq, e6]; omega) | (show (_ : Nat) ≤ _; rw [e6]; omega)) (by first | decide | omega | (simp only [Nat.mul_eq]; omega) | (rw [e6]; omega) | (simp only [Nat.mul_eq, e6]; omega) | (show (_ : Nat) ≤ _; rw [e6]; omega)) ?_
      refine y_pick (L2 := [(0, .ref (ad 200)), (1, .long v133_1), (3, .int v133_3), (4, .int 0)]) [1, 2, 3, 0] rfl ?_
      exact J149 _ v133_1 0 G133 hX133 kt133 (by first | decide | assumption | exact Int.le_refl _ | exact yposgtL (by assumption) c153 (by decide)) (by exact c143) rfl
  have J84 : ∀ (n84 : Nat) (v84_1 : Int64) (v84_3 : Int32) (G84 : AH) (hX84 : atR aC ic de ad G84 (rin ρ 0 0)) (kt84 : yTg kR G G84) (h0_84 : 0 ≤ v84_3.toInt), (((Int32.ofNat (rZ ρ 201)) : Int32).toInt - v84_3.toInt).toNat = n84 → Y l S0 D K_X12_digest 24 163 6799 (fun r G1 => (∃ v : Int64, r = some (.long v)) ∧ ∃ (ad1 : Nat → Nat) (ρ1 : RS), atR aC ic de ad1 G1 ρ1 ∧ ad1 200 = ad 200 ∧ yTg kR G G1 ∧ rSm ρ ρ1) (fun _ _ => False) 84 [(0, .ref (ad 200)), (1, .long v84_1), (3, .int v84_3)] [] G84 150 6630 := by
    intro n84
    induction n84 using Nat.strongRecOn with
    | _ n84 ih84 =>
    intro v84_1 v84_3 G84 hX84 kt84 h0_84 hn84
    subst hn84
    have J96 : ∀ (n96 : Nat) (v96_1 : Int64) (v96_4 : Int32) (G96 : AH) (hX96 : atR aC ic de ad G96 (rin ρ 0 0)) (kt96 : yTg kR G G96) (h0_96 : 0 ≤ v96_4.toInt) (c90 : ¬ ((Int32.ofNat (rZ ρ 201)) : Int32) ≤ v84_3), ((4 : Int32).toInt + 1 - v96_4.toInt).toNat = n96 → Y l S0 D K_X12_digest 24 163 6799 (fun r G1 => (∃ v : Int64, r = some (.long v)) ∧ ∃ (ad1 : Nat → Nat) (ρ1 : RS), atR aC ic de ad1 G1 ρ1 ∧ ad1 200 = ad 200 ∧ yTg kR G G1 ∧ rSm ρ ρ1) (fun _ _ => False) 96 [(0, .ref (ad 200)), (1, .long v96_1), (3, .int v84_3), (4, .int v96_4)] [] G96 150 6630 := by
      intro n96
      induction n96 using Nat.strongRecOn with
      | _ n96 ih96 =>
      intro v96_1 v96_4 G96 hX96 kt96 h0_96 c90 hn96
      subst hn96
      have hn90 := hX.2.n64
      have b90 : v84_3.toInt < rZ ρ 201 := yIy (by omega) h0_84 c90
      have d90 : Int32.toNatClampNeg v84_3 < rZ ρ 201 := yIx h0_84 b90
      have e90 : rcell ρ v84_3 := ⟨h0_84, b90⟩
      refine y_blk 2 tq_X12_digest (z := (99, [(0, .ref (ad 200)), (1, .long v96_1), (3, .int v84_3), (4, .int v96_4)], [.int 4, .int v96_4])) rfl ?_
      refine y_icmp_gt tq_X12_digest 125 rfl rfl (fun c99 => ?_) (fun c99 => ?_)
      · skip
        refine y_blk 2 tq_X12_digest (z := (84, [(3, .int (v84_3 + 1)), (0, .ref (ad 200)), (1, .long v96_1), (4, .int v96_4)], [])) rfl ?_
        refine y_pick (L2 := [(0, .ref (ad 200)), (1, .long v96_1), (3, .int (v84_3 + 1))]) [1, 2, 0] rfl ?_
        exact ih84 _ (by exact ydec c90) v96_1 (v84_3 + 1) G96 hX96 kt96 (by first | decide | assumption | exact Int.le_refl _ | exact yposgeL (by assumption) c90) rfl
      · skip
        have b99 : v96_4.toInt ≤ 4 := by rw [ylt] at c99; have z9 : (4 : Int32).toInt = 4 := (by decide); omega
        refine y_blk 1 tq_X12_digest (z := (103, [(0, .ref (ad 200)), (1, .long v96_1), (3, .int v84_3), (4, .int v96_4)], [.long v96_1])) rfl ?_
        refine y_ldc2 hS tq_X12_digest rfl ld_X12_332 ?_
        refine y_blk 5 tq_X12_digest (z := (113, [(0, .ref (ad 200)), (1, .long v96_1), (3, .int v84_3), (4, .int v96_4)], [.int v96_4, .int 120, .int v84_3, .ref (ad 200), .long (v96_1 * (31))])) rfl ?_
        refine y_callV hS tq_X12_digest rfl (As := [.int v84_3, .int 120, .int v96_4]) rfl cv_X12_195 hX96.m (m_X12_cellNow hS hI hX96 v84_3 120 v96_4 (by first | (with_reducible assumption) | (with_reducible exact hX96.lac (by assumption)) | (with_reducible exact hX96.poc (by assumption)) | (with_reducible exact hX96.wac (by assumption) (by assumption) (by omega)) | assumption | exact hX96.lac (by assumption) | exact hX96.poc (by assumption) | exact hX96.wac (by assumption) (by assumption) (by omega))) rfl (by decide) (Nat.le_of_ble_eq_true rfl) (fun r113 Gc113 q113 => ?_) (fun E9 G9 h9 => h9.elim)
        obtain ⟨⟨x113, rfl⟩, eG113⟩ := q113
        have eG113 := eG113.symm
        subst eG113
        refine y_blk 5 tq_X12_digest (z := (96, [(4, .int (v96_4 + 1)), (1, .long ((v96_1 * (31)) + (Int32.toInt64 x113))), (0, .ref (ad 200)), (3, .int v84_3)], [])) rfl ?_
        refine y_pick (L2 := [(0, .ref (ad 200)), (1, .long ((v96_1 * (31)) + (Int32.toInt64 x113))), (3, .int v84_3), (4, .int (v96_4 + 1))]) [2, 1, 3, 0] rfl ?_
        exact ih96 _ (by exact ydec2 c99 (by decide)) ((v96_1 * (31)) + (Int32.toInt64 x113)) (v96_4 + 1) G96 hX96 kt96 (by first | decide | assumption | exact Int.le_refl _ | exact yposgtL (by assumption) c99 (by decide)) (by exact c90) rfl
    refine y_blk 2 tq_X12_digest (z := (86, [(0, .ref (ad 200)), (1, .long v84_1), (3, .int v84_3)], [.ref (ad 200), .int v84_3])) rfl ?_
    refine y_get hS tq_X12_digest (v := .ref (ad 201)) rfl fg_X12_7_X12 hX84.m rfl ?_
    refine y_blk 0 tq_X12_digest (z := (89, [(0, .ref (ad 200)), (1, .long v84_1), (3, .int v84_3)], [.ref (ad 201), .int v84_3])) rfl ?_
    refine y_alen hS tq_X12_digest 0 rfl rfl hX84.ki ?_
    refine y_blk 0 tq_X12_digest (z := (90, [(0, .ref (ad 200)), (1, .long v84_1), (3, .int v84_3)], [.int (Int32.ofNat (rZ ((rin ρ 0 0)) 201)), .int v84_3])) rfl ?_
    refine y_icmp_ge tq_X12_digest 131 rfl rfl (fun c90 => ?_) (fun c90 => ?_)
    · skip
      refine y_blk 2 tq_X12_digest (z := (133, [(3, .int 0), (0, .ref (ad 200)), (1, .long v84_1)], [])) rfl ?_
      refine y_less (k2 := 9 * (6 - (Int32.toInt 0).toNat) + 96) (n2 := 81 * (6 - (Int32.toInt 0).toNat) + 6144) (by first | decide | omega | (simp only [Nat.mul_eq]; omega) | (rw [e6]; omega) | (simp only [Nat.mul_eq, e6]; omega) | (show (_ : Nat) ≤ _; rw [e6]; omega)) (by first | decide | omega | (simp only [Nat.mul_eq]; omega) | (rw [e6]; omega) | (simp only [Nat.mul_eq, e6]; omega) | (show (_ : Nat) ≤ _; rw [e6]; omega)) ?_
      refine y_pick (L2 := [(0, .ref (ad 200)), (1, .long v84_1), (3, .int 0)]) [1, 2, 0] rfl ?_
      exact J133 _ v84_1 0 G84 hX84 kt84 (by first | decide | assumption | exact Int.le_refl _ | exact yposgeL (by assumption) c143) rfl
    · skip
      have hn90 := hX.2.n64
      have b90 : v84_3.toInt < rZ ρ 201 := yIy (by omega) h0_84 c90
      have d90 : Int32.toNatClampNeg v84_3 < rZ ρ 201 := yIx h0_84 b90
      have e90 : rcell ρ v84_3 := ⟨h0_84, b90⟩
      refine y_blk 2 tq_X12_digest (z := (96, [(4, .int 0), (0, .ref (ad 200)), (1, .long v84_1), (3, .int v84_3)], [])) rfl ?_
      refine y_pick (L2 := [(0, .ref (ad 200)), (1, .long v84_1), (3, .int v84_3), (4, .int 0)]) [1, 2, 3, 0] rfl ?_
      exact J96 _ v84_1 0 G84 hX84 kt84 (by first | decide | assumption | exact Int.le_refl _ | exact yposgtL (by assumption) c99 (by decide)) (by exact c90) rfl
  have J38 : ∀ (n38 : Nat) (v38_1 : Int64) (v38_3 : Int32) (G38 : AH) (hX38 : atR aC ic de ad G38 (rin ρ 0 0)) (kt38 : yTg kR G G38), ((180 : Int32).toInt + 1 - v38_3.toInt).toNat = n38 → Y l S0 D K_X12_digest 24 163 6799 (fun r G1 => (∃ v : Int64, r = some (.long v)) ∧ ∃ (ad1 : Nat → Nat) (ρ1 : RS), atR aC ic de ad1 G1 ρ1 ∧ ad1 200 = ad 200 ∧ yTg kR G G1 ∧ rSm ρ ρ1) (fun _ _ => False) 38 [(0, .ref (ad 200)), (1, .long v38_1), (3, .int v38_3)] [] G38 150 6630 := by
    intro n38
    induction n38 using Nat.strongRecOn with
    | _ n38 ih38 =>
    intro v38_1 v38_3 G38 hX38 kt38 hn38
    subst hn38
    have J48 : ∀ (n48 : Nat) (v48_1 : Int64) (v48_4 : Int32) (G48 : AH) (hX48 : atR aC ic de ad G48 (rin ρ 0 0)) (kt48 : yTg kR G G48) (h0_48 : 0 ≤ v48_4.toInt) (c42 : ¬ (180 : Int32) < v38_3), ((6 : Int32).toInt + 1 - v48_4.toInt).toNat = n48 → Y l S0 D K_X12_digest 24 163 6799 (fun r G1 => (∃ v : Int64, r = some (.long v)) ∧ ∃ (ad1 : Nat → Nat) (ρ1 : RS), atR aC ic de ad1 G1 ρ1 ∧ ad1 200 = ad 200 ∧ yTg kR G G1 ∧ rSm ρ ρ1) (fun _ _ => False) 48 [(0, .ref (ad 200)), (1, .long v48_1), (3, .int v38_3), (4, .int v48_4)] [] G48 150 6630 := by
      intro n48
      induction n48 using Nat.strongRecOn with
      | _ n48 ih48 =>
      intro v48_1 v48_4 G48 hX48 kt48 h0_48 c42 hn48
      subst hn48
      refine y_blk 2 tq_X12_digest (z := (52, [(0, .ref (ad 200)), (1, .long v48_1), (3, .int v38_3), (4, .int v48_4)], [.int 6, .int v48_4])) rfl ?_
      refine y_icmp_gt tq_X12_digest 76 rfl rfl (fun c52 => ?_) (fun c52 => ?_)
      · skip
        refine y_blk 2 tq_X12_digest (z := (38, [(3, .int (v38_3 + 60)), (0, .ref (ad 200)), (1, .long v48_1), (4, .int v48_4)], [])) rfl ?_
        refine y_pick (L2 := [(0, .ref (ad 200)), (1, .long v48_1), (3, .int (v38_3 + 60))]) [1, 2, 0] rfl ?_
        exact ih38 _ (by exact ydec60r c42) v48_1 (v38_3 + 60) G48 hX48 kt48 rfl
      · skip
        have b52 : v48_4.toInt ≤ 6 := by rw [ylt] at c52; have z9 : (6 : Int32).toInt = 6 := (by decide); omega
        refine y_blk 1 tq_X12_digest (z := (56, [(0, .ref (ad 200)), (1, .long v48_1), (3, .int v38_3), (4, .int v48_4)], [.long v48_1])) rfl ?_
        refine y_ldc2 hS tq_X12_digest rfl ld_X12_332 ?_
        refine y_blk 4 tq_X12_digest (z := (64, [(0, .ref (ad 200)), (1, .long v48_1), (3, .int v38_3), (4, .int v48_4)], [.int v48_4, .int v38_3, .ref (ad 200), .long (v48_1 * (31))])) rfl ?_
        refine y_callV hS tq_X12_digest rfl (As := [.int v38_3, .int v48_4]) rfl cv_X12_205 hX48.m (m_X12_minuteNow hS hI hX48 v38_3 v48_4) rfl (by decide) (Nat.le_of_ble_eq_true rfl) (fun r64 Gc64 q64 => ?_) (fun E9 G9 h9 => h9.elim)
        obtain ⟨⟨x64, rfl⟩, eG64⟩ := q64
        have eG64 := eG64.symm
        subst eG64
        refine y_blk 5 tq_X12_digest (z := (48, [(4, .int (v48_4 + 1)), (1, .long ((v48_1 * (31)) + (Int32.toInt64 x64))), (0, .ref (ad 200)), (3, .int v38_3)], [])) rfl ?_
        refine y_pick (L2 := [(0, .ref (ad 200)), (1, .long ((v48_1 * (31)) + (Int32.toInt64 x64))), (3, .int v38_3), (4, .int (v48_4 + 1))]) [2, 1, 3, 0] rfl ?_
        exact ih48 _ (by exact ydec2 c52 (by decide)) ((v48_1 * (31)) + (Int32.toInt64 x64)) (v48_4 + 1) G48 hX48 kt48 (by first | decide | assumption | exact Int.le_refl _ | exact yposgtL (by assumption) c52 (by decide)) (by exact c42) rfl
    refine y_blk 2 tq_X12_digest (z := (42, [(0, .ref (ad 200)), (1, .long v38_1), (3, .int v38_3)], [.int 180, .int v38_3])) rfl ?_
    refine y_icmp_gt tq_X12_digest 82 rfl rfl (fun c42 => ?_) (fun c42 => ?_)
    · skip
      refine y_blk 2 tq_X12_digest (z := (84, [(3, .int 0), (0, .ref (ad 200)), (1, .long v38_1)], [])) rfl ?_
      refine y_pick (L2 := [(0, .ref (ad 200)), (1, .long v38_1), (3, .int 0)]) [1, 2, 0] rfl ?_
      exact J84 _ v38_1 0 G38 hX38 kt38 (by first | decide | assumption | exact Int.le_refl _ | exact yposgeL (by assumption) c90) rfl
    · skip
      refine y_blk 2 tq_X12_digest (z := (48, [(4, .int 0), (0, .ref (ad 200)), (1, .long v38_1), (3, .int v38_3)], [])) rfl ?_
      refine y_pick (L2 := [(0, .ref (ad 200)), (1, .long v38_1), (3, .int v38_3), (4, .int 0)]) [1, 2, 3, 0] rfl ?_
      exact J48 _ v38_1 0 G38 hX38 kt38 (by first | decide | assumption | exact Int.le_refl _ | exact yposgtL (by assumption) c52 (by decide)) (by exact c42) rfl
  have J11 : ∀ (n11 : Nat) (v11_1 : Int64) (v11_3 : Int32) (G11 : AH) (hX11 : atR aC ic de ad G11 (rin ρ 0 0)) (kt11 : yTg kR G G11) (h0_11 : 0 ≤ v11_3.toInt), ((12 : Int32).toInt + 1 - v11_3.toInt).toNat = n11 → Y l S0 D K_X12_digest 24 163 6799 (fun r G1 => (∃ v : Int64, r = some (.long v)) ∧ ∃ (ad1 : Nat → Nat) (ρ1 : RS), atR aC ic de ad1 G1 ρ1 ∧ ad1 200 = ad 200 ∧ yTg kR G G1 ∧ rSm ρ ρ1) (fun _ _ => False) 11 [(0, .ref (ad 200)), (1, .long v11_1), (3, .int v11_3)] [] G11 ((13 - (Int32.toInt v11_3).toNat) + 150) (13 * (13 - (Int32.toInt v11_3).toNat) + 6630) := by
    intro n11
    induction n11 using Nat.strongRecOn with
    | _ n11 ih11 =>
    intro v11_1 v11_3 G11 hX11 kt11 h0_11 hn11
    subst hn11
    refine y_blk 2 tq_X12_digest (z := (14, [(0, .ref (ad 200)), (1, .long v11_1), (3, .int v11_3)], [.int 12, .int v11_3])) rfl ?_
    refine y_icmp_gt tq_X12_digest 36 rfl rfl (fun c14 => ?_) (fun c14 => ?_)
    · skip
      refine y_blk 2 tq_X12_digest (z := (38, [(3, .int 0), (0, .ref (ad 200)), (1, .long v11_1)], [])) rfl ?_
      refine y_less (k2 := 150) (n2 := 6630) (by first | decide | omega | (simp only [Nat.mul_eq]; omega) | (rw [e6]; omega) | (simp only [Nat.mul_eq, e6]; omega) | (show (_ : Nat) ≤ _; rw [e6]; omega)) (by first | decide | omega | (simp only [Nat.mul_eq]; omega) | (rw [e6]; omega) | (simp only [Nat.mul_eq, e6]; omega) | (show (_ : Nat) ≤ _; rw [e6]; omega)) ?_
      refine y_pick (L2 := [(0, .ref (ad 200)), (1, .long v11_1), (3, .int 0)]) [1, 2, 0] rfl ?_
      exact J38 _ v11_1 0 G11 hX11 kt11 rfl
    · skip
      have b14 : v11_3.toInt ≤ 12 := by rw [ylt] at c14; have z9 : (12 : Int32).toInt = 12 := (by decide); omega
      refine y_blk 1 tq_X12_digest (z := (18, [(0, .ref (ad 200)), (1, .long v11_1), (3, .int v11_3)], [.long v11_1])) rfl ?_
      refine y_ldc2 hS tq_X12_digest rfl ld_X12_332 ?_
      refine y_blk 3 tq_X12_digest (z := (24, [(0, .ref (ad 200)), (1, .long v11_1), (3, .int v11_3)], [.int v11_3, .ref (ad 200), .long (v11_1 * (31))])) rfl ?_
      refine y_less (k2 := (12 - (Int32.toInt v11_3).toNat) + 150 + 1) (n2 := 13 * (12 - (Int32.toInt v11_3).toNat) + 6630 + 13) (by first | omega | (simp only [Nat.mul_eq]; omega)) (by first | omega | (simp only [Nat.mul_eq]; omega)) ?_
      refine y_callV hS tq_X12_digest rfl (As := [.int v11_3]) rfl cv_X12_297 hX11.m (m_X12_manyNow hS hI hX11 v11_3 (by omega) (by omega)) rfl (by decide) (Nat.le_of_ble_eq_true rfl) (fun r24 Gc24 q24 => ?_) (fun E9 G9 h9 => h9.elim)
      obtain ⟨⟨x24, rfl⟩, kt24⟩ := q24
      have hX24 := hX11.kp (kt24.narrow kA_R)
      have ktt24 := (kt11).trans (kt24.narrow kR_A)
      refine y_blk 5 tq_X12_digest (z := (11, [(3, .int (v11_3 + 1)), (1, .long ((v11_1 * (31)) + (Int32.toInt64 x24))), (0, .ref (ad 200))], [])) rfl ?_
      have e6 : (v11_3 + 1).toInt = v11_3.toInt + 1 := by rw [yadd (by rw [yl_1]; omega) (by rw [yl_1]; omega), yl_1]
      refine y_less (k2 := (13 - (Int32.toInt (v11_3 + 1)).toNat) + 150) (n2 := 13 * (13 - (Int32.toInt (v11_3 + 1)).toNat) + 6630) (by first | decide | omega | (simp only [Nat.mul_eq]; omega) | (rw [e6]; omega) | (simp only [Nat.mul_eq, e6]; omega) | (show (_ : Nat) ≤ _; rw [e6]; omega)) (by first | decide | omega | (simp only [Nat.mul_eq]; omega) | (rw [e6]; omega) | (simp only [Nat.mul_eq, e6]; omega) | (show (_ : Nat) ≤ _; rw [e6]; omega)) ?_
      refine y_pick (L2 := [(0, .ref (ad 200)), (1, .long ((v11_1 * (31)) + (Int32.toInt64 x24))), (3, .int (v11_3 + 1))]) [2, 1, 0] rfl ?_
      exact ih11 _ (by exact ydec2 c14 (by decide)) ((v11_1 * (31)) + (Int32.toInt64 x24)) (v11_3 + 1) Gc24 hX24 ktt24 (by first | decide | assumption | exact Int.le_refl _ | exact yposgtL (by assumption) c14 (by decide)) rfl
  refine y_blk 2 tq_X12_digest (z := (2, [(0, .ref (ad 200))], [.int 0, .ref (ad 200)])) rfl ?_
  refine y_put hS tq_X12_digest rfl fp_X12_51_X12 hX.m (by omega) rfl rfl (Nat.le_of_ble_eq_true rfl) ?_
  have hX2 : atR aC ic de ad (yup G (ad 200) (200, .inr (16, [.int 0, .int (rI ρ 1), .int (rI ρ 2), .ref (ad 201), .int (rI ρ 3), .int (rI ρ 4), .ref (ad 210), .ref (ad 211), .ref (ad 212), .ref (ad 213), .int (rI ρ 5), .int (rI ρ 6), .int (rI ρ 7), .ref (ad 202), .ref (ad 214), .int (rI ρ 8), .ref (ad 203), .ref (ad 215), .ref (ad 216), .int (rI ρ 9)]))) ((rin ρ 0 0)) := atR.setIb hX rfl rfl (hX.2.setI (by decide))
  have kt2 : yTg kR G (yup G (ad 200) (200, .inr (16, [.int 0, .int (rI ρ 1), .int (rI ρ 2), .ref (ad 201), .int (rI ρ 3), .int (rI ρ 4), .ref (ad 210), .ref (ad 211), .ref (ad 212), .ref (ad 213), .int (rI ρ 5), .int (rI ρ 6), .int (rI ρ 7), .ref (ad 202), .ref (ad 214), .int (rI ρ 8), .ref (ad 203), .ref (ad 215), .ref (ad 216), .int (rI ρ 9)]))) := ((yTg.rfl' (f := kR) (G := G))).trans (yTg.up hX.m (kR_n (by omega) (by omega)))
  show Y l S0 D K_X12_digest 24 163 6799 (fun r G1 => (∃ v : Int64, r = some (.long v)) ∧ ∃ (ad1 : Nat → Nat) (ρ1 : RS), atR aC ic de ad1 G1 ρ1 ∧ ad1 200 = ad 200 ∧ yTg kR G G1 ∧ rSm ρ ρ1) (fun _ _ => False) (2 + 3) [(0, .ref (ad 200))] [] (yup G (ad 200) (200, .inr (16, [.int 0, .int (rI ρ 1), .int (rI ρ 2), .ref (ad 201), .int (rI ρ 3), .int (rI ρ 4), .ref (ad 210), .ref (ad 211), .ref (ad 212), .ref (ad 213), .int (rI ρ 5), .int (rI ρ 6), .int (rI ρ 7), .ref (ad 202), .ref (ad 214), .int (rI ρ 8), .ref (ad 203), .ref (ad 215), .ref (ad 216), .int (rI ρ 9)]))) 163 6799
  generalize yup G (ad 200) (200, .inr (16, [.int 0, .int (rI ρ 1), .int (rI ρ 2), .ref (ad 201), .int (rI ρ 3), .int (rI ρ 4), .ref (ad 210), .ref (ad 211), .ref (ad 212), .ref (ad 213), .int (rI ρ 5), .int (rI ρ 6), .int (rI ρ 7), .ref (ad 202), .ref (ad 214), .int (rI ρ 8), .ref (ad 203), .ref (ad 215), .ref (ad 216), .int (rI ρ 9)])) = G2 at hX2 kt2 ⊢
  refine y_blk 0 tq_X12_digest (z := (5, [(0, .ref (ad 200))], [])) rfl ?_
  refine y_ldc2 hS tq_X12_digest rfl ld_X12_330 ?_
  refine y_blk 3 tq_X12_digest (z := (11, [(3, .int 0), (1, .long (9241)), (0, .ref (ad 200))], [])) rfl ?_
  refine y_less (k2 := (13 - (Int32.toInt 0).toNat) + 150) (n2 := 13 * (13 - (Int32.toInt 0).toNat) + 6630) (by first | decide | omega | (simp only [Nat.mul_eq]; omega) | (rw [e6]; omega) | (simp only [Nat.mul_eq, e6]; omega) | (show (_ : Nat) ≤ _; rw [e6]; omega)) (by first | decide | omega | (simp only [Nat.mul_eq]; omega) | (rw [e6]; omega) | (simp only [Nat.mul_eq, e6]; omega) | (show (_ : Nat) ≤ _; rw [e6]; omega)) ?_
  refine y_pick (L2 := [(0, .ref (ad 200)), (1, .long (9241)), (3, .int 0)]) [2, 1, 0] rfl ?_
  exact J11 _ (9241) 0 G2 hX2 kt2 (by first | decide | assumption | exact Int.le_refl _ | exact yposgtL (by assumption) c14 (by decide)) rfl
