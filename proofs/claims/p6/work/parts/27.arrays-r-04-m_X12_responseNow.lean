/-! part -/
set_option maxHeartbeats 4000000 in
set_option maxRecDepth 100000 in
theorem m_X12_responseNow {l : Launch} {S0 : State} {A0 : Array Value} {D : va_G} {aC : Nat → ClassId} {ic : Int32 → Nat} {de : Nat} {ad : Nat → Nat} {G : AH} {ρ : RS} (hS : yS l S0 A0 D aC) (hI : yIc S0 ic de) (hX : atR aC ic de ad G ρ) {k : Nat} (hk : k < rZ ρ 215) (isGuard : Int32) : yM l S0 D yX12_responseNow cX12_responseNow 8 (some .int) 22 12 768 [.ref (ad 200), .ref (ad (420 + k)), .int isGuard] G (fun r G1 => (∃ v : Int32, r = some (.int v)) ∧ yTg kA G G1) (fun _ _ => False) := by
  refine yM.ofK K_X12_responseNow rfl (by decide) (Nat.le_of_ble_eq_true rfl) ?_
  have J91 : ∀ (v91_3 : Int32) (v91_4 : Int32) (v91_5 : Int32) (v91_6 : Int32) (w91_0 : Int32) (G91 : AH) (hX91 : atR aC ic de ad G91 ρ) (kt91 : yTg kA G G91), Y l S0 D K_X12_responseNow 22 12 768 (fun r G1 => (∃ v : Int32, r = some (.int v)) ∧ yTg kA G G1) (fun _ _ => False) 91 [(0, .ref (ad 200)), (1, .ref (ad (420 + k))), (2, .int isGuard), (3, .int v91_3), (4, .int v91_4), (5, .int v91_5), (6, .int v91_6)] [.int w91_0] G91 0 0 := by
    intro v91_3 v91_4 v91_5 v91_6 w91_0 G91 hX91 kt91
    exact y_iret tq_X12_responseNow rfl rfl (⟨⟨_, rfl⟩, kt91⟩)
  have J80 : ∀ (v80_3 : Int32) (v80_4 : Int32) (v80_5 : Int32) (v80_6 : Int32) (G80 : AH) (hX80 : atR aC ic de ad G80 ρ) (kt80 : yTg kA G G80), Y l S0 D K_X12_responseNow 22 12 768 (fun r G1 => (∃ v : Int32, r = some (.int v)) ∧ yTg kA G G1) (fun _ _ => False) 80 [(0, .ref (ad 200)), (1, .ref (ad (420 + k))), (2, .int isGuard), (3, .int v80_3), (4, .int v80_4), (5, .int v80_5), (6, .int v80_6)] [] G80 0 0 := by
    intro v80_3 v80_4 v80_5 v80_6 G80 hX80 kt80
    refine y_blk 1 tq_X12_responseNow (z := (81, [(0, .ref (ad 200)), (1, .ref (ad (420 + k))), (2, .int isGuard), (3, .int v80_3), (4, .int v80_4), (5, .int v80_5), (6, .int v80_6)], [.int isGuard])) rfl ?_
    refine y_if_eq tq_X12_responseNow 89 rfl rfl (fun c81 => ?_) (fun c81 => ?_)
    · skip
      refine y_blk 1 tq_X12_responseNow (z := (91, [(0, .ref (ad 200)), (1, .ref (ad (420 + k))), (2, .int isGuard), (3, .int v80_3), (4, .int v80_4), (5, .int v80_5), (6, .int v80_6)], [.int v80_4])) rfl ?_
      exact J91 v80_3 v80_4 v80_5 v80_6 v80_4 G80 hX80 kt80
    · skip
      refine y_blk 2 tq_X12_responseNow (z := (91, [(0, .ref (ad 200)), (1, .ref (ad (420 + k))), (2, .int isGuard), (3, .int v80_3), (4, .int v80_4), (5, .int v80_5), (6, .int v80_6)], [.int v80_5])) rfl ?_
      exact J91 v80_3 v80_4 v80_5 v80_6 v80_5 G80 hX80 kt80
  have J15 : ∀ (n15 : Nat) (v15_3 : Int32) (v15_4 : Int32) (v15_5 : Int32) (v15_6 : Int32) (G15 : AH) (hX15 : atR aC ic de ad G15 ρ) (kt15 : yTg kA G G15) (h0_15 : 0 ≤ v15_6.toInt) (hfd_ : (v15_3 = -1 ∨ ((rF ρ (420 + k) 0).toInt ≤ v15_3.toInt ∧ v15_3.toInt ≤ 239))), ((Int32.ofNat (rZ ρ 212) : Int32).toInt - v15_6.toInt).toNat = n15 → Y l S0 D K_X12_responseNow 22 12 768 (fun r G1 => (∃ v : Int32, r = some (.int v)) ∧ yTg kA G G1) (fun _ _ => False) 15 [(0, .ref (ad 200)), (1, .ref (ad (420 + k))), (2, .int isGuard), (3, .int v15_3), (4, .int v15_4), (5, .int v15_5), (6, .int v15_6)] [] G15 (2 * (6 - (Int32.toInt v15_6).toNat)) (128 * (6 - (Int32.toInt v15_6).toNat)) := by
    intro n15
    induction n15 using Nat.strongRecOn with
    | _ n15 ih15 =>
    intro v15_3 v15_4 v15_5 v15_6 G15 hX15 kt15 h0_15 hfd_ hn15
    subst hn15
    have J74 : ∀ (v74_4 : Int32) (v74_5 : Int32) (v74_7 : Int32) (G74 : AH) (hX74 : atR aC ic de ad G74 ρ) (kt74 : yTg kA G G74) (c26 : ¬ (Int32.ofNat (rZ ρ 212) : Int32) ≤ v15_6), Y l S0 D K_X12_responseNow 22 12 768 (fun r G1 => (∃ v : Int32, r = some (.int v)) ∧ yTg kA G G1) (fun _ _ => False) 74 [(0, .ref (ad 200)), (1, .ref (ad (420 + k))), (2, .int isGuard), (3, .int v15_3), (4, .int v74_4), (5, .int v74_5), (6, .int v15_6), (7, .int v74_7)] [] G74 (2 * (5 - (Int32.toInt v15_6).toNat)) (128 * (5 - (Int32.toInt v15_6).toNat)) := by
      intro v74_4 v74_5 v74_7 G74 hX74 kt74 c26
      have hn26 := hX.2.le10 212 (by decide)
      have b26 : v15_6.toInt < rZ ρ 212 := yIy (by omega) h0_15 c26
      have d26 : Int32.toNatClampNeg v15_6 < rZ ρ 212 := yIx h0_15 b26
      have g6 := hX.2.2.1.2.2.1
      have e6 : (v15_6 + 1).toInt = v15_6.toInt + 1 := by rw [yadd (by rw [yl_1]; omega) (by rw [yl_1]; omega), yl_1]
      refine y_blk 2 tq_X12_responseNow (z := (15, [(6, .int (v15_6 + 1)), (0, .ref (ad 200)), (1, .ref (ad (420 + k))), (2, .int isGuard), (3, .int v15_3), (4, .int v74_4), (5, .int v74_5), (7, .int v74_7)], [])) rfl ?_
      refine y_less (k2 := 2 * (6 - (Int32.toInt (v15_6 + 1)).toNat)) (n2 := 128 * (6 - (Int32.toInt (v15_6 + 1)).toNat)) (by first | decide | omega | (simp only [Nat.mul_eq]; omega) | (rw [e6]; omega) | (simp only [Nat.mul_eq, e6]; omega)) (by first | decide | omega | (simp only [Nat.mul_eq]; omega) | (rw [e6]; omega) | (simp only [Nat.mul_eq, e6]; omega)) ?_
      refine y_pick (L2 := [(0, .ref (ad 200)), (1, .ref (ad (420 + k))), (2, .int isGuard), (3, .int v15_3), (4, .int v74_4), (5, .int v74_5), (6, .int (v15_6 + 1))]) [1, 2, 3, 4, 5, 6, 0] rfl ?_
      exact ih15 _ (by exact ydec c26) v15_3 v74_4 v74_5 (v15_6 + 1) G74 hX74 kt74 (by first | decide | exact yposgeL (by assumption) c26) (by first | exact hr_x2 | assumption) rfl
    have J66 : ∀ (v66_7 : Int32) (G66 : AH) (hX66 : atR aC ic de ad G66 ρ) (kt66 : yTg kA G G66) (c26 : ¬ (Int32.ofNat (rZ ρ 212) : Int32) ≤ v15_6), Y l S0 D K_X12_responseNow 22 12 768 (fun r G1 => (∃ v : Int32, r = some (.int v)) ∧ yTg kA G G1) (fun _ _ => False) 66 [(0, .ref (ad 200)), (1, .ref (ad (420 + k))), (2, .int isGuard), (3, .int v15_3), (4, .int v15_4), (5, .int v15_5), (6, .int v15_6), (7, .int v66_7)] [] G66 (2 * (5 - (Int32.toInt v15_6).toNat)) (128 * (5 - (Int32.toInt v15_6).toNat)) := by
      intro v66_7 G66 hX66 kt66 c26
      have hn26 := hX.2.le10 212 (by decide)
      have b26 : v15_6.toInt < rZ ρ 212 := yIy (by omega) h0_15 c26
      have d26 : Int32.toNatClampNeg v15_6 < rZ ρ 212 := yIx h0_15 b26
      have g6 := hX.2.2.1.2.2.1
      have e6 : (v15_6 + 1).toInt = v15_6.toInt + 1 := by rw [yadd (by rw [yl_1]; omega) (by rw [yl_1]; omega), yl_1]
      refine y_blk 4 tq_X12_responseNow (z := (74, [(5, .int v15_6), (4, .int v66_7), (0, .ref (ad 200)), (1, .ref (ad (420 + k))), (2, .int isGuard), (3, .int v15_3), (6, .int v15_6), (7, .int v66_7)], [])) rfl ?_
      refine y_pick (L2 := [(0, .ref (ad 200)), (1, .ref (ad (420 + k))), (2, .int isGuard), (3, .int v15_3), (4, .int v66_7), (5, .int v15_6), (6, .int v15_6), (7, .int v66_7)]) [2, 3, 4, 5, 1, 0, 6, 7] rfl ?_
      exact J74 v66_7 v15_6 v66_7 G66 hX66 kt66 (by exact c26)
    refine y_blk 2 tq_X12_responseNow (z := (18, [(0, .ref (ad 200)), (1, .ref (ad (420 + k))), (2, .int isGuard), (3, .int v15_3), (4, .int v15_4), (5, .int v15_5), (6, .int v15_6)], [.ref (ad 200), .int v15_6])) rfl ?_
    refine y_get hS tq_X12_responseNow (v := .ref (ad 212)) rfl fg_X12_27_X12 hX15.m rfl ?_
    refine y_blk 0 tq_X12_responseNow (z := (21, [(0, .ref (ad 200)), (1, .ref (ad (420 + k))), (2, .int isGuard), (3, .int v15_3), (4, .int v15_4), (5, .int v15_5), (6, .int v15_6)], [.ref (ad 212), .int v15_6])) rfl ?_
    refine y_callF hS tq_X12_responseNow rfl (As := []) rfl cf_X12_58 (Or.inl ⟨_, (hX15.ls 212 (by decide)).1⟩) (m_Jsize hS (hX15.ls 212 (by decide))) rfl (by decide) (Nat.le_of_ble_eq_true rfl) (fun r21 Gc21 q21 => ?_) (fun _ _ h9 => h9.elim)
    obtain ⟨rfl, eG21⟩ := q21
    have eG21 := eG21.symm
    subst eG21
    refine y_blk 0 tq_X12_responseNow (z := (26, [(0, .ref (ad 200)), (1, .ref (ad (420 + k))), (2, .int isGuard), (3, .int v15_3), (4, .int v15_4), (5, .int v15_5), (6, .int v15_6)], [.int (Int32.ofNat (rZ ρ 212)), .int v15_6])) rfl ?_
    refine y_icmp_ge tq_X12_responseNow 80 rfl rfl (fun c26 => ?_) (fun c26 => ?_)
    · skip
      refine y_blk 0 tq_X12_responseNow (z := (80, [(0, .ref (ad 200)), (1, .ref (ad (420 + k))), (2, .int isGuard), (3, .int v15_3), (4, .int v15_4), (5, .int v15_5), (6, .int v15_6)], [])) rfl ?_
      refine y_less (k2 := 0) (n2 := 0) (Nat.zero_le _) (Nat.zero_le _) ?_
      exact J80 v15_3 v15_4 v15_5 v15_6 G15 hX15 kt15
    · skip
      have hn26 := hX.2.le10 212 (by decide)
      have b26 : v15_6.toInt < rZ ρ 212 := yIy (by omega) h0_15 c26
      have d26 : Int32.toNatClampNeg v15_6 < rZ ρ 212 := yIx h0_15 b26
      have g6 := hX.2.2.1.2.2.1
      have e6 : (v15_6 + 1).toInt = v15_6.toInt + 1 := by rw [yadd (by rw [yl_1]; omega) (by rw [yl_1]; omega), yl_1]
      refine y_blk 2 tq_X12_responseNow (z := (31, [(0, .ref (ad 200)), (1, .ref (ad (420 + k))), (2, .int isGuard), (3, .int v15_3), (4, .int v15_4), (5, .int v15_5), (6, .int v15_6)], [.int (-1), .int v15_3])) rfl ?_
      refine y_icmp_eq tq_X12_responseNow 80 rfl rfl (fun c31 => ?_) (fun c31 => ?_)
      · skip
        refine y_blk 0 tq_X12_responseNow (z := (80, [(0, .ref (ad 200)), (1, .ref (ad (420 + k))), (2, .int isGuard), (3, .int v15_3), (4, .int v15_4), (5, .int v15_5), (6, .int v15_6)], [])) rfl ?_
        refine y_less (k2 := 0) (n2 := 0) (Nat.zero_le _) (Nat.zero_le _) ?_
        exact J80 v15_3 v15_4 v15_5 v15_6 G15 hX15 kt15
      · skip
        have hfd := hfd_.resolve_left c31
        have hf0 := hfd.1
        refine y_blk 4 tq_X12_responseNow (z := (39, [(0, .ref (ad 200)), (1, .ref (ad (420 + k))), (2, .int isGuard), (3, .int v15_3), (4, .int v15_4), (5, .int v15_5), (6, .int v15_6)], [.int v15_6, .int v15_3, .ref (ad (420 + k)), .ref (ad 200)])) rfl ?_
        refine y_less (k2 := 2 * (5 - (Int32.toInt v15_6).toNat) + 2) (n2 := 128 * (5 - (Int32.toInt v15_6).toNat) + 128) (by first | omega | (simp only [Nat.mul_eq]; omega)) (by first | omega | (simp only [Nat.mul_eq]; omega)) ?_
        refine y_callV hS tq_X12_responseNow rfl (As := [.ref (ad (420 + k)), .int v15_3, .int v15_6]) rfl cv_X12_258 hX15.m (m_X12_response hS hI hX15 (k := k) (by assumption) v15_3 v15_6 (by assumption) (by assumption) (by assumption)) rfl (by decide) (Nat.le_of_ble_eq_true rfl) (fun r39 Gc39 q39 => ?_) (fun E9 G9 h9 => h9.elim)
        obtain ⟨⟨x39, rfl⟩, kt39⟩ := q39
        have hX39 := hX15.kp (kt39.narrow kA_R)
        have ktt39 := (kt15).trans kt39
        refine y_blk 3 tq_X12_responseNow (z := (47, [(7, .int x39), (0, .ref (ad 200)), (1, .ref (ad (420 + k))), (2, .int isGuard), (3, .int v15_3), (4, .int v15_4), (5, .int v15_5), (6, .int v15_6)], [.int (-1), .int x39])) rfl ?_
        refine y_icmp_eq tq_X12_responseNow 74 rfl rfl (fun c47 => ?_) (fun c47 => ?_)
        · skip
          refine y_blk 0 tq_X12_responseNow (z := (74, [(7, .int x39), (0, .ref (ad 200)), (1, .ref (ad (420 + k))), (2, .int isGuard), (3, .int v15_3), (4, .int v15_4), (5, .int v15_5), (6, .int v15_6)], [])) rfl ?_
          refine y_pick (L2 := [(0, .ref (ad 200)), (1, .ref (ad (420 + k))), (2, .int isGuard), (3, .int v15_3), (4, .int v15_4), (5, .int v15_5), (6, .int v15_6), (7, .int x39)]) [1, 2, 3, 4, 5, 6, 7, 0] rfl ?_
          exact J74 v15_4 v15_5 x39 Gc39 hX39 ktt39 (by exact c26)
        · skip
          refine y_blk 2 tq_X12_responseNow (z := (53, [(7, .int x39), (0, .ref (ad 200)), (1, .ref (ad (420 + k))), (2, .int isGuard), (3, .int v15_3), (4, .int v15_4), (5, .int v15_5), (6, .int v15_6)], [.int (-1), .int v15_4])) rfl ?_
          refine y_icmp_eq tq_X12_responseNow 66 rfl rfl (fun c53 => ?_) (fun c53 => ?_)
          · skip
            refine y_blk 0 tq_X12_responseNow (z := (66, [(7, .int x39), (0, .ref (ad 200)), (1, .ref (ad (420 + k))), (2, .int isGuard), (3, .int v15_3), (4, .int v15_4), (5, .int v15_5), (6, .int v15_6)], [])) rfl ?_
            refine y_pick (L2 := [(0, .ref (ad 200)), (1, .ref (ad (420 + k))), (2, .int isGuard), (3, .int v15_3), (4, .int v15_4), (5, .int v15_5), (6, .int v15_6), (7, .int x39)]) [1, 2, 3, 4, 5, 6, 7, 0] rfl ?_
            exact J66 x39 Gc39 hX39 ktt39 (by exact c26)
          · skip
            refine y_blk 2 tq_X12_responseNow (z := (60, [(7, .int x39), (0, .ref (ad 200)), (1, .ref (ad (420 + k))), (2, .int isGuard), (3, .int v15_3), (4, .int v15_4), (5, .int v15_5), (6, .int v15_6)], [.int v15_4, .int x39])) rfl ?_
            refine y_icmp_lt tq_X12_responseNow 66 rfl rfl (fun c60 => ?_) (fun c60 => ?_)
            · skip
              refine y_blk 0 tq_X12_responseNow (z := (66, [(7, .int x39), (0, .ref (ad 200)), (1, .ref (ad (420 + k))), (2, .int isGuard), (3, .int v15_3), (4, .int v15_4), (5, .int v15_5), (6, .int v15_6)], [])) rfl ?_
              refine y_pick (L2 := [(0, .ref (ad 200)), (1, .ref (ad (420 + k))), (2, .int isGuard), (3, .int v15_3), (4, .int v15_4), (5, .int v15_5), (6, .int v15_6), (7, .int x39)]) [1, 2, 3, 4, 5, 6, 7, 0] rfl ?_
              exact J66 x39 Gc39 hX39 ktt39 (by exact c26)
            · skip
              refine y_blk 1 tq_X12_responseNow (z := (74, [(7, .int x39), (0, .ref (ad 200)), (1, .ref (ad (420 + k))), (2, .int isGuard), (3, .int v15_3), (4, .int v15_4), (5, .int v15_5), (6, .int v15_6)], [])) rfl ?_
              refine y_pick (L2 := [(0, .ref (ad 200)), (1, .ref (ad (420 + k))), (2, .int isGuard), (3, .int v15_3), (4, .int v15_4), (5, .int v15_5), (6, .int v15_6), (7, .int x39)]) [1, 2, 3, 4, 5, 6, 7, 0] rfl ?_
              exact J74 v15_4 v15_5 x39 Gc39 hX39 ktt39 (by exact c26)
  refine y_blk 2 tq_X12_responseNow (z := (2, [(0, .ref (ad 200)), (1, .ref (ad (420 + k))), (2, .int isGuard)], [.ref (ad (420 + k)), .ref (ad 200)])) rfl ?_
  refine y_callV hS tq_X12_responseNow rfl (As := [.ref (ad (420 + k))]) rfl cv_X12_254 hX.m (m_X12_foundNow hS hI hX (k := k) (by assumption) ) rfl (by decide) (Nat.le_of_ble_eq_true rfl) (fun r2 Gc2 q2 => ?_) (fun E9 G9 h9 => h9.elim)
  obtain ⟨⟨x2, hr_x2, rfl⟩, eG2⟩ := q2
  have eG2 := eG2.symm
  subst eG2
  refine y_blk 7 tq_X12_responseNow (z := (15, [(6, .int 0), (5, .int (-1)), (4, .int (-1)), (3, .int x2), (0, .ref (ad 200)), (1, .ref (ad (420 + k))), (2, .int isGuard)], [])) rfl ?_
  refine y_less (k2 := 2 * (6 - (Int32.toInt 0).toNat)) (n2 := 128 * (6 - (Int32.toInt 0).toNat)) (by first | decide | omega | (simp only [Nat.mul_eq]; omega) | (rw [e6]; omega) | (simp only [Nat.mul_eq, e6]; omega)) (by first | decide | omega | (simp only [Nat.mul_eq]; omega) | (rw [e6]; omega) | (simp only [Nat.mul_eq, e6]; omega)) ?_
  refine y_pick (L2 := [(0, .ref (ad 200)), (1, .ref (ad (420 + k))), (2, .int isGuard), (3, .int x2), (4, .int (-1)), (5, .int (-1)), (6, .int 0)]) [4, 5, 6, 3, 2, 1, 0] rfl ?_
  exact J15 _ x2 (-1) (-1) 0 G hX (yTg.rfl' (f := kA) (G := G)) (by first | decide | exact yposgeL (by assumption) c26) (by first | exact hr_x2 | assumption) rfl
