/-! part -/
set_option maxHeartbeats 4000000 in
set_option maxRecDepth 100000 in
theorem m_X10_place_d {l : Launch} {S0 : State} {A0 : Array Value} {D : va_G} {aC : Nat → ClassId} {ic : Int32 → Nat} {de : Nat} {ad : Nat → Nat} {G : AH} {ρ : RS} (hS : yS l S0 A0 D aC) (hI : yIc S0 ic de) (hX : atR aC ic de ad G ρ) {k : Nat} (hk : k < rZ ρ 212) (minute : Int32) (hd : (rF ρ (360 + k) 0) ≤ minute ∧ minute ≤ (rF ρ (360 + k) 1)) : yM l S0 D yX10_place cX10_place 2 (some .int) 18 0 0 [.ref (ad (360 + k)), .int minute] G (fun r G1 => (∃ v : Int32, rcell ρ v ∧ r = some (.int v)) ∧ G1 = G) (fun _ _ => False) := by
  refine yM.ofK K_X10_place rfl (by decide) (Nat.le_of_ble_eq_true rfl) ?_
  have hg := hX.2.2.2.1 k hk
  obtain ⟨hg0, hg1, hg2, hg3, hg4⟩ := hg
  refine y_blk 2 tq_X10_place (z := (2, [(0, .ref (ad (360 + k))), (1, .int minute)], [.int minute, .ref (ad (360 + k))])) rfl ?_
  refine y_callV hS tq_X10_place rfl (As := [.int minute]) rfl cv_X10_44 (hX.gu (by assumption)) (m_X10_isOnDuty hS hI hX (k := k) (by assumption) minute) rfl (by decide) (Nat.le_of_ble_eq_true rfl) (fun r2 Gc2 q2 => ?_) (fun E9 G9 h9 => h9.elim)
  obtain ⟨rfl, eG2⟩ := q2
  have eG2 := eG2.symm
  subst eG2
  refine y_blk 0 tq_X10_place (z := (5, [(0, .ref (ad (360 + k))), (1, .int minute)], [.int (if (rF ρ (360 + k) 0) ≤ minute ∧ minute ≤ (rF ρ (360 + k) 1) then 1 else 0)])) rfl ?_
  refine y_if_eq tq_X10_place 47 rfl rfl (fun c5 => ?_) (fun c5 => ?_)
  · exact absurd c5 (by rw [if_pos hd]; decide)
  · skip
    have hin := yif1 c5
    have h60 : 0 ≤ (minute - rF ρ (360 + k) 0).toInt := by
      have z1 := yle.mp hin.1
      have z2 := yrng minute
      rw [ysub (by omega) (by omega)]
      omega
    obtain ⟨hq0, hq1⟩ := ymodn (s := rZ ρ (380 + k)) hg2 (by omega) h60 hg1
    refine y_blk 1 tq_X10_place (z := (9, [(0, .ref (ad (360 + k))), (1, .int minute)], [.ref (ad (360 + k))])) rfl ?_
    refine y_get hS tq_X10_place (v := .ref (ad (380 + k))) rfl fg_X10_12_X10 (hX.gu (by assumption)) rfl ?_
    refine y_blk 2 tq_X10_place (z := (14, [(0, .ref (ad (360 + k))), (1, .int minute)], [.ref (ad (360 + k)), .int minute, .ref (ad (380 + k))])) rfl ?_
    refine y_get hS tq_X10_place (v := .int (rF ρ (360 + k) 0)) rfl fg_X10_30_X10 (hX.gu (by assumption)) rfl ?_
    refine y_blk 2 tq_X10_place (z := (19, [(0, .ref (ad (360 + k))), (1, .int minute)], [.ref (ad (360 + k)), .int (minute - (rF ρ (360 + k) 0)), .ref (ad (380 + k))])) rfl ?_
    refine y_get hS tq_X10_place (v := .int (rF ρ (360 + k) 2)) rfl fg_X10_37_X10 (hX.gu (by assumption)) rfl ?_
    refine y_blk 0 tq_X10_place (z := (22, [(0, .ref (ad (360 + k))), (1, .int minute)], [.int (rF ρ (360 + k) 2), .int (minute - (rF ρ (360 + k) 0)), .ref (ad (380 + k))])) rfl ?_
    refine y_idiv tq_X10_place rfl (by intro q; rw [q, yl_0] at hg1; omega) ?_
    refine y_blk 1 tq_X10_place (z := (24, [(0, .ref (ad (360 + k))), (1, .int minute)], [.ref (ad (360 + k)), .int ((minute - (rF ρ (360 + k) 0)) / (rF ρ (360 + k) 2)), .ref (ad (380 + k))])) rfl ?_
    refine y_get hS tq_X10_place (v := .ref (ad (380 + k))) rfl fg_X10_12_X10 (hX.gu (by assumption)) rfl ?_
    refine y_blk 0 tq_X10_place (z := (27, [(0, .ref (ad (360 + k))), (1, .int minute)], [.ref (ad (380 + k)), .int ((minute - (rF ρ (360 + k) 0)) / (rF ρ (360 + k) 2)), .ref (ad (380 + k))])) rfl ?_
    refine y_callF hS tq_X10_place rfl (As := []) rfl cf_X10_48 (Or.inl ⟨_, (hX.gl (by assumption)).1⟩) (m_Jsize hS (hX.gl (by assumption))) rfl (by decide) (Nat.le_of_ble_eq_true rfl) (fun r27 Gc27 q27 => ?_) (fun _ _ h9 => h9.elim)
    obtain ⟨rfl, eG27⟩ := q27
    have eG27 := eG27.symm
    subst eG27
    refine y_blk 0 tq_X10_place (z := (32, [(0, .ref (ad (360 + k))), (1, .int minute)], [.int (Int32.ofNat (rZ ρ (380 + k))), .int ((minute - (rF ρ (360 + k) 0)) / (rF ρ (360 + k) 2)), .ref (ad (380 + k))])) rfl ?_
    refine y_irem tq_X10_place rfl (by intro q; have q2 := congrArg Int32.toInt q; rw [yofn (by omega), yl_0] at q2; omega) ?_
    refine y_blk 0 tq_X10_place (z := (33, [(0, .ref (ad (360 + k))), (1, .int minute)], [.int (((minute - (rF ρ (360 + k) 0)) / (rF ρ (360 + k) 2)) - ((minute - (rF ρ (360 + k) 0)) / (rF ρ (360 + k) 2)) / (Int32.ofNat (rZ ρ (380 + k))) * (Int32.ofNat (rZ ρ (380 + k)))), .ref (ad (380 + k))])) rfl ?_
    refine y_callF hS tq_X10_place rfl (As := [.int (((minute - (rF ρ (360 + k) 0)) / (rF ρ (360 + k) 2)) - ((minute - (rF ρ (360 + k) 0)) / (rF ρ (360 + k) 2)) / (Int32.ofNat (rZ ρ (380 + k))) * (Int32.ofNat (rZ ρ (380 + k))))]) rfl cf_X10_52 (Or.inl ⟨_, (hX.gl (by assumption)).1⟩) (m_Rgc hS hX (by assumption) (by assumption) (by assumption)) rfl (by decide) (Nat.le_of_ble_eq_true rfl) (fun r33 Gc33 q33 => ?_) (fun _ _ h9 => h9.elim)
    obtain ⟨rfl, eG33⟩ := q33
    have eG33 := eG33.symm
    subst eG33
    have d33 : (Int32.toNatClampNeg (((minute - (rF ρ (360 + k) 0)) / (rF ρ (360 + k) 2)) - ((minute - (rF ρ (360 + k) 0)) / (rF ρ (360 + k) 2)) / (Int32.ofNat (rZ ρ (380 + k))) * (Int32.ofNat (rZ ρ (380 + k))))) < rZ ρ (380 + k) := yIx (by assumption) (by assumption)
    refine y_blk 0 tq_X10_place (z := (38, [(0, .ref (ad (360 + k))), (1, .int minute)], [.ref (ic (rV ρ (380 + k) (Int32.toNatClampNeg (((minute - (rF ρ (360 + k) 0)) / (rF ρ (360 + k) 2)) - ((minute - (rF ρ (360 + k) 0)) / (rF ρ (360 + k) 2)) / (Int32.ofNat (rZ ρ (380 + k))) * (Int32.ofNat (rZ ρ (380 + k)))))))])) rfl ?_
    refine y_castI hS tq_X10_place rfl kc_X10_19 (hX.gc hI (by assumption) (by assumption)) ?_
    refine y_blk 0 tq_X10_place (z := (41, [(0, .ref (ad (360 + k))), (1, .int minute)], [.ref (ic (rV ρ (380 + k) (Int32.toNatClampNeg (((minute - (rF ρ (360 + k) 0)) / (rF ρ (360 + k) 2)) - ((minute - (rF ρ (360 + k) 0)) / (rF ρ (360 + k) 2)) / (Int32.ofNat (rZ ρ (380 + k))) * (Int32.ofNat (rZ ρ (380 + k)))))))])) rfl ?_
    refine y_callVO hS tq_X10_place rfl (As := []) rfl cv_X10_56 (yIntO (hX.gc hI (by assumption) (by assumption))) (m_JintValue hS (hX.gc hI (by assumption) (by assumption))) rfl (by decide) (Nat.le_of_ble_eq_true rfl) (fun r41 Gc41 q41 => ?_) (fun _ _ h9 => h9.elim)
    obtain ⟨rfl, eG41⟩ := q41
    have eG41 := eG41.symm
    subst eG41
    refine y_blk 1 tq_X10_place (z := (48, [(0, .ref (ad (360 + k))), (1, .int minute)], [.int (rV ρ (380 + k) (Int32.toNatClampNeg (((minute - (rF ρ (360 + k) 0)) / (rF ρ (360 + k) 2)) - ((minute - (rF ρ (360 + k) 0)) / (rF ρ (360 + k) 2)) / (Int32.ofNat (rZ ρ (380 + k))) * (Int32.ofNat (rZ ρ (380 + k))))))])) rfl ?_
    exact y_iret tq_X10_place rfl rfl (⟨⟨_, hX.gcc (by assumption) (by assumption), rfl⟩, rfl⟩)
