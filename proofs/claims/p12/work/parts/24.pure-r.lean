/-! ===== contracts of the reference: what changes nothing ===== -/
theorem ymodn {x st : Int32} {s : Nat} (h1 : 1 ≤ s) (h2 : s ≤ 6) (h3 : 0 ≤ x.toInt) (h4 : 1 ≤ st.toInt) : 0 ≤ (x / st - x / st / Int32.ofNat s * Int32.ofNat s).toInt ∧ (x / st - x / st / Int32.ofNat s * Int32.ofNat s).toInt < s := by
  have e1 := ydivn h3 h4
  have e2 : 0 ≤ x.toInt / st.toInt := Int.ediv_nonneg h3 (by omega)
  have e3 : x.toInt / st.toInt ≤ x.toInt := Int.ediv_le_self _ h3
  have e4 := yrng x
  have e5 := yofn (n := s) (by omega)
  have e6 := ydivn (x := x / st) (w := Int32.ofNat s) (by rw [e1]; exact e2) (by rw [e5]; omega)
  rw [e1, e5] at e6
  generalize x.toInt / st.toInt = q at *
  have m1 := Int.mul_ediv_add_emod q s
  have m2 := Int.emod_nonneg q (show (s : Int) ≠ 0 by omega)
  have m3 := Int.emod_lt_of_pos q (show 0 < (s : Int) by omega)
  have m4 : (s : Int) * (q / s) = q / s * s := Int.mul_comm _ _
  have e7 : (x / st / Int32.ofNat s * Int32.ofNat s).toInt = q / s * s := by rw [ymul (by rw [e6, e5]; omega) (by rw [e6, e5]; omega), e6, e5]
  rw [ysub (by rw [e7, e1]; omega) (by rw [e7, e1]; omega), e7, e1]
  omega
theorem ydecm {i n : Int32} (h : ¬ i ≤ n) : ((i + (-1)).toInt - n.toInt).toNat < (i.toInt - n.toInt).toNat := by
  rw [yle] at h
  have h1 := yrng n
  have h2 := yrng i
  rw [yadd (by rw [yl_m1]; omega) (by rw [yl_m1]; omega), yl_m1]
  omega
section YMV
variable {aC : Nat → ClassId} {ic : Int32 → Nat} {de : Nat} {ad : Nat → Nat} {G : AH} {ρ : RS} {cell : Int32}
theorem ygeo (hX : atR aC ic de ad G ρ) (hc : rcell ρ cell) : 3 ≤ (rI ρ 1).toInt ∧ (rI ρ 1).toInt ≤ 8 ∧ 3 ≤ (rI ρ 2).toInt ∧ (rI ρ 2).toInt ≤ 8 ∧ (rZ ρ 201 : Int) = (rI ρ 1).toInt * (rI ρ 2).toInt := by
  rcases hX.2.1 with ⟨q, -⟩ | q
  · have h1 := hc.1
    have h2 := hc.2
    omega
  · exact q
theorem ycolt (hX : atR aC ic de ad G ρ) (hc : rcell ρ cell) : (cell - cell / rI ρ 1 * rI ρ 1).toInt = cell.toInt - cell.toInt / (rI ρ 1).toInt * (rI ρ 1).toInt := by
  obtain ⟨w1, w2, w3, w4, hN⟩ := ygeo hX hc
  have n64 := hX.2.n64
  obtain ⟨a1, a2⟩ := hc
  have a3 := a2
  rw [hN] at a3
  obtain ⟨p1, p2, p3, p4, p5⟩ := yrc (W := (rI ρ 1).toInt) (H := (rI ρ 2).toInt) (by omega) a1 a3
  have d1 := ydivn (x := cell) (w := rI ρ 1) a1 (by omega)
  have m1 : (cell / rI ρ 1 * rI ρ 1).toInt = cell.toInt / (rI ρ 1).toInt * (rI ρ 1).toInt := by rw [ymul (by rw [d1]; omega) (by rw [d1]; omega), d1]
  rw [ysub (by rw [m1]; omega) (by rw [m1]; omega), m1]
theorem ymv1 (hX : atR aC ic de ad G ρ) (hc : rcell ρ cell) (h : ¬ cell < rI ρ 1) : rcell ρ (cell - rI ρ 1) := by
  obtain ⟨w1, w2, w3, w4, hN⟩ := ygeo hX hc
  have n64 := hX.2.n64
  obtain ⟨a1, a2⟩ := hc
  rw [ylt] at h
  have e : (cell - rI ρ 1).toInt = cell.toInt - (rI ρ 1).toInt := ysub (by omega) (by omega)
  exact ⟨by omega, by omega⟩
theorem ymv2 (hX : atR aC ic de ad G ρ) (hc : rcell ρ cell) (h : ¬ rI ρ 1 - 1 ≤ cell - cell / rI ρ 1 * rI ρ 1) : rcell ρ (cell + 1) := by
  have g := ycolt hX hc
  obtain ⟨w1, w2, w3, w4, hN⟩ := ygeo hX hc
  have n64 := hX.2.n64
  obtain ⟨a1, a2⟩ := hc
  have a3 := a2
  rw [hN] at a3
  obtain ⟨p1, p2, p3, p4, p5⟩ := yrc (W := (rI ρ 1).toInt) (H := (rI ρ 2).toInt) (by omega) a1 a3
  rw [yle, g, ysub (by rw [yl_1]; omega) (by rw [yl_1]; omega), yl_1] at h
  have e : (cell + 1).toInt = cell.toInt + 1 := by rw [yadd (by rw [yl_1]; omega) (by rw [yl_1]; omega), yl_1]
  obtain ⟨z1, z2⟩ := yrcN (W := (rI ρ 1).toInt) (H := (rI ρ 2).toInt) (r := cell.toInt / (rI ρ 1).toInt) (c := cell.toInt - cell.toInt / (rI ρ 1).toInt * (rI ρ 1).toInt + 1) p1 p2 (by omega) (by omega)
  exact ⟨by omega, by omega⟩
theorem ymv3 (hX : atR aC ic de ad G ρ) (hc : rcell ρ cell) (h : ¬ Int32.ofNat (rZ ρ 201) - rI ρ 1 ≤ cell) : rcell ρ (cell + rI ρ 1) := by
  obtain ⟨w1, w2, w3, w4, hN⟩ := ygeo hX hc
  have n64 := hX.2.n64
  obtain ⟨a1, a2⟩ := hc
  have e9 := yofn (n := rZ ρ 201) (by omega)
  rw [yle, ysub (by rw [e9]; omega) (by rw [e9]; omega), e9] at h
  have e : (cell + rI ρ 1).toInt = cell.toInt + (rI ρ 1).toInt := yadd (by omega) (by omega)
  exact ⟨by omega, by omega⟩
theorem ymv4 (hX : atR aC ic de ad G ρ) (hc : rcell ρ cell) (h : ¬ cell - cell / rI ρ 1 * rI ρ 1 ≤ 0) : rcell ρ (cell - 1) := by
  have g := ycolt hX hc
  obtain ⟨w1, w2, w3, w4, hN⟩ := ygeo hX hc
  have n64 := hX.2.n64
  obtain ⟨a1, a2⟩ := hc
  have a3 := a2
  rw [hN] at a3
  obtain ⟨p1, p2, p3, p4, p5⟩ := yrc (W := (rI ρ 1).toInt) (H := (rI ρ 2).toInt) (by omega) a1 a3
  rw [yle, g, yl_0] at h
  have e : (cell - 1).toInt = cell.toInt - 1 := by rw [ysub (by rw [yl_1]; omega) (by rw [yl_1]; omega), yl_1]
  have z : 0 ≤ cell.toInt / (rI ρ 1).toInt * (rI ρ 1).toInt := Int.mul_nonneg p1 (by omega)
  exact ⟨by omega, by omega⟩
end YMV
set_option maxHeartbeats 4000000 in
set_option maxRecDepth 100000 in
theorem m_X10_place {l : Launch} {S0 : State} {A0 : Array Value} {D : va_G} {aC : Nat → ClassId} {ic : Int32 → Nat} {de : Nat} {ad : Nat → Nat} {G : AH} {ρ : RS} (hS : yS l S0 A0 D aC) (hI : yIc S0 ic de) (hX : atR aC ic de ad G ρ) {k : Nat} (hk : k < rZ ρ 212) (minute : Int32) : yM l S0 D yX10_place cX10_place 2 (some .int) 18 0 0 [.ref (ad (360 + k)), .int minute] G (fun r G1 => (∃ v : Int32, ((v = -1 ∨ rcell ρ v) ∧ v = rpl ρ k minute) ∧ r = some (.int v)) ∧ G1 = G) (fun _ _ => False) := by
  refine yM.ofK K_X10_place rfl (by decide) (Nat.le_of_ble_eq_true rfl) ?_
  have hg := hX.2.2.2.1 k hk
  obtain ⟨hg0, hg1, hg2, hg3, hg4⟩ := hg
  refine y_blk 2 tq_X10_place (z := (2, [(0, .ref (ad (360 + k))), (1, .int minute)], [.int minute, .ref (ad (360 + k))])) rfl ?_
  refine y_callV hS tq_X10_place rfl (As := [.int minute]) rfl cv_X10_44 (hX.gu (by assumption)) (m_X10_isOnDuty hS hI hX (k := k) (by assumption) minute) rfl (by decide) (Nat.le_of_ble_eq_true rfl) (fun r2 Gc2 q2 => ?_) (fun E9 G9 h9 => h9.elim)
  obtain ⟨rfl, eG2⟩ := q2
  have eG2 := eG2.symm
  subst eG2
  refine y_blk 0 tq_X10_place (z := (5, [(0, .ref (ad (360 + k))), (1, .int minute)], [.int (if (rF ρ (360 + k) 0) ≤ minute ∧ minute ≤ (rF ρ (360 + k) 1) then 1 else 0)])) rfl ?_
  refine y_if_eq tq_X10_place 47 rfl rfl (fun c5 => ?_) (fun c5 => ?_)
  · skip
    refine y_blk 1 tq_X10_place (z := (48, [(0, .ref (ad (360 + k))), (1, .int minute)], [.int (-1)])) rfl ?_
    exact y_iret tq_X10_place rfl rfl (⟨⟨_, ⟨Or.inl rfl, (if_neg (rif0 c5)).symm⟩, rfl⟩, rfl⟩)
  · skip
    have hin := yif1 c5
    have h60 : 0 ≤ (minute - rF ρ (360 + k) 0).toInt := by
      have z1 := yle.mp hin.1
      have z2 := yrng minute
      rw [ysub (by omega) (by omega)]
      omega
    obtain ⟨hq0, hq1⟩ := ymodn (s := rZ ρ (380 + k)) hg2 (by omega) h60 hg1
    refine y_blk 1 tq_X10_place (z := (9, [(0, .ref (ad (360 + k))), (1, .int minute)], [.ref (ad (360 + k))])) rfl ?_
    refine y_get hS tq_X10_place (v := .ref (ad (380 + k))) rfl fg_X10_12_X10 (hX.gu (by assumption)) rfl ?_
    refine y_blk 2 tq_X10_place (z := (14, [(0, .ref (ad (360 + k))), (1, .int minute)], [.ref (ad (360 + k)), .int minute, .ref (ad (380 + k))])) rfl ?_
    refine y_get hS tq_X10_place (v := .int (rF ρ (360 + k) 0)) rfl fg_X10_30_X10 (hX.gu (by assumption)) rfl ?_
    refine y_blk 2 tq_X10_place (z := (19, [(0, .ref (ad (360 + k))), (1, .int minute)], [.ref (ad (360 + k)), .int (minute - (rF ρ (360 + k) 0)), .ref (ad (380 + k))])) rfl ?_
    refine y_get hS tq_X10_place (v := .int (rF ρ (360 + k) 2)) rfl fg_X10_37_X10 (hX.gu (by assumption)) rfl ?_
    refine y_blk 0 tq_X10_place (z := (22, [(0, .ref (ad (360 + k))), (1, .int minute)], [.int (rF ρ (360 + k) 2), .int (minute - (rF ρ (360 + k) 0)), .ref (ad (380 + k))])) rfl ?_
    refine y_idiv tq_X10_place rfl (by intro q; rw [q, yl_0] at hg1; omega) ?_
    refine y_blk 1 tq_X10_place (z := (24, [(0, .ref (ad (360 + k))), (1, .int minute)], [.ref (ad (360 + k)), .int ((minute - (rF ρ (360 + k) 0)) / (rF ρ (360 + k) 2)), .ref (ad (380 + k))])) rfl ?_
    refine y_get hS tq_X10_place (v := .ref (ad (380 + k))) rfl fg_X10_12_X10 (hX.gu (by assumption)) rfl ?_
    refine y_blk 0 tq_X10_place (z := (27, [(0, .ref (ad (360 + k))), (1, .int minute)], [.ref (ad (380 + k)), .int ((minute - (rF ρ (360 + k) 0)) / (rF ρ (360 + k) 2)), .ref (ad (380 + k))])) rfl ?_
    refine y_callF hS tq_X10_place rfl (As := []) rfl cf_X10_48 (Or.inl ⟨_, (hX.gl (by assumption)).1⟩) (m_Jsize hS (hX.gl (by assumption))) rfl (by decide) (Nat.le_of_ble_eq_true rfl) (fun r27 Gc27 q27 => ?_) (fun _ _ h9 => h9.elim)
    obtain ⟨rfl, eG27⟩ := q27
    have eG27 := eG27.symm
    subst eG27
    refine y_blk 0 tq_X10_place (z := (32, [(0, .ref (ad (360 + k))), (1, .int minute)], [.int (Int32.ofNat (rZ ρ (380 + k))), .int ((minute - (rF ρ (360 + k) 0)) / (rF ρ (360 + k) 2)), .ref (ad (380 + k))])) rfl ?_
    refine y_irem tq_X10_place rfl (by intro q; have q2 := congrArg Int32.toInt q; rw [yofn (by omega), yl_0] at q2; omega) ?_
    refine y_blk 0 tq_X10_place (z := (33, [(0, .ref (ad (360 + k))), (1, .int minute)], [.int (((minute - (rF ρ (360 + k) 0)) / (rF ρ (360 + k) 2)) - ((minute - (rF ρ (360 + k) 0)) / (rF ρ (360 + k) 2)) / (Int32.ofNat (rZ ρ (380 + k))) * (Int32.ofNat (rZ ρ (380 + k)))), .ref (ad (380 + k))])) rfl ?_
    refine y_callF hS tq_X10_place rfl (As := [.int (((minute - (rF ρ (360 + k) 0)) / (rF ρ (360 + k) 2)) - ((minute - (rF ρ (360 + k) 0)) / (rF ρ (360 + k) 2)) / (Int32.ofNat (rZ ρ (380 + k))) * (Int32.ofNat (rZ ρ (380 + k))))]) rfl cf_X10_52 (Or.inl ⟨_, (hX.gl (by assumption)).1⟩) (m_Rgc hS hX (by assumption) (by assumption) (by assumption)) rfl (by decide) (Nat.le_of_ble_eq_true rfl) (fun r33 Gc33 q33 => ?_) (fun _ _ h9 => h9.elim)
    obtain ⟨rfl, eG33⟩ := q33
    have eG33 := eG33.symm
    subst eG33
    have d33 : (Int32.toNatClampNeg (((minute - (rF ρ (360 + k) 0)) / (rF ρ (360 + k) 2)) - ((minute - (rF ρ (360 + k) 0)) / (rF ρ (360 + k) 2)) / (Int32.ofNat (rZ ρ (380 + k))) * (Int32.ofNat (rZ ρ (380 + k))))) < rZ ρ (380 + k) := yIx (by assumption) (by assumption)
    refine y_blk 0 tq_X10_place (z := (38, [(0, .ref (ad (360 + k))), (1, .int minute)], [.ref (ic (rV ρ (380 + k) (Int32.toNatClampNeg (((minute - (rF ρ (360 + k) 0)) / (rF ρ (360 + k) 2)) - ((minute - (rF ρ (360 + k) 0)) / (rF ρ (360 + k) 2)) / (Int32.ofNat (rZ ρ (380 + k))) * (Int32.ofNat (rZ ρ (380 + k)))))))])) rfl ?_
    refine y_castI hS tq_X10_place rfl kc_X10_19 (hX.gc hI (by assumption) (by assumption)) ?_
    refine y_blk 0 tq_X10_place (z := (41, [(0, .ref (ad (360 + k))), (1, .int minute)], [.ref (ic (rV ρ (380 + k) (Int32.toNatClampNeg (((minute - (rF ρ (360 + k) 0)) / (rF ρ (360 + k) 2)) - ((minute - (rF ρ (360 + k) 0)) / (rF ρ (360 + k) 2)) / (Int32.ofNat (rZ ρ (380 + k))) * (Int32.ofNat (rZ ρ (380 + k)))))))])) rfl ?_
    refine y_callVO hS tq_X10_place rfl (As := []) rfl cv_X10_56 (yIntO (hX.gc hI (by assumption) (by assumption))) (m_JintValue hS (hX.gc hI (by assumption) (by assumption))) rfl (by decide) (Nat.le_of_ble_eq_true rfl) (fun r41 Gc41 q41 => ?_) (fun _ _ h9 => h9.elim)
    obtain ⟨rfl, eG41⟩ := q41
    have eG41 := eG41.symm
    subst eG41
    refine y_blk 1 tq_X10_place (z := (48, [(0, .ref (ad (360 + k))), (1, .int minute)], [.int (rV ρ (380 + k) (Int32.toNatClampNeg (((minute - (rF ρ (360 + k) 0)) / (rF ρ (360 + k) 2)) - ((minute - (rF ρ (360 + k) 0)) / (rF ρ (360 + k) 2)) / (Int32.ofNat (rZ ρ (380 + k))) * (Int32.ofNat (rZ ρ (380 + k))))))])) rfl ?_
    exact y_iret tq_X10_place rfl rfl (⟨⟨_, ⟨by first | exact Or.inr (hX.gcc (by assumption) (by assumption)), (if_pos hin).symm⟩, rfl⟩, rfl⟩)
set_option maxHeartbeats 4000000 in
set_option maxRecDepth 100000 in
theorem m_X11_where {l : Launch} {S0 : State} {A0 : Array Value} {D : va_G} {aC : Nat → ClassId} {ic : Int32 → Nat} {de : Nat} {ad : Nat → Nat} {G : AH} {ρ : RS} (hS : yS l S0 A0 D aC) (hI : yIc S0 ic de) (hX : atR aC ic de ad G ρ) {k : Nat} (hk : k < rZ ρ 215) (minute : Int32) (hm : minute.toInt < 240) : yM l S0 D yX11_where cX11_where 2 (some .int) 16 0 0 [.ref (ad (420 + k)), .int minute] G (fun r G1 => (∃ v : Int32, ((v = -1 ∨ rcell ρ v) ∧ (0 ≤ minute.toInt → v = rwh ρ k (Int32.toNatClampNeg minute))) ∧ r = some (.int v)) ∧ G1 = G) (fun _ _ => False) := by
  refine yM.ofK K_X11_where rfl (by decide) (Nat.le_of_ble_eq_true rfl) ?_
  have hf0 := (hX.2.2.2.2.1 k hk).1
  refine y_blk 2 tq_X11_where (z := (2, [(0, .ref (ad (420 + k))), (1, .int minute)], [.ref (ad (420 + k)), .int minute])) rfl ?_
  refine y_get hS tq_X11_where (v := .int (rF ρ (420 + k) 0)) rfl fg_X11_19_X11 (hX.in (by assumption)) rfl ?_
  refine y_blk 0 tq_X11_where (z := (5, [(0, .ref (ad (420 + k))), (1, .int minute)], [.int (rF ρ (420 + k) 0), .int minute])) rfl ?_
  refine y_icmp_ge tq_X11_where 12 rfl rfl (fun c5 => ?_) (fun c5 => ?_)
  · skip
    have hf1 := yle.mp c5
    have hf2 : 0 ≤ minute.toInt := by omega
    refine y_blk 1 tq_X11_where (z := (13, [(0, .ref (ad (420 + k))), (1, .int minute)], [.ref (ad (420 + k))])) rfl ?_
    refine y_get hS tq_X11_where (v := .ref (ad (440 + k))) rfl fg_X11_9_X11 (hX.in (by assumption)) rfl ?_
    refine y_blk 1 tq_X11_where (z := (17, [(0, .ref (ad (420 + k))), (1, .int minute)], [.int minute, .ref (ad (440 + k))])) rfl ?_
    refine y_iald hS tq_X11_where rfl (hX.wa (by assumption)) (by first | exact yIn (by decide) (by decide) | exact yIn (by assumption) (by assumption) | (exact yIn (by omega) (by omega))) ?_
    refine y_blk 0 tq_X11_where (z := (18, [(0, .ref (ad (420 + k))), (1, .int minute)], [.int ((rV ρ (440 + k)) (Int32.toNatClampNeg minute))])) rfl ?_
    exact y_iret tq_X11_where rfl rfl (⟨⟨_, ⟨by first | exact Or.inr (hX.wac hk hf1 hm), fun h0 => (if_neg (by show ¬ ((minute.toInt.toNat : Nat) : Int) < _; omega)).symm⟩, rfl⟩, rfl⟩)
  · skip
    have hf1 := Int32.not_lt.mp (fun q => c5 (Int32.le_of_lt q))
    refine y_blk 2 tq_X11_where (z := (18, [(0, .ref (ad (420 + k))), (1, .int minute)], [.int (-1)])) rfl ?_
    exact y_iret tq_X11_where rfl rfl (⟨⟨_, ⟨Or.inl rfl, fun h0 => (if_pos (by rw [yle] at c5; show ((minute.toInt.toNat : Nat) : Int) < _; omega)).symm⟩, rfl⟩, rfl⟩)
set_option maxHeartbeats 4000000 in
set_option maxRecDepth 100000 in
theorem m_X12_apart {l : Launch} {S0 : State} {A0 : Array Value} {D : va_G} {aC : Nat → ClassId} {ic : Int32 → Nat} {de : Nat} {ad : Nat → Nat} {G : AH} {ρ : RS} (hS : yS l S0 A0 D aC) (hI : yIc S0 ic de) (hX : atR aC ic de ad G ρ) (one : Int32) (other : Int32) (hone : rcell ρ one) : yM l S0 D yX12_apart cX12_apart 3 (some .int) 16 0 0 [.ref (ad 200), .int one, .int other] G (fun r G1 => r = some (.int (if (yab ((one / (rI ρ 1)) - (other / (rI ρ 1)))) < (yab ((one - one / (rI ρ 1) * (rI ρ 1)) - (other - other / (rI ρ 1) * (rI ρ 1)))) then (yab ((one - one / (rI ρ 1) * (rI ρ 1)) - (other - other / (rI ρ 1) * (rI ρ 1)))) else (yab ((one / (rI ρ 1)) - (other / (rI ρ 1)))))) ∧ G1 = G) (fun _ _ => False) := by
  refine yM.ofK K_X12_apart rfl (by decide) (Nat.le_of_ble_eq_true rfl) ?_
  refine y_blk 2 tq_X12_apart (z := (2, [(0, .ref (ad 200)), (1, .int one), (2, .int other)], [.ref (ad 200), .int one])) rfl ?_
  refine y_get hS tq_X12_apart (v := .int (rI ρ 1)) rfl fg_X12_92_X12 hX.m rfl ?_
  refine y_blk 0 tq_X12_apart (z := (5, [(0, .ref (ad 200)), (1, .int one), (2, .int other)], [.int (rI ρ 1), .int one])) rfl ?_
  refine y_idiv tq_X12_apart rfl (by first | exact rcell.w hX hone | exact rcell.w hX hcell | decide) ?_
  refine y_blk 2 tq_X12_apart (z := (8, [(0, .ref (ad 200)), (1, .int one), (2, .int other)], [.ref (ad 200), .int other, .int (one / (rI ρ 1))])) rfl ?_
  refine y_get hS tq_X12_apart (v := .int (rI ρ 1)) rfl fg_X12_92_X12 hX.m rfl ?_
  refine y_blk 0 tq_X12_apart (z := (11, [(0, .ref (ad 200)), (1, .int one), (2, .int other)], [.int (rI ρ 1), .int other, .int (one / (rI ρ 1))])) rfl ?_
  refine y_idiv tq_X12_apart rfl (by first | exact rcell.w hX hone | exact rcell.w hX hcell | decide) ?_
  refine y_blk 1 tq_X12_apart (z := (13, [(0, .ref (ad 200)), (1, .int one), (2, .int other)], [.int ((one / (rI ρ 1)) - (other / (rI ρ 1)))])) rfl ?_
  refine y_mabs hS tq_X12_apart rfl ⟨by decide +kernel, by decide +kernel⟩ (Nat.le_of_ble_eq_true rfl) (by decide) ?_
  refine y_blk 2 tq_X12_apart (z := (18, [(0, .ref (ad 200)), (1, .int one), (2, .int other)], [.ref (ad 200), .int one, .int (yab ((one / (rI ρ 1)) - (other / (rI ρ 1))))])) rfl ?_
  refine y_get hS tq_X12_apart (v := .int (rI ρ 1)) rfl fg_X12_92_X12 hX.m rfl ?_
  refine y_blk 0 tq_X12_apart (z := (21, [(0, .ref (ad 200)), (1, .int one), (2, .int other)], [.int (rI ρ 1), .int one, .int (yab ((one / (rI ρ 1)) - (other / (rI ρ 1))))])) rfl ?_
  refine y_irem tq_X12_apart rfl (by first | exact rcell.w hX hone | exact rcell.w hX hcell | decide) ?_
  refine y_blk 2 tq_X12_apart (z := (24, [(0, .ref (ad 200)), (1, .int one), (2, .int other)], [.ref (ad 200), .int other, .int (one - one / (rI ρ 1) * (rI ρ 1)), .int (yab ((one / (rI ρ 1)) - (other / (rI ρ 1))))])) rfl ?_
  refine y_get hS tq_X12_apart (v := .int (rI ρ 1)) rfl fg_X12_92_X12 hX.m rfl ?_
  refine y_blk 0 tq_X12_apart (z := (27, [(0, .ref (ad 200)), (1, .int one), (2, .int other)], [.int (rI ρ 1), .int other, .int (one - one / (rI ρ 1) * (rI ρ 1)), .int (yab ((one / (rI ρ 1)) - (other / (rI ρ 1))))])) rfl ?_
  refine y_irem tq_X12_apart rfl (by first | exact rcell.w hX hone | exact rcell.w hX hcell | decide) ?_
  refine y_blk 1 tq_X12_apart (z := (29, [(0, .ref (ad 200)), (1, .int one), (2, .int other)], [.int ((one - one / (rI ρ 1) * (rI ρ 1)) - (other - other / (rI ρ 1) * (rI ρ 1))), .int (yab ((one / (rI ρ 1)) - (other / (rI ρ 1))))])) rfl ?_
  refine y_mabs hS tq_X12_apart rfl ⟨by decide +kernel, by decide +kernel⟩ (Nat.le_of_ble_eq_true rfl) (by decide) ?_
  refine y_blk 0 tq_X12_apart (z := (32, [(0, .ref (ad 200)), (1, .int one), (2, .int other)], [.int (yab ((one - one / (rI ρ 1) * (rI ρ 1)) - (other - other / (rI ρ 1) * (rI ρ 1)))), .int (yab ((one / (rI ρ 1)) - (other / (rI ρ 1))))])) rfl ?_
  refine y_mmax hS tq_X12_apart rfl ⟨by decide +kernel, by decide +kernel⟩ (Nat.le_of_ble_eq_true rfl) (by decide) ?_
  refine y_blk 0 tq_X12_apart (z := (35, [(0, .ref (ad 200)), (1, .int one), (2, .int other)], [.int (if (yab ((one / (rI ρ 1)) - (other / (rI ρ 1)))) < (yab ((one - one / (rI ρ 1) * (rI ρ 1)) - (other - other / (rI ρ 1) * (rI ρ 1)))) then (yab ((one - one / (rI ρ 1) * (rI ρ 1)) - (other - other / (rI ρ 1) * (rI ρ 1)))) else (yab ((one / (rI ρ 1)) - (other / (rI ρ 1)))))])) rfl ?_
  exact y_iret tq_X12_apart rfl rfl (⟨rfl, rfl⟩)
set_option maxHeartbeats 4000000 in
set_option maxRecDepth 100000 in
theorem m_X12_isClear {l : Launch} {S0 : State} {A0 : Array Value} {D : va_G} {aC : Nat → ClassId} {ic : Int32 → Nat} {de : Nat} {ad : Nat → Nat} {G : AH} {ρ : RS} (hS : yS l S0 A0 D aC) (hI : yIc S0 ic de) (hX : atR aC ic de ad G ρ) (one : Int32) (other : Int32) (hone : rcell ρ one) (hother : rcell ρ other) : yM l S0 D yX12_isClear cX12_isClear 8 (some .boolean) 17 0 0 [.ref (ad 200), .int one, .int other] G (fun r G1 => (∃ v : Int32, (v = 0 ∨ v = 1) ∧ r = some (.int v)) ∧ G1 = G) (fun _ _ => False) := by
  refine yM.ofK K_X12_isClear rfl (by decide) (Nat.le_of_ble_eq_true rfl) ?_
  have J80 : ∀ (n80 : Nat) (v80_7 : Int32) (h0_80 : 1 ≤ v80_7.toInt) (hd : ((other / (rI ρ 1)) - (one / (rI ρ 1))) = 0 ∨ ((other - other / (rI ρ 1) * (rI ρ 1)) - (one - one / (rI ρ 1) * (rI ρ 1))) = 0 ∨ yab ((other / (rI ρ 1)) - (one / (rI ρ 1))) = yab ((other - other / (rI ρ 1) * (rI ρ 1)) - (one - one / (rI ρ 1) * (rI ρ 1)))), (((if (yab ((one / (rI ρ 1)) - (other / (rI ρ 1)))) < (yab ((one - one / (rI ρ 1) * (rI ρ 1)) - (other - other / (rI ρ 1) * (rI ρ 1)))) then (yab ((one - one / (rI ρ 1) * (rI ρ 1)) - (other - other / (rI ρ 1) * (rI ρ 1)))) else (yab ((one / (rI ρ 1)) - (other / (rI ρ 1))))) : Int32).toInt - v80_7.toInt).toNat = n80 → Y l S0 D K_X12_isClear 17 0 0 (fun r G1 => (∃ v : Int32, (v = 0 ∨ v = 1) ∧ r = some (.int v)) ∧ G1 = G) (fun _ _ => False) 80 [(0, .ref (ad 200)), (1, .int one), (2, .int other), (3, .int ((other / (rI ρ 1)) - (one / (rI ρ 1)))), (4, .int ((other - other / (rI ρ 1) * (rI ρ 1)) - (one - one / (rI ρ 1) * (rI ρ 1)))), (5, .int (if (yab ((one / (rI ρ 1)) - (other / (rI ρ 1)))) < (yab ((one - one / (rI ρ 1) * (rI ρ 1)) - (other - other / (rI ρ 1) * (rI ρ 1)))) then (yab ((one - one / (rI ρ 1) * (rI ρ 1)) - (other - other / (rI ρ 1) * (rI ρ 1)))) else (yab ((one / (rI ρ 1)) - (other / (rI ρ 1)))))), (6, .int (((ysg ((other / (rI ρ 1)) - (one / (rI ρ 1)))) * (rI ρ 1)) + (ysg ((other - other / (rI ρ 1) * (rI ρ 1)) - (one - one / (rI ρ 1) * (rI ρ 1)))))), (7, .int v80_7)] [] G 0 0 := by
    intro n80
    induction n80 using Nat.strongRecOn with
    | _ n80 ih80 =>
    intro v80_7 h0_80 hd hn80
    subst hn80
    refine y_blk 2 tq_X12_isClear (z := (84, [(0, .ref (ad 200)), (1, .int one), (2, .int other), (3, .int ((other / (rI ρ 1)) - (one / (rI ρ 1)))), (4, .int ((other - other / (rI ρ 1) * (rI ρ 1)) - (one - one / (rI ρ 1) * (rI ρ 1)))), (5, .int (if (yab ((one / (rI ρ 1)) - (other / (rI ρ 1)))) < (yab ((one - one / (rI ρ 1) * (rI ρ 1)) - (other - other / (rI ρ 1) * (rI ρ 1)))) then (yab ((one - one / (rI ρ 1) * (rI ρ 1)) - (other - other / (rI ρ 1) * (rI ρ 1)))) else (yab ((one / (rI ρ 1)) - (other / (rI ρ 1)))))), (6, .int (((ysg ((other / (rI ρ 1)) - (one / (rI ρ 1)))) * (rI ρ 1)) + (ysg ((other - other / (rI ρ 1) * (rI ρ 1)) - (one - one / (rI ρ 1) * (rI ρ 1)))))), (7, .int v80_7)], [.int (if (yab ((one / (rI ρ 1)) - (other / (rI ρ 1)))) < (yab ((one - one / (rI ρ 1) * (rI ρ 1)) - (other - other / (rI ρ 1) * (rI ρ 1)))) then (yab ((one - one / (rI ρ 1) * (rI ρ 1)) - (other - other / (rI ρ 1) * (rI ρ 1)))) else (yab ((one / (rI ρ 1)) - (other / (rI ρ 1))))), .int v80_7])) rfl ?_
    refine y_icmp_ge tq_X12_isClear 127 rfl rfl (fun c84 => ?_) (fun c84 => ?_)
    · skip
      refine y_blk 1 tq_X12_isClear (z := (128, [(0, .ref (ad 200)), (1, .int one), (2, .int other), (3, .int ((other / (rI ρ 1)) - (one / (rI ρ 1)))), (4, .int ((other - other / (rI ρ 1) * (rI ρ 1)) - (one - one / (rI ρ 1) * (rI ρ 1)))), (5, .int (if (yab ((one / (rI ρ 1)) - (other / (rI ρ 1)))) < (yab ((one - one / (rI ρ 1) * (rI ρ 1)) - (other - other / (rI ρ 1) * (rI ρ 1)))) then (yab ((one - one / (rI ρ 1) * (rI ρ 1)) - (other - other / (rI ρ 1) * (rI ρ 1)))) else (yab ((one / (rI ρ 1)) - (other / (rI ρ 1)))))), (6, .int (((ysg ((other / (rI ρ 1)) - (one / (rI ρ 1)))) * (rI ρ 1)) + (ysg ((other - other / (rI ρ 1) * (rI ρ 1)) - (one - one / (rI ρ 1) * (rI ρ 1)))))), (7, .int v80_7)], [.int 1])) rfl ?_
      exact y_zret tq_X12_isClear rfl rfl (rfl) (⟨⟨_, (Or.inr rfl), rfl⟩, rfl⟩)
    · skip
      obtain ⟨hcc0, hcc1⟩ := yline hX hone hother hd rfl rfl h0_80 c84
      refine y_blk 1 tq_X12_isClear (z := (88, [(0, .ref (ad 200)), (1, .int one), (2, .int other), (3, .int ((other / (rI ρ 1)) - (one / (rI ρ 1)))), (4, .int ((other - other / (rI ρ 1) * (rI ρ 1)) - (one - one / (rI ρ 1) * (rI ρ 1)))), (5, .int (if (yab ((one / (rI ρ 1)) - (other / (rI ρ 1)))) < (yab ((one - one / (rI ρ 1) * (rI ρ 1)) - (other - other / (rI ρ 1) * (rI ρ 1)))) then (yab ((one - one / (rI ρ 1) * (rI ρ 1)) - (other - other / (rI ρ 1) * (rI ρ 1)))) else (yab ((one / (rI ρ 1)) - (other / (rI ρ 1)))))), (6, .int (((ysg ((other / (rI ρ 1)) - (one / (rI ρ 1)))) * (rI ρ 1)) + (ysg ((other - other / (rI ρ 1) * (rI ρ 1)) - (one - one / (rI ρ 1) * (rI ρ 1)))))), (7, .int v80_7)], [.ref (ad 200)])) rfl ?_
      refine y_get hS tq_X12_isClear (v := .ref (ad 201)) rfl fg_X12_7_X12 hX.m rfl ?_
      refine y_blk 5 tq_X12_isClear (z := (98, [(0, .ref (ad 200)), (1, .int one), (2, .int other), (3, .int ((other / (rI ρ 1)) - (one / (rI ρ 1)))), (4, .int ((other - other / (rI ρ 1) * (rI ρ 1)) - (one - one / (rI ρ 1) * (rI ρ 1)))), (5, .int (if (yab ((one / (rI ρ 1)) - (other / (rI ρ 1)))) < (yab ((one - one / (rI ρ 1) * (rI ρ 1)) - (other - other / (rI ρ 1) * (rI ρ 1)))) then (yab ((one - one / (rI ρ 1) * (rI ρ 1)) - (other - other / (rI ρ 1) * (rI ρ 1)))) else (yab ((one / (rI ρ 1)) - (other / (rI ρ 1)))))), (6, .int (((ysg ((other / (rI ρ 1)) - (one / (rI ρ 1)))) * (rI ρ 1)) + (ysg ((other - other / (rI ρ 1) * (rI ρ 1)) - (one - one / (rI ρ 1) * (rI ρ 1)))))), (7, .int v80_7)], [.int (one + (v80_7 * (((ysg ((other / (rI ρ 1)) - (one / (rI ρ 1)))) * (rI ρ 1)) + (ysg ((other - other / (rI ρ 1) * (rI ρ 1)) - (one - one / (rI ρ 1) * (rI ρ 1))))))), .ref (ad 201)])) rfl ?_
      refine y_iald hS tq_X12_isClear rfl hX.ki (by first | exact yIn (by decide) (by decide) | exact yIn (by assumption) (by assumption) | (exact yIn (by omega) (by omega))) ?_
      refine y_blk 1 tq_X12_isClear (z := (100, [(0, .ref (ad 200)), (1, .int one), (2, .int other), (3, .int ((other / (rI ρ 1)) - (one / (rI ρ 1)))), (4, .int ((other - other / (rI ρ 1) * (rI ρ 1)) - (one - one / (rI ρ 1) * (rI ρ 1)))), (5, .int (if (yab ((one / (rI ρ 1)) - (other / (rI ρ 1)))) < (yab ((one - one / (rI ρ 1) * (rI ρ 1)) - (other - other / (rI ρ 1) * (rI ρ 1)))) then (yab ((one - one / (rI ρ 1) * (rI ρ 1)) - (other - other / (rI ρ 1) * (rI ρ 1)))) else (yab ((one / (rI ρ 1)) - (other / (rI ρ 1)))))), (6, .int (((ysg ((other / (rI ρ 1)) - (one / (rI ρ 1)))) * (rI ρ 1)) + (ysg ((other - other / (rI ρ 1) * (rI ρ 1)) - (one - one / (rI ρ 1) * (rI ρ 1)))))), (7, .int v80_7)], [.int 1, .int ((rV ρ 201) (Int32.toNatClampNeg (one + (v80_7 * (((ysg ((other / (rI ρ 1)) - (one / (rI ρ 1)))) * (rI ρ 1)) + (ysg ((other - other / (rI ρ 1) * (rI ρ 1)) - (one - one / (rI ρ 1) * (rI ρ 1)))))))))])) rfl ?_
      refine y_icmp_eq tq_X12_isClear 119 rfl rfl (fun c100 => ?_) (fun c100 => ?_)
      · skip
        refine y_blk 1 tq_X12_isClear (z := (120, [(0, .ref (ad 200)), (1, .int one), (2, .int other), (3, .int ((other / (rI ρ 1)) - (one / (rI ρ 1)))), (4, .int ((other - other / (rI ρ 1) * (rI ρ 1)) - (one - one / (rI ρ 1) * (rI ρ 1)))), (5, .int (if (yab ((one / (rI ρ 1)) - (other / (rI ρ 1)))) < (yab ((one - one / (rI ρ 1) * (rI ρ 1)) - (other - other / (rI ρ 1) * (rI ρ 1)))) then (yab ((one - one / (rI ρ 1) * (rI ρ 1)) - (other - other / (rI ρ 1) * (rI ρ 1)))) else (yab ((one / (rI ρ 1)) - (other / (rI ρ 1)))))), (6, .int (((ysg ((other / (rI ρ 1)) - (one / (rI ρ 1)))) * (rI ρ 1)) + (ysg ((other - other / (rI ρ 1) * (rI ρ 1)) - (one - one / (rI ρ 1) * (rI ρ 1)))))), (7, .int v80_7)], [.int 0])) rfl ?_
        exact y_zret tq_X12_isClear rfl rfl (rfl) (⟨⟨_, (Or.inl rfl), rfl⟩, rfl⟩)
      · skip
        refine y_blk 1 tq_X12_isClear (z := (104, [(0, .ref (ad 200)), (1, .int one), (2, .int other), (3, .int ((other / (rI ρ 1)) - (one / (rI ρ 1)))), (4, .int ((other - other / (rI ρ 1) * (rI ρ 1)) - (one - one / (rI ρ 1) * (rI ρ 1)))), (5, .int (if (yab ((one / (rI ρ 1)) - (other / (rI ρ 1)))) < (yab ((one - one / (rI ρ 1) * (rI ρ 1)) - (other - other / (rI ρ 1) * (rI ρ 1)))) then (yab ((one - one / (rI ρ 1) * (rI ρ 1)) - (other - other / (rI ρ 1) * (rI ρ 1)))) else (yab ((one / (rI ρ 1)) - (other / (rI ρ 1)))))), (6, .int (((ysg ((other / (rI ρ 1)) - (one / (rI ρ 1)))) * (rI ρ 1)) + (ysg ((other - other / (rI ρ 1) * (rI ρ 1)) - (one - one / (rI ρ 1) * (rI ρ 1)))))), (7, .int v80_7)], [.ref (ad 200)])) rfl ?_
        refine y_get hS tq_X12_isClear (v := .ref (ad 201)) rfl fg_X12_7_X12 hX.m rfl ?_
        refine y_blk 5 tq_X12_isClear (z := (114, [(0, .ref (ad 200)), (1, .int one), (2, .int other), (3, .int ((other / (rI ρ 1)) - (one / (rI ρ 1)))), (4, .int ((other - other / (rI ρ 1) * (rI ρ 1)) - (one - one / (rI ρ 1) * (rI ρ 1)))), (5, .int (if (yab ((one / (rI ρ 1)) - (other / (rI ρ 1)))) < (yab ((one - one / (rI ρ 1) * (rI ρ 1)) - (other - other / (rI ρ 1) * (rI ρ 1)))) then (yab ((one - one / (rI ρ 1) * (rI ρ 1)) - (other - other / (rI ρ 1) * (rI ρ 1)))) else (yab ((one / (rI ρ 1)) - (other / (rI ρ 1)))))), (6, .int (((ysg ((other / (rI ρ 1)) - (one / (rI ρ 1)))) * (rI ρ 1)) + (ysg ((other - other / (rI ρ 1) * (rI ρ 1)) - (one - one / (rI ρ 1) * (rI ρ 1)))))), (7, .int v80_7)], [.int (one + (v80_7 * (((ysg ((other / (rI ρ 1)) - (one / (rI ρ 1)))) * (rI ρ 1)) + (ysg ((other - other / (rI ρ 1) * (rI ρ 1)) - (one - one / (rI ρ 1) * (rI ρ 1))))))), .ref (ad 201)])) rfl ?_
        refine y_iald hS tq_X12_isClear rfl hX.ki (by first | exact yIn (by decide) (by decide) | exact yIn (by assumption) (by assumption) | (exact yIn (by omega) (by omega))) ?_
        refine y_blk 1 tq_X12_isClear (z := (116, [(0, .ref (ad 200)), (1, .int one), (2, .int other), (3, .int ((other / (rI ρ 1)) - (one / (rI ρ 1)))), (4, .int ((other - other / (rI ρ 1) * (rI ρ 1)) - (one - one / (rI ρ 1) * (rI ρ 1)))), (5, .int (if (yab ((one / (rI ρ 1)) - (other / (rI ρ 1)))) < (yab ((one - one / (rI ρ 1) * (rI ρ 1)) - (other - other / (rI ρ 1) * (rI ρ 1)))) then (yab ((one - one / (rI ρ 1) * (rI ρ 1)) - (other - other / (rI ρ 1) * (rI ρ 1)))) else (yab ((one / (rI ρ 1)) - (other / (rI ρ 1)))))), (6, .int (((ysg ((other / (rI ρ 1)) - (one / (rI ρ 1)))) * (rI ρ 1)) + (ysg ((other - other / (rI ρ 1) * (rI ρ 1)) - (one - one / (rI ρ 1) * (rI ρ 1)))))), (7, .int v80_7)], [.int 2, .int ((rV ρ 201) (Int32.toNatClampNeg (one + (v80_7 * (((ysg ((other / (rI ρ 1)) - (one / (rI ρ 1)))) * (rI ρ 1)) + (ysg ((other - other / (rI ρ 1) * (rI ρ 1)) - (one - one / (rI ρ 1) * (rI ρ 1)))))))))])) rfl ?_
        refine y_icmp_ne tq_X12_isClear 121 rfl rfl (fun c116 => ?_) (fun c116 => ?_)
        · skip
          refine y_blk 2 tq_X12_isClear (z := (80, [(7, .int (v80_7 + 1)), (0, .ref (ad 200)), (1, .int one), (2, .int other), (3, .int ((other / (rI ρ 1)) - (one / (rI ρ 1)))), (4, .int ((other - other / (rI ρ 1) * (rI ρ 1)) - (one - one / (rI ρ 1) * (rI ρ 1)))), (5, .int (if (yab ((one / (rI ρ 1)) - (other / (rI ρ 1)))) < (yab ((one - one / (rI ρ 1) * (rI ρ 1)) - (other - other / (rI ρ 1) * (rI ρ 1)))) then (yab ((one - one / (rI ρ 1) * (rI ρ 1)) - (other - other / (rI ρ 1) * (rI ρ 1)))) else (yab ((one / (rI ρ 1)) - (other / (rI ρ 1)))))), (6, .int (((ysg ((other / (rI ρ 1)) - (one / (rI ρ 1)))) * (rI ρ 1)) + (ysg ((other - other / (rI ρ 1) * (rI ρ 1)) - (one - one / (rI ρ 1) * (rI ρ 1))))))], [])) rfl ?_
          refine y_pick (L2 := [(0, .ref (ad 200)), (1, .int one), (2, .int other), (3, .int ((other / (rI ρ 1)) - (one / (rI ρ 1)))), (4, .int ((other - other / (rI ρ 1) * (rI ρ 1)) - (one - one / (rI ρ 1) * (rI ρ 1)))), (5, .int (if (yab ((one / (rI ρ 1)) - (other / (rI ρ 1)))) < (yab ((one - one / (rI ρ 1) * (rI ρ 1)) - (other - other / (rI ρ 1) * (rI ρ 1)))) then (yab ((one - one / (rI ρ 1) * (rI ρ 1)) - (other - other / (rI ρ 1) * (rI ρ 1)))) else (yab ((one / (rI ρ 1)) - (other / (rI ρ 1)))))), (6, .int (((ysg ((other / (rI ρ 1)) - (one / (rI ρ 1)))) * (rI ρ 1)) + (ysg ((other - other / (rI ρ 1) * (rI ρ 1)) - (one - one / (rI ρ 1) * (rI ρ 1)))))), (7, .int (v80_7 + 1))]) [1, 2, 3, 4, 5, 6, 7, 0] rfl ?_
          exact ih80 _ (by exact ydec c84) (v80_7 + 1) (by first | decide | assumption | exact Int.le_refl _ | exact yposgeL (by assumption) c84) (by assumption) rfl
        · skip
          refine y_blk 1 tq_X12_isClear (z := (120, [(0, .ref (ad 200)), (1, .int one), (2, .int other), (3, .int ((other / (rI ρ 1)) - (one / (rI ρ 1)))), (4, .int ((other - other / (rI ρ 1) * (rI ρ 1)) - (one - one / (rI ρ 1) * (rI ρ 1)))), (5, .int (if (yab ((one / (rI ρ 1)) - (other / (rI ρ 1)))) < (yab ((one - one / (rI ρ 1) * (rI ρ 1)) - (other - other / (rI ρ 1) * (rI ρ 1)))) then (yab ((one - one / (rI ρ 1) * (rI ρ 1)) - (other - other / (rI ρ 1) * (rI ρ 1)))) else (yab ((one / (rI ρ 1)) - (other / (rI ρ 1)))))), (6, .int (((ysg ((other / (rI ρ 1)) - (one / (rI ρ 1)))) * (rI ρ 1)) + (ysg ((other - other / (rI ρ 1) * (rI ρ 1)) - (one - one / (rI ρ 1) * (rI ρ 1)))))), (7, .int v80_7)], [.int 0])) rfl ?_
          exact y_zret tq_X12_isClear rfl rfl (rfl) (⟨⟨_, (Or.inl rfl), rfl⟩, rfl⟩)
  have J52 : ∀ (hd : ((other / (rI ρ 1)) - (one / (rI ρ 1))) = 0 ∨ ((other - other / (rI ρ 1) * (rI ρ 1)) - (one - one / (rI ρ 1) * (rI ρ 1))) = 0 ∨ yab ((other / (rI ρ 1)) - (one / (rI ρ 1))) = yab ((other - other / (rI ρ 1) * (rI ρ 1)) - (one - one / (rI ρ 1) * (rI ρ 1)))), Y l S0 D K_X12_isClear 17 0 0 (fun r G1 => (∃ v : Int32, (v = 0 ∨ v = 1) ∧ r = some (.int v)) ∧ G1 = G) (fun _ _ => False) 52 [(0, .ref (ad 200)), (1, .int one), (2, .int other), (3, .int ((other / (rI ρ 1)) - (one / (rI ρ 1)))), (4, .int ((other - other / (rI ρ 1) * (rI ρ 1)) - (one - one / (rI ρ 1) * (rI ρ 1))))] [] G 0 0 := by
    intro hd
    refine y_blk 3 tq_X12_isClear (z := (55, [(0, .ref (ad 200)), (1, .int one), (2, .int other), (3, .int ((other / (rI ρ 1)) - (one / (rI ρ 1)))), (4, .int ((other - other / (rI ρ 1) * (rI ρ 1)) - (one - one / (rI ρ 1) * (rI ρ 1))))], [.int other, .int one, .ref (ad 200)])) rfl ?_
    refine y_callV hS tq_X12_isClear rfl (As := [.int one, .int other]) rfl cv_X12_104 hX.m (m_X12_apart hS hI hX one other (by first | (with_reducible assumption) | (with_reducible exact hX.lac (by assumption)) | (with_reducible exact hX.poc (by assumption)) | (with_reducible exact hX.wac (by assumption) (by assumption) (by omega)) | assumption | exact hX.lac (by assumption) | exact hX.poc (by assumption) | exact hX.wac (by assumption) (by assumption) (by omega))) rfl (by decide) (Nat.le_of_ble_eq_true rfl) (fun r55 Gc55 q55 => ?_) (fun E9 G9 h9 => h9.elim)
    obtain ⟨rfl, eG55⟩ := q55
    have eG55 := eG55.symm
    subst eG55
    refine y_blk 2 tq_X12_isClear (z := (61, [(5, .int (if (yab ((one / (rI ρ 1)) - (other / (rI ρ 1)))) < (yab ((one - one / (rI ρ 1) * (rI ρ 1)) - (other - other / (rI ρ 1) * (rI ρ 1)))) then (yab ((one - one / (rI ρ 1) * (rI ρ 1)) - (other - other / (rI ρ 1) * (rI ρ 1)))) else (yab ((one / (rI ρ 1)) - (other / (rI ρ 1)))))), (0, .ref (ad 200)), (1, .int one), (2, .int other), (3, .int ((other / (rI ρ 1)) - (one / (rI ρ 1)))), (4, .int ((other - other / (rI ρ 1) * (rI ρ 1)) - (one - one / (rI ρ 1) * (rI ρ 1))))], [.int ((other / (rI ρ 1)) - (one / (rI ρ 1)))])) rfl ?_
    refine y_callS hS tq_X12_isClear rfl (As := [.int ((other / (rI ρ 1)) - (one / (rI ρ 1)))]) rfl cs_X12_107 (m_J6_signum_0f7a4 hS ((other / (rI ρ 1)) - (one / (rI ρ 1)))) rfl (by decide) (Nat.le_of_ble_eq_true rfl) (fun r61 Gc61 q61 => ?_) (fun E9 G9 h9 => h9.elim)
    obtain ⟨rfl, eG61⟩ := q61
    have eG61 := eG61.symm
    subst eG61
    refine y_blk 1 tq_X12_isClear (z := (65, [(5, .int (if (yab ((one / (rI ρ 1)) - (other / (rI ρ 1)))) < (yab ((one - one / (rI ρ 1) * (rI ρ 1)) - (other - other / (rI ρ 1) * (rI ρ 1)))) then (yab ((one - one / (rI ρ 1) * (rI ρ 1)) - (other - other / (rI ρ 1) * (rI ρ 1)))) else (yab ((one / (rI ρ 1)) - (other / (rI ρ 1)))))), (0, .ref (ad 200)), (1, .int one), (2, .int other), (3, .int ((other / (rI ρ 1)) - (one / (rI ρ 1)))), (4, .int ((other - other / (rI ρ 1) * (rI ρ 1)) - (one - one / (rI ρ 1) * (rI ρ 1))))], [.ref (ad 200), .int (ysg ((other / (rI ρ 1)) - (one / (rI ρ 1))))])) rfl ?_
    refine y_get hS tq_X12_isClear (v := .int (rI ρ 1)) rfl fg_X12_92_X12 hX.m rfl ?_
    refine y_blk 2 tq_X12_isClear (z := (71, [(5, .int (if (yab ((one / (rI ρ 1)) - (other / (rI ρ 1)))) < (yab ((one - one / (rI ρ 1) * (rI ρ 1)) - (other - other / (rI ρ 1) * (rI ρ 1)))) then (yab ((one - one / (rI ρ 1) * (rI ρ 1)) - (other - other / (rI ρ 1) * (rI ρ 1)))) else (yab ((one / (rI ρ 1)) - (other / (rI ρ 1)))))), (0, .ref (ad 200)), (1, .int one), (2, .int other), (3, .int ((other / (rI ρ 1)) - (one / (rI ρ 1)))), (4, .int ((other - other / (rI ρ 1) * (rI ρ 1)) - (one - one / (rI ρ 1) * (rI ρ 1))))], [.int ((other - other / (rI ρ 1) * (rI ρ 1)) - (one - one / (rI ρ 1) * (rI ρ 1))), .int ((ysg ((other / (rI ρ 1)) - (one / (rI ρ 1)))) * (rI ρ 1))])) rfl ?_
    refine y_callS hS tq_X12_isClear rfl (As := [.int ((other - other / (rI ρ 1) * (rI ρ 1)) - (one - one / (rI ρ 1) * (rI ρ 1)))]) rfl cs_X12_107 (m_J6_signum_0f7a4 hS ((other - other / (rI ρ 1) * (rI ρ 1)) - (one - one / (rI ρ 1) * (rI ρ 1)))) rfl (by decide) (Nat.le_of_ble_eq_true rfl) (fun r71 Gc71 q71 => ?_) (fun E9 G9 h9 => h9.elim)
    obtain ⟨rfl, eG71⟩ := q71
    have eG71 := eG71.symm
    subst eG71
    refine y_blk 4 tq_X12_isClear (z := (80, [(7, .int 1), (6, .int (((ysg ((other / (rI ρ 1)) - (one / (rI ρ 1)))) * (rI ρ 1)) + (ysg ((other - other / (rI ρ 1) * (rI ρ 1)) - (one - one / (rI ρ 1) * (rI ρ 1)))))), (5, .int (if (yab ((one / (rI ρ 1)) - (other / (rI ρ 1)))) < (yab ((one - one / (rI ρ 1) * (rI ρ 1)) - (other - other / (rI ρ 1) * (rI ρ 1)))) then (yab ((one - one / (rI ρ 1) * (rI ρ 1)) - (other - other / (rI ρ 1) * (rI ρ 1)))) else (yab ((one / (rI ρ 1)) - (other / (rI ρ 1)))))), (0, .ref (ad 200)), (1, .int one), (2, .int other), (3, .int ((other / (rI ρ 1)) - (one / (rI ρ 1)))), (4, .int ((other - other / (rI ρ 1) * (rI ρ 1)) - (one - one / (rI ρ 1) * (rI ρ 1))))], [])) rfl ?_
    refine y_pick (L2 := [(0, .ref (ad 200)), (1, .int one), (2, .int other), (3, .int ((other / (rI ρ 1)) - (one / (rI ρ 1)))), (4, .int ((other - other / (rI ρ 1) * (rI ρ 1)) - (one - one / (rI ρ 1) * (rI ρ 1)))), (5, .int (if (yab ((one / (rI ρ 1)) - (other / (rI ρ 1)))) < (yab ((one - one / (rI ρ 1) * (rI ρ 1)) - (other - other / (rI ρ 1) * (rI ρ 1)))) then (yab ((one - one / (rI ρ 1) * (rI ρ 1)) - (other - other / (rI ρ 1) * (rI ρ 1)))) else (yab ((one / (rI ρ 1)) - (other / (rI ρ 1)))))), (6, .int (((ysg ((other / (rI ρ 1)) - (one / (rI ρ 1)))) * (rI ρ 1)) + (ysg ((other - other / (rI ρ 1) * (rI ρ 1)) - (one - one / (rI ρ 1) * (rI ρ 1)))))), (7, .int 1)]) [3, 4, 5, 6, 7, 2, 1, 0] rfl ?_
    exact J80 _ 1 (by first | decide | assumption | exact Int.le_refl _ | exact yposgeL (by assumption) c84) (by assumption) rfl
  refine y_blk 2 tq_X12_isClear (z := (2, [(0, .ref (ad 200)), (1, .int one), (2, .int other)], [.ref (ad 200), .int other])) rfl ?_
  refine y_get hS tq_X12_isClear (v := .int (rI ρ 1)) rfl fg_X12_92_X12 hX.m rfl ?_
  refine y_blk 0 tq_X12_isClear (z := (5, [(0, .ref (ad 200)), (1, .int one), (2, .int other)], [.int (rI ρ 1), .int other])) rfl ?_
  refine y_idiv tq_X12_isClear rfl (by first | exact rcell.w hX hone | exact rcell.w hX hcell | decide) ?_
  refine y_blk 2 tq_X12_isClear (z := (8, [(0, .ref (ad 200)), (1, .int one), (2, .int other)], [.ref (ad 200), .int one, .int (other / (rI ρ 1))])) rfl ?_
  refine y_get hS tq_X12_isClear (v := .int (rI ρ 1)) rfl fg_X12_92_X12 hX.m rfl ?_
  refine y_blk 0 tq_X12_isClear (z := (11, [(0, .ref (ad 200)), (1, .int one), (2, .int other)], [.int (rI ρ 1), .int one, .int (other / (rI ρ 1))])) rfl ?_
  refine y_idiv tq_X12_isClear rfl (by first | exact rcell.w hX hone | exact rcell.w hX hcell | decide) ?_
  refine y_blk 4 tq_X12_isClear (z := (16, [(3, .int ((other / (rI ρ 1)) - (one / (rI ρ 1)))), (0, .ref (ad 200)), (1, .int one), (2, .int other)], [.ref (ad 200), .int other])) rfl ?_
  refine y_get hS tq_X12_isClear (v := .int (rI ρ 1)) rfl fg_X12_92_X12 hX.m rfl ?_
  refine y_blk 0 tq_X12_isClear (z := (19, [(3, .int ((other / (rI ρ 1)) - (one / (rI ρ 1)))), (0, .ref (ad 200)), (1, .int one), (2, .int other)], [.int (rI ρ 1), .int other])) rfl ?_
  refine y_irem tq_X12_isClear rfl (by first | exact rcell.w hX hone | exact rcell.w hX hcell | decide) ?_
  refine y_blk 2 tq_X12_isClear (z := (22, [(3, .int ((other / (rI ρ 1)) - (one / (rI ρ 1)))), (0, .ref (ad 200)), (1, .int one), (2, .int other)], [.ref (ad 200), .int one, .int (other - other / (rI ρ 1) * (rI ρ 1))])) rfl ?_
  refine y_get hS tq_X12_isClear (v := .int (rI ρ 1)) rfl fg_X12_92_X12 hX.m rfl ?_
  refine y_blk 0 tq_X12_isClear (z := (25, [(3, .int ((other / (rI ρ 1)) - (one / (rI ρ 1)))), (0, .ref (ad 200)), (1, .int one), (2, .int other)], [.int (rI ρ 1), .int one, .int (other - other / (rI ρ 1) * (rI ρ 1))])) rfl ?_
  refine y_irem tq_X12_isClear rfl (by first | exact rcell.w hX hone | exact rcell.w hX hcell | decide) ?_
  refine y_blk 3 tq_X12_isClear (z := (30, [(4, .int ((other - other / (rI ρ 1) * (rI ρ 1)) - (one - one / (rI ρ 1) * (rI ρ 1)))), (3, .int ((other / (rI ρ 1)) - (one / (rI ρ 1)))), (0, .ref (ad 200)), (1, .int one), (2, .int other)], [.int ((other / (rI ρ 1)) - (one / (rI ρ 1)))])) rfl ?_
  refine y_if_eq tq_X12_isClear 52 rfl rfl (fun c30 => ?_) (fun c30 => ?_)
  · skip
    refine y_blk 0 tq_X12_isClear (z := (52, [(4, .int ((other - other / (rI ρ 1) * (rI ρ 1)) - (one - one / (rI ρ 1) * (rI ρ 1)))), (3, .int ((other / (rI ρ 1)) - (one / (rI ρ 1)))), (0, .ref (ad 200)), (1, .int one), (2, .int other)], [])) rfl ?_
    refine y_pick (L2 := [(0, .ref (ad 200)), (1, .int one), (2, .int other), (3, .int ((other / (rI ρ 1)) - (one / (rI ρ 1)))), (4, .int ((other - other / (rI ρ 1) * (rI ρ 1)) - (one - one / (rI ρ 1) * (rI ρ 1))))]) [2, 3, 4, 1, 0] rfl ?_
    exact J52 (by first | exact Or.inl c30 | exact Or.inr (Or.inl c35) | exact Or.inr (Or.inr c47))
  · skip
    refine y_blk 1 tq_X12_isClear (z := (35, [(4, .int ((other - other / (rI ρ 1) * (rI ρ 1)) - (one - one / (rI ρ 1) * (rI ρ 1)))), (3, .int ((other / (rI ρ 1)) - (one / (rI ρ 1)))), (0, .ref (ad 200)), (1, .int one), (2, .int other)], [.int ((other - other / (rI ρ 1) * (rI ρ 1)) - (one - one / (rI ρ 1) * (rI ρ 1)))])) rfl ?_
    refine y_if_eq tq_X12_isClear 52 rfl rfl (fun c35 => ?_) (fun c35 => ?_)
    · skip
      refine y_blk 0 tq_X12_isClear (z := (52, [(4, .int ((other - other / (rI ρ 1) * (rI ρ 1)) - (one - one / (rI ρ 1) * (rI ρ 1)))), (3, .int ((other / (rI ρ 1)) - (one / (rI ρ 1)))), (0, .ref (ad 200)), (1, .int one), (2, .int other)], [])) rfl ?_
      refine y_pick (L2 := [(0, .ref (ad 200)), (1, .int one), (2, .int other), (3, .int ((other / (rI ρ 1)) - (one / (rI ρ 1)))), (4, .int ((other - other / (rI ρ 1) * (rI ρ 1)) - (one - one / (rI ρ 1) * (rI ρ 1))))]) [2, 3, 4, 1, 0] rfl ?_
      exact J52 (by first | exact Or.inl c30 | exact Or.inr (Or.inl c35) | exact Or.inr (Or.inr c47))
    · skip
      refine y_blk 1 tq_X12_isClear (z := (39, [(4, .int ((other - other / (rI ρ 1) * (rI ρ 1)) - (one - one / (rI ρ 1) * (rI ρ 1)))), (3, .int ((other / (rI ρ 1)) - (one / (rI ρ 1)))), (0, .ref (ad 200)), (1, .int one), (2, .int other)], [.int ((other / (rI ρ 1)) - (one / (rI ρ 1)))])) rfl ?_
      refine y_mabs hS tq_X12_isClear rfl ⟨by decide +kernel, by decide +kernel⟩ (Nat.le_of_ble_eq_true rfl) (by decide) ?_
      refine y_blk 1 tq_X12_isClear (z := (44, [(4, .int ((other - other / (rI ρ 1) * (rI ρ 1)) - (one - one / (rI ρ 1) * (rI ρ 1)))), (3, .int ((other / (rI ρ 1)) - (one / (rI ρ 1)))), (0, .ref (ad 200)), (1, .int one), (2, .int other)], [.int ((other - other / (rI ρ 1) * (rI ρ 1)) - (one - one / (rI ρ 1) * (rI ρ 1))), .int (yab ((other / (rI ρ 1)) - (one / (rI ρ 1))))])) rfl ?_
      refine y_mabs hS tq_X12_isClear rfl ⟨by decide +kernel, by decide +kernel⟩ (Nat.le_of_ble_eq_true rfl) (by decide) ?_
      refine y_blk 0 tq_X12_isClear (z := (47, [(4, .int ((other - other / (rI ρ 1) * (rI ρ 1)) - (one - one / (rI ρ 1) * (rI ρ 1)))), (3, .int ((other / (rI ρ 1)) - (one / (rI ρ 1)))), (0, .ref (ad 200)), (1, .int one), (2, .int other)], [.int (yab ((other - other / (rI ρ 1) * (rI ρ 1)) - (one - one / (rI ρ 1) * (rI ρ 1)))), .int (yab ((other / (rI ρ 1)) - (one / (rI ρ 1))))])) rfl ?_
      refine y_icmp_eq tq_X12_isClear 52 rfl rfl (fun c47 => ?_) (fun c47 => ?_)
      · skip
        refine y_blk 0 tq_X12_isClear (z := (52, [(4, .int ((other - other / (rI ρ 1) * (rI ρ 1)) - (one - one / (rI ρ 1) * (rI ρ 1)))), (3, .int ((other / (rI ρ 1)) - (one / (rI ρ 1)))), (0, .ref (ad 200)), (1, .int one), (2, .int other)], [])) rfl ?_
        refine y_pick (L2 := [(0, .ref (ad 200)), (1, .int one), (2, .int other), (3, .int ((other / (rI ρ 1)) - (one / (rI ρ 1)))), (4, .int ((other - other / (rI ρ 1) * (rI ρ 1)) - (one - one / (rI ρ 1) * (rI ρ 1))))]) [2, 3, 4, 1, 0] rfl ?_
        exact J52 (by first | exact Or.inl c30 | exact Or.inr (Or.inl c35) | exact Or.inr (Or.inr c47))
      · skip
        refine y_blk 1 tq_X12_isClear (z := (51, [(4, .int ((other - other / (rI ρ 1) * (rI ρ 1)) - (one - one / (rI ρ 1) * (rI ρ 1)))), (3, .int ((other / (rI ρ 1)) - (one / (rI ρ 1)))), (0, .ref (ad 200)), (1, .int one), (2, .int other)], [.int 0])) rfl ?_
        exact y_zret tq_X12_isClear rfl rfl (rfl) (⟨⟨_, (Or.inl rfl), rfl⟩, rfl⟩)
set_option maxHeartbeats 4000000 in
set_option maxRecDepth 100000 in
theorem m_X12_isLitBy {l : Launch} {S0 : State} {A0 : Array Value} {D : va_G} {aC : Nat → ClassId} {ic : Int32 → Nat} {de : Nat} {ad : Nat → Nat} {G : AH} {ρ : RS} (hS : yS l S0 A0 D aC) (hI : yIc S0 ic de) (hX : atR aC ic de ad G ρ) (cell : Int32) (reach : Int32) (other : Int32) (hcell : rcell ρ cell) (hother : rcell ρ other) : yM l S0 D yX12_isLitBy cX12_isLitBy 4 (some .boolean) 18 0 0 [.ref (ad 200), .int cell, .int reach, .int other] G (fun r G1 => (∃ v : Int32, (v = 0 ∨ v = 1) ∧ r = some (.int v)) ∧ G1 = G) (fun _ _ => False) := by
  refine yM.ofK K_X12_isLitBy rfl (by decide) (Nat.le_of_ble_eq_true rfl) ?_
  have J24 : ∀ (w24_0 : Int32) (hb_w24_0 : w24_0 = 0 ∨ w24_0 = 1), Y l S0 D K_X12_isLitBy 18 0 0 (fun r G1 => (∃ v : Int32, (v = 0 ∨ v = 1) ∧ r = some (.int v)) ∧ G1 = G) (fun _ _ => False) 24 [(0, .ref (ad 200)), (1, .int cell), (2, .int reach), (3, .int other)] [.int w24_0] G 0 0 := by
    intro w24_0 hb_w24_0
    exact y_zret tq_X12_isLitBy rfl rfl (y01 hb_w24_0) (⟨⟨_, hb_w24_0, rfl⟩, rfl⟩)
  have J23 : ∀ (_ : True), Y l S0 D K_X12_isLitBy 18 0 0 (fun r G1 => (∃ v : Int32, (v = 0 ∨ v = 1) ∧ r = some (.int v)) ∧ G1 = G) (fun _ _ => False) 23 [(0, .ref (ad 200)), (1, .int cell), (2, .int reach), (3, .int other)] [] G 0 0 := by
    intro _
    refine y_blk 1 tq_X12_isLitBy (z := (24, [(0, .ref (ad 200)), (1, .int cell), (2, .int reach), (3, .int other)], [.int 0])) rfl ?_
    exact J24 0 (Or.inl rfl)
  refine y_blk 3 tq_X12_isLitBy (z := (3, [(0, .ref (ad 200)), (1, .int cell), (2, .int reach), (3, .int other)], [.int other, .int cell, .ref (ad 200)])) rfl ?_
  refine y_callV hS tq_X12_isLitBy rfl (As := [.int cell, .int other]) rfl cv_X12_104 hX.m (m_X12_apart hS hI hX cell other (by first | (with_reducible assumption) | (with_reducible exact hX.lac (by assumption)) | (with_reducible exact hX.poc (by assumption)) | (with_reducible exact hX.wac (by assumption) (by assumption) (by omega)) | assumption | exact hX.lac (by assumption) | exact hX.poc (by assumption) | exact hX.wac (by assumption) (by assumption) (by omega))) rfl (by decide) (Nat.le_of_ble_eq_true rfl) (fun r3 Gc3 q3 => ?_) (fun E9 G9 h9 => h9.elim)
  obtain ⟨rfl, eG3⟩ := q3
  have eG3 := eG3.symm
  subst eG3
  refine y_blk 1 tq_X12_isLitBy (z := (7, [(0, .ref (ad 200)), (1, .int cell), (2, .int reach), (3, .int other)], [.int reach, .int (if (yab ((cell / (rI ρ 1)) - (other / (rI ρ 1)))) < (yab ((cell - cell / (rI ρ 1) * (rI ρ 1)) - (other - other / (rI ρ 1) * (rI ρ 1)))) then (yab ((cell - cell / (rI ρ 1) * (rI ρ 1)) - (other - other / (rI ρ 1) * (rI ρ 1)))) else (yab ((cell / (rI ρ 1)) - (other / (rI ρ 1)))))])) rfl ?_
  refine y_icmp_gt tq_X12_isLitBy 23 rfl rfl (fun c7 => ?_) (fun c7 => ?_)
  · skip
    refine y_blk 0 tq_X12_isLitBy (z := (23, [(0, .ref (ad 200)), (1, .int cell), (2, .int reach), (3, .int other)], [])) rfl ?_
    exact J23 trivial
  · skip
    refine y_blk 3 tq_X12_isLitBy (z := (13, [(0, .ref (ad 200)), (1, .int cell), (2, .int reach), (3, .int other)], [.int other, .int cell, .ref (ad 200)])) rfl ?_
    refine y_callV hS tq_X12_isLitBy rfl (As := [.int cell, .int other]) rfl cv_X12_112 hX.m (m_X12_isClear hS hI hX cell other (by first | (with_reducible assumption) | (with_reducible exact hX.lac (by assumption)) | (with_reducible exact hX.poc (by assumption)) | (with_reducible exact hX.wac (by assumption) (by assumption) (by omega)) | assumption | exact hX.lac (by assumption) | exact hX.poc (by assumption) | exact hX.wac (by assumption) (by assumption) (by omega)) (by first | (with_reducible assumption) | (with_reducible exact hX.lac (by assumption)) | (with_reducible exact hX.poc (by assumption)) | (with_reducible exact hX.wac (by assumption) (by assumption) (by omega)) | assumption | exact hX.lac (by assumption) | exact hX.poc (by assumption) | exact hX.wac (by assumption) (by assumption) (by omega))) rfl (by decide) (Nat.le_of_ble_eq_true rfl) (fun r13 Gc13 q13 => ?_) (fun E9 G9 h9 => h9.elim)
    obtain ⟨⟨x13, hb_x13, rfl⟩, eG13⟩ := q13
    have eG13 := eG13.symm
    subst eG13
    refine y_blk 0 tq_X12_isLitBy (z := (16, [(0, .ref (ad 200)), (1, .int cell), (2, .int reach), (3, .int other)], [.int x13])) rfl ?_
    refine y_if_eq tq_X12_isLitBy 23 rfl rfl (fun c16 => ?_) (fun c16 => ?_)
    · skip
      refine y_blk 0 tq_X12_isLitBy (z := (23, [(0, .ref (ad 200)), (1, .int cell), (2, .int reach), (3, .int other)], [])) rfl ?_
      exact J23 trivial
    · skip
      refine y_blk 2 tq_X12_isLitBy (z := (24, [(0, .ref (ad 200)), (1, .int cell), (2, .int reach), (3, .int other)], [.int 1])) rfl ?_
      exact J24 1 (Or.inr rfl)
set_option maxHeartbeats 4000000 in
set_option maxRecDepth 100000 in
theorem m_X12_isBright {l : Launch} {S0 : State} {A0 : Array Value} {D : va_G} {aC : Nat → ClassId} {ic : Int32 → Nat} {de : Nat} {ad : Nat → Nat} {G : AH} {ρ : RS} (hS : yS l S0 A0 D aC) (hI : yIc S0 ic de) (hX : atR aC ic de ad G ρ) (cell : Int32) (hcell : rcell ρ cell) : yM l S0 D yX12_isBright cX12_isBright 3 (some .boolean) 19 0 0 [.ref (ad 200), .int cell] G (fun r G1 => (∃ v : Int32, (v = 0 ∨ v = 1) ∧ r = some (.int v)) ∧ G1 = G) (fun _ _ => False) := by
  refine yM.ofK K_X12_isBright rfl (by decide) (Nat.le_of_ble_eq_true rfl) ?_
  have J2 : ∀ (n2 : Nat) (v2_2 : Int32) (h0_2 : 0 ≤ v2_2.toInt), (((Int32.ofNat (rZ ρ 210)) : Int32).toInt - v2_2.toInt).toNat = n2 → Y l S0 D K_X12_isBright 19 0 0 (fun r G1 => (∃ v : Int32, (v = 0 ∨ v = 1) ∧ r = some (.int v)) ∧ G1 = G) (fun _ _ => False) 2 [(0, .ref (ad 200)), (1, .int cell), (2, .int v2_2)] [] G 0 0 := by
    intro n2
    induction n2 using Nat.strongRecOn with
    | _ n2 ih2 =>
    intro v2_2 h0_2 hn2
    subst hn2
    have J74 : ∀ (c12 : ¬ ((Int32.ofNat (rZ ρ 210)) : Int32) ≤ v2_2), Y l S0 D K_X12_isBright 19 0 0 (fun r G1 => (∃ v : Int32, (v = 0 ∨ v = 1) ∧ r = some (.int v)) ∧ G1 = G) (fun _ _ => False) 74 [(0, .ref (ad 200)), (1, .int cell), (2, .int v2_2)] [] G 0 0 := by
      intro c12
      have hn12 := hX.2.le10 210 (by decide)
      have b12 : v2_2.toInt < rZ ρ 210 := yIy (by omega) h0_2 c12
      have d12 : Int32.toNatClampNeg v2_2 < rZ ρ 210 := yIx h0_2 b12
      refine y_blk 2 tq_X12_isBright (z := (2, [(2, .int (v2_2 + 1)), (0, .ref (ad 200)), (1, .int cell)], [])) rfl ?_
      refine y_pick (L2 := [(0, .ref (ad 200)), (1, .int cell), (2, .int (v2_2 + 1))]) [1, 2, 0] rfl ?_
      exact ih2 _ (by exact ydec c12) (v2_2 + 1) (by first | decide | assumption | exact Int.le_refl _ | exact yposgeL (by assumption) c12) rfl
    refine y_blk 2 tq_X12_isBright (z := (4, [(0, .ref (ad 200)), (1, .int cell), (2, .int v2_2)], [.ref (ad 200), .int v2_2])) rfl ?_
    refine y_get hS tq_X12_isBright (v := .ref (ad 210)) rfl fg_X12_20_X12 hX.m rfl ?_
    refine y_blk 0 tq_X12_isBright (z := (7, [(0, .ref (ad 200)), (1, .int cell), (2, .int v2_2)], [.ref (ad 210), .int v2_2])) rfl ?_
    refine y_callF hS tq_X12_isBright rfl (As := []) rfl cf_X12_58 (Or.inl ⟨_, (hX.ls 210 (by decide)).1⟩) (m_Jsize hS (hX.ls 210 (by decide))) rfl (by decide) (Nat.le_of_ble_eq_true rfl) (fun r7 Gc7 q7 => ?_) (fun _ _ h9 => h9.elim)
    obtain ⟨rfl, eG7⟩ := q7
    have eG7 := eG7.symm
    subst eG7
    refine y_blk 0 tq_X12_isBright (z := (12, [(0, .ref (ad 200)), (1, .int cell), (2, .int v2_2)], [.int (Int32.ofNat (rZ ρ 210)), .int v2_2])) rfl ?_
    refine y_icmp_ge tq_X12_isBright 80 rfl rfl (fun c12 => ?_) (fun c12 => ?_)
    · skip
      refine y_blk 1 tq_X12_isBright (z := (81, [(0, .ref (ad 200)), (1, .int cell), (2, .int v2_2)], [.int 0])) rfl ?_
      exact y_zret tq_X12_isBright rfl rfl (rfl) (⟨⟨_, (Or.inl rfl), rfl⟩, rfl⟩)
    · skip
      have hn12 := hX.2.le10 210 (by decide)
      have b12 : v2_2.toInt < rZ ρ 210 := yIy (by omega) h0_2 c12
      have d12 : Int32.toNatClampNeg v2_2 < rZ ρ 210 := yIx h0_2 b12
      refine y_blk 1 tq_X12_isBright (z := (16, [(0, .ref (ad 200)), (1, .int cell), (2, .int v2_2)], [.ref (ad 200)])) rfl ?_
      refine y_get hS tq_X12_isBright (v := .ref (ad 210)) rfl fg_X12_20_X12 hX.m rfl ?_
      refine y_blk 1 tq_X12_isBright (z := (20, [(0, .ref (ad 200)), (1, .int cell), (2, .int v2_2)], [.int v2_2, .ref (ad 210)])) rfl ?_
      refine y_callF hS tq_X12_isBright rfl (As := [.int v2_2]) rfl cf_X12_80 (Or.inl ⟨_, (hX.ls 210 (by decide)).1⟩) (m_Rla hS hX (by assumption) (by assumption)) rfl (by decide) (Nat.le_of_ble_eq_true rfl) (fun r20 Gc20 q20 => ?_) (fun _ _ h9 => h9.elim)
      obtain ⟨rfl, eG20⟩ := q20
      have eG20 := eG20.symm
      subst eG20
      have d20 : (Int32.toNatClampNeg v2_2) < rZ ρ 210 := yIx (by assumption) (by assumption)
      refine y_blk 0 tq_X12_isBright (z := (25, [(0, .ref (ad 200)), (1, .int cell), (2, .int v2_2)], [.ref (ad (300 + (Int32.toNatClampNeg v2_2)))])) rfl ?_
      refine y_castA hS tq_X12_isBright rfl kc_X12_116 (Or.inl ⟨_, (hX.la (by assumption))⟩) ?_
      refine y_blk 1 tq_X12_isBright (z := (29, [(0, .ref (ad 200)), (1, .int cell), (2, .int v2_2)], [.int 2, .ref (ad (300 + (Int32.toNatClampNeg v2_2)))])) rfl ?_
      refine y_iald hS tq_X12_isBright rfl (hX.la (by assumption)) (by first | exact yIn (by decide) (by decide) | exact yIn (by assumption) (by assumption) | (exact yIn (by omega) (by omega))) ?_
      refine y_blk 1 tq_X12_isBright (z := (31, [(0, .ref (ad 200)), (1, .int cell), (2, .int v2_2)], [.int 1, .int ((rV ρ (300 + (Int32.toNatClampNeg v2_2))) (Int32.toNatClampNeg 2))])) rfl ?_
      refine y_icmp_ne tq_X12_isBright 74 rfl rfl (fun c31 => ?_) (fun c31 => ?_)
      · skip
        refine y_blk 0 tq_X12_isBright (z := (74, [(0, .ref (ad 200)), (1, .int cell), (2, .int v2_2)], [])) rfl ?_
        exact J74 (by exact c12)
      · skip
        refine y_blk 2 tq_X12_isBright (z := (36, [(0, .ref (ad 200)), (1, .int cell), (2, .int v2_2)], [.ref (ad 200), .ref (ad 200)])) rfl ?_
        refine y_get hS tq_X12_isBright (v := .ref (ad 210)) rfl fg_X12_20_X12 hX.m rfl ?_
        refine y_blk 1 tq_X12_isBright (z := (40, [(0, .ref (ad 200)), (1, .int cell), (2, .int v2_2)], [.int v2_2, .ref (ad 210), .ref (ad 200)])) rfl ?_
        refine y_callF hS tq_X12_isBright rfl (As := [.int v2_2]) rfl cf_X12_80 (Or.inl ⟨_, (hX.ls 210 (by decide)).1⟩) (m_Rla hS hX (by assumption) (by assumption)) rfl (by decide) (Nat.le_of_ble_eq_true rfl) (fun r40 Gc40 q40 => ?_) (fun _ _ h9 => h9.elim)
        obtain ⟨rfl, eG40⟩ := q40
        have eG40 := eG40.symm
        subst eG40
        have d40 : (Int32.toNatClampNeg v2_2) < rZ ρ 210 := yIx (by assumption) (by assumption)
        refine y_blk 0 tq_X12_isBright (z := (45, [(0, .ref (ad 200)), (1, .int cell), (2, .int v2_2)], [.ref (ad (300 + (Int32.toNatClampNeg v2_2))), .ref (ad 200)])) rfl ?_
        refine y_castA hS tq_X12_isBright rfl kc_X12_116 (Or.inl ⟨_, (hX.la (by assumption))⟩) ?_
        refine y_blk 1 tq_X12_isBright (z := (49, [(0, .ref (ad 200)), (1, .int cell), (2, .int v2_2)], [.int 0, .ref (ad (300 + (Int32.toNatClampNeg v2_2))), .ref (ad 200)])) rfl ?_
        refine y_iald hS tq_X12_isBright rfl (hX.la (by assumption)) (by first | exact yIn (by decide) (by decide) | exact yIn (by assumption) (by assumption) | (exact yIn (by omega) (by omega))) ?_
        refine y_blk 1 tq_X12_isBright (z := (51, [(0, .ref (ad 200)), (1, .int cell), (2, .int v2_2)], [.ref (ad 200), .int ((rV ρ (300 + (Int32.toNatClampNeg v2_2))) (Int32.toNatClampNeg 0)), .ref (ad 200)])) rfl ?_
        refine y_get hS tq_X12_isBright (v := .ref (ad 210)) rfl fg_X12_20_X12 hX.m rfl ?_
        refine y_blk 1 tq_X12_isBright (z := (55, [(0, .ref (ad 200)), (1, .int cell), (2, .int v2_2)], [.int v2_2, .ref (ad 210), .int ((rV ρ (300 + (Int32.toNatClampNeg v2_2))) (Int32.toNatClampNeg 0)), .ref (ad 200)])) rfl ?_
        refine y_callF hS tq_X12_isBright rfl (As := [.int v2_2]) rfl cf_X12_80 (Or.inl ⟨_, (hX.ls 210 (by decide)).1⟩) (m_Rla hS hX (by assumption) (by assumption)) rfl (by decide) (Nat.le_of_ble_eq_true rfl) (fun r55 Gc55 q55 => ?_) (fun _ _ h9 => h9.elim)
        obtain ⟨rfl, eG55⟩ := q55
        have eG55 := eG55.symm
        subst eG55
        have d55 : (Int32.toNatClampNeg v2_2) < rZ ρ 210 := yIx (by assumption) (by assumption)
        refine y_blk 0 tq_X12_isBright (z := (60, [(0, .ref (ad 200)), (1, .int cell), (2, .int v2_2)], [.ref (ad (300 + (Int32.toNatClampNeg v2_2))), .int ((rV ρ (300 + (Int32.toNatClampNeg v2_2))) (Int32.toNatClampNeg 0)), .ref (ad 200)])) rfl ?_
        refine y_castA hS tq_X12_isBright rfl kc_X12_116 (Or.inl ⟨_, (hX.la (by assumption))⟩) ?_
        refine y_blk 1 tq_X12_isBright (z := (64, [(0, .ref (ad 200)), (1, .int cell), (2, .int v2_2)], [.int 1, .ref (ad (300 + (Int32.toNatClampNeg v2_2))), .int ((rV ρ (300 + (Int32.toNatClampNeg v2_2))) (Int32.toNatClampNeg 0)), .ref (ad 200)])) rfl ?_
        refine y_iald hS tq_X12_isBright rfl (hX.la (by assumption)) (by first | exact yIn (by decide) (by decide) | exact yIn (by assumption) (by assumption) | (exact yIn (by omega) (by omega))) ?_
        refine y_blk 1 tq_X12_isBright (z := (66, [(0, .ref (ad 200)), (1, .int cell), (2, .int v2_2)], [.int cell, .int ((rV ρ (300 + (Int32.toNatClampNeg v2_2))) (Int32.toNatClampNeg 1)), .int ((rV ρ (300 + (Int32.toNatClampNeg v2_2))) (Int32.toNatClampNeg 0)), .ref (ad 200)])) rfl ?_
        refine y_callV hS tq_X12_isBright rfl (As := [.int ((rV ρ (300 + (Int32.toNatClampNeg v2_2))) (Int32.toNatClampNeg 0)), .int ((rV ρ (300 + (Int32.toNatClampNeg v2_2))) (Int32.toNatClampNeg 1)), .int cell]) rfl cv_X12_117 hX.m (m_X12_isLitBy hS hI hX ((rV ρ (300 + (Int32.toNatClampNeg v2_2))) (Int32.toNatClampNeg 0)) ((rV ρ (300 + (Int32.toNatClampNeg v2_2))) (Int32.toNatClampNeg 1)) cell (by first | (with_reducible assumption) | (with_reducible exact hX.lac (by assumption)) | (with_reducible exact hX.poc (by assumption)) | (with_reducible exact hX.wac (by assumption) (by assumption) (by omega)) | assumption | exact hX.lac (by assumption) | exact hX.poc (by assumption) | exact hX.wac (by assumption) (by assumption) (by omega)) (by first | (with_reducible assumption) | (with_reducible exact hX.lac (by assumption)) | (with_reducible exact hX.poc (by assumption)) | (with_reducible exact hX.wac (by assumption) (by assumption) (by omega)) | assumption | exact hX.lac (by assumption) | exact hX.poc (by assumption) | exact hX.wac (by assumption) (by assumption) (by omega))) rfl (by decide) (Nat.le_of_ble_eq_true rfl) (fun r66 Gc66 q66 => ?_) (fun E9 G9 h9 => h9.elim)
        obtain ⟨⟨x66, hb_x66, rfl⟩, eG66⟩ := q66
        have eG66 := eG66.symm
        subst eG66
        refine y_blk 0 tq_X12_isBright (z := (69, [(0, .ref (ad 200)), (1, .int cell), (2, .int v2_2)], [.int x66])) rfl ?_
        refine y_if_eq tq_X12_isBright 74 rfl rfl (fun c69 => ?_) (fun c69 => ?_)
        · skip
          refine y_blk 0 tq_X12_isBright (z := (74, [(0, .ref (ad 200)), (1, .int cell), (2, .int v2_2)], [])) rfl ?_
          exact J74 (by exact c12)
        · skip
          refine y_blk 1 tq_X12_isBright (z := (73, [(0, .ref (ad 200)), (1, .int cell), (2, .int v2_2)], [.int 1])) rfl ?_
          exact y_zret tq_X12_isBright rfl rfl (rfl) (⟨⟨_, (Or.inr rfl), rfl⟩, rfl⟩)
  refine y_blk 2 tq_X12_isBright (z := (2, [(2, .int 0), (0, .ref (ad 200)), (1, .int cell)], [])) rfl ?_
  refine y_pick (L2 := [(0, .ref (ad 200)), (1, .int cell), (2, .int 0)]) [1, 2, 0] rfl ?_
  exact J2 _ 0 (by first | decide | assumption | exact Int.le_refl _ | exact yposgeL (by assumption) c12) rfl
set_option maxHeartbeats 4000000 in
set_option maxRecDepth 100000 in
theorem m_X12_brights {l : Launch} {S0 : State} {A0 : Array Value} {D : va_G} {aC : Nat → ClassId} {ic : Int32 → Nat} {de : Nat} {ad : Nat → Nat} {G : AH} {ρ : RS} (hS : yS l S0 A0 D aC) (hI : yIc S0 ic de) (hX : atR aC ic de ad G ρ) : yM l S0 D yX12_brights cX12_brights 3 (some .int) 20 0 0 [.ref (ad 200)] G (fun r G1 => (∃ v : Int32, r = some (.int v)) ∧ G1 = G) (fun _ _ => False) := by
  refine yM.ofK K_X12_brights rfl (by decide) (Nat.le_of_ble_eq_true rfl) ?_
  have J4 : ∀ (n4 : Nat) (v4_1 : Int32) (v4_2 : Int32) (h0_4 : 0 ≤ v4_2.toInt), (((Int32.ofNat (rZ ρ 201)) : Int32).toInt - v4_2.toInt).toNat = n4 → Y l S0 D K_X12_brights 20 0 0 (fun r G1 => (∃ v : Int32, r = some (.int v)) ∧ G1 = G) (fun _ _ => False) 4 [(0, .ref (ad 200)), (1, .int v4_1), (2, .int v4_2)] [] G 0 0 := by
    intro n4
    induction n4 using Nat.strongRecOn with
    | _ n4 ih4 =>
    intro v4_1 v4_2 h0_4 hn4
    subst hn4
    have J27 : ∀ (w27_0 : Int32) (hb_w27_0 : w27_0 = 0 ∨ w27_0 = 1) (c10 : ¬ ((Int32.ofNat (rZ ρ 201)) : Int32) ≤ v4_2), Y l S0 D K_X12_brights 20 0 0 (fun r G1 => (∃ v : Int32, r = some (.int v)) ∧ G1 = G) (fun _ _ => False) 27 [(0, .ref (ad 200)), (1, .int v4_1), (2, .int v4_2)] [.int w27_0, .int v4_1] G 0 0 := by
      intro w27_0 hb_w27_0 c10
      have hn10 := hX.2.n64
      have b10 : v4_2.toInt < rZ ρ 201 := yIy (by omega) h0_4 c10
      have d10 : Int32.toNatClampNeg v4_2 < rZ ρ 201 := yIx h0_4 b10
      have e10 : rcell ρ v4_2 := ⟨h0_4, b10⟩
      refine y_blk 4 tq_X12_brights (z := (4, [(2, .int (v4_2 + 1)), (1, .int (v4_1 + w27_0)), (0, .ref (ad 200))], [])) rfl ?_
      refine y_pick (L2 := [(0, .ref (ad 200)), (1, .int (v4_1 + w27_0)), (2, .int (v4_2 + 1))]) [2, 1, 0] rfl ?_
      exact ih4 _ (by exact ydec c10) (v4_1 + w27_0) (v4_2 + 1) (by first | decide | assumption | exact Int.le_refl _ | exact yposgeL (by assumption) c10) rfl
    refine y_blk 2 tq_X12_brights (z := (6, [(0, .ref (ad 200)), (1, .int v4_1), (2, .int v4_2)], [.ref (ad 200), .int v4_2])) rfl ?_
    refine y_get hS tq_X12_brights (v := .ref (ad 201)) rfl fg_X12_7_X12 hX.m rfl ?_
    refine y_blk 0 tq_X12_brights (z := (9, [(0, .ref (ad 200)), (1, .int v4_1), (2, .int v4_2)], [.ref (ad 201), .int v4_2])) rfl ?_
    refine y_alen hS tq_X12_brights 0 rfl rfl hX.ki ?_
    refine y_blk 0 tq_X12_brights (z := (10, [(0, .ref (ad 200)), (1, .int v4_1), (2, .int v4_2)], [.int (Int32.ofNat (rZ ρ 201)), .int v4_2])) rfl ?_
    refine y_icmp_ge tq_X12_brights 35 rfl rfl (fun c10 => ?_) (fun c10 => ?_)
    · skip
      refine y_blk 1 tq_X12_brights (z := (36, [(0, .ref (ad 200)), (1, .int v4_1), (2, .int v4_2)], [.int v4_1])) rfl ?_
      exact y_iret tq_X12_brights rfl rfl (⟨⟨_, rfl⟩, rfl⟩)
    · skip
      have hn10 := hX.2.n64
      have b10 : v4_2.toInt < rZ ρ 201 := yIy (by omega) h0_4 c10
      have d10 : Int32.toNatClampNeg v4_2 < rZ ρ 201 := yIx h0_4 b10
      have e10 : rcell ρ v4_2 := ⟨h0_4, b10⟩
      refine y_blk 3 tq_X12_brights (z := (16, [(0, .ref (ad 200)), (1, .int v4_1), (2, .int v4_2)], [.int v4_2, .ref (ad 200), .int v4_1])) rfl ?_
      refine y_callV hS tq_X12_brights rfl (As := [.int v4_2]) rfl cv_X12_120 hX.m (m_X12_isBright hS hI hX v4_2 (by first | (with_reducible assumption) | (with_reducible exact hX.lac (by assumption)) | (with_reducible exact hX.poc (by assumption)) | (with_reducible exact hX.wac (by assumption) (by assumption) (by omega)) | assumption | exact hX.lac (by assumption) | exact hX.poc (by assumption) | exact hX.wac (by assumption) (by assumption) (by omega))) rfl (by decide) (Nat.le_of_ble_eq_true rfl) (fun r16 Gc16 q16 => ?_) (fun E9 G9 h9 => h9.elim)
      obtain ⟨⟨x16, hb_x16, rfl⟩, eG16⟩ := q16
      have eG16 := eG16.symm
      subst eG16
      refine y_blk 0 tq_X12_brights (z := (19, [(0, .ref (ad 200)), (1, .int v4_1), (2, .int v4_2)], [.int x16, .int v4_1])) rfl ?_
      refine y_if_eq tq_X12_brights 26 rfl rfl (fun c19 => ?_) (fun c19 => ?_)
      · skip
        refine y_blk 1 tq_X12_brights (z := (27, [(0, .ref (ad 200)), (1, .int v4_1), (2, .int v4_2)], [.int 0, .int v4_1])) rfl ?_
        exact J27 0 (Or.inl rfl) (by exact c10)
      · skip
        refine y_blk 2 tq_X12_brights (z := (27, [(0, .ref (ad 200)), (1, .int v4_1), (2, .int v4_2)], [.int 1, .int v4_1])) rfl ?_
        exact J27 1 (Or.inr rfl) (by exact c10)
  refine y_blk 4 tq_X12_brights (z := (4, [(2, .int 0), (1, .int 0), (0, .ref (ad 200))], [])) rfl ?_
  refine y_pick (L2 := [(0, .ref (ad 200)), (1, .int 0), (2, .int 0)]) [2, 1, 0] rfl ?_
  exact J4 _ 0 0 (by first | decide | assumption | exact Int.le_refl _ | exact yposgeL (by assumption) c10) rfl
set_option maxHeartbeats 4000000 in
set_option maxRecDepth 100000 in
theorem m_X12_fogAt {l : Launch} {S0 : State} {A0 : Array Value} {D : va_G} {aC : Nat → ClassId} {ic : Int32 → Nat} {de : Nat} {ad : Nat → Nat} {G : AH} {ρ : RS} (hS : yS l S0 A0 D aC) (hI : yIc S0 ic de) (hX : atR aC ic de ad G ρ) (minute : Int32) : yM l S0 D yX12_fogAt cX12_fogAt 5 (some .int) 16 0 0 [.ref (ad 200), .int minute] G (fun r G1 => (∃ v : Int32, r = some (.int v)) ∧ G1 = G) (fun _ _ => False) := by
  refine yM.ofK K_X12_fogAt rfl (by decide) (Nat.le_of_ble_eq_true rfl) ?_
  have J7 : ∀ (n7 : Nat) (v7_2 : Int32) (v7_3 : Int32) (v7_4 : Int32) (h0_7 : 0 ≤ v7_4.toInt), (((Int32.ofNat (rZ ρ 211)) : Int32).toInt - v7_4.toInt).toNat = n7 → Y l S0 D K_X12_fogAt 16 0 0 (fun r G1 => (∃ v : Int32, r = some (.int v)) ∧ G1 = G) (fun _ _ => False) 7 [(0, .ref (ad 200)), (1, .int minute), (2, .int v7_2), (3, .int v7_3), (4, .int v7_4)] [] G 0 0 := by
    intro n7
    induction n7 using Nat.strongRecOn with
    | _ n7 ih7 =>
    intro v7_2 v7_3 v7_4 h0_7 hn7
    subst hn7
    have J98 : ∀ (v98_2 : Int32) (v98_3 : Int32) (c18 : ¬ ((Int32.ofNat (rZ ρ 211)) : Int32) ≤ v7_4), Y l S0 D K_X12_fogAt 16 0 0 (fun r G1 => (∃ v : Int32, r = some (.int v)) ∧ G1 = G) (fun _ _ => False) 98 [(0, .ref (ad 200)), (1, .int minute), (2, .int v98_2), (3, .int v98_3), (4, .int v7_4)] [] G 0 0 := by
      intro v98_2 v98_3 c18
      have hn18 := hX.2.le10 211 (by decide)
      have b18 : v7_4.toInt < rZ ρ 211 := yIy (by omega) h0_7 c18
      have d18 : Int32.toNatClampNeg v7_4 < rZ ρ 211 := yIx h0_7 b18
      refine y_blk 2 tq_X12_fogAt (z := (7, [(4, .int (v7_4 + 1)), (0, .ref (ad 200)), (1, .int minute), (2, .int v98_2), (3, .int v98_3)], [])) rfl ?_
      refine y_pick (L2 := [(0, .ref (ad 200)), (1, .int minute), (2, .int v98_2), (3, .int v98_3), (4, .int (v7_4 + 1))]) [1, 2, 3, 4, 0] rfl ?_
      exact ih7 _ (by exact ydec c18) v98_2 v98_3 (v7_4 + 1) (by first | decide | assumption | exact Int.le_refl _ | exact yposgeL (by assumption) c18) rfl
    refine y_blk 2 tq_X12_fogAt (z := (10, [(0, .ref (ad 200)), (1, .int minute), (2, .int v7_2), (3, .int v7_3), (4, .int v7_4)], [.ref (ad 200), .int v7_4])) rfl ?_
    refine y_get hS tq_X12_fogAt (v := .ref (ad 211)) rfl fg_X12_24_X12 hX.m rfl ?_
    refine y_blk 0 tq_X12_fogAt (z := (13, [(0, .ref (ad 200)), (1, .int minute), (2, .int v7_2), (3, .int v7_3), (4, .int v7_4)], [.ref (ad 211), .int v7_4])) rfl ?_
    refine y_callF hS tq_X12_fogAt rfl (As := []) rfl cf_X12_58 (Or.inl ⟨_, (hX.ls 211 (by decide)).1⟩) (m_Jsize hS (hX.ls 211 (by decide))) rfl (by decide) (Nat.le_of_ble_eq_true rfl) (fun r13 Gc13 q13 => ?_) (fun _ _ h9 => h9.elim)
    obtain ⟨rfl, eG13⟩ := q13
    have eG13 := eG13.symm
    subst eG13
    refine y_blk 0 tq_X12_fogAt (z := (18, [(0, .ref (ad 200)), (1, .int minute), (2, .int v7_2), (3, .int v7_3), (4, .int v7_4)], [.int (Int32.ofNat (rZ ρ 211)), .int v7_4])) rfl ?_
    refine y_icmp_ge tq_X12_fogAt 104 rfl rfl (fun c18 => ?_) (fun c18 => ?_)
    · skip
      refine y_blk 1 tq_X12_fogAt (z := (105, [(0, .ref (ad 200)), (1, .int minute), (2, .int v7_2), (3, .int v7_3), (4, .int v7_4)], [.int v7_3])) rfl ?_
      exact y_iret tq_X12_fogAt rfl rfl (⟨⟨_, rfl⟩, rfl⟩)
    · skip
      have hn18 := hX.2.le10 211 (by decide)
      have b18 : v7_4.toInt < rZ ρ 211 := yIy (by omega) h0_7 c18
      have d18 : Int32.toNatClampNeg v7_4 < rZ ρ 211 := yIx h0_7 b18
      refine y_blk 1 tq_X12_fogAt (z := (22, [(0, .ref (ad 200)), (1, .int minute), (2, .int v7_2), (3, .int v7_3), (4, .int v7_4)], [.ref (ad 200)])) rfl ?_
      refine y_get hS tq_X12_fogAt (v := .ref (ad 211)) rfl fg_X12_24_X12 hX.m rfl ?_
      refine y_blk 1 tq_X12_fogAt (z := (27, [(0, .ref (ad 200)), (1, .int minute), (2, .int v7_2), (3, .int v7_3), (4, .int v7_4)], [.int v7_4, .ref (ad 211)])) rfl ?_
      refine y_callF hS tq_X12_fogAt rfl (As := [.int v7_4]) rfl cf_X12_80 (Or.inl ⟨_, (hX.ls 211 (by decide)).1⟩) (m_Rfo hS hX (by assumption) (by assumption)) rfl (by decide) (Nat.le_of_ble_eq_true rfl) (fun r27 Gc27 q27 => ?_) (fun _ _ h9 => h9.elim)
      obtain ⟨rfl, eG27⟩ := q27
      have eG27 := eG27.symm
      subst eG27
      have d27 : (Int32.toNatClampNeg v7_4) < rZ ρ 211 := yIx (by assumption) (by assumption)
      refine y_blk 0 tq_X12_fogAt (z := (32, [(0, .ref (ad 200)), (1, .int minute), (2, .int v7_2), (3, .int v7_3), (4, .int v7_4)], [.ref (ad (320 + (Int32.toNatClampNeg v7_4)))])) rfl ?_
      refine y_castA hS tq_X12_fogAt rfl kc_X12_116 (Or.inl ⟨_, (hX.fo (by assumption))⟩) ?_
      refine y_blk 1 tq_X12_fogAt (z := (36, [(0, .ref (ad 200)), (1, .int minute), (2, .int v7_2), (3, .int v7_3), (4, .int v7_4)], [.int 0, .ref (ad (320 + (Int32.toNatClampNeg v7_4)))])) rfl ?_
      refine y_iald hS tq_X12_fogAt rfl (hX.fo (by assumption)) (by first | exact yIn (by decide) (by decide) | exact yIn (by assumption) (by assumption) | (exact yIn (by omega) (by omega))) ?_
      refine y_blk 1 tq_X12_fogAt (z := (38, [(0, .ref (ad 200)), (1, .int minute), (2, .int v7_2), (3, .int v7_3), (4, .int v7_4)], [.int minute, .int ((rV ρ (320 + (Int32.toNatClampNeg v7_4))) (Int32.toNatClampNeg 0))])) rfl ?_
      refine y_icmp_gt tq_X12_fogAt 98 rfl rfl (fun c38 => ?_) (fun c38 => ?_)
      · skip
        refine y_blk 0 tq_X12_fogAt (z := (98, [(0, .ref (ad 200)), (1, .int minute), (2, .int v7_2), (3, .int v7_3), (4, .int v7_4)], [])) rfl ?_
        exact J98 v7_2 v7_3 (by exact c18)
      · skip
        refine y_blk 1 tq_X12_fogAt (z := (42, [(0, .ref (ad 200)), (1, .int minute), (2, .int v7_2), (3, .int v7_3), (4, .int v7_4)], [.ref (ad 200)])) rfl ?_
        refine y_get hS tq_X12_fogAt (v := .ref (ad 211)) rfl fg_X12_24_X12 hX.m rfl ?_
        refine y_blk 1 tq_X12_fogAt (z := (47, [(0, .ref (ad 200)), (1, .int minute), (2, .int v7_2), (3, .int v7_3), (4, .int v7_4)], [.int v7_4, .ref (ad 211)])) rfl ?_
        refine y_callF hS tq_X12_fogAt rfl (As := [.int v7_4]) rfl cf_X12_80 (Or.inl ⟨_, (hX.ls 211 (by decide)).1⟩) (m_Rfo hS hX (by assumption) (by assumption)) rfl (by decide) (Nat.le_of_ble_eq_true rfl) (fun r47 Gc47 q47 => ?_) (fun _ _ h9 => h9.elim)
        obtain ⟨rfl, eG47⟩ := q47
        have eG47 := eG47.symm
        subst eG47
        have d47 : (Int32.toNatClampNeg v7_4) < rZ ρ 211 := yIx (by assumption) (by assumption)
        refine y_blk 0 tq_X12_fogAt (z := (52, [(0, .ref (ad 200)), (1, .int minute), (2, .int v7_2), (3, .int v7_3), (4, .int v7_4)], [.ref (ad (320 + (Int32.toNatClampNeg v7_4)))])) rfl ?_
        refine y_castA hS tq_X12_fogAt rfl kc_X12_116 (Or.inl ⟨_, (hX.fo (by assumption))⟩) ?_
        refine y_blk 1 tq_X12_fogAt (z := (56, [(0, .ref (ad 200)), (1, .int minute), (2, .int v7_2), (3, .int v7_3), (4, .int v7_4)], [.int 0, .ref (ad (320 + (Int32.toNatClampNeg v7_4)))])) rfl ?_
        refine y_iald hS tq_X12_fogAt rfl (hX.fo (by assumption)) (by first | exact yIn (by decide) (by decide) | exact yIn (by assumption) (by assumption) | (exact yIn (by omega) (by omega))) ?_
        refine y_blk 1 tq_X12_fogAt (z := (58, [(0, .ref (ad 200)), (1, .int minute), (2, .int v7_2), (3, .int v7_3), (4, .int v7_4)], [.int v7_2, .int ((rV ρ (320 + (Int32.toNatClampNeg v7_4))) (Int32.toNatClampNeg 0))])) rfl ?_
        refine y_icmp_ge tq_X12_fogAt 64 rfl rfl (fun c58 => ?_) (fun c58 => ?_)
        · skip
          refine y_blk 1 tq_X12_fogAt (z := (65, [(0, .ref (ad 200)), (1, .int minute), (2, .int v7_2), (3, .int v7_3), (4, .int v7_4)], [.ref (ad 200)])) rfl ?_
          refine y_get hS tq_X12_fogAt (v := .ref (ad 211)) rfl fg_X12_24_X12 hX.m rfl ?_
          refine y_blk 1 tq_X12_fogAt (z := (70, [(0, .ref (ad 200)), (1, .int minute), (2, .int v7_2), (3, .int v7_3), (4, .int v7_4)], [.int v7_4, .ref (ad 211)])) rfl ?_
          refine y_callF hS tq_X12_fogAt rfl (As := [.int v7_4]) rfl cf_X12_80 (Or.inl ⟨_, (hX.ls 211 (by decide)).1⟩) (m_Rfo hS hX (by assumption) (by assumption)) rfl (by decide) (Nat.le_of_ble_eq_true rfl) (fun r70 Gc70 q70 => ?_) (fun _ _ h9 => h9.elim)
          obtain ⟨rfl, eG70⟩ := q70
          have eG70 := eG70.symm
          subst eG70
          have d70 : (Int32.toNatClampNeg v7_4) < rZ ρ 211 := yIx (by assumption) (by assumption)
          refine y_blk 0 tq_X12_fogAt (z := (75, [(0, .ref (ad 200)), (1, .int minute), (2, .int v7_2), (3, .int v7_3), (4, .int v7_4)], [.ref (ad (320 + (Int32.toNatClampNeg v7_4)))])) rfl ?_
          refine y_castA hS tq_X12_fogAt rfl kc_X12_116 (Or.inl ⟨_, (hX.fo (by assumption))⟩) ?_
          refine y_blk 1 tq_X12_fogAt (z := (79, [(0, .ref (ad 200)), (1, .int minute), (2, .int v7_2), (3, .int v7_3), (4, .int v7_4)], [.int 0, .ref (ad (320 + (Int32.toNatClampNeg v7_4)))])) rfl ?_
          refine y_iald hS tq_X12_fogAt rfl (hX.fo (by assumption)) (by first | exact yIn (by decide) (by decide) | exact yIn (by assumption) (by assumption) | (exact yIn (by omega) (by omega))) ?_
          refine y_blk 2 tq_X12_fogAt (z := (82, [(2, .int ((rV ρ (320 + (Int32.toNatClampNeg v7_4))) (Int32.toNatClampNeg 0))), (0, .ref (ad 200)), (1, .int minute), (3, .int v7_3), (4, .int v7_4)], [.ref (ad 200)])) rfl ?_
          refine y_get hS tq_X12_fogAt (v := .ref (ad 211)) rfl fg_X12_24_X12 hX.m rfl ?_
          refine y_blk 1 tq_X12_fogAt (z := (87, [(2, .int ((rV ρ (320 + (Int32.toNatClampNeg v7_4))) (Int32.toNatClampNeg 0))), (0, .ref (ad 200)), (1, .int minute), (3, .int v7_3), (4, .int v7_4)], [.int v7_4, .ref (ad 211)])) rfl ?_
          refine y_callF hS tq_X12_fogAt rfl (As := [.int v7_4]) rfl cf_X12_80 (Or.inl ⟨_, (hX.ls 211 (by decide)).1⟩) (m_Rfo hS hX (by assumption) (by assumption)) rfl (by decide) (Nat.le_of_ble_eq_true rfl) (fun r87 Gc87 q87 => ?_) (fun _ _ h9 => h9.elim)
          obtain ⟨rfl, eG87⟩ := q87
          have eG87 := eG87.symm
          subst eG87
          have d87 : (Int32.toNatClampNeg v7_4) < rZ ρ 211 := yIx (by assumption) (by assumption)
          refine y_blk 0 tq_X12_fogAt (z := (92, [(2, .int ((rV ρ (320 + (Int32.toNatClampNeg v7_4))) (Int32.toNatClampNeg 0))), (0, .ref (ad 200)), (1, .int minute), (3, .int v7_3), (4, .int v7_4)], [.ref (ad (320 + (Int32.toNatClampNeg v7_4)))])) rfl ?_
          refine y_castA hS tq_X12_fogAt rfl kc_X12_116 (Or.inl ⟨_, (hX.fo (by assumption))⟩) ?_
          refine y_blk 1 tq_X12_fogAt (z := (96, [(2, .int ((rV ρ (320 + (Int32.toNatClampNeg v7_4))) (Int32.toNatClampNeg 0))), (0, .ref (ad 200)), (1, .int minute), (3, .int v7_3), (4, .int v7_4)], [.int 1, .ref (ad (320 + (Int32.toNatClampNeg v7_4)))])) rfl ?_
          refine y_iald hS tq_X12_fogAt rfl (hX.fo (by assumption)) (by first | exact yIn (by decide) (by decide) | exact yIn (by assumption) (by assumption) | (exact yIn (by omega) (by omega))) ?_
          refine y_blk 1 tq_X12_fogAt (z := (98, [(3, .int ((rV ρ (320 + (Int32.toNatClampNeg v7_4))) (Int32.toNatClampNeg 1))), (2, .int ((rV ρ (320 + (Int32.toNatClampNeg v7_4))) (Int32.toNatClampNeg 0))), (0, .ref (ad 200)), (1, .int minute), (4, .int v7_4)], [])) rfl ?_
          refine y_pick (L2 := [(0, .ref (ad 200)), (1, .int minute), (2, .int ((rV ρ (320 + (Int32.toNatClampNeg v7_4))) (Int32.toNatClampNeg 0))), (3, .int ((rV ρ (320 + (Int32.toNatClampNeg v7_4))) (Int32.toNatClampNeg 1))), (4, .int v7_4)]) [2, 3, 1, 0, 4] rfl ?_
          exact J98 ((rV ρ (320 + (Int32.toNatClampNeg v7_4))) (Int32.toNatClampNeg 0)) ((rV ρ (320 + (Int32.toNatClampNeg v7_4))) (Int32.toNatClampNeg 1)) (by exact c18)
        · skip
          refine y_blk 1 tq_X12_fogAt (z := (98, [(0, .ref (ad 200)), (1, .int minute), (2, .int v7_2), (3, .int v7_3), (4, .int v7_4)], [])) rfl ?_
          exact J98 v7_2 v7_3 (by exact c18)
  refine y_blk 6 tq_X12_fogAt (z := (7, [(4, .int 0), (3, .int 0), (2, .int (-1)), (0, .ref (ad 200)), (1, .int minute)], [])) rfl ?_
  refine y_pick (L2 := [(0, .ref (ad 200)), (1, .int minute), (2, .int (-1)), (3, .int 0), (4, .int 0)]) [3, 4, 2, 1, 0] rfl ?_
  exact J7 _ (-1) 0 0 (by first | decide | assumption | exact Int.le_refl _ | exact yposgeL (by assumption) c18) rfl
set_option maxHeartbeats 4000000 in
set_option maxRecDepth 100000 in
theorem m_X12_sees {l : Launch} {S0 : State} {A0 : Array Value} {D : va_G} {aC : Nat → ClassId} {ic : Int32 → Nat} {de : Nat} {ad : Nat → Nat} {G : AH} {ρ : RS} (hS : yS l S0 A0 D aC) (hI : yIc S0 ic de) (hX : atR aC ic de ad G ρ) {k : Nat} (hk : k < rZ ρ 212) (cell : Int32) (minute : Int32) (isBright : Int32) (fog : Int32) (hcell : rcell ρ cell) : yM l S0 D yX12_sees cX12_sees 8 (some .boolean) 19 0 0 [.ref (ad 200), .ref (ad (360 + k)), .int cell, .int minute, .int isBright, .int fog] G (fun r G1 => (∃ v : Int32, (v = 0 ∨ v = 1) ∧ r = some (.int v)) ∧ G1 = G) (fun _ _ => False) := by
  refine yM.ofK K_X12_sees rfl (by decide) (Nat.le_of_ble_eq_true rfl) ?_
  have hgb := hX.2.2.2.1 k hk
  refine y_blk 2 tq_X12_sees (z := (2, [(0, .ref (ad 200)), (1, .ref (ad (360 + k))), (2, .int cell), (3, .int minute), (4, .int isBright), (5, .int fog)], [.int minute, .ref (ad (360 + k))])) rfl ?_
  refine y_callV hS tq_X12_sees rfl (As := [.int minute]) rfl cv_X12_124 (hX.gu (by assumption)) (m_X10_place hS hI hX (k := k) (by assumption) minute) rfl (by decide) (Nat.le_of_ble_eq_true rfl) (fun r2 Gc2 q2 => ?_) (fun E9 G9 h9 => h9.elim)
  obtain ⟨⟨x2, hr_x2, rfl⟩, eG2⟩ := q2
  have eG2 := eG2.symm
  subst eG2
  refine y_blk 3 tq_X12_sees (z := (10, [(6, .int x2), (0, .ref (ad 200)), (1, .ref (ad (360 + k))), (2, .int cell), (3, .int minute), (4, .int isBright), (5, .int fog)], [.int (-1), .int x2])) rfl ?_
  refine y_icmp_ne tq_X12_sees 15 rfl rfl (fun c10 => ?_) (fun c10 => ?_)
  · skip
    have hat := hr_x2.1.resolve_left c10
    refine y_blk 1 tq_X12_sees (z := (17, [(6, .int x2), (0, .ref (ad 200)), (1, .ref (ad (360 + k))), (2, .int cell), (3, .int minute), (4, .int isBright), (5, .int fog)], [.int isBright])) rfl ?_
    refine y_if_eq tq_X12_sees 28 rfl rfl (fun c17 => ?_) (fun c17 => ?_)
    · skip
      refine y_blk 3 tq_X12_sees (z := (32, [(6, .int x2), (0, .ref (ad 200)), (1, .ref (ad (360 + k))), (2, .int cell), (3, .int minute), (4, .int isBright), (5, .int fog)], [.int 2, .int fog, .int 2])) rfl ?_
      refine y_idiv tq_X12_sees rfl (by decide) ?_
      refine y_blk 3 tq_X12_sees (z := (36, [(6, .int x2), (0, .ref (ad 200)), (1, .ref (ad (360 + k))), (2, .int cell), (3, .int minute), (4, .int isBright), (5, .int fog)], [.int minute, .ref (ad (360 + k)), .int (2 - (fog / 2))])) rfl ?_
      refine y_callV hS tq_X12_sees rfl (As := [.int minute]) rfl cv_X12_127 (hX.gu (by assumption)) (m_X10_isTired hS hI hX (k := k) (by assumption) minute) rfl (by decide) (Nat.le_of_ble_eq_true rfl) (fun r36 Gc36 q36 => ?_) (fun E9 G9 h9 => h9.elim)
      obtain ⟨⟨x36, hb_x36, rfl⟩, eG36⟩ := q36
      have eG36 := eG36.symm
      subst eG36
      refine y_blk 0 tq_X12_sees (z := (39, [(6, .int x2), (0, .ref (ad 200)), (1, .ref (ad (360 + k))), (2, .int cell), (3, .int minute), (4, .int isBright), (5, .int fog)], [.int x36, .int (2 - (fog / 2))])) rfl ?_
      refine y_if_eq tq_X12_sees 46 rfl rfl (fun c39 => ?_) (fun c39 => ?_)
      · skip
        refine y_blk 5 tq_X12_sees (z := (53, [(7, .int ((2 - (fog / 2)) - 0)), (6, .int x2), (0, .ref (ad 200)), (1, .ref (ad (360 + k))), (2, .int cell), (3, .int minute), (4, .int isBright), (5, .int fog)], [.int cell, .int x2])) rfl ?_
        refine y_icmp_eq tq_X12_sees 78 rfl rfl (fun c53 => ?_) (fun c53 => ?_)
        · skip
          refine y_blk 2 tq_X12_sees (z := (83, [(7, .int ((2 - (fog / 2)) - 0)), (6, .int x2), (0, .ref (ad 200)), (1, .ref (ad (360 + k))), (2, .int cell), (3, .int minute), (4, .int isBright), (5, .int fog)], [.int 1])) rfl ?_
          exact y_zret tq_X12_sees rfl rfl (rfl) (⟨⟨_, (Or.inr rfl), rfl⟩, rfl⟩)
        · skip
          refine y_blk 3 tq_X12_sees (z := (60, [(7, .int ((2 - (fog / 2)) - 0)), (6, .int x2), (0, .ref (ad 200)), (1, .ref (ad (360 + k))), (2, .int cell), (3, .int minute), (4, .int isBright), (5, .int fog)], [.int cell, .int x2, .ref (ad 200)])) rfl ?_
          refine y_callV hS tq_X12_sees rfl (As := [.int x2, .int cell]) rfl cv_X12_104 hX.m (m_X12_apart hS hI hX x2 cell (by first | (with_reducible assumption) | (with_reducible exact hX.lac (by assumption)) | (with_reducible exact hX.poc (by assumption)) | (with_reducible exact hX.wac (by assumption) (by assumption) (by omega)) | assumption | exact hX.lac (by assumption) | exact hX.poc (by assumption) | exact hX.wac (by assumption) (by assumption) (by omega))) rfl (by decide) (Nat.le_of_ble_eq_true rfl) (fun r60 Gc60 q60 => ?_) (fun E9 G9 h9 => h9.elim)
          obtain ⟨rfl, eG60⟩ := q60
          have eG60 := eG60.symm
          subst eG60
          refine y_blk 1 tq_X12_sees (z := (65, [(7, .int ((2 - (fog / 2)) - 0)), (6, .int x2), (0, .ref (ad 200)), (1, .ref (ad (360 + k))), (2, .int cell), (3, .int minute), (4, .int isBright), (5, .int fog)], [.int ((2 - (fog / 2)) - 0), .int (if (yab ((x2 / (rI ρ 1)) - (cell / (rI ρ 1)))) < (yab ((x2 - x2 / (rI ρ 1) * (rI ρ 1)) - (cell - cell / (rI ρ 1) * (rI ρ 1)))) then (yab ((x2 - x2 / (rI ρ 1) * (rI ρ 1)) - (cell - cell / (rI ρ 1) * (rI ρ 1)))) else (yab ((x2 / (rI ρ 1)) - (cell / (rI ρ 1)))))])) rfl ?_
          refine y_icmp_gt tq_X12_sees 82 rfl rfl (fun c65 => ?_) (fun c65 => ?_)
          · skip
            refine y_blk 1 tq_X12_sees (z := (83, [(7, .int ((2 - (fog / 2)) - 0)), (6, .int x2), (0, .ref (ad 200)), (1, .ref (ad (360 + k))), (2, .int cell), (3, .int minute), (4, .int isBright), (5, .int fog)], [.int 0])) rfl ?_
            exact y_zret tq_X12_sees rfl rfl (rfl) (⟨⟨_, (Or.inl rfl), rfl⟩, rfl⟩)
          · skip
            refine y_blk 3 tq_X12_sees (z := (72, [(7, .int ((2 - (fog / 2)) - 0)), (6, .int x2), (0, .ref (ad 200)), (1, .ref (ad (360 + k))), (2, .int cell), (3, .int minute), (4, .int isBright), (5, .int fog)], [.int cell, .int x2, .ref (ad 200)])) rfl ?_
            refine y_callV hS tq_X12_sees rfl (As := [.int x2, .int cell]) rfl cv_X12_112 hX.m (m_X12_isClear hS hI hX x2 cell (by first | (with_reducible assumption) | (with_reducible exact hX.lac (by assumption)) | (with_reducible exact hX.poc (by assumption)) | (with_reducible exact hX.wac (by assumption) (by assumption) (by omega)) | assumption | exact hX.lac (by assumption) | exact hX.poc (by assumption) | exact hX.wac (by assumption) (by assumption) (by omega)) (by first | (with_reducible assumption) | (with_reducible exact hX.lac (by assumption)) | (with_reducible exact hX.poc (by assumption)) | (with_reducible exact hX.wac (by assumption) (by assumption) (by omega)) | assumption | exact hX.lac (by assumption) | exact hX.poc (by assumption) | exact hX.wac (by assumption) (by assumption) (by omega))) rfl (by decide) (Nat.le_of_ble_eq_true rfl) (fun r72 Gc72 q72 => ?_) (fun E9 G9 h9 => h9.elim)
            obtain ⟨⟨x72, hb_x72, rfl⟩, eG72⟩ := q72
            have eG72 := eG72.symm
            subst eG72
            refine y_blk 0 tq_X12_sees (z := (75, [(7, .int ((2 - (fog / 2)) - 0)), (6, .int x2), (0, .ref (ad 200)), (1, .ref (ad (360 + k))), (2, .int cell), (3, .int minute), (4, .int isBright), (5, .int fog)], [.int x72])) rfl ?_
            refine y_if_eq tq_X12_sees 82 rfl rfl (fun c75 => ?_) (fun c75 => ?_)
            · skip
              refine y_blk 1 tq_X12_sees (z := (83, [(7, .int ((2 - (fog / 2)) - 0)), (6, .int x2), (0, .ref (ad 200)), (1, .ref (ad (360 + k))), (2, .int cell), (3, .int minute), (4, .int isBright), (5, .int fog)], [.int 0])) rfl ?_
              exact y_zret tq_X12_sees rfl rfl (rfl) (⟨⟨_, (Or.inl rfl), rfl⟩, rfl⟩)
            · skip
              refine y_blk 2 tq_X12_sees (z := (83, [(7, .int ((2 - (fog / 2)) - 0)), (6, .int x2), (0, .ref (ad 200)), (1, .ref (ad (360 + k))), (2, .int cell), (3, .int minute), (4, .int isBright), (5, .int fog)], [.int 1])) rfl ?_
              exact y_zret tq_X12_sees rfl rfl (rfl) (⟨⟨_, (Or.inr rfl), rfl⟩, rfl⟩)
      · skip
        refine y_blk 6 tq_X12_sees (z := (53, [(7, .int ((2 - (fog / 2)) - 1)), (6, .int x2), (0, .ref (ad 200)), (1, .ref (ad (360 + k))), (2, .int cell), (3, .int minute), (4, .int isBright), (5, .int fog)], [.int cell, .int x2])) rfl ?_
        refine y_icmp_eq tq_X12_sees 78 rfl rfl (fun c53 => ?_) (fun c53 => ?_)
        · skip
          refine y_blk 2 tq_X12_sees (z := (83, [(7, .int ((2 - (fog / 2)) - 1)), (6, .int x2), (0, .ref (ad 200)), (1, .ref (ad (360 + k))), (2, .int cell), (3, .int minute), (4, .int isBright), (5, .int fog)], [.int 1])) rfl ?_
          exact y_zret tq_X12_sees rfl rfl (rfl) (⟨⟨_, (Or.inr rfl), rfl⟩, rfl⟩)
        · skip
          refine y_blk 3 tq_X12_sees (z := (60, [(7, .int ((2 - (fog / 2)) - 1)), (6, .int x2), (0, .ref (ad 200)), (1, .ref (ad (360 + k))), (2, .int cell), (3, .int minute), (4, .int isBright), (5, .int fog)], [.int cell, .int x2, .ref (ad 200)])) rfl ?_
          refine y_callV hS tq_X12_sees rfl (As := [.int x2, .int cell]) rfl cv_X12_104 hX.m (m_X12_apart hS hI hX x2 cell (by first | (with_reducible assumption) | (with_reducible exact hX.lac (by assumption)) | (with_reducible exact hX.poc (by assumption)) | (with_reducible exact hX.wac (by assumption) (by assumption) (by omega)) | assumption | exact hX.lac (by assumption) | exact hX.poc (by assumption) | exact hX.wac (by assumption) (by assumption) (by omega))) rfl (by decide) (Nat.le_of_ble_eq_true rfl) (fun r60 Gc60 q60 => ?_) (fun E9 G9 h9 => h9.elim)
          obtain ⟨rfl, eG60⟩ := q60
          have eG60 := eG60.symm
          subst eG60
          refine y_blk 1 tq_X12_sees (z := (65, [(7, .int ((2 - (fog / 2)) - 1)), (6, .int x2), (0, .ref (ad 200)), (1, .ref (ad (360 + k))), (2, .int cell), (3, .int minute), (4, .int isBright), (5, .int fog)], [.int ((2 - (fog / 2)) - 1), .int (if (yab ((x2 / (rI ρ 1)) - (cell / (rI ρ 1)))) < (yab ((x2 - x2 / (rI ρ 1) * (rI ρ 1)) - (cell - cell / (rI ρ 1) * (rI ρ 1)))) then (yab ((x2 - x2 / (rI ρ 1) * (rI ρ 1)) - (cell - cell / (rI ρ 1) * (rI ρ 1)))) else (yab ((x2 / (rI ρ 1)) - (cell / (rI ρ 1)))))])) rfl ?_
          refine y_icmp_gt tq_X12_sees 82 rfl rfl (fun c65 => ?_) (fun c65 => ?_)
          · skip
            refine y_blk 1 tq_X12_sees (z := (83, [(7, .int ((2 - (fog / 2)) - 1)), (6, .int x2), (0, .ref (ad 200)), (1, .ref (ad (360 + k))), (2, .int cell), (3, .int minute), (4, .int isBright), (5, .int fog)], [.int 0])) rfl ?_
            exact y_zret tq_X12_sees rfl rfl (rfl) (⟨⟨_, (Or.inl rfl), rfl⟩, rfl⟩)
          · skip
            refine y_blk 3 tq_X12_sees (z := (72, [(7, .int ((2 - (fog / 2)) - 1)), (6, .int x2), (0, .ref (ad 200)), (1, .ref (ad (360 + k))), (2, .int cell), (3, .int minute), (4, .int isBright), (5, .int fog)], [.int cell, .int x2, .ref (ad 200)])) rfl ?_
            refine y_callV hS tq_X12_sees rfl (As := [.int x2, .int cell]) rfl cv_X12_112 hX.m (m_X12_isClear hS hI hX x2 cell (by first | (with_reducible assumption) | (with_reducible exact hX.lac (by assumption)) | (with_reducible exact hX.poc (by assumption)) | (with_reducible exact hX.wac (by assumption) (by assumption) (by omega)) | assumption | exact hX.lac (by assumption) | exact hX.poc (by assumption) | exact hX.wac (by assumption) (by assumption) (by omega)) (by first | (with_reducible assumption) | (with_reducible exact hX.lac (by assumption)) | (with_reducible exact hX.poc (by assumption)) | (with_reducible exact hX.wac (by assumption) (by assumption) (by omega)) | assumption | exact hX.lac (by assumption) | exact hX.poc (by assumption) | exact hX.wac (by assumption) (by assumption) (by omega))) rfl (by decide) (Nat.le_of_ble_eq_true rfl) (fun r72 Gc72 q72 => ?_) (fun E9 G9 h9 => h9.elim)
            obtain ⟨⟨x72, hb_x72, rfl⟩, eG72⟩ := q72
            have eG72 := eG72.symm
            subst eG72
            refine y_blk 0 tq_X12_sees (z := (75, [(7, .int ((2 - (fog / 2)) - 1)), (6, .int x2), (0, .ref (ad 200)), (1, .ref (ad (360 + k))), (2, .int cell), (3, .int minute), (4, .int isBright), (5, .int fog)], [.int x72])) rfl ?_
            refine y_if_eq tq_X12_sees 82 rfl rfl (fun c75 => ?_) (fun c75 => ?_)
            · skip
              refine y_blk 1 tq_X12_sees (z := (83, [(7, .int ((2 - (fog / 2)) - 1)), (6, .int x2), (0, .ref (ad 200)), (1, .ref (ad (360 + k))), (2, .int cell), (3, .int minute), (4, .int isBright), (5, .int fog)], [.int 0])) rfl ?_
              exact y_zret tq_X12_sees rfl rfl (rfl) (⟨⟨_, (Or.inl rfl), rfl⟩, rfl⟩)
            · skip
              refine y_blk 2 tq_X12_sees (z := (83, [(7, .int ((2 - (fog / 2)) - 1)), (6, .int x2), (0, .ref (ad 200)), (1, .ref (ad (360 + k))), (2, .int cell), (3, .int minute), (4, .int isBright), (5, .int fog)], [.int 1])) rfl ?_
              exact y_zret tq_X12_sees rfl rfl (rfl) (⟨⟨_, (Or.inr rfl), rfl⟩, rfl⟩)
    · skip
      refine y_blk 6 tq_X12_sees (z := (36, [(6, .int x2), (0, .ref (ad 200)), (1, .ref (ad (360 + k))), (2, .int cell), (3, .int minute), (4, .int isBright), (5, .int fog)], [.int minute, .ref (ad (360 + k)), .int (7 - fog)])) rfl ?_
      refine y_callV hS tq_X12_sees rfl (As := [.int minute]) rfl cv_X12_127 (hX.gu (by assumption)) (m_X10_isTired hS hI hX (k := k) (by assumption) minute) rfl (by decide) (Nat.le_of_ble_eq_true rfl) (fun r36 Gc36 q36 => ?_) (fun E9 G9 h9 => h9.elim)
      obtain ⟨⟨x36, hb_x36, rfl⟩, eG36⟩ := q36
      have eG36 := eG36.symm
      subst eG36
      refine y_blk 0 tq_X12_sees (z := (39, [(6, .int x2), (0, .ref (ad 200)), (1, .ref (ad (360 + k))), (2, .int cell), (3, .int minute), (4, .int isBright), (5, .int fog)], [.int x36, .int (7 - fog)])) rfl ?_
      refine y_if_eq tq_X12_sees 46 rfl rfl (fun c39 => ?_) (fun c39 => ?_)
      · skip
        refine y_blk 5 tq_X12_sees (z := (53, [(7, .int ((7 - fog) - 0)), (6, .int x2), (0, .ref (ad 200)), (1, .ref (ad (360 + k))), (2, .int cell), (3, .int minute), (4, .int isBright), (5, .int fog)], [.int cell, .int x2])) rfl ?_
        refine y_icmp_eq tq_X12_sees 78 rfl rfl (fun c53 => ?_) (fun c53 => ?_)
        · skip
          refine y_blk 2 tq_X12_sees (z := (83, [(7, .int ((7 - fog) - 0)), (6, .int x2), (0, .ref (ad 200)), (1, .ref (ad (360 + k))), (2, .int cell), (3, .int minute), (4, .int isBright), (5, .int fog)], [.int 1])) rfl ?_
          exact y_zret tq_X12_sees rfl rfl (rfl) (⟨⟨_, (Or.inr rfl), rfl⟩, rfl⟩)
        · skip
          refine y_blk 3 tq_X12_sees (z := (60, [(7, .int ((7 - fog) - 0)), (6, .int x2), (0, .ref (ad 200)), (1, .ref (ad (360 + k))), (2, .int cell), (3, .int minute), (4, .int isBright), (5, .int fog)], [.int cell, .int x2, .ref (ad 200)])) rfl ?_
          refine y_callV hS tq_X12_sees rfl (As := [.int x2, .int cell]) rfl cv_X12_104 hX.m (m_X12_apart hS hI hX x2 cell (by first | (with_reducible assumption) | (with_reducible exact hX.lac (by assumption)) | (with_reducible exact hX.poc (by assumption)) | (with_reducible exact hX.wac (by assumption) (by assumption) (by omega)) | assumption | exact hX.lac (by assumption) | exact hX.poc (by assumption) | exact hX.wac (by assumption) (by assumption) (by omega))) rfl (by decide) (Nat.le_of_ble_eq_true rfl) (fun r60 Gc60 q60 => ?_) (fun E9 G9 h9 => h9.elim)
          obtain ⟨rfl, eG60⟩ := q60
          have eG60 := eG60.symm
          subst eG60
          refine y_blk 1 tq_X12_sees (z := (65, [(7, .int ((7 - fog) - 0)), (6, .int x2), (0, .ref (ad 200)), (1, .ref (ad (360 + k))), (2, .int cell), (3, .int minute), (4, .int isBright), (5, .int fog)], [.int ((7 - fog) - 0), .int (if (yab ((x2 / (rI ρ 1)) - (cell / (rI ρ 1)))) < (yab ((x2 - x2 / (rI ρ 1) * (rI ρ 1)) - (cell - cell / (rI ρ 1) * (rI ρ 1)))) then (yab ((x2 - x2 / (rI ρ 1) * (rI ρ 1)) - (cell - cell / (rI ρ 1) * (rI ρ 1)))) else (yab ((x2 / (rI ρ 1)) - (cell / (rI ρ 1)))))])) rfl ?_
          refine y_icmp_gt tq_X12_sees 82 rfl rfl (fun c65 => ?_) (fun c65 => ?_)
          · skip
            refine y_blk 1 tq_X12_sees (z := (83, [(7, .int ((7 - fog) - 0)), (6, .int x2), (0, .ref (ad 200)), (1, .ref (ad (360 + k))), (2, .int cell), (3, .int minute), (4, .int isBright), (5, .int fog)], [.int 0])) rfl ?_
            exact y_zret tq_X12_sees rfl rfl (rfl) (⟨⟨_, (Or.inl rfl), rfl⟩, rfl⟩)
          · skip
            refine y_blk 3 tq_X12_sees (z := (72, [(7, .int ((7 - fog) - 0)), (6, .int x2), (0, .ref (ad 200)), (1, .ref (ad (360 + k))), (2, .int cell), (3, .int minute), (4, .int isBright), (5, .int fog)], [.int cell, .int x2, .ref (ad 200)])) rfl ?_
            refine y_callV hS tq_X12_sees rfl (As := [.int x2, .int cell]) rfl cv_X12_112 hX.m (m_X12_isClear hS hI hX x2 cell (by first | (with_reducible assumption) | (with_reducible exact hX.lac (by assumption)) | (with_reducible exact hX.poc (by assumption)) | (with_reducible exact hX.wac (by assumption) (by assumption) (by omega)) | assumption | exact hX.lac (by assumption) | exact hX.poc (by assumption) | exact hX.wac (by assumption) (by assumption) (by omega)) (by first | (with_reducible assumption) | (with_reducible exact hX.lac (by assumption)) | (with_reducible exact hX.poc (by assumption)) | (with_reducible exact hX.wac (by assumption) (by assumption) (by omega)) | assumption | exact hX.lac (by assumption) | exact hX.poc (by assumption) | exact hX.wac (by assumption) (by assumption) (by omega))) rfl (by decide) (Nat.le_of_ble_eq_true rfl) (fun r72 Gc72 q72 => ?_) (fun E9 G9 h9 => h9.elim)
            obtain ⟨⟨x72, hb_x72, rfl⟩, eG72⟩ := q72
            have eG72 := eG72.symm
            subst eG72
            refine y_blk 0 tq_X12_sees (z := (75, [(7, .int ((7 - fog) - 0)), (6, .int x2), (0, .ref (ad 200)), (1, .ref (ad (360 + k))), (2, .int cell), (3, .int minute), (4, .int isBright), (5, .int fog)], [.int x72])) rfl ?_
            refine y_if_eq tq_X12_sees 82 rfl rfl (fun c75 => ?_) (fun c75 => ?_)
            · skip
              refine y_blk 1 tq_X12_sees (z := (83, [(7, .int ((7 - fog) - 0)), (6, .int x2), (0, .ref (ad 200)), (1, .ref (ad (360 + k))), (2, .int cell), (3, .int minute), (4, .int isBright), (5, .int fog)], [.int 0])) rfl ?_
              exact y_zret tq_X12_sees rfl rfl (rfl) (⟨⟨_, (Or.inl rfl), rfl⟩, rfl⟩)
            · skip
              refine y_blk 2 tq_X12_sees (z := (83, [(7, .int ((7 - fog) - 0)), (6, .int x2), (0, .ref (ad 200)), (1, .ref (ad (360 + k))), (2, .int cell), (3, .int minute), (4, .int isBright), (5, .int fog)], [.int 1])) rfl ?_
              exact y_zret tq_X12_sees rfl rfl (rfl) (⟨⟨_, (Or.inr rfl), rfl⟩, rfl⟩)
      · skip
        refine y_blk 6 tq_X12_sees (z := (53, [(7, .int ((7 - fog) - 1)), (6, .int x2), (0, .ref (ad 200)), (1, .ref (ad (360 + k))), (2, .int cell), (3, .int minute), (4, .int isBright), (5, .int fog)], [.int cell, .int x2])) rfl ?_
        refine y_icmp_eq tq_X12_sees 78 rfl rfl (fun c53 => ?_) (fun c53 => ?_)
        · skip
          refine y_blk 2 tq_X12_sees (z := (83, [(7, .int ((7 - fog) - 1)), (6, .int x2), (0, .ref (ad 200)), (1, .ref (ad (360 + k))), (2, .int cell), (3, .int minute), (4, .int isBright), (5, .int fog)], [.int 1])) rfl ?_
          exact y_zret tq_X12_sees rfl rfl (rfl) (⟨⟨_, (Or.inr rfl), rfl⟩, rfl⟩)
        · skip
          refine y_blk 3 tq_X12_sees (z := (60, [(7, .int ((7 - fog) - 1)), (6, .int x2), (0, .ref (ad 200)), (1, .ref (ad (360 + k))), (2, .int cell), (3, .int minute), (4, .int isBright), (5, .int fog)], [.int cell, .int x2, .ref (ad 200)])) rfl ?_
          refine y_callV hS tq_X12_sees rfl (As := [.int x2, .int cell]) rfl cv_X12_104 hX.m (m_X12_apart hS hI hX x2 cell (by first | (with_reducible assumption) | (with_reducible exact hX.lac (by assumption)) | (with_reducible exact hX.poc (by assumption)) | (with_reducible exact hX.wac (by assumption) (by assumption) (by omega)) | assumption | exact hX.lac (by assumption) | exact hX.poc (by assumption) | exact hX.wac (by assumption) (by assumption) (by omega))) rfl (by decide) (Nat.le_of_ble_eq_true rfl) (fun r60 Gc60 q60 => ?_) (fun E9 G9 h9 => h9.elim)
          obtain ⟨rfl, eG60⟩ := q60
          have eG60 := eG60.symm
          subst eG60
          refine y_blk 1 tq_X12_sees (z := (65, [(7, .int ((7 - fog) - 1)), (6, .int x2), (0, .ref (ad 200)), (1, .ref (ad (360 + k))), (2, .int cell), (3, .int minute), (4, .int isBright), (5, .int fog)], [.int ((7 - fog) - 1), .int (if (yab ((x2 / (rI ρ 1)) - (cell / (rI ρ 1)))) < (yab ((x2 - x2 / (rI ρ 1) * (rI ρ 1)) - (cell - cell / (rI ρ 1) * (rI ρ 1)))) then (yab ((x2 - x2 / (rI ρ 1) * (rI ρ 1)) - (cell - cell / (rI ρ 1) * (rI ρ 1)))) else (yab ((x2 / (rI ρ 1)) - (cell / (rI ρ 1)))))])) rfl ?_
          refine y_icmp_gt tq_X12_sees 82 rfl rfl (fun c65 => ?_) (fun c65 => ?_)
          · skip
            refine y_blk 1 tq_X12_sees (z := (83, [(7, .int ((7 - fog) - 1)), (6, .int x2), (0, .ref (ad 200)), (1, .ref (ad (360 + k))), (2, .int cell), (3, .int minute), (4, .int isBright), (5, .int fog)], [.int 0])) rfl ?_
            exact y_zret tq_X12_sees rfl rfl (rfl) (⟨⟨_, (Or.inl rfl), rfl⟩, rfl⟩)
          · skip
            refine y_blk 3 tq_X12_sees (z := (72, [(7, .int ((7 - fog) - 1)), (6, .int x2), (0, .ref (ad 200)), (1, .ref (ad (360 + k))), (2, .int cell), (3, .int minute), (4, .int isBright), (5, .int fog)], [.int cell, .int x2, .ref (ad 200)])) rfl ?_
            refine y_callV hS tq_X12_sees rfl (As := [.int x2, .int cell]) rfl cv_X12_112 hX.m (m_X12_isClear hS hI hX x2 cell (by first | (with_reducible assumption) | (with_reducible exact hX.lac (by assumption)) | (with_reducible exact hX.poc (by assumption)) | (with_reducible exact hX.wac (by assumption) (by assumption) (by omega)) | assumption | exact hX.lac (by assumption) | exact hX.poc (by assumption) | exact hX.wac (by assumption) (by assumption) (by omega)) (by first | (with_reducible assumption) | (with_reducible exact hX.lac (by assumption)) | (with_reducible exact hX.poc (by assumption)) | (with_reducible exact hX.wac (by assumption) (by assumption) (by omega)) | assumption | exact hX.lac (by assumption) | exact hX.poc (by assumption) | exact hX.wac (by assumption) (by assumption) (by omega))) rfl (by decide) (Nat.le_of_ble_eq_true rfl) (fun r72 Gc72 q72 => ?_) (fun E9 G9 h9 => h9.elim)
            obtain ⟨⟨x72, hb_x72, rfl⟩, eG72⟩ := q72
            have eG72 := eG72.symm
            subst eG72
            refine y_blk 0 tq_X12_sees (z := (75, [(7, .int ((7 - fog) - 1)), (6, .int x2), (0, .ref (ad 200)), (1, .ref (ad (360 + k))), (2, .int cell), (3, .int minute), (4, .int isBright), (5, .int fog)], [.int x72])) rfl ?_
            refine y_if_eq tq_X12_sees 82 rfl rfl (fun c75 => ?_) (fun c75 => ?_)
            · skip
              refine y_blk 1 tq_X12_sees (z := (83, [(7, .int ((7 - fog) - 1)), (6, .int x2), (0, .ref (ad 200)), (1, .ref (ad (360 + k))), (2, .int cell), (3, .int minute), (4, .int isBright), (5, .int fog)], [.int 0])) rfl ?_
              exact y_zret tq_X12_sees rfl rfl (rfl) (⟨⟨_, (Or.inl rfl), rfl⟩, rfl⟩)
            · skip
              refine y_blk 2 tq_X12_sees (z := (83, [(7, .int ((7 - fog) - 1)), (6, .int x2), (0, .ref (ad 200)), (1, .ref (ad (360 + k))), (2, .int cell), (3, .int minute), (4, .int isBright), (5, .int fog)], [.int 1])) rfl ?_
              exact y_zret tq_X12_sees rfl rfl (rfl) (⟨⟨_, (Or.inr rfl), rfl⟩, rfl⟩)
  · skip
    refine y_blk 1 tq_X12_sees (z := (14, [(6, .int x2), (0, .ref (ad 200)), (1, .ref (ad (360 + k))), (2, .int cell), (3, .int minute), (4, .int isBright), (5, .int fog)], [.int 0])) rfl ?_
    exact y_zret tq_X12_sees rfl rfl (rfl) (⟨⟨_, (Or.inl rfl), rfl⟩, rfl⟩)
set_option maxHeartbeats 4000000 in
set_option maxRecDepth 100000 in
theorem m_X12_isWatched {l : Launch} {S0 : State} {A0 : Array Value} {D : va_G} {aC : Nat → ClassId} {ic : Int32 → Nat} {de : Nat} {ad : Nat → Nat} {G : AH} {ρ : RS} (hS : yS l S0 A0 D aC) (hI : yIc S0 ic de) (hX : atR aC ic de ad G ρ) (cell : Int32) (minute : Int32) (hcell : rcell ρ cell) : yM l S0 D yX12_isWatched cX12_isWatched 6 (some .boolean) 20 0 0 [.ref (ad 200), .int cell, .int minute] G (fun r G1 => (∃ v : Int32, (v = 0 ∨ v = 1) ∧ r = some (.int v)) ∧ G1 = G) (fun _ _ => False) := by
  refine yM.ofK K_X12_isWatched rfl (by decide) (Nat.le_of_ble_eq_true rfl) ?_
  have J16 : ∀ (n16 : Nat) (v16_3 : Int32) (v16_4 : Int32) (v16_5 : Int32) (hb_v16_3 : v16_3 = 0 ∨ v16_3 = 1) (h0_16 : 0 ≤ v16_5.toInt), (((Int32.ofNat (rZ ρ 212)) : Int32).toInt - v16_5.toInt).toNat = n16 → Y l S0 D K_X12_isWatched 20 0 0 (fun r G1 => (∃ v : Int32, (v = 0 ∨ v = 1) ∧ r = some (.int v)) ∧ G1 = G) (fun _ _ => False) 16 [(0, .ref (ad 200)), (1, .int cell), (2, .int minute), (3, .int v16_3), (4, .int v16_4), (5, .int v16_5)] [] G 0 0 := by
    intro n16
    induction n16 using Nat.strongRecOn with
    | _ n16 ih16 =>
    intro v16_3 v16_4 v16_5 hb_v16_3 h0_16 hn16
    subst hn16
    refine y_blk 2 tq_X12_isWatched (z := (19, [(0, .ref (ad 200)), (1, .int cell), (2, .int minute), (3, .int v16_3), (4, .int v16_4), (5, .int v16_5)], [.ref (ad 200), .int v16_5])) rfl ?_
    refine y_get hS tq_X12_isWatched (v := .ref (ad 212)) rfl fg_X12_27_X12 hX.m rfl ?_
    refine y_blk 0 tq_X12_isWatched (z := (22, [(0, .ref (ad 200)), (1, .int cell), (2, .int minute), (3, .int v16_3), (4, .int v16_4), (5, .int v16_5)], [.ref (ad 212), .int v16_5])) rfl ?_
    refine y_callF hS tq_X12_isWatched rfl (As := []) rfl cf_X12_58 (Or.inl ⟨_, (hX.ls 212 (by decide)).1⟩) (m_Jsize hS (hX.ls 212 (by decide))) rfl (by decide) (Nat.le_of_ble_eq_true rfl) (fun r22 Gc22 q22 => ?_) (fun _ _ h9 => h9.elim)
    obtain ⟨rfl, eG22⟩ := q22
    have eG22 := eG22.symm
    subst eG22
    refine y_blk 0 tq_X12_isWatched (z := (27, [(0, .ref (ad 200)), (1, .int cell), (2, .int minute), (3, .int v16_3), (4, .int v16_4), (5, .int v16_5)], [.int (Int32.ofNat (rZ ρ 212)), .int v16_5])) rfl ?_
    refine y_icmp_ge tq_X12_isWatched 64 rfl rfl (fun c27 => ?_) (fun c27 => ?_)
    · skip
      refine y_blk 1 tq_X12_isWatched (z := (65, [(0, .ref (ad 200)), (1, .int cell), (2, .int minute), (3, .int v16_3), (4, .int v16_4), (5, .int v16_5)], [.int 0])) rfl ?_
      exact y_zret tq_X12_isWatched rfl rfl (rfl) (⟨⟨_, (Or.inl rfl), rfl⟩, rfl⟩)
    · skip
      have hn27 := hX.2.le10 212 (by decide)
      have b27 : v16_5.toInt < rZ ρ 212 := yIy (by omega) h0_16 c27
      have d27 : Int32.toNatClampNeg v16_5 < rZ ρ 212 := yIx h0_16 b27
      refine y_blk 2 tq_X12_isWatched (z := (32, [(0, .ref (ad 200)), (1, .int cell), (2, .int minute), (3, .int v16_3), (4, .int v16_4), (5, .int v16_5)], [.ref (ad 200), .ref (ad 200)])) rfl ?_
      refine y_get hS tq_X12_isWatched (v := .ref (ad 212)) rfl fg_X12_27_X12 hX.m rfl ?_
      refine y_blk 1 tq_X12_isWatched (z := (37, [(0, .ref (ad 200)), (1, .int cell), (2, .int minute), (3, .int v16_3), (4, .int v16_4), (5, .int v16_5)], [.int v16_5, .ref (ad 212), .ref (ad 200)])) rfl ?_
      refine y_callF hS tq_X12_isWatched rfl (As := [.int v16_5]) rfl cf_X12_80 (Or.inl ⟨_, (hX.ls 212 (by decide)).1⟩) (m_Rgu hS hX (by assumption) (by assumption)) rfl (by decide) (Nat.le_of_ble_eq_true rfl) (fun r37 Gc37 q37 => ?_) (fun _ _ h9 => h9.elim)
      obtain ⟨rfl, eG37⟩ := q37
      have eG37 := eG37.symm
      subst eG37
      have d37 : (Int32.toNatClampNeg v16_5) < rZ ρ 212 := yIx (by assumption) (by assumption)
      refine y_blk 0 tq_X12_isWatched (z := (42, [(0, .ref (ad 200)), (1, .int cell), (2, .int minute), (3, .int v16_3), (4, .int v16_4), (5, .int v16_5)], [.ref (ad (360 + (Int32.toNatClampNeg v16_5))), .ref (ad 200)])) rfl ?_
      refine y_castG hS tq_X12_isWatched rfl kc_X12_84 (Or.inl ⟨_, (hX.gu (by assumption))⟩) ?_
      refine y_blk 4 tq_X12_isWatched (z := (50, [(0, .ref (ad 200)), (1, .int cell), (2, .int minute), (3, .int v16_3), (4, .int v16_4), (5, .int v16_5)], [.int v16_4, .int v16_3, .int minute, .int cell, .ref (ad (360 + (Int32.toNatClampNeg v16_5))), .ref (ad 200)])) rfl ?_
      refine y_callV hS tq_X12_isWatched rfl (As := [.ref (ad (360 + (Int32.toNatClampNeg v16_5))), .int cell, .int minute, .int v16_3, .int v16_4]) rfl cv_X12_133 hX.m (m_X12_sees hS hI hX (k := (Int32.toNatClampNeg v16_5)) (by assumption) cell minute v16_3 v16_4 (by first | (with_reducible assumption) | (with_reducible exact hX.lac (by assumption)) | (with_reducible exact hX.poc (by assumption)) | (with_reducible exact hX.wac (by assumption) (by assumption) (by omega)) | assumption | exact hX.lac (by assumption) | exact hX.poc (by assumption) | exact hX.wac (by assumption) (by assumption) (by omega))) rfl (by decide) (Nat.le_of_ble_eq_true rfl) (fun r50 Gc50 q50 => ?_) (fun E9 G9 h9 => h9.elim)
      obtain ⟨⟨x50, hb_x50, rfl⟩, eG50⟩ := q50
      have eG50 := eG50.symm
      subst eG50
      refine y_blk 0 tq_X12_isWatched (z := (53, [(0, .ref (ad 200)), (1, .int cell), (2, .int minute), (3, .int v16_3), (4, .int v16_4), (5, .int v16_5)], [.int x50])) rfl ?_
      refine y_if_eq tq_X12_isWatched 58 rfl rfl (fun c53 => ?_) (fun c53 => ?_)
      · skip
        refine y_blk 2 tq_X12_isWatched (z := (16, [(5, .int (v16_5 + 1)), (0, .ref (ad 200)), (1, .int cell), (2, .int minute), (3, .int v16_3), (4, .int v16_4)], [])) rfl ?_
        refine y_pick (L2 := [(0, .ref (ad 200)), (1, .int cell), (2, .int minute), (3, .int v16_3), (4, .int v16_4), (5, .int (v16_5 + 1))]) [1, 2, 3, 4, 5, 0] rfl ?_
        exact ih16 _ (by exact ydec c27) v16_3 v16_4 (v16_5 + 1) hb_v16_3 (by first | decide | assumption | exact Int.le_refl _ | exact yposgeL (by assumption) c27) rfl
      · skip
        refine y_blk 1 tq_X12_isWatched (z := (57, [(0, .ref (ad 200)), (1, .int cell), (2, .int minute), (3, .int v16_3), (4, .int v16_4), (5, .int v16_5)], [.int 1])) rfl ?_
        exact y_zret tq_X12_isWatched rfl rfl (rfl) (⟨⟨_, (Or.inr rfl), rfl⟩, rfl⟩)
  refine y_blk 2 tq_X12_isWatched (z := (2, [(0, .ref (ad 200)), (1, .int cell), (2, .int minute)], [.int cell, .ref (ad 200)])) rfl ?_
  refine y_callV hS tq_X12_isWatched rfl (As := [.int cell]) rfl cv_X12_120 hX.m (m_X12_isBright hS hI hX cell (by first | (with_reducible assumption) | (with_reducible exact hX.lac (by assumption)) | (with_reducible exact hX.poc (by assumption)) | (with_reducible exact hX.wac (by assumption) (by assumption) (by omega)) | assumption | exact hX.lac (by assumption) | exact hX.poc (by assumption) | exact hX.wac (by assumption) (by assumption) (by omega))) rfl (by decide) (Nat.le_of_ble_eq_true rfl) (fun r2 Gc2 q2 => ?_) (fun E9 G9 h9 => h9.elim)
  obtain ⟨⟨x2, hb_x2, rfl⟩, eG2⟩ := q2
  have eG2 := eG2.symm
  subst eG2
  refine y_blk 3 tq_X12_isWatched (z := (8, [(3, .int x2), (0, .ref (ad 200)), (1, .int cell), (2, .int minute)], [.int minute, .ref (ad 200)])) rfl ?_
  refine y_callV hS tq_X12_isWatched rfl (As := [.int minute]) rfl cv_X12_130 hX.m (m_X12_fogAt hS hI hX minute) rfl (by decide) (Nat.le_of_ble_eq_true rfl) (fun r8 Gc8 q8 => ?_) (fun E9 G9 h9 => h9.elim)
  obtain ⟨⟨x8, rfl⟩, eG8⟩ := q8
  have eG8 := eG8.symm
  subst eG8
  refine y_blk 3 tq_X12_isWatched (z := (16, [(5, .int 0), (4, .int x8), (3, .int x2), (0, .ref (ad 200)), (1, .int cell), (2, .int minute)], [])) rfl ?_
  refine y_pick (L2 := [(0, .ref (ad 200)), (1, .int cell), (2, .int minute), (3, .int x2), (4, .int x8), (5, .int 0)]) [3, 4, 5, 2, 1, 0] rfl ?_
  exact J16 _ x2 x8 0 hb_x2 (by first | decide | assumption | exact Int.le_refl _ | exact yposgeL (by assumption) c27) rfl
set_option maxHeartbeats 4000000 in
set_option maxRecDepth 100000 in
theorem m_X12_seers {l : Launch} {S0 : State} {A0 : Array Value} {D : va_G} {aC : Nat → ClassId} {ic : Int32 → Nat} {de : Nat} {ad : Nat → Nat} {G : AH} {ρ : RS} (hS : yS l S0 A0 D aC) (hI : yIc S0 ic de) (hX : atR aC ic de ad G ρ) (cell : Int32) (minute : Int32) (hcell : rcell ρ cell) : yM l S0 D yX12_seers cX12_seers 7 (some .int) 20 0 0 [.ref (ad 200), .int cell, .int minute] G (fun r G1 => (∃ v : Int32, r = some (.int v)) ∧ G1 = G) (fun _ _ => False) := by
  refine yM.ofK K_X12_seers rfl (by decide) (Nat.le_of_ble_eq_true rfl) ?_
  have J19 : ∀ (n19 : Nat) (v19_3 : Int32) (v19_4 : Int32) (v19_5 : Int32) (v19_6 : Int32) (hb_v19_3 : v19_3 = 0 ∨ v19_3 = 1) (h0_19 : 0 ≤ v19_6.toInt), (((Int32.ofNat (rZ ρ 212)) : Int32).toInt - v19_6.toInt).toNat = n19 → Y l S0 D K_X12_seers 20 0 0 (fun r G1 => (∃ v : Int32, r = some (.int v)) ∧ G1 = G) (fun _ _ => False) 19 [(0, .ref (ad 200)), (1, .int cell), (2, .int minute), (3, .int v19_3), (4, .int v19_4), (5, .int v19_5), (6, .int v19_6)] [] G 0 0 := by
    intro n19
    induction n19 using Nat.strongRecOn with
    | _ n19 ih19 =>
    intro v19_3 v19_4 v19_5 v19_6 hb_v19_3 h0_19 hn19
    subst hn19
    have J69 : ∀ (w69_0 : Int32) (c30 : ¬ ((Int32.ofNat (rZ ρ 212)) : Int32) ≤ v19_6), Y l S0 D K_X12_seers 20 0 0 (fun r G1 => (∃ v : Int32, r = some (.int v)) ∧ G1 = G) (fun _ _ => False) 69 [(0, .ref (ad 200)), (1, .int cell), (2, .int minute), (3, .int v19_3), (4, .int v19_4), (5, .int v19_5), (6, .int v19_6)] [.int w69_0, .int v19_5] G 0 0 := by
      intro w69_0 c30
      have hn30 := hX.2.le10 212 (by decide)
      have b30 : v19_6.toInt < rZ ρ 212 := yIy (by omega) h0_19 c30
      have d30 : Int32.toNatClampNeg v19_6 < rZ ρ 212 := yIx h0_19 b30
      refine y_blk 4 tq_X12_seers (z := (19, [(6, .int (v19_6 + 1)), (5, .int (v19_5 ||| w69_0)), (0, .ref (ad 200)), (1, .int cell), (2, .int minute), (3, .int v19_3), (4, .int v19_4)], [])) rfl ?_
      refine y_pick (L2 := [(0, .ref (ad 200)), (1, .int cell), (2, .int minute), (3, .int v19_3), (4, .int v19_4), (5, .int (v19_5 ||| w69_0)), (6, .int (v19_6 + 1))]) [2, 3, 4, 5, 6, 1, 0] rfl ?_
      exact ih19 _ (by exact ydec c30) v19_3 v19_4 (v19_5 ||| w69_0) (v19_6 + 1) hb_v19_3 (by first | decide | assumption | exact Int.le_refl _ | exact yposgeL (by assumption) c30) rfl
    refine y_blk 2 tq_X12_seers (z := (22, [(0, .ref (ad 200)), (1, .int cell), (2, .int minute), (3, .int v19_3), (4, .int v19_4), (5, .int v19_5), (6, .int v19_6)], [.ref (ad 200), .int v19_6])) rfl ?_
    refine y_get hS tq_X12_seers (v := .ref (ad 212)) rfl fg_X12_27_X12 hX.m rfl ?_
    refine y_blk 0 tq_X12_seers (z := (25, [(0, .ref (ad 200)), (1, .int cell), (2, .int minute), (3, .int v19_3), (4, .int v19_4), (5, .int v19_5), (6, .int v19_6)], [.ref (ad 212), .int v19_6])) rfl ?_
    refine y_callF hS tq_X12_seers rfl (As := []) rfl cf_X12_58 (Or.inl ⟨_, (hX.ls 212 (by decide)).1⟩) (m_Jsize hS (hX.ls 212 (by decide))) rfl (by decide) (Nat.le_of_ble_eq_true rfl) (fun r25 Gc25 q25 => ?_) (fun _ _ h9 => h9.elim)
    obtain ⟨rfl, eG25⟩ := q25
    have eG25 := eG25.symm
    subst eG25
    refine y_blk 0 tq_X12_seers (z := (30, [(0, .ref (ad 200)), (1, .int cell), (2, .int minute), (3, .int v19_3), (4, .int v19_4), (5, .int v19_5), (6, .int v19_6)], [.int (Int32.ofNat (rZ ρ 212)), .int v19_6])) rfl ?_
    refine y_icmp_ge tq_X12_seers 78 rfl rfl (fun c30 => ?_) (fun c30 => ?_)
    · skip
      refine y_blk 1 tq_X12_seers (z := (80, [(0, .ref (ad 200)), (1, .int cell), (2, .int minute), (3, .int v19_3), (4, .int v19_4), (5, .int v19_5), (6, .int v19_6)], [.int v19_5])) rfl ?_
      exact y_iret tq_X12_seers rfl rfl (⟨⟨_, rfl⟩, rfl⟩)
    · skip
      have hn30 := hX.2.le10 212 (by decide)
      have b30 : v19_6.toInt < rZ ρ 212 := yIy (by omega) h0_19 c30
      have d30 : Int32.toNatClampNeg v19_6 < rZ ρ 212 := yIx h0_19 b30
      refine y_blk 3 tq_X12_seers (z := (37, [(0, .ref (ad 200)), (1, .int cell), (2, .int minute), (3, .int v19_3), (4, .int v19_4), (5, .int v19_5), (6, .int v19_6)], [.ref (ad 200), .ref (ad 200), .int v19_5])) rfl ?_
      refine y_get hS tq_X12_seers (v := .ref (ad 212)) rfl fg_X12_27_X12 hX.m rfl ?_
      refine y_blk 1 tq_X12_seers (z := (42, [(0, .ref (ad 200)), (1, .int cell), (2, .int minute), (3, .int v19_3), (4, .int v19_4), (5, .int v19_5), (6, .int v19_6)], [.int v19_6, .ref (ad 212), .ref (ad 200), .int v19_5])) rfl ?_
      refine y_callF hS tq_X12_seers rfl (As := [.int v19_6]) rfl cf_X12_80 (Or.inl ⟨_, (hX.ls 212 (by decide)).1⟩) (m_Rgu hS hX (by assumption) (by assumption)) rfl (by decide) (Nat.le_of_ble_eq_true rfl) (fun r42 Gc42 q42 => ?_) (fun _ _ h9 => h9.elim)
      obtain ⟨rfl, eG42⟩ := q42
      have eG42 := eG42.symm
      subst eG42
      have d42 : (Int32.toNatClampNeg v19_6) < rZ ρ 212 := yIx (by assumption) (by assumption)
      refine y_blk 0 tq_X12_seers (z := (47, [(0, .ref (ad 200)), (1, .int cell), (2, .int minute), (3, .int v19_3), (4, .int v19_4), (5, .int v19_5), (6, .int v19_6)], [.ref (ad (360 + (Int32.toNatClampNeg v19_6))), .ref (ad 200), .int v19_5])) rfl ?_
      refine y_castG hS tq_X12_seers rfl kc_X12_84 (Or.inl ⟨_, (hX.gu (by assumption))⟩) ?_
      refine y_blk 4 tq_X12_seers (z := (55, [(0, .ref (ad 200)), (1, .int cell), (2, .int minute), (3, .int v19_3), (4, .int v19_4), (5, .int v19_5), (6, .int v19_6)], [.int v19_4, .int v19_3, .int minute, .int cell, .ref (ad (360 + (Int32.toNatClampNeg v19_6))), .ref (ad 200), .int v19_5])) rfl ?_
      refine y_callV hS tq_X12_seers rfl (As := [.ref (ad (360 + (Int32.toNatClampNeg v19_6))), .int cell, .int minute, .int v19_3, .int v19_4]) rfl cv_X12_133 hX.m (m_X12_sees hS hI hX (k := (Int32.toNatClampNeg v19_6)) (by assumption) cell minute v19_3 v19_4 (by first | (with_reducible assumption) | (with_reducible exact hX.lac (by assumption)) | (with_reducible exact hX.poc (by assumption)) | (with_reducible exact hX.wac (by assumption) (by assumption) (by omega)) | assumption | exact hX.lac (by assumption) | exact hX.poc (by assumption) | exact hX.wac (by assumption) (by assumption) (by omega))) rfl (by decide) (Nat.le_of_ble_eq_true rfl) (fun r55 Gc55 q55 => ?_) (fun E9 G9 h9 => h9.elim)
      obtain ⟨⟨x55, hb_x55, rfl⟩, eG55⟩ := q55
      have eG55 := eG55.symm
      subst eG55
      refine y_blk 0 tq_X12_seers (z := (58, [(0, .ref (ad 200)), (1, .int cell), (2, .int minute), (3, .int v19_3), (4, .int v19_4), (5, .int v19_5), (6, .int v19_6)], [.int x55, .int v19_5])) rfl ?_
      refine y_if_eq tq_X12_seers 68 rfl rfl (fun c58 => ?_) (fun c58 => ?_)
      · skip
        refine y_blk 1 tq_X12_seers (z := (69, [(0, .ref (ad 200)), (1, .int cell), (2, .int minute), (3, .int v19_3), (4, .int v19_4), (5, .int v19_5), (6, .int v19_6)], [.int 0, .int v19_5])) rfl ?_
        exact J69 0 (by exact c30)
      · skip
        refine y_blk 4 tq_X12_seers (z := (69, [(0, .ref (ad 200)), (1, .int cell), (2, .int minute), (3, .int v19_3), (4, .int v19_4), (5, .int v19_5), (6, .int v19_6)], [.int (1 <<< (v19_6 &&& 31)), .int v19_5])) rfl ?_
        exact J69 (1 <<< (v19_6 &&& 31)) (by exact c30)
  refine y_blk 2 tq_X12_seers (z := (2, [(0, .ref (ad 200)), (1, .int cell), (2, .int minute)], [.int cell, .ref (ad 200)])) rfl ?_
  refine y_callV hS tq_X12_seers rfl (As := [.int cell]) rfl cv_X12_120 hX.m (m_X12_isBright hS hI hX cell (by first | (with_reducible assumption) | (with_reducible exact hX.lac (by assumption)) | (with_reducible exact hX.poc (by assumption)) | (with_reducible exact hX.wac (by assumption) (by assumption) (by omega)) | assumption | exact hX.lac (by assumption) | exact hX.poc (by assumption) | exact hX.wac (by assumption) (by assumption) (by omega))) rfl (by decide) (Nat.le_of_ble_eq_true rfl) (fun r2 Gc2 q2 => ?_) (fun E9 G9 h9 => h9.elim)
  obtain ⟨⟨x2, hb_x2, rfl⟩, eG2⟩ := q2
  have eG2 := eG2.symm
  subst eG2
  refine y_blk 3 tq_X12_seers (z := (8, [(3, .int x2), (0, .ref (ad 200)), (1, .int cell), (2, .int minute)], [.int minute, .ref (ad 200)])) rfl ?_
  refine y_callV hS tq_X12_seers rfl (As := [.int minute]) rfl cv_X12_130 hX.m (m_X12_fogAt hS hI hX minute) rfl (by decide) (Nat.le_of_ble_eq_true rfl) (fun r8 Gc8 q8 => ?_) (fun E9 G9 h9 => h9.elim)
  obtain ⟨⟨x8, rfl⟩, eG8⟩ := q8
  have eG8 := eG8.symm
  subst eG8
  refine y_blk 5 tq_X12_seers (z := (19, [(6, .int 0), (5, .int 0), (4, .int x8), (3, .int x2), (0, .ref (ad 200)), (1, .int cell), (2, .int minute)], [])) rfl ?_
  refine y_pick (L2 := [(0, .ref (ad 200)), (1, .int cell), (2, .int minute), (3, .int x2), (4, .int x8), (5, .int 0), (6, .int 0)]) [4, 5, 6, 3, 2, 1, 0] rfl ?_
  exact J19 _ x2 x8 0 0 hb_x2 (by first | decide | assumption | exact Int.le_refl _ | exact yposgeL (by assumption) c30) rfl
set_option maxHeartbeats 4000000 in
set_option maxRecDepth 100000 in
theorem m_X12_isWalked {l : Launch} {S0 : State} {A0 : Array Value} {D : va_G} {aC : Nat → ClassId} {ic : Int32 → Nat} {de : Nat} {ad : Nat → Nat} {G : AH} {ρ : RS} (hS : yS l S0 A0 D aC) (hI : yIc S0 ic de) (hX : atR aC ic de ad G ρ) (cell : Int32) (minute : Int32) (hcell : rcell ρ cell) : yM l S0 D yX12_isWalked cX12_isWalked 3 (some .boolean) 17 0 0 [.ref (ad 200), .int cell, .int minute] G (fun r G1 => (∃ v : Int32, (v = 0 ∨ v = 1) ∧ r = some (.int v)) ∧ G1 = G) (fun _ _ => False) := by
  refine yM.ofK K_X12_isWalked rfl (by decide) (Nat.le_of_ble_eq_true rfl) ?_
  have hc0 := hcell.1
  have hc1 := hcell.2
  have J40 : ∀ (w40_0 : Int32) (hb_w40_0 : w40_0 = 0 ∨ w40_0 = 1), Y l S0 D K_X12_isWalked 17 0 0 (fun r G1 => (∃ v : Int32, (v = 0 ∨ v = 1) ∧ r = some (.int v)) ∧ G1 = G) (fun _ _ => False) 40 [(0, .ref (ad 200)), (1, .int cell), (2, .int minute)] [.int w40_0] G 0 0 := by
    intro w40_0 hb_w40_0
    exact y_zret tq_X12_isWalked rfl rfl (y01 hb_w40_0) (⟨⟨_, hb_w40_0, rfl⟩, rfl⟩)
  have J39 : ∀ (_ : True), Y l S0 D K_X12_isWalked 17 0 0 (fun r G1 => (∃ v : Int32, (v = 0 ∨ v = 1) ∧ r = some (.int v)) ∧ G1 = G) (fun _ _ => False) 39 [(0, .ref (ad 200)), (1, .int cell), (2, .int minute)] [] G 0 0 := by
    intro _
    refine y_blk 1 tq_X12_isWalked (z := (40, [(0, .ref (ad 200)), (1, .int cell), (2, .int minute)], [.int 0])) rfl ?_
    exact J40 0 (Or.inl rfl)
  have J35 : ∀ (_ : True), Y l S0 D K_X12_isWalked 17 0 0 (fun r G1 => (∃ v : Int32, (v = 0 ∨ v = 1) ∧ r = some (.int v)) ∧ G1 = G) (fun _ _ => False) 35 [(0, .ref (ad 200)), (1, .int cell), (2, .int minute)] [] G 0 0 := by
    intro _
    refine y_blk 2 tq_X12_isWalked (z := (40, [(0, .ref (ad 200)), (1, .int cell), (2, .int minute)], [.int 1])) rfl ?_
    exact J40 1 (Or.inr rfl)
  refine y_blk 1 tq_X12_isWalked (z := (1, [(0, .ref (ad 200)), (1, .int cell), (2, .int minute)], [.ref (ad 200)])) rfl ?_
  refine y_get hS tq_X12_isWalked (v := .ref (ad 201)) rfl fg_X12_7_X12 hX.m rfl ?_
  refine y_blk 1 tq_X12_isWalked (z := (5, [(0, .ref (ad 200)), (1, .int cell), (2, .int minute)], [.int cell, .ref (ad 201)])) rfl ?_
  refine y_iald hS tq_X12_isWalked rfl hX.ki (by first | exact yIn (by decide) (by decide) | exact yIn (by assumption) (by assumption) | (exact yIn (by omega) (by omega))) ?_
  refine y_blk 1 tq_X12_isWalked (z := (7, [(0, .ref (ad 200)), (1, .int cell), (2, .int minute)], [.int 1, .int ((rV ρ 201) (Int32.toNatClampNeg cell))])) rfl ?_
  refine y_icmp_eq tq_X12_isWalked 39 rfl rfl (fun c7 => ?_) (fun c7 => ?_)
  · skip
    refine y_blk 0 tq_X12_isWalked (z := (39, [(0, .ref (ad 200)), (1, .int cell), (2, .int minute)], [])) rfl ?_
    exact J39 trivial
  · skip
    refine y_blk 1 tq_X12_isWalked (z := (11, [(0, .ref (ad 200)), (1, .int cell), (2, .int minute)], [.ref (ad 200)])) rfl ?_
    refine y_get hS tq_X12_isWalked (v := .ref (ad 201)) rfl fg_X12_7_X12 hX.m rfl ?_
    refine y_blk 1 tq_X12_isWalked (z := (15, [(0, .ref (ad 200)), (1, .int cell), (2, .int minute)], [.int cell, .ref (ad 201)])) rfl ?_
    refine y_iald hS tq_X12_isWalked rfl hX.ki (by first | exact yIn (by decide) (by decide) | exact yIn (by assumption) (by assumption) | (exact yIn (by omega) (by omega))) ?_
    refine y_blk 1 tq_X12_isWalked (z := (17, [(0, .ref (ad 200)), (1, .int cell), (2, .int minute)], [.int 3, .int ((rV ρ 201) (Int32.toNatClampNeg cell))])) rfl ?_
    refine y_icmp_ne tq_X12_isWalked 35 rfl rfl (fun c17 => ?_) (fun c17 => ?_)
    · skip
      refine y_blk 0 tq_X12_isWalked (z := (35, [(0, .ref (ad 200)), (1, .int cell), (2, .int minute)], [])) rfl ?_
      exact J35 trivial
    · skip
      refine y_blk 2 tq_X12_isWalked (z := (22, [(0, .ref (ad 200)), (1, .int cell), (2, .int minute)], [.ref (ad 200), .int minute])) rfl ?_
      refine y_get hS tq_X12_isWalked (v := .int (rI ρ 3)) rfl fg_X12_137_X12 hX.m rfl ?_
      refine y_blk 1 tq_X12_isWalked (z := (26, [(0, .ref (ad 200)), (1, .int cell), (2, .int minute)], [.ref (ad 200), .int (rI ρ 3), .int minute])) rfl ?_
      refine y_get hS tq_X12_isWalked (v := .int (rI ρ 4)) rfl fg_X12_13_X12 hX.m rfl ?_
      refine y_blk 0 tq_X12_isWalked (z := (29, [(0, .ref (ad 200)), (1, .int cell), (2, .int minute)], [.int (rI ρ 4), .int (rI ρ 3), .int minute])) rfl ?_
      refine y_callS hS tq_X12_isWalked rfl (As := [.int minute, .int (rI ρ 3), .int (rI ρ 4)]) rfl cs_X12_54 (m_X12_in hS minute (rI ρ 3) (rI ρ 4)) rfl (by decide) (Nat.le_of_ble_eq_true rfl) (fun r29 Gc29 q29 => ?_) (fun E9 G9 h9 => h9.elim)
      obtain ⟨rfl, eG29⟩ := q29
      have eG29 := eG29.symm
      subst eG29
      refine y_blk 0 tq_X12_isWalked (z := (32, [(0, .ref (ad 200)), (1, .int cell), (2, .int minute)], [.int (if (rI ρ 3) ≤ minute ∧ minute ≤ (rI ρ 4) then 1 else 0)])) rfl ?_
      refine y_if_eq tq_X12_isWalked 39 rfl rfl (fun c32 => ?_) (fun c32 => ?_)
      · skip
        refine y_blk 0 tq_X12_isWalked (z := (39, [(0, .ref (ad 200)), (1, .int cell), (2, .int minute)], [])) rfl ?_
        exact J39 trivial
      · skip
        refine y_blk 0 tq_X12_isWalked (z := (35, [(0, .ref (ad 200)), (1, .int cell), (2, .int minute)], [])) rfl ?_
        exact J35 trivial
set_option maxHeartbeats 4000000 in
set_option maxRecDepth 100000 in
theorem m_X12_onCell {l : Launch} {S0 : State} {A0 : Array Value} {D : va_G} {aC : Nat → ClassId} {ic : Int32 → Nat} {de : Nat} {ad : Nat → Nat} {G : AH} {ρ : RS} (hS : yS l S0 A0 D aC) (hI : yIc S0 ic de) (hX : atR aC ic de ad G ρ) (cell : Int32) (minute : Int32) : yM l S0 D yX12_onCell cX12_onCell 5 (some .int) 19 0 0 [.ref (ad 200), .int cell, .int minute] G (fun r G1 => (∃ v : Int32, r = some (.int v)) ∧ G1 = G) (fun _ _ => False) := by
  refine yM.ofK K_X12_onCell rfl (by decide) (Nat.le_of_ble_eq_true rfl) ?_
  have J5 : ∀ (n5 : Nat) (v5_3 : Int32) (v5_4 : Int32) (h0_5 : 0 ≤ v5_4.toInt), (((Int32.ofNat (rZ ρ 212)) : Int32).toInt - v5_4.toInt).toNat = n5 → Y l S0 D K_X12_onCell 19 0 0 (fun r G1 => (∃ v : Int32, r = some (.int v)) ∧ G1 = G) (fun _ _ => False) 5 [(0, .ref (ad 200)), (1, .int cell), (2, .int minute), (3, .int v5_3), (4, .int v5_4)] [] G 0 0 := by
    intro n5
    induction n5 using Nat.strongRecOn with
    | _ n5 ih5 =>
    intro v5_3 v5_4 h0_5 hn5
    subst hn5
    have J50 : ∀ (w50_0 : Int32) (c16 : ¬ ((Int32.ofNat (rZ ρ 212)) : Int32) ≤ v5_4), Y l S0 D K_X12_onCell 19 0 0 (fun r G1 => (∃ v : Int32, r = some (.int v)) ∧ G1 = G) (fun _ _ => False) 50 [(0, .ref (ad 200)), (1, .int cell), (2, .int minute), (3, .int v5_3), (4, .int v5_4)] [.int w50_0, .int v5_3] G 0 0 := by
      intro w50_0 c16
      have hn16 := hX.2.le10 212 (by decide)
      have b16 : v5_4.toInt < rZ ρ 212 := yIy (by omega) h0_5 c16
      have d16 : Int32.toNatClampNeg v5_4 < rZ ρ 212 := yIx h0_5 b16
      refine y_blk 4 tq_X12_onCell (z := (5, [(4, .int (v5_4 + 1)), (3, .int (v5_3 ||| w50_0)), (0, .ref (ad 200)), (1, .int cell), (2, .int minute)], [])) rfl ?_
      refine y_pick (L2 := [(0, .ref (ad 200)), (1, .int cell), (2, .int minute), (3, .int (v5_3 ||| w50_0)), (4, .int (v5_4 + 1))]) [2, 3, 4, 1, 0] rfl ?_
      exact ih5 _ (by exact ydec c16) (v5_3 ||| w50_0) (v5_4 + 1) (by first | decide | assumption | exact Int.le_refl _ | exact yposgeL (by assumption) c16) rfl
    refine y_blk 2 tq_X12_onCell (z := (8, [(0, .ref (ad 200)), (1, .int cell), (2, .int minute), (3, .int v5_3), (4, .int v5_4)], [.ref (ad 200), .int v5_4])) rfl ?_
    refine y_get hS tq_X12_onCell (v := .ref (ad 212)) rfl fg_X12_27_X12 hX.m rfl ?_
    refine y_blk 0 tq_X12_onCell (z := (11, [(0, .ref (ad 200)), (1, .int cell), (2, .int minute), (3, .int v5_3), (4, .int v5_4)], [.ref (ad 212), .int v5_4])) rfl ?_
    refine y_callF hS tq_X12_onCell rfl (As := []) rfl cf_X12_58 (Or.inl ⟨_, (hX.ls 212 (by decide)).1⟩) (m_Jsize hS (hX.ls 212 (by decide))) rfl (by decide) (Nat.le_of_ble_eq_true rfl) (fun r11 Gc11 q11 => ?_) (fun _ _ h9 => h9.elim)
    obtain ⟨rfl, eG11⟩ := q11
    have eG11 := eG11.symm
    subst eG11
    refine y_blk 0 tq_X12_onCell (z := (16, [(0, .ref (ad 200)), (1, .int cell), (2, .int minute), (3, .int v5_3), (4, .int v5_4)], [.int (Int32.ofNat (rZ ρ 212)), .int v5_4])) rfl ?_
    refine y_icmp_ge tq_X12_onCell 58 rfl rfl (fun c16 => ?_) (fun c16 => ?_)
    · skip
      refine y_blk 1 tq_X12_onCell (z := (59, [(0, .ref (ad 200)), (1, .int cell), (2, .int minute), (3, .int v5_3), (4, .int v5_4)], [.int v5_3])) rfl ?_
      exact y_iret tq_X12_onCell rfl rfl (⟨⟨_, rfl⟩, rfl⟩)
    · skip
      have hn16 := hX.2.le10 212 (by decide)
      have b16 : v5_4.toInt < rZ ρ 212 := yIy (by omega) h0_5 c16
      have d16 : Int32.toNatClampNeg v5_4 < rZ ρ 212 := yIx h0_5 b16
      refine y_blk 2 tq_X12_onCell (z := (21, [(0, .ref (ad 200)), (1, .int cell), (2, .int minute), (3, .int v5_3), (4, .int v5_4)], [.ref (ad 200), .int v5_3])) rfl ?_
      refine y_get hS tq_X12_onCell (v := .ref (ad 212)) rfl fg_X12_27_X12 hX.m rfl ?_
      refine y_blk 1 tq_X12_onCell (z := (26, [(0, .ref (ad 200)), (1, .int cell), (2, .int minute), (3, .int v5_3), (4, .int v5_4)], [.int v5_4, .ref (ad 212), .int v5_3])) rfl ?_
      refine y_callF hS tq_X12_onCell rfl (As := [.int v5_4]) rfl cf_X12_80 (Or.inl ⟨_, (hX.ls 212 (by decide)).1⟩) (m_Rgu hS hX (by assumption) (by assumption)) rfl (by decide) (Nat.le_of_ble_eq_true rfl) (fun r26 Gc26 q26 => ?_) (fun _ _ h9 => h9.elim)
      obtain ⟨rfl, eG26⟩ := q26
      have eG26 := eG26.symm
      subst eG26
      have d26 : (Int32.toNatClampNeg v5_4) < rZ ρ 212 := yIx (by assumption) (by assumption)
      refine y_blk 0 tq_X12_onCell (z := (31, [(0, .ref (ad 200)), (1, .int cell), (2, .int minute), (3, .int v5_3), (4, .int v5_4)], [.ref (ad (360 + (Int32.toNatClampNeg v5_4))), .int v5_3])) rfl ?_
      refine y_castG hS tq_X12_onCell rfl kc_X12_84 (Or.inl ⟨_, (hX.gu (by assumption))⟩) ?_
      refine y_blk 1 tq_X12_onCell (z := (35, [(0, .ref (ad 200)), (1, .int cell), (2, .int minute), (3, .int v5_3), (4, .int v5_4)], [.int minute, .ref (ad (360 + (Int32.toNatClampNeg v5_4))), .int v5_3])) rfl ?_
      refine y_callV hS tq_X12_onCell rfl (As := [.int minute]) rfl cv_X12_124 (hX.gu (by assumption)) (m_X10_place hS hI hX (k := (Int32.toNatClampNeg v5_4)) (by assumption) minute) rfl (by decide) (Nat.le_of_ble_eq_true rfl) (fun r35 Gc35 q35 => ?_) (fun E9 G9 h9 => h9.elim)
      obtain ⟨⟨x35, hr_x35, rfl⟩, eG35⟩ := q35
      have eG35 := eG35.symm
      subst eG35
      refine y_blk 1 tq_X12_onCell (z := (39, [(0, .ref (ad 200)), (1, .int cell), (2, .int minute), (3, .int v5_3), (4, .int v5_4)], [.int cell, .int x35, .int v5_3])) rfl ?_
      refine y_icmp_ne tq_X12_onCell 49 rfl rfl (fun c39 => ?_) (fun c39 => ?_)
      · skip
        refine y_blk 1 tq_X12_onCell (z := (50, [(0, .ref (ad 200)), (1, .int cell), (2, .int minute), (3, .int v5_3), (4, .int v5_4)], [.int 0, .int v5_3])) rfl ?_
        exact J50 0 (by exact c16)
      · skip
        refine y_blk 4 tq_X12_onCell (z := (50, [(0, .ref (ad 200)), (1, .int cell), (2, .int minute), (3, .int v5_3), (4, .int v5_4)], [.int (1 <<< (v5_4 &&& 31)), .int v5_3])) rfl ?_
        exact J50 (1 <<< (v5_4 &&& 31)) (by exact c16)
  refine y_blk 4 tq_X12_onCell (z := (5, [(4, .int 0), (3, .int 0), (0, .ref (ad 200)), (1, .int cell), (2, .int minute)], [])) rfl ?_
  refine y_pick (L2 := [(0, .ref (ad 200)), (1, .int cell), (2, .int minute), (3, .int 0), (4, .int 0)]) [2, 3, 4, 1, 0] rfl ?_
  exact J5 _ 0 0 (by first | decide | assumption | exact Int.le_refl _ | exact yposgeL (by assumption) c16) rfl
