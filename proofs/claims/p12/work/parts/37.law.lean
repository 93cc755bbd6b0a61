/-! ===== the law: its calls one by one, its loop ===== -/
def LSt (aC : Nat → ClassId) (ic : Int32 → Nat) (de x m o : Nat) (G : AH) : Prop := ∃ (ad : Nat → Nat) (σ : XS) (ar : Nat → Nat) (ρ : RS) (nv : Int64) (sv : Value), atX aC ad G σ ∧ ad 1 = x ∧ atR aC ic de ar G ρ ∧ ar 200 = m ∧ G o = some (600, yOut nv sv) ∧ cpx σ ρ ∧ rZ ρ 210 ≤ 6
theorem atR.lk {aC : Nat → ClassId} {ic : Int32 → Nat} {de : Nat} {ar : Nat → Nat} {G G1 : AH} {ρ : RS} (h : atR aC ic de ar G ρ) (hk : yTg fL G G1) : atR aC ic de ar G1 ρ := h.kp (hk.narrow (fun t ht => Or.inr ⟨ht.1, by omega⟩))
theorem vp_in_add {i : Int32} {LL : Nat} (k : Int32) (n : Nat) (hk : k.toInt = (n : Int)) (hn : n < 5) (hi0 : 0 ≤ i.toInt) (hi1 : i.toInt + 5 ≤ (LL : Int)) (hLL : LL ≤ 2560) : vp_in (i + k) LL := by
  have e : (i + k).toInt = i.toInt + n := by rw [yadd (by omega) (by omega), hk]
  intro h
  rcases h with h | h
  · have h2 := ylt.mp h
    have : (0 : Int32).toInt = 0 := by decide
    omega
  · have h3 : (i + k).toNatClampNeg = (i + k).toInt.toNat := rfl
    rw [h3] at h
    omega
set_option maxHeartbeats 4000000 in
set_option maxRecDepth 100000 in
theorem m_X12_thrown {l : Launch} {S0 : State} {A0 : Array Value} {D : va_G} {aC : Nat → ClassId} {ic : Int32 → Nat} {de : Nat} {ad : Nat → Nat} {G : AH} {ρ : RS} (hS : yS l S0 A0 D aC) (hX : atR aC ic de ad G ρ) : yM l S0 D yX12_thrown cX12_thrown 1 (some .int) 16 0 0 [.ref (ad 200)] G (fun r G1 => r = some (.int (rI ρ 0)) ∧ G1 = G) (fun _ _ => False) := by
  refine yM.ofK K_X12_thrown rfl (by decide) (Nat.le_of_ble_eq_true rfl) ?_
  refine y_blk 1 tq_X12_thrown (z := (1, [(0, .ref (ad 200))], [.ref (ad 200)])) rfl ?_
  refine y_get hS tq_X12_thrown (v := .int (rI ρ 0)) rfl fg_X12_51_X12 hX.m rfl ?_
  refine y_blk 0 tq_X12_thrown (z := (4, [(0, .ref (ad 200))], [.int (rI ρ 0)])) rfl ?_
  exact y_iret tq_X12_thrown rfl rfl ⟨rfl, rfl⟩
section YLX
variable {l : Launch} {S0 : State} {A0 : Array Value} {D : va_G} {aC : Nat → ClassId} {K : yK} {d mc ms : Nat} {Q : Option Value → AH → Prop} {X : String → AH → Prop} {T : yT}
variable {pc kc ks : Nat} {L : yL} {rest : List Value} {G : AH}
theorem y_pop2 (hT : yTok K.cc T) {v : Int64} (ht : yat pc T = some (.pop2, 1)) (kk : Y l S0 D K d mc ms Q X (pc + 1) L rest G kc ks) : Y l S0 D K d mc ms Q X pc L (.long v :: rest) G kc ks := by
  intro p e s m args below meth c H locs cells slots ls F hl hG hz hL hc hs
  have hk := kk p e s m args below meth c H locs cells slots ls F hl hG hz hL hc hs
  have hexec := F.1
  have hb := F.2.1
  have hdg := yat_ok hT ht
  have hv : (Value.long v).category = 2 := rfl
  intro T8 hT8 X8
  obtain ⟨t, a, b⟩ := hk T8 hT8 X8
  refine ⟨t, ?_, b⟩
  jvm_step X8.here [X8.here.top, hexec, hb, hdg, Op.pop2.wp_sem, hv]
  exact a
set_option maxHeartbeats 4000000 in
theorem m_X9_init (hS : yS l S0 A0 D aC) {a : Nat} : yM l S0 D yX9_init cX9_init 1 none 10 0 0 [.ref a] G (fun r G1 => r = none ∧ G1 = G) (fun _ _ => False) := by
  refine yM.ofK K_X9_init rfl (by decide) (Nat.le_of_ble_eq_true rfl) ?_
  refine y_blk 1 tq_X9_init (z := (1, [(0, .ref a)], [.ref a])) rfl ?_
  refine y_objInit hS tq_X9_init rfl ⟨by decide +kernel, by decide +kernel⟩ (by decide) (by decide) ?_
  exact y_vret tq_X9_init rfl rfl ⟨rfl, rfl⟩
end YLX
set_option maxRecDepth 100000 in
theorem tqL_0 (nm : String) (et : List ExceptionTableEntry) : yTok (yK.cc (K_L_law nm et)) t_L_0 := tq_L_0
set_option maxRecDepth 100000 in
theorem tqL_1 (nm : String) (et : List ExceptionTableEntry) : yTok (yK.cc (K_L_law nm et)) t_L_1 := tq_L_1
set_option maxRecDepth 100000 in
theorem tqL_2 (nm : String) (et : List ExceptionTableEntry) : yTok (yK.cc (K_L_law nm et)) t_L_2 := tq_L_2
set_option maxRecDepth 100000 in
theorem tqL_3 (nm : String) (et : List ExceptionTableEntry) : yTok (yK.cc (K_L_law nm et)) t_L_3 := tq_L_3
set_option maxRecDepth 100000 in
theorem tqL_4 (nm : String) (et : List ExceptionTableEntry) : yTok (yK.cc (K_L_law nm et)) t_L_4 := tq_L_4
set_option maxRecDepth 100000 in
theorem tqL_5 (nm : String) (et : List ExceptionTableEntry) : yTok (yK.cc (K_L_law nm et)) t_L_5 := tq_L_5
set_option maxRecDepth 100000 in
theorem tqL_6 (nm : String) (et : List ExceptionTableEntry) : yTok (yK.cc (K_L_law nm et)) t_L_6 := tq_L_6
set_option maxRecDepth 100000 in
theorem tqL_7 (nm : String) (et : List ExceptionTableEntry) : yTok (yK.cc (K_L_law nm et)) t_L_7 := tq_L_7
set_option maxRecDepth 100000 in
theorem tqL_8 (nm : String) (et : List ExceptionTableEntry) : yTok (yK.cc (K_L_law nm et)) t_L_8 := tq_L_8
set_option maxRecDepth 100000 in
theorem tqL_9 (nm : String) (et : List ExceptionTableEntry) : yTok (yK.cc (K_L_law nm et)) t_L_9 := tq_L_9
set_option maxRecDepth 100000 in
theorem tqL_10 (nm : String) (et : List ExceptionTableEntry) : yTok (yK.cc (K_L_law nm et)) t_L_10 := tq_L_10
set_option maxRecDepth 100000 in
theorem tqL_11 (nm : String) (et : List ExceptionTableEntry) : yTok (yK.cc (K_L_law nm et)) t_L_11 := tq_L_11
set_option maxRecDepth 100000 in
theorem tqL_12 (nm : String) (et : List ExceptionTableEntry) : yTok (yK.cc (K_L_law nm et)) t_L_12 := tq_L_12
set_option maxRecDepth 100000 in
theorem tqL_13 (nm : String) (et : List ExceptionTableEntry) : yTok (yK.cc (K_L_law nm et)) t_L_13 := tq_L_13
set_option maxRecDepth 100000 in
theorem tqL_14 (nm : String) (et : List ExceptionTableEntry) : yTok (yK.cc (K_L_law nm et)) t_L_14 := tq_L_14
set_option maxRecDepth 100000 in
theorem tqL_15 (nm : String) (et : List ExceptionTableEntry) : yTok (yK.cc (K_L_law nm et)) t_L_15 := tq_L_15
set_option maxRecDepth 100000 in
theorem tqL_16 (nm : String) (et : List ExceptionTableEntry) : yTok (yK.cc (K_L_law nm et)) t_L_16 := tq_L_16
set_option maxRecDepth 100000 in
theorem tqL_17 (nm : String) (et : List ExceptionTableEntry) : yTok (yK.cc (K_L_law nm et)) t_L_17 := tq_L_17
set_option maxRecDepth 100000 in
theorem tqL_18 (nm : String) (et : List ExceptionTableEntry) : yTok (yK.cc (K_L_law nm et)) t_L_18 := tq_L_18
set_option maxRecDepth 100000 in
theorem tqL_19 (nm : String) (et : List ExceptionTableEntry) : yTok (yK.cc (K_L_law nm et)) t_L_19 := tq_L_19
set_option maxRecDepth 100000 in
theorem tqL_20 (nm : String) (et : List ExceptionTableEntry) : yTok (yK.cc (K_L_law nm et)) t_L_20 := tq_L_20
set_option maxRecDepth 100000 in
theorem tqL_21 (nm : String) (et : List ExceptionTableEntry) : yTok (yK.cc (K_L_law nm et)) t_L_21 := tq_L_21
set_option maxRecDepth 100000 in
theorem tqL_22 (nm : String) (et : List ExceptionTableEntry) : yTok (yK.cc (K_L_law nm et)) t_L_22 := tq_L_22
set_option maxRecDepth 100000 in
theorem tqL_23 (nm : String) (et : List ExceptionTableEntry) : yTok (yK.cc (K_L_law nm et)) t_L_23 := tq_L_23
set_option maxRecDepth 100000 in
theorem tqL_24 (nm : String) (et : List ExceptionTableEntry) : yTok (yK.cc (K_L_law nm et)) t_L_24 := tq_L_24
set_option maxRecDepth 100000 in
theorem tqL_25 (nm : String) (et : List ExceptionTableEntry) : yTok (yK.cc (K_L_law nm et)) t_L_25 := tq_L_25
set_option maxRecDepth 100000 in
theorem tqL_26 (nm : String) (et : List ExceptionTableEntry) : yTok (yK.cc (K_L_law nm et)) t_L_26 := tq_L_26
set_option maxRecDepth 100000 in
theorem tqL_27 (nm : String) (et : List ExceptionTableEntry) : yTok (yK.cc (K_L_law nm et)) t_L_27 := tq_L_27
set_option maxRecDepth 100000 in
theorem tqL_28 (nm : String) (et : List ExceptionTableEntry) : yTok (yK.cc (K_L_law nm et)) t_L_28 := tq_L_28
set_option maxRecDepth 100000 in
theorem tqL_29 (nm : String) (et : List ExceptionTableEntry) : yTok (yK.cc (K_L_law nm et)) t_L_29 := tq_L_29
set_option maxRecDepth 100000 in
theorem tqL_30 (nm : String) (et : List ExceptionTableEntry) : yTok (yK.cc (K_L_law nm et)) t_L_30 := tq_L_30
set_option maxRecDepth 100000 in
theorem tqL_31 (nm : String) (et : List ExceptionTableEntry) : yTok (yK.cc (K_L_law nm et)) t_L_31 := tq_L_31
set_option maxRecDepth 100000 in
theorem tqL_32 (nm : String) (et : List ExceptionTableEntry) : yTok (yK.cc (K_L_law nm et)) t_L_32 := tq_L_32
set_option maxRecDepth 100000 in
theorem tqL_33 (nm : String) (et : List ExceptionTableEntry) : yTok (yK.cc (K_L_law nm et)) t_L_33 := tq_L_33
set_option maxRecDepth 100000 in
theorem tqL_h (nm : String) (et : List ExceptionTableEntry) : yTok (yK.cc (K_L_law nm et)) t_L_h := tq_L_h
section YLY
variable {l : Launch} {S0 : State} {A0 : Array Value} {D : va_G} {aC : Nat → ClassId} {ic : Int32 → Nat} {de : Nat} {nm : String} {et : List ExceptionTableEntry} {mc ms : Nat} {Q : Option Value → AH → Prop} {X : String → AH → Prop} {kc ks : Nat} {b LL : Nat} {xs : Nat → Int32} {x m o : Nat} {i : Int32} {G : AH}
theorem fgn_L_13_X9 : yFLn RL 13 13 0 "NightwatchWallLaw" := ⟨_, _, _, cl_X9, by decide, lw_in4 _ (List.mem_of_getElem? (i := 40) (by decide +kernel))⟩
theorem lg_cmp_self (x : Int64) : lg_cmp x x = 0 := by
  unfold lg_cmp
  rw [if_neg (fun h => by simp only [gt_iff_lt, Int64.lt_iff_toInt_lt] at h; omega), if_pos rfl]
set_option maxHeartbeats 4000000 in
set_option maxRecDepth 100000 in
theorem law_0 (hS : yS l S0 A0 D aC) (hI : yIc S0 ic de) (hXs : va_X b LL xs S0 S0.heap) (hb : b < S0.heap.size) (hi0 : 0 ≤ i.toInt) (hi1 : i.toInt + 5 ≤ (LL : Int)) (hLL : LL ≤ 2560) (hG : LSt aC ic de x m o G) (kk : ∀ G1, LSt aC ic de x m o G1 → Y l S0 D (K_L_law nm et) 1300 mc ms Q X 1663 [(0, .ref b), (1, .ref x), (2, .ref m), (3, .ref o), (4, .int i)] [] G1 kc ks) : Y l S0 D (K_L_law nm et) 1300 mc ms Q X 192 [(0, .ref b), (1, .ref x), (2, .ref m), (3, .ref o), (4, .int i)] [] G (kc + 200) (ks + 8000) := by
  obtain ⟨ad, σ, ar, ρ, nv, sv, hX, rfl, hR, rfl, hO, hkn, h6⟩ := hG
  refine y_less (k2 := kc + 8 + 1) (n2 := ks + 85 + 6) (by omega) (by omega) ?_
  refine y_blk 5 (tqL_0 nm et) (z := (198, [(0, .ref b), (1, .ref (ad 1)), (2, .ref (ar 200)), (3, .ref o), (4, .int i)], [.int (i + 1), .ref b, .ref (ad 1)])) rfl ?_
  refine y_sld (tqL_0 nm et) hXs hb rfl (vp_in_add 1 1 rfl (by decide) hi0 hi1 hLL) ?_
  refine y_blk 4 (tqL_0 nm et) (z := (204, [(0, .ref b), (1, .ref (ad 1)), (2, .ref (ar 200)), (3, .ref o), (4, .int i)], [.int (i + 2), .ref b, .int (xs (Int32.toNatClampNeg (i + 1))), .ref (ad 1)])) rfl ?_
  refine y_sld (tqL_0 nm et) hXs hb rfl (vp_in_add 2 2 rfl (by decide) hi0 hi1 hLL) ?_
  refine y_blk 4 (tqL_0 nm et) (z := (210, [(0, .ref b), (1, .ref (ad 1)), (2, .ref (ar 200)), (3, .ref o), (4, .int i)], [.int (i + 3), .ref b, .int (xs (Int32.toNatClampNeg (i + 2))), .int (xs (Int32.toNatClampNeg (i + 1))), .ref (ad 1)])) rfl ?_
  refine y_sld (tqL_0 nm et) hXs hb rfl (vp_in_add 3 3 rfl (by decide) hi0 hi1 hLL) ?_
  refine y_blk 1 (tqL_0 nm et) (z := (212, [(0, .ref b), (1, .ref (ad 1)), (2, .ref (ar 200)), (3, .ref o), (4, .int i)], [.ref o, .int (xs (Int32.toNatClampNeg (i + 3))), .int (xs (Int32.toNatClampNeg (i + 2))), .int (xs (Int32.toNatClampNeg (i + 1))), .ref (ad 1)])) rfl ?_
  refine y_callSWL hS (tqL_0 nm et) (As := [.ref (ad 1), .int (xs (Int32.toNatClampNeg (i + 1))), .int (xs (Int32.toNatClampNeg (i + 2))), .int (xs (Int32.toNatClampNeg (i + 3))), .ref o]) rfl csw_L_131 (m_L_baseV hS hX hO (xs (Int32.toNatClampNeg (i + 1))) (xs (Int32.toNatClampNeg (i + 2))) (xs (Int32.toNatClampNeg (i + 3)))) rfl (by decide) (Nat.le_of_ble_eq_true rfl) (fun r1 G1 q1 => ?_)
  obtain ⟨σ1, nv1, sv1, hX1, hO1, kt1, ha1⟩ := q1
  have hv1 : ∃ v1 : Int32, r1 = some (.int v1) := by rcases ha1 with h9 | h9 <;> exact ⟨_, h9.2.1⟩
  obtain ⟨v1, rfl⟩ := hv1
  have hR1 := hR.lk kt1
  refine y_blk 6 (tqL_0 nm et) (z := (223, [(5, .int v1), (0, .ref b), (1, .ref (ad 1)), (2, .ref (ar 200)), (3, .ref o), (4, .int i)], [.int (i + 1), .ref b, .ref (ar 200)])) rfl ?_
  refine y_sld (tqL_0 nm et) hXs hb rfl (vp_in_add 1 1 rfl (by decide) hi0 hi1 hLL) ?_
  refine y_blk 4 (tqL_0 nm et) (z := (229, [(5, .int v1), (0, .ref b), (1, .ref (ad 1)), (2, .ref (ar 200)), (3, .ref o), (4, .int i)], [.int (i + 2), .ref b, .int (xs (Int32.toNatClampNeg (i + 1))), .ref (ar 200)])) rfl ?_
  refine y_sld (tqL_0 nm et) hXs hb rfl (vp_in_add 2 2 rfl (by decide) hi0 hi1 hLL) ?_
  refine y_blk 4 (tqL_0 nm et) (z := (235, [(5, .int v1), (0, .ref b), (1, .ref (ad 1)), (2, .ref (ar 200)), (3, .ref o), (4, .int i)], [.int (i + 3), .ref b, .int (xs (Int32.toNatClampNeg (i + 2))), .int (xs (Int32.toNatClampNeg (i + 1))), .ref (ar 200)])) rfl ?_
  refine y_sld (tqL_0 nm et) hXs hb rfl (vp_in_add 3 3 rfl (by decide) hi0 hi1 hLL) ?_
  refine y_blk 0 (tqL_0 nm et) (z := (236, [(5, .int v1), (0, .ref b), (1, .ref (ad 1)), (2, .ref (ar 200)), (3, .ref o), (4, .int i)], [.int (xs (Int32.toNatClampNeg (i + 3))), .int (xs (Int32.toNatClampNeg (i + 2))), .int (xs (Int32.toNatClampNeg (i + 1))), .ref (ar 200)])) rfl ?_
  refine y_callVL hS (tqL_0 nm et) (As := [.int (xs (Int32.toNatClampNeg (i + 1))), .int (xs (Int32.toNatClampNeg (i + 2))), .int (xs (Int32.toNatClampNeg (i + 3)))]) rfl cv_L_136 hR1.m (m_X12_base hS hI hR1 (xs (Int32.toNatClampNeg (i + 1))) (xs (Int32.toNatClampNeg (i + 2))) (xs (Int32.toNatClampNeg (i + 3)))) rfl (by decide) (Nat.le_of_ble_eq_true rfl) (fun r2 G2 q2 => ?_)
  obtain ⟨⟨v2, rfl⟩, ar2, ρ2, hR2, e2, kt2, ha2⟩ := q2
  have hag := cx_base hR.2 hR2.2 hkn ha1 ha2
  have hX2 := hX1.kp kt2 (fun t _ h9 => Or.inl h9)
  have hO2 := kt2 _ _ _ hO1 (Or.inr (Nat.le_refl _))
  refine y_blk 2 (tqL_0 nm et) (z := (1663, [(6, .int v2), (5, .int v1), (0, .ref b), (1, .ref (ad 1)), (2, .ref (ar 200)), (3, .ref o), (4, .int i)], [])) rfl ?_
  refine y_pick (L2 := [(0, .ref b), (1, .ref (ad 1)), (2, .ref (ar 200)), (3, .ref o), (4, .int i)]) [2, 3, 4, 5, 6] rfl ?_
  exact kk _ ⟨ad, σ1, ar2, ρ2, nv1, sv1, hX2, rfl, hR2, e2, hO2, hag.1, hag.1.A.1⟩
set_option maxHeartbeats 4000000 in
set_option maxRecDepth 100000 in
theorem law_1 (hS : yS l S0 A0 D aC) (hI : yIc S0 ic de) (hXs : va_X b LL xs S0 S0.heap) (hb : b < S0.heap.size) (hi0 : 0 ≤ i.toInt) (hi1 : i.toInt + 5 ≤ (LL : Int)) (hLL : LL ≤ 2560) (hG : LSt aC ic de x m o G) (kk : ∀ G1, LSt aC ic de x m o G1 → Y l S0 D (K_L_law nm et) 1300 mc ms Q X 1663 [(0, .ref b), (1, .ref x), (2, .ref m), (3, .ref o), (4, .int i)] [] G1 kc ks) : Y l S0 D (K_L_law nm et) 1300 mc ms Q X 244 [(0, .ref b), (1, .ref x), (2, .ref m), (3, .ref o), (4, .int i)] [] G (kc + 200) (ks + 8000) := by
  obtain ⟨ad, σ, ar, ρ, nv, sv, hX, rfl, hR, rfl, hO, hkn, h6⟩ := hG
  refine y_less (k2 := kc + 0 + 3) (n2 := ks + 0 + 18) (by omega) (by omega) ?_
  refine y_blk 5 (tqL_1 nm et) (z := (250, [(0, .ref b), (1, .ref (ad 1)), (2, .ref (ar 200)), (3, .ref o), (4, .int i)], [.int (i + 1), .ref b, .ref (ad 1)])) rfl ?_
  refine y_sld (tqL_1 nm et) hXs hb rfl (vp_in_add 1 1 rfl (by decide) hi0 hi1 hLL) ?_
  refine y_blk 4 (tqL_1 nm et) (z := (256, [(0, .ref b), (1, .ref (ad 1)), (2, .ref (ar 200)), (3, .ref o), (4, .int i)], [.int (i + 2), .ref b, .int (xs (Int32.toNatClampNeg (i + 1))), .ref (ad 1)])) rfl ?_
  refine y_sld (tqL_1 nm et) hXs hb rfl (vp_in_add 2 2 rfl (by decide) hi0 hi1 hLL) ?_
  refine y_blk 1 (tqL_1 nm et) (z := (258, [(0, .ref b), (1, .ref (ad 1)), (2, .ref (ar 200)), (3, .ref o), (4, .int i)], [.ref o, .int (xs (Int32.toNatClampNeg (i + 2))), .int (xs (Int32.toNatClampNeg (i + 1))), .ref (ad 1)])) rfl ?_
  refine y_callSWL hS (tqL_1 nm et) (As := [.ref (ad 1), .int (xs (Int32.toNatClampNeg (i + 1))), .int (xs (Int32.toNatClampNeg (i + 2))), .ref o]) rfl csw_L_137 (m_L_layV hS hX hO (xs (Int32.toNatClampNeg (i + 1))) (xs (Int32.toNatClampNeg (i + 2)))) rfl (by decide) (Nat.le_of_ble_eq_true rfl) (fun r1 G1 q1 => ?_)
  obtain ⟨σ1, nv1, sv1, hX1, hO1, kt1, ha1⟩ := q1
  have hv1 : ∃ v1 : Int32, r1 = some (.int v1) := by rcases ha1 with h9 | h9 | h9 | h9 <;> exact ⟨_, h9.2.1⟩
  obtain ⟨v1, rfl⟩ := hv1
  have hR1 := hR.lk kt1
  refine y_blk 6 (tqL_1 nm et) (z := (269, [(5, .int v1), (0, .ref b), (1, .ref (ad 1)), (2, .ref (ar 200)), (3, .ref o), (4, .int i)], [.int (i + 1), .ref b, .ref (ar 200)])) rfl ?_
  refine y_sld (tqL_1 nm et) hXs hb rfl (vp_in_add 1 1 rfl (by decide) hi0 hi1 hLL) ?_
  refine y_blk 4 (tqL_1 nm et) (z := (275, [(5, .int v1), (0, .ref b), (1, .ref (ad 1)), (2, .ref (ar 200)), (3, .ref o), (4, .int i)], [.int (i + 2), .ref b, .int (xs (Int32.toNatClampNeg (i + 1))), .ref (ar 200)])) rfl ?_
  refine y_sld (tqL_1 nm et) hXs hb rfl (vp_in_add 2 2 rfl (by decide) hi0 hi1 hLL) ?_
  refine y_blk 0 (tqL_1 nm et) (z := (276, [(5, .int v1), (0, .ref b), (1, .ref (ad 1)), (2, .ref (ar 200)), (3, .ref o), (4, .int i)], [.int (xs (Int32.toNatClampNeg (i + 2))), .int (xs (Int32.toNatClampNeg (i + 1))), .ref (ar 200)])) rfl ?_
  refine y_callVL hS (tqL_1 nm et) (As := [.int (xs (Int32.toNatClampNeg (i + 1))), .int (xs (Int32.toNatClampNeg (i + 2)))]) rfl cv_L_140 hR1.m (m_X12_lay hS hI hR1 (xs (Int32.toNatClampNeg (i + 1))) (xs (Int32.toNatClampNeg (i + 2)))) rfl (by decide) (Nat.le_of_ble_eq_true rfl) (fun r2 G2 q2 => ?_)
  obtain ⟨⟨v2, rfl⟩, ar2, ρ2, hR2, e2, kt2, ha2⟩ := q2
  have hag := cx_lay hR.2 hkn ha1 ha2
  have hX2 := hX1.kp kt2 (fun t _ h9 => Or.inl h9)
  have hO2 := kt2 _ _ _ hO1 (Or.inr (Nat.le_refl _))
  refine y_blk 2 (tqL_1 nm et) (z := (1663, [(6, .int v2), (5, .int v1), (0, .ref b), (1, .ref (ad 1)), (2, .ref (ar 200)), (3, .ref o), (4, .int i)], [])) rfl ?_
  refine y_pick (L2 := [(0, .ref b), (1, .ref (ad 1)), (2, .ref (ar 200)), (3, .ref o), (4, .int i)]) [2, 3, 4, 5, 6] rfl ?_
  exact kk _ ⟨ad, σ1, ar2, ρ2, nv1, sv1, hX2, rfl, hR2, e2, hO2, hag.1, hag.1.A.1⟩
set_option maxHeartbeats 4000000 in
set_option maxRecDepth 100000 in
theorem law_2 (hS : yS l S0 A0 D aC) (hI : yIc S0 ic de) (hXs : va_X b LL xs S0 S0.heap) (hb : b < S0.heap.size) (hi0 : 0 ≤ i.toInt) (hi1 : i.toInt + 5 ≤ (LL : Int)) (hLL : LL ≤ 2560) (hG : LSt aC ic de x m o G) (kk : ∀ G1, LSt aC ic de x m o G1 → Y l S0 D (K_L_law nm et) 1300 mc ms Q X 1663 [(0, .ref b), (1, .ref x), (2, .ref m), (3, .ref o), (4, .int i)] [] G1 kc ks) : Y l S0 D (K_L_law nm et) 1300 mc ms Q X 284 [(0, .ref b), (1, .ref x), (2, .ref m), (3, .ref o), (4, .int i)] [] G (kc + 200) (ks + 8000) := by
  obtain ⟨ad, σ, ar, ρ, nv, sv, hX, rfl, hR, rfl, hO, hkn, h6⟩ := hG
  refine y_less (k2 := kc + 0 + 1) (n2 := ks + 0 + 6) (by omega) (by omega) ?_
  refine y_blk 5 (tqL_2 nm et) (z := (290, [(0, .ref b), (1, .ref (ad 1)), (2, .ref (ar 200)), (3, .ref o), (4, .int i)], [.int (i + 1), .ref b, .ref (ad 1)])) rfl ?_
  refine y_sld (tqL_2 nm et) hXs hb rfl (vp_in_add 1 1 rfl (by decide) hi0 hi1 hLL) ?_
  refine y_blk 4 (tqL_2 nm et) (z := (296, [(0, .ref b), (1, .ref (ad 1)), (2, .ref (ar 200)), (3, .ref o), (4, .int i)], [.int (i + 2), .ref b, .int (xs (Int32.toNatClampNeg (i + 1))), .ref (ad 1)])) rfl ?_
  refine y_sld (tqL_2 nm et) hXs hb rfl (vp_in_add 2 2 rfl (by decide) hi0 hi1 hLL) ?_
  refine y_blk 1 (tqL_2 nm et) (z := (298, [(0, .ref b), (1, .ref (ad 1)), (2, .ref (ar 200)), (3, .ref o), (4, .int i)], [.ref o, .int (xs (Int32.toNatClampNeg (i + 2))), .int (xs (Int32.toNatClampNeg (i + 1))), .ref (ad 1)])) rfl ?_
  refine y_callSWL hS (tqL_2 nm et) (As := [.ref (ad 1), .int (xs (Int32.toNatClampNeg (i + 1))), .int (xs (Int32.toNatClampNeg (i + 2))), .ref o]) rfl csw_L_141 (m_L_gatesV hS hX hO (xs (Int32.toNatClampNeg (i + 1))) (xs (Int32.toNatClampNeg (i + 2)))) rfl (by decide) (Nat.le_of_ble_eq_true rfl) (fun r1 G1 q1 => ?_)
  obtain ⟨σ1, nv1, sv1, hX1, hO1, kt1, ha1⟩ := q1
  have hv1 : ∃ v1 : Int32, r1 = some (.int v1) := by rcases ha1 with h9 | h9 <;> exact ⟨_, h9.2.1⟩
  obtain ⟨v1, rfl⟩ := hv1
  have hR1 := hR.lk kt1
  refine y_blk 6 (tqL_2 nm et) (z := (309, [(5, .int v1), (0, .ref b), (1, .ref (ad 1)), (2, .ref (ar 200)), (3, .ref o), (4, .int i)], [.int (i + 1), .ref b, .ref (ar 200)])) rfl ?_
  refine y_sld (tqL_2 nm et) hXs hb rfl (vp_in_add 1 1 rfl (by decide) hi0 hi1 hLL) ?_
  refine y_blk 4 (tqL_2 nm et) (z := (315, [(5, .int v1), (0, .ref b), (1, .ref (ad 1)), (2, .ref (ar 200)), (3, .ref o), (4, .int i)], [.int (i + 2), .ref b, .int (xs (Int32.toNatClampNeg (i + 1))), .ref (ar 200)])) rfl ?_
  refine y_sld (tqL_2 nm et) hXs hb rfl (vp_in_add 2 2 rfl (by decide) hi0 hi1 hLL) ?_
  refine y_blk 0 (tqL_2 nm et) (z := (316, [(5, .int v1), (0, .ref b), (1, .ref (ad 1)), (2, .ref (ar 200)), (3, .ref o), (4, .int i)], [.int (xs (Int32.toNatClampNeg (i + 2))), .int (xs (Int32.toNatClampNeg (i + 1))), .ref (ar 200)])) rfl ?_
  refine y_callVL hS (tqL_2 nm et) (As := [.int (xs (Int32.toNatClampNeg (i + 1))), .int (xs (Int32.toNatClampNeg (i + 2)))]) rfl cv_L_143 hR1.m (m_X12_gates hS hI hR1 (xs (Int32.toNatClampNeg (i + 1))) (xs (Int32.toNatClampNeg (i + 2)))) rfl (by decide) (Nat.le_of_ble_eq_true rfl) (fun r2 G2 q2 => ?_)
  obtain ⟨⟨v2, rfl⟩, ar2, ρ2, hR2, e2, kt2, ha2⟩ := q2
  have hag := cx_gates hR.2 hkn ha1 ha2
  have hX2 := hX1.kp kt2 (fun t _ h9 => Or.inl h9)
  have hO2 := kt2 _ _ _ hO1 (Or.inr (Nat.le_refl _))
  refine y_blk 2 (tqL_2 nm et) (z := (1663, [(6, .int v2), (5, .int v1), (0, .ref b), (1, .ref (ad 1)), (2, .ref (ar 200)), (3, .ref o), (4, .int i)], [])) rfl ?_
  refine y_pick (L2 := [(0, .ref b), (1, .ref (ad 1)), (2, .ref (ar 200)), (3, .ref o), (4, .int i)]) [2, 3, 4, 5, 6] rfl ?_
  exact kk _ ⟨ad, σ1, ar2, ρ2, nv1, sv1, hX2, rfl, hR2, e2, hO2, hag.1, hag.1.A.1⟩
set_option maxHeartbeats 4000000 in
set_option maxRecDepth 100000 in
theorem law_3 (hS : yS l S0 A0 D aC) (hI : yIc S0 ic de) (hXs : va_X b LL xs S0 S0.heap) (hb : b < S0.heap.size) (hi0 : 0 ≤ i.toInt) (hi1 : i.toInt + 5 ≤ (LL : Int)) (hLL : LL ≤ 2560) (hG : LSt aC ic de x m o G) (kk : ∀ G1, LSt aC ic de x m o G1 → Y l S0 D (K_L_law nm et) 1300 mc ms Q X 1663 [(0, .ref b), (1, .ref x), (2, .ref m), (3, .ref o), (4, .int i)] [] G1 kc ks) : Y l S0 D (K_L_law nm et) 1300 mc ms Q X 324 [(0, .ref b), (1, .ref x), (2, .ref m), (3, .ref o), (4, .int i)] [] G (kc + 200) (ks + 8000) := by
  obtain ⟨ad, σ, ar, ρ, nv, sv, hX, rfl, hR, rfl, hO, hkn, h6⟩ := hG
  refine y_less (k2 := kc + 2 + 3) (n2 := ks + 13 + 18) (by omega) (by omega) ?_
  refine y_blk 5 (tqL_3 nm et) (z := (330, [(0, .ref b), (1, .ref (ad 1)), (2, .ref (ar 200)), (3, .ref o), (4, .int i)], [.int (i + 1), .ref b, .ref (ad 1)])) rfl ?_
  refine y_sld (tqL_3 nm et) hXs hb rfl (vp_in_add 1 1 rfl (by decide) hi0 hi1 hLL) ?_
  refine y_blk 4 (tqL_3 nm et) (z := (336, [(0, .ref b), (1, .ref (ad 1)), (2, .ref (ar 200)), (3, .ref o), (4, .int i)], [.int (i + 2), .ref b, .int (xs (Int32.toNatClampNeg (i + 1))), .ref (ad 1)])) rfl ?_
  refine y_sld (tqL_3 nm et) hXs hb rfl (vp_in_add 2 2 rfl (by decide) hi0 hi1 hLL) ?_
  refine y_blk 1 (tqL_3 nm et) (z := (338, [(0, .ref b), (1, .ref (ad 1)), (2, .ref (ar 200)), (3, .ref o), (4, .int i)], [.ref o, .int (xs (Int32.toNatClampNeg (i + 2))), .int (xs (Int32.toNatClampNeg (i + 1))), .ref (ad 1)])) rfl ?_
  refine y_callSWL hS (tqL_3 nm et) (As := [.ref (ad 1), .int (xs (Int32.toNatClampNeg (i + 1))), .int (xs (Int32.toNatClampNeg (i + 2))), .ref o]) rfl csw_L_144 (m_L_lampV hS hX hO (xs (Int32.toNatClampNeg (i + 1))) (xs (Int32.toNatClampNeg (i + 2)))) rfl (by decide) (Nat.le_of_ble_eq_true rfl) (fun r1 G1 q1 => ?_)
  obtain ⟨σ1, nv1, sv1, hX1, hO1, kt1, ha1⟩ := q1
  have hv1 : ∃ v1 : Int32, r1 = some (.int v1) := by rcases ha1 with h9 | h9 | h9 | h9 <;> exact ⟨_, h9.2.1⟩
  obtain ⟨v1, rfl⟩ := hv1
  have hR1 := hR.lk kt1
  refine y_blk 6 (tqL_3 nm et) (z := (349, [(5, .int v1), (0, .ref b), (1, .ref (ad 1)), (2, .ref (ar 200)), (3, .ref o), (4, .int i)], [.int (i + 1), .ref b, .ref (ar 200)])) rfl ?_
  refine y_sld (tqL_3 nm et) hXs hb rfl (vp_in_add 1 1 rfl (by decide) hi0 hi1 hLL) ?_
  refine y_blk 4 (tqL_3 nm et) (z := (355, [(5, .int v1), (0, .ref b), (1, .ref (ad 1)), (2, .ref (ar 200)), (3, .ref o), (4, .int i)], [.int (i + 2), .ref b, .int (xs (Int32.toNatClampNeg (i + 1))), .ref (ar 200)])) rfl ?_
  refine y_sld (tqL_3 nm et) hXs hb rfl (vp_in_add 2 2 rfl (by decide) hi0 hi1 hLL) ?_
  refine y_blk 0 (tqL_3 nm et) (z := (356, [(5, .int v1), (0, .ref b), (1, .ref (ad 1)), (2, .ref (ar 200)), (3, .ref o), (4, .int i)], [.int (xs (Int32.toNatClampNeg (i + 2))), .int (xs (Int32.toNatClampNeg (i + 1))), .ref (ar 200)])) rfl ?_
  refine y_callVL hS (tqL_3 nm et) (As := [.int (xs (Int32.toNatClampNeg (i + 1))), .int (xs (Int32.toNatClampNeg (i + 2)))]) rfl cv_L_146 hR1.m (m_X12_lamp hS hI hR1 (xs (Int32.toNatClampNeg (i + 1))) (xs (Int32.toNatClampNeg (i + 2))) h6) rfl (by decide) (Nat.le_of_ble_eq_true rfl) (fun r2 G2 q2 => ?_)
  obtain ⟨⟨v2, rfl⟩, ar2, ρ2, hR2, e2, kt2, ha2⟩ := q2
  have hag := cx_lamp hR.2 hkn ha1 ha2
  have hX2 := hX1.kp kt2 (fun t _ h9 => Or.inl h9)
  have hO2 := kt2 _ _ _ hO1 (Or.inr (Nat.le_refl _))
  refine y_blk 2 (tqL_3 nm et) (z := (1663, [(6, .int v2), (5, .int v1), (0, .ref b), (1, .ref (ad 1)), (2, .ref (ar 200)), (3, .ref o), (4, .int i)], [])) rfl ?_
  refine y_pick (L2 := [(0, .ref b), (1, .ref (ad 1)), (2, .ref (ar 200)), (3, .ref o), (4, .int i)]) [2, 3, 4, 5, 6] rfl ?_
  exact kk _ ⟨ad, σ1, ar2, ρ2, nv1, sv1, hX2, rfl, hR2, e2, hO2, hag.1, hag.1.A.1⟩
set_option maxHeartbeats 4000000 in
set_option maxRecDepth 100000 in
theorem law_4 (hS : yS l S0 A0 D aC) (hI : yIc S0 ic de) (hXs : va_X b LL xs S0 S0.heap) (hb : b < S0.heap.size) (hi0 : 0 ≤ i.toInt) (hi1 : i.toInt + 5 ≤ (LL : Int)) (hLL : LL ≤ 2560) (hG : LSt aC ic de x m o G) (kk : ∀ G1, LSt aC ic de x m o G1 → Y l S0 D (K_L_law nm et) 1300 mc ms Q X 1663 [(0, .ref b), (1, .ref x), (2, .ref m), (3, .ref o), (4, .int i)] [] G1 kc ks) : Y l S0 D (K_L_law nm et) 1300 mc ms Q X 364 [(0, .ref b), (1, .ref x), (2, .ref m), (3, .ref o), (4, .int i)] [] G (kc + 200) (ks + 8000) := by
  obtain ⟨ad, σ, ar, ρ, nv, sv, hX, rfl, hR, rfl, hO, hkn, h6⟩ := hG
  refine y_less (k2 := kc + 0 + 1) (n2 := ks + 0 + 6) (by omega) (by omega) ?_
  refine y_blk 5 (tqL_4 nm et) (z := (370, [(0, .ref b), (1, .ref (ad 1)), (2, .ref (ar 200)), (3, .ref o), (4, .int i)], [.int (i + 1), .ref b, .ref (ad 1)])) rfl ?_
  refine y_sld (tqL_4 nm et) hXs hb rfl (vp_in_add 1 1 rfl (by decide) hi0 hi1 hLL) ?_
  refine y_blk 4 (tqL_4 nm et) (z := (376, [(0, .ref b), (1, .ref (ad 1)), (2, .ref (ar 200)), (3, .ref o), (4, .int i)], [.int (i + 2), .ref b, .int (xs (Int32.toNatClampNeg (i + 1))), .ref (ad 1)])) rfl ?_
  refine y_sld (tqL_4 nm et) hXs hb rfl (vp_in_add 2 2 rfl (by decide) hi0 hi1 hLL) ?_
  refine y_blk 0 (tqL_4 nm et) (z := (377, [(0, .ref b), (1, .ref (ad 1)), (2, .ref (ar 200)), (3, .ref o), (4, .int i)], [.int (xs (Int32.toNatClampNeg (i + 2))), .int (xs (Int32.toNatClampNeg (i + 1))), .ref (ad 1)])) rfl ?_
  refine y_if_eq (tqL_4 nm et) 384 rfl rfl (fun c1 => ?_) (fun c1 => ?_)
  · skip
    refine y_blk 2 (tqL_4 nm et) (z := (386, [(0, .ref b), (1, .ref (ad 1)), (2, .ref (ar 200)), (3, .ref o), (4, .int i)], [.ref o, .int 0, .int (xs (Int32.toNatClampNeg (i + 1))), .ref (ad 1)])) rfl ?_
    refine y_callSWL hS (tqL_4 nm et) (As := [.ref (ad 1), .int (xs (Int32.toNatClampNeg (i + 1))), .int 0, .ref o]) rfl csw_L_147 (m_L_lightV hS hX hO (xs (Int32.toNatClampNeg (i + 1))) 0) rfl (by decide) (Nat.le_of_ble_eq_true rfl) (fun r1 G1 q1 => ?_)
    obtain ⟨σ1, nv1, sv1, hX1, hO1, kt1, ha1⟩ := q1
    have hv1 : ∃ v1 : Int32, r1 = some (.int v1) := by rcases ha1 with h9 | h9 <;> exact ⟨_, h9.2.1⟩
    obtain ⟨v1, rfl⟩ := hv1
    have hR1 := hR.lk kt1
    refine y_blk 6 (tqL_4 nm et) (z := (397, [(5, .int v1), (0, .ref b), (1, .ref (ad 1)), (2, .ref (ar 200)), (3, .ref o), (4, .int i)], [.int (i + 1), .ref b, .ref (ar 200)])) rfl ?_
    refine y_sld (tqL_4 nm et) hXs hb rfl (vp_in_add 1 1 rfl (by decide) hi0 hi1 hLL) ?_
    refine y_blk 4 (tqL_4 nm et) (z := (403, [(5, .int v1), (0, .ref b), (1, .ref (ad 1)), (2, .ref (ar 200)), (3, .ref o), (4, .int i)], [.int (i + 2), .ref b, .int (xs (Int32.toNatClampNeg (i + 1))), .ref (ar 200)])) rfl ?_
    refine y_sld (tqL_4 nm et) hXs hb rfl (vp_in_add 2 2 rfl (by decide) hi0 hi1 hLL) ?_
    refine y_blk 0 (tqL_4 nm et) (z := (404, [(5, .int v1), (0, .ref b), (1, .ref (ad 1)), (2, .ref (ar 200)), (3, .ref o), (4, .int i)], [.int (xs (Int32.toNatClampNeg (i + 2))), .int (xs (Int32.toNatClampNeg (i + 1))), .ref (ar 200)])) rfl ?_
    refine y_if_eq (tqL_4 nm et) 411 rfl rfl (fun c2 => ?_) (fun c2 => ?_)
    · skip
      refine y_blk 1 (tqL_4 nm et) (z := (412, [(5, .int v1), (0, .ref b), (1, .ref (ad 1)), (2, .ref (ar 200)), (3, .ref o), (4, .int i)], [.int 0, .int (xs (Int32.toNatClampNeg (i + 1))), .ref (ar 200)])) rfl ?_
      refine y_callVL hS (tqL_4 nm et) (As := [.int (xs (Int32.toNatClampNeg (i + 1))), .int 0]) rfl cv_L_150 hR1.m (m_X12_light_v hS hI hR1 (xs (Int32.toNatClampNeg (i + 1))) 0) rfl (by decide) (Nat.le_of_ble_eq_true rfl) (fun r2 G2 q2 => ?_)
      obtain ⟨⟨v2, rfl⟩, ar2, ρ2, hR2, e2, kt2, ha2⟩ := q2
      have hag := cx_light hR.2 hR2.2 hkn ha1 ha2
      have hX2 := hX1.kp kt2 (fun t _ h9 => Or.inl h9)
      have hO2 := kt2 _ _ _ hO1 (Or.inr (Nat.le_refl _))
      refine y_blk 2 (tqL_4 nm et) (z := (1663, [(6, .int v2), (5, .int v1), (0, .ref b), (1, .ref (ad 1)), (2, .ref (ar 200)), (3, .ref o), (4, .int i)], [])) rfl ?_
      refine y_pick (L2 := [(0, .ref b), (1, .ref (ad 1)), (2, .ref (ar 200)), (3, .ref o), (4, .int i)]) [2, 3, 4, 5, 6] rfl ?_
      exact kk _ ⟨ad, σ1, ar2, ρ2, nv1, sv1, hX2, rfl, hR2, e2, hO2, hag.1, hag.1.A.1⟩
    · exact absurd c1 c2
  · skip
    refine y_blk 3 (tqL_4 nm et) (z := (386, [(0, .ref b), (1, .ref (ad 1)), (2, .ref (ar 200)), (3, .ref o), (4, .int i)], [.ref o, .int 1, .int (xs (Int32.toNatClampNeg (i + 1))), .ref (ad 1)])) rfl ?_
    refine y_callSWL hS (tqL_4 nm et) (As := [.ref (ad 1), .int (xs (Int32.toNatClampNeg (i + 1))), .int 1, .ref o]) rfl csw_L_147 (m_L_lightV hS hX hO (xs (Int32.toNatClampNeg (i + 1))) 1) rfl (by decide) (Nat.le_of_ble_eq_true rfl) (fun r1 G1 q1 => ?_)
    obtain ⟨σ1, nv1, sv1, hX1, hO1, kt1, ha1⟩ := q1
    have hv1 : ∃ v1 : Int32, r1 = some (.int v1) := by rcases ha1 with h9 | h9 <;> exact ⟨_, h9.2.1⟩
    obtain ⟨v1, rfl⟩ := hv1
    have hR1 := hR.lk kt1
    refine y_blk 6 (tqL_4 nm et) (z := (397, [(5, .int v1), (0, .ref b), (1, .ref (ad 1)), (2, .ref (ar 200)), (3, .ref o), (4, .int i)], [.int (i + 1), .ref b, .ref (ar 200)])) rfl ?_
    refine y_sld (tqL_4 nm et) hXs hb rfl (vp_in_add 1 1 rfl (by decide) hi0 hi1 hLL) ?_
    refine y_blk 4 (tqL_4 nm et) (z := (403, [(5, .int v1), (0, .ref b), (1, .ref (ad 1)), (2, .ref (ar 200)), (3, .ref o), (4, .int i)], [.int (i + 2), .ref b, .int (xs (Int32.toNatClampNeg (i + 1))), .ref (ar 200)])) rfl ?_
    refine y_sld (tqL_4 nm et) hXs hb rfl (vp_in_add 2 2 rfl (by decide) hi0 hi1 hLL) ?_
    refine y_blk 0 (tqL_4 nm et) (z := (404, [(5, .int v1), (0, .ref b), (1, .ref (ad 1)), (2, .ref (ar 200)), (3, .ref o), (4, .int i)], [.int (xs (Int32.toNatClampNeg (i + 2))), .int (xs (Int32.toNatClampNeg (i + 1))), .ref (ar 200)])) rfl ?_
    refine y_if_eq (tqL_4 nm et) 411 rfl rfl (fun c2 => ?_) (fun c2 => ?_)
    · exact absurd c2 c1
    · skip
      refine y_blk 2 (tqL_4 nm et) (z := (412, [(5, .int v1), (0, .ref b), (1, .ref (ad 1)), (2, .ref (ar 200)), (3, .ref o), (4, .int i)], [.int 1, .int (xs (Int32.toNatClampNeg (i + 1))), .ref (ar 200)])) rfl ?_
      refine y_callVL hS (tqL_4 nm et) (As := [.int (xs (Int32.toNatClampNeg (i + 1))), .int 1]) rfl cv_L_150 hR1.m (m_X12_light_v hS hI hR1 (xs (Int32.toNatClampNeg (i + 1))) 1) rfl (by decide) (Nat.le_of_ble_eq_true rfl) (fun r2 G2 q2 => ?_)
      obtain ⟨⟨v2, rfl⟩, ar2, ρ2, hR2, e2, kt2, ha2⟩ := q2
      have hag := cx_light hR.2 hR2.2 hkn ha1 ha2
      have hX2 := hX1.kp kt2 (fun t _ h9 => Or.inl h9)
      have hO2 := kt2 _ _ _ hO1 (Or.inr (Nat.le_refl _))
      refine y_blk 2 (tqL_4 nm et) (z := (1663, [(6, .int v2), (5, .int v1), (0, .ref b), (1, .ref (ad 1)), (2, .ref (ar 200)), (3, .ref o), (4, .int i)], [])) rfl ?_
      refine y_pick (L2 := [(0, .ref b), (1, .ref (ad 1)), (2, .ref (ar 200)), (3, .ref o), (4, .int i)]) [2, 3, 4, 5, 6] rfl ?_
      exact kk _ ⟨ad, σ1, ar2, ρ2, nv1, sv1, hX2, rfl, hR2, e2, hO2, hag.1, hag.1.A.1⟩
set_option maxHeartbeats 4000000 in
set_option maxRecDepth 100000 in
theorem law_5 (hS : yS l S0 A0 D aC) (hI : yIc S0 ic de) (hXs : va_X b LL xs S0 S0.heap) (hb : b < S0.heap.size) (hi0 : 0 ≤ i.toInt) (hi1 : i.toInt + 5 ≤ (LL : Int)) (hLL : LL ≤ 2560) (hG : LSt aC ic de x m o G) (kk : ∀ G1, LSt aC ic de x m o G1 → Y l S0 D (K_L_law nm et) 1300 mc ms Q X 1663 [(0, .ref b), (1, .ref x), (2, .ref m), (3, .ref o), (4, .int i)] [] G1 kc ks) : Y l S0 D (K_L_law nm et) 1300 mc ms Q X 420 [(0, .ref b), (1, .ref x), (2, .ref m), (3, .ref o), (4, .int i)] [] G (kc + 200) (ks + 8000) := by
  obtain ⟨ad, σ, ar, ρ, nv, sv, hX, rfl, hR, rfl, hO, hkn, h6⟩ := hG
  refine y_less (k2 := kc + 2 + 2) (n2 := ks + 12 + 12) (by omega) (by omega) ?_
  refine y_blk 5 (tqL_5 nm et) (z := (426, [(0, .ref b), (1, .ref (ad 1)), (2, .ref (ar 200)), (3, .ref o), (4, .int i)], [.int (i + 1), .ref b, .ref (ad 1)])) rfl ?_
  refine y_sld (tqL_5 nm et) hXs hb rfl (vp_in_add 1 1 rfl (by decide) hi0 hi1 hLL) ?_
  refine y_blk 4 (tqL_5 nm et) (z := (432, [(0, .ref b), (1, .ref (ad 1)), (2, .ref (ar 200)), (3, .ref o), (4, .int i)], [.int (i + 2), .ref b, .int (xs (Int32.toNatClampNeg (i + 1))), .ref (ad 1)])) rfl ?_
  refine y_sld (tqL_5 nm et) hXs hb rfl (vp_in_add 2 2 rfl (by decide) hi0 hi1 hLL) ?_
  refine y_blk 1 (tqL_5 nm et) (z := (434, [(0, .ref b), (1, .ref (ad 1)), (2, .ref (ar 200)), (3, .ref o), (4, .int i)], [.ref o, .int (xs (Int32.toNatClampNeg (i + 2))), .int (xs (Int32.toNatClampNeg (i + 1))), .ref (ad 1)])) rfl ?_
  refine y_callSWL hS (tqL_5 nm et) (As := [.ref (ad 1), .int (xs (Int32.toNatClampNeg (i + 1))), .int (xs (Int32.toNatClampNeg (i + 2))), .ref o]) rfl csw_L_151 (m_L_fogV hS hX hO (xs (Int32.toNatClampNeg (i + 1))) (xs (Int32.toNatClampNeg (i + 2)))) rfl (by decide) (Nat.le_of_ble_eq_true rfl) (fun r1 G1 q1 => ?_)
  obtain ⟨σ1, nv1, sv1, hX1, hO1, kt1, ha1⟩ := q1
  have hv1 : ∃ v1 : Int32, r1 = some (.int v1) := by rcases ha1 with h9 | h9 | h9 <;> exact ⟨_, h9.2.1⟩
  obtain ⟨v1, rfl⟩ := hv1
  have hR1 := hR.lk kt1
  refine y_blk 6 (tqL_5 nm et) (z := (445, [(5, .int v1), (0, .ref b), (1, .ref (ad 1)), (2, .ref (ar 200)), (3, .ref o), (4, .int i)], [.int (i + 1), .ref b, .ref (ar 200)])) rfl ?_
  refine y_sld (tqL_5 nm et) hXs hb rfl (vp_in_add 1 1 rfl (by decide) hi0 hi1 hLL) ?_
  refine y_blk 4 (tqL_5 nm et) (z := (451, [(5, .int v1), (0, .ref b), (1, .ref (ad 1)), (2, .ref (ar 200)), (3, .ref o), (4, .int i)], [.int (i + 2), .ref b, .int (xs (Int32.toNatClampNeg (i + 1))), .ref (ar 200)])) rfl ?_
  refine y_sld (tqL_5 nm et) hXs hb rfl (vp_in_add 2 2 rfl (by decide) hi0 hi1 hLL) ?_
  refine y_blk 0 (tqL_5 nm et) (z := (452, [(5, .int v1), (0, .ref b), (1, .ref (ad 1)), (2, .ref (ar 200)), (3, .ref o), (4, .int i)], [.int (xs (Int32.toNatClampNeg (i + 2))), .int (xs (Int32.toNatClampNeg (i + 1))), .ref (ar 200)])) rfl ?_
  refine y_callVL hS (tqL_5 nm et) (As := [.int (xs (Int32.toNatClampNeg (i + 1))), .int (xs (Int32.toNatClampNeg (i + 2)))]) rfl cv_L_153 hR1.m (m_X12_fog hS hI hR1 (xs (Int32.toNatClampNeg (i + 1))) (xs (Int32.toNatClampNeg (i + 2)))) rfl (by decide) (Nat.le_of_ble_eq_true rfl) (fun r2 G2 q2 => ?_)
  obtain ⟨⟨v2, rfl⟩, ar2, ρ2, hR2, e2, kt2, ha2⟩ := q2
  have hag := cx_fog hR.2 hkn ha1 ha2
  have hX2 := hX1.kp kt2 (fun t _ h9 => Or.inl h9)
  have hO2 := kt2 _ _ _ hO1 (Or.inr (Nat.le_refl _))
  refine y_blk 2 (tqL_5 nm et) (z := (1663, [(6, .int v2), (5, .int v1), (0, .ref b), (1, .ref (ad 1)), (2, .ref (ar 200)), (3, .ref o), (4, .int i)], [])) rfl ?_
  refine y_pick (L2 := [(0, .ref b), (1, .ref (ad 1)), (2, .ref (ar 200)), (3, .ref o), (4, .int i)]) [2, 3, 4, 5, 6] rfl ?_
  exact kk _ ⟨ad, σ1, ar2, ρ2, nv1, sv1, hX2, rfl, hR2, e2, hO2, hag.1, hag.1.A.1⟩
set_option maxHeartbeats 4000000 in
set_option maxRecDepth 100000 in
theorem law_6 (hS : yS l S0 A0 D aC) (hI : yIc S0 ic de) (hXs : va_X b LL xs S0 S0.heap) (hb : b < S0.heap.size) (hi0 : 0 ≤ i.toInt) (hi1 : i.toInt + 5 ≤ (LL : Int)) (hLL : LL ≤ 2560) (hG : LSt aC ic de x m o G) (kk : ∀ G1, LSt aC ic de x m o G1 → Y l S0 D (K_L_law nm et) 1300 mc ms Q X 1663 [(0, .ref b), (1, .ref x), (2, .ref m), (3, .ref o), (4, .int i)] [] G1 kc ks) : Y l S0 D (K_L_law nm et) 1300 mc ms Q X 460 [(0, .ref b), (1, .ref x), (2, .ref m), (3, .ref o), (4, .int i)] [] G (kc + 200) (ks + 8000) := by
  obtain ⟨ad, σ, ar, ρ, nv, sv, hX, rfl, hR, rfl, hO, hkn, h6⟩ := hG
  refine y_less (k2 := kc + 4 + 3) (n2 := ks + 29 + 18) (by omega) (by omega) ?_
  refine y_blk 5 (tqL_6 nm et) (z := (466, [(0, .ref b), (1, .ref (ad 1)), (2, .ref (ar 200)), (3, .ref o), (4, .int i)], [.int (i + 1), .ref b, .ref (ad 1)])) rfl ?_
  refine y_sld (tqL_6 nm et) hXs hb rfl (vp_in_add 1 1 rfl (by decide) hi0 hi1 hLL) ?_
  refine y_blk 4 (tqL_6 nm et) (z := (472, [(0, .ref b), (1, .ref (ad 1)), (2, .ref (ar 200)), (3, .ref o), (4, .int i)], [.int (i + 2), .ref b, .int (xs (Int32.toNatClampNeg (i + 1))), .ref (ad 1)])) rfl ?_
  refine y_sld (tqL_6 nm et) hXs hb rfl (vp_in_add 2 2 rfl (by decide) hi0 hi1 hLL) ?_
  refine y_blk 4 (tqL_6 nm et) (z := (478, [(0, .ref b), (1, .ref (ad 1)), (2, .ref (ar 200)), (3, .ref o), (4, .int i)], [.int (i + 3), .ref b, .int (xs (Int32.toNatClampNeg (i + 2))), .int (xs (Int32.toNatClampNeg (i + 1))), .ref (ad 1)])) rfl ?_
  refine y_sld (tqL_6 nm et) hXs hb rfl (vp_in_add 3 3 rfl (by decide) hi0 hi1 hLL) ?_
  refine y_blk 4 (tqL_6 nm et) (z := (484, [(0, .ref b), (1, .ref (ad 1)), (2, .ref (ar 200)), (3, .ref o), (4, .int i)], [.int (i + 4), .ref b, .int (xs (Int32.toNatClampNeg (i + 3))), .int (xs (Int32.toNatClampNeg (i + 2))), .int (xs (Int32.toNatClampNeg (i + 1))), .ref (ad 1)])) rfl ?_
  refine y_sld (tqL_6 nm et) hXs hb rfl (vp_in_add 4 4 rfl (by decide) hi0 hi1 hLL) ?_
  refine y_blk 1 (tqL_6 nm et) (z := (486, [(0, .ref b), (1, .ref (ad 1)), (2, .ref (ar 200)), (3, .ref o), (4, .int i)], [.ref o, .int (xs (Int32.toNatClampNeg (i + 4))), .int (xs (Int32.toNatClampNeg (i + 3))), .int (xs (Int32.toNatClampNeg (i + 2))), .int (xs (Int32.toNatClampNeg (i + 1))), .ref (ad 1)])) rfl ?_
  refine y_callSWL hS (tqL_6 nm et) (As := [.ref (ad 1), .int (xs (Int32.toNatClampNeg (i + 1))), .int (xs (Int32.toNatClampNeg (i + 2))), .int (xs (Int32.toNatClampNeg (i + 3))), .int (xs (Int32.toNatClampNeg (i + 4))), .ref o]) rfl csw_L_154 (m_L_guardV hS hX hO (xs (Int32.toNatClampNeg (i + 1))) (xs (Int32.toNatClampNeg (i + 2))) (xs (Int32.toNatClampNeg (i + 3))) (xs (Int32.toNatClampNeg (i + 4)))) rfl (by decide) (Nat.le_of_ble_eq_true rfl) (fun r1 G1 q1 => ?_)
  obtain ⟨σ1, nv1, sv1, hX1, hO1, kt1, ha1⟩ := q1
  have hv1 : ∃ v1 : Int32, r1 = some (.int v1) := by rcases ha1 with h9 | h9 | h9 | h9 <;> exact ⟨_, h9.2.1⟩
  obtain ⟨v1, rfl⟩ := hv1
  have hR1 := hR.lk kt1
  refine y_blk 6 (tqL_6 nm et) (z := (497, [(5, .int v1), (0, .ref b), (1, .ref (ad 1)), (2, .ref (ar 200)), (3, .ref o), (4, .int i)], [.int (i + 1), .ref b, .ref (ar 200)])) rfl ?_
  refine y_sld (tqL_6 nm et) hXs hb rfl (vp_in_add 1 1 rfl (by decide) hi0 hi1 hLL) ?_
  refine y_blk 4 (tqL_6 nm et) (z := (503, [(5, .int v1), (0, .ref b), (1, .ref (ad 1)), (2, .ref (ar 200)), (3, .ref o), (4, .int i)], [.int (i + 2), .ref b, .int (xs (Int32.toNatClampNeg (i + 1))), .ref (ar 200)])) rfl ?_
  refine y_sld (tqL_6 nm et) hXs hb rfl (vp_in_add 2 2 rfl (by decide) hi0 hi1 hLL) ?_
  refine y_blk 4 (tqL_6 nm et) (z := (509, [(5, .int v1), (0, .ref b), (1, .ref (ad 1)), (2, .ref (ar 200)), (3, .ref o), (4, .int i)], [.int (i + 3), .ref b, .int (xs (Int32.toNatClampNeg (i + 2))), .int (xs (Int32.toNatClampNeg (i + 1))), .ref (ar 200)])) rfl ?_
  refine y_sld (tqL_6 nm et) hXs hb rfl (vp_in_add 3 3 rfl (by decide) hi0 hi1 hLL) ?_
  refine y_blk 4 (tqL_6 nm et) (z := (515, [(5, .int v1), (0, .ref b), (1, .ref (ad 1)), (2, .ref (ar 200)), (3, .ref o), (4, .int i)], [.int (i + 4), .ref b, .int (xs (Int32.toNatClampNeg (i + 3))), .int (xs (Int32.toNatClampNeg (i + 2))), .int (xs (Int32.toNatClampNeg (i + 1))), .ref (ar 200)])) rfl ?_
  refine y_sld (tqL_6 nm et) hXs hb rfl (vp_in_add 4 4 rfl (by decide) hi0 hi1 hLL) ?_
  refine y_blk 0 (tqL_6 nm et) (z := (516, [(5, .int v1), (0, .ref b), (1, .ref (ad 1)), (2, .ref (ar 200)), (3, .ref o), (4, .int i)], [.int (xs (Int32.toNatClampNeg (i + 4))), .int (xs (Int32.toNatClampNeg (i + 3))), .int (xs (Int32.toNatClampNeg (i + 2))), .int (xs (Int32.toNatClampNeg (i + 1))), .ref (ar 200)])) rfl ?_
  refine y_callVL hS (tqL_6 nm et) (As := [.int (xs (Int32.toNatClampNeg (i + 1))), .int (xs (Int32.toNatClampNeg (i + 2))), .int (xs (Int32.toNatClampNeg (i + 3))), .int (xs (Int32.toNatClampNeg (i + 4)))]) rfl cv_L_157 hR1.m (m_X12_guard hS hI hR1 (xs (Int32.toNatClampNeg (i + 1))) (xs (Int32.toNatClampNeg (i + 2))) (xs (Int32.toNatClampNeg (i + 3))) (xs (Int32.toNatClampNeg (i + 4)))) rfl (by decide) (Nat.le_of_ble_eq_true rfl) (fun r2 G2 q2 => ?_)
  obtain ⟨⟨v2, rfl⟩, ar2, ρ2, hR2, e2, kt2, ha2⟩ := q2
  have hag := cx_guard hR.2 hkn ha1 ha2
  have hX2 := hX1.kp kt2 (fun t _ h9 => Or.inl h9)
  have hO2 := kt2 _ _ _ hO1 (Or.inr (Nat.le_refl _))
  refine y_blk 2 (tqL_6 nm et) (z := (1663, [(6, .int v2), (5, .int v1), (0, .ref b), (1, .ref (ad 1)), (2, .ref (ar 200)), (3, .ref o), (4, .int i)], [])) rfl ?_
  refine y_pick (L2 := [(0, .ref b), (1, .ref (ad 1)), (2, .ref (ar 200)), (3, .ref o), (4, .int i)]) [2, 3, 4, 5, 6] rfl ?_
  exact kk _ ⟨ad, σ1, ar2, ρ2, nv1, sv1, hX2, rfl, hR2, e2, hO2, hag.1, hag.1.A.1⟩
set_option maxHeartbeats 4000000 in
set_option maxRecDepth 100000 in
theorem law_7 (hS : yS l S0 A0 D aC) (hI : yIc S0 ic de) (hXs : va_X b LL xs S0 S0.heap) (hb : b < S0.heap.size) (hi0 : 0 ≤ i.toInt) (hi1 : i.toInt + 5 ≤ (LL : Int)) (hLL : LL ≤ 2560) (hG : LSt aC ic de x m o G) (kk : ∀ G1, LSt aC ic de x m o G1 → Y l S0 D (K_L_law nm et) 1300 mc ms Q X 1663 [(0, .ref b), (1, .ref x), (2, .ref m), (3, .ref o), (4, .int i)] [] G1 kc ks) : Y l S0 D (K_L_law nm et) 1300 mc ms Q X 524 [(0, .ref b), (1, .ref x), (2, .ref m), (3, .ref o), (4, .int i)] [] G (kc + 200) (ks + 8000) := by
  obtain ⟨ad, σ, ar, ρ, nv, sv, hX, rfl, hR, rfl, hO, hkn, h6⟩ := hG
  refine y_less (k2 := kc + 1 + 3) (n2 := ks + 10 + 18) (by omega) (by omega) ?_
  refine y_blk 5 (tqL_7 nm et) (z := (530, [(0, .ref b), (1, .ref (ad 1)), (2, .ref (ar 200)), (3, .ref o), (4, .int i)], [.int (i + 1), .ref b, .ref (ad 1)])) rfl ?_
  refine y_sld (tqL_7 nm et) hXs hb rfl (vp_in_add 1 1 rfl (by decide) hi0 hi1 hLL) ?_
  refine y_blk 4 (tqL_7 nm et) (z := (536, [(0, .ref b), (1, .ref (ad 1)), (2, .ref (ar 200)), (3, .ref o), (4, .int i)], [.int (i + 2), .ref b, .int (xs (Int32.toNatClampNeg (i + 1))), .ref (ad 1)])) rfl ?_
  refine y_sld (tqL_7 nm et) hXs hb rfl (vp_in_add 2 2 rfl (by decide) hi0 hi1 hLL) ?_
  refine y_blk 1 (tqL_7 nm et) (z := (538, [(0, .ref b), (1, .ref (ad 1)), (2, .ref (ar 200)), (3, .ref o), (4, .int i)], [.ref o, .int (xs (Int32.toNatClampNeg (i + 2))), .int (xs (Int32.toNatClampNeg (i + 1))), .ref (ad 1)])) rfl ?_
  refine y_callSWL hS (tqL_7 nm et) (As := [.ref (ad 1), .int (xs (Int32.toNatClampNeg (i + 1))), .int (xs (Int32.toNatClampNeg (i + 2))), .ref o]) rfl csw_L_158 (m_L_roundV hS hX hO (xs (Int32.toNatClampNeg (i + 1))) (xs (Int32.toNatClampNeg (i + 2)))) rfl (by decide) (Nat.le_of_ble_eq_true rfl) (fun r1 G1 q1 => ?_)
  obtain ⟨σ1, nv1, sv1, hX1, hO1, kt1, ha1⟩ := q1
  have hv1 : ∃ v1 : Int32, r1 = some (.int v1) := by rcases ha1 with h9 | h9 | h9 <;> exact ⟨_, h9.2.1⟩
  obtain ⟨v1, rfl⟩ := hv1
  have hR1 := hR.lk kt1
  refine y_blk 6 (tqL_7 nm et) (z := (549, [(5, .int v1), (0, .ref b), (1, .ref (ad 1)), (2, .ref (ar 200)), (3, .ref o), (4, .int i)], [.int (i + 1), .ref b, .ref (ar 200)])) rfl ?_
  refine y_sld (tqL_7 nm et) hXs hb rfl (vp_in_add 1 1 rfl (by decide) hi0 hi1 hLL) ?_
  refine y_blk 4 (tqL_7 nm et) (z := (555, [(5, .int v1), (0, .ref b), (1, .ref (ad 1)), (2, .ref (ar 200)), (3, .ref o), (4, .int i)], [.int (i + 2), .ref b, .int (xs (Int32.toNatClampNeg (i + 1))), .ref (ar 200)])) rfl ?_
  refine y_sld (tqL_7 nm et) hXs hb rfl (vp_in_add 2 2 rfl (by decide) hi0 hi1 hLL) ?_
  refine y_blk 0 (tqL_7 nm et) (z := (556, [(5, .int v1), (0, .ref b), (1, .ref (ad 1)), (2, .ref (ar 200)), (3, .ref o), (4, .int i)], [.int (xs (Int32.toNatClampNeg (i + 2))), .int (xs (Int32.toNatClampNeg (i + 1))), .ref (ar 200)])) rfl ?_
  refine y_callVL hS (tqL_7 nm et) (As := [.int (xs (Int32.toNatClampNeg (i + 1))), .int (xs (Int32.toNatClampNeg (i + 2)))]) rfl cv_L_160 hR1.m (m_X12_round hS hI hR1 (xs (Int32.toNatClampNeg (i + 1))) (xs (Int32.toNatClampNeg (i + 2)))) rfl (by decide) (Nat.le_of_ble_eq_true rfl) (fun r2 G2 q2 => ?_)
  obtain ⟨⟨v2, rfl⟩, ar2, ρ2, hR2, e2, kt2, ha2⟩ := q2
  have hag := cx_round hR.2 hkn ha1 ha2
  have hX2 := hX1.kp kt2 (fun t _ h9 => Or.inl h9)
  have hO2 := kt2 _ _ _ hO1 (Or.inr (Nat.le_refl _))
  refine y_blk 2 (tqL_7 nm et) (z := (1663, [(6, .int v2), (5, .int v1), (0, .ref b), (1, .ref (ad 1)), (2, .ref (ar 200)), (3, .ref o), (4, .int i)], [])) rfl ?_
  refine y_pick (L2 := [(0, .ref b), (1, .ref (ad 1)), (2, .ref (ar 200)), (3, .ref o), (4, .int i)]) [2, 3, 4, 5, 6] rfl ?_
  exact kk _ ⟨ad, σ1, ar2, ρ2, nv1, sv1, hX2, rfl, hR2, e2, hO2, hag.1, hag.1.A.1⟩
set_option maxHeartbeats 4000000 in
set_option maxRecDepth 100000 in
theorem law_8 (hS : yS l S0 A0 D aC) (hI : yIc S0 ic de) (hXs : va_X b LL xs S0 S0.heap) (hb : b < S0.heap.size) (hi0 : 0 ≤ i.toInt) (hi1 : i.toInt + 5 ≤ (LL : Int)) (hLL : LL ≤ 2560) (hG : LSt aC ic de x m o G) (kk : ∀ G1, LSt aC ic de x m o G1 → Y l S0 D (K_L_law nm et) 1300 mc ms Q X 1663 [(0, .ref b), (1, .ref x), (2, .ref m), (3, .ref o), (4, .int i)] [] G1 kc ks) : Y l S0 D (K_L_law nm et) 1300 mc ms Q X 564 [(0, .ref b), (1, .ref x), (2, .ref m), (3, .ref o), (4, .int i)] [] G (kc + 200) (ks + 8000) := by
  obtain ⟨ad, σ, ar, ρ, nv, sv, hX, rfl, hR, rfl, hO, hkn, h6⟩ := hG
  refine y_less (k2 := kc + 1 + 2) (n2 := ks + 10 + 12) (by omega) (by omega) ?_
  refine y_blk 5 (tqL_8 nm et) (z := (570, [(0, .ref b), (1, .ref (ad 1)), (2, .ref (ar 200)), (3, .ref o), (4, .int i)], [.int (i + 1), .ref b, .ref (ad 1)])) rfl ?_
  refine y_sld (tqL_8 nm et) hXs hb rfl (vp_in_add 1 1 rfl (by decide) hi0 hi1 hLL) ?_
  refine y_blk 1 (tqL_8 nm et) (z := (572, [(0, .ref b), (1, .ref (ad 1)), (2, .ref (ar 200)), (3, .ref o), (4, .int i)], [.ref o, .int (xs (Int32.toNatClampNeg (i + 1))), .ref (ad 1)])) rfl ?_
  refine y_callSWL hS (tqL_8 nm et) (As := [.ref (ad 1), .int (xs (Int32.toNatClampNeg (i + 1))), .ref o]) rfl csw_L_161 (m_L_postV hS hX hO (xs (Int32.toNatClampNeg (i + 1)))) rfl (by decide) (Nat.le_of_ble_eq_true rfl) (fun r1 G1 q1 => ?_)
  obtain ⟨σ1, nv1, sv1, hX1, hO1, kt1, ha1⟩ := q1
  have hv1 : ∃ v1 : Int32, r1 = some (.int v1) := by rcases ha1 with h9 | h9 | h9 <;> exact ⟨_, h9.2.1⟩
  obtain ⟨v1, rfl⟩ := hv1
  have hR1 := hR.lk kt1
  refine y_blk 6 (tqL_8 nm et) (z := (583, [(5, .int v1), (0, .ref b), (1, .ref (ad 1)), (2, .ref (ar 200)), (3, .ref o), (4, .int i)], [.int (i + 1), .ref b, .ref (ar 200)])) rfl ?_
  refine y_sld (tqL_8 nm et) hXs hb rfl (vp_in_add 1 1 rfl (by decide) hi0 hi1 hLL) ?_
  refine y_blk 0 (tqL_8 nm et) (z := (584, [(5, .int v1), (0, .ref b), (1, .ref (ad 1)), (2, .ref (ar 200)), (3, .ref o), (4, .int i)], [.int (xs (Int32.toNatClampNeg (i + 1))), .ref (ar 200)])) rfl ?_
  refine y_callVL hS (tqL_8 nm et) (As := [.int (xs (Int32.toNatClampNeg (i + 1)))]) rfl cv_L_164 hR1.m (m_X12_post hS hI hR1 (xs (Int32.toNatClampNeg (i + 1)))) rfl (by decide) (Nat.le_of_ble_eq_true rfl) (fun r2 G2 q2 => ?_)
  obtain ⟨⟨v2, rfl⟩, ar2, ρ2, hR2, e2, kt2, ha2⟩ := q2
  have hag := cx_post hR.2 hkn ha1 ha2
  have hX2 := hX1.kp kt2 (fun t _ h9 => Or.inl h9)
  have hO2 := kt2 _ _ _ hO1 (Or.inr (Nat.le_refl _))
  refine y_blk 2 (tqL_8 nm et) (z := (1663, [(6, .int v2), (5, .int v1), (0, .ref b), (1, .ref (ad 1)), (2, .ref (ar 200)), (3, .ref o), (4, .int i)], [])) rfl ?_
  refine y_pick (L2 := [(0, .ref b), (1, .ref (ad 1)), (2, .ref (ar 200)), (3, .ref o), (4, .int i)]) [2, 3, 4, 5, 6] rfl ?_
  exact kk _ ⟨ad, σ1, ar2, ρ2, nv1, sv1, hX2, rfl, hR2, e2, hO2, hag.1, hag.1.A.1⟩
set_option maxHeartbeats 4000000 in
set_option maxRecDepth 100000 in
theorem law_9 (hS : yS l S0 A0 D aC) (hI : yIc S0 ic de) (hXs : va_X b LL xs S0 S0.heap) (hb : b < S0.heap.size) (hi0 : 0 ≤ i.toInt) (hi1 : i.toInt + 5 ≤ (LL : Int)) (hLL : LL ≤ 2560) (hG : LSt aC ic de x m o G) (kk : ∀ G1, LSt aC ic de x m o G1 → Y l S0 D (K_L_law nm et) 1300 mc ms Q X 1663 [(0, .ref b), (1, .ref x), (2, .ref m), (3, .ref o), (4, .int i)] [] G1 kc ks) : Y l S0 D (K_L_law nm et) 1300 mc ms Q X 592 [(0, .ref b), (1, .ref x), (2, .ref m), (3, .ref o), (4, .int i)] [] G (kc + 200) (ks + 8000) := by
  obtain ⟨ad, σ, ar, ρ, nv, sv, hX, rfl, hR, rfl, hO, hkn, h6⟩ := hG
  refine y_less (k2 := kc + 0 + 2) (n2 := ks + 0 + 12) (by omega) (by omega) ?_
  refine y_blk 5 (tqL_9 nm et) (z := (598, [(0, .ref b), (1, .ref (ad 1)), (2, .ref (ar 200)), (3, .ref o), (4, .int i)], [.int (i + 1), .ref b, .ref (ad 1)])) rfl ?_
  refine y_sld (tqL_9 nm et) hXs hb rfl (vp_in_add 1 1 rfl (by decide) hi0 hi1 hLL) ?_
  refine y_blk 4 (tqL_9 nm et) (z := (604, [(0, .ref b), (1, .ref (ad 1)), (2, .ref (ar 200)), (3, .ref o), (4, .int i)], [.int (i + 2), .ref b, .int (xs (Int32.toNatClampNeg (i + 1))), .ref (ad 1)])) rfl ?_
  refine y_sld (tqL_9 nm et) hXs hb rfl (vp_in_add 2 2 rfl (by decide) hi0 hi1 hLL) ?_
  refine y_blk 1 (tqL_9 nm et) (z := (606, [(0, .ref b), (1, .ref (ad 1)), (2, .ref (ar 200)), (3, .ref o), (4, .int i)], [.ref o, .int (xs (Int32.toNatClampNeg (i + 2))), .int (xs (Int32.toNatClampNeg (i + 1))), .ref (ad 1)])) rfl ?_
  refine y_callSWL hS (tqL_9 nm et) (As := [.ref (ad 1), .int (xs (Int32.toNatClampNeg (i + 1))), .int (xs (Int32.toNatClampNeg (i + 2))), .ref o]) rfl csw_L_165 (m_L_placeV hS hX hO (xs (Int32.toNatClampNeg (i + 1))) (xs (Int32.toNatClampNeg (i + 2)))) rfl (by decide) (Nat.le_of_ble_eq_true rfl) (fun r1 G1 q1 => ?_)
  obtain ⟨σ1, nv1, sv1, hX1, hO1, kt1, ha1⟩ := q1
  have hv1 : ∃ v1 : Int32, r1 = some (.int v1) := by rcases ha1 with h9 | h9 | h9 <;> exact ⟨_, h9.2.1⟩
  obtain ⟨v1, rfl⟩ := hv1
  have hR1 := hR.lk kt1
  refine y_blk 6 (tqL_9 nm et) (z := (617, [(5, .int v1), (0, .ref b), (1, .ref (ad 1)), (2, .ref (ar 200)), (3, .ref o), (4, .int i)], [.int (i + 1), .ref b, .ref (ar 200)])) rfl ?_
  refine y_sld (tqL_9 nm et) hXs hb rfl (vp_in_add 1 1 rfl (by decide) hi0 hi1 hLL) ?_
  refine y_blk 4 (tqL_9 nm et) (z := (623, [(5, .int v1), (0, .ref b), (1, .ref (ad 1)), (2, .ref (ar 200)), (3, .ref o), (4, .int i)], [.int (i + 2), .ref b, .int (xs (Int32.toNatClampNeg (i + 1))), .ref (ar 200)])) rfl ?_
  refine y_sld (tqL_9 nm et) hXs hb rfl (vp_in_add 2 2 rfl (by decide) hi0 hi1 hLL) ?_
  refine y_blk 0 (tqL_9 nm et) (z := (624, [(5, .int v1), (0, .ref b), (1, .ref (ad 1)), (2, .ref (ar 200)), (3, .ref o), (4, .int i)], [.int (xs (Int32.toNatClampNeg (i + 2))), .int (xs (Int32.toNatClampNeg (i + 1))), .ref (ar 200)])) rfl ?_
  refine y_callVL hS (tqL_9 nm et) (As := [.int (xs (Int32.toNatClampNeg (i + 1))), .int (xs (Int32.toNatClampNeg (i + 2)))]) rfl cv_L_167 hR1.m (m_X12_place hS hI hR1 (xs (Int32.toNatClampNeg (i + 1))) (xs (Int32.toNatClampNeg (i + 2)))) rfl (by decide) (Nat.le_of_ble_eq_true rfl) (fun r2 G2 q2 => ?_)
  obtain ⟨⟨v2, rfl⟩, ar2, ρ2, hR2, e2, kt2, ha2⟩ := q2
  have hag := cx_place hR.2 hkn ha1 ha2
  have hX2 := hX1.kp kt2 (fun t _ h9 => Or.inl h9)
  have hO2 := kt2 _ _ _ hO1 (Or.inr (Nat.le_refl _))
  refine y_blk 2 (tqL_9 nm et) (z := (1663, [(6, .int v2), (5, .int v1), (0, .ref b), (1, .ref (ad 1)), (2, .ref (ar 200)), (3, .ref o), (4, .int i)], [])) rfl ?_
  refine y_pick (L2 := [(0, .ref b), (1, .ref (ad 1)), (2, .ref (ar 200)), (3, .ref o), (4, .int i)]) [2, 3, 4, 5, 6] rfl ?_
  exact kk _ ⟨ad, σ1, ar2, ρ2, nv1, sv1, hX2, rfl, hR2, e2, hO2, hag.1, hag.1.A.1⟩
set_option maxHeartbeats 4000000 in
set_option maxRecDepth 100000 in
theorem law_10 (hS : yS l S0 A0 D aC) (hI : yIc S0 ic de) (hXs : va_X b LL xs S0 S0.heap) (hb : b < S0.heap.size) (hi0 : 0 ≤ i.toInt) (hi1 : i.toInt + 5 ≤ (LL : Int)) (hLL : LL ≤ 2560) (hG : LSt aC ic de x m o G) (kk : ∀ G1, LSt aC ic de x m o G1 → Y l S0 D (K_L_law nm et) 1300 mc ms Q X 1663 [(0, .ref b), (1, .ref x), (2, .ref m), (3, .ref o), (4, .int i)] [] G1 kc ks) : Y l S0 D (K_L_law nm et) 1300 mc ms Q X 632 [(0, .ref b), (1, .ref x), (2, .ref m), (3, .ref o), (4, .int i)] [] G (kc + 200) (ks + 8000) := by
  obtain ⟨ad, σ, ar, ρ, nv, sv, hX, rfl, hR, rfl, hO, hkn, h6⟩ := hG
  refine y_less (k2 := kc + 0 + 3) (n2 := ks + 0 + 18) (by omega) (by omega) ?_
  refine y_blk 5 (tqL_10 nm et) (z := (638, [(0, .ref b), (1, .ref (ad 1)), (2, .ref (ar 200)), (3, .ref o), (4, .int i)], [.int (i + 1), .ref b, .ref (ad 1)])) rfl ?_
  refine y_sld (tqL_10 nm et) hXs hb rfl (vp_in_add 1 1 rfl (by decide) hi0 hi1 hLL) ?_
  refine y_blk 4 (tqL_10 nm et) (z := (644, [(0, .ref b), (1, .ref (ad 1)), (2, .ref (ar 200)), (3, .ref o), (4, .int i)], [.int (i + 2), .ref b, .int (xs (Int32.toNatClampNeg (i + 1))), .ref (ad 1)])) rfl ?_
  refine y_sld (tqL_10 nm et) hXs hb rfl (vp_in_add 2 2 rfl (by decide) hi0 hi1 hLL) ?_
  refine y_blk 4 (tqL_10 nm et) (z := (650, [(0, .ref b), (1, .ref (ad 1)), (2, .ref (ar 200)), (3, .ref o), (4, .int i)], [.int (i + 3), .ref b, .int (xs (Int32.toNatClampNeg (i + 2))), .int (xs (Int32.toNatClampNeg (i + 1))), .ref (ad 1)])) rfl ?_
  refine y_sld (tqL_10 nm et) hXs hb rfl (vp_in_add 3 3 rfl (by decide) hi0 hi1 hLL) ?_
  refine y_blk 1 (tqL_10 nm et) (z := (652, [(0, .ref b), (1, .ref (ad 1)), (2, .ref (ar 200)), (3, .ref o), (4, .int i)], [.ref o, .int (xs (Int32.toNatClampNeg (i + 3))), .int (xs (Int32.toNatClampNeg (i + 2))), .int (xs (Int32.toNatClampNeg (i + 1))), .ref (ad 1)])) rfl ?_
  refine y_callSWL hS (tqL_10 nm et) (As := [.ref (ad 1), .int (xs (Int32.toNatClampNeg (i + 1))), .int (xs (Int32.toNatClampNeg (i + 2))), .int (xs (Int32.toNatClampNeg (i + 3))), .ref o]) rfl csw_L_168 (m_L_seesV hS hX hO (xs (Int32.toNatClampNeg (i + 1))) (xs (Int32.toNatClampNeg (i + 2))) (xs (Int32.toNatClampNeg (i + 3)))) rfl (by decide) (Nat.le_of_ble_eq_true rfl) (fun r1 G1 q1 => ?_)
  obtain ⟨σ1, nv1, sv1, hX1, hO1, kt1, ha1⟩ := q1
  have hv1 : ∃ v1 : Int32, r1 = some (.int v1) := by rcases ha1 with h9 | h9 | h9 <;> exact ⟨_, h9.2.1⟩
  obtain ⟨v1, rfl⟩ := hv1
  have hR1 := hR.lk kt1
  refine y_blk 6 (tqL_10 nm et) (z := (663, [(5, .int v1), (0, .ref b), (1, .ref (ad 1)), (2, .ref (ar 200)), (3, .ref o), (4, .int i)], [.int (i + 1), .ref b, .ref (ar 200)])) rfl ?_
  refine y_sld (tqL_10 nm et) hXs hb rfl (vp_in_add 1 1 rfl (by decide) hi0 hi1 hLL) ?_
  refine y_blk 4 (tqL_10 nm et) (z := (669, [(5, .int v1), (0, .ref b), (1, .ref (ad 1)), (2, .ref (ar 200)), (3, .ref o), (4, .int i)], [.int (i + 2), .ref b, .int (xs (Int32.toNatClampNeg (i + 1))), .ref (ar 200)])) rfl ?_
  refine y_sld (tqL_10 nm et) hXs hb rfl (vp_in_add 2 2 rfl (by decide) hi0 hi1 hLL) ?_
  refine y_blk 4 (tqL_10 nm et) (z := (675, [(5, .int v1), (0, .ref b), (1, .ref (ad 1)), (2, .ref (ar 200)), (3, .ref o), (4, .int i)], [.int (i + 3), .ref b, .int (xs (Int32.toNatClampNeg (i + 2))), .int (xs (Int32.toNatClampNeg (i + 1))), .ref (ar 200)])) rfl ?_
  refine y_sld (tqL_10 nm et) hXs hb rfl (vp_in_add 3 3 rfl (by decide) hi0 hi1 hLL) ?_
  refine y_blk 0 (tqL_10 nm et) (z := (676, [(5, .int v1), (0, .ref b), (1, .ref (ad 1)), (2, .ref (ar 200)), (3, .ref o), (4, .int i)], [.int (xs (Int32.toNatClampNeg (i + 3))), .int (xs (Int32.toNatClampNeg (i + 2))), .int (xs (Int32.toNatClampNeg (i + 1))), .ref (ar 200)])) rfl ?_
  refine y_callVL hS (tqL_10 nm et) (As := [.int (xs (Int32.toNatClampNeg (i + 1))), .int (xs (Int32.toNatClampNeg (i + 2))), .int (xs (Int32.toNatClampNeg (i + 3)))]) rfl cv_L_170 hR1.m (m_X12_sees__v hS hI hR1 (xs (Int32.toNatClampNeg (i + 1))) (xs (Int32.toNatClampNeg (i + 2))) (xs (Int32.toNatClampNeg (i + 3)))) rfl (by decide) (Nat.le_of_ble_eq_true rfl) (fun r2 G2 q2 => ?_)
  obtain ⟨⟨v2, hv2, rfl⟩, ar2, ρ2, hR2, e2, kt2, ha2⟩ := q2
  have hag := cx_sees hR.2 hkn ha1 ha2
  have hX2 := hX1.kp kt2 (fun t _ h9 => Or.inl h9)
  have hO2 := kt2 _ _ _ hO1 (Or.inr (Nat.le_refl _))
  refine y_blk 2 (tqL_10 nm et) (z := (682, [(6, .int v2), (5, .int v1), (0, .ref b), (1, .ref (ad 1)), (2, .ref (ar 200)), (3, .ref o), (4, .int i)], [.ref (ar 200)])) rfl ?_
  have hg3 : G2 (ar 200) = some (200, rMod ar2 ρ2) := by rw [← e2]; exact hR2.m
  have hM3 : yM l S0 D yX12_thrown cX12_thrown 1 (some .int) 16 0 0 [.ref (ar 200)] G2 (fun r G1 => r = some (.int (rI ρ2 0)) ∧ G1 = G2) (fun _ _ => False) := by rw [← e2]; exact m_X12_thrown hS hR2
  refine y_callVL (kc := kc) (ks := ks) hS (tqL_10 nm et) (As := []) rfl cv_L_171 hg3 hM3 rfl (by decide) (Nat.le_of_ble_eq_true rfl) (fun r3 G3 q3 => ?_)
  obtain ⟨rfl, e3⟩ := q3
  have e3 := e3.symm
  subst e3
  have kk9 := kk _ ⟨ad, σ1, ar2, ρ2, nv1, sv1, hX2, rfl, hR2, e2, hO2, hag.1, hag.1.A.1⟩
  refine y_blk 1 (tqL_10 nm et) (z := (687, [(6, .int v2), (5, .int v1), (0, .ref b), (1, .ref (ad 1)), (2, .ref (ar 200)), (3, .ref o), (4, .int i)], [.int v1, .int (rI ρ2 0)])) rfl ?_
  refine y_icmp_eq (tqL_10 nm et) 692 rfl rfl (fun c9 => ?_) (fun c9 => ?_)
  rotate_left
  · exact absurd hag.2.1 c9
  refine y_blk 1 (tqL_10 nm et) (z := (694, [(6, .int v2), (5, .int v1), (0, .ref b), (1, .ref (ad 1)), (2, .ref (ar 200)), (3, .ref o), (4, .int i)], [.int v1])) rfl ?_
  refine y_if_ne (tqL_10 nm et) 717 rfl rfl (fun c8 => ?_) (fun c8 => ?_)
  · refine y_blk 1 (tqL_10 nm et) (z := (1663, [(6, .int v2), (5, .int v1), (0, .ref b), (1, .ref (ad 1)), (2, .ref (ar 200)), (3, .ref o), (4, .int i)], [])) rfl ?_
    refine y_pick (L2 := [(0, .ref b), (1, .ref (ad 1)), (2, .ref (ar 200)), (3, .ref o), (4, .int i)]) [2, 3, 4, 5, 6] rfl ?_
    exact kk9
  · have en := hag.2.2 c8
    refine y_blk 1 (tqL_10 nm et) (z := (698, [(6, .int v2), (5, .int v1), (0, .ref b), (1, .ref (ad 1)), (2, .ref (ar 200)), (3, .ref o), (4, .int i)], [.ref o])) rfl ?_
    refine y_getN hS (tqL_10 nm et) (v := .long nv1) rfl fgn_L_13_X9 hO2 rfl ?_
    refine y_blk 1 (tqL_10 nm et) (z := (703, [(6, .int v2), (5, .int v1), (0, .ref b), (1, .ref (ad 1)), (2, .ref (ar 200)), (3, .ref o), (4, .int i)], [.int v2, .long nv1])) rfl ?_
    refine y_if_eq (tqL_10 nm et) 710 rfl rfl (fun c6 => ?_) (fun c6 => ?_)
    · have e8 : lg_cmp nv1 0 = 0 := by rw [en, c6, (show Int32.toInt64 0 = 0 from by decide)]; exact lg_cmp_self _
      refine y_blk 2 (tqL_10 nm et) (z := (712, [(6, .int v2), (5, .int v1), (0, .ref b), (1, .ref (ad 1)), (2, .ref (ar 200)), (3, .ref o), (4, .int i)], [.int (lg_cmp nv1 0)])) rfl ?_
      refine y_if_eq (tqL_10 nm et) 717 rfl rfl (fun _ => ?_) (fun c7 => absurd e8 c7)
      refine y_blk 1 (tqL_10 nm et) (z := (1663, [(6, .int v2), (5, .int v1), (0, .ref b), (1, .ref (ad 1)), (2, .ref (ar 200)), (3, .ref o), (4, .int i)], [])) rfl ?_
      refine y_pick (L2 := [(0, .ref b), (1, .ref (ad 1)), (2, .ref (ar 200)), (3, .ref o), (4, .int i)]) [2, 3, 4, 5, 6] rfl ?_
      exact kk9
    · have e8 : lg_cmp nv1 1 = 0 := by rw [en, hv2.resolve_left c6, (show Int32.toInt64 1 = 1 from by decide)]; exact lg_cmp_self _
      refine y_blk 3 (tqL_10 nm et) (z := (712, [(6, .int v2), (5, .int v1), (0, .ref b), (1, .ref (ad 1)), (2, .ref (ar 200)), (3, .ref o), (4, .int i)], [.int (lg_cmp nv1 1)])) rfl ?_
      refine y_if_eq (tqL_10 nm et) 717 rfl rfl (fun _ => ?_) (fun c7 => absurd e8 c7)
      refine y_blk 1 (tqL_10 nm et) (z := (1663, [(6, .int v2), (5, .int v1), (0, .ref b), (1, .ref (ad 1)), (2, .ref (ar 200)), (3, .ref o), (4, .int i)], [])) rfl ?_
      refine y_pick (L2 := [(0, .ref b), (1, .ref (ad 1)), (2, .ref (ar 200)), (3, .ref o), (4, .int i)]) [2, 3, 4, 5, 6] rfl ?_
      exact kk9
set_option maxHeartbeats 4000000 in
set_option maxRecDepth 100000 in
theorem law_11 (hS : yS l S0 A0 D aC) (hI : yIc S0 ic de) (hXs : va_X b LL xs S0 S0.heap) (hb : b < S0.heap.size) (hi0 : 0 ≤ i.toInt) (hi1 : i.toInt + 5 ≤ (LL : Int)) (hLL : LL ≤ 2560) (hG : LSt aC ic de x m o G) (kk : ∀ G1, LSt aC ic de x m o G1 → Y l S0 D (K_L_law nm et) 1300 mc ms Q X 1663 [(0, .ref b), (1, .ref x), (2, .ref m), (3, .ref o), (4, .int i)] [] G1 kc ks) : Y l S0 D (K_L_law nm et) 1300 mc ms Q X 720 [(0, .ref b), (1, .ref x), (2, .ref m), (3, .ref o), (4, .int i)] [] G (kc + 200) (ks + 8000) := by
  obtain ⟨ad, σ, ar, ρ, nv, sv, hX, rfl, hR, rfl, hO, hkn, h6⟩ := hG
  refine y_less (k2 := kc + 0 + 2) (n2 := ks + 0 + 12) (by omega) (by omega) ?_
  refine y_blk 5 (tqL_11 nm et) (z := (726, [(0, .ref b), (1, .ref (ad 1)), (2, .ref (ar 200)), (3, .ref o), (4, .int i)], [.int (i + 1), .ref b, .ref (ad 1)])) rfl ?_
  refine y_sld (tqL_11 nm et) hXs hb rfl (vp_in_add 1 1 rfl (by decide) hi0 hi1 hLL) ?_
  refine y_blk 4 (tqL_11 nm et) (z := (732, [(0, .ref b), (1, .ref (ad 1)), (2, .ref (ar 200)), (3, .ref o), (4, .int i)], [.int (i + 2), .ref b, .int (xs (Int32.toNatClampNeg (i + 1))), .ref (ad 1)])) rfl ?_
  refine y_sld (tqL_11 nm et) hXs hb rfl (vp_in_add 2 2 rfl (by decide) hi0 hi1 hLL) ?_
  refine y_blk 4 (tqL_11 nm et) (z := (738, [(0, .ref b), (1, .ref (ad 1)), (2, .ref (ar 200)), (3, .ref o), (4, .int i)], [.int (i + 3), .ref b, .int (xs (Int32.toNatClampNeg (i + 2))), .int (xs (Int32.toNatClampNeg (i + 1))), .ref (ad 1)])) rfl ?_
  refine y_sld (tqL_11 nm et) hXs hb rfl (vp_in_add 3 3 rfl (by decide) hi0 hi1 hLL) ?_
  refine y_blk 1 (tqL_11 nm et) (z := (740, [(0, .ref b), (1, .ref (ad 1)), (2, .ref (ar 200)), (3, .ref o), (4, .int i)], [.ref o, .int (xs (Int32.toNatClampNeg (i + 3))), .int (xs (Int32.toNatClampNeg (i + 2))), .int (xs (Int32.toNatClampNeg (i + 1))), .ref (ad 1)])) rfl ?_
  refine y_callSWL hS (tqL_11 nm et) (As := [.ref (ad 1), .int (xs (Int32.toNatClampNeg (i + 1))), .int (xs (Int32.toNatClampNeg (i + 2))), .int (xs (Int32.toNatClampNeg (i + 3))), .ref o]) rfl csw_L_175 (m_L_ofCellV hS hX hO (xs (Int32.toNatClampNeg (i + 1))) (xs (Int32.toNatClampNeg (i + 2))) (xs (Int32.toNatClampNeg (i + 3)))) rfl (by decide) (Nat.le_of_ble_eq_true rfl) (fun r1 G1 q1 => ?_)
  obtain ⟨σ1, nv1, sv1, hX1, hO1, kt1, ha1⟩ := q1
  have hv1 : ∃ v1 : Int32, r1 = some (.int v1) := by rcases ha1 with h9 | h9 | h9 <;> exact ⟨_, h9.2.1⟩
  obtain ⟨v1, rfl⟩ := hv1
  have hR1 := hR.lk kt1
  refine y_blk 6 (tqL_11 nm et) (z := (751, [(5, .int v1), (0, .ref b), (1, .ref (ad 1)), (2, .ref (ar 200)), (3, .ref o), (4, .int i)], [.int (i + 1), .ref b, .ref (ar 200)])) rfl ?_
  refine y_sld (tqL_11 nm et) hXs hb rfl (vp_in_add 1 1 rfl (by decide) hi0 hi1 hLL) ?_
  refine y_blk 4 (tqL_11 nm et) (z := (757, [(5, .int v1), (0, .ref b), (1, .ref (ad 1)), (2, .ref (ar 200)), (3, .ref o), (4, .int i)], [.int (i + 2), .ref b, .int (xs (Int32.toNatClampNeg (i + 1))), .ref (ar 200)])) rfl ?_
  refine y_sld (tqL_11 nm et) hXs hb rfl (vp_in_add 2 2 rfl (by decide) hi0 hi1 hLL) ?_
  refine y_blk 4 (tqL_11 nm et) (z := (763, [(5, .int v1), (0, .ref b), (1, .ref (ad 1)), (2, .ref (ar 200)), (3, .ref o), (4, .int i)], [.int (i + 3), .ref b, .int (xs (Int32.toNatClampNeg (i + 2))), .int (xs (Int32.toNatClampNeg (i + 1))), .ref (ar 200)])) rfl ?_
  refine y_sld (tqL_11 nm et) hXs hb rfl (vp_in_add 3 3 rfl (by decide) hi0 hi1 hLL) ?_
  refine y_blk 0 (tqL_11 nm et) (z := (764, [(5, .int v1), (0, .ref b), (1, .ref (ad 1)), (2, .ref (ar 200)), (3, .ref o), (4, .int i)], [.int (xs (Int32.toNatClampNeg (i + 3))), .int (xs (Int32.toNatClampNeg (i + 2))), .int (xs (Int32.toNatClampNeg (i + 1))), .ref (ar 200)])) rfl ?_
  refine y_callVL hS (tqL_11 nm et) (As := [.int (xs (Int32.toNatClampNeg (i + 1))), .int (xs (Int32.toNatClampNeg (i + 2))), .int (xs (Int32.toNatClampNeg (i + 3)))]) rfl cv_L_177 hR1.m (m_X12_ofCell_v hS hI hR1 (xs (Int32.toNatClampNeg (i + 1))) (xs (Int32.toNatClampNeg (i + 2))) (xs (Int32.toNatClampNeg (i + 3)))) rfl (by decide) (Nat.le_of_ble_eq_true rfl) (fun r2 G2 q2 => ?_)
  obtain ⟨⟨v2, rfl⟩, ar2, ρ2, hR2, e2, kt2, ha2⟩ := q2
  have hag := cx_ofCell hR.2 hkn ha1 ha2
  have hX2 := hX1.kp kt2 (fun t _ h9 => Or.inl h9)
  have hO2 := kt2 _ _ _ hO1 (Or.inr (Nat.le_refl _))
  refine y_blk 2 (tqL_11 nm et) (z := (1663, [(6, .int v2), (5, .int v1), (0, .ref b), (1, .ref (ad 1)), (2, .ref (ar 200)), (3, .ref o), (4, .int i)], [])) rfl ?_
  refine y_pick (L2 := [(0, .ref b), (1, .ref (ad 1)), (2, .ref (ar 200)), (3, .ref o), (4, .int i)]) [2, 3, 4, 5, 6] rfl ?_
  exact kk _ ⟨ad, σ1, ar2, ρ2, nv1, sv1, hX2, rfl, hR2, e2, hO2, hag.1, hag.1.A.1⟩
set_option maxHeartbeats 4000000 in
set_option maxRecDepth 100000 in
theorem law_12 (hS : yS l S0 A0 D aC) (hI : yIc S0 ic de) (hXs : va_X b LL xs S0 S0.heap) (hb : b < S0.heap.size) (hi0 : 0 ≤ i.toInt) (hi1 : i.toInt + 5 ≤ (LL : Int)) (hLL : LL ≤ 2560) (hG : LSt aC ic de x m o G) (kk : ∀ G1, LSt aC ic de x m o G1 → Y l S0 D (K_L_law nm et) 1300 mc ms Q X 1663 [(0, .ref b), (1, .ref x), (2, .ref m), (3, .ref o), (4, .int i)] [] G1 kc ks) : Y l S0 D (K_L_law nm et) 1300 mc ms Q X 772 [(0, .ref b), (1, .ref x), (2, .ref m), (3, .ref o), (4, .int i)] [] G (kc + 200) (ks + 8000) := by
  obtain ⟨ad, σ, ar, ρ, nv, sv, hX, rfl, hR, rfl, hO, hkn, h6⟩ := hG
  refine y_less (k2 := kc + 0 + 1) (n2 := ks + 0 + 6) (by omega) (by omega) ?_
  refine y_blk 5 (tqL_12 nm et) (z := (778, [(0, .ref b), (1, .ref (ad 1)), (2, .ref (ar 200)), (3, .ref o), (4, .int i)], [.int (i + 1), .ref b, .ref (ad 1)])) rfl ?_
  refine y_sld (tqL_12 nm et) hXs hb rfl (vp_in_add 1 1 rfl (by decide) hi0 hi1 hLL) ?_
  refine y_blk 4 (tqL_12 nm et) (z := (784, [(0, .ref b), (1, .ref (ad 1)), (2, .ref (ar 200)), (3, .ref o), (4, .int i)], [.int (i + 2), .ref b, .int (xs (Int32.toNatClampNeg (i + 1))), .ref (ad 1)])) rfl ?_
  refine y_sld (tqL_12 nm et) hXs hb rfl (vp_in_add 2 2 rfl (by decide) hi0 hi1 hLL) ?_
  refine y_blk 1 (tqL_12 nm et) (z := (786, [(0, .ref b), (1, .ref (ad 1)), (2, .ref (ar 200)), (3, .ref o), (4, .int i)], [.ref o, .int (xs (Int32.toNatClampNeg (i + 2))), .int (xs (Int32.toNatClampNeg (i + 1))), .ref (ad 1)])) rfl ?_
  refine y_callSWL hS (tqL_12 nm et) (As := [.ref (ad 1), .int (xs (Int32.toNatClampNeg (i + 1))), .int (xs (Int32.toNatClampNeg (i + 2))), .ref o]) rfl csw_L_178 (m_L_ofMinuteV hS hX hO (xs (Int32.toNatClampNeg (i + 1))) (xs (Int32.toNatClampNeg (i + 2)))) rfl (by decide) (Nat.le_of_ble_eq_true rfl) (fun r1 G1 q1 => ?_)
  obtain ⟨σ1, nv1, sv1, hX1, hO1, kt1, ha1⟩ := q1
  have hv1 : ∃ v1 : Int32, r1 = some (.int v1) := by rcases ha1 with h9 | h9 <;> exact ⟨_, h9.2.1⟩
  obtain ⟨v1, rfl⟩ := hv1
  have hR1 := hR.lk kt1
  refine y_blk 6 (tqL_12 nm et) (z := (797, [(5, .int v1), (0, .ref b), (1, .ref (ad 1)), (2, .ref (ar 200)), (3, .ref o), (4, .int i)], [.int (i + 1), .ref b, .ref (ar 200)])) rfl ?_
  refine y_sld (tqL_12 nm et) hXs hb rfl (vp_in_add 1 1 rfl (by decide) hi0 hi1 hLL) ?_
  refine y_blk 4 (tqL_12 nm et) (z := (803, [(5, .int v1), (0, .ref b), (1, .ref (ad 1)), (2, .ref (ar 200)), (3, .ref o), (4, .int i)], [.int (i + 2), .ref b, .int (xs (Int32.toNatClampNeg (i + 1))), .ref (ar 200)])) rfl ?_
  refine y_sld (tqL_12 nm et) hXs hb rfl (vp_in_add 2 2 rfl (by decide) hi0 hi1 hLL) ?_
  refine y_blk 0 (tqL_12 nm et) (z := (804, [(5, .int v1), (0, .ref b), (1, .ref (ad 1)), (2, .ref (ar 200)), (3, .ref o), (4, .int i)], [.int (xs (Int32.toNatClampNeg (i + 2))), .int (xs (Int32.toNatClampNeg (i + 1))), .ref (ar 200)])) rfl ?_
  refine y_callVL hS (tqL_12 nm et) (As := [.int (xs (Int32.toNatClampNeg (i + 1))), .int (xs (Int32.toNatClampNeg (i + 2)))]) rfl cv_L_180 hR1.m (m_X12_ofMinute_v hS hI hR1 (xs (Int32.toNatClampNeg (i + 1))) (xs (Int32.toNatClampNeg (i + 2)))) rfl (by decide) (Nat.le_of_ble_eq_true rfl) (fun r2 G2 q2 => ?_)
  obtain ⟨⟨v2, rfl⟩, ar2, ρ2, hR2, e2, kt2, ha2⟩ := q2
  have hag := cx_ofMinute hR.2 hkn ha1 ha2
  have hX2 := hX1.kp kt2 (fun t _ h9 => Or.inl h9)
  have hO2 := kt2 _ _ _ hO1 (Or.inr (Nat.le_refl _))
  refine y_blk 2 (tqL_12 nm et) (z := (1663, [(6, .int v2), (5, .int v1), (0, .ref b), (1, .ref (ad 1)), (2, .ref (ar 200)), (3, .ref o), (4, .int i)], [])) rfl ?_
  refine y_pick (L2 := [(0, .ref b), (1, .ref (ad 1)), (2, .ref (ar 200)), (3, .ref o), (4, .int i)]) [2, 3, 4, 5, 6] rfl ?_
  exact kk _ ⟨ad, σ1, ar2, ρ2, nv1, sv1, hX2, rfl, hR2, e2, hO2, hag.1, hag.1.A.1⟩
set_option maxHeartbeats 4000000 in
set_option maxRecDepth 100000 in
theorem law_13 (hS : yS l S0 A0 D aC) (hI : yIc S0 ic de) (hXs : va_X b LL xs S0 S0.heap) (hb : b < S0.heap.size) (hi0 : 0 ≤ i.toInt) (hi1 : i.toInt + 5 ≤ (LL : Int)) (hLL : LL ≤ 2560) (hG : LSt aC ic de x m o G) (kk : ∀ G1, LSt aC ic de x m o G1 → Y l S0 D (K_L_law nm et) 1300 mc ms Q X 1663 [(0, .ref b), (1, .ref x), (2, .ref m), (3, .ref o), (4, .int i)] [] G1 kc ks) : Y l S0 D (K_L_law nm et) 1300 mc ms Q X 812 [(0, .ref b), (1, .ref x), (2, .ref m), (3, .ref o), (4, .int i)] [] G (kc + 200) (ks + 8000) := by
  obtain ⟨ad, σ, ar, ρ, nv, sv, hX, rfl, hR, rfl, hO, hkn, h6⟩ := hG
  refine y_less (k2 := kc + 0 + 1) (n2 := ks + 0 + 6) (by omega) (by omega) ?_
  refine y_blk 5 (tqL_13 nm et) (z := (818, [(0, .ref b), (1, .ref (ad 1)), (2, .ref (ar 200)), (3, .ref o), (4, .int i)], [.int (i + 1), .ref b, .ref (ad 1)])) rfl ?_
  refine y_sld (tqL_13 nm et) hXs hb rfl (vp_in_add 1 1 rfl (by decide) hi0 hi1 hLL) ?_
  refine y_blk 4 (tqL_13 nm et) (z := (824, [(0, .ref b), (1, .ref (ad 1)), (2, .ref (ar 200)), (3, .ref o), (4, .int i)], [.int (i + 2), .ref b, .int (xs (Int32.toNatClampNeg (i + 1))), .ref (ad 1)])) rfl ?_
  refine y_sld (tqL_13 nm et) hXs hb rfl (vp_in_add 2 2 rfl (by decide) hi0 hi1 hLL) ?_
  refine y_blk 0 (tqL_13 nm et) (z := (825, [(0, .ref b), (1, .ref (ad 1)), (2, .ref (ar 200)), (3, .ref o), (4, .int i)], [.int (xs (Int32.toNatClampNeg (i + 2))), .int (xs (Int32.toNatClampNeg (i + 1))), .ref (ad 1)])) rfl ?_
  refine y_if_eq (tqL_13 nm et) 832 rfl rfl (fun c1 => ?_) (fun c1 => ?_)
  · skip
    refine y_blk 2 (tqL_13 nm et) (z := (834, [(0, .ref b), (1, .ref (ad 1)), (2, .ref (ar 200)), (3, .ref o), (4, .int i)], [.ref o, .int 0, .int (xs (Int32.toNatClampNeg (i + 1))), .ref (ad 1)])) rfl ?_
    refine y_callSWL hS (tqL_13 nm et) (As := [.ref (ad 1), .int (xs (Int32.toNatClampNeg (i + 1))), .int 0, .ref o]) rfl csw_L_181 (m_L_emptyV hS hX hO (xs (Int32.toNatClampNeg (i + 1))) 0) rfl (by decide) (Nat.le_of_ble_eq_true rfl) (fun r1 G1 q1 => ?_)
    obtain ⟨σ1, nv1, sv1, hX1, hO1, kt1, ha1⟩ := q1
    have hv1 : ∃ v1 : Int32, r1 = some (.int v1) := by rcases ha1 with h9 | h9 <;> exact ⟨_, h9.2.1⟩
    obtain ⟨v1, rfl⟩ := hv1
    have hR1 := hR.lk kt1
    refine y_blk 6 (tqL_13 nm et) (z := (845, [(5, .int v1), (0, .ref b), (1, .ref (ad 1)), (2, .ref (ar 200)), (3, .ref o), (4, .int i)], [.int (i + 1), .ref b, .ref (ar 200)])) rfl ?_
    refine y_sld (tqL_13 nm et) hXs hb rfl (vp_in_add 1 1 rfl (by decide) hi0 hi1 hLL) ?_
    refine y_blk 4 (tqL_13 nm et) (z := (851, [(5, .int v1), (0, .ref b), (1, .ref (ad 1)), (2, .ref (ar 200)), (3, .ref o), (4, .int i)], [.int (i + 2), .ref b, .int (xs (Int32.toNatClampNeg (i + 1))), .ref (ar 200)])) rfl ?_
    refine y_sld (tqL_13 nm et) hXs hb rfl (vp_in_add 2 2 rfl (by decide) hi0 hi1 hLL) ?_
    refine y_blk 0 (tqL_13 nm et) (z := (852, [(5, .int v1), (0, .ref b), (1, .ref (ad 1)), (2, .ref (ar 200)), (3, .ref o), (4, .int i)], [.int (xs (Int32.toNatClampNeg (i + 2))), .int (xs (Int32.toNatClampNeg (i + 1))), .ref (ar 200)])) rfl ?_
    refine y_if_eq (tqL_13 nm et) 859 rfl rfl (fun c2 => ?_) (fun c2 => ?_)
    · skip
      refine y_blk 1 (tqL_13 nm et) (z := (860, [(5, .int v1), (0, .ref b), (1, .ref (ad 1)), (2, .ref (ar 200)), (3, .ref o), (4, .int i)], [.int 0, .int (xs (Int32.toNatClampNeg (i + 1))), .ref (ar 200)])) rfl ?_
      refine y_callVL hS (tqL_13 nm et) (As := [.int (xs (Int32.toNatClampNeg (i + 1))), .int 0]) rfl cv_L_183 hR1.m (m_X12_empty_v hS hI hR1 (xs (Int32.toNatClampNeg (i + 1))) 0) rfl (by decide) (Nat.le_of_ble_eq_true rfl) (fun r2 G2 q2 => ?_)
      obtain ⟨⟨v2, rfl⟩, ar2, ρ2, hR2, e2, kt2, ha2⟩ := q2
      have hag := cx_empty hR.2 hkn ha1 ha2
      have hX2 := hX1.kp kt2 (fun t _ h9 => Or.inl h9)
      have hO2 := kt2 _ _ _ hO1 (Or.inr (Nat.le_refl _))
      refine y_blk 2 (tqL_13 nm et) (z := (1663, [(6, .int v2), (5, .int v1), (0, .ref b), (1, .ref (ad 1)), (2, .ref (ar 200)), (3, .ref o), (4, .int i)], [])) rfl ?_
      refine y_pick (L2 := [(0, .ref b), (1, .ref (ad 1)), (2, .ref (ar 200)), (3, .ref o), (4, .int i)]) [2, 3, 4, 5, 6] rfl ?_
      exact kk _ ⟨ad, σ1, ar2, ρ2, nv1, sv1, hX2, rfl, hR2, e2, hO2, hag.1, hag.1.A.1⟩
    · exact absurd c1 c2
  · skip
    refine y_blk 3 (tqL_13 nm et) (z := (834, [(0, .ref b), (1, .ref (ad 1)), (2, .ref (ar 200)), (3, .ref o), (4, .int i)], [.ref o, .int 1, .int (xs (Int32.toNatClampNeg (i + 1))), .ref (ad 1)])) rfl ?_
    refine y_callSWL hS (tqL_13 nm et) (As := [.ref (ad 1), .int (xs (Int32.toNatClampNeg (i + 1))), .int 1, .ref o]) rfl csw_L_181 (m_L_emptyV hS hX hO (xs (Int32.toNatClampNeg (i + 1))) 1) rfl (by decide) (Nat.le_of_ble_eq_true rfl) (fun r1 G1 q1 => ?_)
    obtain ⟨σ1, nv1, sv1, hX1, hO1, kt1, ha1⟩ := q1
    have hv1 : ∃ v1 : Int32, r1 = some (.int v1) := by rcases ha1 with h9 | h9 <;> exact ⟨_, h9.2.1⟩
    obtain ⟨v1, rfl⟩ := hv1
    have hR1 := hR.lk kt1
    refine y_blk 6 (tqL_13 nm et) (z := (845, [(5, .int v1), (0, .ref b), (1, .ref (ad 1)), (2, .ref (ar 200)), (3, .ref o), (4, .int i)], [.int (i + 1), .ref b, .ref (ar 200)])) rfl ?_
    refine y_sld (tqL_13 nm et) hXs hb rfl (vp_in_add 1 1 rfl (by decide) hi0 hi1 hLL) ?_
    refine y_blk 4 (tqL_13 nm et) (z := (851, [(5, .int v1), (0, .ref b), (1, .ref (ad 1)), (2, .ref (ar 200)), (3, .ref o), (4, .int i)], [.int (i + 2), .ref b, .int (xs (Int32.toNatClampNeg (i + 1))), .ref (ar 200)])) rfl ?_
    refine y_sld (tqL_13 nm et) hXs hb rfl (vp_in_add 2 2 rfl (by decide) hi0 hi1 hLL) ?_
    refine y_blk 0 (tqL_13 nm et) (z := (852, [(5, .int v1), (0, .ref b), (1, .ref (ad 1)), (2, .ref (ar 200)), (3, .ref o), (4, .int i)], [.int (xs (Int32.toNatClampNeg (i + 2))), .int (xs (Int32.toNatClampNeg (i + 1))), .ref (ar 200)])) rfl ?_
    refine y_if_eq (tqL_13 nm et) 859 rfl rfl (fun c2 => ?_) (fun c2 => ?_)
    · exact absurd c2 c1
    · skip
      refine y_blk 2 (tqL_13 nm et) (z := (860, [(5, .int v1), (0, .ref b), (1, .ref (ad 1)), (2, .ref (ar 200)), (3, .ref o), (4, .int i)], [.int 1, .int (xs (Int32.toNatClampNeg (i + 1))), .ref (ar 200)])) rfl ?_
      refine y_callVL hS (tqL_13 nm et) (As := [.int (xs (Int32.toNatClampNeg (i + 1))), .int 1]) rfl cv_L_183 hR1.m (m_X12_empty_v hS hI hR1 (xs (Int32.toNatClampNeg (i + 1))) 1) rfl (by decide) (Nat.le_of_ble_eq_true rfl) (fun r2 G2 q2 => ?_)
      obtain ⟨⟨v2, rfl⟩, ar2, ρ2, hR2, e2, kt2, ha2⟩ := q2
      have hag := cx_empty hR.2 hkn ha1 ha2
      have hX2 := hX1.kp kt2 (fun t _ h9 => Or.inl h9)
      have hO2 := kt2 _ _ _ hO1 (Or.inr (Nat.le_refl _))
      refine y_blk 2 (tqL_13 nm et) (z := (1663, [(6, .int v2), (5, .int v1), (0, .ref b), (1, .ref (ad 1)), (2, .ref (ar 200)), (3, .ref o), (4, .int i)], [])) rfl ?_
      refine y_pick (L2 := [(0, .ref b), (1, .ref (ad 1)), (2, .ref (ar 200)), (3, .ref o), (4, .int i)]) [2, 3, 4, 5, 6] rfl ?_
      exact kk _ ⟨ad, σ1, ar2, ρ2, nv1, sv1, hX2, rfl, hR2, e2, hO2, hag.1, hag.1.A.1⟩
set_option maxHeartbeats 4000000 in
set_option maxRecDepth 100000 in
theorem law_14 (hS : yS l S0 A0 D aC) (hI : yIc S0 ic de) (hXs : va_X b LL xs S0 S0.heap) (hb : b < S0.heap.size) (hi0 : 0 ≤ i.toInt) (hi1 : i.toInt + 5 ≤ (LL : Int)) (hLL : LL ≤ 2560) (hG : LSt aC ic de x m o G) (kk : ∀ G1, LSt aC ic de x m o G1 → Y l S0 D (K_L_law nm et) 1300 mc ms Q X 1663 [(0, .ref b), (1, .ref x), (2, .ref m), (3, .ref o), (4, .int i)] [] G1 kc ks) : Y l S0 D (K_L_law nm et) 1300 mc ms Q X 868 [(0, .ref b), (1, .ref x), (2, .ref m), (3, .ref o), (4, .int i)] [] G (kc + 200) (ks + 8000) := by
  obtain ⟨ad, σ, ar, ρ, nv, sv, hX, rfl, hR, rfl, hO, hkn, h6⟩ := hG
  refine y_less (k2 := kc + 0 + 2) (n2 := ks + 0 + 12) (by omega) (by omega) ?_
  refine y_blk 5 (tqL_14 nm et) (z := (874, [(0, .ref b), (1, .ref (ad 1)), (2, .ref (ar 200)), (3, .ref o), (4, .int i)], [.int (i + 1), .ref b, .ref (ad 1)])) rfl ?_
  refine y_sld (tqL_14 nm et) hXs hb rfl (vp_in_add 1 1 rfl (by decide) hi0 hi1 hLL) ?_
  refine y_blk 4 (tqL_14 nm et) (z := (880, [(0, .ref b), (1, .ref (ad 1)), (2, .ref (ar 200)), (3, .ref o), (4, .int i)], [.int (i + 2), .ref b, .int (xs (Int32.toNatClampNeg (i + 1))), .ref (ad 1)])) rfl ?_
  refine y_sld (tqL_14 nm et) hXs hb rfl (vp_in_add 2 2 rfl (by decide) hi0 hi1 hLL) ?_
  refine y_blk 4 (tqL_14 nm et) (z := (886, [(0, .ref b), (1, .ref (ad 1)), (2, .ref (ar 200)), (3, .ref o), (4, .int i)], [.int (i + 3), .ref b, .int (xs (Int32.toNatClampNeg (i + 2))), .int (xs (Int32.toNatClampNeg (i + 1))), .ref (ad 1)])) rfl ?_
  refine y_sld (tqL_14 nm et) hXs hb rfl (vp_in_add 3 3 rfl (by decide) hi0 hi1 hLL) ?_
  refine y_blk 1 (tqL_14 nm et) (z := (888, [(0, .ref b), (1, .ref (ad 1)), (2, .ref (ar 200)), (3, .ref o), (4, .int i)], [.ref o, .int (xs (Int32.toNatClampNeg (i + 3))), .int (xs (Int32.toNatClampNeg (i + 2))), .int (xs (Int32.toNatClampNeg (i + 1))), .ref (ad 1)])) rfl ?_
  refine y_callSWL hS (tqL_14 nm et) (As := [.ref (ad 1), .int (xs (Int32.toNatClampNeg (i + 1))), .int (xs (Int32.toNatClampNeg (i + 2))), .int (xs (Int32.toNatClampNeg (i + 3))), .ref o]) rfl csw_L_184 (m_L_lapseV hS hX hO (xs (Int32.toNatClampNeg (i + 1))) (xs (Int32.toNatClampNeg (i + 2))) (xs (Int32.toNatClampNeg (i + 3)))) rfl (by decide) (Nat.le_of_ble_eq_true rfl) (fun r1 G1 q1 => ?_)
  obtain ⟨σ1, nv1, sv1, hX1, hO1, kt1, ha1⟩ := q1
  have hv1 : ∃ v1 : Int32, r1 = some (.int v1) := by rcases ha1 with h9 | h9 | h9 <;> exact ⟨_, h9.2.1⟩
  obtain ⟨v1, rfl⟩ := hv1
  have hR1 := hR.lk kt1
  refine y_blk 6 (tqL_14 nm et) (z := (899, [(5, .int v1), (0, .ref b), (1, .ref (ad 1)), (2, .ref (ar 200)), (3, .ref o), (4, .int i)], [.int (i + 1), .ref b, .ref (ar 200)])) rfl ?_
  refine y_sld (tqL_14 nm et) hXs hb rfl (vp_in_add 1 1 rfl (by decide) hi0 hi1 hLL) ?_
  refine y_blk 4 (tqL_14 nm et) (z := (905, [(5, .int v1), (0, .ref b), (1, .ref (ad 1)), (2, .ref (ar 200)), (3, .ref o), (4, .int i)], [.int (i + 2), .ref b, .int (xs (Int32.toNatClampNeg (i + 1))), .ref (ar 200)])) rfl ?_
  refine y_sld (tqL_14 nm et) hXs hb rfl (vp_in_add 2 2 rfl (by decide) hi0 hi1 hLL) ?_
  refine y_blk 4 (tqL_14 nm et) (z := (911, [(5, .int v1), (0, .ref b), (1, .ref (ad 1)), (2, .ref (ar 200)), (3, .ref o), (4, .int i)], [.int (i + 3), .ref b, .int (xs (Int32.toNatClampNeg (i + 2))), .int (xs (Int32.toNatClampNeg (i + 1))), .ref (ar 200)])) rfl ?_
  refine y_sld (tqL_14 nm et) hXs hb rfl (vp_in_add 3 3 rfl (by decide) hi0 hi1 hLL) ?_
  refine y_blk 0 (tqL_14 nm et) (z := (912, [(5, .int v1), (0, .ref b), (1, .ref (ad 1)), (2, .ref (ar 200)), (3, .ref o), (4, .int i)], [.int (xs (Int32.toNatClampNeg (i + 3))), .int (xs (Int32.toNatClampNeg (i + 2))), .int (xs (Int32.toNatClampNeg (i + 1))), .ref (ar 200)])) rfl ?_
  refine y_callVL hS (tqL_14 nm et) (As := [.int (xs (Int32.toNatClampNeg (i + 1))), .int (xs (Int32.toNatClampNeg (i + 2))), .int (xs (Int32.toNatClampNeg (i + 3)))]) rfl cv_L_186 hR1.m (m_X12_lapse_v hS hI hR1 (xs (Int32.toNatClampNeg (i + 1))) (xs (Int32.toNatClampNeg (i + 2))) (xs (Int32.toNatClampNeg (i + 3)))) rfl (by decide) (Nat.le_of_ble_eq_true rfl) (fun r2 G2 q2 => ?_)
  obtain ⟨⟨v2, rfl⟩, ar2, ρ2, hR2, e2, kt2, ha2⟩ := q2
  have hag := cx_lapse hR.2 hkn ha1 ha2
  have hX2 := hX1.kp kt2 (fun t _ h9 => Or.inl h9)
  have hO2 := kt2 _ _ _ hO1 (Or.inr (Nat.le_refl _))
  refine y_blk 2 (tqL_14 nm et) (z := (1663, [(6, .int v2), (5, .int v1), (0, .ref b), (1, .ref (ad 1)), (2, .ref (ar 200)), (3, .ref o), (4, .int i)], [])) rfl ?_
  refine y_pick (L2 := [(0, .ref b), (1, .ref (ad 1)), (2, .ref (ar 200)), (3, .ref o), (4, .int i)]) [2, 3, 4, 5, 6] rfl ?_
  exact kk _ ⟨ad, σ1, ar2, ρ2, nv1, sv1, hX2, rfl, hR2, e2, hO2, hag.1, hag.1.A.1⟩
set_option maxHeartbeats 4000000 in
set_option maxRecDepth 100000 in
theorem law_15 (hS : yS l S0 A0 D aC) (hI : yIc S0 ic de) (hXs : va_X b LL xs S0 S0.heap) (hb : b < S0.heap.size) (hi0 : 0 ≤ i.toInt) (hi1 : i.toInt + 5 ≤ (LL : Int)) (hLL : LL ≤ 2560) (hG : LSt aC ic de x m o G) (kk : ∀ G1, LSt aC ic de x m o G1 → Y l S0 D (K_L_law nm et) 1300 mc ms Q X 1663 [(0, .ref b), (1, .ref x), (2, .ref m), (3, .ref o), (4, .int i)] [] G1 kc ks) : Y l S0 D (K_L_law nm et) 1300 mc ms Q X 920 [(0, .ref b), (1, .ref x), (2, .ref m), (3, .ref o), (4, .int i)] [] G (kc + 200) (ks + 8000) := by
  obtain ⟨ad, σ, ar, ρ, nv, sv, hX, rfl, hR, rfl, hO, hkn, h6⟩ := hG
  refine y_less (k2 := kc + 1 + 1) (n2 := ks + 3 + 6) (by omega) (by omega) ?_
  refine y_blk 5 (tqL_15 nm et) (z := (926, [(0, .ref b), (1, .ref (ad 1)), (2, .ref (ar 200)), (3, .ref o), (4, .int i)], [.int (i + 1), .ref b, .ref (ad 1)])) rfl ?_
  refine y_sld (tqL_15 nm et) hXs hb rfl (vp_in_add 1 1 rfl (by decide) hi0 hi1 hLL) ?_
  refine y_blk 1 (tqL_15 nm et) (z := (928, [(0, .ref b), (1, .ref (ad 1)), (2, .ref (ar 200)), (3, .ref o), (4, .int i)], [.ref o, .int (xs (Int32.toNatClampNeg (i + 1))), .ref (ad 1)])) rfl ?_
  refine y_callSWL hS (tqL_15 nm et) (As := [.ref (ad 1), .int (xs (Int32.toNatClampNeg (i + 1))), .ref o]) rfl csw_L_187 (m_L_wordsV hS hX hO (xs (Int32.toNatClampNeg (i + 1)))) rfl (by decide) (Nat.le_of_ble_eq_true rfl) (fun r1 G1 q1 => ?_)
  obtain ⟨σ1, nv1, sv1, hX1, hO1, kt1, ha1⟩ := q1
  have hv1 : ∃ v1 : Int32, r1 = some (.int v1) := by rcases ha1 with h9 | h9 <;> exact ⟨_, h9.2.1⟩
  obtain ⟨v1, rfl⟩ := hv1
  have hR1 := hR.lk kt1
  refine y_blk 6 (tqL_15 nm et) (z := (939, [(5, .int v1), (0, .ref b), (1, .ref (ad 1)), (2, .ref (ar 200)), (3, .ref o), (4, .int i)], [.int (i + 1), .ref b, .ref (ar 200)])) rfl ?_
  refine y_sld (tqL_15 nm et) hXs hb rfl (vp_in_add 1 1 rfl (by decide) hi0 hi1 hLL) ?_
  refine y_blk 0 (tqL_15 nm et) (z := (940, [(5, .int v1), (0, .ref b), (1, .ref (ad 1)), (2, .ref (ar 200)), (3, .ref o), (4, .int i)], [.int (xs (Int32.toNatClampNeg (i + 1))), .ref (ar 200)])) rfl ?_
  refine y_callVL hS (tqL_15 nm et) (As := [.int (xs (Int32.toNatClampNeg (i + 1)))]) rfl cv_L_189 hR1.m (m_X12_words hS hI hR1 (xs (Int32.toNatClampNeg (i + 1)))) rfl (by decide) (Nat.le_of_ble_eq_true rfl) (fun r2 G2 q2 => ?_)
  obtain ⟨⟨v2, rfl⟩, ar2, ρ2, hR2, e2, kt2, ha2⟩ := q2
  have hag := cx_words hR.2 hkn ha1 ha2
  have hX2 := hX1.kp kt2 (fun t _ h9 => Or.inl h9)
  have hO2 := kt2 _ _ _ hO1 (Or.inr (Nat.le_refl _))
  refine y_blk 2 (tqL_15 nm et) (z := (1663, [(6, .int v2), (5, .int v1), (0, .ref b), (1, .ref (ad 1)), (2, .ref (ar 200)), (3, .ref o), (4, .int i)], [])) rfl ?_
  refine y_pick (L2 := [(0, .ref b), (1, .ref (ad 1)), (2, .ref (ar 200)), (3, .ref o), (4, .int i)]) [2, 3, 4, 5, 6] rfl ?_
  exact kk _ ⟨ad, σ1, ar2, ρ2, nv1, sv1, hX2, rfl, hR2, e2, hO2, hag.1, hag.1.A.1⟩
set_option maxHeartbeats 4000000 in
set_option maxRecDepth 100000 in
theorem law_16 (hS : yS l S0 A0 D aC) (hI : yIc S0 ic de) (hXs : va_X b LL xs S0 S0.heap) (hb : b < S0.heap.size) (hi0 : 0 ≤ i.toInt) (hi1 : i.toInt + 5 ≤ (LL : Int)) (hLL : LL ≤ 2560) (hG : LSt aC ic de x m o G) (kk : ∀ G1, LSt aC ic de x m o G1 → Y l S0 D (K_L_law nm et) 1300 mc ms Q X 1663 [(0, .ref b), (1, .ref x), (2, .ref m), (3, .ref o), (4, .int i)] [] G1 kc ks) : Y l S0 D (K_L_law nm et) 1300 mc ms Q X 948 [(0, .ref b), (1, .ref x), (2, .ref m), (3, .ref o), (4, .int i)] [] G (kc + 200) (ks + 8000) := by
  obtain ⟨ad, σ, ar, ρ, nv, sv, hX, rfl, hR, rfl, hO, hkn, h6⟩ := hG
  refine y_less (k2 := kc + 1 + 2) (n2 := ks + 10 + 12) (by omega) (by omega) ?_
  refine y_blk 5 (tqL_16 nm et) (z := (954, [(0, .ref b), (1, .ref (ad 1)), (2, .ref (ar 200)), (3, .ref o), (4, .int i)], [.int (i + 1), .ref b, .ref (ad 1)])) rfl ?_
  refine y_sld (tqL_16 nm et) hXs hb rfl (vp_in_add 1 1 rfl (by decide) hi0 hi1 hLL) ?_
  refine y_blk 1 (tqL_16 nm et) (z := (956, [(0, .ref b), (1, .ref (ad 1)), (2, .ref (ar 200)), (3, .ref o), (4, .int i)], [.ref o, .int (xs (Int32.toNatClampNeg (i + 1))), .ref (ad 1)])) rfl ?_
  refine y_callSWL hS (tqL_16 nm et) (As := [.ref (ad 1), .int (xs (Int32.toNatClampNeg (i + 1))), .ref o]) rfl csw_L_190 (m_L_leakV hS hX hO (xs (Int32.toNatClampNeg (i + 1)))) rfl (by decide) (Nat.le_of_ble_eq_true rfl) (fun r1 G1 q1 => ?_)
  obtain ⟨σ1, nv1, sv1, hX1, hO1, kt1, ha1⟩ := q1
  have hv1 : ∃ v1 : Int32, r1 = some (.int v1) := by rcases ha1 with h9 | h9 | h9 <;> exact ⟨_, h9.2.1⟩
  obtain ⟨v1, rfl⟩ := hv1
  have hR1 := hR.lk kt1
  refine y_blk 6 (tqL_16 nm et) (z := (967, [(5, .int v1), (0, .ref b), (1, .ref (ad 1)), (2, .ref (ar 200)), (3, .ref o), (4, .int i)], [.int (i + 1), .ref b, .ref (ar 200)])) rfl ?_
  refine y_sld (tqL_16 nm et) hXs hb rfl (vp_in_add 1 1 rfl (by decide) hi0 hi1 hLL) ?_
  refine y_blk 0 (tqL_16 nm et) (z := (968, [(5, .int v1), (0, .ref b), (1, .ref (ad 1)), (2, .ref (ar 200)), (3, .ref o), (4, .int i)], [.int (xs (Int32.toNatClampNeg (i + 1))), .ref (ar 200)])) rfl ?_
  refine y_callVL hS (tqL_16 nm et) (As := [.int (xs (Int32.toNatClampNeg (i + 1)))]) rfl cv_L_192 hR1.m (m_X12_leak hS hI hR1 (xs (Int32.toNatClampNeg (i + 1)))) rfl (by decide) (Nat.le_of_ble_eq_true rfl) (fun r2 G2 q2 => ?_)
  obtain ⟨⟨v2, rfl⟩, ar2, ρ2, hR2, e2, kt2, ha2⟩ := q2
  have hag := cx_leak hR.2 hX.2 hkn ha1 ha2
  have hX2 := hX1.kp kt2 (fun t _ h9 => Or.inl h9)
  have hO2 := kt2 _ _ _ hO1 (Or.inr (Nat.le_refl _))
  refine y_blk 2 (tqL_16 nm et) (z := (1663, [(6, .int v2), (5, .int v1), (0, .ref b), (1, .ref (ad 1)), (2, .ref (ar 200)), (3, .ref o), (4, .int i)], [])) rfl ?_
  refine y_pick (L2 := [(0, .ref b), (1, .ref (ad 1)), (2, .ref (ar 200)), (3, .ref o), (4, .int i)]) [2, 3, 4, 5, 6] rfl ?_
  exact kk _ ⟨ad, σ1, ar2, ρ2, nv1, sv1, hX2, rfl, hR2, e2, hO2, hag.1, hag.1.A.1⟩
set_option maxHeartbeats 4000000 in
set_option maxRecDepth 100000 in
theorem law_17 (hS : yS l S0 A0 D aC) (hI : yIc S0 ic de) (hXs : va_X b LL xs S0 S0.heap) (hb : b < S0.heap.size) (hi0 : 0 ≤ i.toInt) (hi1 : i.toInt + 5 ≤ (LL : Int)) (hLL : LL ≤ 2560) (hG : LSt aC ic de x m o G) (kk : ∀ G1, LSt aC ic de x m o G1 → Y l S0 D (K_L_law nm et) 1300 mc ms Q X 1663 [(0, .ref b), (1, .ref x), (2, .ref m), (3, .ref o), (4, .int i)] [] G1 kc ks) : Y l S0 D (K_L_law nm et) 1300 mc ms Q X 976 [(0, .ref b), (1, .ref x), (2, .ref m), (3, .ref o), (4, .int i)] [] G (kc + 200) (ks + 8000) := by
  obtain ⟨ad, σ, ar, ρ, nv, sv, hX, rfl, hR, rfl, hO, hkn, h6⟩ := hG
  refine y_less (k2 := kc + 0 + 2) (n2 := ks + 0 + 12) (by omega) (by omega) ?_
  refine y_blk 5 (tqL_17 nm et) (z := (982, [(0, .ref b), (1, .ref (ad 1)), (2, .ref (ar 200)), (3, .ref o), (4, .int i)], [.int (i + 1), .ref b, .ref (ad 1)])) rfl ?_
  refine y_sld (tqL_17 nm et) hXs hb rfl (vp_in_add 1 1 rfl (by decide) hi0 hi1 hLL) ?_
  refine y_blk 4 (tqL_17 nm et) (z := (988, [(0, .ref b), (1, .ref (ad 1)), (2, .ref (ar 200)), (3, .ref o), (4, .int i)], [.int (i + 2), .ref b, .int (xs (Int32.toNatClampNeg (i + 1))), .ref (ad 1)])) rfl ?_
  refine y_sld (tqL_17 nm et) hXs hb rfl (vp_in_add 2 2 rfl (by decide) hi0 hi1 hLL) ?_
  refine y_blk 4 (tqL_17 nm et) (z := (994, [(0, .ref b), (1, .ref (ad 1)), (2, .ref (ar 200)), (3, .ref o), (4, .int i)], [.int (i + 3), .ref b, .int (xs (Int32.toNatClampNeg (i + 2))), .int (xs (Int32.toNatClampNeg (i + 1))), .ref (ad 1)])) rfl ?_
  refine y_sld (tqL_17 nm et) hXs hb rfl (vp_in_add 3 3 rfl (by decide) hi0 hi1 hLL) ?_
  refine y_blk 1 (tqL_17 nm et) (z := (996, [(0, .ref b), (1, .ref (ad 1)), (2, .ref (ar 200)), (3, .ref o), (4, .int i)], [.ref o, .int (xs (Int32.toNatClampNeg (i + 3))), .int (xs (Int32.toNatClampNeg (i + 2))), .int (xs (Int32.toNatClampNeg (i + 1))), .ref (ad 1)])) rfl ?_
  refine y_callSWL hS (tqL_17 nm et) (As := [.ref (ad 1), .int (xs (Int32.toNatClampNeg (i + 1))), .int (xs (Int32.toNatClampNeg (i + 2))), .int (xs (Int32.toNatClampNeg (i + 3))), .ref o]) rfl csw_L_193 (m_L_answer hS hX hO (xs (Int32.toNatClampNeg (i + 1))) (xs (Int32.toNatClampNeg (i + 2))) (xs (Int32.toNatClampNeg (i + 3)))) rfl (by decide) (Nat.le_of_ble_eq_true rfl) (fun r1 G1 q1 => ?_)
  obtain ⟨⟨v1, rfl⟩, σ1, nv1, sv1, hX1, hkn1, hO1, kt1⟩ := q1
  have hR1 := hR.lk kt1
  refine y_blk 6 (tqL_17 nm et) (z := (1007, [(5, .int v1), (0, .ref b), (1, .ref (ad 1)), (2, .ref (ar 200)), (3, .ref o), (4, .int i)], [.int (i + 1), .ref b, .ref (ar 200)])) rfl ?_
  refine y_sld (tqL_17 nm et) hXs hb rfl (vp_in_add 1 1 rfl (by decide) hi0 hi1 hLL) ?_
  refine y_blk 4 (tqL_17 nm et) (z := (1013, [(5, .int v1), (0, .ref b), (1, .ref (ad 1)), (2, .ref (ar 200)), (3, .ref o), (4, .int i)], [.int (i + 2), .ref b, .int (xs (Int32.toNatClampNeg (i + 1))), .ref (ar 200)])) rfl ?_
  refine y_sld (tqL_17 nm et) hXs hb rfl (vp_in_add 2 2 rfl (by decide) hi0 hi1 hLL) ?_
  refine y_blk 4 (tqL_17 nm et) (z := (1019, [(5, .int v1), (0, .ref b), (1, .ref (ad 1)), (2, .ref (ar 200)), (3, .ref o), (4, .int i)], [.int (i + 3), .ref b, .int (xs (Int32.toNatClampNeg (i + 2))), .int (xs (Int32.toNatClampNeg (i + 1))), .ref (ar 200)])) rfl ?_
  refine y_sld (tqL_17 nm et) hXs hb rfl (vp_in_add 3 3 rfl (by decide) hi0 hi1 hLL) ?_
  refine y_blk 0 (tqL_17 nm et) (z := (1020, [(5, .int v1), (0, .ref b), (1, .ref (ad 1)), (2, .ref (ar 200)), (3, .ref o), (4, .int i)], [.int (xs (Int32.toNatClampNeg (i + 3))), .int (xs (Int32.toNatClampNeg (i + 2))), .int (xs (Int32.toNatClampNeg (i + 1))), .ref (ar 200)])) rfl ?_
  refine y_callVL hS (tqL_17 nm et) (As := [.int (xs (Int32.toNatClampNeg (i + 1))), .int (xs (Int32.toNatClampNeg (i + 2))), .int (xs (Int32.toNatClampNeg (i + 3)))]) rfl cv_L_195 hR1.m (m_X12_answer hS hI hR1 (xs (Int32.toNatClampNeg (i + 1))) (xs (Int32.toNatClampNeg (i + 2))) (xs (Int32.toNatClampNeg (i + 3)))) rfl (by decide) (Nat.le_of_ble_eq_true rfl) (fun r2 G2 q2 => ?_)
  obtain ⟨⟨v2, rfl⟩, ar2, ρ2, hR2, e2, kt2, hrel⟩ := q2
  have hX2 := hX1.kp kt2 (fun t _ h9 => Or.inl h9)
  have hO2 := kt2 _ _ _ hO1 (Or.inr (Nat.le_refl _))
  refine y_blk 2 (tqL_17 nm et) (z := (1663, [(6, .int v2), (5, .int v1), (0, .ref b), (1, .ref (ad 1)), (2, .ref (ar 200)), (3, .ref o), (4, .int i)], [])) rfl ?_
  refine y_pick (L2 := [(0, .ref b), (1, .ref (ad 1)), (2, .ref (ar 200)), (3, .ref o), (4, .int i)]) [2, 3, 4, 5, 6] rfl ?_
  exact kk _ ⟨ad, σ1, ar2, ρ2, nv1, sv1, hX2, rfl, hR2, e2, hO2, ((hkn.kpX hkn1)).kpA hR.2 hrel, (((hkn.kpX hkn1)).kpA hR.2 hrel).A.1⟩
set_option maxHeartbeats 4000000 in
set_option maxRecDepth 100000 in
theorem law_18 (hS : yS l S0 A0 D aC) (hI : yIc S0 ic de) (hXs : va_X b LL xs S0 S0.heap) (hb : b < S0.heap.size) (hi0 : 0 ≤ i.toInt) (hi1 : i.toInt + 5 ≤ (LL : Int)) (hLL : LL ≤ 2560) (hG : LSt aC ic de x m o G) (kk : ∀ G1, LSt aC ic de x m o G1 → Y l S0 D (K_L_law nm et) 1300 mc ms Q X 1663 [(0, .ref b), (1, .ref x), (2, .ref m), (3, .ref o), (4, .int i)] [] G1 kc ks) : Y l S0 D (K_L_law nm et) 1300 mc ms Q X 1028 [(0, .ref b), (1, .ref x), (2, .ref m), (3, .ref o), (4, .int i)] [] G (kc + 200) (ks + 8000) := by
  obtain ⟨ad, σ, ar, ρ, nv, sv, hX, rfl, hR, rfl, hO, hkn, h6⟩ := hG
  refine y_less (k2 := kc + 0 + 2) (n2 := ks + 0 + 12) (by omega) (by omega) ?_
  refine y_blk 5 (tqL_18 nm et) (z := (1034, [(0, .ref b), (1, .ref (ad 1)), (2, .ref (ar 200)), (3, .ref o), (4, .int i)], [.int (i + 1), .ref b, .ref (ad 1)])) rfl ?_
  refine y_sld (tqL_18 nm et) hXs hb rfl (vp_in_add 1 1 rfl (by decide) hi0 hi1 hLL) ?_
  refine y_blk 4 (tqL_18 nm et) (z := (1040, [(0, .ref b), (1, .ref (ad 1)), (2, .ref (ar 200)), (3, .ref o), (4, .int i)], [.int (i + 2), .ref b, .int (xs (Int32.toNatClampNeg (i + 1))), .ref (ad 1)])) rfl ?_
  refine y_sld (tqL_18 nm et) hXs hb rfl (vp_in_add 2 2 rfl (by decide) hi0 hi1 hLL) ?_
  refine y_blk 1 (tqL_18 nm et) (z := (1042, [(0, .ref b), (1, .ref (ad 1)), (2, .ref (ar 200)), (3, .ref o), (4, .int i)], [.ref o, .int (xs (Int32.toNatClampNeg (i + 2))), .int (xs (Int32.toNatClampNeg (i + 1))), .ref (ad 1)])) rfl ?_
  refine y_callSWL hS (tqL_18 nm et) (As := [.ref (ad 1), .int (xs (Int32.toNatClampNeg (i + 1))), .int (xs (Int32.toNatClampNeg (i + 2))), .ref o]) rfl csw_L_196 (m_L_keyV hS hX hO (xs (Int32.toNatClampNeg (i + 1))) (xs (Int32.toNatClampNeg (i + 2)))) rfl (by decide) (Nat.le_of_ble_eq_true rfl) (fun r1 G1 q1 => ?_)
  obtain ⟨σ1, nv1, sv1, hX1, hO1, kt1, ha1⟩ := q1
  have hv1 : ∃ v1 : Int32, r1 = some (.int v1) := by rcases ha1 with h9 | h9 <;> exact ⟨_, h9.2.1⟩
  obtain ⟨v1, rfl⟩ := hv1
  have hR1 := hR.lk kt1
  refine y_blk 6 (tqL_18 nm et) (z := (1053, [(5, .int v1), (0, .ref b), (1, .ref (ad 1)), (2, .ref (ar 200)), (3, .ref o), (4, .int i)], [.int (i + 1), .ref b, .ref (ar 200)])) rfl ?_
  refine y_sld (tqL_18 nm et) hXs hb rfl (vp_in_add 1 1 rfl (by decide) hi0 hi1 hLL) ?_
  refine y_blk 4 (tqL_18 nm et) (z := (1059, [(5, .int v1), (0, .ref b), (1, .ref (ad 1)), (2, .ref (ar 200)), (3, .ref o), (4, .int i)], [.int (i + 2), .ref b, .int (xs (Int32.toNatClampNeg (i + 1))), .ref (ar 200)])) rfl ?_
  refine y_sld (tqL_18 nm et) hXs hb rfl (vp_in_add 2 2 rfl (by decide) hi0 hi1 hLL) ?_
  refine y_blk 0 (tqL_18 nm et) (z := (1060, [(5, .int v1), (0, .ref b), (1, .ref (ad 1)), (2, .ref (ar 200)), (3, .ref o), (4, .int i)], [.int (xs (Int32.toNatClampNeg (i + 2))), .int (xs (Int32.toNatClampNeg (i + 1))), .ref (ar 200)])) rfl ?_
  refine y_callVL hS (tqL_18 nm et) (As := [.int (xs (Int32.toNatClampNeg (i + 1))), .int (xs (Int32.toNatClampNeg (i + 2)))]) rfl cv_L_198 hR1.m (m_X12_key hS hI hR1 (xs (Int32.toNatClampNeg (i + 1))) (xs (Int32.toNatClampNeg (i + 2)))) rfl (by decide) (Nat.le_of_ble_eq_true rfl) (fun r2 G2 q2 => ?_)
  obtain ⟨⟨v2, rfl⟩, ar2, ρ2, hR2, e2, kt2, ha2⟩ := q2
  have hag := cx_key hR.2 hkn ha1 ha2
  have hX2 := hX1.kp kt2 (fun t _ h9 => Or.inl h9)
  have hO2 := kt2 _ _ _ hO1 (Or.inr (Nat.le_refl _))
  refine y_blk 2 (tqL_18 nm et) (z := (1663, [(6, .int v2), (5, .int v1), (0, .ref b), (1, .ref (ad 1)), (2, .ref (ar 200)), (3, .ref o), (4, .int i)], [])) rfl ?_
  refine y_pick (L2 := [(0, .ref b), (1, .ref (ad 1)), (2, .ref (ar 200)), (3, .ref o), (4, .int i)]) [2, 3, 4, 5, 6] rfl ?_
  exact kk _ ⟨ad, σ1, ar2, ρ2, nv1, sv1, hX2, rfl, hR2, e2, hO2, hag.1, hag.1.A.1⟩
set_option maxHeartbeats 4000000 in
set_option maxRecDepth 100000 in
theorem law_19 (hS : yS l S0 A0 D aC) (hI : yIc S0 ic de) (hXs : va_X b LL xs S0 S0.heap) (hb : b < S0.heap.size) (hi0 : 0 ≤ i.toInt) (hi1 : i.toInt + 5 ≤ (LL : Int)) (hLL : LL ≤ 2560) (hG : LSt aC ic de x m o G) (kk : ∀ G1, LSt aC ic de x m o G1 → Y l S0 D (K_L_law nm et) 1300 mc ms Q X 1663 [(0, .ref b), (1, .ref x), (2, .ref m), (3, .ref o), (4, .int i)] [] G1 kc ks) : Y l S0 D (K_L_law nm et) 1300 mc ms Q X 1068 [(0, .ref b), (1, .ref x), (2, .ref m), (3, .ref o), (4, .int i)] [] G (kc + 200) (ks + 8000) := by
  obtain ⟨ad, σ, ar, ρ, nv, sv, hX, rfl, hR, rfl, hO, hkn, h6⟩ := hG
  refine y_less (k2 := kc + 1 + 2) (n2 := ks + 9 + 12) (by omega) (by omega) ?_
  refine y_blk 5 (tqL_19 nm et) (z := (1074, [(0, .ref b), (1, .ref (ad 1)), (2, .ref (ar 200)), (3, .ref o), (4, .int i)], [.int (i + 1), .ref b, .ref (ad 1)])) rfl ?_
  refine y_sld (tqL_19 nm et) hXs hb rfl (vp_in_add 1 1 rfl (by decide) hi0 hi1 hLL) ?_
  refine y_blk 4 (tqL_19 nm et) (z := (1080, [(0, .ref b), (1, .ref (ad 1)), (2, .ref (ar 200)), (3, .ref o), (4, .int i)], [.int (i + 2), .ref b, .int (xs (Int32.toNatClampNeg (i + 1))), .ref (ad 1)])) rfl ?_
  refine y_sld (tqL_19 nm et) hXs hb rfl (vp_in_add 2 2 rfl (by decide) hi0 hi1 hLL) ?_
  refine y_blk 1 (tqL_19 nm et) (z := (1082, [(0, .ref b), (1, .ref (ad 1)), (2, .ref (ar 200)), (3, .ref o), (4, .int i)], [.ref o, .int (xs (Int32.toNatClampNeg (i + 2))), .int (xs (Int32.toNatClampNeg (i + 1))), .ref (ad 1)])) rfl ?_
  refine y_callSWL hS (tqL_19 nm et) (As := [.ref (ad 1), .int (xs (Int32.toNatClampNeg (i + 1))), .int (xs (Int32.toNatClampNeg (i + 2))), .ref o]) rfl csw_L_199 (m_L_ofGuard hS hX hO (xs (Int32.toNatClampNeg (i + 1))) (xs (Int32.toNatClampNeg (i + 2)))) rfl (by decide) (Nat.le_of_ble_eq_true rfl) (fun r1 G1 q1 => ?_)
  obtain ⟨⟨v1, rfl⟩, σ1, nv1, sv1, hX1, hkn1, hO1, kt1⟩ := q1
  have hR1 := hR.lk kt1
  refine y_blk 6 (tqL_19 nm et) (z := (1093, [(5, .int v1), (0, .ref b), (1, .ref (ad 1)), (2, .ref (ar 200)), (3, .ref o), (4, .int i)], [.int (i + 1), .ref b, .ref (ar 200)])) rfl ?_
  refine y_sld (tqL_19 nm et) hXs hb rfl (vp_in_add 1 1 rfl (by decide) hi0 hi1 hLL) ?_
  refine y_blk 4 (tqL_19 nm et) (z := (1099, [(5, .int v1), (0, .ref b), (1, .ref (ad 1)), (2, .ref (ar 200)), (3, .ref o), (4, .int i)], [.int (i + 2), .ref b, .int (xs (Int32.toNatClampNeg (i + 1))), .ref (ar 200)])) rfl ?_
  refine y_sld (tqL_19 nm et) hXs hb rfl (vp_in_add 2 2 rfl (by decide) hi0 hi1 hLL) ?_
  refine y_blk 0 (tqL_19 nm et) (z := (1100, [(5, .int v1), (0, .ref b), (1, .ref (ad 1)), (2, .ref (ar 200)), (3, .ref o), (4, .int i)], [.int (xs (Int32.toNatClampNeg (i + 2))), .int (xs (Int32.toNatClampNeg (i + 1))), .ref (ar 200)])) rfl ?_
  refine y_callVL hS (tqL_19 nm et) (As := [.int (xs (Int32.toNatClampNeg (i + 1))), .int (xs (Int32.toNatClampNeg (i + 2)))]) rfl cv_L_201 hR1.m (m_X12_ofGuard hS hI hR1 (xs (Int32.toNatClampNeg (i + 1))) (xs (Int32.toNatClampNeg (i + 2)))) rfl (by decide) (Nat.le_of_ble_eq_true rfl) (fun r2 G2 q2 => ?_)
  obtain ⟨⟨v2, rfl⟩, ar2, ρ2, hR2, e2, kt2, hrel⟩ := q2
  have hX2 := hX1.kp kt2 (fun t _ h9 => Or.inl h9)
  have hO2 := kt2 _ _ _ hO1 (Or.inr (Nat.le_refl _))
  refine y_blk 2 (tqL_19 nm et) (z := (1663, [(6, .int v2), (5, .int v1), (0, .ref b), (1, .ref (ad 1)), (2, .ref (ar 200)), (3, .ref o), (4, .int i)], [])) rfl ?_
  refine y_pick (L2 := [(0, .ref b), (1, .ref (ad 1)), (2, .ref (ar 200)), (3, .ref o), (4, .int i)]) [2, 3, 4, 5, 6] rfl ?_
  exact kk _ ⟨ad, σ1, ar2, ρ2, nv1, sv1, hX2, rfl, hR2, e2, hO2, ((hkn.kpX hkn1)).kpR hR.2 hrel, (((hkn.kpX hkn1)).kpR hR.2 hrel).A.1⟩
set_option maxHeartbeats 4000000 in
set_option maxRecDepth 100000 in
theorem law_20 (hS : yS l S0 A0 D aC) (hI : yIc S0 ic de) (hXs : va_X b LL xs S0 S0.heap) (hb : b < S0.heap.size) (hi0 : 0 ≤ i.toInt) (hi1 : i.toInt + 5 ≤ (LL : Int)) (hLL : LL ≤ 2560) (hG : LSt aC ic de x m o G) (kk : ∀ G1, LSt aC ic de x m o G1 → Y l S0 D (K_L_law nm et) 1300 mc ms Q X 1663 [(0, .ref b), (1, .ref x), (2, .ref m), (3, .ref o), (4, .int i)] [] G1 kc ks) : Y l S0 D (K_L_law nm et) 1300 mc ms Q X 1108 [(0, .ref b), (1, .ref x), (2, .ref m), (3, .ref o), (4, .int i)] [] G (kc + 200) (ks + 8000) := by
  obtain ⟨ad, σ, ar, ρ, nv, sv, hX, rfl, hR, rfl, hO, hkn, h6⟩ := hG
  refine y_less (k2 := kc + 3 + 3) (n2 := ks + 255 + 18) (by omega) (by omega) ?_
  refine y_blk 5 (tqL_20 nm et) (z := (1114, [(0, .ref b), (1, .ref (ad 1)), (2, .ref (ar 200)), (3, .ref o), (4, .int i)], [.int (i + 1), .ref b, .ref (ad 1)])) rfl ?_
  refine y_sld (tqL_20 nm et) hXs hb rfl (vp_in_add 1 1 rfl (by decide) hi0 hi1 hLL) ?_
  refine y_blk 4 (tqL_20 nm et) (z := (1120, [(0, .ref b), (1, .ref (ad 1)), (2, .ref (ar 200)), (3, .ref o), (4, .int i)], [.int (i + 2), .ref b, .int (xs (Int32.toNatClampNeg (i + 1))), .ref (ad 1)])) rfl ?_
  refine y_sld (tqL_20 nm et) hXs hb rfl (vp_in_add 2 2 rfl (by decide) hi0 hi1 hLL) ?_
  refine y_blk 4 (tqL_20 nm et) (z := (1126, [(0, .ref b), (1, .ref (ad 1)), (2, .ref (ar 200)), (3, .ref o), (4, .int i)], [.int (i + 3), .ref b, .int (xs (Int32.toNatClampNeg (i + 2))), .int (xs (Int32.toNatClampNeg (i + 1))), .ref (ad 1)])) rfl ?_
  refine y_sld (tqL_20 nm et) hXs hb rfl (vp_in_add 3 3 rfl (by decide) hi0 hi1 hLL) ?_
  refine y_blk 1 (tqL_20 nm et) (z := (1128, [(0, .ref b), (1, .ref (ad 1)), (2, .ref (ar 200)), (3, .ref o), (4, .int i)], [.ref o, .int (xs (Int32.toNatClampNeg (i + 3))), .int (xs (Int32.toNatClampNeg (i + 2))), .int (xs (Int32.toNatClampNeg (i + 1))), .ref (ad 1)])) rfl ?_
  refine y_callSWL hS (tqL_20 nm et) (As := [.ref (ad 1), .int (xs (Int32.toNatClampNeg (i + 1))), .int (xs (Int32.toNatClampNeg (i + 2))), .int (xs (Int32.toNatClampNeg (i + 3))), .ref o]) rfl csw_L_202 (m_L_intruderV hS hX hO (xs (Int32.toNatClampNeg (i + 1))) (xs (Int32.toNatClampNeg (i + 2))) (xs (Int32.toNatClampNeg (i + 3)))) rfl (by decide) (Nat.le_of_ble_eq_true rfl) (fun r1 G1 q1 => ?_)
  obtain ⟨σ1, nv1, sv1, hX1, hO1, kt1, ha1⟩ := q1
  have hv1 : ∃ v1 : Int32, r1 = some (.int v1) := by rcases ha1 with h9 | h9 | h9 | h9 <;> exact ⟨_, h9.2.1⟩
  obtain ⟨v1, rfl⟩ := hv1
  have hR1 := hR.lk kt1
  refine y_blk 6 (tqL_20 nm et) (z := (1139, [(5, .int v1), (0, .ref b), (1, .ref (ad 1)), (2, .ref (ar 200)), (3, .ref o), (4, .int i)], [.int (i + 1), .ref b, .ref (ar 200)])) rfl ?_
  refine y_sld (tqL_20 nm et) hXs hb rfl (vp_in_add 1 1 rfl (by decide) hi0 hi1 hLL) ?_
  refine y_blk 4 (tqL_20 nm et) (z := (1145, [(5, .int v1), (0, .ref b), (1, .ref (ad 1)), (2, .ref (ar 200)), (3, .ref o), (4, .int i)], [.int (i + 2), .ref b, .int (xs (Int32.toNatClampNeg (i + 1))), .ref (ar 200)])) rfl ?_
  refine y_sld (tqL_20 nm et) hXs hb rfl (vp_in_add 2 2 rfl (by decide) hi0 hi1 hLL) ?_
  refine y_blk 4 (tqL_20 nm et) (z := (1151, [(5, .int v1), (0, .ref b), (1, .ref (ad 1)), (2, .ref (ar 200)), (3, .ref o), (4, .int i)], [.int (i + 3), .ref b, .int (xs (Int32.toNatClampNeg (i + 2))), .int (xs (Int32.toNatClampNeg (i + 1))), .ref (ar 200)])) rfl ?_
  refine y_sld (tqL_20 nm et) hXs hb rfl (vp_in_add 3 3 rfl (by decide) hi0 hi1 hLL) ?_
  refine y_blk 0 (tqL_20 nm et) (z := (1152, [(5, .int v1), (0, .ref b), (1, .ref (ad 1)), (2, .ref (ar 200)), (3, .ref o), (4, .int i)], [.int (xs (Int32.toNatClampNeg (i + 3))), .int (xs (Int32.toNatClampNeg (i + 2))), .int (xs (Int32.toNatClampNeg (i + 1))), .ref (ar 200)])) rfl ?_
  refine y_callVL hS (tqL_20 nm et) (As := [.int (xs (Int32.toNatClampNeg (i + 1))), .int (xs (Int32.toNatClampNeg (i + 2))), .int (xs (Int32.toNatClampNeg (i + 3)))]) rfl cv_L_204 hR1.m (m_X12_intruder hS hI hR1 (xs (Int32.toNatClampNeg (i + 1))) (xs (Int32.toNatClampNeg (i + 2))) (xs (Int32.toNatClampNeg (i + 3)))) rfl (by decide) (Nat.le_of_ble_eq_true rfl) (fun r2 G2 q2 => ?_)
  obtain ⟨⟨v2, rfl⟩, ar2, ρ2, hR2, e2, kt2, ha2⟩ := q2
  have hag := cx_intruder hR.2 hkn ha1 ha2
  have hX2 := hX1.kp kt2 (fun t _ h9 => Or.inl h9)
  have hO2 := kt2 _ _ _ hO1 (Or.inr (Nat.le_refl _))
  refine y_blk 2 (tqL_20 nm et) (z := (1663, [(6, .int v2), (5, .int v1), (0, .ref b), (1, .ref (ad 1)), (2, .ref (ar 200)), (3, .ref o), (4, .int i)], [])) rfl ?_
  refine y_pick (L2 := [(0, .ref b), (1, .ref (ad 1)), (2, .ref (ar 200)), (3, .ref o), (4, .int i)]) [2, 3, 4, 5, 6] rfl ?_
  exact kk _ ⟨ad, σ1, ar2, ρ2, nv1, sv1, hX2, rfl, hR2, e2, hO2, hag.1, hag.1.A.1⟩
set_option maxHeartbeats 4000000 in
set_option maxRecDepth 100000 in
theorem law_21 (hS : yS l S0 A0 D aC) (hI : yIc S0 ic de) (hXs : va_X b LL xs S0 S0.heap) (hb : b < S0.heap.size) (hi0 : 0 ≤ i.toInt) (hi1 : i.toInt + 5 ≤ (LL : Int)) (hLL : LL ≤ 2560) (hG : LSt aC ic de x m o G) (kk : ∀ G1, LSt aC ic de x m o G1 → Y l S0 D (K_L_law nm et) 1300 mc ms Q X 1663 [(0, .ref b), (1, .ref x), (2, .ref m), (3, .ref o), (4, .int i)] [] G1 kc ks) : Y l S0 D (K_L_law nm et) 1300 mc ms Q X 1160 [(0, .ref b), (1, .ref x), (2, .ref m), (3, .ref o), (4, .int i)] [] G (kc + 200) (ks + 8000) := by
  obtain ⟨ad, σ, ar, ρ, nv, sv, hX, rfl, hR, rfl, hO, hkn, h6⟩ := hG
  refine y_less (k2 := kc + 2 + 3) (n2 := ks + 12 + 18) (by omega) (by omega) ?_
  refine y_blk 5 (tqL_21 nm et) (z := (1166, [(0, .ref b), (1, .ref (ad 1)), (2, .ref (ar 200)), (3, .ref o), (4, .int i)], [.int (i + 1), .ref b, .ref (ad 1)])) rfl ?_
  refine y_sld (tqL_21 nm et) hXs hb rfl (vp_in_add 1 1 rfl (by decide) hi0 hi1 hLL) ?_
  refine y_blk 4 (tqL_21 nm et) (z := (1172, [(0, .ref b), (1, .ref (ad 1)), (2, .ref (ar 200)), (3, .ref o), (4, .int i)], [.int (i + 2), .ref b, .int (xs (Int32.toNatClampNeg (i + 1))), .ref (ad 1)])) rfl ?_
  refine y_sld (tqL_21 nm et) hXs hb rfl (vp_in_add 2 2 rfl (by decide) hi0 hi1 hLL) ?_
  refine y_blk 1 (tqL_21 nm et) (z := (1174, [(0, .ref b), (1, .ref (ad 1)), (2, .ref (ar 200)), (3, .ref o), (4, .int i)], [.ref o, .int (xs (Int32.toNatClampNeg (i + 2))), .int (xs (Int32.toNatClampNeg (i + 1))), .ref (ad 1)])) rfl ?_
  refine y_callSWL hS (tqL_21 nm et) (As := [.ref (ad 1), .int (xs (Int32.toNatClampNeg (i + 1))), .int (xs (Int32.toNatClampNeg (i + 2))), .ref o]) rfl csw_L_205 (m_L_wireV hS hX hO (xs (Int32.toNatClampNeg (i + 1))) (xs (Int32.toNatClampNeg (i + 2)))) rfl (by decide) (Nat.le_of_ble_eq_true rfl) (fun r1 G1 q1 => ?_)
  obtain ⟨σ1, nv1, sv1, hX1, hO1, kt1, ha1⟩ := q1
  have hv1 : ∃ v1 : Int32, r1 = some (.int v1) := by rcases ha1 with h9 | h9 | h9 | h9 <;> exact ⟨_, h9.2.1⟩
  obtain ⟨v1, rfl⟩ := hv1
  have hR1 := hR.lk kt1
  refine y_blk 6 (tqL_21 nm et) (z := (1185, [(5, .int v1), (0, .ref b), (1, .ref (ad 1)), (2, .ref (ar 200)), (3, .ref o), (4, .int i)], [.int (i + 1), .ref b, .ref (ar 200)])) rfl ?_
  refine y_sld (tqL_21 nm et) hXs hb rfl (vp_in_add 1 1 rfl (by decide) hi0 hi1 hLL) ?_
  refine y_blk 4 (tqL_21 nm et) (z := (1191, [(5, .int v1), (0, .ref b), (1, .ref (ad 1)), (2, .ref (ar 200)), (3, .ref o), (4, .int i)], [.int (i + 2), .ref b, .int (xs (Int32.toNatClampNeg (i + 1))), .ref (ar 200)])) rfl ?_
  refine y_sld (tqL_21 nm et) hXs hb rfl (vp_in_add 2 2 rfl (by decide) hi0 hi1 hLL) ?_
  refine y_blk 0 (tqL_21 nm et) (z := (1192, [(5, .int v1), (0, .ref b), (1, .ref (ad 1)), (2, .ref (ar 200)), (3, .ref o), (4, .int i)], [.int (xs (Int32.toNatClampNeg (i + 2))), .int (xs (Int32.toNatClampNeg (i + 1))), .ref (ar 200)])) rfl ?_
  refine y_callVL hS (tqL_21 nm et) (As := [.int (xs (Int32.toNatClampNeg (i + 1))), .int (xs (Int32.toNatClampNeg (i + 2)))]) rfl cv_L_207 hR1.m (m_X12_wire hS hI hR1 (xs (Int32.toNatClampNeg (i + 1))) (xs (Int32.toNatClampNeg (i + 2)))) rfl (by decide) (Nat.le_of_ble_eq_true rfl) (fun r2 G2 q2 => ?_)
  obtain ⟨⟨v2, rfl⟩, ar2, ρ2, hR2, e2, kt2, ha2⟩ := q2
  have hag := cx_wire hR.2 hkn ha1 ha2
  have hX2 := hX1.kp kt2 (fun t _ h9 => Or.inl h9)
  have hO2 := kt2 _ _ _ hO1 (Or.inr (Nat.le_refl _))
  refine y_blk 2 (tqL_21 nm et) (z := (1663, [(6, .int v2), (5, .int v1), (0, .ref b), (1, .ref (ad 1)), (2, .ref (ar 200)), (3, .ref o), (4, .int i)], [])) rfl ?_
  refine y_pick (L2 := [(0, .ref b), (1, .ref (ad 1)), (2, .ref (ar 200)), (3, .ref o), (4, .int i)]) [2, 3, 4, 5, 6] rfl ?_
  exact kk _ ⟨ad, σ1, ar2, ρ2, nv1, sv1, hX2, rfl, hR2, e2, hO2, hag.1, hag.1.A.1⟩
set_option maxHeartbeats 4000000 in
set_option maxRecDepth 100000 in
theorem law_22 (hS : yS l S0 A0 D aC) (hI : yIc S0 ic de) (hXs : va_X b LL xs S0 S0.heap) (hb : b < S0.heap.size) (hi0 : 0 ≤ i.toInt) (hi1 : i.toInt + 5 ≤ (LL : Int)) (hLL : LL ≤ 2560) (hG : LSt aC ic de x m o G) (kk : ∀ G1, LSt aC ic de x m o G1 → Y l S0 D (K_L_law nm et) 1300 mc ms Q X 1663 [(0, .ref b), (1, .ref x), (2, .ref m), (3, .ref o), (4, .int i)] [] G1 kc ks) : Y l S0 D (K_L_law nm et) 1300 mc ms Q X 1200 [(0, .ref b), (1, .ref x), (2, .ref m), (3, .ref o), (4, .int i)] [] G (kc + 200) (ks + 8000) := by
  obtain ⟨ad, σ, ar, ρ, nv, sv, hX, rfl, hR, rfl, hO, hkn, h6⟩ := hG
  refine y_less (k2 := kc + 0 + 2) (n2 := ks + 0 + 12) (by omega) (by omega) ?_
  refine y_blk 5 (tqL_22 nm et) (z := (1206, [(0, .ref b), (1, .ref (ad 1)), (2, .ref (ar 200)), (3, .ref o), (4, .int i)], [.int (i + 1), .ref b, .ref (ad 1)])) rfl ?_
  refine y_sld (tqL_22 nm et) hXs hb rfl (vp_in_add 1 1 rfl (by decide) hi0 hi1 hLL) ?_
  refine y_blk 4 (tqL_22 nm et) (z := (1212, [(0, .ref b), (1, .ref (ad 1)), (2, .ref (ar 200)), (3, .ref o), (4, .int i)], [.int (i + 2), .ref b, .int (xs (Int32.toNatClampNeg (i + 1))), .ref (ad 1)])) rfl ?_
  refine y_sld (tqL_22 nm et) hXs hb rfl (vp_in_add 2 2 rfl (by decide) hi0 hi1 hLL) ?_
  refine y_blk 1 (tqL_22 nm et) (z := (1214, [(0, .ref b), (1, .ref (ad 1)), (2, .ref (ar 200)), (3, .ref o), (4, .int i)], [.ref o, .int (xs (Int32.toNatClampNeg (i + 2))), .int (xs (Int32.toNatClampNeg (i + 1))), .ref (ad 1)])) rfl ?_
  refine y_callSWL hS (tqL_22 nm et) (As := [.ref (ad 1), .int (xs (Int32.toNatClampNeg (i + 1))), .int (xs (Int32.toNatClampNeg (i + 2))), .ref o]) rfl csw_L_208 (m_L_whereV hS hX hO (xs (Int32.toNatClampNeg (i + 1))) (xs (Int32.toNatClampNeg (i + 2)))) rfl (by decide) (Nat.le_of_ble_eq_true rfl) (fun r1 G1 q1 => ?_)
  obtain ⟨σ1, nv1, sv1, hX1, hO1, kt1, ha1⟩ := q1
  have hv1 : ∃ v1 : Int32, r1 = some (.int v1) := by rcases ha1 with h9 | h9 | h9 <;> exact ⟨_, h9.2.1⟩
  obtain ⟨v1, rfl⟩ := hv1
  have hR1 := hR.lk kt1
  refine y_blk 6 (tqL_22 nm et) (z := (1225, [(5, .int v1), (0, .ref b), (1, .ref (ad 1)), (2, .ref (ar 200)), (3, .ref o), (4, .int i)], [.int (i + 1), .ref b, .ref (ar 200)])) rfl ?_
  refine y_sld (tqL_22 nm et) hXs hb rfl (vp_in_add 1 1 rfl (by decide) hi0 hi1 hLL) ?_
  refine y_blk 4 (tqL_22 nm et) (z := (1231, [(5, .int v1), (0, .ref b), (1, .ref (ad 1)), (2, .ref (ar 200)), (3, .ref o), (4, .int i)], [.int (i + 2), .ref b, .int (xs (Int32.toNatClampNeg (i + 1))), .ref (ar 200)])) rfl ?_
  refine y_sld (tqL_22 nm et) hXs hb rfl (vp_in_add 2 2 rfl (by decide) hi0 hi1 hLL) ?_
  refine y_blk 0 (tqL_22 nm et) (z := (1232, [(5, .int v1), (0, .ref b), (1, .ref (ad 1)), (2, .ref (ar 200)), (3, .ref o), (4, .int i)], [.int (xs (Int32.toNatClampNeg (i + 2))), .int (xs (Int32.toNatClampNeg (i + 1))), .ref (ar 200)])) rfl ?_
  refine y_callVL hS (tqL_22 nm et) (As := [.int (xs (Int32.toNatClampNeg (i + 1))), .int (xs (Int32.toNatClampNeg (i + 2)))]) rfl cv_L_210 hR1.m (m_X12_where hS hI hR1 (xs (Int32.toNatClampNeg (i + 1))) (xs (Int32.toNatClampNeg (i + 2)))) rfl (by decide) (Nat.le_of_ble_eq_true rfl) (fun r2 G2 q2 => ?_)
  obtain ⟨⟨v2, rfl⟩, ar2, ρ2, hR2, e2, kt2, ha2⟩ := q2
  have hag := cx_where hR.2 hkn ha1 ha2
  have hX2 := hX1.kp kt2 (fun t _ h9 => Or.inl h9)
  have hO2 := kt2 _ _ _ hO1 (Or.inr (Nat.le_refl _))
  refine y_blk 2 (tqL_22 nm et) (z := (1663, [(6, .int v2), (5, .int v1), (0, .ref b), (1, .ref (ad 1)), (2, .ref (ar 200)), (3, .ref o), (4, .int i)], [])) rfl ?_
  refine y_pick (L2 := [(0, .ref b), (1, .ref (ad 1)), (2, .ref (ar 200)), (3, .ref o), (4, .int i)]) [2, 3, 4, 5, 6] rfl ?_
  exact kk _ ⟨ad, σ1, ar2, ρ2, nv1, sv1, hX2, rfl, hR2, e2, hO2, hag.1, hag.1.A.1⟩
set_option maxHeartbeats 4000000 in
set_option maxRecDepth 100000 in
theorem law_23 (hS : yS l S0 A0 D aC) (hI : yIc S0 ic de) (hXs : va_X b LL xs S0 S0.heap) (hb : b < S0.heap.size) (hi0 : 0 ≤ i.toInt) (hi1 : i.toInt + 5 ≤ (LL : Int)) (hLL : LL ≤ 2560) (hG : LSt aC ic de x m o G) (kk : ∀ G1, LSt aC ic de x m o G1 → Y l S0 D (K_L_law nm et) 1300 mc ms Q X 1663 [(0, .ref b), (1, .ref x), (2, .ref m), (3, .ref o), (4, .int i)] [] G1 kc ks) : Y l S0 D (K_L_law nm et) 1300 mc ms Q X 1240 [(0, .ref b), (1, .ref x), (2, .ref m), (3, .ref o), (4, .int i)] [] G (kc + 200) (ks + 8000) := by
  obtain ⟨ad, σ, ar, ρ, nv, sv, hX, rfl, hR, rfl, hO, hkn, h6⟩ := hG
  refine y_less (k2 := kc + 12 + 2) (n2 := ks + 768 + 12) (by omega) (by omega) ?_
  refine y_blk 5 (tqL_23 nm et) (z := (1246, [(0, .ref b), (1, .ref (ad 1)), (2, .ref (ar 200)), (3, .ref o), (4, .int i)], [.int (i + 1), .ref b, .ref (ad 1)])) rfl ?_
  refine y_sld (tqL_23 nm et) hXs hb rfl (vp_in_add 1 1 rfl (by decide) hi0 hi1 hLL) ?_
  refine y_blk 4 (tqL_23 nm et) (z := (1252, [(0, .ref b), (1, .ref (ad 1)), (2, .ref (ar 200)), (3, .ref o), (4, .int i)], [.int (i + 2), .ref b, .int (xs (Int32.toNatClampNeg (i + 1))), .ref (ad 1)])) rfl ?_
  refine y_sld (tqL_23 nm et) hXs hb rfl (vp_in_add 2 2 rfl (by decide) hi0 hi1 hLL) ?_
  refine y_blk 1 (tqL_23 nm et) (z := (1254, [(0, .ref b), (1, .ref (ad 1)), (2, .ref (ar 200)), (3, .ref o), (4, .int i)], [.ref o, .int (xs (Int32.toNatClampNeg (i + 2))), .int (xs (Int32.toNatClampNeg (i + 1))), .ref (ad 1)])) rfl ?_
  refine y_callSWL hS (tqL_23 nm et) (As := [.ref (ad 1), .int (xs (Int32.toNatClampNeg (i + 1))), .int (xs (Int32.toNatClampNeg (i + 2))), .ref o]) rfl csw_L_211 (m_L_ofIntruder hS hX hO (xs (Int32.toNatClampNeg (i + 1))) (xs (Int32.toNatClampNeg (i + 2)))) rfl (by decide) (Nat.le_of_ble_eq_true rfl) (fun r1 G1 q1 => ?_)
  obtain ⟨⟨v1, rfl⟩, σ1, nv1, sv1, hX1, hkn1, hO1, kt1⟩ := q1
  have hR1 := hR.lk kt1
  refine y_blk 6 (tqL_23 nm et) (z := (1265, [(5, .int v1), (0, .ref b), (1, .ref (ad 1)), (2, .ref (ar 200)), (3, .ref o), (4, .int i)], [.int (i + 1), .ref b, .ref (ar 200)])) rfl ?_
  refine y_sld (tqL_23 nm et) hXs hb rfl (vp_in_add 1 1 rfl (by decide) hi0 hi1 hLL) ?_
  refine y_blk 4 (tqL_23 nm et) (z := (1271, [(5, .int v1), (0, .ref b), (1, .ref (ad 1)), (2, .ref (ar 200)), (3, .ref o), (4, .int i)], [.int (i + 2), .ref b, .int (xs (Int32.toNatClampNeg (i + 1))), .ref (ar 200)])) rfl ?_
  refine y_sld (tqL_23 nm et) hXs hb rfl (vp_in_add 2 2 rfl (by decide) hi0 hi1 hLL) ?_
  refine y_blk 0 (tqL_23 nm et) (z := (1272, [(5, .int v1), (0, .ref b), (1, .ref (ad 1)), (2, .ref (ar 200)), (3, .ref o), (4, .int i)], [.int (xs (Int32.toNatClampNeg (i + 2))), .int (xs (Int32.toNatClampNeg (i + 1))), .ref (ar 200)])) rfl ?_
  refine y_callVL hS (tqL_23 nm et) (As := [.int (xs (Int32.toNatClampNeg (i + 1))), .int (xs (Int32.toNatClampNeg (i + 2)))]) rfl cv_L_213 hR1.m (m_X12_ofIntruder hS hI hR1 (xs (Int32.toNatClampNeg (i + 1))) (xs (Int32.toNatClampNeg (i + 2)))) rfl (by decide) (Nat.le_of_ble_eq_true rfl) (fun r2 G2 q2 => ?_)
  obtain ⟨⟨v2, rfl⟩, ar2, ρ2, hR2, e2, kt2, hrel⟩ := q2
  have hX2 := hX1.kp kt2 (fun t _ h9 => Or.inl h9)
  have hO2 := kt2 _ _ _ hO1 (Or.inr (Nat.le_refl _))
  refine y_blk 2 (tqL_23 nm et) (z := (1663, [(6, .int v2), (5, .int v1), (0, .ref b), (1, .ref (ad 1)), (2, .ref (ar 200)), (3, .ref o), (4, .int i)], [])) rfl ?_
  refine y_pick (L2 := [(0, .ref b), (1, .ref (ad 1)), (2, .ref (ar 200)), (3, .ref o), (4, .int i)]) [2, 3, 4, 5, 6] rfl ?_
  exact kk _ ⟨ad, σ1, ar2, ρ2, nv1, sv1, hX2, rfl, hR2, e2, hO2, ((hkn.kpX hkn1)).kpR hR.2 hrel, (((hkn.kpX hkn1)).kpR hR.2 hrel).A.1⟩
set_option maxHeartbeats 4000000 in
set_option maxRecDepth 100000 in
theorem law_24 (hS : yS l S0 A0 D aC) (hI : yIc S0 ic de) (hXs : va_X b LL xs S0 S0.heap) (hb : b < S0.heap.size) (hi0 : 0 ≤ i.toInt) (hi1 : i.toInt + 5 ≤ (LL : Int)) (hLL : LL ≤ 2560) (hG : LSt aC ic de x m o G) (kk : ∀ G1, LSt aC ic de x m o G1 → Y l S0 D (K_L_law nm et) 1300 mc ms Q X 1663 [(0, .ref b), (1, .ref x), (2, .ref m), (3, .ref o), (4, .int i)] [] G1 kc ks) : Y l S0 D (K_L_law nm et) 1300 mc ms Q X 1280 [(0, .ref b), (1, .ref x), (2, .ref m), (3, .ref o), (4, .int i)] [] G (kc + 200) (ks + 8000) := by
  obtain ⟨ad, σ, ar, ρ, nv, sv, hX, rfl, hR, rfl, hO, hkn, h6⟩ := hG
  refine y_less (k2 := kc + 0 + 3) (n2 := ks + 0 + 18) (by omega) (by omega) ?_
  refine y_blk 5 (tqL_24 nm et) (z := (1286, [(0, .ref b), (1, .ref (ad 1)), (2, .ref (ar 200)), (3, .ref o), (4, .int i)], [.int (i + 1), .ref b, .ref (ad 1)])) rfl ?_
  refine y_sld (tqL_24 nm et) hXs hb rfl (vp_in_add 1 1 rfl (by decide) hi0 hi1 hLL) ?_
  refine y_blk 4 (tqL_24 nm et) (z := (1292, [(0, .ref b), (1, .ref (ad 1)), (2, .ref (ar 200)), (3, .ref o), (4, .int i)], [.int (i + 2), .ref b, .int (xs (Int32.toNatClampNeg (i + 1))), .ref (ad 1)])) rfl ?_
  refine y_sld (tqL_24 nm et) hXs hb rfl (vp_in_add 2 2 rfl (by decide) hi0 hi1 hLL) ?_
  refine y_blk 4 (tqL_24 nm et) (z := (1298, [(0, .ref b), (1, .ref (ad 1)), (2, .ref (ar 200)), (3, .ref o), (4, .int i)], [.int (i + 3), .ref b, .int (xs (Int32.toNatClampNeg (i + 2))), .int (xs (Int32.toNatClampNeg (i + 1))), .ref (ad 1)])) rfl ?_
  refine y_sld (tqL_24 nm et) hXs hb rfl (vp_in_add 3 3 rfl (by decide) hi0 hi1 hLL) ?_
  refine y_blk 1 (tqL_24 nm et) (z := (1300, [(0, .ref b), (1, .ref (ad 1)), (2, .ref (ar 200)), (3, .ref o), (4, .int i)], [.ref o, .int (xs (Int32.toNatClampNeg (i + 3))), .int (xs (Int32.toNatClampNeg (i + 2))), .int (xs (Int32.toNatClampNeg (i + 1))), .ref (ad 1)])) rfl ?_
  refine y_callSWL hS (tqL_24 nm et) (As := [.ref (ad 1), .int (xs (Int32.toNatClampNeg (i + 1))), .int (xs (Int32.toNatClampNeg (i + 2))), .int (xs (Int32.toNatClampNeg (i + 3))), .ref o]) rfl csw_L_214 (m_L_force hS hX hO (xs (Int32.toNatClampNeg (i + 1))) (xs (Int32.toNatClampNeg (i + 2))) (xs (Int32.toNatClampNeg (i + 3)))) rfl (by decide) (Nat.le_of_ble_eq_true rfl) (fun r1 G1 q1 => ?_)
  obtain ⟨⟨v1, rfl⟩, σ1, nv1, sv1, hX1, hkn1, hO1, kt1⟩ := q1
  have hR1 := hR.lk kt1
  refine y_blk 6 (tqL_24 nm et) (z := (1311, [(5, .int v1), (0, .ref b), (1, .ref (ad 1)), (2, .ref (ar 200)), (3, .ref o), (4, .int i)], [.int (i + 1), .ref b, .ref (ar 200)])) rfl ?_
  refine y_sld (tqL_24 nm et) hXs hb rfl (vp_in_add 1 1 rfl (by decide) hi0 hi1 hLL) ?_
  refine y_blk 4 (tqL_24 nm et) (z := (1317, [(5, .int v1), (0, .ref b), (1, .ref (ad 1)), (2, .ref (ar 200)), (3, .ref o), (4, .int i)], [.int (i + 2), .ref b, .int (xs (Int32.toNatClampNeg (i + 1))), .ref (ar 200)])) rfl ?_
  refine y_sld (tqL_24 nm et) hXs hb rfl (vp_in_add 2 2 rfl (by decide) hi0 hi1 hLL) ?_
  refine y_blk 4 (tqL_24 nm et) (z := (1323, [(5, .int v1), (0, .ref b), (1, .ref (ad 1)), (2, .ref (ar 200)), (3, .ref o), (4, .int i)], [.int (i + 3), .ref b, .int (xs (Int32.toNatClampNeg (i + 2))), .int (xs (Int32.toNatClampNeg (i + 1))), .ref (ar 200)])) rfl ?_
  refine y_sld (tqL_24 nm et) hXs hb rfl (vp_in_add 3 3 rfl (by decide) hi0 hi1 hLL) ?_
  refine y_blk 0 (tqL_24 nm et) (z := (1324, [(5, .int v1), (0, .ref b), (1, .ref (ad 1)), (2, .ref (ar 200)), (3, .ref o), (4, .int i)], [.int (xs (Int32.toNatClampNeg (i + 3))), .int (xs (Int32.toNatClampNeg (i + 2))), .int (xs (Int32.toNatClampNeg (i + 1))), .ref (ar 200)])) rfl ?_
  refine y_callVL hS (tqL_24 nm et) (As := [.int (xs (Int32.toNatClampNeg (i + 1))), .int (xs (Int32.toNatClampNeg (i + 2))), .int (xs (Int32.toNatClampNeg (i + 3)))]) rfl cv_L_216 hR1.m (m_X12_force hS hI hR1 (xs (Int32.toNatClampNeg (i + 1))) (xs (Int32.toNatClampNeg (i + 2))) (xs (Int32.toNatClampNeg (i + 3)))) rfl (by decide) (Nat.le_of_ble_eq_true rfl) (fun r2 G2 q2 => ?_)
  obtain ⟨⟨v2, rfl⟩, ar2, ρ2, hR2, e2, kt2, hrel⟩ := q2
  have hX2 := hX1.kp kt2 (fun t _ h9 => Or.inl h9)
  have hO2 := kt2 _ _ _ hO1 (Or.inr (Nat.le_refl _))
  refine y_blk 2 (tqL_24 nm et) (z := (1663, [(6, .int v2), (5, .int v1), (0, .ref b), (1, .ref (ad 1)), (2, .ref (ar 200)), (3, .ref o), (4, .int i)], [])) rfl ?_
  refine y_pick (L2 := [(0, .ref b), (1, .ref (ad 1)), (2, .ref (ar 200)), (3, .ref o), (4, .int i)]) [2, 3, 4, 5, 6] rfl ?_
  exact kk _ ⟨ad, σ1, ar2, ρ2, nv1, sv1, hX2, rfl, hR2, e2, hO2, ((hkn.kpX hkn1)).kpA hR.2 hrel, (((hkn.kpX hkn1)).kpA hR.2 hrel).A.1⟩
set_option maxHeartbeats 4000000 in
set_option maxRecDepth 100000 in
theorem law_25 (hS : yS l S0 A0 D aC) (hI : yIc S0 ic de) (hXs : va_X b LL xs S0 S0.heap) (hb : b < S0.heap.size) (hi0 : 0 ≤ i.toInt) (hi1 : i.toInt + 5 ≤ (LL : Int)) (hLL : LL ≤ 2560) (hG : LSt aC ic de x m o G) (kk : ∀ G1, LSt aC ic de x m o G1 → Y l S0 D (K_L_law nm et) 1300 mc ms Q X 1663 [(0, .ref b), (1, .ref x), (2, .ref m), (3, .ref o), (4, .int i)] [] G1 kc ks) : Y l S0 D (K_L_law nm et) 1300 mc ms Q X 1332 [(0, .ref b), (1, .ref x), (2, .ref m), (3, .ref o), (4, .int i)] [] G (kc + 200) (ks + 8000) := by
  obtain ⟨ad, σ, ar, ρ, nv, sv, hX, rfl, hR, rfl, hO, hkn, h6⟩ := hG
  refine y_less (k2 := kc + 0 + 2) (n2 := ks + 0 + 12) (by omega) (by omega) ?_
  refine y_blk 5 (tqL_25 nm et) (z := (1338, [(0, .ref b), (1, .ref (ad 1)), (2, .ref (ar 200)), (3, .ref o), (4, .int i)], [.int (i + 1), .ref b, .ref (ad 1)])) rfl ?_
  refine y_sld (tqL_25 nm et) hXs hb rfl (vp_in_add 1 1 rfl (by decide) hi0 hi1 hLL) ?_
  refine y_blk 4 (tqL_25 nm et) (z := (1344, [(0, .ref b), (1, .ref (ad 1)), (2, .ref (ar 200)), (3, .ref o), (4, .int i)], [.int (i + 2), .ref b, .int (xs (Int32.toNatClampNeg (i + 1))), .ref (ad 1)])) rfl ?_
  refine y_sld (tqL_25 nm et) hXs hb rfl (vp_in_add 2 2 rfl (by decide) hi0 hi1 hLL) ?_
  refine y_blk 1 (tqL_25 nm et) (z := (1346, [(0, .ref b), (1, .ref (ad 1)), (2, .ref (ar 200)), (3, .ref o), (4, .int i)], [.ref o, .int (xs (Int32.toNatClampNeg (i + 2))), .int (xs (Int32.toNatClampNeg (i + 1))), .ref (ad 1)])) rfl ?_
  refine y_callSWL hS (tqL_25 nm et) (As := [.ref (ad 1), .int (xs (Int32.toNatClampNeg (i + 1))), .int (xs (Int32.toNatClampNeg (i + 2))), .ref o]) rfl csw_L_217 (m_L_ofWireV hS hX hO (xs (Int32.toNatClampNeg (i + 1))) (xs (Int32.toNatClampNeg (i + 2)))) rfl (by decide) (Nat.le_of_ble_eq_true rfl) (fun r1 G1 q1 => ?_)
  obtain ⟨σ1, nv1, sv1, hX1, hO1, kt1, ha1⟩ := q1
  have hv1 : ∃ v1 : Int32, r1 = some (.int v1) := by rcases ha1 with h9 | h9 | h9 <;> exact ⟨_, h9.2.1⟩
  obtain ⟨v1, rfl⟩ := hv1
  have hR1 := hR.lk kt1
  refine y_blk 6 (tqL_25 nm et) (z := (1357, [(5, .int v1), (0, .ref b), (1, .ref (ad 1)), (2, .ref (ar 200)), (3, .ref o), (4, .int i)], [.int (i + 1), .ref b, .ref (ar 200)])) rfl ?_
  refine y_sld (tqL_25 nm et) hXs hb rfl (vp_in_add 1 1 rfl (by decide) hi0 hi1 hLL) ?_
  refine y_blk 4 (tqL_25 nm et) (z := (1363, [(5, .int v1), (0, .ref b), (1, .ref (ad 1)), (2, .ref (ar 200)), (3, .ref o), (4, .int i)], [.int (i + 2), .ref b, .int (xs (Int32.toNatClampNeg (i + 1))), .ref (ar 200)])) rfl ?_
  refine y_sld (tqL_25 nm et) hXs hb rfl (vp_in_add 2 2 rfl (by decide) hi0 hi1 hLL) ?_
  refine y_blk 0 (tqL_25 nm et) (z := (1364, [(5, .int v1), (0, .ref b), (1, .ref (ad 1)), (2, .ref (ar 200)), (3, .ref o), (4, .int i)], [.int (xs (Int32.toNatClampNeg (i + 2))), .int (xs (Int32.toNatClampNeg (i + 1))), .ref (ar 200)])) rfl ?_
  refine y_callVL hS (tqL_25 nm et) (As := [.int (xs (Int32.toNatClampNeg (i + 1))), .int (xs (Int32.toNatClampNeg (i + 2)))]) rfl cv_L_219 hR1.m (m_X12_ofWire_v hS hI hR1 (xs (Int32.toNatClampNeg (i + 1))) (xs (Int32.toNatClampNeg (i + 2)))) rfl (by decide) (Nat.le_of_ble_eq_true rfl) (fun r2 G2 q2 => ?_)
  obtain ⟨⟨v2, rfl⟩, ar2, ρ2, hR2, e2, kt2, ha2⟩ := q2
  have hag := cx_ofWire hR.2 hkn ha1 ha2
  have hX2 := hX1.kp kt2 (fun t _ h9 => Or.inl h9)
  have hO2 := kt2 _ _ _ hO1 (Or.inr (Nat.le_refl _))
  refine y_blk 2 (tqL_25 nm et) (z := (1663, [(6, .int v2), (5, .int v1), (0, .ref b), (1, .ref (ad 1)), (2, .ref (ar 200)), (3, .ref o), (4, .int i)], [])) rfl ?_
  refine y_pick (L2 := [(0, .ref b), (1, .ref (ad 1)), (2, .ref (ar 200)), (3, .ref o), (4, .int i)]) [2, 3, 4, 5, 6] rfl ?_
  exact kk _ ⟨ad, σ1, ar2, ρ2, nv1, sv1, hX2, rfl, hR2, e2, hO2, hag.1, hag.1.A.1⟩
set_option maxHeartbeats 4000000 in
set_option maxRecDepth 100000 in
theorem law_26 (hS : yS l S0 A0 D aC) (hI : yIc S0 ic de) (hXs : va_X b LL xs S0 S0.heap) (hb : b < S0.heap.size) (hi0 : 0 ≤ i.toInt) (hi1 : i.toInt + 5 ≤ (LL : Int)) (hLL : LL ≤ 2560) (hG : LSt aC ic de x m o G) (kk : ∀ G1, LSt aC ic de x m o G1 → Y l S0 D (K_L_law nm et) 1300 mc ms Q X 1663 [(0, .ref b), (1, .ref x), (2, .ref m), (3, .ref o), (4, .int i)] [] G1 kc ks) : Y l S0 D (K_L_law nm et) 1300 mc ms Q X 1372 [(0, .ref b), (1, .ref x), (2, .ref m), (3, .ref o), (4, .int i)] [] G (kc + 200) (ks + 8000) := by
  obtain ⟨ad, σ, ar, ρ, nv, sv, hX, rfl, hR, rfl, hO, hkn, h6⟩ := hG
  refine y_less (k2 := kc + 62 + 3) (n2 := ks + 3968 + 18) (by omega) (by omega) ?_
  refine y_blk 5 (tqL_26 nm et) (z := (1378, [(0, .ref b), (1, .ref (ad 1)), (2, .ref (ar 200)), (3, .ref o), (4, .int i)], [.int (i + 1), .ref b, .ref (ad 1)])) rfl ?_
  refine y_sld (tqL_26 nm et) hXs hb rfl (vp_in_add 1 1 rfl (by decide) hi0 hi1 hLL) ?_
  refine y_blk 4 (tqL_26 nm et) (z := (1384, [(0, .ref b), (1, .ref (ad 1)), (2, .ref (ar 200)), (3, .ref o), (4, .int i)], [.int (i + 2), .ref b, .int (xs (Int32.toNatClampNeg (i + 1))), .ref (ad 1)])) rfl ?_
  refine y_sld (tqL_26 nm et) hXs hb rfl (vp_in_add 2 2 rfl (by decide) hi0 hi1 hLL) ?_
  refine y_blk 4 (tqL_26 nm et) (z := (1390, [(0, .ref b), (1, .ref (ad 1)), (2, .ref (ar 200)), (3, .ref o), (4, .int i)], [.int (i + 3), .ref b, .int (xs (Int32.toNatClampNeg (i + 2))), .int (xs (Int32.toNatClampNeg (i + 1))), .ref (ad 1)])) rfl ?_
  refine y_sld (tqL_26 nm et) hXs hb rfl (vp_in_add 3 3 rfl (by decide) hi0 hi1 hLL) ?_
  refine y_blk 4 (tqL_26 nm et) (z := (1396, [(0, .ref b), (1, .ref (ad 1)), (2, .ref (ar 200)), (3, .ref o), (4, .int i)], [.int (i + 4), .ref b, .int (xs (Int32.toNatClampNeg (i + 3))), .int (xs (Int32.toNatClampNeg (i + 2))), .int (xs (Int32.toNatClampNeg (i + 1))), .ref (ad 1)])) rfl ?_
  refine y_sld (tqL_26 nm et) hXs hb rfl (vp_in_add 4 4 rfl (by decide) hi0 hi1 hLL) ?_
  refine y_blk 1 (tqL_26 nm et) (z := (1398, [(0, .ref b), (1, .ref (ad 1)), (2, .ref (ar 200)), (3, .ref o), (4, .int i)], [.ref o, .int (xs (Int32.toNatClampNeg (i + 4))), .int (xs (Int32.toNatClampNeg (i + 3))), .int (xs (Int32.toNatClampNeg (i + 2))), .int (xs (Int32.toNatClampNeg (i + 1))), .ref (ad 1)])) rfl ?_
  refine y_callSWL hS (tqL_26 nm et) (As := [.ref (ad 1), .int (xs (Int32.toNatClampNeg (i + 1))), .int (xs (Int32.toNatClampNeg (i + 2))), .int (xs (Int32.toNatClampNeg (i + 3))), .int (xs (Int32.toNatClampNeg (i + 4))), .ref o]) rfl csw_L_220 (m_L_sneak hS hX hO (xs (Int32.toNatClampNeg (i + 1))) (xs (Int32.toNatClampNeg (i + 2))) (xs (Int32.toNatClampNeg (i + 3))) (xs (Int32.toNatClampNeg (i + 4)))) rfl (by decide) (Nat.le_of_ble_eq_true rfl) (fun r1 G1 q1 => ?_)
  obtain ⟨⟨v1, rfl⟩, σ1, nv1, sv1, hX1, hkn1, hO1, kt1⟩ := q1
  have hR1 := hR.lk kt1
  refine y_blk 6 (tqL_26 nm et) (z := (1409, [(5, .int v1), (0, .ref b), (1, .ref (ad 1)), (2, .ref (ar 200)), (3, .ref o), (4, .int i)], [.int (i + 1), .ref b, .ref (ar 200)])) rfl ?_
  refine y_sld (tqL_26 nm et) hXs hb rfl (vp_in_add 1 1 rfl (by decide) hi0 hi1 hLL) ?_
  refine y_blk 4 (tqL_26 nm et) (z := (1415, [(5, .int v1), (0, .ref b), (1, .ref (ad 1)), (2, .ref (ar 200)), (3, .ref o), (4, .int i)], [.int (i + 2), .ref b, .int (xs (Int32.toNatClampNeg (i + 1))), .ref (ar 200)])) rfl ?_
  refine y_sld (tqL_26 nm et) hXs hb rfl (vp_in_add 2 2 rfl (by decide) hi0 hi1 hLL) ?_
  refine y_blk 4 (tqL_26 nm et) (z := (1421, [(5, .int v1), (0, .ref b), (1, .ref (ad 1)), (2, .ref (ar 200)), (3, .ref o), (4, .int i)], [.int (i + 3), .ref b, .int (xs (Int32.toNatClampNeg (i + 2))), .int (xs (Int32.toNatClampNeg (i + 1))), .ref (ar 200)])) rfl ?_
  refine y_sld (tqL_26 nm et) hXs hb rfl (vp_in_add 3 3 rfl (by decide) hi0 hi1 hLL) ?_
  refine y_blk 4 (tqL_26 nm et) (z := (1427, [(5, .int v1), (0, .ref b), (1, .ref (ad 1)), (2, .ref (ar 200)), (3, .ref o), (4, .int i)], [.int (i + 4), .ref b, .int (xs (Int32.toNatClampNeg (i + 3))), .int (xs (Int32.toNatClampNeg (i + 2))), .int (xs (Int32.toNatClampNeg (i + 1))), .ref (ar 200)])) rfl ?_
  refine y_sld (tqL_26 nm et) hXs hb rfl (vp_in_add 4 4 rfl (by decide) hi0 hi1 hLL) ?_
  refine y_blk 0 (tqL_26 nm et) (z := (1428, [(5, .int v1), (0, .ref b), (1, .ref (ad 1)), (2, .ref (ar 200)), (3, .ref o), (4, .int i)], [.int (xs (Int32.toNatClampNeg (i + 4))), .int (xs (Int32.toNatClampNeg (i + 3))), .int (xs (Int32.toNatClampNeg (i + 2))), .int (xs (Int32.toNatClampNeg (i + 1))), .ref (ar 200)])) rfl ?_
  refine y_callVL hS (tqL_26 nm et) (As := [.int (xs (Int32.toNatClampNeg (i + 1))), .int (xs (Int32.toNatClampNeg (i + 2))), .int (xs (Int32.toNatClampNeg (i + 3))), .int (xs (Int32.toNatClampNeg (i + 4)))]) rfl cv_L_222 hR1.m (m_X12_sneak hS hI hR1 (xs (Int32.toNatClampNeg (i + 1))) (xs (Int32.toNatClampNeg (i + 2))) (xs (Int32.toNatClampNeg (i + 3))) (xs (Int32.toNatClampNeg (i + 4)))) rfl (by decide) (Nat.le_of_ble_eq_true rfl) (fun r2 G2 q2 => ?_)
  obtain ⟨⟨v2, rfl⟩, ar2, ρ2, hR2, e2, kt2, hrel⟩ := q2
  have hX2 := hX1.kp kt2 (fun t _ h9 => Or.inl h9)
  have hO2 := kt2 _ _ _ hO1 (Or.inr (Nat.le_refl _))
  refine y_blk 2 (tqL_26 nm et) (z := (1663, [(6, .int v2), (5, .int v1), (0, .ref b), (1, .ref (ad 1)), (2, .ref (ar 200)), (3, .ref o), (4, .int i)], [])) rfl ?_
  refine y_pick (L2 := [(0, .ref b), (1, .ref (ad 1)), (2, .ref (ar 200)), (3, .ref o), (4, .int i)]) [2, 3, 4, 5, 6] rfl ?_
  exact kk _ ⟨ad, σ1, ar2, ρ2, nv1, sv1, hX2, rfl, hR2, e2, hO2, ((hkn.kpX hkn1)).kpR hR.2 hrel, (((hkn.kpX hkn1)).kpR hR.2 hrel).A.1⟩
set_option maxHeartbeats 4000000 in
set_option maxRecDepth 100000 in
theorem law_27 (hS : yS l S0 A0 D aC) (hI : yIc S0 ic de) (hXs : va_X b LL xs S0 S0.heap) (hb : b < S0.heap.size) (hi0 : 0 ≤ i.toInt) (hi1 : i.toInt + 5 ≤ (LL : Int)) (hLL : LL ≤ 2560) (hG : LSt aC ic de x m o G) (kk : ∀ G1, LSt aC ic de x m o G1 → Y l S0 D (K_L_law nm et) 1300 mc ms Q X 1663 [(0, .ref b), (1, .ref x), (2, .ref m), (3, .ref o), (4, .int i)] [] G1 kc ks) : Y l S0 D (K_L_law nm et) 1300 mc ms Q X 1436 [(0, .ref b), (1, .ref x), (2, .ref m), (3, .ref o), (4, .int i)] [] G (kc + 200) (ks + 8000) := by
  obtain ⟨ad, σ, ar, ρ, nv, sv, hX, rfl, hR, rfl, hO, hkn, h6⟩ := hG
  refine y_less (k2 := kc + 61 + 2) (n2 := ks + 3904 + 12) (by omega) (by omega) ?_
  refine y_blk 5 (tqL_27 nm et) (z := (1442, [(0, .ref b), (1, .ref (ad 1)), (2, .ref (ar 200)), (3, .ref o), (4, .int i)], [.int (i + 1), .ref b, .ref (ad 1)])) rfl ?_
  refine y_sld (tqL_27 nm et) hXs hb rfl (vp_in_add 1 1 rfl (by decide) hi0 hi1 hLL) ?_
  refine y_blk 4 (tqL_27 nm et) (z := (1448, [(0, .ref b), (1, .ref (ad 1)), (2, .ref (ar 200)), (3, .ref o), (4, .int i)], [.int (i + 2), .ref b, .int (xs (Int32.toNatClampNeg (i + 1))), .ref (ad 1)])) rfl ?_
  refine y_sld (tqL_27 nm et) hXs hb rfl (vp_in_add 2 2 rfl (by decide) hi0 hi1 hLL) ?_
  refine y_blk 4 (tqL_27 nm et) (z := (1454, [(0, .ref b), (1, .ref (ad 1)), (2, .ref (ar 200)), (3, .ref o), (4, .int i)], [.int (i + 3), .ref b, .int (xs (Int32.toNatClampNeg (i + 2))), .int (xs (Int32.toNatClampNeg (i + 1))), .ref (ad 1)])) rfl ?_
  refine y_sld (tqL_27 nm et) hXs hb rfl (vp_in_add 3 3 rfl (by decide) hi0 hi1 hLL) ?_
  refine y_blk 1 (tqL_27 nm et) (z := (1456, [(0, .ref b), (1, .ref (ad 1)), (2, .ref (ar 200)), (3, .ref o), (4, .int i)], [.ref o, .int (xs (Int32.toNatClampNeg (i + 3))), .int (xs (Int32.toNatClampNeg (i + 2))), .int (xs (Int32.toNatClampNeg (i + 1))), .ref (ad 1)])) rfl ?_
  refine y_callSWL hS (tqL_27 nm et) (As := [.ref (ad 1), .int (xs (Int32.toNatClampNeg (i + 1))), .int (xs (Int32.toNatClampNeg (i + 2))), .int (xs (Int32.toNatClampNeg (i + 3))), .ref o]) rfl csw_L_223 (m_L_reach hS hX hO (xs (Int32.toNatClampNeg (i + 1))) (xs (Int32.toNatClampNeg (i + 2))) (xs (Int32.toNatClampNeg (i + 3)))) rfl (by decide) (Nat.le_of_ble_eq_true rfl) (fun r1 G1 q1 => ?_)
  obtain ⟨⟨v1, rfl⟩, σ1, nv1, sv1, hX1, hkn1, hO1, kt1⟩ := q1
  have hR1 := hR.lk kt1
  refine y_blk 6 (tqL_27 nm et) (z := (1467, [(5, .int v1), (0, .ref b), (1, .ref (ad 1)), (2, .ref (ar 200)), (3, .ref o), (4, .int i)], [.int (i + 1), .ref b, .ref (ar 200)])) rfl ?_
  refine y_sld (tqL_27 nm et) hXs hb rfl (vp_in_add 1 1 rfl (by decide) hi0 hi1 hLL) ?_
  refine y_blk 4 (tqL_27 nm et) (z := (1473, [(5, .int v1), (0, .ref b), (1, .ref (ad 1)), (2, .ref (ar 200)), (3, .ref o), (4, .int i)], [.int (i + 2), .ref b, .int (xs (Int32.toNatClampNeg (i + 1))), .ref (ar 200)])) rfl ?_
  refine y_sld (tqL_27 nm et) hXs hb rfl (vp_in_add 2 2 rfl (by decide) hi0 hi1 hLL) ?_
  refine y_blk 4 (tqL_27 nm et) (z := (1479, [(5, .int v1), (0, .ref b), (1, .ref (ad 1)), (2, .ref (ar 200)), (3, .ref o), (4, .int i)], [.int (i + 3), .ref b, .int (xs (Int32.toNatClampNeg (i + 2))), .int (xs (Int32.toNatClampNeg (i + 1))), .ref (ar 200)])) rfl ?_
  refine y_sld (tqL_27 nm et) hXs hb rfl (vp_in_add 3 3 rfl (by decide) hi0 hi1 hLL) ?_
  refine y_blk 0 (tqL_27 nm et) (z := (1480, [(5, .int v1), (0, .ref b), (1, .ref (ad 1)), (2, .ref (ar 200)), (3, .ref o), (4, .int i)], [.int (xs (Int32.toNatClampNeg (i + 3))), .int (xs (Int32.toNatClampNeg (i + 2))), .int (xs (Int32.toNatClampNeg (i + 1))), .ref (ar 200)])) rfl ?_
  refine y_callVL hS (tqL_27 nm et) (As := [.int (xs (Int32.toNatClampNeg (i + 1))), .int (xs (Int32.toNatClampNeg (i + 2))), .int (xs (Int32.toNatClampNeg (i + 3)))]) rfl cv_L_225 hR1.m (m_X12_reach hS hI hR1 (xs (Int32.toNatClampNeg (i + 1))) (xs (Int32.toNatClampNeg (i + 2))) (xs (Int32.toNatClampNeg (i + 3)))) rfl (by decide) (Nat.le_of_ble_eq_true rfl) (fun r2 G2 q2 => ?_)
  obtain ⟨⟨v2, rfl⟩, ar2, ρ2, hR2, e2, kt2, hrel⟩ := q2
  have hX2 := hX1.kp kt2 (fun t _ h9 => Or.inl h9)
  have hO2 := kt2 _ _ _ hO1 (Or.inr (Nat.le_refl _))
  refine y_blk 2 (tqL_27 nm et) (z := (1663, [(6, .int v2), (5, .int v1), (0, .ref b), (1, .ref (ad 1)), (2, .ref (ar 200)), (3, .ref o), (4, .int i)], [])) rfl ?_
  refine y_pick (L2 := [(0, .ref b), (1, .ref (ad 1)), (2, .ref (ar 200)), (3, .ref o), (4, .int i)]) [2, 3, 4, 5, 6] rfl ?_
  exact kk _ ⟨ad, σ1, ar2, ρ2, nv1, sv1, hX2, rfl, hR2, e2, hO2, ((hkn.kpX hkn1)).kpR hR.2 hrel, (((hkn.kpX hkn1)).kpR hR.2 hrel).A.1⟩
set_option maxHeartbeats 4000000 in
set_option maxRecDepth 100000 in
theorem law_28 (hS : yS l S0 A0 D aC) (hI : yIc S0 ic de) (hXs : va_X b LL xs S0 S0.heap) (hb : b < S0.heap.size) (hi0 : 0 ≤ i.toInt) (hi1 : i.toInt + 5 ≤ (LL : Int)) (hLL : LL ≤ 2560) (hG : LSt aC ic de x m o G) (kk : ∀ G1, LSt aC ic de x m o G1 → Y l S0 D (K_L_law nm et) 1300 mc ms Q X 1663 [(0, .ref b), (1, .ref x), (2, .ref m), (3, .ref o), (4, .int i)] [] G1 kc ks) : Y l S0 D (K_L_law nm et) 1300 mc ms Q X 1488 [(0, .ref b), (1, .ref x), (2, .ref m), (3, .ref o), (4, .int i)] [] G (kc + 200) (ks + 8000) := by
  obtain ⟨ad, σ, ar, ρ, nv, sv, hX, rfl, hR, rfl, hO, hkn, h6⟩ := hG
  refine y_less (k2 := kc + 128 + 1) (n2 := ks + 832 + 6) (by omega) (by omega) ?_
  refine y_blk 5 (tqL_28 nm et) (z := (1494, [(0, .ref b), (1, .ref (ad 1)), (2, .ref (ar 200)), (3, .ref o), (4, .int i)], [.int (i + 1), .ref b, .ref (ad 1)])) rfl ?_
  refine y_sld (tqL_28 nm et) hXs hb rfl (vp_in_add 1 1 rfl (by decide) hi0 hi1 hLL) ?_
  refine y_blk 4 (tqL_28 nm et) (z := (1500, [(0, .ref b), (1, .ref (ad 1)), (2, .ref (ar 200)), (3, .ref o), (4, .int i)], [.int (i + 2), .ref b, .int (xs (Int32.toNatClampNeg (i + 1))), .ref (ad 1)])) rfl ?_
  refine y_sld (tqL_28 nm et) hXs hb rfl (vp_in_add 2 2 rfl (by decide) hi0 hi1 hLL) ?_
  refine y_blk 4 (tqL_28 nm et) (z := (1506, [(0, .ref b), (1, .ref (ad 1)), (2, .ref (ar 200)), (3, .ref o), (4, .int i)], [.int (i + 3), .ref b, .int (xs (Int32.toNatClampNeg (i + 2))), .int (xs (Int32.toNatClampNeg (i + 1))), .ref (ad 1)])) rfl ?_
  refine y_sld (tqL_28 nm et) hXs hb rfl (vp_in_add 3 3 rfl (by decide) hi0 hi1 hLL) ?_
  refine y_blk 0 (tqL_28 nm et) (z := (1507, [(0, .ref b), (1, .ref (ad 1)), (2, .ref (ar 200)), (3, .ref o), (4, .int i)], [.int (xs (Int32.toNatClampNeg (i + 3))), .int (xs (Int32.toNatClampNeg (i + 2))), .int (xs (Int32.toNatClampNeg (i + 1))), .ref (ad 1)])) rfl ?_
  refine y_if_eq (tqL_28 nm et) 1514 rfl rfl (fun c1 => ?_) (fun c1 => ?_)
  · skip
    refine y_blk 2 (tqL_28 nm et) (z := (1516, [(0, .ref b), (1, .ref (ad 1)), (2, .ref (ar 200)), (3, .ref o), (4, .int i)], [.ref o, .int 0, .int (xs (Int32.toNatClampNeg (i + 2))), .int (xs (Int32.toNatClampNeg (i + 1))), .ref (ad 1)])) rfl ?_
    refine y_callSWL hS (tqL_28 nm et) (As := [.ref (ad 1), .int (xs (Int32.toNatClampNeg (i + 1))), .int (xs (Int32.toNatClampNeg (i + 2))), .int 0, .ref o]) rfl csw_L_226 (m_L_nextLamp hS hX hO (xs (Int32.toNatClampNeg (i + 1))) (xs (Int32.toNatClampNeg (i + 2))) 0) rfl (by decide) (Nat.le_of_ble_eq_true rfl) (fun r1 G1 q1 => ?_)
    obtain ⟨⟨v1, rfl⟩, σ1, nv1, sv1, hX1, hkn1, hO1, kt1⟩ := q1
    have hR1 := hR.lk kt1
    refine y_blk 6 (tqL_28 nm et) (z := (1527, [(5, .int v1), (0, .ref b), (1, .ref (ad 1)), (2, .ref (ar 200)), (3, .ref o), (4, .int i)], [.int (i + 1), .ref b, .ref (ar 200)])) rfl ?_
    refine y_sld (tqL_28 nm et) hXs hb rfl (vp_in_add 1 1 rfl (by decide) hi0 hi1 hLL) ?_
    refine y_blk 4 (tqL_28 nm et) (z := (1533, [(5, .int v1), (0, .ref b), (1, .ref (ad 1)), (2, .ref (ar 200)), (3, .ref o), (4, .int i)], [.int (i + 2), .ref b, .int (xs (Int32.toNatClampNeg (i + 1))), .ref (ar 200)])) rfl ?_
    refine y_sld (tqL_28 nm et) hXs hb rfl (vp_in_add 2 2 rfl (by decide) hi0 hi1 hLL) ?_
    refine y_blk 4 (tqL_28 nm et) (z := (1539, [(5, .int v1), (0, .ref b), (1, .ref (ad 1)), (2, .ref (ar 200)), (3, .ref o), (4, .int i)], [.int (i + 3), .ref b, .int (xs (Int32.toNatClampNeg (i + 2))), .int (xs (Int32.toNatClampNeg (i + 1))), .ref (ar 200)])) rfl ?_
    refine y_sld (tqL_28 nm et) hXs hb rfl (vp_in_add 3 3 rfl (by decide) hi0 hi1 hLL) ?_
    refine y_blk 0 (tqL_28 nm et) (z := (1540, [(5, .int v1), (0, .ref b), (1, .ref (ad 1)), (2, .ref (ar 200)), (3, .ref o), (4, .int i)], [.int (xs (Int32.toNatClampNeg (i + 3))), .int (xs (Int32.toNatClampNeg (i + 2))), .int (xs (Int32.toNatClampNeg (i + 1))), .ref (ar 200)])) rfl ?_
    refine y_if_eq (tqL_28 nm et) 1547 rfl rfl (fun c2 => ?_) (fun c2 => ?_)
    · skip
      refine y_blk 1 (tqL_28 nm et) (z := (1548, [(5, .int v1), (0, .ref b), (1, .ref (ad 1)), (2, .ref (ar 200)), (3, .ref o), (4, .int i)], [.int 0, .int (xs (Int32.toNatClampNeg (i + 2))), .int (xs (Int32.toNatClampNeg (i + 1))), .ref (ar 200)])) rfl ?_
      refine y_callVL hS (tqL_28 nm et) (As := [.int (xs (Int32.toNatClampNeg (i + 1))), .int (xs (Int32.toNatClampNeg (i + 2))), .int 0]) rfl cv_L_229 hR1.m (m_X12_nextLamp hS hI hR1 (xs (Int32.toNatClampNeg (i + 1))) (xs (Int32.toNatClampNeg (i + 2))) 0 h6) rfl (by decide) (Nat.le_of_ble_eq_true rfl) (fun r2 G2 q2 => ?_)
      obtain ⟨⟨v2, rfl⟩, ar2, ρ2, hR2, e2, kt2, hrel⟩ := q2
      have hX2 := hX1.kp kt2 (fun t _ h9 => Or.inl h9)
      have hO2 := kt2 _ _ _ hO1 (Or.inr (Nat.le_refl _))
      refine y_blk 2 (tqL_28 nm et) (z := (1663, [(6, .int v2), (5, .int v1), (0, .ref b), (1, .ref (ad 1)), (2, .ref (ar 200)), (3, .ref o), (4, .int i)], [])) rfl ?_
      refine y_pick (L2 := [(0, .ref b), (1, .ref (ad 1)), (2, .ref (ar 200)), (3, .ref o), (4, .int i)]) [2, 3, 4, 5, 6] rfl ?_
      exact kk _ ⟨ad, σ1, ar2, ρ2, nv1, sv1, hX2, rfl, hR2, e2, hO2, ((hkn.kpX hkn1)).kpR hR.2 hrel, (((hkn.kpX hkn1)).kpR hR.2 hrel).A.1⟩
    · exact absurd c1 c2
  · skip
    refine y_blk 3 (tqL_28 nm et) (z := (1516, [(0, .ref b), (1, .ref (ad 1)), (2, .ref (ar 200)), (3, .ref o), (4, .int i)], [.ref o, .int 1, .int (xs (Int32.toNatClampNeg (i + 2))), .int (xs (Int32.toNatClampNeg (i + 1))), .ref (ad 1)])) rfl ?_
    refine y_callSWL hS (tqL_28 nm et) (As := [.ref (ad 1), .int (xs (Int32.toNatClampNeg (i + 1))), .int (xs (Int32.toNatClampNeg (i + 2))), .int 1, .ref o]) rfl csw_L_226 (m_L_nextLamp hS hX hO (xs (Int32.toNatClampNeg (i + 1))) (xs (Int32.toNatClampNeg (i + 2))) 1) rfl (by decide) (Nat.le_of_ble_eq_true rfl) (fun r1 G1 q1 => ?_)
    obtain ⟨⟨v1, rfl⟩, σ1, nv1, sv1, hX1, hkn1, hO1, kt1⟩ := q1
    have hR1 := hR.lk kt1
    refine y_blk 6 (tqL_28 nm et) (z := (1527, [(5, .int v1), (0, .ref b), (1, .ref (ad 1)), (2, .ref (ar 200)), (3, .ref o), (4, .int i)], [.int (i + 1), .ref b, .ref (ar 200)])) rfl ?_
    refine y_sld (tqL_28 nm et) hXs hb rfl (vp_in_add 1 1 rfl (by decide) hi0 hi1 hLL) ?_
    refine y_blk 4 (tqL_28 nm et) (z := (1533, [(5, .int v1), (0, .ref b), (1, .ref (ad 1)), (2, .ref (ar 200)), (3, .ref o), (4, .int i)], [.int (i + 2), .ref b, .int (xs (Int32.toNatClampNeg (i + 1))), .ref (ar 200)])) rfl ?_
    refine y_sld (tqL_28 nm et) hXs hb rfl (vp_in_add 2 2 rfl (by decide) hi0 hi1 hLL) ?_
    refine y_blk 4 (tqL_28 nm et) (z := (1539, [(5, .int v1), (0, .ref b), (1, .ref (ad 1)), (2, .ref (ar 200)), (3, .ref o), (4, .int i)], [.int (i + 3), .ref b, .int (xs (Int32.toNatClampNeg (i + 2))), .int (xs (Int32.toNatClampNeg (i + 1))), .ref (ar 200)])) rfl ?_
    refine y_sld (tqL_28 nm et) hXs hb rfl (vp_in_add 3 3 rfl (by decide) hi0 hi1 hLL) ?_
    refine y_blk 0 (tqL_28 nm et) (z := (1540, [(5, .int v1), (0, .ref b), (1, .ref (ad 1)), (2, .ref (ar 200)), (3, .ref o), (4, .int i)], [.int (xs (Int32.toNatClampNeg (i + 3))), .int (xs (Int32.toNatClampNeg (i + 2))), .int (xs (Int32.toNatClampNeg (i + 1))), .ref (ar 200)])) rfl ?_
    refine y_if_eq (tqL_28 nm et) 1547 rfl rfl (fun c2 => ?_) (fun c2 => ?_)
    · exact absurd c2 c1
    · skip
      refine y_blk 2 (tqL_28 nm et) (z := (1548, [(5, .int v1), (0, .ref b), (1, .ref (ad 1)), (2, .ref (ar 200)), (3, .ref o), (4, .int i)], [.int 1, .int (xs (Int32.toNatClampNeg (i + 2))), .int (xs (Int32.toNatClampNeg (i + 1))), .ref (ar 200)])) rfl ?_
      refine y_callVL hS (tqL_28 nm et) (As := [.int (xs (Int32.toNatClampNeg (i + 1))), .int (xs (Int32.toNatClampNeg (i + 2))), .int 1]) rfl cv_L_229 hR1.m (m_X12_nextLamp hS hI hR1 (xs (Int32.toNatClampNeg (i + 1))) (xs (Int32.toNatClampNeg (i + 2))) 1 h6) rfl (by decide) (Nat.le_of_ble_eq_true rfl) (fun r2 G2 q2 => ?_)
      obtain ⟨⟨v2, rfl⟩, ar2, ρ2, hR2, e2, kt2, hrel⟩ := q2
      have hX2 := hX1.kp kt2 (fun t _ h9 => Or.inl h9)
      have hO2 := kt2 _ _ _ hO1 (Or.inr (Nat.le_refl _))
      refine y_blk 2 (tqL_28 nm et) (z := (1663, [(6, .int v2), (5, .int v1), (0, .ref b), (1, .ref (ad 1)), (2, .ref (ar 200)), (3, .ref o), (4, .int i)], [])) rfl ?_
      refine y_pick (L2 := [(0, .ref b), (1, .ref (ad 1)), (2, .ref (ar 200)), (3, .ref o), (4, .int i)]) [2, 3, 4, 5, 6] rfl ?_
      exact kk _ ⟨ad, σ1, ar2, ρ2, nv1, sv1, hX2, rfl, hR2, e2, hO2, ((hkn.kpX hkn1)).kpR hR.2 hrel, (((hkn.kpX hkn1)).kpR hR.2 hrel).A.1⟩
set_option maxHeartbeats 4000000 in
set_option maxRecDepth 100000 in
theorem law_29 (hS : yS l S0 A0 D aC) (hI : yIc S0 ic de) (hXs : va_X b LL xs S0 S0.heap) (hb : b < S0.heap.size) (hi0 : 0 ≤ i.toInt) (hi1 : i.toInt + 5 ≤ (LL : Int)) (hLL : LL ≤ 2560) (hG : LSt aC ic de x m o G) (kk : ∀ G1, LSt aC ic de x m o G1 → Y l S0 D (K_L_law nm et) 1300 mc ms Q X 1663 [(0, .ref b), (1, .ref x), (2, .ref m), (3, .ref o), (4, .int i)] [] G1 kc ks) : Y l S0 D (K_L_law nm et) 1300 mc ms Q X 1556 [(0, .ref b), (1, .ref x), (2, .ref m), (3, .ref o), (4, .int i)] [] G (kc + 200) (ks + 8000) := by
  obtain ⟨ad, σ, ar, ρ, nv, sv, hX, rfl, hR, rfl, hO, hkn, h6⟩ := hG
  refine y_less (k2 := kc + 1 + 1) (n2 := ks + 13 + 6) (by omega) (by omega) ?_
  refine y_blk 5 (tqL_29 nm et) (z := (1562, [(0, .ref b), (1, .ref (ad 1)), (2, .ref (ar 200)), (3, .ref o), (4, .int i)], [.int (i + 1), .ref b, .ref (ad 1)])) rfl ?_
  refine y_sld (tqL_29 nm et) hXs hb rfl (vp_in_add 1 1 rfl (by decide) hi0 hi1 hLL) ?_
  refine y_blk 1 (tqL_29 nm et) (z := (1564, [(0, .ref b), (1, .ref (ad 1)), (2, .ref (ar 200)), (3, .ref o), (4, .int i)], [.ref o, .int (xs (Int32.toNatClampNeg (i + 1))), .ref (ad 1)])) rfl ?_
  refine y_callSWL hS (tqL_29 nm et) (As := [.ref (ad 1), .int (xs (Int32.toNatClampNeg (i + 1))), .ref o]) rfl csw_L_230 (m_L_many hS hX hO (xs (Int32.toNatClampNeg (i + 1)))) rfl (by decide) (Nat.le_of_ble_eq_true rfl) (fun r1 G1 q1 => ?_)
  obtain ⟨⟨v1, rfl⟩, σ1, nv1, sv1, hX1, hkn1, hO1, kt1⟩ := q1
  have hR1 := hR.lk kt1
  refine y_blk 6 (tqL_29 nm et) (z := (1575, [(5, .int v1), (0, .ref b), (1, .ref (ad 1)), (2, .ref (ar 200)), (3, .ref o), (4, .int i)], [.int (i + 1), .ref b, .ref (ar 200)])) rfl ?_
  refine y_sld (tqL_29 nm et) hXs hb rfl (vp_in_add 1 1 rfl (by decide) hi0 hi1 hLL) ?_
  refine y_blk 0 (tqL_29 nm et) (z := (1576, [(5, .int v1), (0, .ref b), (1, .ref (ad 1)), (2, .ref (ar 200)), (3, .ref o), (4, .int i)], [.int (xs (Int32.toNatClampNeg (i + 1))), .ref (ar 200)])) rfl ?_
  refine y_callVL hS (tqL_29 nm et) (As := [.int (xs (Int32.toNatClampNeg (i + 1)))]) rfl cv_L_232 hR1.m (m_X12_many hS hI hR1 (xs (Int32.toNatClampNeg (i + 1)))) rfl (by decide) (Nat.le_of_ble_eq_true rfl) (fun r2 G2 q2 => ?_)
  obtain ⟨⟨v2, rfl⟩, ar2, ρ2, hR2, e2, kt2, hrel⟩ := q2
  have hX2 := hX1.kp kt2 (fun t _ h9 => Or.inl h9)
  have hO2 := kt2 _ _ _ hO1 (Or.inr (Nat.le_refl _))
  refine y_blk 2 (tqL_29 nm et) (z := (1663, [(6, .int v2), (5, .int v1), (0, .ref b), (1, .ref (ad 1)), (2, .ref (ar 200)), (3, .ref o), (4, .int i)], [])) rfl ?_
  refine y_pick (L2 := [(0, .ref b), (1, .ref (ad 1)), (2, .ref (ar 200)), (3, .ref o), (4, .int i)]) [2, 3, 4, 5, 6] rfl ?_
  exact kk _ ⟨ad, σ1, ar2, ρ2, nv1, sv1, hX2, rfl, hR2, e2, hO2, ((hkn.kpX hkn1)).kpR hR.2 hrel, (((hkn.kpX hkn1)).kpR hR.2 hrel).A.1⟩
set_option maxHeartbeats 4000000 in
set_option maxRecDepth 100000 in
theorem law_30 (hS : yS l S0 A0 D aC) (hI : yIc S0 ic de) (hXs : va_X b LL xs S0 S0.heap) (hb : b < S0.heap.size) (hi0 : 0 ≤ i.toInt) (hi1 : i.toInt + 5 ≤ (LL : Int)) (hLL : LL ≤ 2560) (hG : LSt aC ic de x m o G) (kk : ∀ G1, LSt aC ic de x m o G1 → Y l S0 D (K_L_law nm et) 1300 mc ms Q X 1663 [(0, .ref b), (1, .ref x), (2, .ref m), (3, .ref o), (4, .int i)] [] G1 kc ks) : Y l S0 D (K_L_law nm et) 1300 mc ms Q X 1584 [(0, .ref b), (1, .ref x), (2, .ref m), (3, .ref o), (4, .int i)] [] G (kc + 200) (ks + 8000) := by
  obtain ⟨ad, σ, ar, ρ, nv, sv, hX, rfl, hR, rfl, hO, hkn, h6⟩ := hG
  refine y_less (k2 := kc + 36 + 6) (n2 := ks + 360 + 52) (by omega) (by omega) ?_
  refine y_blk 5 (tqL_30 nm et) (z := (1590, [(0, .ref b), (1, .ref (ad 1)), (2, .ref (ar 200)), (3, .ref o), (4, .int i)], [.int (i + 1), .ref b, .ref (ad 1)])) rfl ?_
  refine y_sld (tqL_30 nm et) hXs hb rfl (vp_in_add 1 1 rfl (by decide) hi0 hi1 hLL) ?_
  refine y_blk 4 (tqL_30 nm et) (z := (1596, [(0, .ref b), (1, .ref (ad 1)), (2, .ref (ar 200)), (3, .ref o), (4, .int i)], [.int (i + 2), .ref b, .int (xs (Int32.toNatClampNeg (i + 1))), .ref (ad 1)])) rfl ?_
  refine y_sld (tqL_30 nm et) hXs hb rfl (vp_in_add 2 2 rfl (by decide) hi0 hi1 hLL) ?_
  refine y_blk 1 (tqL_30 nm et) (z := (1598, [(0, .ref b), (1, .ref (ad 1)), (2, .ref (ar 200)), (3, .ref o), (4, .int i)], [.ref o, .int (xs (Int32.toNatClampNeg (i + 2))), .int (xs (Int32.toNatClampNeg (i + 1))), .ref (ad 1)])) rfl ?_
  refine y_callSWL hS (tqL_30 nm et) (As := [.ref (ad 1), .int (xs (Int32.toNatClampNeg (i + 1))), .int (xs (Int32.toNatClampNeg (i + 2))), .ref o]) rfl csw_L_233 (m_L_drawn hS hX hO (xs (Int32.toNatClampNeg (i + 1))) (xs (Int32.toNatClampNeg (i + 2)))) rfl (by decide) (Nat.le_of_ble_eq_true rfl) (fun r1 G1 q1 => ?_)
  obtain ⟨⟨v1, rfl⟩, σ1, nv1, sv1, hX1, hkn1, hO1, kt1⟩ := q1
  have hR1 := hR.lk kt1
  refine y_blk 6 (tqL_30 nm et) (z := (1609, [(5, .int v1), (0, .ref b), (1, .ref (ad 1)), (2, .ref (ar 200)), (3, .ref o), (4, .int i)], [.int (i + 1), .ref b, .ref (ar 200)])) rfl ?_
  refine y_sld (tqL_30 nm et) hXs hb rfl (vp_in_add 1 1 rfl (by decide) hi0 hi1 hLL) ?_
  refine y_blk 4 (tqL_30 nm et) (z := (1615, [(5, .int v1), (0, .ref b), (1, .ref (ad 1)), (2, .ref (ar 200)), (3, .ref o), (4, .int i)], [.int (i + 2), .ref b, .int (xs (Int32.toNatClampNeg (i + 1))), .ref (ar 200)])) rfl ?_
  refine y_sld (tqL_30 nm et) hXs hb rfl (vp_in_add 2 2 rfl (by decide) hi0 hi1 hLL) ?_
  refine y_blk 0 (tqL_30 nm et) (z := (1616, [(5, .int v1), (0, .ref b), (1, .ref (ad 1)), (2, .ref (ar 200)), (3, .ref o), (4, .int i)], [.int (xs (Int32.toNatClampNeg (i + 2))), .int (xs (Int32.toNatClampNeg (i + 1))), .ref (ar 200)])) rfl ?_
  refine y_callVL hS (tqL_30 nm et) (As := [.int (xs (Int32.toNatClampNeg (i + 1))), .int (xs (Int32.toNatClampNeg (i + 2)))]) rfl cv_L_235 hR1.m (m_X12_drawn hS hI hR1 (xs (Int32.toNatClampNeg (i + 1))) (xs (Int32.toNatClampNeg (i + 2)))) rfl (by decide) (Nat.le_of_ble_eq_true rfl) (fun r2 G2 q2 => ?_)
  obtain ⟨⟨v2, rfl⟩, ar2, ρ2, hR2, e2, kt2, hrel⟩ := q2
  have hX2 := hX1.kp kt2 (fun t _ h9 => Or.inl h9)
  have hO2 := kt2 _ _ _ hO1 (Or.inr (Nat.le_refl _))
  refine y_blk 2 (tqL_30 nm et) (z := (1663, [(6, .ref v2), (5, .int v1), (0, .ref b), (1, .ref (ad 1)), (2, .ref (ar 200)), (3, .ref o), (4, .int i)], [])) rfl ?_
  refine y_pick (L2 := [(0, .ref b), (1, .ref (ad 1)), (2, .ref (ar 200)), (3, .ref o), (4, .int i)]) [2, 3, 4, 5, 6] rfl ?_
  exact kk _ ⟨ad, σ1, ar2, ρ2, nv1, sv1, hX2, rfl, hR2, e2, hO2, ((hkn.kpX hkn1)).kpR hR.2 hrel, (((hkn.kpX hkn1)).kpR hR.2 hrel).A.1⟩
set_option maxHeartbeats 4000000 in
set_option maxRecDepth 100000 in
theorem law_31 (hS : yS l S0 A0 D aC) (hI : yIc S0 ic de) (hXs : va_X b LL xs S0 S0.heap) (hb : b < S0.heap.size) (hi0 : 0 ≤ i.toInt) (hi1 : i.toInt + 5 ≤ (LL : Int)) (hLL : LL ≤ 2560) (hG : LSt aC ic de x m o G) (kk : ∀ G1, LSt aC ic de x m o G1 → Y l S0 D (K_L_law nm et) 1300 mc ms Q X 1663 [(0, .ref b), (1, .ref x), (2, .ref m), (3, .ref o), (4, .int i)] [] G1 kc ks) : Y l S0 D (K_L_law nm et) 1300 mc ms Q X 1624 [(0, .ref b), (1, .ref x), (2, .ref m), (3, .ref o), (4, .int i)] [] G (kc + 200) (ks + 8000) := by
  obtain ⟨ad, σ, ar, ρ, nv, sv, hX, rfl, hR, rfl, hO, hkn, h6⟩ := hG
  refine y_less (k2 := kc + 0 + 0) (n2 := ks + 0 + 0) (by omega) (by omega) ?_
  refine y_blk 1 (tqL_31 nm et) (z := (1625, [(0, .ref b), (1, .ref (ad 1)), (2, .ref (ar 200)), (3, .ref o), (4, .int i)], [.ref (ad 1)])) rfl ?_
  refine y_callVL hS (tqL_31 nm et) (As := []) rfl cv_L_236 (hX.1 1 _ rfl) (m_X8_isSound hS hX) rfl (by decide) (Nat.le_of_ble_eq_true rfl) (fun r1 G1 q1 => ?_)
  obtain ⟨⟨v1, hv1, rfl⟩, eG1⟩ := q1
  have eG1 := eG1.symm
  subst eG1
  have hX1 := hX
  have hO1 := hO
  have hR1 := hR
  refine y_blk 2 (tqL_31 nm et) (z := (1630, [(0, .ref b), (1, .ref (ad 1)), (2, .ref (ar 200)), (3, .ref o), (4, .int i)], [.ref (ar 200)])) rfl ?_
  refine y_callVL hS (tqL_31 nm et) (As := []) rfl cv_L_240 hR1.m (m_X12_isSound hS hI hR1 ) rfl (by decide) (Nat.le_of_ble_eq_true rfl) (fun r2 G2 q2 => ?_)
  obtain ⟨⟨v2, hv2, rfl⟩, ar2, ρ2, hR2, e2, kt2, hrel⟩ := q2
  have hX2 := hX1.kp kt2 (fun t _ h9 => Or.inl h9)
  have hO2 := kt2 _ _ _ hO1 (Or.inr (Nat.le_refl _))
  refine y_blk 2 (tqL_31 nm et) (z := (1663, [(0, .ref b), (1, .ref (ad 1)), (2, .ref (ar 200)), (3, .ref o), (4, .int i)], [])) rfl ?_
  exact kk _ ⟨ad, σ, ar2, ρ2, nv, sv, hX2, rfl, hR2, e2, hO2, (hkn).kpR hR.2 hrel, ((hkn).kpR hR.2 hrel).A.1⟩
set_option maxHeartbeats 4000000 in
set_option maxRecDepth 100000 in
theorem law_32 (hS : yS l S0 A0 D aC) (hI : yIc S0 ic de) (hXs : va_X b LL xs S0 S0.heap) (hb : b < S0.heap.size) (hi0 : 0 ≤ i.toInt) (hi1 : i.toInt + 5 ≤ (LL : Int)) (hLL : LL ≤ 2560) (hG : LSt aC ic de x m o G) (kk : ∀ G1, LSt aC ic de x m o G1 → Y l S0 D (K_L_law nm et) 1300 mc ms Q X 1663 [(0, .ref b), (1, .ref x), (2, .ref m), (3, .ref o), (4, .int i)] [] G1 kc ks) : Y l S0 D (K_L_law nm et) 1300 mc ms Q X 1637 [(0, .ref b), (1, .ref x), (2, .ref m), (3, .ref o), (4, .int i)] [] G (kc + 200) (ks + 8000) := by
  obtain ⟨ad, σ, ar, ρ, nv, sv, hX, rfl, hR, rfl, hO, hkn, h6⟩ := hG
  refine y_less (k2 := kc + 0 + 0) (n2 := ks + 0 + 0) (by omega) (by omega) ?_
  refine y_blk 1 (tqL_32 nm et) (z := (1638, [(0, .ref b), (1, .ref (ad 1)), (2, .ref (ar 200)), (3, .ref o), (4, .int i)], [.ref (ad 1)])) rfl ?_
  refine y_callVL hS (tqL_32 nm et) (As := []) rfl cv_L_241 (hX.1 1 _ rfl) (m_X8_knock hS hX) rfl (by decide) (Nat.le_of_ble_eq_true rfl) (fun r1 G1 q1 => ?_)
  obtain ⟨rfl, hX1, hk1⟩ := q1
  have hO1 : G1 o = some (600, yOut nv sv) := hk1 _ _ _ hO (Or.inr (by decide))
  have hR1 := hR.lk hk1.tg
  refine y_blk 2 (tqL_32 nm et) (z := (1643, [(0, .ref b), (1, .ref (ad 1)), (2, .ref (ar 200)), (3, .ref o), (4, .int i)], [.ref (ar 200)])) rfl ?_
  refine y_callVL hS (tqL_32 nm et) (As := []) rfl cv_L_244 hR1.m (m_X12_knock hS hI hR1 ) rfl (by decide) (Nat.le_of_ble_eq_true rfl) (fun r2 G2 q2 => ?_)
  obtain ⟨rfl, hR2, kt2⟩ := q2
  have hX2 := hX1.kp kt2 (fun t _ h9 => Or.inl h9)
  have hO2 := kt2 _ _ _ hO1 (Or.inr (Nat.le_refl _))
  refine y_blk 2 (tqL_32 nm et) (z := (1663, [(0, .ref b), (1, .ref (ad 1)), (2, .ref (ar 200)), (3, .ref o), (4, .int i)], [])) rfl ?_
  exact kk _ ⟨ad, (xin σ 7 (σ.2.2.1 7 + 1)), ar, (rin (rin ρ 0 0) 9 (rI ρ 9 + 1)), nv, sv, hX2, rfl, hR2, rfl, hO2, hkn.kn, h6⟩
set_option maxHeartbeats 4000000 in
set_option maxRecDepth 100000 in
theorem law_33 (hS : yS l S0 A0 D aC) (hI : yIc S0 ic de) (hXs : va_X b LL xs S0 S0.heap) (hb : b < S0.heap.size) (hi0 : 0 ≤ i.toInt) (hi1 : i.toInt + 5 ≤ (LL : Int)) (hLL : LL ≤ 2560) (hG : LSt aC ic de x m o G) (kk : ∀ G1, LSt aC ic de x m o G1 → Y l S0 D (K_L_law nm et) 1300 mc ms Q X 1663 [(0, .ref b), (1, .ref x), (2, .ref m), (3, .ref o), (4, .int i)] [] G1 kc ks) : Y l S0 D (K_L_law nm et) 1300 mc ms Q X 1650 [(0, .ref b), (1, .ref x), (2, .ref m), (3, .ref o), (4, .int i)] [] G (kc + 200) (ks + 8000) := by
  obtain ⟨ad, σ, ar, ρ, nv, sv, hX, rfl, hR, rfl, hO, hkn, h6⟩ := hG
  refine y_less (k2 := kc + 163 + 0) (n2 := ks + 6799 + 0) (by omega) (by omega) ?_
  refine y_blk 1 (tqL_33 nm et) (z := (1651, [(0, .ref b), (1, .ref (ad 1)), (2, .ref (ar 200)), (3, .ref o), (4, .int i)], [.ref (ad 1)])) rfl ?_
  refine y_callVL hS (tqL_33 nm et) (As := []) rfl cv_L_245 (hX.1 1 _ rfl) (m_X8_digest hS hX) rfl (by decide) (Nat.le_of_ble_eq_true rfl) (fun r1 G1 q1 => ?_)
  obtain ⟨⟨v1, rfl⟩, eG1⟩ := q1
  have eG1 := eG1.symm
  subst eG1
  have hX1 := hX
  have hO1 := hO
  have hR1 := hR
  refine y_blk 0 (tqL_33 nm et) (z := (1654, [(0, .ref b), (1, .ref (ad 1)), (2, .ref (ar 200)), (3, .ref o), (4, .int i)], [.long v1])) rfl ?_
  refine y_pop2 (tqL_33 nm et) rfl ?_
  refine y_blk 1 (tqL_33 nm et) (z := (1656, [(0, .ref b), (1, .ref (ad 1)), (2, .ref (ar 200)), (3, .ref o), (4, .int i)], [.ref (ar 200)])) rfl ?_
  refine y_callVL hS (tqL_33 nm et) (As := []) rfl cv_L_249 hR1.m (m_X12_digest hS hI hR1 ) rfl (by decide) (Nat.le_of_ble_eq_true rfl) (fun r2 G2 q2 => ?_)
  obtain ⟨⟨v2, rfl⟩, ar2, ρ2, hR2, e2, kt2, hrel⟩ := q2
  have hX2 := hX1.kp kt2 (fun t _ h9 => Or.inl h9)
  have hO2 := kt2 _ _ _ hO1 (Or.inr (Nat.le_refl _))
  refine y_blk 0 (tqL_33 nm et) (z := (1659, [(0, .ref b), (1, .ref (ad 1)), (2, .ref (ar 200)), (3, .ref o), (4, .int i)], [.long v2])) rfl ?_
  refine y_pop2 (tqL_33 nm et) rfl ?_
  refine y_blk 1 (tqL_33 nm et) (z := (1663, [(0, .ref b), (1, .ref (ad 1)), (2, .ref (ar 200)), (3, .ref o), (4, .int i)], [])) rfl ?_
  exact kk _ ⟨ad, σ, ar2, ρ2, nv, sv, hX2, rfl, hR2, e2, hO2, (hkn).kpR hR.2 hrel, ((hkn).kpR hR.2 hrel).A.1⟩
end YLY
