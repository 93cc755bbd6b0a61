/-! ===== contracts: the JDK's builders and texts ===== -/
theorem yofN {n : Nat} (h : n < 2147483648) : (Int32.ofNat n).toInt = (n : Int) := Int32.toInt_ofNat_of_lt h
theorem yofS (n : Nat) : Int32.ofNat n + 1 = Int32.ofNat (n + 1) := (Int32.ofNat_add n 1).symm
theorem yofA (n k : Nat) : Int32.ofNat n + Int32.ofNat k = Int32.ofNat (n + k) := (Int32.ofNat_add n k).symm
theorem yofC {n : Nat} (h : n < 2147483648) : (Int32.ofNat n).toNatClampNeg = n := by
  show (Int32.ofNat n).toInt.toNat = n
  rw [yofN h]
  rfl
theorem yof0 {n : Nat} (h : n < 2147483648) : ¬ Int32.ofNat n < 0 := by
  rw [ylt, yofN h]
  have : (0 : Int32).toInt = 0 := by decide
  omega
theorem yofI {n m : Nat} (h : n < m) (hm : m < 2147483648) : vp_in (Int32.ofNat n) m := by
  intro q
  rcases q with q | q
  · exact yof0 (by omega) q
  · rw [yofC (by omega)] at q
    omega
theorem yshr0 (x : Int32) : x >>> ((0 : Int32) &&& 31) = x := by
  have e : (0 : Int32) &&& 31 = 0 := by decide
  rw [e]
  simp
theorem yshl0 (x : Int32) : x <<< ((0 : Int32) &&& 31) = x := by
  have e : (0 : Int32) &&& 31 = 0 := by decide
  rw [e]
  simp
theorem yfit0 : ∀ j : Nat, fits .byte (.int ((fun _ => 0 : Nat → Int32) j)) = true := fun _ => rfl
set_option maxHeartbeats 4000000 in
set_option maxRecDepth 100000 in
theorem m_J5_init_d00df {l : Launch} {S0 : State} {A0 : Array Value} {D : va_G} {aC : Nat → ClassId} {G : AH} (hS : yS l S0 A0 D aC) {a T : Nat} (h0 : T ≠ 0) (hA : G a = some (T, .inr (1, [.null, .int 0, .int 0, .int 0]))) : yM l S0 D yJ5_init_d00df cJ5_init_d00df 2 none 12 1 16 [.ref a, .int 16] G (fun r G1 => r = none ∧ ySB aC G1 a T 0 ∧ yTg (fun t => t ≠ T) G G1) (fun _ _ => False) := by
  refine yM.ofK K_J5_init_d00df rfl (by decide) (Nat.le_of_ble_eq_true rfl) ?_
  refine y_blk 1 tq_J5_init_d00df (z := (1, [(0, .ref a), (1, .int 16)], [.ref a])) rfl ?_
  refine y_objInit hS tq_J5_init_d00df rfl ⟨by decide +kernel, by decide +kernel⟩ (by decide) (by decide) ?_
  refine y_blk 0 tq_J5_init_d00df (z := (4, [(0, .ref a), (1, .int 16)], [])) rfl ?_
  refine y_gets hS tq_J5_init_d00df rfl gs_J5_18 (yCmp hS) ?_
  refine y_blk 0 tq_J5_init_d00df (z := (7, [(0, .ref a), (1, .int 16)], [.int 1])) rfl ?_
  refine y_if_eq tq_J5_init_d00df 25 rfl rfl (fun c1 => absurd c1 (by decide)) (fun _ => ?_)
  refine y_blk 2 tq_J5_init_d00df (z := (12, [(0, .ref a), (1, .int 16)], [.int 16, .ref a])) rfl ?_
  refine y_newa_byte (T + 1) hS tq_J5_init_d00df (kc := 0) (ks := 0) (n := 16) rfl wd_520 (by decide) (by decide) (by decide) (fun v hv => ?_)
  have hle : yLe G (yup G v (T + 1, .inl (aC 3, 16, .inl (fun _ => 0)))) := yLe.new hv
  have hV : (yup G v (T + 1, .inl (aC 3, 16, .inl (fun _ => 0)))) v = some (T + 1, .inl (aC 3, 16, .inl (fun _ => 0))) := yup_s _ _ _
  have hA1 := hle _ _ hA
  generalize yup G v (T + 1, .inl (aC 3, 16, .inl (fun _ => 0))) = G1 at hle hV hA1 ⊢
  refine y_blk 0 tq_J5_init_d00df (z := (14, [(0, .ref a), (1, .int 16)], [.ref v, .ref a])) rfl ?_
  refine y_put hS tq_J5_init_d00df rfl fp_J5_15_J4 hA1 h0 rfl rfl (Nat.le_of_ble_eq_true rfl) ?_
  have hA2 : (yup G1 a (T, .inr (1, [.ref v, .int 0, .int 0, .int 0]))) a = some (T, .inr (1, [.ref v, .int 0, .int 0, .int 0])) := yup_s _ _ _
  have hV2 : (yup G1 a (T, .inr (1, [.ref v, .int 0, .int 0, .int 0]))) v = some (T + 1, .inl (aC 3, 16, .inl (fun _ => 0))) := yup_o hV hA1 (by omega)
  have kt2 : yTg (fun t => t ≠ T) G (yup G1 a (T, .inr (1, [.ref v, .int 0, .int 0, .int 0]))) := (yTg.le hle).trans (yTg.up hA1 (fun q => q rfl))
  change Y _ _ _ _ _ _ _ _ _ _ _ _ (yup G1 a (T, .inr (1, [.ref v, .int 0, .int 0, .int 0]))) _ _
  generalize yup G1 a (T, .inr (1, [.ref v, .int 0, .int 0, .int 0])) = G2 at hA2 hV2 kt2 ⊢
  refine y_blk 2 tq_J5_init_d00df (z := (19, [(0, .ref a), (1, .int 16)], [.int 0, .ref a])) rfl ?_
  refine y_put hS tq_J5_init_d00df rfl fp_J5_22_J4 hA2 h0 rfl rfl (Nat.le_of_ble_eq_true rfl) ?_
  have hA3 : (yup G2 a (T, .inr (1, [.ref v, .int 0, .int 0, .int 0]))) a = some (T, .inr (1, [.ref v, .int 0, .int 0, .int 0])) := yup_s _ _ _
  have hV3 : (yup G2 a (T, .inr (1, [.ref v, .int 0, .int 0, .int 0]))) v = some (T + 1, .inl (aC 3, 16, .inl (fun _ => 0))) := yup_o hV2 hA2 (by omega)
  have kt3 : yTg (fun t => t ≠ T) G (yup G2 a (T, .inr (1, [.ref v, .int 0, .int 0, .int 0]))) := kt2.trans (yTg.up hA2 (fun q => q rfl))
  change Y _ _ _ _ _ _ _ _ _ _ _ _ (yup G2 a (T, .inr (1, [.ref v, .int 0, .int 0, .int 0]))) _ _
  refine y_blk 1 tq_J5_init_d00df (z := (38, [(0, .ref a), (1, .int 16)], [])) rfl ?_
  exact y_vret tq_J5_init_d00df rfl rfl ⟨rfl, ⟨v, _, _, hA3, hV3, yfit0⟩, kt3⟩
set_option maxHeartbeats 4000000 in
set_option maxRecDepth 100000 in
theorem m_J4_init_da8c8 {l : Launch} {S0 : State} {A0 : Array Value} {D : va_G} {aC : Nat → ClassId} {G : AH} (hS : yS l S0 A0 D aC) {a T : Nat} (h0 : T ≠ 0) (hA : G a = some (T, .inr (1, [.null, .int 0, .int 0, .int 0]))) : yM l S0 D yJ4_init_da8c8 cJ4_init_da8c8 1 none 13 1 16 [.ref a] G (fun r G1 => r = none ∧ ySB aC G1 a T 0 ∧ yTg (fun t => t ≠ T) G G1) (fun _ _ => False) := by
  refine yM.ofK K_J4_init_da8c8 rfl (by decide) (Nat.le_of_ble_eq_true rfl) ?_
  refine y_blk 2 tq_J4_init_da8c8 (z := (3, [(0, .ref a)], [.int 16, .ref a])) rfl ?_
  refine y_callI (kc := 0) (ks := 0) hS tq_J4_init_da8c8 rfl (As := [.int 16]) rfl ci_J4_1 (m_J5_init_d00df hS h0 hA) rfl (by decide) (Nat.le_of_ble_eq_true rfl) (fun r1 G1 q1 => ?_) (fun _ _ h9 => h9.elim)
  obtain ⟨rfl, hB, kt⟩ := q1
  refine y_blk 0 tq_J4_init_da8c8 (z := (6, [(0, .ref a)], [])) rfl ?_
  exact y_vret tq_J4_init_da8c8 rfl rfl ⟨rfl, hB, kt⟩
set_option maxHeartbeats 4000000 in
set_option maxRecDepth 100000 in
theorem m_J5_isLatin1_aae02 {l : Launch} {S0 : State} {A0 : Array Value} {D : va_G} {aC : Nat → ClassId} {G : AH} (hS : yS l S0 A0 D aC) {a T : Nat} {v x y : Value} (hA : G a = some (T, .inr (1, [v, .int 0, x, y]))) : yM l S0 D yJ5_isLatin1_aae02 cJ5_isLatin1_aae02 1 (some .boolean) 10 0 0 [.ref a] G (fun r G1 => r = some (.int 1) ∧ G1 = G) (fun _ _ => False) := by
  refine yM.ofK K_J5_isLatin1_aae02 rfl (by decide) (Nat.le_of_ble_eq_true rfl) ?_
  refine y_blk 0 tq_J5_isLatin1_aae02 (z := (0, [(0, .ref a)], [])) rfl ?_
  refine y_gets hS tq_J5_isLatin1_aae02 rfl gs_J5_18 (yCmp hS) ?_
  refine y_blk 0 tq_J5_isLatin1_aae02 (z := (3, [(0, .ref a)], [.int 1])) rfl ?_
  refine y_if_eq tq_J5_isLatin1_aae02 17 rfl rfl (fun c1 => absurd c1 (by decide)) (fun _ => ?_)
  refine y_blk 1 tq_J5_isLatin1_aae02 (z := (7, [(0, .ref a)], [.ref a])) rfl ?_
  refine y_get hS tq_J5_isLatin1_aae02 (v := .int 0) rfl fg_J5_22_J4 hA rfl ?_
  refine y_blk 0 tq_J5_isLatin1_aae02 (z := (10, [(0, .ref a)], [.int 0])) rfl ?_
  refine y_if_ne tq_J5_isLatin1_aae02 17 rfl rfl (fun c1 => absurd rfl c1) (fun _ => ?_)
  refine y_blk 2 tq_J5_isLatin1_aae02 (z := (18, [(0, .ref a)], [.int 1])) rfl ?_
  exact y_zret tq_J5_isLatin1_aae02 rfl rfl rfl ⟨rfl, rfl⟩
set_option maxHeartbeats 4000000 in
set_option maxRecDepth 100000 in
theorem m_J1_canEncode_fc78d {l : Launch} {S0 : State} {A0 : Array Value} {D : va_G} {aC : Nat → ClassId} {G : AH} (hS : yS l S0 A0 D aC) {c : Int32} (hc : c.toInt ≤ 255) : yM l S0 D yJ1_canEncode_fc78d cJ1_canEncode_fc78d 1 (some .boolean) 10 0 0 [.int c] G (fun r G1 => r = some (.int 1) ∧ G1 = G) (fun _ _ => False) := by
  refine yM.ofK K_J1_canEncode_fc78d rfl (by decide) (Nat.le_of_ble_eq_true rfl) ?_
  refine y_blk 2 tq_J1_canEncode_fc78d (z := (4, [(0, .int c)], [.int 255, .int c])) rfl ?_
  refine y_icmp_gt tq_J1_canEncode_fc78d 11 rfl rfl (fun c1 => ?_) (fun _ => ?_)
  · have c2 := ylt.mp c1
    have e : (255 : Int32).toInt = 255 := by decide
    omega
  · skip
    refine y_blk 2 tq_J1_canEncode_fc78d (z := (12, [(0, .int c)], [.int 1])) rfl ?_
    exact y_zret tq_J1_canEncode_fc78d rfl rfl rfl ⟨rfl, rfl⟩
set_option maxHeartbeats 4000000 in
set_option maxRecDepth 100000 in
theorem m_J5_ensureCapacityInternal_d00df {l : Launch} {S0 : State} {A0 : Array Value} {D : va_G} {aC : Nat → ClassId} {G : AH} (hS : yS l S0 A0 D aC) {a T v : Nat} {f : Nat → Int32} {x y : Value} (hA : G a = some (T, .inr (1, [.ref v, .int 0, x, y]))) (hV : G v = some (T + 1, .inl (aC 3, 16, .inl f))) {k : Int32} (hk : k.toInt ≤ 16) (hk0 : 0 ≤ k.toInt) : yM l S0 D yJ5_ensureCapacityInternal_d00df cJ5_ensureCapacityInternal_d00df 3 none 10 0 0 [.ref a, .int k] G (fun r G1 => r = none ∧ G1 = G) (fun _ _ => False) := by
  refine yM.ofK K_J5_ensureCapacityInternal_d00df rfl (by decide) (Nat.le_of_ble_eq_true rfl) ?_
  refine y_blk 1 tq_J5_ensureCapacityInternal_d00df (z := (1, [(0, .ref a), (1, .int k)], [.ref a])) rfl ?_
  refine y_get hS tq_J5_ensureCapacityInternal_d00df (v := .ref v) rfl fg_J5_15_J4 hA rfl ?_
  refine y_blk 0 tq_J5_ensureCapacityInternal_d00df (z := (4, [(0, .ref a), (1, .int k)], [.ref v])) rfl ?_
  refine y_alen (x := (16, .inl f)) hS tq_J5_ensureCapacityInternal_d00df 3 rfl rfl hV ?_
  refine y_blk 1 tq_J5_ensureCapacityInternal_d00df (z := (6, [(0, .ref a), (1, .int k)], [.ref a, .int (Int32.ofNat 16)])) rfl ?_
  refine y_get hS tq_J5_ensureCapacityInternal_d00df (v := .int 0) rfl fg_J5_22_J4 hA rfl ?_
  refine y_blk 5 tq_J5_ensureCapacityInternal_d00df (z := (14, [(2, .int ((Int32.ofNat 16) >>> (0 &&& 31))), (0, .ref a), (1, .int k)], [.int (k - ((Int32.ofNat 16) >>> (0 &&& 31)))])) rfl ?_
  have e16 : (Int32.ofNat 16 >>> (0 &&& 31)) = (16 : Int32) := by decide
  have e17 : (16 : Int32).toInt = 16 := by decide
  have e18 : (0 : Int32).toInt = 0 := by decide
  refine y_if_le tq_J5_ensureCapacityInternal_d00df 38 rfl rfl (fun _ => ?_) (fun c1 => ?_)
  · skip
    refine y_blk 0 tq_J5_ensureCapacityInternal_d00df (z := (38, [(2, .int ((Int32.ofNat 16) >>> (0 &&& 31))), (0, .ref a), (1, .int k)], [])) rfl ?_
    exact y_vret tq_J5_ensureCapacityInternal_d00df rfl rfl ⟨rfl, rfl⟩
  · exact absurd (by rw [e16, yle, ysub (by omega) (by omega)]; omega) c1
set_option maxHeartbeats 4000000 in
set_option maxRecDepth 100000 in
theorem m_J5_append_3fe6f {l : Launch} {S0 : State} {A0 : Array Value} {D : va_G} {aC : Nat → ClassId} {G : AH} (hS : yS l S0 A0 D aC) {a T n : Nat} (h0 : T ≠ 0) (hB : ySB aC G a T n) (hn : n < 16) {c : Int32} (hc : c.toInt ≤ 255) : yM l S0 D yJ5_append_3fe6f cJ5_append_3fe6f 2 (some (.object "java/lang/AbstractStringBuilder")) 12 0 0 [.ref a, .int c] G (fun r G1 => r = some (.ref a) ∧ ySB aC G1 a T (n + 1) ∧ yTg (fun t => t ≠ T ∧ t ≠ T + 1) G G1) (fun _ _ => False) := by
  refine yM.ofK K_J5_append_3fe6f rfl (by decide) (Nat.le_of_ble_eq_true rfl) ?_
  obtain ⟨v, f, ml, hA, hV, hF⟩ := id hB
  have eN : (Int32.ofNat n + 1).toInt = (n : Int) + 1 := by rw [yofS, yofN (by omega)]; omega
  refine y_blk 2 tq_J5_append_3fe6f (z := (2, [(0, .ref a), (1, .int c)], [.ref a, .ref a])) rfl ?_
  refine y_get hS tq_J5_append_3fe6f (v := .int (Int32.ofNat n)) rfl fg_J5_79_J4 hA rfl ?_
  refine y_blk 2 tq_J5_append_3fe6f (z := (7, [(0, .ref a), (1, .int c)], [.int ((Int32.ofNat n) + 1), .ref a])) rfl ?_
  refine y_callU (kc := 0) (ks := 0) hS tq_J5_append_3fe6f (As := [.int (Int32.ofNat n + 1)]) rfl cu_J5_100 hA (m_J5_ensureCapacityInternal_d00df hS hA hV (by omega) (by omega)) rfl (by decide) (Nat.le_of_ble_eq_true rfl) (fun r1 G1 q1 => ?_)
  obtain ⟨rfl, e1⟩ := q1
  have e1 := e1.symm
  subst e1
  refine y_blk 1 tq_J5_append_3fe6f (z := (11, [(0, .ref a), (1, .int c)], [.ref a])) rfl ?_
  refine y_callU (kc := 0) (ks := 0) hS tq_J5_append_3fe6f (As := []) rfl cu_J5_83 hA (m_J5_isLatin1_aae02 hS hA) rfl (by decide) (Nat.le_of_ble_eq_true rfl) (fun r2 G1 q2 => ?_)
  obtain ⟨rfl, e2⟩ := q2
  have e2 := e2.symm
  subst e2
  refine y_blk 0 tq_J5_append_3fe6f (z := (14, [(0, .ref a), (1, .int c)], [.int 1])) rfl ?_
  refine y_if_eq tq_J5_append_3fe6f 45 rfl rfl (fun c1 => absurd c1 (by decide)) (fun _ => ?_)
  refine y_blk 1 tq_J5_append_3fe6f (z := (18, [(0, .ref a), (1, .int c)], [.int c])) rfl ?_
  refine y_callS (kc := 0) (ks := 0) hS tq_J5_append_3fe6f rfl (As := [.int c]) rfl cs_J5_191 (m_J1_canEncode_fc78d hS hc) rfl (by decide) (Nat.le_of_ble_eq_true rfl) (fun r3 G1 q3 => ?_) (fun _ _ h9 => h9.elim)
  obtain ⟨rfl, e3⟩ := q3
  have e3 := e3.symm
  subst e3
  refine y_blk 0 tq_J5_append_3fe6f (z := (21, [(0, .ref a), (1, .int c)], [.int 1])) rfl ?_
  refine y_if_eq tq_J5_append_3fe6f 45 rfl rfl (fun c1 => absurd c1 (by decide)) (fun _ => ?_)
  refine y_blk 1 tq_J5_append_3fe6f (z := (25, [(0, .ref a), (1, .int c)], [.ref a])) rfl ?_
  refine y_get hS tq_J5_append_3fe6f (v := .ref v) rfl fg_J5_15_J4 hA rfl ?_
  refine y_blk 2 tq_J5_append_3fe6f (z := (30, [(0, .ref a), (1, .int c)], [.ref a, .ref a, .ref v])) rfl ?_
  refine y_get hS tq_J5_append_3fe6f (v := .int (Int32.ofNat n)) rfl fg_J5_79_J4 hA rfl ?_
  refine y_blk 3 tq_J5_append_3fe6f (z := (36, [(0, .ref a), (1, .int c)], [.int ((Int32.ofNat n) + 1), .ref a, .int (Int32.ofNat n), .ref v])) rfl ?_
  refine y_put hS tq_J5_append_3fe6f rfl fp_J5_79_J4 hA h0 rfl rfl (Nat.le_of_ble_eq_true rfl) ?_
  have hA2 : (yup G a (T, .inr (1, [.ref v, .int 0, ml, .int (Int32.ofNat n + 1)]))) a = some (T, .inr (1, [.ref v, .int 0, ml, .int (Int32.ofNat n + 1)])) := yup_s _ _ _
  have hV2 : (yup G a (T, .inr (1, [.ref v, .int 0, ml, .int (Int32.ofNat n + 1)]))) v = some (T + 1, .inl (aC 3, 16, .inl f)) := yup_o hV hA (by omega)
  have kt2 : yTg (fun t => t ≠ T ∧ t ≠ T + 1) G (yup G a (T, .inr (1, [.ref v, .int 0, ml, .int (Int32.ofNat n + 1)]))) := yTg.up hA (fun q => q.1 rfl)
  change Y _ _ _ _ _ _ _ _ _ _ _ _ (yup G a (T, .inr (1, [.ref v, .int 0, ml, .int (Int32.ofNat n + 1)]))) _ _
  generalize yup G a (T, .inr (1, [.ref v, .int 0, ml, .int (Int32.ofNat n + 1)])) = G2 at hA2 hV2 kt2 ⊢
  refine y_blk 2 tq_J5_append_3fe6f (z := (41, [(0, .ref a), (1, .int c)], [.int ((Int32.toInt8 c).toInt32), .int (Int32.ofNat n), .ref v])) rfl ?_
  refine y_bast hS tq_J5_append_3fe6f rfl hV2 (by omega) (yofI hn (by decide)) ?_
  have hA3 := yup_o (ea1 := .inl (aC 3, 16, .inl (upd f (Int32.ofNat n).toNatClampNeg (vp_nar .byte (Int32.toInt8 c).toInt32)))) hA2 hV2 (by omega)
  rw [yofS] at hA3
  refine y_blk 2 tq_J5_append_3fe6f (z := (76, [(0, .ref a), (1, .int c)], [.ref a])) rfl ?_
  exact y_aret tq_J5_append_3fe6f rfl rfl (Or.inl ⟨_, rfl⟩) (Or.inr ⟨_, rfl⟩) ⟨rfl, ⟨v, _, ml, hA3, yup_s _ _ _, yfit_upd hF _ _⟩, kt2.trans (yTg.up hV2 (fun q => q.2 rfl))⟩
set_option maxHeartbeats 4000000 in
set_option maxRecDepth 100000 in
theorem m_J4_append_cf468 {l : Launch} {S0 : State} {A0 : Array Value} {D : va_G} {aC : Nat → ClassId} {G : AH} (hS : yS l S0 A0 D aC) {a T n : Nat} (h0 : T ≠ 0) (hB : ySB aC G a T n) (hn : n < 16) {c : Int32} (hc : c.toInt ≤ 255) : yM l S0 D yJ4_append_cf468 cJ4_append_cf468 2 (some (.object "java/lang/StringBuilder")) 13 0 0 [.ref a, .int c] G (fun r G1 => r = some (.ref a) ∧ ySB aC G1 a T (n + 1) ∧ yTg (fun t => t ≠ T ∧ t ≠ T + 1) G G1) (fun _ _ => False) := by
  refine yM.ofK K_J4_append_cf468 rfl (by decide) (Nat.le_of_ble_eq_true rfl) ?_
  obtain ⟨v, f, ml, hA, hV, hF⟩ := id hB
  refine y_blk 2 tq_J4_append_cf468 (z := (2, [(0, .ref a), (1, .int c)], [.int c, .ref a])) rfl ?_
  refine y_callSU (kc := 0) (ks := 0) hS tq_J4_append_cf468 (As := [.int c]) rfl csu_J4_50 hA (m_J5_append_3fe6f hS h0 hB hn hc) rfl (by decide) (Nat.le_of_ble_eq_true rfl) (fun r1 G1 q1 => ?_)
  obtain ⟨rfl, hB1, kt⟩ := q1
  refine y_blk 2 tq_J4_append_cf468 (z := (7, [(0, .ref a), (1, .int c)], [.ref a])) rfl ?_
  exact y_aret tq_J4_append_cf468 rfl rfl (Or.inl ⟨_, rfl⟩) (Or.inr ⟨_, rfl⟩) ⟨rfl, hB1, kt⟩
set_option maxHeartbeats 4000000 in
set_option maxRecDepth 100000 in
theorem m_J5_length_8abf5 {l : Launch} {S0 : State} {A0 : Array Value} {D : va_G} {aC : Nat → ClassId} {G : AH} (hS : yS l S0 A0 D aC) {a T : Nat} {v x y : Value} {z : Int32} (hA : G a = some (T, .inr (1, [v, x, y, .int z]))) : yM l S0 D yJ5_length_8abf5 cJ5_length_8abf5 1 (some .int) 10 0 0 [.ref a] G (fun r G1 => r = some (.int z) ∧ G1 = G) (fun _ _ => False) := by
  refine yM.ofK K_J5_length_8abf5 rfl (by decide) (Nat.le_of_ble_eq_true rfl) ?_
  refine y_blk 1 tq_J5_length_8abf5 (z := (1, [(0, .ref a)], [.ref a])) rfl ?_
  refine y_get hS tq_J5_length_8abf5 (v := .int z) rfl fg_J5_79_J4 hA rfl ?_
  refine y_blk 0 tq_J5_length_8abf5 (z := (4, [(0, .ref a)], [.int z])) rfl ?_
  exact y_iret tq_J5_length_8abf5 rfl rfl ⟨rfl, rfl⟩
set_option maxHeartbeats 4000000 in
set_option maxRecDepth 100000 in
theorem m_J4_length_8abf5 {l : Launch} {S0 : State} {A0 : Array Value} {D : va_G} {aC : Nat → ClassId} {G : AH} (hS : yS l S0 A0 D aC) {a T : Nat} {v x y : Value} {z : Int32} (hA : G a = some (T, .inr (1, [v, x, y, .int z]))) : yM l S0 D yJ4_length_8abf5 cJ4_length_8abf5 1 (some .int) 11 0 0 [.ref a] G (fun r G1 => r = some (.int z) ∧ G1 = G) (fun _ _ => False) := by
  refine yM.ofK K_J4_length_8abf5 rfl (by decide) (Nat.le_of_ble_eq_true rfl) ?_
  refine y_blk 1 tq_J4_length_8abf5 (z := (1, [(0, .ref a)], [.ref a])) rfl ?_
  refine y_callSU (kc := 0) (ks := 0) hS tq_J4_length_8abf5 (As := []) rfl csu_J4_343 hA (m_J5_length_8abf5 hS hA) rfl (by decide) (Nat.le_of_ble_eq_true rfl) (fun r1 G1 q1 => ?_)
  obtain ⟨rfl, e1⟩ := q1
  have e1 := e1.symm
  subst e1
  refine y_blk 0 tq_J4_length_8abf5 (z := (4, [(0, .ref a)], [.int z])) rfl ?_
  exact y_iret tq_J4_length_8abf5 rfl rfl ⟨rfl, rfl⟩
set_option maxHeartbeats 4000000 in
set_option maxRecDepth 100000 in
theorem m_J5_getValue_6d5f1 {l : Launch} {S0 : State} {A0 : Array Value} {D : va_G} {aC : Nat → ClassId} {G : AH} (hS : yS l S0 A0 D aC) {a T v : Nat} {x y z : Value} (hA : G a = some (T, .inr (1, [.ref v, x, y, z]))) : yM l S0 D yJ5_getValue_6d5f1 cJ5_getValue_6d5f1 1 (some (.array .byte)) 10 0 0 [.ref a] G (fun r G1 => r = some (.ref v) ∧ G1 = G) (fun _ _ => False) := by
  refine yM.ofK K_J5_getValue_6d5f1 rfl (by decide) (Nat.le_of_ble_eq_true rfl) ?_
  refine y_blk 1 tq_J5_getValue_6d5f1 (z := (1, [(0, .ref a)], [.ref a])) rfl ?_
  refine y_get hS tq_J5_getValue_6d5f1 (v := .ref v) rfl fg_J5_15_J4 hA rfl ?_
  refine y_blk 0 tq_J5_getValue_6d5f1 (z := (4, [(0, .ref a)], [.ref v])) rfl ?_
  exact y_aret tq_J5_getValue_6d5f1 rfl rfl (Or.inr ⟨_, rfl⟩) (Or.inr ⟨_, rfl⟩) ⟨rfl, rfl⟩
set_option maxHeartbeats 4000000 in
set_option maxRecDepth 100000 in
theorem m_J7_checkLength_df160 {l : Launch} {S0 : State} {A0 : Array Value} {D : va_G} {aC : Nat → ClassId} {G : AH} (hS : yS l S0 A0 D aC) {k : Int32} (hk : 0 ≤ k.toInt) : yM l S0 D yJ7_checkLength_df160 cJ7_checkLength_df160 2 none 10 0 0 [.int 0, .int k] G (fun r G1 => r = none ∧ G1 = G) (fun _ _ => False) := by
  refine yM.ofK K_J7_checkLength_df160 rfl (by decide) (Nat.le_of_ble_eq_true rfl) ?_
  refine y_blk 2 tq_J7_checkLength_df160 (z := (2, [(0, .int 0), (1, .int k)], [.int 0, .int k])) rfl ?_
  have e18 : (0 : Int32).toInt = 0 := by decide
  refine y_icmp_ge tq_J7_checkLength_df160 37 rfl rfl (fun _ => ?_) (fun c1 => absurd (yle.mpr (by omega)) c1)
  refine y_blk 0 tq_J7_checkLength_df160 (z := (37, [(0, .int 0), (1, .int k)], [])) rfl ?_
  exact y_vret tq_J7_checkLength_df160 rfl rfl ⟨rfl, rfl⟩
set_option maxHeartbeats 4000000 in
set_option maxRecDepth 100000 in
theorem m_J7_copyOfRangeByte_39247 {l : Launch} {S0 : State} {A0 : Array Value} {D : va_G} {aC : Nat → ClassId} {G : AH} (hS : yS l S0 A0 D aC) {T1 : Nat} (ht : T1 ≠ 0) {v T0 : Nat} {f : Nat → Int32} (hV : G v = some (T0, .inl (aC 3, 16, .inl f))) (hF : ∀ j, fits .byte (.int (f j)) = true) {n : Nat} (hn : n ≤ 16) : yM l S0 D yJ7_copyOfRangeByte_39247 cJ7_copyOfRangeByte_39247 5 (some (.array .byte)) 14 1 16 [.ref v, .int 0, .int (Int32.ofNat n)] G (fun r G1 => ∃ (q : Nat) (g : Nat → Int32), r = some (.ref q) ∧ G1 q = some (T1, .inl (aC 3, n, .inl g)) ∧ (∀ j, fits .byte (.int (g j)) = true) ∧ yTg (fun t => t ≠ T1) G G1) (fun _ _ => False) := by
  refine yM.ofK K_J7_copyOfRangeByte_39247 rfl (by decide) (Nat.le_of_ble_eq_true rfl) ?_
  have eN := yofN (n := n) (by omega)
  have e0 : Int32.ofNat n - 0 = Int32.ofNat n := Int32.sub_zero _
  have e16 : Int32.ofNat 16 - 0 = (16 : Int32) := by decide
  have emin : (if Int32.ofNat n - 0 < Int32.ofNat 16 - 0 then Int32.ofNat n - 0 else Int32.ofNat 16 - 0) = Int32.ofNat n := by
      rw [e0, e16]
      split
      · rfl
      · next hc => exact Int32.toInt_inj.mp (by rw [ylt] at hc; rw [show (16 : Int32).toInt = 16 from by decide] at hc ⊢; rw [yofN (by omega)] at hc ⊢; omega)
  have e2 : (16 : Int32).toInt = 16 := by decide
  refine y_less (k2 := 0 + 1) (n2 := 0 + n) (by omega) (by omega) ?_
  refine y_blk 2 tq_J7_copyOfRangeByte_39247 (z := (2, [(0, .ref v), (1, .int 0), (2, .int (Int32.ofNat n))], [.int (Int32.ofNat n), .int 0])) rfl ?_
  refine y_callS (kc := 0 + 1) (ks := 0 + n) hS tq_J7_copyOfRangeByte_39247 rfl (As := [.int 0, .int (Int32.ofNat n)]) rfl cs_J7_343 (m_J7_checkLength_df160 hS (by omega)) rfl (by decide) (Nat.le_of_ble_eq_true rfl) (fun r1 G1 q1 => ?_) (fun _ _ h9 => h9.elim)
  obtain ⟨rfl, e1⟩ := q1
  have e1 := e1.symm
  subst e1
  refine y_blk 5 tq_J7_copyOfRangeByte_39247 (z := (10, [(3, .int ((Int32.ofNat n) - 0)), (0, .ref v), (1, .int 0), (2, .int (Int32.ofNat n))], [.int ((Int32.ofNat n) - 0)])) rfl ?_
  refine y_newa_byte T1 hS tq_J7_copyOfRangeByte_39247 (kc := 0) (ks := 0) (n := n) rfl wd_520 (by rw [e0]; exact yof0 (by omega)) (by rw [e0]; exact yofC (by omega)) (by omega) (fun q hq => ?_)
  have hle : yLe G (yup G q (T1, .inl (aC 3, n, .inl (fun _ => 0)))) := yLe.new hq
  have hQ : (yup G q (T1, .inl (aC 3, n, .inl (fun _ => 0)))) q = some (T1, .inl (aC 3, n, .inl (fun _ => 0))) := yup_s _ _ _
  have hV1 := hle _ _ hV
  generalize yup G q (T1, .inl (aC 3, n, .inl (fun _ => 0))) = G1 at hle hQ hV1 ⊢
  refine y_blk 6 tq_J7_copyOfRangeByte_39247 (z := (20, [(4, .ref q), (3, .int ((Int32.ofNat n) - 0)), (0, .ref v), (1, .int 0), (2, .int (Int32.ofNat n))], [.ref v, .int 0, .ref q, .int 0, .ref v])) rfl ?_
  refine y_alen (x := (16, .inl f)) hS tq_J7_copyOfRangeByte_39247 3 rfl rfl hV1 ?_
  refine y_blk 3 tq_J7_copyOfRangeByte_39247 (z := (24, [(4, .ref q), (3, .int ((Int32.ofNat n) - 0)), (0, .ref v), (1, .int 0), (2, .int (Int32.ofNat n))], [.int ((Int32.ofNat n) - 0), .int ((Int32.ofNat 16) - 0), .int 0, .ref q, .int 0, .ref v])) rfl ?_
  refine y_mmin hS tq_J7_copyOfRangeByte_39247 rfl wd_1362 (Nat.le_of_ble_eq_true rfl) (by decide) ?_
  rw [emin]
  refine y_blk 0 tq_J7_copyOfRangeByte_39247 (z := (27, [(4, .ref q), (3, .int ((Int32.ofNat n) - 0)), (0, .ref v), (1, .int 0), (2, .int (Int32.ofNat n))], [.int (Int32.ofNat n), .int 0, .ref q, .int 0, .ref v])) rfl ?_
  refine y_cpy (P := fun _ => True) (n0 := 16) (n1 := n) hS tq_J7_copyOfRangeByte_39247 rfl wac_J7 wac_n wac_s wac_i (Or.inl ⟨T0, f, trivial, hV1, hF⟩) hQ ht yfit0 (by decide) (by decide) (yof0 (by omega)) (by rw [yofC (by omega)]; show 0 + n ≤ 16; omega) (by rw [yofC (by omega)]; show 0 + n ≤ n; omega) (Nat.le_of_ble_eq_true rfl) (by decide) (fun g1 hg1 => ?_)
  refine y_blk 1 tq_J7_copyOfRangeByte_39247 (z := (32, [(4, .ref q), (3, .int ((Int32.ofNat n) - 0)), (0, .ref v), (1, .int 0), (2, .int (Int32.ofNat n))], [.ref q])) rfl ?_
  exact y_aret tq_J7_copyOfRangeByte_39247 rfl rfl (Or.inr ⟨_, rfl⟩) (Or.inr ⟨_, rfl⟩) ⟨q, g1, rfl, yup_s _ _ _, hg1, (yTg.le hle).trans (yTg.up hQ (fun q9 => q9 rfl))⟩
set_option maxHeartbeats 4000000 in
set_option maxRecDepth 100000 in
theorem m_J7_copyOfRange_39247 {l : Launch} {S0 : State} {A0 : Array Value} {D : va_G} {aC : Nat → ClassId} {G : AH} (hS : yS l S0 A0 D aC) {T1 : Nat} (ht : T1 ≠ 0) {v T0 : Nat} {f : Nat → Int32} (hV : G v = some (T0, .inl (aC 3, 16, .inl f))) (hF : ∀ j, fits .byte (.int (f j)) = true) {n : Nat} (hn : n < 16) : yM l S0 D yJ7_copyOfRange_39247 cJ7_copyOfRange_39247 3 (some (.array .byte)) 15 1 16 [.ref v, .int 0, .int (Int32.ofNat n)] G (fun r G1 => ∃ (q : Nat) (g : Nat → Int32), r = some (.ref q) ∧ G1 q = some (T1, .inl (aC 3, n, .inl g)) ∧ (∀ j, fits .byte (.int (g j)) = true) ∧ yTg (fun t => t ≠ T1) G G1) (fun _ _ => False) := by
  refine yM.ofK K_J7_copyOfRange_39247 rfl (by decide) (Nat.le_of_ble_eq_true rfl) ?_
  have eN := yofN (n := n) (by omega)
  refine y_blk 1 tq_J7_copyOfRange_39247 (z := (1, [(0, .ref v), (1, .int 0), (2, .int (Int32.ofNat n))], [.int 0])) rfl ?_
  refine y_if_ne tq_J7_copyOfRange_39247 10 rfl rfl (fun c1 => absurd rfl c1) (fun _ => ?_)
  refine y_blk 2 tq_J7_copyOfRange_39247 (z := (6, [(0, .ref v), (1, .int 0), (2, .int (Int32.ofNat n))], [.ref v, .int (Int32.ofNat n)])) rfl ?_
  refine y_alen (x := (16, .inl f)) hS tq_J7_copyOfRange_39247 3 rfl rfl hV ?_
  refine y_blk 0 tq_J7_copyOfRange_39247 (z := (7, [(0, .ref v), (1, .int 0), (2, .int (Int32.ofNat n))], [.int (Int32.ofNat 16), .int (Int32.ofNat n)])) rfl ?_
  refine y_icmp_eq tq_J7_copyOfRange_39247 17 rfl rfl (fun c1 => ?_) (fun _ => ?_)
  · have c2 := congrArg Int32.toInt c1
    have e2 : (Int32.ofNat 16).toInt = 16 := by decide
    omega
  · skip
    refine y_blk 3 tq_J7_copyOfRange_39247 (z := (13, [(0, .ref v), (1, .int 0), (2, .int (Int32.ofNat n))], [.int (Int32.ofNat n), .int 0, .ref v])) rfl ?_
    refine y_callS (kc := 0) (ks := 0) hS tq_J7_copyOfRange_39247 rfl (As := [.ref v, .int 0, .int (Int32.ofNat n)]) rfl cs_J7_339 (m_J7_copyOfRangeByte_39247 hS ht hV hF (by omega)) rfl (by decide) (Nat.le_of_ble_eq_true rfl) (fun r1 G1 q1 => ?_) (fun _ _ h9 => h9.elim)
    obtain ⟨q, g, rfl, h1, h2, h3⟩ := q1
    refine y_blk 0 tq_J7_copyOfRange_39247 (z := (16, [(0, .ref v), (1, .int 0), (2, .int (Int32.ofNat n))], [.ref q])) rfl ?_
    exact y_aret tq_J7_copyOfRange_39247 rfl rfl (Or.inr ⟨_, rfl⟩) (Or.inr ⟨_, rfl⟩) ⟨q, g, rfl, h1, h2, h3⟩
set_option maxHeartbeats 4000000 in
set_option maxRecDepth 100000 in
theorem m_J0_init_db425 {l : Launch} {S0 : State} {A0 : Array Value} {D : va_G} {aC : Nat → ClassId} {G : AH} (hS : yS l S0 A0 D aC) {q a T n : Nat} (h0 : T ≠ 0) (hQ : G q = some (T + 2, .inr (0, [.null, .int 0, .int 0, .int 0]))) (hB : ySB aC G a T n) (hn : n < 16) : yM l S0 D yJ0_init_db425 cJ0_init_db425 5 none 16 1 16 [.ref q, .ref a, .null] G (fun r G1 => r = none ∧ ySt (fun t => t = T + 2 ∨ t = T + 3) aC S0 G1 q n ∧ yTg (fun t => t ≠ T + 2 ∧ t ≠ T + 3) G G1) (fun _ _ => False) := by
  refine yM.ofK K_J0_init_db425 rfl (by decide) (Nat.le_of_ble_eq_true rfl) ?_
  obtain ⟨v, f, ml, hA, hV, hF⟩ := id hB
  refine y_blk 1 tq_J0_init_db425 (z := (1, [(0, .ref q), (1, .ref a), (2, .null)], [.ref q])) rfl ?_
  refine y_objInit hS tq_J0_init_db425 rfl ⟨by decide +kernel, by decide +kernel⟩ (by decide) (by decide) ?_
  refine y_blk 1 tq_J0_init_db425 (z := (5, [(0, .ref q), (1, .ref a), (2, .null)], [.ref a])) rfl ?_
  refine y_callU (kc := 1) (ks := 16) hS tq_J0_init_db425 (As := []) rfl cu_J0_552 hA (m_J5_getValue_6d5f1 hS hA) rfl (by decide) (Nat.le_of_ble_eq_true rfl) (fun r1 G1 q1 => ?_)
  obtain ⟨rfl, e1⟩ := q1
  have e1 := e1.symm
  subst e1
  refine y_blk 2 tq_J0_init_db425 (z := (10, [(3, .ref v), (0, .ref q), (1, .ref a), (2, .null)], [.ref a])) rfl ?_
  refine y_callU (kc := 1) (ks := 16) hS tq_J0_init_db425 (As := []) rfl cu_J0_549 hA (m_J4_length_8abf5 hS hA) rfl (by decide) (Nat.le_of_ble_eq_true rfl) (fun r2 G1 q2 => ?_)
  obtain ⟨rfl, e2⟩ := q2
  have e2 := e2.symm
  subst e2
  refine y_blk 2 tq_J0_init_db425 (z := (16, [(4, .int (Int32.ofNat n)), (3, .ref v), (0, .ref q), (1, .ref a), (2, .null)], [.ref a])) rfl ?_
  refine y_callU (kc := 1) (ks := 16) hS tq_J0_init_db425 (As := []) rfl cu_J0_1047 hA (m_J5_isLatin1_aae02 hS hA) rfl (by decide) (Nat.le_of_ble_eq_true rfl) (fun r3 G1 q3 => ?_)
  obtain ⟨rfl, e3⟩ := q3
  have e3 := e3.symm
  subst e3
  refine y_blk 0 tq_J0_init_db425 (z := (19, [(4, .int (Int32.ofNat n)), (3, .ref v), (0, .ref q), (1, .ref a), (2, .null)], [.int 1])) rfl ?_
  refine y_if_eq tq_J0_init_db425 41 rfl rfl (fun c1 => absurd c1 (by decide)) (fun _ => ?_)
  refine y_blk 2 tq_J0_init_db425 (z := (24, [(4, .int (Int32.ofNat n)), (3, .ref v), (0, .ref q), (1, .ref a), (2, .null)], [.int 0, .ref q])) rfl ?_
  refine y_putF hS tq_J0_init_db425 rfl fp_J0_15_J0 rfl hQ (by omega) rfl rfl (Nat.le_of_ble_eq_true rfl) ?_
  have hQ2 : (yup G q (T + 2, .inr (0, [.null, .int 0, .int 0, .int 0]))) q = some (T + 2, .inr (0, [.null, .int 0, .int 0, .int 0])) := yup_s _ _ _
  have hV2 : (yup G q (T + 2, .inr (0, [.null, .int 0, .int 0, .int 0]))) v = some (T + 1, .inl (aC 3, 16, .inl f)) := yup_o hV hQ (by omega)
  have kt2 : yTg (fun t => t ≠ T + 2 ∧ t ≠ T + 3) G (yup G q (T + 2, .inr (0, [.null, .int 0, .int 0, .int 0]))) := yTg.up hQ (fun q9 => q9.1 rfl)
  change Y _ _ _ _ _ _ _ _ _ _ _ _ (yup G q (T + 2, .inr (0, [.null, .int 0, .int 0, .int 0]))) _ _
  generalize yup G q (T + 2, .inr (0, [.null, .int 0, .int 0, .int 0])) = G2 at hQ2 hV2 kt2 ⊢
  refine y_blk 4 tq_J0_init_db425 (z := (32, [(4, .int (Int32.ofNat n)), (3, .ref v), (0, .ref q), (1, .ref a), (2, .null)], [.int (Int32.ofNat n), .int 0, .ref v, .ref q])) rfl ?_
  refine y_callS (kc := 0) (ks := 0) hS tq_J0_init_db425 rfl (As := [.ref v, .int 0, .int (Int32.ofNat n)]) rfl cs_J0_54 (m_J7_copyOfRange_39247 (T1 := T + 3) hS (by omega) hV2 hF hn) rfl (by decide) (Nat.le_of_ble_eq_true rfl) (fun r4 G4 q4 => ?_) (fun _ _ h9 => h9.elim)
  obtain ⟨w, g, rfl, hW, hG, kt4⟩ := q4
  have hQ4 := kt4 _ _ _ hQ2 (by omega)
  refine y_blk 0 tq_J0_init_db425 (z := (35, [(4, .int (Int32.ofNat n)), (3, .ref v), (0, .ref q), (1, .ref a), (2, .null)], [.ref w, .ref q])) rfl ?_
  refine y_putF hS tq_J0_init_db425 rfl fp_J0_9_J0 rfl hQ4 (by omega) rfl rfl (Nat.le_of_ble_eq_true rfl) ?_
  have hQ5 : (yup G4 q (T + 2, .inr (0, [.ref w, .int 0, .int 0, .int 0]))) q = some (T + 2, .inr (0, [.ref w, .int 0, .int 0, .int 0])) := yup_s _ _ _
  have hW5 : (yup G4 q (T + 2, .inr (0, [.ref w, .int 0, .int 0, .int 0]))) w = some (T + 3, .inl (aC 3, n, .inl g)) := yup_o hW hQ4 (by omega)
  change Y _ _ _ _ _ _ _ _ _ _ _ _ (yup G4 q (T + 2, .inr (0, [.ref w, .int 0, .int 0, .int 0]))) _ _
  refine y_blk 1 tq_J0_init_db425 (z := (97, [(4, .int (Int32.ofNat n)), (3, .ref v), (0, .ref q), (1, .ref a), (2, .null)], [])) rfl ?_
  exact y_vret tq_J0_init_db425 rfl rfl ⟨rfl, Or.inl ⟨T + 2, w, _, _, Or.inl rfl, hQ5, Or.inl ⟨T + 3, g, Or.inr rfl, hW5, hG⟩⟩, (kt2.trans (kt4.narrow (fun t h9 => h9.2))).trans (yTg.up hQ4 (fun q9 => q9.1 rfl))⟩
set_option maxHeartbeats 4000000 in
set_option maxRecDepth 100000 in
theorem m_J0_init_81219 {l : Launch} {S0 : State} {A0 : Array Value} {D : va_G} {aC : Nat → ClassId} {G : AH} (hS : yS l S0 A0 D aC) {q a T n : Nat} (h0 : T ≠ 0) (hQ : G q = some (T + 2, .inr (0, [.null, .int 0, .int 0, .int 0]))) (hB : ySB aC G a T n) (hn : n < 16) : yM l S0 D yJ0_init_81219 cJ0_init_81219 2 none 17 1 16 [.ref q, .ref a] G (fun r G1 => r = none ∧ ySt (fun t => t = T + 2 ∨ t = T + 3) aC S0 G1 q n ∧ yTg (fun t => t ≠ T + 2 ∧ t ≠ T + 3) G G1) (fun _ _ => False) := by
  refine yM.ofK K_J0_init_81219 rfl (by decide) (Nat.le_of_ble_eq_true rfl) ?_
  refine y_blk 3 tq_J0_init_81219 (z := (3, [(0, .ref q), (1, .ref a)], [.null, .ref a, .ref q])) rfl ?_
  refine y_callI (kc := 0) (ks := 0) hS tq_J0_init_81219 rfl (As := [.ref a, .null]) rfl ci_J0_489 (m_J0_init_db425 hS h0 hQ hB hn) rfl (by decide) (Nat.le_of_ble_eq_true rfl) (fun r1 G1 q1 => ?_) (fun _ _ h9 => h9.elim)
  obtain ⟨rfl, h1, h2⟩ := q1
  refine y_blk 0 tq_J0_init_81219 (z := (6, [(0, .ref q), (1, .ref a)], [])) rfl ?_
  exact y_vret tq_J0_init_81219 rfl rfl ⟨rfl, h1, h2⟩
set_option maxHeartbeats 4000000 in
set_option maxRecDepth 100000 in
theorem m_J4_toString_0e30d {l : Launch} {S0 : State} {A0 : Array Value} {D : va_G} {aC : Nat → ClassId} {G : AH} (hS : yS l S0 A0 D aC) {a T n : Nat} (h0 : T ≠ 0) (hB : ySB aC G a T n) (hn : n < 16) : yM l S0 D yJ4_toString_0e30d cJ4_toString_0e30d 1 (some (.object "java/lang/String")) 18 2 20 [.ref a] G (fun r G1 => ∃ q : Nat, r = some (.ref q) ∧ ySt (fun t => t = T + 2 ∨ t = T + 3) aC S0 G1 q n ∧ yTg (fun t => t ≠ T + 2 ∧ t ≠ T + 3) G G1) (fun _ _ => False) := by
  refine yM.ofK K_J4_toString_0e30d rfl (by decide) (Nat.le_of_ble_eq_true rfl) ?_
  refine y_new (T + 2) hS tq_J4_toString_0e30d (kc := 1) (ks := 16) rfl nw_J4_18 (fun q hq => ?_)
  have hle : yLe G (yup G q (T + 2, .inr (0, [.null, .int 0, .int 0, .int 0]))) := yLe.new hq
  have hQ : (yup G q (T + 2, .inr (0, [.null, .int 0, .int 0, .int 0]))) q = some (T + 2, .inr (0, [.null, .int 0, .int 0, .int 0])) := yup_s _ _ _
  have hB1 := hB.kp (yTg.le (f := fun _ => True) hle) trivial trivial
  generalize yup G q (T + 2, .inr (0, [.null, .int 0, .int 0, .int 0])) = G1 at hle hQ hB1 ⊢
  refine y_blk 2 tq_J4_toString_0e30d (z := (5, [(0, .ref a)], [.ref a, .ref q, .ref q])) rfl ?_
  refine y_callI (kc := 0) (ks := 0) hS tq_J4_toString_0e30d rfl (As := [.ref a]) rfl ci_J4_137 (m_J0_init_81219 hS h0 hQ hB1 hn) rfl (by decide) (Nat.le_of_ble_eq_true rfl) (fun r1 G2 q1 => ?_) (fun _ _ h9 => h9.elim)
  obtain ⟨rfl, h1, h2⟩ := q1
  refine y_blk 0 tq_J4_toString_0e30d (z := (8, [(0, .ref a)], [.ref q])) rfl ?_
  exact y_aret tq_J4_toString_0e30d rfl rfl (Or.inl ⟨_, rfl⟩) (Or.inr ⟨_, rfl⟩) ⟨q, rfl, h1, (yTg.le hle).trans h2⟩
set_option maxHeartbeats 4000000 in
set_option maxRecDepth 100000 in
theorem m_J0_coder_7d493 {l : Launch} {S0 : State} {A0 : Array Value} {D : va_G} {aC : Nat → ClassId} {G : AH} (hS : yS l S0 A0 D aC) {P : Nat → Prop} {q n : Nat} (hQ : ySt P aC S0 G q n) : yM l S0 D yJ0_coder_7d493 cJ0_coder_7d493 1 (some .byte) 10 0 0 [.ref q] G (fun r G1 => r = some (.int 0) ∧ G1 = G) (fun _ _ => False) := by
  refine yM.ofK K_J0_coder_7d493 rfl (by decide) (Nat.le_of_ble_eq_true rfl) ?_
  refine y_blk 0 tq_J0_coder_7d493 (z := (0, [(0, .ref q)], [])) rfl ?_
  refine y_gets hS tq_J0_coder_7d493 rfl gs_J0_38 (yCmp hS) ?_
  refine y_blk 0 tq_J0_coder_7d493 (z := (3, [(0, .ref q)], [.int 1])) rfl ?_
  refine y_if_eq tq_J0_coder_7d493 13 rfl rfl (fun c1 => absurd c1 (by decide)) (fun _ => ?_)
  refine y_blk 1 tq_J0_coder_7d493 (z := (7, [(0, .ref q)], [.ref q])) rfl ?_
  refine y_getSc hS tq_J0_coder_7d493 rfl fg_J0_15_J0 wst_15 hQ ?_
  refine y_blk 1 tq_J0_coder_7d493 (z := (14, [(0, .ref q)], [.int 0])) rfl ?_
  exact y_zret tq_J0_coder_7d493 rfl rfl rfl ⟨rfl, rfl⟩
set_option maxHeartbeats 4000000 in
set_option maxRecDepth 100000 in
theorem m_J0_length_8abf5 {l : Launch} {S0 : State} {A0 : Array Value} {D : va_G} {aC : Nat → ClassId} {G : AH} (hS : yS l S0 A0 D aC) {P : Nat → Prop} {q n : Nat} (hQ : ySt P aC S0 G q n) : yM l S0 D yJ0_length_8abf5 cJ0_length_8abf5 1 (some .int) 11 0 0 [.ref q] G (fun r G1 => r = some (.int (Int32.ofNat n)) ∧ G1 = G) (fun _ _ => False) := by
  refine yM.ofK K_J0_length_8abf5 rfl (by decide) (Nat.le_of_ble_eq_true rfl) ?_
  refine y_blk 1 tq_J0_length_8abf5 (z := (1, [(0, .ref q)], [.ref q])) rfl ?_
  refine y_getSv hS tq_J0_length_8abf5 rfl fg_J0_9_J0 wst_9 hQ (fun v hv => ?_)
  refine y_blk 0 tq_J0_length_8abf5 (z := (4, [(0, .ref q)], [.ref v])) rfl ?_
  refine y_lenB hS tq_J0_length_8abf5 rfl hv ?_
  refine y_blk 1 tq_J0_length_8abf5 (z := (6, [(0, .ref q)], [.ref q, .int (Int32.ofNat n)])) rfl ?_
  refine y_callVS (kc := 0) (ks := 0) hS tq_J0_length_8abf5 rfl (As := []) rfl cv_J0_335 hQ (m_J0_coder_7d493 hS hQ) rfl (by decide) (Nat.le_of_ble_eq_true rfl) (fun r1 G1 q1 => ?_)
  obtain ⟨rfl, e1⟩ := q1
  have e1 := e1.symm
  subst e1
  refine y_blk 1 tq_J0_length_8abf5 (z := (10, [(0, .ref q)], [.int ((Int32.ofNat n) >>> (0 &&& 31))])) rfl ?_
  exact y_iret tq_J0_length_8abf5 rfl rfl ⟨by rw [yshr0], rfl⟩
set_option maxHeartbeats 4000000 in
set_option maxRecDepth 100000 in
theorem m_J0_getBytes_840e7 {l : Launch} {S0 : State} {A0 : Array Value} {D : va_G} {aC : Nat → ClassId} {G : AH} (hS : yS l S0 A0 D aC) {P : Nat → Prop} {q n : Nat} (hQ : ySt P aC S0 G q n) {w T1 : Nat} {g : Nat → Int32} (hW : G w = some (T1, .inl (aC 3, 16, .inl g))) (ht : T1 ≠ 0) (hg : ∀ j, fits .byte (.int (g j)) = true) {i : Nat} (hi : i + n ≤ 16) : yM l S0 D yJ0_getBytes_840e7 cJ0_getBytes_840e7 4 none 13 0 0 [.ref q, .ref w, .int (Int32.ofNat i), .int 0] G (fun r G1 => r = none ∧ ∃ g1 : Nat → Int32, (∀ j, fits .byte (.int (g1 j)) = true) ∧ G1 w = some (T1, .inl (aC 3, 16, .inl g1)) ∧ yTg (fun t => t ≠ T1) G G1) (fun _ _ => False) := by
  refine yM.ofK K_J0_getBytes_840e7 rfl (by decide) (Nat.le_of_ble_eq_true rfl) ?_
  refine y_blk 1 tq_J0_getBytes_840e7 (z := (1, [(0, .ref q), (1, .ref w), (2, .int (Int32.ofNat i)), (3, .int 0)], [.ref q])) rfl ?_
  refine y_callVS (kc := 0) (ks := 0) hS tq_J0_getBytes_840e7 rfl (As := []) rfl cv_J0_335 hQ (m_J0_coder_7d493 hS hQ) rfl (by decide) (Nat.le_of_ble_eq_true rfl) (fun r1 G1 q1 => ?_)
  obtain ⟨rfl, e1⟩ := q1
  have e1 := e1.symm
  subst e1
  refine y_blk 1 tq_J0_getBytes_840e7 (z := (5, [(0, .ref q), (1, .ref w), (2, .int (Int32.ofNat i)), (3, .int 0)], [.int 0, .int 0])) rfl ?_
  refine y_icmp_ne tq_J0_getBytes_840e7 28 rfl rfl (fun c1 => absurd rfl c1) (fun _ => ?_)
  refine y_blk 1 tq_J0_getBytes_840e7 (z := (9, [(0, .ref q), (1, .ref w), (2, .int (Int32.ofNat i)), (3, .int 0)], [.ref q])) rfl ?_
  refine y_getSv hS tq_J0_getBytes_840e7 rfl fg_J0_9_J0 wst_9 hQ (fun v hv => ?_)
  refine y_blk 6 tq_J0_getBytes_840e7 (z := (18, [(0, .ref q), (1, .ref w), (2, .int (Int32.ofNat i)), (3, .int 0)], [.ref q, .int ((Int32.ofNat i) <<< (0 &&& 31)), .ref w, .int 0, .ref v])) rfl ?_
  refine y_getSv hS tq_J0_getBytes_840e7 rfl fg_J0_9_J0 wst_9 hQ (fun v2 hv2 => ?_)
  refine y_blk 0 tq_J0_getBytes_840e7 (z := (21, [(0, .ref q), (1, .ref w), (2, .int (Int32.ofNat i)), (3, .int 0)], [.ref v2, .int ((Int32.ofNat i) <<< (0 &&& 31)), .ref w, .int 0, .ref v])) rfl ?_
  refine y_lenB hS tq_J0_getBytes_840e7 rfl hv2 ?_
  refine y_blk 0 tq_J0_getBytes_840e7 (z := (22, [(0, .ref q), (1, .ref w), (2, .int (Int32.ofNat i)), (3, .int 0)], [.int (Int32.ofNat n), .int ((Int32.ofNat i) <<< (0 &&& 31)), .ref w, .int 0, .ref v])) rfl ?_
  refine y_cpy (n0 := n) (n1 := 16) hS tq_J0_getBytes_840e7 rfl wac_J0 wac_n wac_s wac_i hv hW ht hg (by decide) (by rw [yshl0]; exact yof0 (by omega)) (yof0 (by omega)) (by rw [yofC (by omega)]; show 0 + n ≤ n; omega) (by rw [yshl0, yofC (by omega), yofC (by omega)]; omega) (Nat.le_of_ble_eq_true rfl) (by decide) (fun g1 hg1 => ?_)
  refine y_blk 1 tq_J0_getBytes_840e7 (z := (43, [(0, .ref q), (1, .ref w), (2, .int (Int32.ofNat i)), (3, .int 0)], [])) rfl ?_
  exact y_vret tq_J0_getBytes_840e7 rfl rfl ⟨rfl, g1, hg1, yup_s _ _ _, yTg.up hW (fun q9 => q9 rfl)⟩
set_option maxHeartbeats 4000000 in
set_option maxRecDepth 100000 in
theorem m_J5_inflateIfNeededFor_a7421 {l : Launch} {S0 : State} {A0 : Array Value} {D : va_G} {aC : Nat → ClassId} {G : AH} (hS : yS l S0 A0 D aC) {P : Nat → Prop} {s n : Nat} (hQ : ySt P aC S0 G s n) {a T : Nat} {v x y : Value} (hA : G a = some (T, .inr (1, [v, .int 0, x, y]))) : yM l S0 D yJ5_inflateIfNeededFor_a7421 cJ5_inflateIfNeededFor_a7421 2 none 12 0 0 [.ref a, .ref s] G (fun r G1 => r = none ∧ G1 = G) (fun _ _ => False) := by
  refine yM.ofK K_J5_inflateIfNeededFor_a7421 rfl (by decide) (Nat.le_of_ble_eq_true rfl) ?_
  refine y_blk 0 tq_J5_inflateIfNeededFor_a7421 (z := (0, [(0, .ref a), (1, .ref s)], [])) rfl ?_
  refine y_gets hS tq_J5_inflateIfNeededFor_a7421 rfl gs_J5_18 (yCmp hS) ?_
  refine y_blk 0 tq_J5_inflateIfNeededFor_a7421 (z := (3, [(0, .ref a), (1, .ref s)], [.int 1])) rfl ?_
  refine y_if_eq tq_J5_inflateIfNeededFor_a7421 21 rfl rfl (fun c1 => absurd c1 (by decide)) (fun _ => ?_)
  refine y_blk 1 tq_J5_inflateIfNeededFor_a7421 (z := (7, [(0, .ref a), (1, .ref s)], [.ref a])) rfl ?_
  refine y_get hS tq_J5_inflateIfNeededFor_a7421 (v := .int 0) rfl fg_J5_22_J4 hA rfl ?_
  refine y_blk 1 tq_J5_inflateIfNeededFor_a7421 (z := (11, [(0, .ref a), (1, .ref s)], [.ref s, .int 0])) rfl ?_
  refine y_callVS (kc := 0) (ks := 0) hS tq_J5_inflateIfNeededFor_a7421 rfl (As := []) rfl cv_J5_40 hQ (m_J0_coder_7d493 hS hQ) rfl (by decide) (Nat.le_of_ble_eq_true rfl) (fun r1 G1 q1 => ?_)
  obtain ⟨rfl, e1⟩ := q1
  have e1 := e1.symm
  subst e1
  refine y_blk 0 tq_J5_inflateIfNeededFor_a7421 (z := (14, [(0, .ref a), (1, .ref s)], [.int 0, .int 0])) rfl ?_
  refine y_icmp_eq tq_J5_inflateIfNeededFor_a7421 21 rfl rfl (fun _ => ?_) (fun c1 => absurd rfl c1)
  refine y_blk 0 tq_J5_inflateIfNeededFor_a7421 (z := (21, [(0, .ref a), (1, .ref s)], [])) rfl ?_
  exact y_vret tq_J5_inflateIfNeededFor_a7421 rfl rfl ⟨rfl, rfl⟩
set_option maxHeartbeats 4000000 in
set_option maxRecDepth 100000 in
theorem m_J5_putStringAt_47b60 {l : Launch} {S0 : State} {A0 : Array Value} {D : va_G} {aC : Nat → ClassId} {G : AH} (hS : yS l S0 A0 D aC) {a T n : Nat} (h0 : T ≠ 0) (hB : ySB aC G a T n) {P : Nat → Prop} {s k : Nat} (hQ : ySt P aC S0 G s k) (hk : n + k ≤ 16) : yM l S0 D yJ5_putStringAt_47b60 cJ5_putStringAt_47b60 3 none 14 0 0 [.ref a, .int (Int32.ofNat n), .ref s] G (fun r G1 => r = none ∧ ySB aC G1 a T n ∧ yTg (fun t => t ≠ T + 1) G G1) (fun _ _ => False) := by
  refine yM.ofK K_J5_putStringAt_47b60 rfl (by decide) (Nat.le_of_ble_eq_true rfl) ?_
  obtain ⟨v, f, ml, hA, hV, hF⟩ := id hB
  refine y_blk 2 tq_J5_putStringAt_47b60 (z := (2, [(0, .ref a), (1, .int (Int32.ofNat n)), (2, .ref s)], [.ref s, .ref a])) rfl ?_
  refine y_callU (kc := 0) (ks := 0) hS tq_J5_putStringAt_47b60 (As := [.ref s]) rfl cu_J5_397 hA (m_J5_inflateIfNeededFor_a7421 hS hQ hA) rfl (by decide) (Nat.le_of_ble_eq_true rfl) (fun r1 G1 q1 => ?_)
  obtain ⟨rfl, e1⟩ := q1
  have e1 := e1.symm
  subst e1
  refine y_blk 2 tq_J5_putStringAt_47b60 (z := (7, [(0, .ref a), (1, .int (Int32.ofNat n)), (2, .ref s)], [.ref a, .ref s])) rfl ?_
  refine y_get hS tq_J5_putStringAt_47b60 (v := .ref v) rfl fg_J5_15_J4 hA rfl ?_
  refine y_blk 2 tq_J5_putStringAt_47b60 (z := (12, [(0, .ref a), (1, .int (Int32.ofNat n)), (2, .ref s)], [.ref a, .int (Int32.ofNat n), .ref v, .ref s])) rfl ?_
  refine y_get hS tq_J5_putStringAt_47b60 (v := .int 0) rfl fg_J5_22_J4 hA rfl ?_
  refine y_blk 0 tq_J5_putStringAt_47b60 (z := (15, [(0, .ref a), (1, .int (Int32.ofNat n)), (2, .ref s)], [.int 0, .int (Int32.ofNat n), .ref v, .ref s])) rfl ?_
  refine y_callVS (kc := 0) (ks := 0) hS tq_J5_putStringAt_47b60 rfl (As := [.ref v, .int (Int32.ofNat n), .int 0]) rfl cv_J5_399 hQ (m_J0_getBytes_840e7 hS hQ hV (by omega) hF hk) rfl (by decide) (Nat.le_of_ble_eq_true rfl) (fun r2 G2 q2 => ?_)
  obtain ⟨rfl, g1, hg1, hV2, kt⟩ := q2
  refine y_blk 0 tq_J5_putStringAt_47b60 (z := (18, [(0, .ref a), (1, .int (Int32.ofNat n)), (2, .ref s)], [])) rfl ?_
  exact y_vret tq_J5_putStringAt_47b60 rfl rfl ⟨rfl, ⟨v, g1, ml, kt _ _ _ hA (by omega), hV2, hg1⟩, kt⟩
set_option maxHeartbeats 4000000 in
set_option maxRecDepth 100000 in
theorem m_J5_append_cf1ce {l : Launch} {S0 : State} {A0 : Array Value} {D : va_G} {aC : Nat → ClassId} {G : AH} (hS : yS l S0 A0 D aC) {a T n : Nat} (h0 : T ≠ 0) (hB : ySB aC G a T n) {P : Nat → Prop} {s k : Nat} (hQ : ySt P aC S0 G s k) (hk : n + k ≤ 16) (hP : ∀ t, P t → t ≠ T ∧ t ≠ T + 1) : yM l S0 D yJ5_append_cf1ce cJ5_append_cf1ce 3 (some (.object "java/lang/AbstractStringBuilder")) 15 0 0 [.ref a, .ref s] G (fun r G1 => r = some (.ref a) ∧ ySB aC G1 a T (n + k) ∧ yTg (fun t => t ≠ T ∧ t ≠ T + 1) G G1) (fun _ _ => False) := by
  refine yM.ofK K_J5_append_cf1ce rfl (by decide) (Nat.le_of_ble_eq_true rfl) ?_
  obtain ⟨v, f, ml, hA, hV, hF⟩ := id hB
  have eN := yofN (n := n) (by omega)
  have eK : (Int32.ofNat n + Int32.ofNat k).toInt = (n : Int) + k := by rw [yofA, yofN (by omega)]; omega
  refine y_blk 1 tq_J5_append_cf1ce (z := (1, [(0, .ref a), (1, .ref s)], [.ref s])) rfl ?_
  refine y_ifnonnull tq_J5_append_cf1ce 9 rfl rfl ?_
  refine y_blk 1 tq_J5_append_cf1ce (z := (10, [(0, .ref a), (1, .ref s)], [.ref s])) rfl ?_
  refine y_callVS (kc := 0) (ks := 0) hS tq_J5_append_cf1ce rfl (As := []) rfl cv_J5_32 hQ (m_J0_length_8abf5 hS hQ) rfl (by decide) (Nat.le_of_ble_eq_true rfl) (fun r1 G1 q1 => ?_)
  obtain ⟨rfl, e1⟩ := q1
  have e1 := e1.symm
  subst e1
  refine y_blk 3 tq_J5_append_cf1ce (z := (16, [(2, .int (Int32.ofNat k)), (0, .ref a), (1, .ref s)], [.ref a, .ref a])) rfl ?_
  refine y_get hS tq_J5_append_cf1ce (v := .int (Int32.ofNat n)) rfl fg_J5_79_J4 hA rfl ?_
  refine y_blk 2 tq_J5_append_cf1ce (z := (21, [(2, .int (Int32.ofNat k)), (0, .ref a), (1, .ref s)], [.int ((Int32.ofNat n) + (Int32.ofNat k)), .ref a])) rfl ?_
  refine y_callU (kc := 0) (ks := 0) hS tq_J5_append_cf1ce (As := [.int (Int32.ofNat n + Int32.ofNat k)]) rfl cu_J5_100 hA (m_J5_ensureCapacityInternal_d00df hS hA hV (by omega) (by omega)) rfl (by decide) (Nat.le_of_ble_eq_true rfl) (fun r2 G1 q2 => ?_)
  obtain ⟨rfl, e2⟩ := q2
  have e2 := e2.symm
  subst e2
  refine y_blk 2 tq_J5_append_cf1ce (z := (26, [(2, .int (Int32.ofNat k)), (0, .ref a), (1, .ref s)], [.ref a, .ref a])) rfl ?_
  refine y_get hS tq_J5_append_cf1ce (v := .int (Int32.ofNat n)) rfl fg_J5_79_J4 hA rfl ?_
  refine y_blk 1 tq_J5_append_cf1ce (z := (30, [(2, .int (Int32.ofNat k)), (0, .ref a), (1, .ref s)], [.ref s, .int (Int32.ofNat n), .ref a])) rfl ?_
  refine y_callU (kc := 0) (ks := 0) hS tq_J5_append_cf1ce (As := [.int (Int32.ofNat n), .ref s]) rfl cu_J5_208 hA (m_J5_putStringAt_47b60 hS h0 hB hQ hk) rfl (by decide) (Nat.le_of_ble_eq_true rfl) (fun r3 G3 q3 => ?_)
  obtain ⟨rfl, hB3, kt3⟩ := q3
  obtain ⟨v3, f3, ml3, hA3, hV3, hF3⟩ := hB3
  refine y_blk 2 tq_J5_append_cf1ce (z := (35, [(2, .int (Int32.ofNat k)), (0, .ref a), (1, .ref s)], [.ref a, .ref a])) rfl ?_
  refine y_get hS tq_J5_append_cf1ce (v := .int (Int32.ofNat n)) rfl fg_J5_79_J4 hA3 rfl ?_
  refine y_blk 2 tq_J5_append_cf1ce (z := (40, [(2, .int (Int32.ofNat k)), (0, .ref a), (1, .ref s)], [.int ((Int32.ofNat n) + (Int32.ofNat k)), .ref a])) rfl ?_
  refine y_put hS tq_J5_append_cf1ce rfl fp_J5_79_J4 hA3 h0 rfl rfl (Nat.le_of_ble_eq_true rfl) ?_
  have hA4 : (yup G3 a (T, .inr (1, [.ref v3, .int 0, ml3, .int (Int32.ofNat n + Int32.ofNat k)]))) a = some (T, .inr (1, [.ref v3, .int 0, ml3, .int (Int32.ofNat n + Int32.ofNat k)])) := yup_s _ _ _
  have hV4 : (yup G3 a (T, .inr (1, [.ref v3, .int 0, ml3, .int (Int32.ofNat n + Int32.ofNat k)]))) v3 = some (T + 1, .inl (aC 3, 16, .inl f3)) := yup_o hV3 hA3 (by omega)
  have kt4 : yTg (fun t => t ≠ T ∧ t ≠ T + 1) G (yup G3 a (T, .inr (1, [.ref v3, .int 0, ml3, .int (Int32.ofNat n + Int32.ofNat k)]))) := (kt3.narrow (fun t h9 => h9.2)).trans (yTg.up hA3 (fun q9 => q9.1 rfl))
  change Y _ _ _ _ _ _ _ _ _ _ _ _ (yup G3 a (T, .inr (1, [.ref v3, .int 0, ml3, .int (Int32.ofNat n + Int32.ofNat k)]))) _ _
  generalize yup G3 a (T, .inr (1, [.ref v3, .int 0, ml3, .int (Int32.ofNat n + Int32.ofNat k)])) = G4 at hA4 hV4 kt4 ⊢
  rw [yofA] at hA4
  refine y_blk 1 tq_J5_append_cf1ce (z := (44, [(2, .int (Int32.ofNat k)), (0, .ref a), (1, .ref s)], [.ref a])) rfl ?_
  exact y_aret tq_J5_append_cf1ce rfl rfl (Or.inl ⟨_, rfl⟩) (Or.inr ⟨_, rfl⟩) ⟨rfl, ⟨v3, f3, ml3, hA4, hV4, hF3⟩, kt4⟩
set_option maxHeartbeats 4000000 in
set_option maxRecDepth 100000 in
theorem m_J4_append_15ec4 {l : Launch} {S0 : State} {A0 : Array Value} {D : va_G} {aC : Nat → ClassId} {G : AH} (hS : yS l S0 A0 D aC) {a T n : Nat} (h0 : T ≠ 0) (hB : ySB aC G a T n) {P : Nat → Prop} {s k : Nat} (hQ : ySt P aC S0 G s k) (hk : n + k ≤ 16) (hP : ∀ t, P t → t ≠ T ∧ t ≠ T + 1) : yM l S0 D yJ4_append_15ec4 cJ4_append_15ec4 2 (some (.object "java/lang/StringBuilder")) 16 0 0 [.ref a, .ref s] G (fun r G1 => r = some (.ref a) ∧ ySB aC G1 a T (n + k) ∧ yTg (fun t => t ≠ T ∧ t ≠ T + 1) G G1) (fun _ _ => False) := by
  refine yM.ofK K_J4_append_15ec4 rfl (by decide) (Nat.le_of_ble_eq_true rfl) ?_
  obtain ⟨v, f, ml, hA, hV, hF⟩ := id hB
  refine y_blk 2 tq_J4_append_15ec4 (z := (2, [(0, .ref a), (1, .ref s)], [.ref s, .ref a])) rfl ?_
  refine y_callSU (kc := 0) (ks := 0) hS tq_J4_append_15ec4 (As := [.ref s]) rfl csu_J4_29 hA (m_J5_append_cf1ce hS h0 hB hQ hk hP) rfl (by decide) (Nat.le_of_ble_eq_true rfl) (fun r1 G1 q1 => ?_)
  obtain ⟨rfl, hB1, kt⟩ := q1
  refine y_blk 2 tq_J4_append_15ec4 (z := (7, [(0, .ref a), (1, .ref s)], [.ref a])) rfl ?_
  exact y_aret tq_J4_append_15ec4 rfl rfl (Or.inl ⟨_, rfl⟩) (Or.inr ⟨_, rfl⟩) ⟨rfl, hB1, kt⟩
set_option maxHeartbeats 4000000 in
set_option maxRecDepth 100000 in
theorem m_J6_stringSize_0f7a4 {l : Launch} {S0 : State} {A0 : Array Value} {D : va_G} {aC : Nat → ClassId} {G : AH} (hS : yS l S0 A0 D aC) {k : Nat} (hk : k < 10) : yM l S0 D yJ6_stringSize_0f7a4 cJ6_stringSize_0f7a4 4 (some .int) 10 0 0 [.int (Int32.ofNat k)] G (fun r G1 => r = some (.int 1) ∧ G1 = G) (fun _ _ => False) := by
  refine yM.ofK K_J6_stringSize_0f7a4 rfl (by decide) (Nat.le_of_ble_eq_true rfl) ?_
  have c8 : ∀ j : Nat, j < 10 → ¬ (Int32.ofNat j < 0) ∧ ¬ (-(Int32.ofNat j) ≤ -10) := by decide +kernel
  refine y_blk 3 tq_J6_stringSize_0f7a4 (z := (3, [(1, .int 1), (0, .int (Int32.ofNat k))], [.int (Int32.ofNat k)])) rfl ?_
  refine y_if_lt tq_J6_stringSize_0f7a4 11 rfl rfl (fun c1 => absurd c1 (c8 k hk).1) (fun _ => ?_)
  refine y_blk 11 tq_J6_stringSize_0f7a4 (z := (19, [(3, .int 1), (2, .int (-10)), (0, .int (-(Int32.ofNat k))), (1, .int 0)], [.int 10, .int 1])) rfl ?_
  refine y_icmp_ge tq_J6_stringSize_0f7a4 42 rfl rfl (fun c1 => absurd c1 (by decide)) (fun _ => ?_)
  refine y_blk 2 tq_J6_stringSize_0f7a4 (z := (24, [(3, .int 1), (2, .int (-10)), (0, .int (-(Int32.ofNat k))), (1, .int 0)], [.int (-10), .int (-(Int32.ofNat k))])) rfl ?_
  refine y_icmp_le tq_J6_stringSize_0f7a4 31 rfl rfl (fun c1 => absurd c1 (c8 k hk).2) (fun _ => ?_)
  refine y_blk 3 tq_J6_stringSize_0f7a4 (z := (30, [(3, .int 1), (2, .int (-10)), (0, .int (-(Int32.ofNat k))), (1, .int 0)], [.int (1 + 0)])) rfl ?_
  exact y_iret tq_J6_stringSize_0f7a4 rfl rfl ⟨rfl, rfl⟩
set_option maxHeartbeats 4000000 in
set_option maxRecDepth 100000 in
theorem m_J6_getChars_ba4f3 {l : Launch} {S0 : State} {A0 : Array Value} {D : va_G} {aC : Nat → ClassId} {G : AH} (hS : yS l S0 A0 D aC) {k : Nat} (hk : k < 10) {w T1 : Nat} {g : Nat → Int32} (hW : G w = some (T1, .inl (aC 3, 16, .inl g))) (ht : T1 ≠ 0) (hg : ∀ j, fits .byte (.int (g j)) = true) {i : Nat} (hi : i < 16) : yM l S0 D yJ6_getChars_ba4f3 cJ6_getChars_ba4f3 7 (some .int) 10 0 0 [.int (Int32.ofNat k), .int (Int32.ofNat i + 1), .ref w] G (fun r G1 => (∃ z : Int32, r = some (.int z)) ∧ ∃ g1 : Nat → Int32, (∀ j, fits .byte (.int (g1 j)) = true) ∧ G1 w = some (T1, .inl (aC 3, 16, .inl g1)) ∧ yTg (fun t => t ≠ T1) G G1) (fun _ _ => False) := by
  refine yM.ofK K_J6_getChars_ba4f3 rfl (by decide) (Nat.le_of_ble_eq_true rfl) ?_
  have c8 : ∀ j : Nat, j < 10 → 0 ≤ Int32.ofNat j ∧ -100 < -(Int32.ofNat j) ∧ -9 ≤ -(Int32.ofNat j) ∧ -(-(Int32.ofNat j)) = Int32.ofNat j := by decide +kernel
  obtain ⟨d1, d2, d3, d4⟩ := c8 k hk
  obtain ⟨td, hZ, hTd⟩ := yDigO hS
  have ei : Int32.ofNat i + 1 + (-1) = Int32.ofNat i := by rw [Int32.add_assoc]; exact Int32.add_zero _
  refine y_blk 3 tq_J6_getChars_ba4f3 (z := (4, [(5, .int (Int32.ofNat i + 1)), (0, .int (Int32.ofNat k)), (1, .int (Int32.ofNat i + 1)), (2, .ref w)], [.int (Int32.ofNat k)])) rfl ?_
  refine y_if_ge tq_J6_getChars_ba4f3 11 rfl rfl (fun _ => ?_) (fun c1 => absurd d1 c1)
  refine y_blk 3 tq_J6_getChars_ba4f3 (z := (16, [(6, .int 0), (5, .int (Int32.ofNat i + 1)), (0, .int (Int32.ofNat k)), (1, .int (Int32.ofNat i + 1)), (2, .ref w)], [.int 0])) rfl ?_
  refine y_if_ne tq_J6_getChars_ba4f3 22 rfl rfl (fun c1 => absurd rfl c1) (fun _ => ?_)
  refine y_blk 5 tq_J6_getChars_ba4f3 (z := (25, [(0, .int (-(Int32.ofNat k))), (6, .int 0), (5, .int (Int32.ofNat i + 1)), (1, .int (Int32.ofNat i + 1)), (2, .ref w)], [.int (-100), .int (-(Int32.ofNat k))])) rfl ?_
  refine y_icmp_gt tq_J6_getChars_ba4f3 72 rfl rfl (fun _ => ?_) (fun c1 => absurd d2 c1)
  refine y_blk 3 tq_J6_getChars_ba4f3 (z := (78, [(5, .int ((Int32.ofNat i + 1) + (-1))), (0, .int (-(Int32.ofNat k))), (6, .int 0), (1, .int (Int32.ofNat i + 1)), (2, .ref w)], [.int ((Int32.ofNat i + 1) + (-1)), .ref w])) rfl ?_
  refine y_gets hS tq_J6_getChars_ba4f3 rfl gs_J6_83 hZ ?_
  refine y_blk 2 tq_J6_getChars_ba4f3 (z := (83, [(5, .int ((Int32.ofNat i + 1) + (-1))), (0, .int (-(Int32.ofNat k))), (6, .int 0), (1, .int (Int32.ofNat i + 1)), (2, .ref w)], [.int (-(-(Int32.ofNat k))), .ref td, .int ((Int32.ofNat i + 1) + (-1)), .ref w])) rfl ?_
  refine y_tbO tq_J6_getChars_ba4f3 rfl hTd (v := .int (yDig.getD k 0)) (by rw [d4]; exact yofI (by omega) (by decide)) (by rw [d4, yofC (by omega)]) ?_
  refine y_blk 0 tq_J6_getChars_ba4f3 (z := (84, [(5, .int ((Int32.ofNat i + 1) + (-1))), (0, .int (-(Int32.ofNat k))), (6, .int 0), (1, .int (Int32.ofNat i + 1)), (2, .ref w)], [.int (yDig.getD k 0), .int ((Int32.ofNat i + 1) + (-1)), .ref w])) rfl ?_
  refine y_bast hS tq_J6_getChars_ba4f3 rfl hW ht (by rw [ei]; exact yofI hi (by decide)) ?_
  refine y_blk 2 tq_J6_getChars_ba4f3 (z := (88, [(5, .int ((Int32.ofNat i + 1) + (-1))), (0, .int (-(Int32.ofNat k))), (6, .int 0), (1, .int (Int32.ofNat i + 1)), (2, .ref w)], [.int (-9), .int (-(Int32.ofNat k))])) rfl ?_
  refine y_icmp_ge tq_J6_getChars_ba4f3 104 rfl rfl (fun _ => ?_) (fun c1 => absurd d3 c1)
  refine y_blk 1 tq_J6_getChars_ba4f3 (z := (106, [(5, .int ((Int32.ofNat i + 1) + (-1))), (0, .int (-(Int32.ofNat k))), (6, .int 0), (1, .int (Int32.ofNat i + 1)), (2, .ref w)], [.int 0])) rfl ?_
  refine y_if_eq tq_J6_getChars_ba4f3 118 rfl rfl (fun _ => ?_) (fun c1 => absurd rfl c1)
  refine y_blk 1 tq_J6_getChars_ba4f3 (z := (120, [(5, .int ((Int32.ofNat i + 1) + (-1))), (0, .int (-(Int32.ofNat k))), (6, .int 0), (1, .int (Int32.ofNat i + 1)), (2, .ref w)], [.int ((Int32.ofNat i + 1) + (-1))])) rfl ?_
  exact y_iret tq_J6_getChars_ba4f3 rfl rfl ⟨⟨_, rfl⟩, _, yfit_upd hg _ _, yup_s _ _ _, yTg.up hW (fun q9 => q9 rfl)⟩
set_option maxHeartbeats 4000000 in
set_option maxRecDepth 100000 in
theorem m_J5_append_c97b9 {l : Launch} {S0 : State} {A0 : Array Value} {D : va_G} {aC : Nat → ClassId} {G : AH} (hS : yS l S0 A0 D aC) {a T n : Nat} (h0 : T ≠ 0) (hB : ySB aC G a T n) (hn : n < 16) {k : Nat} (hk : k < 10) : yM l S0 D yJ5_append_c97b9 cJ5_append_c97b9 4 (some (.object "java/lang/AbstractStringBuilder")) 12 0 0 [.ref a, .int (Int32.ofNat k)] G (fun r G1 => r = some (.ref a) ∧ ySB aC G1 a T (n + 1) ∧ yTg (fun t => t ≠ T ∧ t ≠ T + 1) G G1) (fun _ _ => False) := by
  refine yM.ofK K_J5_append_c97b9 rfl (by decide) (Nat.le_of_ble_eq_true rfl) ?_
  obtain ⟨v, f, ml, hA, hV, hF⟩ := id hB
  have eN : (Int32.ofNat n + 1).toInt = (n : Int) + 1 := by rw [yofS, yofN (by omega)]; omega
  refine y_blk 1 tq_J5_append_c97b9 (z := (1, [(0, .ref a), (1, .int (Int32.ofNat k))], [.ref a])) rfl ?_
  refine y_get hS tq_J5_append_c97b9 (v := .int (Int32.ofNat n)) rfl fg_J5_79_J4 hA rfl ?_
  refine y_blk 3 tq_J5_append_c97b9 (z := (7, [(2, .int (Int32.ofNat n)), (0, .ref a), (1, .int (Int32.ofNat k))], [.int (Int32.ofNat k), .int (Int32.ofNat n)])) rfl ?_
  refine y_callS (kc := 0) (ks := 0) hS tq_J5_append_c97b9 rfl (As := [.int (Int32.ofNat k)]) rfl cs_J5_245 (m_J6_stringSize_0f7a4 hS hk) rfl (by decide) (Nat.le_of_ble_eq_true rfl) (fun r1 G1 q1 => ?_) (fun _ _ h9 => h9.elim)
  obtain ⟨rfl, e1⟩ := q1
  have e1 := e1.symm
  subst e1
  refine y_blk 4 tq_J5_append_c97b9 (z := (14, [(3, .int ((Int32.ofNat n) + 1)), (2, .int (Int32.ofNat n)), (0, .ref a), (1, .int (Int32.ofNat k))], [.int ((Int32.ofNat n) + 1), .ref a])) rfl ?_
  refine y_callU (kc := 0) (ks := 0) hS tq_J5_append_c97b9 (As := [.int (Int32.ofNat n + 1)]) rfl cu_J5_100 hA (m_J5_ensureCapacityInternal_d00df hS hA hV (by omega) (by omega)) rfl (by decide) (Nat.le_of_ble_eq_true rfl) (fun r2 G1 q2 => ?_)
  obtain ⟨rfl, e2⟩ := q2
  have e2 := e2.symm
  subst e2
  refine y_blk 1 tq_J5_append_c97b9 (z := (18, [(3, .int ((Int32.ofNat n) + 1)), (2, .int (Int32.ofNat n)), (0, .ref a), (1, .int (Int32.ofNat k))], [.ref a])) rfl ?_
  refine y_callU (kc := 0) (ks := 0) hS tq_J5_append_c97b9 (As := []) rfl cu_J5_83 hA (m_J5_isLatin1_aae02 hS hA) rfl (by decide) (Nat.le_of_ble_eq_true rfl) (fun r3 G1 q3 => ?_)
  obtain ⟨rfl, e3⟩ := q3
  have e3 := e3.symm
  subst e3
  refine y_blk 0 tq_J5_append_c97b9 (z := (21, [(3, .int ((Int32.ofNat n) + 1)), (2, .int (Int32.ofNat n)), (0, .ref a), (1, .int (Int32.ofNat k))], [.int 1])) rfl ?_
  refine y_if_eq tq_J5_append_c97b9 37 rfl rfl (fun c1 => absurd c1 (by decide)) (fun _ => ?_)
  refine y_blk 3 tq_J5_append_c97b9 (z := (27, [(3, .int ((Int32.ofNat n) + 1)), (2, .int (Int32.ofNat n)), (0, .ref a), (1, .int (Int32.ofNat k))], [.ref a, .int ((Int32.ofNat n) + 1), .int (Int32.ofNat k)])) rfl ?_
  refine y_get hS tq_J5_append_c97b9 (v := .ref v) rfl fg_J5_15_J4 hA rfl ?_
  refine y_blk 0 tq_J5_append_c97b9 (z := (30, [(3, .int ((Int32.ofNat n) + 1)), (2, .int (Int32.ofNat n)), (0, .ref a), (1, .int (Int32.ofNat k))], [.ref v, .int ((Int32.ofNat n) + 1), .int (Int32.ofNat k)])) rfl ?_
  refine y_callS (kc := 0) (ks := 0) hS tq_J5_append_c97b9 rfl (As := [.int (Int32.ofNat k), .int (Int32.ofNat n + 1), .ref v]) rfl cs_J5_248 (m_J6_getChars_ba4f3 hS hk hV (by omega) hF hn) rfl (by decide) (Nat.le_of_ble_eq_true rfl) (fun r4 G4 q4 => ?_) (fun _ _ h9 => h9.elim)
  obtain ⟨⟨z, rfl⟩, f4, hF4, hV4, kt4⟩ := q4
  have hA4 := kt4 _ _ _ hA (by omega)
  refine y_blk 4 tq_J5_append_c97b9 (z := (50, [(3, .int ((Int32.ofNat n) + 1)), (2, .int (Int32.ofNat n)), (0, .ref a), (1, .int (Int32.ofNat k))], [.int ((Int32.ofNat n) + 1), .ref a])) rfl ?_
  refine y_put hS tq_J5_append_c97b9 rfl fp_J5_79_J4 hA4 h0 rfl rfl (Nat.le_of_ble_eq_true rfl) ?_
  have hA5 : (yup G4 a (T, .inr (1, [.ref v, .int 0, ml, .int (Int32.ofNat n + 1)]))) a = some (T, .inr (1, [.ref v, .int 0, ml, .int (Int32.ofNat n + 1)])) := yup_s _ _ _
  have hV5 : (yup G4 a (T, .inr (1, [.ref v, .int 0, ml, .int (Int32.ofNat n + 1)]))) v = some (T + 1, .inl (aC 3, 16, .inl f4)) := yup_o hV4 hA4 (by omega)
  have kt5 : yTg (fun t => t ≠ T ∧ t ≠ T + 1) G (yup G4 a (T, .inr (1, [.ref v, .int 0, ml, .int (Int32.ofNat n + 1)]))) := (kt4.narrow (fun t h9 => h9.2)).trans (yTg.up hA4 (fun q9 => q9.1 rfl))
  change Y _ _ _ _ _ _ _ _ _ _ _ _ (yup G4 a (T, .inr (1, [.ref v, .int 0, ml, .int (Int32.ofNat n + 1)]))) _ _
  generalize yup G4 a (T, .inr (1, [.ref v, .int 0, ml, .int (Int32.ofNat n + 1)])) = G5 at hA5 hV5 kt5 ⊢
  rw [yofS] at hA5
  refine y_blk 1 tq_J5_append_c97b9 (z := (54, [(3, .int ((Int32.ofNat n) + 1)), (2, .int (Int32.ofNat n)), (0, .ref a), (1, .int (Int32.ofNat k))], [.ref a])) rfl ?_
  exact y_aret tq_J5_append_c97b9 rfl rfl (Or.inl ⟨_, rfl⟩) (Or.inr ⟨_, rfl⟩) ⟨rfl, ⟨v, f4, ml, hA5, hV5, hF4⟩, kt5⟩
set_option maxHeartbeats 4000000 in
set_option maxRecDepth 100000 in
theorem m_J4_append_bf812 {l : Launch} {S0 : State} {A0 : Array Value} {D : va_G} {aC : Nat → ClassId} {G : AH} (hS : yS l S0 A0 D aC) {a T n : Nat} (h0 : T ≠ 0) (hB : ySB aC G a T n) (hn : n < 16) {k : Nat} (hk : k < 10) : yM l S0 D yJ4_append_bf812 cJ4_append_bf812 2 (some (.object "java/lang/StringBuilder")) 13 0 0 [.ref a, .int (Int32.ofNat k)] G (fun r G1 => r = some (.ref a) ∧ ySB aC G1 a T (n + 1) ∧ yTg (fun t => t ≠ T ∧ t ≠ T + 1) G G1) (fun _ _ => False) := by
  refine yM.ofK K_J4_append_bf812 rfl (by decide) (Nat.le_of_ble_eq_true rfl) ?_
  obtain ⟨v, f, ml, hA, hV, hF⟩ := id hB
  refine y_blk 2 tq_J4_append_bf812 (z := (2, [(0, .ref a), (1, .int (Int32.ofNat k))], [.int (Int32.ofNat k), .ref a])) rfl ?_
  refine y_callSU (kc := 0) (ks := 0) hS tq_J4_append_bf812 (As := [.int (Int32.ofNat k)]) rfl csu_J4_53 hA (m_J5_append_c97b9 hS h0 hB hn hk) rfl (by decide) (Nat.le_of_ble_eq_true rfl) (fun r1 G1 q1 => ?_)
  obtain ⟨rfl, hB1, kt⟩ := q1
  refine y_blk 2 tq_J4_append_bf812 (z := (7, [(0, .ref a), (1, .int (Int32.ofNat k))], [.ref a])) rfl ?_
  exact y_aret tq_J4_append_bf812 rfl rfl (Or.inl ⟨_, rfl⟩) (Or.inr ⟨_, rfl⟩) ⟨rfl, hB1, kt⟩
