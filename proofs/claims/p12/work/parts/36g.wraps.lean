/-! ===== the law's catching methods ===== -/

def xNF (aC : Nat → ClassId) (ad : Nat → Nat) (σ : XS) (G G1 : AH) : Prop := ∃ σ1 : XS, atX aC ad G1 σ1 ∧ keepX G G1 ∧ xfr NC σ σ1
theorem xNF.rf {aC : Nat → ClassId} {ad : Nat → Nat} {σ : XS} {G G1 : AH} (h : atX aC ad G σ) (e : G1 = G) : xNF aC ad σ G G1 := by
  subst e
  exact ⟨σ, h, keepX.rfl', xkn.rfl'.w⟩
theorem xNF.w {aC : Nat → ClassId} {ad : Nat → Nat} {σ : XS} {G G1 : AH} {m : List Nat} (h : ∃ σ1 : XS, atX aC ad G1 σ1 ∧ keepX G G1 ∧ xfr m σ σ1) (hw : ∀ x, x ∈ m → x ∈ NC := by decide) : xNF aC ad σ G G1 := by
  obtain ⟨σ1, h1, h2, h3⟩ := h
  exact ⟨σ1, h1, h2, h3.w hw⟩
theorem atX.kp {aC : Nat → ClassId} {ad : Nat → Nat} {σ : XS} {G G1 : AH} {f : Nat → Prop} (h : atX aC ad G σ) (hk : yTg f G G1) (hf : ∀ t, 0 < t → t < 200 → f t) : atX aC ad G1 σ := by
  refine ⟨fun t e ht => hk _ _ _ (h.1 t e ht) ?_, h.2⟩
  unfold xc at ht
  by_cases c : 0 < t ∧ t < 200
  · exact hf t c.1 c.2
  · exfalso
    rw [if_neg (by omega), if_neg (by omega), if_neg (by omega), if_neg (by omega), if_neg (by omega), if_neg (by omega), if_neg (by omega), if_neg (by omega), if_neg (by omega), if_neg (by omega)] at ht
    cases ht
abbrev fL : Nat → Prop := fun t => t = 0 ∨ (200 ≤ t ∧ t ≠ 600)
theorem keepX.tg {G G1 : AH} (h : keepX G G1) : yTg fL G G1 := fun q t e hq ht => h q t e hq (by
  rcases ht with ht | ht
  · exact Or.inl ht
  · exact Or.inr ht.1)
abbrev yOut (nv : Int64) (sv : Value) : va_E := .inr (13, [.long nv, sv])
theorem yExB : (25, "java/lang/IndexOutOfBoundsException") ∈ yExI := List.mem_of_getElem? (i := 0) rfl
theorem yExA : (19, "java/lang/IllegalArgumentException") ∈ yExI := List.mem_of_getElem? (i := 1) rfl
theorem yExS : (27, "java/lang/IllegalStateException") ∈ yExI := List.mem_of_getElem? (i := 2) rfl
set_option maxHeartbeats 4000000 in
set_option maxRecDepth 100000 in
theorem m_L_baseV {l : Launch} {S0 : State} {A0 : Array Value} {D : va_G} {aC : Nat → ClassId} {ad : Nat → Nat} {G : AH} {σ : XS} (hS : yS l S0 A0 D aC) (hX : atX aC ad G σ) {o : Nat} {nv : Int64} {sv : Value} (hO : G o = some (600, yOut nv sv)) (p0 : Int32) (p1 : Int32) (p2 : Int32) : yMW l S0 D yL_base cL_base 6 (some .int) [(0, 13, 16, 19)] 40 1 6 [.ref (ad 1), .int p0, .int p1, .int p2, .ref o] G (fun r G1 => ∃ (σ1 : XS) (nv1 : Int64) (sv1 : Value), atX aC ad G1 σ1 ∧ G1 o = some (600, yOut nv1 sv1) ∧ yTg fL G G1 ∧ xoBase p0 p1 p2 r nv1 σ σ1) (fun _ _ => False) := by
  refine yMW.of K_L_base rfl (by decide) (Nat.le_of_ble_eq_true rfl) ?_
  refine y_blk 5 tq_L_base (z := (6, [(0, .ref (ad 1)), (1, .int p0), (2, .int p1), (3, .int p2), (4, .ref o)], [.int p2, .int p1, .int p0, .ref (ad 1), .ref o])) rfl ?_
  refine y_callVC hS tq_L_base rfl rfl (As := [.int p0, .int p1, .int p2]) rfl cv_L_7 (hX.1 1 _ rfl) (m_X8_base_v hS hX p0 p1 p2) rfl (by decide) (Nat.le_of_ble_eq_true rfl) (fun r G1 q => ?_) (fun E G1 q => ?_)
  · obtain ⟨⟨rfl, hok⟩, σ1, hX1, hk1, hn1, hr1⟩ := q
    have hO1 : G1 o = some (600, yOut nv sv) := hk1 _ _ _ hO (Or.inr (by decide))
    refine y_blk 1 tq_L_base (z := (10, [(0, .ref (ad 1)), (1, .int p0), (2, .int p1), (3, .int p2), (4, .ref o)], [.long (Int32.toInt64 (Int32.ofNat (cnt (kop p2) (p0 * p1).toInt.toNat))), .ref o])) rfl ?_
    refine y_putN hS tq_L_base rfl fpn_L_13_X9 hO1 (by decide) rfl rfl (Nat.le_of_ble_eq_true rfl) ?_
    refine y_blk 2 tq_L_base (z := (21, [(0, .ref (ad 1)), (1, .int p0), (2, .int p1), (3, .int p2), (4, .ref o)], [.int 0])) rfl ?_
    exact y_iret tq_L_base rfl rfl ⟨σ1, _, _, hX1.kp (f := fun t => t ≠ 600) (yTg.up hO1 (fun q9 => q9 rfl)) (fun t _ h9 => by omega), yup_s _ _ _, hk1.tg.trans (yTg.up hO1 (by decide)), Or.inl ⟨hok, rfl, rfl, hn1, hr1⟩⟩
  · obtain ⟨hE, eG⟩ := q
    subst eG
    obtain ⟨rfl, hc⟩ := hE
    refine ⟨16, ⟨[], [], (0, 13, 16, 19), rfl, rfl, (show (0 : Nat) ≤ 6 by decide), (show (6 : Nat) < 13 by decide), yExA, (fun z hz => nomatch hz)⟩, fun q9 => ?_⟩
    refine y_blk 2 tq_L_base (z := (19, [(5, .ref q9), (0, .ref (ad 1)), (1, .int p0), (2, .int p1), (3, .int p2), (4, .ref o)], [.int 1])) rfl ?_
    exact y_iret tq_L_base rfl rfl ⟨σ, _, _, hX, hO, yTg.rfl', Or.inr (⟨hc, rfl, rfl⟩)⟩
set_option maxHeartbeats 4000000 in
set_option maxRecDepth 100000 in
theorem m_L_layV {l : Launch} {S0 : State} {A0 : Array Value} {D : va_G} {aC : Nat → ClassId} {ad : Nat → Nat} {G : AH} {σ : XS} (hS : yS l S0 A0 D aC) (hX : atX aC ad G σ) {o : Nat} {nv : Int64} {sv : Value} (hO : G o = some (600, yOut nv sv)) (p0 : Int32) (p1 : Int32) : yMW l S0 D yL_lay cL_lay 5 (some .int) [(0, 11, 14, 25), (0, 11, 18, 19), (0, 11, 22, 27)] 40 3 18 [.ref (ad 1), .int p0, .int p1, .ref o] G (fun r G1 => ∃ (σ1 : XS) (nv1 : Int64) (sv1 : Value), atX aC ad G1 σ1 ∧ G1 o = some (600, yOut nv1 sv1) ∧ yTg fL G G1 ∧ xoLay p0 p1 r nv1 σ σ1) (fun _ _ => False) := by
  refine yMW.of K_L_lay rfl (by decide) (Nat.le_of_ble_eq_true rfl) ?_
  refine y_blk 4 tq_L_lay (z := (4, [(0, .ref (ad 1)), (1, .int p0), (2, .int p1), (3, .ref o)], [.int p1, .int p0, .ref (ad 1), .ref o])) rfl ?_
  refine y_callVC hS tq_L_lay rfl rfl (As := [.int p0, .int p1]) rfl cv_L_21 (hX.1 1 _ rfl) (m_X8_lay_v hS hX p0 p1) rfl (by decide) (Nat.le_of_ble_eq_true rfl) (fun r G1 q => ?_) (fun E G1 q => ?_)
  · obtain ⟨⟨rfl, hok⟩, σ1, hX1, hk1, hn1, hr1⟩ := q
    have hO1 : G1 o = some (600, yOut nv sv) := hk1 _ _ _ hO (Or.inr (by decide))
    refine y_blk 1 tq_L_lay (z := (8, [(0, .ref (ad 1)), (1, .int p0), (2, .int p1), (3, .ref o)], [.long (Int32.toInt64 (xkf σ p0)), .ref o])) rfl ?_
    refine y_putN hS tq_L_lay rfl fpn_L_13_X9 hO1 (by decide) rfl rfl (Nat.le_of_ble_eq_true rfl) ?_
    refine y_blk 2 tq_L_lay (z := (27, [(0, .ref (ad 1)), (1, .int p0), (2, .int p1), (3, .ref o)], [.int 0])) rfl ?_
    exact y_iret tq_L_lay rfl rfl ⟨σ1, _, _, hX1.kp (f := fun t => t ≠ 600) (yTg.up hO1 (fun q9 => q9 rfl)) (fun t _ h9 => by omega), yup_s _ _ _, hk1.tg.trans (yTg.up hO1 (by decide)), Or.inl ⟨hok, rfl, rfl, hn1, hr1⟩⟩
  · obtain ⟨hE, eG⟩ := q
    subst eG
    rcases hE with ⟨rfl, hc⟩ | ⟨rfl, hc⟩ | ⟨rfl, hc⟩
    · skip
      refine ⟨14, ⟨[], [(0, 11, 18, 19), (0, 11, 22, 27)], (0, 11, 14, 25), rfl, rfl, (show (0 : Nat) ≤ 4 by decide), (show (4 : Nat) < 11 by decide), yExB, (fun z hz => nomatch hz)⟩, fun q9 => ?_⟩
      refine y_blk 2 tq_L_lay (z := (17, [(4, .ref q9), (0, .ref (ad 1)), (1, .int p0), (2, .int p1), (3, .ref o)], [.int 1])) rfl ?_
      exact y_iret tq_L_lay rfl rfl ⟨σ, _, _, hX, hO, yTg.rfl', Or.inr (Or.inl ⟨hc, rfl, rfl⟩)⟩
    · skip
      refine ⟨18, ⟨[(0, 11, 14, 25)], [(0, 11, 22, 27)], (0, 11, 18, 19), rfl, rfl, (show (0 : Nat) ≤ 4 by decide), (show (4 : Nat) < 11 by decide), yExA, (fun z hz => by rw [List.mem_singleton.mp hz]; exact ⟨"java/lang/IndexOutOfBoundsException", yExB, by decide⟩)⟩, fun q9 => ?_⟩
      refine y_blk 2 tq_L_lay (z := (21, [(4, .ref q9), (0, .ref (ad 1)), (1, .int p0), (2, .int p1), (3, .ref o)], [.int 2])) rfl ?_
      exact y_iret tq_L_lay rfl rfl ⟨σ, _, _, hX, hO, yTg.rfl', Or.inr (Or.inr (Or.inl ⟨hc, rfl, rfl⟩))⟩
    · skip
      refine ⟨22, ⟨[(0, 11, 14, 25), (0, 11, 18, 19)], [], (0, 11, 22, 27), rfl, rfl, (show (0 : Nat) ≤ 4 by decide), (show (4 : Nat) < 11 by decide), yExS, (fun z hz => by rcases List.mem_cons.mp hz with rfl | hz; exact ⟨"java/lang/IndexOutOfBoundsException", yExB, by decide⟩; rw [List.mem_singleton.mp hz]; exact ⟨"java/lang/IllegalArgumentException", yExA, by decide⟩)⟩, fun q9 => ?_⟩
      refine y_blk 2 tq_L_lay (z := (25, [(4, .ref q9), (0, .ref (ad 1)), (1, .int p0), (2, .int p1), (3, .ref o)], [.int 3])) rfl ?_
      exact y_iret tq_L_lay rfl rfl ⟨σ, _, _, hX, hO, yTg.rfl', Or.inr (Or.inr (Or.inr (⟨hc, rfl, rfl⟩)))⟩
set_option maxHeartbeats 4000000 in
set_option maxRecDepth 100000 in
theorem m_L_gatesV {l : Launch} {S0 : State} {A0 : Array Value} {D : va_G} {aC : Nat → ClassId} {ad : Nat → Nat} {G : AH} {σ : XS} (hS : yS l S0 A0 D aC) (hX : atX aC ad G σ) {o : Nat} {nv : Int64} {sv : Value} (hO : G o = some (600, yOut nv sv)) (p0 : Int32) (p1 : Int32) : yMW l S0 D yL_gates cL_gates 5 (some .int) [(0, 11, 14, 19)] 40 1 6 [.ref (ad 1), .int p0, .int p1, .ref o] G (fun r G1 => ∃ (σ1 : XS) (nv1 : Int64) (sv1 : Value), atX aC ad G1 σ1 ∧ G1 o = some (600, yOut nv1 sv1) ∧ yTg fL G G1 ∧ xoGates p0 p1 r nv1 σ σ1) (fun _ _ => False) := by
  refine yMW.of K_L_gates rfl (by decide) (Nat.le_of_ble_eq_true rfl) ?_
  refine y_blk 4 tq_L_gates (z := (4, [(0, .ref (ad 1)), (1, .int p0), (2, .int p1), (3, .ref o)], [.int p1, .int p0, .ref (ad 1), .ref o])) rfl ?_
  refine y_callVC hS tq_L_gates rfl rfl (As := [.int p0, .int p1]) rfl cv_L_29 (hX.1 1 _ rfl) (m_X8_gates hS hX p0 p1) rfl (by decide) (Nat.le_of_ble_eq_true rfl) (fun r G1 q => ?_) (fun E G1 q => ?_)
  · obtain ⟨⟨rfl, hok⟩, σ1, hX1, hk1, hn1, hr1⟩ := q
    have hO1 : G1 o = some (600, yOut nv sv) := hk1 _ _ _ hO (Or.inr (by decide))
    refine y_blk 1 tq_L_gates (z := (8, [(0, .ref (ad 1)), (1, .int p0), (2, .int p1), (3, .ref o)], [.long (Int32.toInt64 (bcL (σ.2.2.2.1 4))), .ref o])) rfl ?_
    refine y_putN hS tq_L_gates rfl fpn_L_13_X9 hO1 (by decide) rfl rfl (Nat.le_of_ble_eq_true rfl) ?_
    refine y_blk 2 tq_L_gates (z := (19, [(0, .ref (ad 1)), (1, .int p0), (2, .int p1), (3, .ref o)], [.int 0])) rfl ?_
    exact y_iret tq_L_gates rfl rfl ⟨σ1, _, _, hX1.kp (f := fun t => t ≠ 600) (yTg.up hO1 (fun q9 => q9 rfl)) (fun t _ h9 => by omega), yup_s _ _ _, hk1.tg.trans (yTg.up hO1 (by decide)), Or.inl ⟨hok, rfl, rfl, hn1, hr1⟩⟩
  · obtain ⟨hE, eG⟩ := q
    subst eG
    obtain ⟨rfl, hc⟩ := hE
    refine ⟨14, ⟨[], [], (0, 11, 14, 19), rfl, rfl, (show (0 : Nat) ≤ 4 by decide), (show (4 : Nat) < 11 by decide), yExA, (fun z hz => nomatch hz)⟩, fun q9 => ?_⟩
    refine y_blk 2 tq_L_gates (z := (17, [(4, .ref q9), (0, .ref (ad 1)), (1, .int p0), (2, .int p1), (3, .ref o)], [.int 1])) rfl ?_
    exact y_iret tq_L_gates rfl rfl ⟨σ, _, _, hX, hO, yTg.rfl', Or.inr (⟨hc, rfl, rfl⟩)⟩
set_option maxHeartbeats 4000000 in
set_option maxRecDepth 100000 in
theorem m_L_lampV {l : Launch} {S0 : State} {A0 : Array Value} {D : va_G} {aC : Nat → ClassId} {ad : Nat → Nat} {G : AH} {σ : XS} (hS : yS l S0 A0 D aC) (hX : atX aC ad G σ) {o : Nat} {nv : Int64} {sv : Value} (hO : G o = some (600, yOut nv sv)) (p0 : Int32) (p1 : Int32) : yMW l S0 D yL_lamp cL_lamp 5 (some .int) [(0, 11, 14, 25), (0, 11, 18, 19), (0, 11, 22, 27)] 40 3 18 [.ref (ad 1), .int p0, .int p1, .ref o] G (fun r G1 => ∃ (σ1 : XS) (nv1 : Int64) (sv1 : Value), atX aC ad G1 σ1 ∧ G1 o = some (600, yOut nv1 sv1) ∧ yTg fL G G1 ∧ xoLamp p0 p1 r nv1 σ σ1) (fun _ _ => False) := by
  refine yMW.of K_L_lamp rfl (by decide) (Nat.le_of_ble_eq_true rfl) ?_
  refine y_blk 4 tq_L_lamp (z := (4, [(0, .ref (ad 1)), (1, .int p0), (2, .int p1), (3, .ref o)], [.int p1, .int p0, .ref (ad 1), .ref o])) rfl ?_
  refine y_callVC hS tq_L_lamp rfl rfl (As := [.int p0, .int p1]) rfl cv_L_32 (hX.1 1 _ rfl) (m_X8_lamp hS hX p0 p1) rfl (by decide) (Nat.le_of_ble_eq_true rfl) (fun r G1 q => ?_) (fun E G1 q => ?_)
  · obtain ⟨⟨rfl, hok⟩, σ1, hX1, hk1, hn1, hr1⟩ := q
    have hO1 : G1 o = some (600, yOut nv sv) := hk1 _ _ _ hO (Or.inr (by decide))
    refine y_blk 1 tq_L_lamp (z := (8, [(0, .ref (ad 1)), (1, .int p0), (2, .int p1), (3, .ref o)], [.long (Int32.toInt64 ((xlampU σ p0 p1).1 0 - 1)), .ref o])) rfl ?_
    refine y_putN hS tq_L_lamp rfl fpn_L_13_X9 hO1 (by decide) rfl rfl (Nat.le_of_ble_eq_true rfl) ?_
    refine y_blk 2 tq_L_lamp (z := (27, [(0, .ref (ad 1)), (1, .int p0), (2, .int p1), (3, .ref o)], [.int 0])) rfl ?_
    exact y_iret tq_L_lamp rfl rfl ⟨σ1, _, _, hX1.kp (f := fun t => t ≠ 600) (yTg.up hO1 (fun q9 => q9 rfl)) (fun t _ h9 => by omega), yup_s _ _ _, hk1.tg.trans (yTg.up hO1 (by decide)), Or.inl ⟨hok, rfl, rfl, hn1, hr1⟩⟩
  · obtain ⟨hE, eG⟩ := q
    subst eG
    rcases hE with ⟨rfl, hc⟩ | ⟨rfl, hc⟩ | ⟨rfl, hc⟩
    · skip
      refine ⟨14, ⟨[], [(0, 11, 18, 19), (0, 11, 22, 27)], (0, 11, 14, 25), rfl, rfl, (show (0 : Nat) ≤ 4 by decide), (show (4 : Nat) < 11 by decide), yExB, (fun z hz => nomatch hz)⟩, fun q9 => ?_⟩
      refine y_blk 2 tq_L_lamp (z := (17, [(4, .ref q9), (0, .ref (ad 1)), (1, .int p0), (2, .int p1), (3, .ref o)], [.int 1])) rfl ?_
      exact y_iret tq_L_lamp rfl rfl ⟨σ, _, _, hX, hO, yTg.rfl', Or.inr (Or.inl ⟨hc, rfl, rfl⟩)⟩
    · skip
      refine ⟨18, ⟨[(0, 11, 14, 25)], [(0, 11, 22, 27)], (0, 11, 18, 19), rfl, rfl, (show (0 : Nat) ≤ 4 by decide), (show (4 : Nat) < 11 by decide), yExA, (fun z hz => by rw [List.mem_singleton.mp hz]; exact ⟨"java/lang/IndexOutOfBoundsException", yExB, by decide⟩)⟩, fun q9 => ?_⟩
      refine y_blk 2 tq_L_lamp (z := (21, [(4, .ref q9), (0, .ref (ad 1)), (1, .int p0), (2, .int p1), (3, .ref o)], [.int 2])) rfl ?_
      exact y_iret tq_L_lamp rfl rfl ⟨σ, _, _, hX, hO, yTg.rfl', Or.inr (Or.inr (Or.inl ⟨hc, rfl, rfl⟩))⟩
    · skip
      refine ⟨22, ⟨[(0, 11, 14, 25), (0, 11, 18, 19)], [], (0, 11, 22, 27), rfl, rfl, (show (0 : Nat) ≤ 4 by decide), (show (4 : Nat) < 11 by decide), yExS, (fun z hz => by rcases List.mem_cons.mp hz with rfl | hz; exact ⟨"java/lang/IndexOutOfBoundsException", yExB, by decide⟩; rw [List.mem_singleton.mp hz]; exact ⟨"java/lang/IllegalArgumentException", yExA, by decide⟩)⟩, fun q9 => ?_⟩
      refine y_blk 2 tq_L_lamp (z := (25, [(4, .ref q9), (0, .ref (ad 1)), (1, .int p0), (2, .int p1), (3, .ref o)], [.int 3])) rfl ?_
      exact y_iret tq_L_lamp rfl rfl ⟨σ, _, _, hX, hO, yTg.rfl', Or.inr (Or.inr (Or.inr (⟨hc, rfl, rfl⟩)))⟩
set_option maxHeartbeats 4000000 in
set_option maxRecDepth 100000 in
theorem m_L_lightV {l : Launch} {S0 : State} {A0 : Array Value} {D : va_G} {aC : Nat → ClassId} {ad : Nat → Nat} {G : AH} {σ : XS} (hS : yS l S0 A0 D aC) (hX : atX aC ad G σ) {o : Nat} {nv : Int64} {sv : Value} (hO : G o = some (600, yOut nv sv)) (p0 : Int32) (p1 : Int32) : yMW l S0 D yL_light cL_light 5 (some .int) [(0, 11, 14, 25)] 40 1 6 [.ref (ad 1), .int p0, .int p1, .ref o] G (fun r G1 => ∃ (σ1 : XS) (nv1 : Int64) (sv1 : Value), atX aC ad G1 σ1 ∧ G1 o = some (600, yOut nv1 sv1) ∧ yTg fL G G1 ∧ xoLight p0 p1 r nv1 σ σ1) (fun _ _ => False) := by
  refine yMW.of K_L_light rfl (by decide) (Nat.le_of_ble_eq_true rfl) ?_
  refine y_blk 4 tq_L_light (z := (4, [(0, .ref (ad 1)), (1, .int p0), (2, .int p1), (3, .ref o)], [.int p1, .int p0, .ref (ad 1), .ref o])) rfl ?_
  refine y_callVC hS tq_L_light rfl rfl (As := [.int p0, .int p1]) rfl cv_L_35 (hX.1 1 _ rfl) (m_X8_light_v hS hX p0 p1) rfl (by decide) (Nat.le_of_ble_eq_true rfl) (fun r G1 q => ?_) (fun E G1 q => ?_)
  · obtain ⟨⟨rfl, hok⟩, σ1, hX1, hk1, hn1, hr1⟩ := q
    have hO1 : G1 o = some (600, yOut nv sv) := hk1 _ _ _ hO (Or.inr (by decide))
    refine y_blk 1 tq_L_light (z := (8, [(0, .ref (ad 1)), (1, .int p0), (2, .int p1), (3, .ref o)], [.long (Int32.toInt64 (bcL (xbri (xput σ 2 p0 (if p1 = 0 then 0 else 1))))), .ref o])) rfl ?_
    refine y_putN hS tq_L_light rfl fpn_L_13_X9 hO1 (by decide) rfl rfl (Nat.le_of_ble_eq_true rfl) ?_
    refine y_blk 2 tq_L_light (z := (19, [(0, .ref (ad 1)), (1, .int p0), (2, .int p1), (3, .ref o)], [.int 0])) rfl ?_
    exact y_iret tq_L_light rfl rfl ⟨σ1, _, _, hX1.kp (f := fun t => t ≠ 600) (yTg.up hO1 (fun q9 => q9 rfl)) (fun t _ h9 => by omega), yup_s _ _ _, hk1.tg.trans (yTg.up hO1 (by decide)), Or.inl ⟨hok, rfl, rfl, hn1, hr1⟩⟩
  · obtain ⟨hE, eG⟩ := q
    subst eG
    obtain ⟨rfl, hc⟩ := hE
    refine ⟨14, ⟨[], [], (0, 11, 14, 25), rfl, rfl, (show (0 : Nat) ≤ 4 by decide), (show (4 : Nat) < 11 by decide), yExB, (fun z hz => nomatch hz)⟩, fun q9 => ?_⟩
    refine y_blk 2 tq_L_light (z := (17, [(4, .ref q9), (0, .ref (ad 1)), (1, .int p0), (2, .int p1), (3, .ref o)], [.int 1])) rfl ?_
    exact y_iret tq_L_light rfl rfl ⟨σ, _, _, hX, hO, yTg.rfl', Or.inr (⟨hc, rfl, rfl⟩)⟩
set_option maxHeartbeats 4000000 in
set_option maxRecDepth 100000 in
theorem m_L_fogV {l : Launch} {S0 : State} {A0 : Array Value} {D : va_G} {aC : Nat → ClassId} {ad : Nat → Nat} {G : AH} {σ : XS} (hS : yS l S0 A0 D aC) (hX : atX aC ad G σ) {o : Nat} {nv : Int64} {sv : Value} (hO : G o = some (600, yOut nv sv)) (p0 : Int32) (p1 : Int32) : yMW l S0 D yL_fog cL_fog 5 (some .int) [(0, 11, 14, 19), (0, 11, 18, 27)] 40 2 12 [.ref (ad 1), .int p0, .int p1, .ref o] G (fun r G1 => ∃ (σ1 : XS) (nv1 : Int64) (sv1 : Value), atX aC ad G1 σ1 ∧ G1 o = some (600, yOut nv1 sv1) ∧ yTg fL G G1 ∧ xoFog p0 p1 r nv1 σ σ1) (fun _ _ => False) := by
  refine yMW.of K_L_fog rfl (by decide) (Nat.le_of_ble_eq_true rfl) ?_
  refine y_blk 4 tq_L_fog (z := (4, [(0, .ref (ad 1)), (1, .int p0), (2, .int p1), (3, .ref o)], [.int p1, .int p0, .ref (ad 1), .ref o])) rfl ?_
  refine y_callVC hS tq_L_fog rfl rfl (As := [.int p0, .int p1]) rfl cv_L_39 (hX.1 1 _ rfl) (m_X8_fog hS hX p0 p1) rfl (by decide) (Nat.le_of_ble_eq_true rfl) (fun r G1 q => ?_) (fun E G1 q => ?_)
  · obtain ⟨⟨rfl, hok⟩, σ1, hX1, hk1, hn1, hr1⟩ := q
    have hO1 : G1 o = some (600, yOut nv sv) := hk1 _ _ _ hO (Or.inr (by decide))
    refine y_blk 1 tq_L_fog (z := (8, [(0, .ref (ad 1)), (1, .int p0), (2, .int p1), (3, .ref o)], [.long (Int32.toInt64 ((xfogT σ p0 p1).1 3)), .ref o])) rfl ?_
    refine y_putN hS tq_L_fog rfl fpn_L_13_X9 hO1 (by decide) rfl rfl (Nat.le_of_ble_eq_true rfl) ?_
    refine y_blk 2 tq_L_fog (z := (23, [(0, .ref (ad 1)), (1, .int p0), (2, .int p1), (3, .ref o)], [.int 0])) rfl ?_
    exact y_iret tq_L_fog rfl rfl ⟨σ1, _, _, hX1.kp (f := fun t => t ≠ 600) (yTg.up hO1 (fun q9 => q9 rfl)) (fun t _ h9 => by omega), yup_s _ _ _, hk1.tg.trans (yTg.up hO1 (by decide)), Or.inl ⟨hok, rfl, rfl, hn1, hr1⟩⟩
  · obtain ⟨hE, eG⟩ := q
    subst eG
    rcases hE with ⟨rfl, hc⟩ | ⟨rfl, hc⟩
    · skip
      refine ⟨14, ⟨[], [(0, 11, 18, 27)], (0, 11, 14, 19), rfl, rfl, (show (0 : Nat) ≤ 4 by decide), (show (4 : Nat) < 11 by decide), yExA, (fun z hz => nomatch hz)⟩, fun q9 => ?_⟩
      refine y_blk 2 tq_L_fog (z := (17, [(4, .ref q9), (0, .ref (ad 1)), (1, .int p0), (2, .int p1), (3, .ref o)], [.int 1])) rfl ?_
      exact y_iret tq_L_fog rfl rfl ⟨σ, _, _, hX, hO, yTg.rfl', Or.inr (Or.inl ⟨hc, rfl, rfl⟩)⟩
    · skip
      refine ⟨18, ⟨[(0, 11, 14, 19)], [], (0, 11, 18, 27), rfl, rfl, (show (0 : Nat) ≤ 4 by decide), (show (4 : Nat) < 11 by decide), yExS, (fun z hz => by rw [List.mem_singleton.mp hz]; exact ⟨"java/lang/IllegalArgumentException", yExA, by decide⟩)⟩, fun q9 => ?_⟩
      refine y_blk 2 tq_L_fog (z := (21, [(4, .ref q9), (0, .ref (ad 1)), (1, .int p0), (2, .int p1), (3, .ref o)], [.int 2])) rfl ?_
      exact y_iret tq_L_fog rfl rfl ⟨σ, _, _, hX, hO, yTg.rfl', Or.inr (Or.inr (⟨hc, rfl, rfl⟩))⟩
set_option maxHeartbeats 4000000 in
set_option maxRecDepth 100000 in
theorem m_L_guardV {l : Launch} {S0 : State} {A0 : Array Value} {D : va_G} {aC : Nat → ClassId} {ad : Nat → Nat} {G : AH} {σ : XS} (hS : yS l S0 A0 D aC) (hX : atX aC ad G σ) {o : Nat} {nv : Int64} {sv : Value} (hO : G o = some (600, yOut nv sv)) (p0 : Int32) (p1 : Int32) (p2 : Int32) (p3 : Int32) : yMW l S0 D yL_guard cL_guard 7 (some .int) [(0, 15, 18, 25), (0, 15, 22, 19), (0, 15, 26, 27)] 40 3 18 [.ref (ad 1), .int p0, .int p1, .int p2, .int p3, .ref o] G (fun r G1 => ∃ (σ1 : XS) (nv1 : Int64) (sv1 : Value), atX aC ad G1 σ1 ∧ G1 o = some (600, yOut nv1 sv1) ∧ yTg fL G G1 ∧ xoGuard p0 p1 p2 p3 r nv1 σ σ1) (fun _ _ => False) := by
  refine yMW.of K_L_guard rfl (by decide) (Nat.le_of_ble_eq_true rfl) ?_
  refine y_blk 6 tq_L_guard (z := (8, [(0, .ref (ad 1)), (1, .int p0), (2, .int p1), (3, .int p2), (4, .int p3), (5, .ref o)], [.int p3, .int p2, .int p1, .int p0, .ref (ad 1), .ref o])) rfl ?_
  refine y_callVC hS tq_L_guard rfl rfl (As := [.int p0, .int p1, .int p2, .int p3]) rfl cv_L_42 (hX.1 1 _ rfl) (m_X8_guard hS hX p0 p1 p2 p3) rfl (by decide) (Nat.le_of_ble_eq_true rfl) (fun r G1 q => ?_) (fun E G1 q => ?_)
  · obtain ⟨⟨rfl, hok⟩, σ1, hX1, hk1, hn1, hr1⟩ := q
    have hO1 : G1 o = some (600, yOut nv sv) := hk1 _ _ _ hO (Or.inr (by decide))
    refine y_blk 1 tq_L_guard (z := (12, [(0, .ref (ad 1)), (1, .int p0), (2, .int p1), (3, .int p2), (4, .int p3), (5, .ref o)], [.long (Int32.toInt64 ((xenl σ p0 p1 p2 p3).1 5 - 1)), .ref o])) rfl ?_
    refine y_putN hS tq_L_guard rfl fpn_L_13_X9 hO1 (by decide) rfl rfl (Nat.le_of_ble_eq_true rfl) ?_
    refine y_blk 2 tq_L_guard (z := (31, [(0, .ref (ad 1)), (1, .int p0), (2, .int p1), (3, .int p2), (4, .int p3), (5, .ref o)], [.int 0])) rfl ?_
    exact y_iret tq_L_guard rfl rfl ⟨σ1, _, _, hX1.kp (f := fun t => t ≠ 600) (yTg.up hO1 (fun q9 => q9 rfl)) (fun t _ h9 => by omega), yup_s _ _ _, hk1.tg.trans (yTg.up hO1 (by decide)), Or.inl ⟨hok, rfl, rfl, hn1, hr1⟩⟩
  · obtain ⟨hE, eG⟩ := q
    subst eG
    rcases hE with ⟨rfl, hc⟩ | ⟨rfl, hc⟩ | ⟨rfl, hc⟩
    · skip
      refine ⟨18, ⟨[], [(0, 15, 22, 19), (0, 15, 26, 27)], (0, 15, 18, 25), rfl, rfl, (show (0 : Nat) ≤ 8 by decide), (show (8 : Nat) < 15 by decide), yExB, (fun z hz => nomatch hz)⟩, fun q9 => ?_⟩
      refine y_blk 2 tq_L_guard (z := (21, [(6, .ref q9), (0, .ref (ad 1)), (1, .int p0), (2, .int p1), (3, .int p2), (4, .int p3), (5, .ref o)], [.int 1])) rfl ?_
      exact y_iret tq_L_guard rfl rfl ⟨σ, _, _, hX, hO, yTg.rfl', Or.inr (Or.inl ⟨hc, rfl, rfl⟩)⟩
    · skip
      refine ⟨22, ⟨[(0, 15, 18, 25)], [(0, 15, 26, 27)], (0, 15, 22, 19), rfl, rfl, (show (0 : Nat) ≤ 8 by decide), (show (8 : Nat) < 15 by decide), yExA, (fun z hz => by rw [List.mem_singleton.mp hz]; exact ⟨"java/lang/IndexOutOfBoundsException", yExB, by decide⟩)⟩, fun q9 => ?_⟩
      refine y_blk 2 tq_L_guard (z := (25, [(6, .ref q9), (0, .ref (ad 1)), (1, .int p0), (2, .int p1), (3, .int p2), (4, .int p3), (5, .ref o)], [.int 2])) rfl ?_
      exact y_iret tq_L_guard rfl rfl ⟨σ, _, _, hX, hO, yTg.rfl', Or.inr (Or.inr (Or.inl ⟨hc, rfl, rfl⟩))⟩
    · skip
      refine ⟨26, ⟨[(0, 15, 18, 25), (0, 15, 22, 19)], [], (0, 15, 26, 27), rfl, rfl, (show (0 : Nat) ≤ 8 by decide), (show (8 : Nat) < 15 by decide), yExS, (fun z hz => by rcases List.mem_cons.mp hz with rfl | hz; exact ⟨"java/lang/IndexOutOfBoundsException", yExB, by decide⟩; rw [List.mem_singleton.mp hz]; exact ⟨"java/lang/IllegalArgumentException", yExA, by decide⟩)⟩, fun q9 => ?_⟩
      refine y_blk 2 tq_L_guard (z := (29, [(6, .ref q9), (0, .ref (ad 1)), (1, .int p0), (2, .int p1), (3, .int p2), (4, .int p3), (5, .ref o)], [.int 3])) rfl ?_
      exact y_iret tq_L_guard rfl rfl ⟨σ, _, _, hX, hO, yTg.rfl', Or.inr (Or.inr (Or.inr (⟨hc, rfl, rfl⟩)))⟩
set_option maxHeartbeats 4000000 in
set_option maxRecDepth 100000 in
theorem m_L_roundV {l : Launch} {S0 : State} {A0 : Array Value} {D : va_G} {aC : Nat → ClassId} {ad : Nat → Nat} {G : AH} {σ : XS} (hS : yS l S0 A0 D aC) (hX : atX aC ad G σ) {o : Nat} {nv : Int64} {sv : Value} (hO : G o = some (600, yOut nv sv)) (p0 : Int32) (p1 : Int32) : yMW l S0 D yL_round cL_round 5 (some .int) [(0, 11, 14, 25), (0, 11, 18, 27)] 40 3 18 [.ref (ad 1), .int p0, .int p1, .ref o] G (fun r G1 => ∃ (σ1 : XS) (nv1 : Int64) (sv1 : Value), atX aC ad G1 σ1 ∧ G1 o = some (600, yOut nv1 sv1) ∧ yTg fL G G1 ∧ xoRound p0 p1 r nv1 σ σ1) (fun _ _ => False) := by
  refine yMW.of K_L_round rfl (by decide) (Nat.le_of_ble_eq_true rfl) ?_
  refine y_blk 4 tq_L_round (z := (4, [(0, .ref (ad 1)), (1, .int p0), (2, .int p1), (3, .ref o)], [.int p1, .int p0, .ref (ad 1), .ref o])) rfl ?_
  refine y_callVC hS tq_L_round rfl rfl (As := [.int p0, .int p1]) rfl cv_L_46 (hX.1 1 _ rfl) (m_X8_round hS hX p0 p1) rfl (by decide) (Nat.le_of_ble_eq_true rfl) (fun r G1 q => ?_) (fun E G1 q => ?_)
  · obtain ⟨⟨rfl, hok⟩, σ1, hX1, hk1, hn1, hr1⟩ := q
    have hO1 : G1 o = some (600, yOut nv sv) := hk1 _ _ _ hO (Or.inr (by decide))
    refine y_blk 1 tq_L_round (z := (8, [(0, .ref (ad 1)), (1, .int p0), (2, .int p1), (3, .ref o)], [.long (Int32.toInt64 (xat σ 8 p0 + 1)), .ref o])) rfl ?_
    refine y_putN hS tq_L_round rfl fpn_L_13_X9 hO1 (by decide) rfl rfl (Nat.le_of_ble_eq_true rfl) ?_
    refine y_blk 2 tq_L_round (z := (23, [(0, .ref (ad 1)), (1, .int p0), (2, .int p1), (3, .ref o)], [.int 0])) rfl ?_
    exact y_iret tq_L_round rfl rfl ⟨σ1, _, _, hX1.kp (f := fun t => t ≠ 600) (yTg.up hO1 (fun q9 => q9 rfl)) (fun t _ h9 => by omega), yup_s _ _ _, hk1.tg.trans (yTg.up hO1 (by decide)), Or.inl ⟨hok, rfl, rfl, hn1, hr1⟩⟩
  · obtain ⟨hE, eG⟩ := q
    subst eG
    rcases hE with ⟨rfl, hc⟩ | ⟨rfl, hc⟩
    · skip
      refine ⟨14, ⟨[], [(0, 11, 18, 27)], (0, 11, 14, 25), rfl, rfl, (show (0 : Nat) ≤ 4 by decide), (show (4 : Nat) < 11 by decide), yExB, (fun z hz => nomatch hz)⟩, fun q9 => ?_⟩
      refine y_blk 2 tq_L_round (z := (17, [(4, .ref q9), (0, .ref (ad 1)), (1, .int p0), (2, .int p1), (3, .ref o)], [.int 1])) rfl ?_
      exact y_iret tq_L_round rfl rfl ⟨σ, _, _, hX, hO, yTg.rfl', Or.inr (Or.inl ⟨hc, rfl, rfl⟩)⟩
    · skip
      refine ⟨18, ⟨[(0, 11, 14, 25)], [], (0, 11, 18, 27), rfl, rfl, (show (0 : Nat) ≤ 4 by decide), (show (4 : Nat) < 11 by decide), yExS, (fun z hz => by rw [List.mem_singleton.mp hz]; exact ⟨"java/lang/IndexOutOfBoundsException", yExB, by decide⟩)⟩, fun q9 => ?_⟩
      refine y_blk 2 tq_L_round (z := (21, [(4, .ref q9), (0, .ref (ad 1)), (1, .int p0), (2, .int p1), (3, .ref o)], [.int 2])) rfl ?_
      exact y_iret tq_L_round rfl rfl ⟨σ, _, _, hX, hO, yTg.rfl', Or.inr (Or.inr (⟨hc, rfl, rfl⟩))⟩
set_option maxHeartbeats 4000000 in
set_option maxRecDepth 100000 in
theorem m_L_postV {l : Launch} {S0 : State} {A0 : Array Value} {D : va_G} {aC : Nat → ClassId} {ad : Nat → Nat} {G : AH} {σ : XS} (hS : yS l S0 A0 D aC) (hX : atX aC ad G σ) {o : Nat} {nv : Int64} {sv : Value} (hO : G o = some (600, yOut nv sv)) (p0 : Int32) : yMW l S0 D yL_post cL_post 4 (some .int) [(0, 10, 13, 25), (0, 10, 16, 27)] 40 2 12 [.ref (ad 1), .int p0, .ref o] G (fun r G1 => ∃ (σ1 : XS) (nv1 : Int64) (sv1 : Value), atX aC ad G1 σ1 ∧ G1 o = some (600, yOut nv1 sv1) ∧ yTg fL G G1 ∧ xoPost p0 r nv1 σ σ1) (fun _ _ => False) := by
  refine yMW.of K_L_post rfl (by decide) (Nat.le_of_ble_eq_true rfl) ?_
  refine y_blk 3 tq_L_post (z := (3, [(0, .ref (ad 1)), (1, .int p0), (2, .ref o)], [.int p0, .ref (ad 1), .ref o])) rfl ?_
  refine y_callVC hS tq_L_post rfl rfl (As := [.int p0]) rfl cv_L_49 (hX.1 1 _ rfl) (m_X8_post hS hX p0) rfl (by decide) (Nat.le_of_ble_eq_true rfl) (fun r G1 q => ?_) (fun E G1 q => ?_)
  · obtain ⟨⟨rfl, hok⟩, σ1, hX1, hk1, hn1, hr1⟩ := q
    have hO1 : G1 o = some (600, yOut nv sv) := hk1 _ _ _ hO (Or.inr (by decide))
    refine y_blk 1 tq_L_post (z := (7, [(0, .ref (ad 1)), (1, .int p0), (2, .ref o)], [.long (Int32.toInt64 ((xadd σ 10 p0).1 10 - 1)), .ref o])) rfl ?_
    refine y_putN hS tq_L_post rfl fpn_L_13_X9 hO1 (by decide) rfl rfl (Nat.le_of_ble_eq_true rfl) ?_
    refine y_blk 2 tq_L_post (z := (20, [(0, .ref (ad 1)), (1, .int p0), (2, .ref o)], [.int 0])) rfl ?_
    exact y_iret tq_L_post rfl rfl ⟨σ1, _, _, hX1.kp (f := fun t => t ≠ 600) (yTg.up hO1 (fun q9 => q9 rfl)) (fun t _ h9 => by omega), yup_s _ _ _, hk1.tg.trans (yTg.up hO1 (by decide)), Or.inl ⟨hok, rfl, rfl, hn1, hr1⟩⟩
  · obtain ⟨hE, eG⟩ := q
    subst eG
    rcases hE with ⟨rfl, hc⟩ | ⟨rfl, hc⟩
    · skip
      refine ⟨13, ⟨[], [(0, 10, 16, 27)], (0, 10, 13, 25), rfl, rfl, (show (0 : Nat) ≤ 3 by decide), (show (3 : Nat) < 10 by decide), yExB, (fun z hz => nomatch hz)⟩, fun q9 => ?_⟩
      refine y_blk 2 tq_L_post (z := (15, [(3, .ref q9), (0, .ref (ad 1)), (1, .int p0), (2, .ref o)], [.int 1])) rfl ?_
      exact y_iret tq_L_post rfl rfl ⟨σ, _, _, hX, hO, yTg.rfl', Or.inr (Or.inl ⟨hc, rfl, rfl⟩)⟩
    · skip
      refine ⟨16, ⟨[(0, 10, 13, 25)], [], (0, 10, 16, 27), rfl, rfl, (show (0 : Nat) ≤ 3 by decide), (show (3 : Nat) < 10 by decide), yExS, (fun z hz => by rw [List.mem_singleton.mp hz]; exact ⟨"java/lang/IndexOutOfBoundsException", yExB, by decide⟩)⟩, fun q9 => ?_⟩
      refine y_blk 2 tq_L_post (z := (18, [(3, .ref q9), (0, .ref (ad 1)), (1, .int p0), (2, .ref o)], [.int 2])) rfl ?_
      exact y_iret tq_L_post rfl rfl ⟨σ, _, _, hX, hO, yTg.rfl', Or.inr (Or.inr (⟨hc, rfl, rfl⟩))⟩
set_option maxHeartbeats 4000000 in
set_option maxRecDepth 100000 in
theorem m_L_placeV {l : Launch} {S0 : State} {A0 : Array Value} {D : va_G} {aC : Nat → ClassId} {ad : Nat → Nat} {G : AH} {σ : XS} (hS : yS l S0 A0 D aC) (hX : atX aC ad G σ) {o : Nat} {nv : Int64} {sv : Value} (hO : G o = some (600, yOut nv sv)) (p0 : Int32) (p1 : Int32) : yMW l S0 D yL_place cL_place 5 (some .int) [(0, 11, 14, 25), (0, 11, 18, 19)] 40 2 12 [.ref (ad 1), .int p0, .int p1, .ref o] G (fun r G1 => ∃ (σ1 : XS) (nv1 : Int64) (sv1 : Value), atX aC ad G1 σ1 ∧ G1 o = some (600, yOut nv1 sv1) ∧ yTg fL G G1 ∧ xoPlace p0 p1 r nv1 σ σ1) (fun _ _ => False) := by
  refine yMW.of K_L_place rfl (by decide) (Nat.le_of_ble_eq_true rfl) ?_
  refine y_blk 4 tq_L_place (z := (4, [(0, .ref (ad 1)), (1, .int p0), (2, .int p1), (3, .ref o)], [.int p1, .int p0, .ref (ad 1), .ref o])) rfl ?_
  refine y_callVC hS tq_L_place rfl rfl (As := [.int p0, .int p1]) rfl cv_L_53 (hX.1 1 _ rfl) (m_X8_place hS hX p0 p1) rfl (by decide) (Nat.le_of_ble_eq_true rfl) (fun r G1 q => ?_) (fun E G1 q => ?_)
  · obtain ⟨⟨rfl, hok⟩, σ1, hX1, hk1, hn1, hr1⟩ := q
    have hO1 : G1 o = some (600, yOut nv sv) := hk1 _ _ _ hO (Or.inr (by decide))
    refine y_blk 1 tq_L_place (z := (8, [(0, .ref (ad 1)), (1, .int p0), (2, .int p1), (3, .ref o)], [.long (Int32.toInt64 (xsta σ p0 p1)), .ref o])) rfl ?_
    refine y_putN hS tq_L_place rfl fpn_L_13_X9 hO1 (by decide) rfl rfl (Nat.le_of_ble_eq_true rfl) ?_
    refine y_blk 2 tq_L_place (z := (23, [(0, .ref (ad 1)), (1, .int p0), (2, .int p1), (3, .ref o)], [.int 0])) rfl ?_
    exact y_iret tq_L_place rfl rfl ⟨σ1, _, _, hX1.kp (f := fun t => t ≠ 600) (yTg.up hO1 (fun q9 => q9 rfl)) (fun t _ h9 => by omega), yup_s _ _ _, hk1.tg.trans (yTg.up hO1 (by decide)), Or.inl ⟨hok, rfl, rfl, hn1, hr1⟩⟩
  · obtain ⟨hE, eG⟩ := q
    subst eG
    rcases hE with ⟨rfl, hc⟩ | ⟨rfl, hc⟩
    · skip
      refine ⟨14, ⟨[], [(0, 11, 18, 19)], (0, 11, 14, 25), rfl, rfl, (show (0 : Nat) ≤ 4 by decide), (show (4 : Nat) < 11 by decide), yExB, (fun z hz => nomatch hz)⟩, fun q9 => ?_⟩
      refine y_blk 2 tq_L_place (z := (17, [(4, .ref q9), (0, .ref (ad 1)), (1, .int p0), (2, .int p1), (3, .ref o)], [.int 1])) rfl ?_
      exact y_iret tq_L_place rfl rfl ⟨σ, _, _, hX, hO, yTg.rfl', Or.inr (Or.inl ⟨hc, rfl, rfl⟩)⟩
    · skip
      refine ⟨18, ⟨[(0, 11, 14, 25)], [], (0, 11, 18, 19), rfl, rfl, (show (0 : Nat) ≤ 4 by decide), (show (4 : Nat) < 11 by decide), yExA, (fun z hz => by rw [List.mem_singleton.mp hz]; exact ⟨"java/lang/IndexOutOfBoundsException", yExB, by decide⟩)⟩, fun q9 => ?_⟩
      refine y_blk 2 tq_L_place (z := (21, [(4, .ref q9), (0, .ref (ad 1)), (1, .int p0), (2, .int p1), (3, .ref o)], [.int 2])) rfl ?_
      exact y_iret tq_L_place rfl rfl ⟨σ, _, _, hX, hO, yTg.rfl', Or.inr (Or.inr (⟨hc, rfl, rfl⟩))⟩
set_option maxHeartbeats 4000000 in
set_option maxRecDepth 100000 in
theorem m_L_seesV {l : Launch} {S0 : State} {A0 : Array Value} {D : va_G} {aC : Nat → ClassId} {ad : Nat → Nat} {G : AH} {σ : XS} (hS : yS l S0 A0 D aC) (hX : atX aC ad G σ) {o : Nat} {nv : Int64} {sv : Value} (hO : G o = some (600, yOut nv sv)) (p0 : Int32) (p1 : Int32) (p2 : Int32) : yMW l S0 D yL_sees cL_sees 6 (some .int) [(0, 20, 23, 25), (0, 20, 27, 19)] 40 3 18 [.ref (ad 1), .int p0, .int p1, .int p2, .ref o] G (fun r G1 => ∃ (σ1 : XS) (nv1 : Int64) (sv1 : Value), atX aC ad G1 σ1 ∧ G1 o = some (600, yOut nv1 sv1) ∧ yTg fL G G1 ∧ xoSees p0 p1 p2 r nv1 σ σ1) (fun _ _ => False) := by
  refine yMW.of K_L_sees rfl (by decide) (Nat.le_of_ble_eq_true rfl) ?_
  refine y_blk 5 tq_L_sees (z := (6, [(0, .ref (ad 1)), (1, .int p0), (2, .int p1), (3, .int p2), (4, .ref o)], [.int p2, .int p1, .int p0, .ref (ad 1), .ref o])) rfl ?_
  refine y_callVC hS tq_L_sees rfl rfl (As := [.int p0, .int p1, .int p2]) rfl cv_L_56 (hX.1 1 _ rfl) (m_X8_sees_v hS hX p0 p1 p2) rfl (by decide) (Nat.le_of_ble_eq_true rfl) (fun r G1 q => ?_) (fun E G1 q => ?_)
  · obtain ⟨⟨rfl, hok⟩, σ1, hX1, hk1, hn1, hr1⟩ := q
    have hO1 : G1 o = some (600, yOut nv sv) := hk1 _ _ _ hO (Or.inr (by decide))
    refine y_if_eq tq_L_sees 16 rfl rfl (fun c1 => ?_) (fun c1 => ?_)
    · skip
      refine y_blk 1 tq_L_sees (z := (17, [(0, .ref (ad 1)), (1, .int p0), (2, .int p1), (3, .int p2), (4, .ref o)], [.long 0, .ref o])) rfl ?_
      refine y_putN hS tq_L_sees rfl fpn_L_13_X9 hO1 (by decide) rfl rfl (Nat.le_of_ble_eq_true rfl) ?_
      refine y_blk 2 tq_L_sees (z := (32, [(0, .ref (ad 1)), (1, .int p0), (2, .int p1), (3, .int p2), (4, .ref o)], [.int 0])) rfl ?_
      exact y_iret tq_L_sees rfl rfl ⟨σ1, _, _, hX1.kp (f := fun t => t ≠ 600) (yTg.up hO1 (fun q9 => q9 rfl)) (fun t _ h9 => by omega), yup_s _ _ _, hk1.tg.trans (yTg.up hO1 (by decide)), Or.inl ⟨hok, rfl, ((congrArg Int32.toInt64 c1).trans (by decide)).symm, hn1, hr1⟩⟩
    · skip
      refine y_blk 2 tq_L_sees (z := (17, [(0, .ref (ad 1)), (1, .int p0), (2, .int p1), (3, .int p2), (4, .ref o)], [.long 1, .ref o])) rfl ?_
      refine y_putN hS tq_L_sees rfl fpn_L_13_X9 hO1 (by decide) rfl rfl (Nat.le_of_ble_eq_true rfl) ?_
      refine y_blk 2 tq_L_sees (z := (32, [(0, .ref (ad 1)), (1, .int p0), (2, .int p1), (3, .int p2), (4, .ref o)], [.int 0])) rfl ?_
      exact y_iret tq_L_sees rfl rfl ⟨σ1, _, _, hX1.kp (f := fun t => t ≠ 600) (yTg.up hO1 (fun q9 => q9 rfl)) (fun t _ h9 => by omega), yup_s _ _ _, hk1.tg.trans (yTg.up hO1 (by decide)), Or.inl ⟨hok, rfl, ((congrArg Int32.toInt64 (if_pos (yif1 c1))).trans (by decide)).symm, hn1, hr1⟩⟩
  · obtain ⟨hE, eG⟩ := q
    subst eG
    rcases hE with ⟨rfl, hc⟩ | ⟨rfl, hc⟩
    · skip
      refine ⟨23, ⟨[], [(0, 20, 27, 19)], (0, 20, 23, 25), rfl, rfl, (show (0 : Nat) ≤ 6 by decide), (show (6 : Nat) < 20 by decide), yExB, (fun z hz => nomatch hz)⟩, fun q9 => ?_⟩
      refine y_blk 2 tq_L_sees (z := (26, [(5, .ref q9), (0, .ref (ad 1)), (1, .int p0), (2, .int p1), (3, .int p2), (4, .ref o)], [.int 1])) rfl ?_
      exact y_iret tq_L_sees rfl rfl ⟨σ, _, _, hX, hO, yTg.rfl', Or.inr (Or.inl ⟨hc, rfl, rfl⟩)⟩
    · skip
      refine ⟨27, ⟨[(0, 20, 23, 25)], [], (0, 20, 27, 19), rfl, rfl, (show (0 : Nat) ≤ 6 by decide), (show (6 : Nat) < 20 by decide), yExA, (fun z hz => by rw [List.mem_singleton.mp hz]; exact ⟨"java/lang/IndexOutOfBoundsException", yExB, by decide⟩)⟩, fun q9 => ?_⟩
      refine y_blk 2 tq_L_sees (z := (30, [(5, .ref q9), (0, .ref (ad 1)), (1, .int p0), (2, .int p1), (3, .int p2), (4, .ref o)], [.int 2])) rfl ?_
      exact y_iret tq_L_sees rfl rfl ⟨σ, _, _, hX, hO, yTg.rfl', Or.inr (Or.inr (⟨hc, rfl, rfl⟩))⟩
set_option maxHeartbeats 4000000 in
set_option maxRecDepth 100000 in
theorem m_L_ofCellV {l : Launch} {S0 : State} {A0 : Array Value} {D : va_G} {aC : Nat → ClassId} {ad : Nat → Nat} {G : AH} {σ : XS} (hS : yS l S0 A0 D aC) (hX : atX aC ad G σ) {o : Nat} {nv : Int64} {sv : Value} (hO : G o = some (600, yOut nv sv)) (p0 : Int32) (p1 : Int32) (p2 : Int32) : yMW l S0 D yL_ofCell cL_ofCell 6 (some .int) [(0, 13, 16, 25), (0, 13, 20, 19)] 40 2 12 [.ref (ad 1), .int p0, .int p1, .int p2, .ref o] G (fun r G1 => ∃ (σ1 : XS) (nv1 : Int64) (sv1 : Value), atX aC ad G1 σ1 ∧ G1 o = some (600, yOut nv1 sv1) ∧ yTg fL G G1 ∧ xoOfCell p0 p1 p2 r nv1 σ σ1) (fun _ _ => False) := by
  refine yMW.of K_L_ofCell rfl (by decide) (Nat.le_of_ble_eq_true rfl) ?_
  refine y_blk 5 tq_L_ofCell (z := (6, [(0, .ref (ad 1)), (1, .int p0), (2, .int p1), (3, .int p2), (4, .ref o)], [.int p2, .int p1, .int p0, .ref (ad 1), .ref o])) rfl ?_
  refine y_callVC hS tq_L_ofCell rfl rfl (As := [.int p0, .int p1, .int p2]) rfl cv_L_60 (hX.1 1 _ rfl) (m_X8_ofCell_v hS hX p0 p1 p2) rfl (by decide) (Nat.le_of_ble_eq_true rfl) (fun r G1 q => ?_) (fun E G1 q => ?_)
  · obtain ⟨⟨rfl, hok⟩, σ1, hX1, hk1, hn1, hr1⟩ := q
    have hO1 : G1 o = some (600, yOut nv sv) := hk1 _ _ _ hO (Or.inr (by decide))
    refine y_blk 1 tq_L_ofCell (z := (10, [(0, .ref (ad 1)), (1, .int p0), (2, .int p1), (3, .int p2), (4, .ref o)], [.long (Int32.toInt64 (if p2 = 0 then xkf σ p0 else if p2 = 1 then (if xis (xbri σ) p0 then 1 else 0) else if p2 = 2 then xgwN σ p0 p1 else if p2 = 3 then xsoN σ p0 p1 else (if xis (xwlk σ p1) p0 then 1 else 0))), .ref o])) rfl ?_
    refine y_putN hS tq_L_ofCell rfl fpn_L_13_X9 hO1 (by decide) rfl rfl (Nat.le_of_ble_eq_true rfl) ?_
    refine y_blk 2 tq_L_ofCell (z := (25, [(0, .ref (ad 1)), (1, .int p0), (2, .int p1), (3, .int p2), (4, .ref o)], [.int 0])) rfl ?_
    exact y_iret tq_L_ofCell rfl rfl ⟨σ1, _, _, hX1.kp (f := fun t => t ≠ 600) (yTg.up hO1 (fun q9 => q9 rfl)) (fun t _ h9 => by omega), yup_s _ _ _, hk1.tg.trans (yTg.up hO1 (by decide)), Or.inl ⟨hok, rfl, rfl, hn1, hr1⟩⟩
  · obtain ⟨hE, eG⟩ := q
    subst eG
    rcases hE with ⟨rfl, hc⟩ | ⟨rfl, hc⟩
    · skip
      refine ⟨16, ⟨[], [(0, 13, 20, 19)], (0, 13, 16, 25), rfl, rfl, (show (0 : Nat) ≤ 6 by decide), (show (6 : Nat) < 13 by decide), yExB, (fun z hz => nomatch hz)⟩, fun q9 => ?_⟩
      refine y_blk 2 tq_L_ofCell (z := (19, [(5, .ref q9), (0, .ref (ad 1)), (1, .int p0), (2, .int p1), (3, .int p2), (4, .ref o)], [.int 1])) rfl ?_
      exact y_iret tq_L_ofCell rfl rfl ⟨σ, _, _, hX, hO, yTg.rfl', Or.inr (Or.inl ⟨hc, rfl, rfl⟩)⟩
    · skip
      refine ⟨20, ⟨[(0, 13, 16, 25)], [], (0, 13, 20, 19), rfl, rfl, (show (0 : Nat) ≤ 6 by decide), (show (6 : Nat) < 13 by decide), yExA, (fun z hz => by rw [List.mem_singleton.mp hz]; exact ⟨"java/lang/IndexOutOfBoundsException", yExB, by decide⟩)⟩, fun q9 => ?_⟩
      refine y_blk 2 tq_L_ofCell (z := (23, [(5, .ref q9), (0, .ref (ad 1)), (1, .int p0), (2, .int p1), (3, .int p2), (4, .ref o)], [.int 2])) rfl ?_
      exact y_iret tq_L_ofCell rfl rfl ⟨σ, _, _, hX, hO, yTg.rfl', Or.inr (Or.inr (⟨hc, rfl, rfl⟩))⟩
set_option maxHeartbeats 4000000 in
set_option maxRecDepth 100000 in
theorem m_L_ofMinuteV {l : Launch} {S0 : State} {A0 : Array Value} {D : va_G} {aC : Nat → ClassId} {ad : Nat → Nat} {G : AH} {σ : XS} (hS : yS l S0 A0 D aC) (hX : atX aC ad G σ) {o : Nat} {nv : Int64} {sv : Value} (hO : G o = some (600, yOut nv sv)) (p0 : Int32) (p1 : Int32) : yMW l S0 D yL_ofMinute cL_ofMinute 5 (some .int) [(0, 11, 14, 19)] 40 1 6 [.ref (ad 1), .int p0, .int p1, .ref o] G (fun r G1 => ∃ (σ1 : XS) (nv1 : Int64) (sv1 : Value), atX aC ad G1 σ1 ∧ G1 o = some (600, yOut nv1 sv1) ∧ yTg fL G G1 ∧ xoOfMinute p0 p1 r nv1 σ σ1) (fun _ _ => False) := by
  refine yMW.of K_L_ofMinute rfl (by decide) (Nat.le_of_ble_eq_true rfl) ?_
  refine y_blk 4 tq_L_ofMinute (z := (4, [(0, .ref (ad 1)), (1, .int p0), (2, .int p1), (3, .ref o)], [.int p1, .int p0, .ref (ad 1), .ref o])) rfl ?_
  refine y_callVC hS tq_L_ofMinute rfl rfl (As := [.int p0, .int p1]) rfl cv_L_63 (hX.1 1 _ rfl) (m_X8_ofMinute_v hS hX p0 p1) rfl (by decide) (Nat.le_of_ble_eq_true rfl) (fun r G1 q => ?_) (fun E G1 q => ?_)
  · obtain ⟨⟨rfl, hok⟩, σ1, hX1, hk1, hn1, hr1⟩ := q
    have hO1 : G1 o = some (600, yOut nv sv) := hk1 _ _ _ hO (Or.inr (by decide))
    refine y_blk 1 tq_L_ofMinute (z := (8, [(0, .ref (ad 1)), (1, .int p0), (2, .int p1), (3, .ref o)], [.long (Int32.toInt64 (if p1 = 0 then xfog σ p0 else if p1 = 1 then bcL (((xall (σ.2.2.1 0 * σ.2.2.1 1)) &&& ((σ.2.2.2.1 2) ^^^ (-1))) &&& ((xsgV σ (-1) p0 (xbri σ)) ^^^ (-1))) else if p1 = 2 then xcoN σ p0 else if p1 = 3 then xctN σ p0 else if p1 = 4 then xepN σ p0 else if p1 = 5 then bcL (xbri σ) else xkoN σ p0)), .ref o])) rfl ?_
    refine y_putN hS tq_L_ofMinute rfl fpn_L_13_X9 hO1 (by decide) rfl rfl (Nat.le_of_ble_eq_true rfl) ?_
    refine y_blk 2 tq_L_ofMinute (z := (19, [(0, .ref (ad 1)), (1, .int p0), (2, .int p1), (3, .ref o)], [.int 0])) rfl ?_
    exact y_iret tq_L_ofMinute rfl rfl ⟨σ1, _, _, hX1.kp (f := fun t => t ≠ 600) (yTg.up hO1 (fun q9 => q9 rfl)) (fun t _ h9 => by omega), yup_s _ _ _, hk1.tg.trans (yTg.up hO1 (by decide)), Or.inl ⟨hok, rfl, rfl, hn1, hr1⟩⟩
  · obtain ⟨hE, eG⟩ := q
    subst eG
    obtain ⟨rfl, hc⟩ := hE
    refine ⟨14, ⟨[], [], (0, 11, 14, 19), rfl, rfl, (show (0 : Nat) ≤ 4 by decide), (show (4 : Nat) < 11 by decide), yExA, (fun z hz => nomatch hz)⟩, fun q9 => ?_⟩
    refine y_blk 2 tq_L_ofMinute (z := (17, [(4, .ref q9), (0, .ref (ad 1)), (1, .int p0), (2, .int p1), (3, .ref o)], [.int 1])) rfl ?_
    exact y_iret tq_L_ofMinute rfl rfl ⟨σ, _, _, hX, hO, yTg.rfl', Or.inr (⟨hc, rfl, rfl⟩)⟩
set_option maxHeartbeats 4000000 in
set_option maxRecDepth 100000 in
theorem m_L_emptyV {l : Launch} {S0 : State} {A0 : Array Value} {D : va_G} {aC : Nat → ClassId} {ad : Nat → Nat} {G : AH} {σ : XS} (hS : yS l S0 A0 D aC) (hX : atX aC ad G σ) {o : Nat} {nv : Int64} {sv : Value} (hO : G o = some (600, yOut nv sv)) (p0 : Int32) (p1 : Int32) : yMW l S0 D yL_empty cL_empty 5 (some .int) [(0, 11, 14, 25)] 40 1 6 [.ref (ad 1), .int p0, .int p1, .ref o] G (fun r G1 => ∃ (σ1 : XS) (nv1 : Int64) (sv1 : Value), atX aC ad G1 σ1 ∧ G1 o = some (600, yOut nv1 sv1) ∧ yTg fL G G1 ∧ xoEmpty p0 p1 r nv1 σ σ1) (fun _ _ => False) := by
  refine yMW.of K_L_empty rfl (by decide) (Nat.le_of_ble_eq_true rfl) ?_
  refine y_blk 4 tq_L_empty (z := (4, [(0, .ref (ad 1)), (1, .int p0), (2, .int p1), (3, .ref o)], [.int p1, .int p0, .ref (ad 1), .ref o])) rfl ?_
  refine y_callVC hS tq_L_empty rfl rfl (As := [.int p0, .int p1]) rfl cv_L_66 (hX.1 1 _ rfl) (m_X8_empty_v hS hX p0 p1) rfl (by decide) (Nat.le_of_ble_eq_true rfl) (fun r G1 q => ?_) (fun E G1 q => ?_)
  · obtain ⟨⟨rfl, hok⟩, σ1, hX1, hk1, hn1, hr1⟩ := q
    have hO1 : G1 o = some (600, yOut nv sv) := hk1 _ _ _ hO (Or.inr (by decide))
    refine y_blk 1 tq_L_empty (z := (8, [(0, .ref (ad 1)), (1, .int p0), (2, .int p1), (3, .ref o)], [.long (Int32.toInt64 (if p1 = 0 then xemN σ p0 else xem1 σ p0)), .ref o])) rfl ?_
    refine y_putN hS tq_L_empty rfl fpn_L_13_X9 hO1 (by decide) rfl rfl (Nat.le_of_ble_eq_true rfl) ?_
    refine y_blk 2 tq_L_empty (z := (19, [(0, .ref (ad 1)), (1, .int p0), (2, .int p1), (3, .ref o)], [.int 0])) rfl ?_
    exact y_iret tq_L_empty rfl rfl ⟨σ1, _, _, hX1.kp (f := fun t => t ≠ 600) (yTg.up hO1 (fun q9 => q9 rfl)) (fun t _ h9 => by omega), yup_s _ _ _, hk1.tg.trans (yTg.up hO1 (by decide)), Or.inl ⟨hok, rfl, rfl, hn1, hr1⟩⟩
  · obtain ⟨hE, eG⟩ := q
    subst eG
    obtain ⟨rfl, hc⟩ := hE
    refine ⟨14, ⟨[], [], (0, 11, 14, 25), rfl, rfl, (show (0 : Nat) ≤ 4 by decide), (show (4 : Nat) < 11 by decide), yExB, (fun z hz => nomatch hz)⟩, fun q9 => ?_⟩
    refine y_blk 2 tq_L_empty (z := (17, [(4, .ref q9), (0, .ref (ad 1)), (1, .int p0), (2, .int p1), (3, .ref o)], [.int 1])) rfl ?_
    exact y_iret tq_L_empty rfl rfl ⟨σ, _, _, hX, hO, yTg.rfl', Or.inr (⟨hc, rfl, rfl⟩)⟩
set_option maxHeartbeats 4000000 in
set_option maxRecDepth 100000 in
theorem m_L_lapseV {l : Launch} {S0 : State} {A0 : Array Value} {D : va_G} {aC : Nat → ClassId} {ad : Nat → Nat} {G : AH} {σ : XS} (hS : yS l S0 A0 D aC) (hX : atX aC ad G σ) {o : Nat} {nv : Int64} {sv : Value} (hO : G o = some (600, yOut nv sv)) (p0 : Int32) (p1 : Int32) (p2 : Int32) : yMW l S0 D yL_lapse cL_lapse 6 (some .int) [(0, 13, 16, 25), (0, 13, 20, 19)] 40 2 12 [.ref (ad 1), .int p0, .int p1, .int p2, .ref o] G (fun r G1 => ∃ (σ1 : XS) (nv1 : Int64) (sv1 : Value), atX aC ad G1 σ1 ∧ G1 o = some (600, yOut nv1 sv1) ∧ yTg fL G G1 ∧ xoLapse p0 p1 p2 r nv1 σ σ1) (fun _ _ => False) := by
  refine yMW.of K_L_lapse rfl (by decide) (Nat.le_of_ble_eq_true rfl) ?_
  refine y_blk 5 tq_L_lapse (z := (6, [(0, .ref (ad 1)), (1, .int p0), (2, .int p1), (3, .int p2), (4, .ref o)], [.int p2, .int p1, .int p0, .ref (ad 1), .ref o])) rfl ?_
  refine y_callVC hS tq_L_lapse rfl rfl (As := [.int p0, .int p1, .int p2]) rfl cv_L_69 (hX.1 1 _ rfl) (m_X8_lapse_v hS hX p0 p1 p2) rfl (by decide) (Nat.le_of_ble_eq_true rfl) (fun r G1 q => ?_) (fun E G1 q => ?_)
  · obtain ⟨⟨rfl, hok⟩, σ1, hX1, hk1, hn1, hr1⟩ := q
    have hO1 : G1 o = some (600, yOut nv sv) := hk1 _ _ _ hO (Or.inr (by decide))
    refine y_blk 1 tq_L_lapse (z := (10, [(0, .ref (ad 1)), (1, .int p0), (2, .int p1), (3, .int p2), (4, .ref o)], [.long (Int32.toInt64 (lapN (xuwQ σ p0) p1 p2)), .ref o])) rfl ?_
    refine y_putN hS tq_L_lapse rfl fpn_L_13_X9 hO1 (by decide) rfl rfl (Nat.le_of_ble_eq_true rfl) ?_
    refine y_blk 2 tq_L_lapse (z := (25, [(0, .ref (ad 1)), (1, .int p0), (2, .int p1), (3, .int p2), (4, .ref o)], [.int 0])) rfl ?_
    exact y_iret tq_L_lapse rfl rfl ⟨σ1, _, _, hX1.kp (f := fun t => t ≠ 600) (yTg.up hO1 (fun q9 => q9 rfl)) (fun t _ h9 => by omega), yup_s _ _ _, hk1.tg.trans (yTg.up hO1 (by decide)), Or.inl ⟨hok, rfl, rfl, hn1, hr1⟩⟩
  · obtain ⟨hE, eG⟩ := q
    subst eG
    rcases hE with ⟨rfl, hc⟩ | ⟨rfl, hc⟩
    · skip
      refine ⟨16, ⟨[], [(0, 13, 20, 19)], (0, 13, 16, 25), rfl, rfl, (show (0 : Nat) ≤ 6 by decide), (show (6 : Nat) < 13 by decide), yExB, (fun z hz => nomatch hz)⟩, fun q9 => ?_⟩
      refine y_blk 2 tq_L_lapse (z := (19, [(5, .ref q9), (0, .ref (ad 1)), (1, .int p0), (2, .int p1), (3, .int p2), (4, .ref o)], [.int 1])) rfl ?_
      exact y_iret tq_L_lapse rfl rfl ⟨σ, _, _, hX, hO, yTg.rfl', Or.inr (Or.inl ⟨hc, rfl, rfl⟩)⟩
    · skip
      refine ⟨20, ⟨[(0, 13, 16, 25)], [], (0, 13, 20, 19), rfl, rfl, (show (0 : Nat) ≤ 6 by decide), (show (6 : Nat) < 13 by decide), yExA, (fun z hz => by rw [List.mem_singleton.mp hz]; exact ⟨"java/lang/IndexOutOfBoundsException", yExB, by decide⟩)⟩, fun q9 => ?_⟩
      refine y_blk 2 tq_L_lapse (z := (23, [(5, .ref q9), (0, .ref (ad 1)), (1, .int p0), (2, .int p1), (3, .int p2), (4, .ref o)], [.int 2])) rfl ?_
      exact y_iret tq_L_lapse rfl rfl ⟨σ, _, _, hX, hO, yTg.rfl', Or.inr (Or.inr (⟨hc, rfl, rfl⟩))⟩
set_option maxHeartbeats 4000000 in
set_option maxRecDepth 100000 in
theorem m_L_wordsV {l : Launch} {S0 : State} {A0 : Array Value} {D : va_G} {aC : Nat → ClassId} {ad : Nat → Nat} {G : AH} {σ : XS} (hS : yS l S0 A0 D aC) (hX : atX aC ad G σ) {o : Nat} {nv : Int64} {sv : Value} (hO : G o = some (600, yOut nv sv)) (p0 : Int32) : yMW l S0 D yL_words cL_words 4 (some .int) [(0, 10, 13, 19)] 40 1 6 [.ref (ad 1), .int p0, .ref o] G (fun r G1 => ∃ (σ1 : XS) (nv1 : Int64) (sv1 : Value), atX aC ad G1 σ1 ∧ G1 o = some (600, yOut nv1 sv1) ∧ yTg fL G G1 ∧ xoWords p0 r nv1 σ σ1) (fun _ _ => False) := by
  refine yMW.of K_L_words rfl (by decide) (Nat.le_of_ble_eq_true rfl) ?_
  refine y_blk 3 tq_L_words (z := (3, [(0, .ref (ad 1)), (1, .int p0), (2, .ref o)], [.int p0, .ref (ad 1), .ref o])) rfl ?_
  refine y_callVC hS tq_L_words rfl rfl (As := [.int p0]) rfl cv_L_72 (hX.1 1 _ rfl) (m_X8_words hS hX p0) rfl (by decide) (Nat.le_of_ble_eq_true rfl) (fun r G1 q => ?_) (fun E G1 q => ?_)
  · obtain ⟨⟨rfl, hok⟩, σ1, hX1, hk1, hn1, hr1⟩ := q
    have hO1 : G1 o = some (600, yOut nv sv) := hk1 _ _ _ hO (Or.inr (by decide))
    refine y_blk 1 tq_L_words (z := (7, [(0, .ref (ad 1)), (1, .int p0), (2, .ref o)], [.long (Int32.toInt64 (yaft p0)), .ref o])) rfl ?_
    refine y_putN hS tq_L_words rfl fpn_L_13_X9 hO1 (by decide) rfl rfl (Nat.le_of_ble_eq_true rfl) ?_
    refine y_blk 2 tq_L_words (z := (17, [(0, .ref (ad 1)), (1, .int p0), (2, .ref o)], [.int 0])) rfl ?_
    exact y_iret tq_L_words rfl rfl ⟨σ1, _, _, hX1.kp (f := fun t => t ≠ 600) (yTg.up hO1 (fun q9 => q9 rfl)) (fun t _ h9 => by omega), yup_s _ _ _, hk1.tg.trans (yTg.up hO1 (by decide)), Or.inl ⟨hok, rfl, rfl, hn1, hr1⟩⟩
  · obtain ⟨hE, eG⟩ := q
    subst eG
    obtain ⟨rfl, hc⟩ := hE
    refine ⟨13, ⟨[], [], (0, 10, 13, 19), rfl, rfl, (show (0 : Nat) ≤ 3 by decide), (show (3 : Nat) < 10 by decide), yExA, (fun z hz => nomatch hz)⟩, fun q9 => ?_⟩
    refine y_blk 2 tq_L_words (z := (15, [(3, .ref q9), (0, .ref (ad 1)), (1, .int p0), (2, .ref o)], [.int 1])) rfl ?_
    exact y_iret tq_L_words rfl rfl ⟨σ, _, _, hX, hO, yTg.rfl', Or.inr (⟨hc, rfl, rfl⟩)⟩
set_option maxHeartbeats 4000000 in
set_option maxRecDepth 100000 in
theorem m_L_leakV {l : Launch} {S0 : State} {A0 : Array Value} {D : va_G} {aC : Nat → ClassId} {ad : Nat → Nat} {G : AH} {σ : XS} (hS : yS l S0 A0 D aC) (hX : atX aC ad G σ) {o : Nat} {nv : Int64} {sv : Value} (hO : G o = some (600, yOut nv sv)) (p0 : Int32) : yMW l S0 D yL_leak cL_leak 4 (some .int) [(0, 10, 13, 19), (0, 10, 16, 27)] 40 2 12 [.ref (ad 1), .int p0, .ref o] G (fun r G1 => ∃ (σ1 : XS) (nv1 : Int64) (sv1 : Value), atX aC ad G1 σ1 ∧ G1 o = some (600, yOut nv1 sv1) ∧ yTg fL G G1 ∧ xoLeak p0 r nv1 σ σ1) (fun _ _ => False) := by
  refine yMW.of K_L_leak rfl (by decide) (Nat.le_of_ble_eq_true rfl) ?_
  refine y_blk 3 tq_L_leak (z := (3, [(0, .ref (ad 1)), (1, .int p0), (2, .ref o)], [.int p0, .ref (ad 1), .ref o])) rfl ?_
  refine y_callVC hS tq_L_leak rfl rfl (As := [.int p0]) rfl cv_L_75 (hX.1 1 _ rfl) (m_X8_leak hS hX p0) rfl (by decide) (Nat.le_of_ble_eq_true rfl) (fun r G1 q => ?_) (fun E G1 q => ?_)
  · obtain ⟨⟨rfl, hok⟩, σ1, hX1, hk1, hn1, hr1⟩ := q
    have hO1 : G1 o = some (600, yOut nv sv) := hk1 _ _ _ hO (Or.inr (by decide))
    refine y_blk 1 tq_L_leak (z := (7, [(0, .ref (ad 1)), (1, .int p0), (2, .ref o)], [.long (Int32.toInt64 (yaft (σ.2.2.1 5))), .ref o])) rfl ?_
    refine y_putN hS tq_L_leak rfl fpn_L_13_X9 hO1 (by decide) rfl rfl (Nat.le_of_ble_eq_true rfl) ?_
    refine y_blk 2 tq_L_leak (z := (20, [(0, .ref (ad 1)), (1, .int p0), (2, .ref o)], [.int 0])) rfl ?_
    exact y_iret tq_L_leak rfl rfl ⟨σ1, _, _, hX1.kp (f := fun t => t ≠ 600) (yTg.up hO1 (fun q9 => q9 rfl)) (fun t _ h9 => by omega), yup_s _ _ _, hk1.tg.trans (yTg.up hO1 (by decide)), Or.inl ⟨hok, rfl, rfl, hn1, hr1⟩⟩
  · obtain ⟨hE, eG⟩ := q
    subst eG
    rcases hE with ⟨rfl, hc⟩ | ⟨rfl, hc⟩
    · skip
      refine ⟨13, ⟨[], [(0, 10, 16, 27)], (0, 10, 13, 19), rfl, rfl, (show (0 : Nat) ≤ 3 by decide), (show (3 : Nat) < 10 by decide), yExA, (fun z hz => nomatch hz)⟩, fun q9 => ?_⟩
      refine y_blk 2 tq_L_leak (z := (15, [(3, .ref q9), (0, .ref (ad 1)), (1, .int p0), (2, .ref o)], [.int 1])) rfl ?_
      exact y_iret tq_L_leak rfl rfl ⟨σ, _, _, hX, hO, yTg.rfl', Or.inr (Or.inl ⟨hc, rfl, rfl⟩)⟩
    · skip
      refine ⟨16, ⟨[(0, 10, 13, 19)], [], (0, 10, 16, 27), rfl, rfl, (show (0 : Nat) ≤ 3 by decide), (show (3 : Nat) < 10 by decide), yExS, (fun z hz => by rw [List.mem_singleton.mp hz]; exact ⟨"java/lang/IllegalArgumentException", yExA, by decide⟩)⟩, fun q9 => ?_⟩
      refine y_blk 2 tq_L_leak (z := (18, [(3, .ref q9), (0, .ref (ad 1)), (1, .int p0), (2, .ref o)], [.int 2])) rfl ?_
      exact y_iret tq_L_leak rfl rfl ⟨σ, _, _, hX, hO, yTg.rfl', Or.inr (Or.inr (⟨hc, rfl, rfl⟩))⟩
set_option maxHeartbeats 4000000 in
theorem n_X8_answer {l : Launch} {S0 : State} {A0 : Array Value} {D : va_G} {aC : Nat → ClassId} {ad : Nat → Nat} {G : AH} {σ : XS} (hS : yS l S0 A0 D aC) (hX : atX aC ad G σ) (p0 : Int32) (p1 : Int32) (p2 : Int32) : yM l S0 D yX8_answer cX8_answer 4 (some .int) 15 2 12 [.ref (ad 1), .int p0, .int p1, .int p2] G (fun r G1 => (∃ v : Int32, r = some (.int v)) ∧ xNF aC ad σ G G1) (fun E G1 => (E = "java/lang/IndexOutOfBoundsException" ∨ E = "java/lang/IllegalArgumentException") ∧ xNF aC ad σ G G1) := by
  refine yM.mono (m_X8_answer hS hX p0 p1 p2) (fun r G1 q => ⟨q.1, xNF.w q.2⟩) (fun E G1 q => ?_)
  refine ⟨?_, xNF.rf hX q.2⟩
  rcases q.1 with h | h
  · exact Or.inl h
  · exact Or.inr (h)
set_option maxHeartbeats 4000000 in
set_option maxRecDepth 100000 in
theorem m_L_answer {l : Launch} {S0 : State} {A0 : Array Value} {D : va_G} {aC : Nat → ClassId} {ad : Nat → Nat} {G : AH} {σ : XS} (hS : yS l S0 A0 D aC) (hX : atX aC ad G σ) {o : Nat} {nv : Int64} {sv : Value} (hO : G o = some (600, yOut nv sv)) (p0 : Int32) (p1 : Int32) (p2 : Int32) : yMW l S0 D yL_answer cL_answer 6 (some .int) [(0, 13, 16, 25), (0, 13, 20, 19)] 40 2 12 [.ref (ad 1), .int p0, .int p1, .int p2, .ref o] G (fun r G1 => (∃ v : Int32, r = some (.int v)) ∧ ∃ (σ1 : XS) (nv1 : Int64) (sv1 : Value), atX aC ad G1 σ1 ∧ xfr NC σ σ1 ∧ G1 o = some (600, yOut nv1 sv1) ∧ yTg fL G G1) (fun _ _ => False) := by
  refine yMW.of K_L_answer rfl (by decide) (Nat.le_of_ble_eq_true rfl) ?_
  refine y_blk 5 tq_L_answer (z := (6, [(0, .ref (ad 1)), (1, .int p0), (2, .int p1), (3, .int p2), (4, .ref o)], [.int p2, .int p1, .int p0, .ref (ad 1), .ref o])) rfl ?_
  refine y_callVC hS tq_L_answer rfl rfl (As := [.int p0, .int p1, .int p2]) rfl cv_L_78 (hX.1 1 _ rfl) (n_X8_answer hS hX p0 p1 p2) rfl (by decide) (Nat.le_of_ble_eq_true rfl) (fun r G1 q => ?_) (fun E G1 q => ?_)
  · obtain ⟨⟨v, rfl⟩, σ1, hX1, hk1, hn1⟩ := q
    have hO1 : G1 o = some (600, yOut nv sv) := hk1 _ _ _ hO (Or.inr (by decide))
    refine y_blk 1 tq_L_answer (z := (10, [(0, .ref (ad 1)), (1, .int p0), (2, .int p1), (3, .int p2), (4, .ref o)], [.long (Int32.toInt64 v), .ref o])) rfl ?_
    refine y_putN hS tq_L_answer rfl fpn_L_13_X9 hO1 (by decide) rfl rfl (Nat.le_of_ble_eq_true rfl) ?_
    refine y_blk 2 tq_L_answer (z := (25, [(0, .ref (ad 1)), (1, .int p0), (2, .int p1), (3, .int p2), (4, .ref o)], [.int 0])) rfl ?_
    exact y_iret tq_L_answer rfl rfl ⟨⟨_, rfl⟩, σ1, _, _, hX1.kp (f := fun t => t ≠ 600) (yTg.up hO1 (fun q9 => q9 rfl)) (fun t _ h9 => by omega), hn1, yup_s _ _ _, hk1.tg.trans (yTg.up hO1 (by decide))⟩
  · obtain ⟨hE, σ1, hX1, hk1, hn1⟩ := q
    have hO1 : G1 o = some (600, yOut nv sv) := hk1 _ _ _ hO (Or.inr (by decide))
    rcases hE with rfl | rfl
    · skip
      refine ⟨16, ⟨[], [(0, 13, 20, 19)], (0, 13, 16, 25), rfl, rfl, (show (0 : Nat) ≤ 6 by decide), (show (6 : Nat) < 13 by decide), yExB, (fun z hz => nomatch hz)⟩, fun q9 => ?_⟩
      refine y_blk 2 tq_L_answer (z := (19, [(5, .ref q9), (0, .ref (ad 1)), (1, .int p0), (2, .int p1), (3, .int p2), (4, .ref o)], [.int 1])) rfl ?_
      exact y_iret tq_L_answer rfl rfl ⟨⟨_, rfl⟩, σ1, _, _, hX1, hn1, hO1, hk1.tg⟩
    · skip
      refine ⟨20, ⟨[(0, 13, 16, 25)], [], (0, 13, 20, 19), rfl, rfl, (show (0 : Nat) ≤ 6 by decide), (show (6 : Nat) < 13 by decide), yExA, (fun z hz => by rw [List.mem_singleton.mp hz]; exact ⟨"java/lang/IndexOutOfBoundsException", yExB, by decide⟩)⟩, fun q9 => ?_⟩
      refine y_blk 2 tq_L_answer (z := (23, [(5, .ref q9), (0, .ref (ad 1)), (1, .int p0), (2, .int p1), (3, .int p2), (4, .ref o)], [.int 2])) rfl ?_
      exact y_iret tq_L_answer rfl rfl ⟨⟨_, rfl⟩, σ1, _, _, hX1, hn1, hO1, hk1.tg⟩
set_option maxHeartbeats 4000000 in
set_option maxRecDepth 100000 in
theorem m_L_keyV {l : Launch} {S0 : State} {A0 : Array Value} {D : va_G} {aC : Nat → ClassId} {ad : Nat → Nat} {G : AH} {σ : XS} (hS : yS l S0 A0 D aC) (hX : atX aC ad G σ) {o : Nat} {nv : Int64} {sv : Value} (hO : G o = some (600, yOut nv sv)) (p0 : Int32) (p1 : Int32) : yMW l S0 D yL_key cL_key 5 (some .int) [(0, 11, 14, 25)] 40 2 12 [.ref (ad 1), .int p0, .int p1, .ref o] G (fun r G1 => ∃ (σ1 : XS) (nv1 : Int64) (sv1 : Value), atX aC ad G1 σ1 ∧ G1 o = some (600, yOut nv1 sv1) ∧ yTg fL G G1 ∧ xoKey p0 p1 r nv1 σ σ1) (fun _ _ => False) := by
  refine yMW.of K_L_key rfl (by decide) (Nat.le_of_ble_eq_true rfl) ?_
  refine y_blk 4 tq_L_key (z := (4, [(0, .ref (ad 1)), (1, .int p0), (2, .int p1), (3, .ref o)], [.int p1, .int p0, .ref (ad 1), .ref o])) rfl ?_
  refine y_callVC hS tq_L_key rfl rfl (As := [.int p0, .int p1]) rfl cv_L_81 (hX.1 1 _ rfl) (m_X8_key hS hX p0 p1) rfl (by decide) (Nat.le_of_ble_eq_true rfl) (fun r G1 q => ?_) (fun E G1 q => ?_)
  · obtain ⟨⟨rfl, hok⟩, σ1, hX1, hk1, hn1, hr1⟩ := q
    have hO1 : G1 o = some (600, yOut nv sv) := hk1 _ _ _ hO (Or.inr (by decide))
    refine y_blk 1 tq_L_key (z := (8, [(0, .ref (ad 1)), (1, .int p0), (2, .int p1), (3, .ref o)], [.long (Int32.toInt64 (xat σ 15 p0)), .ref o])) rfl ?_
    refine y_putN hS tq_L_key rfl fpn_L_13_X9 hO1 (by decide) rfl rfl (Nat.le_of_ble_eq_true rfl) ?_
    refine y_blk 2 tq_L_key (z := (19, [(0, .ref (ad 1)), (1, .int p0), (2, .int p1), (3, .ref o)], [.int 0])) rfl ?_
    exact y_iret tq_L_key rfl rfl ⟨σ1, _, _, hX1.kp (f := fun t => t ≠ 600) (yTg.up hO1 (fun q9 => q9 rfl)) (fun t _ h9 => by omega), yup_s _ _ _, hk1.tg.trans (yTg.up hO1 (by decide)), Or.inl ⟨hok, rfl, rfl, hn1, hr1⟩⟩
  · obtain ⟨hE, eG⟩ := q
    subst eG
    obtain ⟨rfl, hc⟩ := hE
    refine ⟨14, ⟨[], [], (0, 11, 14, 25), rfl, rfl, (show (0 : Nat) ≤ 4 by decide), (show (4 : Nat) < 11 by decide), yExB, (fun z hz => nomatch hz)⟩, fun q9 => ?_⟩
    refine y_blk 2 tq_L_key (z := (17, [(4, .ref q9), (0, .ref (ad 1)), (1, .int p0), (2, .int p1), (3, .ref o)], [.int 1])) rfl ?_
    exact y_iret tq_L_key rfl rfl ⟨σ, _, _, hX, hO, yTg.rfl', Or.inr (⟨hc, rfl, rfl⟩)⟩
set_option maxHeartbeats 4000000 in
theorem n_X8_ofGuard {l : Launch} {S0 : State} {A0 : Array Value} {D : va_G} {aC : Nat → ClassId} {ad : Nat → Nat} {G : AH} {σ : XS} (hS : yS l S0 A0 D aC) (hX : atX aC ad G σ) (p0 : Int32) (p1 : Int32) : yM l S0 D yX8_ofGuard cX8_ofGuard 3 (some .int) 12 2 12 [.ref (ad 1), .int p0, .int p1] G (fun r G1 => (∃ v : Int32, r = some (.int v)) ∧ xNF aC ad σ G G1) (fun E G1 => (E = "java/lang/IndexOutOfBoundsException" ∨ E = "java/lang/IllegalArgumentException") ∧ xNF aC ad σ G G1) := by
  refine yM.mono (m_X8_ofGuard hS hX p0 p1) (fun r G1 q => ⟨q.1, xNF.rf hX q.2⟩) (fun E G1 q => ?_)
  refine ⟨?_, xNF.rf hX q.2⟩
  rcases q.1 with h | h
  · exact Or.inl h.1
  · exact Or.inr (h.1)
set_option maxHeartbeats 4000000 in
set_option maxRecDepth 100000 in
theorem m_L_ofGuard {l : Launch} {S0 : State} {A0 : Array Value} {D : va_G} {aC : Nat → ClassId} {ad : Nat → Nat} {G : AH} {σ : XS} (hS : yS l S0 A0 D aC) (hX : atX aC ad G σ) {o : Nat} {nv : Int64} {sv : Value} (hO : G o = some (600, yOut nv sv)) (p0 : Int32) (p1 : Int32) : yMW l S0 D yL_ofGuard cL_ofGuard 5 (some .int) [(0, 11, 14, 25), (0, 11, 18, 19)] 40 2 12 [.ref (ad 1), .int p0, .int p1, .ref o] G (fun r G1 => (∃ v : Int32, r = some (.int v)) ∧ ∃ (σ1 : XS) (nv1 : Int64) (sv1 : Value), atX aC ad G1 σ1 ∧ xfr NC σ σ1 ∧ G1 o = some (600, yOut nv1 sv1) ∧ yTg fL G G1) (fun _ _ => False) := by
  refine yMW.of K_L_ofGuard rfl (by decide) (Nat.le_of_ble_eq_true rfl) ?_
  refine y_blk 4 tq_L_ofGuard (z := (4, [(0, .ref (ad 1)), (1, .int p0), (2, .int p1), (3, .ref o)], [.int p1, .int p0, .ref (ad 1), .ref o])) rfl ?_
  refine y_callVC hS tq_L_ofGuard rfl rfl (As := [.int p0, .int p1]) rfl cv_L_84 (hX.1 1 _ rfl) (n_X8_ofGuard hS hX p0 p1) rfl (by decide) (Nat.le_of_ble_eq_true rfl) (fun r G1 q => ?_) (fun E G1 q => ?_)
  · obtain ⟨⟨v, rfl⟩, σ1, hX1, hk1, hn1⟩ := q
    have hO1 : G1 o = some (600, yOut nv sv) := hk1 _ _ _ hO (Or.inr (by decide))
    refine y_blk 1 tq_L_ofGuard (z := (8, [(0, .ref (ad 1)), (1, .int p0), (2, .int p1), (3, .ref o)], [.long (Int32.toInt64 v), .ref o])) rfl ?_
    refine y_putN hS tq_L_ofGuard rfl fpn_L_13_X9 hO1 (by decide) rfl rfl (Nat.le_of_ble_eq_true rfl) ?_
    refine y_blk 2 tq_L_ofGuard (z := (23, [(0, .ref (ad 1)), (1, .int p0), (2, .int p1), (3, .ref o)], [.int 0])) rfl ?_
    exact y_iret tq_L_ofGuard rfl rfl ⟨⟨_, rfl⟩, σ1, _, _, hX1.kp (f := fun t => t ≠ 600) (yTg.up hO1 (fun q9 => q9 rfl)) (fun t _ h9 => by omega), hn1, yup_s _ _ _, hk1.tg.trans (yTg.up hO1 (by decide))⟩
  · obtain ⟨hE, σ1, hX1, hk1, hn1⟩ := q
    have hO1 : G1 o = some (600, yOut nv sv) := hk1 _ _ _ hO (Or.inr (by decide))
    rcases hE with rfl | rfl
    · skip
      refine ⟨14, ⟨[], [(0, 11, 18, 19)], (0, 11, 14, 25), rfl, rfl, (show (0 : Nat) ≤ 4 by decide), (show (4 : Nat) < 11 by decide), yExB, (fun z hz => nomatch hz)⟩, fun q9 => ?_⟩
      refine y_blk 2 tq_L_ofGuard (z := (17, [(4, .ref q9), (0, .ref (ad 1)), (1, .int p0), (2, .int p1), (3, .ref o)], [.int 1])) rfl ?_
      exact y_iret tq_L_ofGuard rfl rfl ⟨⟨_, rfl⟩, σ1, _, _, hX1, hn1, hO1, hk1.tg⟩
    · skip
      refine ⟨18, ⟨[(0, 11, 14, 25)], [], (0, 11, 18, 19), rfl, rfl, (show (0 : Nat) ≤ 4 by decide), (show (4 : Nat) < 11 by decide), yExA, (fun z hz => by rw [List.mem_singleton.mp hz]; exact ⟨"java/lang/IndexOutOfBoundsException", yExB, by decide⟩)⟩, fun q9 => ?_⟩
      refine y_blk 2 tq_L_ofGuard (z := (21, [(4, .ref q9), (0, .ref (ad 1)), (1, .int p0), (2, .int p1), (3, .ref o)], [.int 2])) rfl ?_
      exact y_iret tq_L_ofGuard rfl rfl ⟨⟨_, rfl⟩, σ1, _, _, hX1, hn1, hO1, hk1.tg⟩
set_option maxHeartbeats 4000000 in
set_option maxRecDepth 100000 in
theorem m_L_intruderV {l : Launch} {S0 : State} {A0 : Array Value} {D : va_G} {aC : Nat → ClassId} {ad : Nat → Nat} {G : AH} {σ : XS} (hS : yS l S0 A0 D aC) (hX : atX aC ad G σ) {o : Nat} {nv : Int64} {sv : Value} (hO : G o = some (600, yOut nv sv)) (p0 : Int32) (p1 : Int32) (p2 : Int32) : yMW l S0 D yL_intruder cL_intruder 6 (some .int) [(0, 13, 16, 25), (0, 13, 20, 19), (0, 13, 24, 27)] 40 3 18 [.ref (ad 1), .int p0, .int p1, .int p2, .ref o] G (fun r G1 => ∃ (σ1 : XS) (nv1 : Int64) (sv1 : Value), atX aC ad G1 σ1 ∧ G1 o = some (600, yOut nv1 sv1) ∧ yTg fL G G1 ∧ xoIntruder p0 p1 p2 r nv1 σ σ1) (fun _ _ => False) := by
  refine yMW.of K_L_intruder rfl (by decide) (Nat.le_of_ble_eq_true rfl) ?_
  refine y_blk 5 tq_L_intruder (z := (6, [(0, .ref (ad 1)), (1, .int p0), (2, .int p1), (3, .int p2), (4, .ref o)], [.int p2, .int p1, .int p0, .ref (ad 1), .ref o])) rfl ?_
  refine y_callVC hS tq_L_intruder rfl rfl (As := [.int p0, .int p1, .int p2]) rfl cv_L_87 (hX.1 1 _ rfl) (m_X8_intruder hS hX p0 p1 p2) rfl (by decide) (Nat.le_of_ble_eq_true rfl) (fun r G1 q => ?_) (fun E G1 q => ?_)
  · obtain ⟨⟨v, rfl⟩, σ1, hX1, hk1, hn1, hc1, hc2, hc3, hc4⟩ := q
    cases hc4
    have hO1 : G1 o = some (600, yOut nv sv) := hk1 _ _ _ hO (Or.inr (by decide))
    refine y_blk 1 tq_L_intruder (z := (10, [(0, .ref (ad 1)), (1, .int p0), (2, .int p1), (3, .int p2), (4, .ref o)], [.long (Int32.toInt64 (σ1.1 16 - 1)), .ref o])) rfl ?_
    refine y_putN hS tq_L_intruder rfl fpn_L_13_X9 hO1 (by decide) rfl rfl (Nat.le_of_ble_eq_true rfl) ?_
    refine y_blk 2 tq_L_intruder (z := (29, [(0, .ref (ad 1)), (1, .int p0), (2, .int p1), (3, .int p2), (4, .ref o)], [.int 0])) rfl ?_
    exact y_iret tq_L_intruder rfl rfl ⟨σ1, _, _, hX1.kp (f := fun t => t ≠ 600) (yTg.up hO1 (fun q9 => q9 rfl)) (fun t _ h9 => by omega), yup_s _ _ _, hk1.tg.trans (yTg.up hO1 (by decide)), Or.inl ⟨⟨hc1, hc2, hc3⟩, rfl, rfl, hn1⟩⟩
  · obtain ⟨-, σ1, hX1, hk1, hn1, hE⟩ := q
    have hO1 : G1 o = some (600, yOut nv sv) := hk1 _ _ _ hO (Or.inr (by decide))
    rcases hE with ⟨rfl, hc, hs⟩ | ⟨rfl, hc, hd, hs⟩ | ⟨rfl, hc, hd⟩
    · skip
      refine ⟨16, ⟨[], [(0, 13, 20, 19), (0, 13, 24, 27)], (0, 13, 16, 25), rfl, rfl, (show (0 : Nat) ≤ 6 by decide), (show (6 : Nat) < 13 by decide), yExB, (fun z hz => nomatch hz)⟩, fun q9 => ?_⟩
      refine y_blk 2 tq_L_intruder (z := (19, [(5, .ref q9), (0, .ref (ad 1)), (1, .int p0), (2, .int p1), (3, .int p2), (4, .ref o)], [.int 1])) rfl ?_
      exact y_iret tq_L_intruder rfl rfl ⟨σ1, _, _, hX1, hO1, hk1.tg, Or.inr (Or.inl ⟨hc, rfl, hs⟩)⟩
    · skip
      refine ⟨20, ⟨[(0, 13, 16, 25)], [(0, 13, 24, 27)], (0, 13, 20, 19), rfl, rfl, (show (0 : Nat) ≤ 6 by decide), (show (6 : Nat) < 13 by decide), yExA, (fun z hz => by rw [List.mem_singleton.mp hz]; exact ⟨"java/lang/IndexOutOfBoundsException", yExB, by decide⟩)⟩, fun q9 => ?_⟩
      refine y_blk 2 tq_L_intruder (z := (23, [(5, .ref q9), (0, .ref (ad 1)), (1, .int p0), (2, .int p1), (3, .int p2), (4, .ref o)], [.int 2])) rfl ?_
      exact y_iret tq_L_intruder rfl rfl ⟨σ1, _, _, hX1, hO1, hk1.tg, Or.inr (Or.inr (Or.inl ⟨⟨hc, hd⟩, rfl, hs⟩))⟩
    · skip
      refine ⟨24, ⟨[(0, 13, 16, 25), (0, 13, 20, 19)], [], (0, 13, 24, 27), rfl, rfl, (show (0 : Nat) ≤ 6 by decide), (show (6 : Nat) < 13 by decide), yExS, (fun z hz => by rcases List.mem_cons.mp hz with rfl | hz; exact ⟨"java/lang/IndexOutOfBoundsException", yExB, by decide⟩; rw [List.mem_singleton.mp hz]; exact ⟨"java/lang/IllegalArgumentException", yExA, by decide⟩)⟩, fun q9 => ?_⟩
      refine y_blk 2 tq_L_intruder (z := (27, [(5, .ref q9), (0, .ref (ad 1)), (1, .int p0), (2, .int p1), (3, .int p2), (4, .ref o)], [.int 3])) rfl ?_
      exact y_iret tq_L_intruder rfl rfl ⟨σ1, _, _, hX1, hO1, hk1.tg, Or.inr (Or.inr (Or.inr ⟨⟨hc, hd⟩, rfl, hn1⟩))⟩
set_option maxHeartbeats 4000000 in
set_option maxRecDepth 100000 in
theorem m_L_wireV {l : Launch} {S0 : State} {A0 : Array Value} {D : va_G} {aC : Nat → ClassId} {ad : Nat → Nat} {G : AH} {σ : XS} (hS : yS l S0 A0 D aC) (hX : atX aC ad G σ) {o : Nat} {nv : Int64} {sv : Value} (hO : G o = some (600, yOut nv sv)) (p0 : Int32) (p1 : Int32) : yMW l S0 D yL_wire cL_wire 5 (some .int) [(0, 11, 14, 25), (0, 11, 18, 19), (0, 11, 22, 27)] 40 3 18 [.ref (ad 1), .int p0, .int p1, .ref o] G (fun r G1 => ∃ (σ1 : XS) (nv1 : Int64) (sv1 : Value), atX aC ad G1 σ1 ∧ G1 o = some (600, yOut nv1 sv1) ∧ yTg fL G G1 ∧ xoWire p0 p1 r nv1 σ σ1) (fun _ _ => False) := by
  refine yMW.of K_L_wire rfl (by decide) (Nat.le_of_ble_eq_true rfl) ?_
  refine y_blk 4 tq_L_wire (z := (4, [(0, .ref (ad 1)), (1, .int p0), (2, .int p1), (3, .ref o)], [.int p1, .int p0, .ref (ad 1), .ref o])) rfl ?_
  refine y_callVC hS tq_L_wire rfl rfl (As := [.int p0, .int p1]) rfl cv_L_90 (hX.1 1 _ rfl) (m_X8_wire hS hX p0 p1) rfl (by decide) (Nat.le_of_ble_eq_true rfl) (fun r G1 q => ?_) (fun E G1 q => ?_)
  · obtain ⟨⟨rfl, hok⟩, σ1, hX1, hk1, hn1, hr1⟩ := q
    have hO1 : G1 o = some (600, yOut nv sv) := hk1 _ _ _ hO (Or.inr (by decide))
    refine y_blk 1 tq_L_wire (z := (8, [(0, .ref (ad 1)), (1, .int p0), (2, .int p1), (3, .ref o)], [.long (Int32.toInt64 ((xwireT σ p0 p1).1 22 - 1)), .ref o])) rfl ?_
    refine y_putN hS tq_L_wire rfl fpn_L_13_X9 hO1 (by decide) rfl rfl (Nat.le_of_ble_eq_true rfl) ?_
    refine y_blk 2 tq_L_wire (z := (27, [(0, .ref (ad 1)), (1, .int p0), (2, .int p1), (3, .ref o)], [.int 0])) rfl ?_
    exact y_iret tq_L_wire rfl rfl ⟨σ1, _, _, hX1.kp (f := fun t => t ≠ 600) (yTg.up hO1 (fun q9 => q9 rfl)) (fun t _ h9 => by omega), yup_s _ _ _, hk1.tg.trans (yTg.up hO1 (by decide)), Or.inl ⟨hok, rfl, rfl, hn1, hr1⟩⟩
  · obtain ⟨hE, eG⟩ := q
    subst eG
    rcases hE with ⟨rfl, hc⟩ | ⟨rfl, hc⟩ | ⟨rfl, hc⟩
    · skip
      refine ⟨14, ⟨[], [(0, 11, 18, 19), (0, 11, 22, 27)], (0, 11, 14, 25), rfl, rfl, (show (0 : Nat) ≤ 4 by decide), (show (4 : Nat) < 11 by decide), yExB, (fun z hz => nomatch hz)⟩, fun q9 => ?_⟩
      refine y_blk 2 tq_L_wire (z := (17, [(4, .ref q9), (0, .ref (ad 1)), (1, .int p0), (2, .int p1), (3, .ref o)], [.int 1])) rfl ?_
      exact y_iret tq_L_wire rfl rfl ⟨σ, _, _, hX, hO, yTg.rfl', Or.inr (Or.inl ⟨hc, rfl, rfl⟩)⟩
    · skip
      refine ⟨18, ⟨[(0, 11, 14, 25)], [(0, 11, 22, 27)], (0, 11, 18, 19), rfl, rfl, (show (0 : Nat) ≤ 4 by decide), (show (4 : Nat) < 11 by decide), yExA, (fun z hz => by rw [List.mem_singleton.mp hz]; exact ⟨"java/lang/IndexOutOfBoundsException", yExB, by decide⟩)⟩, fun q9 => ?_⟩
      refine y_blk 2 tq_L_wire (z := (21, [(4, .ref q9), (0, .ref (ad 1)), (1, .int p0), (2, .int p1), (3, .ref o)], [.int 2])) rfl ?_
      exact y_iret tq_L_wire rfl rfl ⟨σ, _, _, hX, hO, yTg.rfl', Or.inr (Or.inr (Or.inl ⟨hc, rfl, rfl⟩))⟩
    · skip
      refine ⟨22, ⟨[(0, 11, 14, 25), (0, 11, 18, 19)], [], (0, 11, 22, 27), rfl, rfl, (show (0 : Nat) ≤ 4 by decide), (show (4 : Nat) < 11 by decide), yExS, (fun z hz => by rcases List.mem_cons.mp hz with rfl | hz; exact ⟨"java/lang/IndexOutOfBoundsException", yExB, by decide⟩; rw [List.mem_singleton.mp hz]; exact ⟨"java/lang/IllegalArgumentException", yExA, by decide⟩)⟩, fun q9 => ?_⟩
      refine y_blk 2 tq_L_wire (z := (25, [(4, .ref q9), (0, .ref (ad 1)), (1, .int p0), (2, .int p1), (3, .ref o)], [.int 3])) rfl ?_
      exact y_iret tq_L_wire rfl rfl ⟨σ, _, _, hX, hO, yTg.rfl', Or.inr (Or.inr (Or.inr (⟨hc, rfl, rfl⟩)))⟩
set_option maxHeartbeats 4000000 in
set_option maxRecDepth 100000 in
theorem m_L_whereV {l : Launch} {S0 : State} {A0 : Array Value} {D : va_G} {aC : Nat → ClassId} {ad : Nat → Nat} {G : AH} {σ : XS} (hS : yS l S0 A0 D aC) (hX : atX aC ad G σ) {o : Nat} {nv : Int64} {sv : Value} (hO : G o = some (600, yOut nv sv)) (p0 : Int32) (p1 : Int32) : yMW l S0 D yL_where cL_where 5 (some .int) [(0, 11, 14, 25), (0, 11, 18, 19)] 40 2 12 [.ref (ad 1), .int p0, .int p1, .ref o] G (fun r G1 => ∃ (σ1 : XS) (nv1 : Int64) (sv1 : Value), atX aC ad G1 σ1 ∧ G1 o = some (600, yOut nv1 sv1) ∧ yTg fL G G1 ∧ xoWhere p0 p1 r nv1 σ σ1) (fun _ _ => False) := by
  refine yMW.of K_L_where rfl (by decide) (Nat.le_of_ble_eq_true rfl) ?_
  refine y_blk 4 tq_L_where (z := (4, [(0, .ref (ad 1)), (1, .int p0), (2, .int p1), (3, .ref o)], [.int p1, .int p0, .ref (ad 1), .ref o])) rfl ?_
  refine y_callVC hS tq_L_where rfl rfl (As := [.int p0, .int p1]) rfl cv_L_93 (hX.1 1 _ rfl) (m_X8_where hS hX p0 p1) rfl (by decide) (Nat.le_of_ble_eq_true rfl) (fun r G1 q => ?_) (fun E G1 q => ?_)
  · obtain ⟨⟨rfl, hok⟩, σ1, hX1, hk1, hn1, hr1⟩ := q
    have hO1 : G1 o = some (600, yOut nv sv) := hk1 _ _ _ hO (Or.inr (by decide))
    refine y_blk 1 tq_L_where (z := (8, [(0, .ref (ad 1)), (1, .int p0), (2, .int p1), (3, .ref o)], [.long (Int32.toInt64 (xcel σ p0 p1)), .ref o])) rfl ?_
    refine y_putN hS tq_L_where rfl fpn_L_13_X9 hO1 (by decide) rfl rfl (Nat.le_of_ble_eq_true rfl) ?_
    refine y_blk 2 tq_L_where (z := (23, [(0, .ref (ad 1)), (1, .int p0), (2, .int p1), (3, .ref o)], [.int 0])) rfl ?_
    exact y_iret tq_L_where rfl rfl ⟨σ1, _, _, hX1.kp (f := fun t => t ≠ 600) (yTg.up hO1 (fun q9 => q9 rfl)) (fun t _ h9 => by omega), yup_s _ _ _, hk1.tg.trans (yTg.up hO1 (by decide)), Or.inl ⟨hok, rfl, rfl, hn1, hr1⟩⟩
  · obtain ⟨hE, eG⟩ := q
    subst eG
    rcases hE with ⟨rfl, hc⟩ | ⟨rfl, hc⟩
    · skip
      refine ⟨14, ⟨[], [(0, 11, 18, 19)], (0, 11, 14, 25), rfl, rfl, (show (0 : Nat) ≤ 4 by decide), (show (4 : Nat) < 11 by decide), yExB, (fun z hz => nomatch hz)⟩, fun q9 => ?_⟩
      refine y_blk 2 tq_L_where (z := (17, [(4, .ref q9), (0, .ref (ad 1)), (1, .int p0), (2, .int p1), (3, .ref o)], [.int 1])) rfl ?_
      exact y_iret tq_L_where rfl rfl ⟨σ, _, _, hX, hO, yTg.rfl', Or.inr (Or.inl ⟨hc, rfl, rfl⟩)⟩
    · skip
      refine ⟨18, ⟨[(0, 11, 14, 25)], [], (0, 11, 18, 19), rfl, rfl, (show (0 : Nat) ≤ 4 by decide), (show (4 : Nat) < 11 by decide), yExA, (fun z hz => by rw [List.mem_singleton.mp hz]; exact ⟨"java/lang/IndexOutOfBoundsException", yExB, by decide⟩)⟩, fun q9 => ?_⟩
      refine y_blk 2 tq_L_where (z := (21, [(4, .ref q9), (0, .ref (ad 1)), (1, .int p0), (2, .int p1), (3, .ref o)], [.int 2])) rfl ?_
      exact y_iret tq_L_where rfl rfl ⟨σ, _, _, hX, hO, yTg.rfl', Or.inr (Or.inr (⟨hc, rfl, rfl⟩))⟩
set_option maxHeartbeats 4000000 in
theorem n_X8_ofIntruder {l : Launch} {S0 : State} {A0 : Array Value} {D : va_G} {aC : Nat → ClassId} {ad : Nat → Nat} {G : AH} {σ : XS} (hS : yS l S0 A0 D aC) (hX : atX aC ad G σ) (p0 : Int32) (p1 : Int32) : yM l S0 D yX8_ofIntruder cX8_ofIntruder 3 (some .int) 15 2 12 [.ref (ad 1), .int p0, .int p1] G (fun r G1 => (∃ v : Int32, r = some (.int v)) ∧ xNF aC ad σ G G1) (fun E G1 => (E = "java/lang/IndexOutOfBoundsException" ∨ E = "java/lang/IllegalArgumentException") ∧ xNF aC ad σ G G1) := by
  refine yM.mono (m_X8_ofIntruder hS hX p0 p1) (fun r G1 q => ⟨q.1, xNF.rf hX q.2⟩) (fun E G1 q => ?_)
  refine ⟨?_, xNF.rf hX q.2⟩
  rcases q.1 with h | h
  · exact Or.inl h.1
  · exact Or.inr (h.1)
set_option maxHeartbeats 4000000 in
set_option maxRecDepth 100000 in
theorem m_L_ofIntruder {l : Launch} {S0 : State} {A0 : Array Value} {D : va_G} {aC : Nat → ClassId} {ad : Nat → Nat} {G : AH} {σ : XS} (hS : yS l S0 A0 D aC) (hX : atX aC ad G σ) {o : Nat} {nv : Int64} {sv : Value} (hO : G o = some (600, yOut nv sv)) (p0 : Int32) (p1 : Int32) : yMW l S0 D yL_ofIntruder cL_ofIntruder 5 (some .int) [(0, 11, 14, 25), (0, 11, 18, 19)] 40 2 12 [.ref (ad 1), .int p0, .int p1, .ref o] G (fun r G1 => (∃ v : Int32, r = some (.int v)) ∧ ∃ (σ1 : XS) (nv1 : Int64) (sv1 : Value), atX aC ad G1 σ1 ∧ xfr NC σ σ1 ∧ G1 o = some (600, yOut nv1 sv1) ∧ yTg fL G G1) (fun _ _ => False) := by
  refine yMW.of K_L_ofIntruder rfl (by decide) (Nat.le_of_ble_eq_true rfl) ?_
  refine y_blk 4 tq_L_ofIntruder (z := (4, [(0, .ref (ad 1)), (1, .int p0), (2, .int p1), (3, .ref o)], [.int p1, .int p0, .ref (ad 1), .ref o])) rfl ?_
  refine y_callVC hS tq_L_ofIntruder rfl rfl (As := [.int p0, .int p1]) rfl cv_L_96 (hX.1 1 _ rfl) (n_X8_ofIntruder hS hX p0 p1) rfl (by decide) (Nat.le_of_ble_eq_true rfl) (fun r G1 q => ?_) (fun E G1 q => ?_)
  · obtain ⟨⟨v, rfl⟩, σ1, hX1, hk1, hn1⟩ := q
    have hO1 : G1 o = some (600, yOut nv sv) := hk1 _ _ _ hO (Or.inr (by decide))
    refine y_blk 1 tq_L_ofIntruder (z := (8, [(0, .ref (ad 1)), (1, .int p0), (2, .int p1), (3, .ref o)], [.long (Int32.toInt64 v), .ref o])) rfl ?_
    refine y_putN hS tq_L_ofIntruder rfl fpn_L_13_X9 hO1 (by decide) rfl rfl (Nat.le_of_ble_eq_true rfl) ?_
    refine y_blk 2 tq_L_ofIntruder (z := (23, [(0, .ref (ad 1)), (1, .int p0), (2, .int p1), (3, .ref o)], [.int 0])) rfl ?_
    exact y_iret tq_L_ofIntruder rfl rfl ⟨⟨_, rfl⟩, σ1, _, _, hX1.kp (f := fun t => t ≠ 600) (yTg.up hO1 (fun q9 => q9 rfl)) (fun t _ h9 => by omega), hn1, yup_s _ _ _, hk1.tg.trans (yTg.up hO1 (by decide))⟩
  · obtain ⟨hE, σ1, hX1, hk1, hn1⟩ := q
    have hO1 : G1 o = some (600, yOut nv sv) := hk1 _ _ _ hO (Or.inr (by decide))
    rcases hE with rfl | rfl
    · skip
      refine ⟨14, ⟨[], [(0, 11, 18, 19)], (0, 11, 14, 25), rfl, rfl, (show (0 : Nat) ≤ 4 by decide), (show (4 : Nat) < 11 by decide), yExB, (fun z hz => nomatch hz)⟩, fun q9 => ?_⟩
      refine y_blk 2 tq_L_ofIntruder (z := (17, [(4, .ref q9), (0, .ref (ad 1)), (1, .int p0), (2, .int p1), (3, .ref o)], [.int 1])) rfl ?_
      exact y_iret tq_L_ofIntruder rfl rfl ⟨⟨_, rfl⟩, σ1, _, _, hX1, hn1, hO1, hk1.tg⟩
    · skip
      refine ⟨18, ⟨[(0, 11, 14, 25)], [], (0, 11, 18, 19), rfl, rfl, (show (0 : Nat) ≤ 4 by decide), (show (4 : Nat) < 11 by decide), yExA, (fun z hz => by rw [List.mem_singleton.mp hz]; exact ⟨"java/lang/IndexOutOfBoundsException", yExB, by decide⟩)⟩, fun q9 => ?_⟩
      refine y_blk 2 tq_L_ofIntruder (z := (21, [(4, .ref q9), (0, .ref (ad 1)), (1, .int p0), (2, .int p1), (3, .ref o)], [.int 2])) rfl ?_
      exact y_iret tq_L_ofIntruder rfl rfl ⟨⟨_, rfl⟩, σ1, _, _, hX1, hn1, hO1, hk1.tg⟩
set_option maxHeartbeats 4000000 in
theorem n_X8_force {l : Launch} {S0 : State} {A0 : Array Value} {D : va_G} {aC : Nat → ClassId} {ad : Nat → Nat} {G : AH} {σ : XS} (hS : yS l S0 A0 D aC) (hX : atX aC ad G σ) (p0 : Int32) (p1 : Int32) (p2 : Int32) : yM l S0 D yX8_force cX8_force 5 (some .int) 14 3 18 [.ref (ad 1), .int p0, .int p1, .int p2] G (fun r G1 => (∃ v : Int32, r = some (.int v)) ∧ xNF aC ad σ G G1) (fun E G1 => (E = "java/lang/IndexOutOfBoundsException" ∨ E = "java/lang/IllegalArgumentException" ∨ E = "java/lang/IllegalStateException") ∧ xNF aC ad σ G G1) := by
  refine yM.mono (m_X8_force hS hX p0 p1 p2) (fun r G1 q => ⟨q.1, xNF.w q.2⟩) (fun E G1 q => ?_)
  refine ⟨?_, xNF.rf hX q.2⟩
  rcases q.1 with h | h | h
  · exact Or.inl h
  · exact Or.inr (Or.inl h)
  · exact Or.inr (Or.inr (h))
set_option maxHeartbeats 4000000 in
set_option maxRecDepth 100000 in
theorem m_L_force {l : Launch} {S0 : State} {A0 : Array Value} {D : va_G} {aC : Nat → ClassId} {ad : Nat → Nat} {G : AH} {σ : XS} (hS : yS l S0 A0 D aC) (hX : atX aC ad G σ) {o : Nat} {nv : Int64} {sv : Value} (hO : G o = some (600, yOut nv sv)) (p0 : Int32) (p1 : Int32) (p2 : Int32) : yMW l S0 D yL_force cL_force 6 (some .int) [(0, 13, 16, 25), (0, 13, 20, 19), (0, 13, 24, 27)] 40 3 18 [.ref (ad 1), .int p0, .int p1, .int p2, .ref o] G (fun r G1 => (∃ v : Int32, r = some (.int v)) ∧ ∃ (σ1 : XS) (nv1 : Int64) (sv1 : Value), atX aC ad G1 σ1 ∧ xfr NC σ σ1 ∧ G1 o = some (600, yOut nv1 sv1) ∧ yTg fL G G1) (fun _ _ => False) := by
  refine yMW.of K_L_force rfl (by decide) (Nat.le_of_ble_eq_true rfl) ?_
  refine y_blk 5 tq_L_force (z := (6, [(0, .ref (ad 1)), (1, .int p0), (2, .int p1), (3, .int p2), (4, .ref o)], [.int p2, .int p1, .int p0, .ref (ad 1), .ref o])) rfl ?_
  refine y_callVC hS tq_L_force rfl rfl (As := [.int p0, .int p1, .int p2]) rfl cv_L_99 (hX.1 1 _ rfl) (n_X8_force hS hX p0 p1 p2) rfl (by decide) (Nat.le_of_ble_eq_true rfl) (fun r G1 q => ?_) (fun E G1 q => ?_)
  · obtain ⟨⟨v, rfl⟩, σ1, hX1, hk1, hn1⟩ := q
    have hO1 : G1 o = some (600, yOut nv sv) := hk1 _ _ _ hO (Or.inr (by decide))
    refine y_blk 1 tq_L_force (z := (10, [(0, .ref (ad 1)), (1, .int p0), (2, .int p1), (3, .int p2), (4, .ref o)], [.long (Int32.toInt64 v), .ref o])) rfl ?_
    refine y_putN hS tq_L_force rfl fpn_L_13_X9 hO1 (by decide) rfl rfl (Nat.le_of_ble_eq_true rfl) ?_
    refine y_blk 2 tq_L_force (z := (29, [(0, .ref (ad 1)), (1, .int p0), (2, .int p1), (3, .int p2), (4, .ref o)], [.int 0])) rfl ?_
    exact y_iret tq_L_force rfl rfl ⟨⟨_, rfl⟩, σ1, _, _, hX1.kp (f := fun t => t ≠ 600) (yTg.up hO1 (fun q9 => q9 rfl)) (fun t _ h9 => by omega), hn1, yup_s _ _ _, hk1.tg.trans (yTg.up hO1 (by decide))⟩
  · obtain ⟨hE, σ1, hX1, hk1, hn1⟩ := q
    have hO1 : G1 o = some (600, yOut nv sv) := hk1 _ _ _ hO (Or.inr (by decide))
    rcases hE with rfl | rfl | rfl
    · skip
      refine ⟨16, ⟨[], [(0, 13, 20, 19), (0, 13, 24, 27)], (0, 13, 16, 25), rfl, rfl, (show (0 : Nat) ≤ 6 by decide), (show (6 : Nat) < 13 by decide), yExB, (fun z hz => nomatch hz)⟩, fun q9 => ?_⟩
      refine y_blk 2 tq_L_force (z := (19, [(5, .ref q9), (0, .ref (ad 1)), (1, .int p0), (2, .int p1), (3, .int p2), (4, .ref o)], [.int 1])) rfl ?_
      exact y_iret tq_L_force rfl rfl ⟨⟨_, rfl⟩, σ1, _, _, hX1, hn1, hO1, hk1.tg⟩
    · skip
      refine ⟨20, ⟨[(0, 13, 16, 25)], [(0, 13, 24, 27)], (0, 13, 20, 19), rfl, rfl, (show (0 : Nat) ≤ 6 by decide), (show (6 : Nat) < 13 by decide), yExA, (fun z hz => by rw [List.mem_singleton.mp hz]; exact ⟨"java/lang/IndexOutOfBoundsException", yExB, by decide⟩)⟩, fun q9 => ?_⟩
      refine y_blk 2 tq_L_force (z := (23, [(5, .ref q9), (0, .ref (ad 1)), (1, .int p0), (2, .int p1), (3, .int p2), (4, .ref o)], [.int 2])) rfl ?_
      exact y_iret tq_L_force rfl rfl ⟨⟨_, rfl⟩, σ1, _, _, hX1, hn1, hO1, hk1.tg⟩
    · skip
      refine ⟨24, ⟨[(0, 13, 16, 25), (0, 13, 20, 19)], [], (0, 13, 24, 27), rfl, rfl, (show (0 : Nat) ≤ 6 by decide), (show (6 : Nat) < 13 by decide), yExS, (fun z hz => by rcases List.mem_cons.mp hz with rfl | hz; exact ⟨"java/lang/IndexOutOfBoundsException", yExB, by decide⟩; rw [List.mem_singleton.mp hz]; exact ⟨"java/lang/IllegalArgumentException", yExA, by decide⟩)⟩, fun q9 => ?_⟩
      refine y_blk 2 tq_L_force (z := (27, [(5, .ref q9), (0, .ref (ad 1)), (1, .int p0), (2, .int p1), (3, .int p2), (4, .ref o)], [.int 3])) rfl ?_
      exact y_iret tq_L_force rfl rfl ⟨⟨_, rfl⟩, σ1, _, _, hX1, hn1, hO1, hk1.tg⟩
set_option maxHeartbeats 4000000 in
set_option maxRecDepth 100000 in
theorem m_L_ofWireV {l : Launch} {S0 : State} {A0 : Array Value} {D : va_G} {aC : Nat → ClassId} {ad : Nat → Nat} {G : AH} {σ : XS} (hS : yS l S0 A0 D aC) (hX : atX aC ad G σ) {o : Nat} {nv : Int64} {sv : Value} (hO : G o = some (600, yOut nv sv)) (p0 : Int32) (p1 : Int32) : yMW l S0 D yL_ofWire cL_ofWire 5 (some .int) [(0, 11, 14, 25), (0, 11, 18, 19)] 40 2 12 [.ref (ad 1), .int p0, .int p1, .ref o] G (fun r G1 => ∃ (σ1 : XS) (nv1 : Int64) (sv1 : Value), atX aC ad G1 σ1 ∧ G1 o = some (600, yOut nv1 sv1) ∧ yTg fL G G1 ∧ xoOfWire p0 p1 r nv1 σ σ1) (fun _ _ => False) := by
  refine yMW.of K_L_ofWire rfl (by decide) (Nat.le_of_ble_eq_true rfl) ?_
  refine y_blk 4 tq_L_ofWire (z := (4, [(0, .ref (ad 1)), (1, .int p0), (2, .int p1), (3, .ref o)], [.int p1, .int p0, .ref (ad 1), .ref o])) rfl ?_
  refine y_callVC hS tq_L_ofWire rfl rfl (As := [.int p0, .int p1]) rfl cv_L_102 (hX.1 1 _ rfl) (m_X8_ofWire_v hS hX p0 p1) rfl (by decide) (Nat.le_of_ble_eq_true rfl) (fun r G1 q => ?_) (fun E G1 q => ?_)
  · obtain ⟨⟨rfl, hok⟩, σ1, hX1, hk1, hn1, hr1⟩ := q
    have hO1 : G1 o = some (600, yOut nv sv) := hk1 _ _ _ hO (Or.inr (by decide))
    refine y_blk 1 tq_L_ofWire (z := (8, [(0, .ref (ad 1)), (1, .int p0), (2, .int p1), (3, .ref o)], [.long (Int32.toInt64 (if p1 = 0 then xat σ 22 p0 else if p1 = 1 then xat σ 23 p0 else if p1 = 2 then xrgN σ p0 0 else if p1 = 3 then xrgN σ p0 1 else xtrN σ p0)), .ref o])) rfl ?_
    refine y_putN hS tq_L_ofWire rfl fpn_L_13_X9 hO1 (by decide) rfl rfl (Nat.le_of_ble_eq_true rfl) ?_
    refine y_blk 2 tq_L_ofWire (z := (23, [(0, .ref (ad 1)), (1, .int p0), (2, .int p1), (3, .ref o)], [.int 0])) rfl ?_
    exact y_iret tq_L_ofWire rfl rfl ⟨σ1, _, _, hX1.kp (f := fun t => t ≠ 600) (yTg.up hO1 (fun q9 => q9 rfl)) (fun t _ h9 => by omega), yup_s _ _ _, hk1.tg.trans (yTg.up hO1 (by decide)), Or.inl ⟨hok, rfl, rfl, hn1, hr1⟩⟩
  · obtain ⟨hE, eG⟩ := q
    subst eG
    rcases hE with ⟨rfl, hc⟩ | ⟨rfl, hc⟩
    · skip
      refine ⟨14, ⟨[], [(0, 11, 18, 19)], (0, 11, 14, 25), rfl, rfl, (show (0 : Nat) ≤ 4 by decide), (show (4 : Nat) < 11 by decide), yExB, (fun z hz => nomatch hz)⟩, fun q9 => ?_⟩
      refine y_blk 2 tq_L_ofWire (z := (17, [(4, .ref q9), (0, .ref (ad 1)), (1, .int p0), (2, .int p1), (3, .ref o)], [.int 1])) rfl ?_
      exact y_iret tq_L_ofWire rfl rfl ⟨σ, _, _, hX, hO, yTg.rfl', Or.inr (Or.inl ⟨hc, rfl, rfl⟩)⟩
    · skip
      refine ⟨18, ⟨[(0, 11, 14, 25)], [], (0, 11, 18, 19), rfl, rfl, (show (0 : Nat) ≤ 4 by decide), (show (4 : Nat) < 11 by decide), yExA, (fun z hz => by rw [List.mem_singleton.mp hz]; exact ⟨"java/lang/IndexOutOfBoundsException", yExB, by decide⟩)⟩, fun q9 => ?_⟩
      refine y_blk 2 tq_L_ofWire (z := (21, [(4, .ref q9), (0, .ref (ad 1)), (1, .int p0), (2, .int p1), (3, .ref o)], [.int 2])) rfl ?_
      exact y_iret tq_L_ofWire rfl rfl ⟨σ, _, _, hX, hO, yTg.rfl', Or.inr (Or.inr (⟨hc, rfl, rfl⟩))⟩
set_option maxHeartbeats 4000000 in
theorem n_X8_sneak {l : Launch} {S0 : State} {A0 : Array Value} {D : va_G} {aC : Nat → ClassId} {ad : Nat → Nat} {G : AH} {σ : XS} (hS : yS l S0 A0 D aC) (hX : atX aC ad G σ) (p0 : Int32) (p1 : Int32) (p2 : Int32) (p3 : Int32) : yM l S0 D yX8_sneak cX8_sneak 8 (some .int) 15 3 18 [.ref (ad 1), .int p0, .int p1, .int p2, .int p3] G (fun r G1 => (∃ v : Int32, r = some (.int v)) ∧ xNF aC ad σ G G1) (fun E G1 => (E = "java/lang/IndexOutOfBoundsException" ∨ E = "java/lang/IllegalArgumentException") ∧ xNF aC ad σ G G1) := by
  refine yM.mono (m_X8_sneak hS hX p0 p1 p2 p3) (fun r G1 q => ⟨q.1, xNF.rf hX q.2⟩) (fun E G1 q => ?_)
  refine ⟨?_, xNF.rf hX q.2⟩
  rcases q.1 with h | h
  · exact Or.inl h
  · exact Or.inr (h)
set_option maxHeartbeats 4000000 in
set_option maxRecDepth 100000 in
theorem m_L_sneak {l : Launch} {S0 : State} {A0 : Array Value} {D : va_G} {aC : Nat → ClassId} {ad : Nat → Nat} {G : AH} {σ : XS} (hS : yS l S0 A0 D aC) (hX : atX aC ad G σ) {o : Nat} {nv : Int64} {sv : Value} (hO : G o = some (600, yOut nv sv)) (p0 : Int32) (p1 : Int32) (p2 : Int32) (p3 : Int32) : yMW l S0 D yL_sneak cL_sneak 7 (some .int) [(0, 15, 18, 25), (0, 15, 22, 19)] 40 3 18 [.ref (ad 1), .int p0, .int p1, .int p2, .int p3, .ref o] G (fun r G1 => (∃ v : Int32, r = some (.int v)) ∧ ∃ (σ1 : XS) (nv1 : Int64) (sv1 : Value), atX aC ad G1 σ1 ∧ xfr NC σ σ1 ∧ G1 o = some (600, yOut nv1 sv1) ∧ yTg fL G G1) (fun _ _ => False) := by
  refine yMW.of K_L_sneak rfl (by decide) (Nat.le_of_ble_eq_true rfl) ?_
  refine y_blk 6 tq_L_sneak (z := (8, [(0, .ref (ad 1)), (1, .int p0), (2, .int p1), (3, .int p2), (4, .int p3), (5, .ref o)], [.int p3, .int p2, .int p1, .int p0, .ref (ad 1), .ref o])) rfl ?_
  refine y_callVC hS tq_L_sneak rfl rfl (As := [.int p0, .int p1, .int p2, .int p3]) rfl cv_L_105 (hX.1 1 _ rfl) (n_X8_sneak hS hX p0 p1 p2 p3) rfl (by decide) (Nat.le_of_ble_eq_true rfl) (fun r G1 q => ?_) (fun E G1 q => ?_)
  · obtain ⟨⟨v, rfl⟩, σ1, hX1, hk1, hn1⟩ := q
    have hO1 : G1 o = some (600, yOut nv sv) := hk1 _ _ _ hO (Or.inr (by decide))
    refine y_blk 1 tq_L_sneak (z := (12, [(0, .ref (ad 1)), (1, .int p0), (2, .int p1), (3, .int p2), (4, .int p3), (5, .ref o)], [.long (Int32.toInt64 v), .ref o])) rfl ?_
    refine y_putN hS tq_L_sneak rfl fpn_L_13_X9 hO1 (by decide) rfl rfl (Nat.le_of_ble_eq_true rfl) ?_
    refine y_blk 2 tq_L_sneak (z := (27, [(0, .ref (ad 1)), (1, .int p0), (2, .int p1), (3, .int p2), (4, .int p3), (5, .ref o)], [.int 0])) rfl ?_
    exact y_iret tq_L_sneak rfl rfl ⟨⟨_, rfl⟩, σ1, _, _, hX1.kp (f := fun t => t ≠ 600) (yTg.up hO1 (fun q9 => q9 rfl)) (fun t _ h9 => by omega), hn1, yup_s _ _ _, hk1.tg.trans (yTg.up hO1 (by decide))⟩
  · obtain ⟨hE, σ1, hX1, hk1, hn1⟩ := q
    have hO1 : G1 o = some (600, yOut nv sv) := hk1 _ _ _ hO (Or.inr (by decide))
    rcases hE with rfl | rfl
    · skip
      refine ⟨18, ⟨[], [(0, 15, 22, 19)], (0, 15, 18, 25), rfl, rfl, (show (0 : Nat) ≤ 8 by decide), (show (8 : Nat) < 15 by decide), yExB, (fun z hz => nomatch hz)⟩, fun q9 => ?_⟩
      refine y_blk 2 tq_L_sneak (z := (21, [(6, .ref q9), (0, .ref (ad 1)), (1, .int p0), (2, .int p1), (3, .int p2), (4, .int p3), (5, .ref o)], [.int 1])) rfl ?_
      exact y_iret tq_L_sneak rfl rfl ⟨⟨_, rfl⟩, σ1, _, _, hX1, hn1, hO1, hk1.tg⟩
    · skip
      refine ⟨22, ⟨[(0, 15, 18, 25)], [], (0, 15, 22, 19), rfl, rfl, (show (0 : Nat) ≤ 8 by decide), (show (8 : Nat) < 15 by decide), yExA, (fun z hz => by rw [List.mem_singleton.mp hz]; exact ⟨"java/lang/IndexOutOfBoundsException", yExB, by decide⟩)⟩, fun q9 => ?_⟩
      refine y_blk 2 tq_L_sneak (z := (25, [(6, .ref q9), (0, .ref (ad 1)), (1, .int p0), (2, .int p1), (3, .int p2), (4, .int p3), (5, .ref o)], [.int 2])) rfl ?_
      exact y_iret tq_L_sneak rfl rfl ⟨⟨_, rfl⟩, σ1, _, _, hX1, hn1, hO1, hk1.tg⟩
set_option maxHeartbeats 4000000 in
theorem n_X8_reach {l : Launch} {S0 : State} {A0 : Array Value} {D : va_G} {aC : Nat → ClassId} {ad : Nat → Nat} {G : AH} {σ : XS} (hS : yS l S0 A0 D aC) (hX : atX aC ad G σ) (p0 : Int32) (p1 : Int32) (p2 : Int32) : yM l S0 D yX8_reach cX8_reach 7 (some .int) 15 2 12 [.ref (ad 1), .int p0, .int p1, .int p2] G (fun r G1 => (∃ v : Int32, r = some (.int v)) ∧ xNF aC ad σ G G1) (fun E G1 => (E = "java/lang/IndexOutOfBoundsException" ∨ E = "java/lang/IllegalArgumentException") ∧ xNF aC ad σ G G1) := by
  refine yM.mono (m_X8_reach hS hX p0 p1 p2) (fun r G1 q => ⟨q.1, xNF.rf hX q.2⟩) (fun E G1 q => ?_)
  refine ⟨?_, xNF.rf hX q.2⟩
  rcases q.1 with h | h
  · exact Or.inl h
  · exact Or.inr (h)
set_option maxHeartbeats 4000000 in
set_option maxRecDepth 100000 in
theorem m_L_reach {l : Launch} {S0 : State} {A0 : Array Value} {D : va_G} {aC : Nat → ClassId} {ad : Nat → Nat} {G : AH} {σ : XS} (hS : yS l S0 A0 D aC) (hX : atX aC ad G σ) {o : Nat} {nv : Int64} {sv : Value} (hO : G o = some (600, yOut nv sv)) (p0 : Int32) (p1 : Int32) (p2 : Int32) : yMW l S0 D yL_reach cL_reach 6 (some .int) [(0, 13, 16, 25), (0, 13, 20, 19)] 40 2 12 [.ref (ad 1), .int p0, .int p1, .int p2, .ref o] G (fun r G1 => (∃ v : Int32, r = some (.int v)) ∧ ∃ (σ1 : XS) (nv1 : Int64) (sv1 : Value), atX aC ad G1 σ1 ∧ xfr NC σ σ1 ∧ G1 o = some (600, yOut nv1 sv1) ∧ yTg fL G G1) (fun _ _ => False) := by
  refine yMW.of K_L_reach rfl (by decide) (Nat.le_of_ble_eq_true rfl) ?_
  refine y_blk 5 tq_L_reach (z := (6, [(0, .ref (ad 1)), (1, .int p0), (2, .int p1), (3, .int p2), (4, .ref o)], [.int p2, .int p1, .int p0, .ref (ad 1), .ref o])) rfl ?_
  refine y_callVC hS tq_L_reach rfl rfl (As := [.int p0, .int p1, .int p2]) rfl cv_L_108 (hX.1 1 _ rfl) (n_X8_reach hS hX p0 p1 p2) rfl (by decide) (Nat.le_of_ble_eq_true rfl) (fun r G1 q => ?_) (fun E G1 q => ?_)
  · obtain ⟨⟨v, rfl⟩, σ1, hX1, hk1, hn1⟩ := q
    have hO1 : G1 o = some (600, yOut nv sv) := hk1 _ _ _ hO (Or.inr (by decide))
    refine y_blk 1 tq_L_reach (z := (10, [(0, .ref (ad 1)), (1, .int p0), (2, .int p1), (3, .int p2), (4, .ref o)], [.long (Int32.toInt64 v), .ref o])) rfl ?_
    refine y_putN hS tq_L_reach rfl fpn_L_13_X9 hO1 (by decide) rfl rfl (Nat.le_of_ble_eq_true rfl) ?_
    refine y_blk 2 tq_L_reach (z := (25, [(0, .ref (ad 1)), (1, .int p0), (2, .int p1), (3, .int p2), (4, .ref o)], [.int 0])) rfl ?_
    exact y_iret tq_L_reach rfl rfl ⟨⟨_, rfl⟩, σ1, _, _, hX1.kp (f := fun t => t ≠ 600) (yTg.up hO1 (fun q9 => q9 rfl)) (fun t _ h9 => by omega), hn1, yup_s _ _ _, hk1.tg.trans (yTg.up hO1 (by decide))⟩
  · obtain ⟨hE, σ1, hX1, hk1, hn1⟩ := q
    have hO1 : G1 o = some (600, yOut nv sv) := hk1 _ _ _ hO (Or.inr (by decide))
    rcases hE with rfl | rfl
    · skip
      refine ⟨16, ⟨[], [(0, 13, 20, 19)], (0, 13, 16, 25), rfl, rfl, (show (0 : Nat) ≤ 6 by decide), (show (6 : Nat) < 13 by decide), yExB, (fun z hz => nomatch hz)⟩, fun q9 => ?_⟩
      refine y_blk 2 tq_L_reach (z := (19, [(5, .ref q9), (0, .ref (ad 1)), (1, .int p0), (2, .int p1), (3, .int p2), (4, .ref o)], [.int 1])) rfl ?_
      exact y_iret tq_L_reach rfl rfl ⟨⟨_, rfl⟩, σ1, _, _, hX1, hn1, hO1, hk1.tg⟩
    · skip
      refine ⟨20, ⟨[(0, 13, 16, 25)], [], (0, 13, 20, 19), rfl, rfl, (show (0 : Nat) ≤ 6 by decide), (show (6 : Nat) < 13 by decide), yExA, (fun z hz => by rw [List.mem_singleton.mp hz]; exact ⟨"java/lang/IndexOutOfBoundsException", yExB, by decide⟩)⟩, fun q9 => ?_⟩
      refine y_blk 2 tq_L_reach (z := (23, [(5, .ref q9), (0, .ref (ad 1)), (1, .int p0), (2, .int p1), (3, .int p2), (4, .ref o)], [.int 2])) rfl ?_
      exact y_iret tq_L_reach rfl rfl ⟨⟨_, rfl⟩, σ1, _, _, hX1, hn1, hO1, hk1.tg⟩
set_option maxHeartbeats 4000000 in
theorem n_X8_nextLamp {l : Launch} {S0 : State} {A0 : Array Value} {D : va_G} {aC : Nat → ClassId} {ad : Nat → Nat} {G : AH} {σ : XS} (hS : yS l S0 A0 D aC) (hX : atX aC ad G σ) (p0 : Int32) (p1 : Int32) (p2 : Int32) : yM l S0 D yX8_nextLamp cX8_nextLamp 8 (some .int) 14 1 6 [.ref (ad 1), .int p0, .int p1, .int p2] G (fun r G1 => (∃ v : Int32, r = some (.int v)) ∧ xNF aC ad σ G G1) (fun E G1 => (E = "java/lang/IllegalArgumentException") ∧ xNF aC ad σ G G1) := by
  refine yM.mono (m_X8_nextLamp hS hX p0 p1 p2) (fun r G1 q => ⟨q.1, xNF.rf hX q.2⟩) (fun E G1 q => ?_)
  refine ⟨?_, xNF.rf hX q.2⟩
  exact q.1
set_option maxHeartbeats 4000000 in
set_option maxRecDepth 100000 in
theorem m_L_nextLamp {l : Launch} {S0 : State} {A0 : Array Value} {D : va_G} {aC : Nat → ClassId} {ad : Nat → Nat} {G : AH} {σ : XS} (hS : yS l S0 A0 D aC) (hX : atX aC ad G σ) {o : Nat} {nv : Int64} {sv : Value} (hO : G o = some (600, yOut nv sv)) (p0 : Int32) (p1 : Int32) (p2 : Int32) : yMW l S0 D yL_nextLamp cL_nextLamp 6 (some .int) [(0, 13, 16, 19)] 40 1 6 [.ref (ad 1), .int p0, .int p1, .int p2, .ref o] G (fun r G1 => (∃ v : Int32, r = some (.int v)) ∧ ∃ (σ1 : XS) (nv1 : Int64) (sv1 : Value), atX aC ad G1 σ1 ∧ xfr NC σ σ1 ∧ G1 o = some (600, yOut nv1 sv1) ∧ yTg fL G G1) (fun _ _ => False) := by
  refine yMW.of K_L_nextLamp rfl (by decide) (Nat.le_of_ble_eq_true rfl) ?_
  refine y_blk 5 tq_L_nextLamp (z := (6, [(0, .ref (ad 1)), (1, .int p0), (2, .int p1), (3, .int p2), (4, .ref o)], [.int p2, .int p1, .int p0, .ref (ad 1), .ref o])) rfl ?_
  refine y_callVC hS tq_L_nextLamp rfl rfl (As := [.int p0, .int p1, .int p2]) rfl cv_L_111 (hX.1 1 _ rfl) (n_X8_nextLamp hS hX p0 p1 p2) rfl (by decide) (Nat.le_of_ble_eq_true rfl) (fun r G1 q => ?_) (fun E G1 q => ?_)
  · obtain ⟨⟨v, rfl⟩, σ1, hX1, hk1, hn1⟩ := q
    have hO1 : G1 o = some (600, yOut nv sv) := hk1 _ _ _ hO (Or.inr (by decide))
    refine y_blk 1 tq_L_nextLamp (z := (10, [(0, .ref (ad 1)), (1, .int p0), (2, .int p1), (3, .int p2), (4, .ref o)], [.long (Int32.toInt64 v), .ref o])) rfl ?_
    refine y_putN hS tq_L_nextLamp rfl fpn_L_13_X9 hO1 (by decide) rfl rfl (Nat.le_of_ble_eq_true rfl) ?_
    refine y_blk 2 tq_L_nextLamp (z := (21, [(0, .ref (ad 1)), (1, .int p0), (2, .int p1), (3, .int p2), (4, .ref o)], [.int 0])) rfl ?_
    exact y_iret tq_L_nextLamp rfl rfl ⟨⟨_, rfl⟩, σ1, _, _, hX1.kp (f := fun t => t ≠ 600) (yTg.up hO1 (fun q9 => q9 rfl)) (fun t _ h9 => by omega), hn1, yup_s _ _ _, hk1.tg.trans (yTg.up hO1 (by decide))⟩
  · obtain ⟨hE, σ1, hX1, hk1, hn1⟩ := q
    have hO1 : G1 o = some (600, yOut nv sv) := hk1 _ _ _ hO (Or.inr (by decide))
    subst hE
    refine ⟨16, ⟨[], [], (0, 13, 16, 19), rfl, rfl, (show (0 : Nat) ≤ 6 by decide), (show (6 : Nat) < 13 by decide), yExA, (fun z hz => nomatch hz)⟩, fun q9 => ?_⟩
    refine y_blk 2 tq_L_nextLamp (z := (19, [(5, .ref q9), (0, .ref (ad 1)), (1, .int p0), (2, .int p1), (3, .int p2), (4, .ref o)], [.int 1])) rfl ?_
    exact y_iret tq_L_nextLamp rfl rfl ⟨⟨_, rfl⟩, σ1, _, _, hX1, hn1, hO1, hk1.tg⟩
set_option maxHeartbeats 4000000 in
theorem n_X8_many {l : Launch} {S0 : State} {A0 : Array Value} {D : va_G} {aC : Nat → ClassId} {ad : Nat → Nat} {G : AH} {σ : XS} (hS : yS l S0 A0 D aC) (hX : atX aC ad G σ) (p0 : Int32) : yM l S0 D yX8_many cX8_many 2 (some .int) 15 1 6 [.ref (ad 1), .int p0] G (fun r G1 => (∃ v : Int32, r = some (.int v)) ∧ xNF aC ad σ G G1) (fun E G1 => (E = "java/lang/IllegalArgumentException") ∧ xNF aC ad σ G G1) := by
  refine yM.mono (m_X8_many hS hX p0) (fun r G1 q => ⟨q.1, xNF.rf hX q.2⟩) (fun E G1 q => ?_)
  refine ⟨?_, xNF.rf hX q.2⟩
  exact q.1.1
set_option maxHeartbeats 4000000 in
set_option maxRecDepth 100000 in
theorem m_L_many {l : Launch} {S0 : State} {A0 : Array Value} {D : va_G} {aC : Nat → ClassId} {ad : Nat → Nat} {G : AH} {σ : XS} (hS : yS l S0 A0 D aC) (hX : atX aC ad G σ) {o : Nat} {nv : Int64} {sv : Value} (hO : G o = some (600, yOut nv sv)) (p0 : Int32) : yMW l S0 D yL_many cL_many 4 (some .int) [(0, 10, 13, 19)] 40 1 6 [.ref (ad 1), .int p0, .ref o] G (fun r G1 => (∃ v : Int32, r = some (.int v)) ∧ ∃ (σ1 : XS) (nv1 : Int64) (sv1 : Value), atX aC ad G1 σ1 ∧ xfr NC σ σ1 ∧ G1 o = some (600, yOut nv1 sv1) ∧ yTg fL G G1) (fun _ _ => False) := by
  refine yMW.of K_L_many rfl (by decide) (Nat.le_of_ble_eq_true rfl) ?_
  refine y_blk 3 tq_L_many (z := (3, [(0, .ref (ad 1)), (1, .int p0), (2, .ref o)], [.int p0, .ref (ad 1), .ref o])) rfl ?_
  refine y_callVC hS tq_L_many rfl rfl (As := [.int p0]) rfl cv_L_115 (hX.1 1 _ rfl) (n_X8_many hS hX p0) rfl (by decide) (Nat.le_of_ble_eq_true rfl) (fun r G1 q => ?_) (fun E G1 q => ?_)
  · obtain ⟨⟨v, rfl⟩, σ1, hX1, hk1, hn1⟩ := q
    have hO1 : G1 o = some (600, yOut nv sv) := hk1 _ _ _ hO (Or.inr (by decide))
    refine y_blk 1 tq_L_many (z := (7, [(0, .ref (ad 1)), (1, .int p0), (2, .ref o)], [.long (Int32.toInt64 v), .ref o])) rfl ?_
    refine y_putN hS tq_L_many rfl fpn_L_13_X9 hO1 (by decide) rfl rfl (Nat.le_of_ble_eq_true rfl) ?_
    refine y_blk 2 tq_L_many (z := (17, [(0, .ref (ad 1)), (1, .int p0), (2, .ref o)], [.int 0])) rfl ?_
    exact y_iret tq_L_many rfl rfl ⟨⟨_, rfl⟩, σ1, _, _, hX1.kp (f := fun t => t ≠ 600) (yTg.up hO1 (fun q9 => q9 rfl)) (fun t _ h9 => by omega), hn1, yup_s _ _ _, hk1.tg.trans (yTg.up hO1 (by decide))⟩
  · obtain ⟨hE, σ1, hX1, hk1, hn1⟩ := q
    have hO1 : G1 o = some (600, yOut nv sv) := hk1 _ _ _ hO (Or.inr (by decide))
    subst hE
    refine ⟨13, ⟨[], [], (0, 10, 13, 19), rfl, rfl, (show (0 : Nat) ≤ 3 by decide), (show (3 : Nat) < 10 by decide), yExA, (fun z hz => nomatch hz)⟩, fun q9 => ?_⟩
    refine y_blk 2 tq_L_many (z := (15, [(3, .ref q9), (0, .ref (ad 1)), (1, .int p0), (2, .ref o)], [.int 1])) rfl ?_
    exact y_iret tq_L_many rfl rfl ⟨⟨_, rfl⟩, σ1, _, _, hX1, hn1, hO1, hk1.tg⟩
set_option maxHeartbeats 4000000 in
theorem n_X8_drawn {l : Launch} {S0 : State} {A0 : Array Value} {D : va_G} {aC : Nat → ClassId} {ad : Nat → Nat} {G : AH} {σ : XS} (hS : yS l S0 A0 D aC) (hX : atX aC ad G σ) (p0 : Int32) (p1 : Int32) : yM l S0 D yX8_drawn cX8_drawn 7 (some (.object "java/lang/String")) 30 6 52 [.ref (ad 1), .int p0, .int p1] G (fun r G1 => (∃ v : Nat, r = some (.ref v)) ∧ xNF aC ad σ G G1) (fun E G1 => (E = "java/lang/IndexOutOfBoundsException" ∨ E = "java/lang/IllegalArgumentException") ∧ xNF aC ad σ G G1) := by
  refine yM.mono (m_X8_drawn hS hX p0 p1) (fun r G1 q => ⟨q.1, xNF.w q.2⟩) (fun E G1 q => ?_)
  refine ⟨?_, xNF.rf hX q.2⟩
  rcases q.1 with h | h
  · exact Or.inl h
  · exact Or.inr (h)
set_option maxHeartbeats 4000000 in
set_option maxRecDepth 100000 in
theorem m_L_drawn {l : Launch} {S0 : State} {A0 : Array Value} {D : va_G} {aC : Nat → ClassId} {ad : Nat → Nat} {G : AH} {σ : XS} (hS : yS l S0 A0 D aC) (hX : atX aC ad G σ) {o : Nat} {nv : Int64} {sv : Value} (hO : G o = some (600, yOut nv sv)) (p0 : Int32) (p1 : Int32) : yMW l S0 D yL_drawn cL_drawn 5 (some .int) [(0, 10, 13, 25), (0, 10, 17, 19)] 40 6 52 [.ref (ad 1), .int p0, .int p1, .ref o] G (fun r G1 => (∃ v : Int32, r = some (.int v)) ∧ ∃ (σ1 : XS) (nv1 : Int64) (sv1 : Value), atX aC ad G1 σ1 ∧ xfr NC σ σ1 ∧ G1 o = some (600, yOut nv1 sv1) ∧ yTg fL G G1) (fun _ _ => False) := by
  refine yMW.of K_L_drawn rfl (by decide) (Nat.le_of_ble_eq_true rfl) ?_
  refine y_blk 4 tq_L_drawn (z := (4, [(0, .ref (ad 1)), (1, .int p0), (2, .int p1), (3, .ref o)], [.int p1, .int p0, .ref (ad 1), .ref o])) rfl ?_
  refine y_callVC hS tq_L_drawn rfl rfl (As := [.int p0, .int p1]) rfl cv_L_118 (hX.1 1 _ rfl) (n_X8_drawn hS hX p0 p1) rfl (by decide) (Nat.le_of_ble_eq_true rfl) (fun r G1 q => ?_) (fun E G1 q => ?_)
  · obtain ⟨⟨v, rfl⟩, σ1, hX1, hk1, hn1⟩ := q
    have hO1 : G1 o = some (600, yOut nv sv) := hk1 _ _ _ hO (Or.inr (by decide))
    refine y_blk 0 tq_L_drawn (z := (7, [(0, .ref (ad 1)), (1, .int p0), (2, .int p1), (3, .ref o)], [.ref v, .ref o])) rfl ?_
    refine y_putN hS tq_L_drawn rfl fpn_L_122_X9 hO1 (by decide) rfl rfl (Nat.le_of_ble_eq_true rfl) ?_
    refine y_blk 2 tq_L_drawn (z := (22, [(0, .ref (ad 1)), (1, .int p0), (2, .int p1), (3, .ref o)], [.int 0])) rfl ?_
    exact y_iret tq_L_drawn rfl rfl ⟨⟨_, rfl⟩, σ1, _, _, hX1.kp (f := fun t => t ≠ 600) (yTg.up hO1 (fun q9 => q9 rfl)) (fun t _ h9 => by omega), hn1, yup_s _ _ _, hk1.tg.trans (yTg.up hO1 (by decide))⟩
  · obtain ⟨hE, σ1, hX1, hk1, hn1⟩ := q
    have hO1 : G1 o = some (600, yOut nv sv) := hk1 _ _ _ hO (Or.inr (by decide))
    rcases hE with rfl | rfl
    · skip
      refine ⟨13, ⟨[], [(0, 10, 17, 19)], (0, 10, 13, 25), rfl, rfl, (show (0 : Nat) ≤ 4 by decide), (show (4 : Nat) < 10 by decide), yExB, (fun z hz => nomatch hz)⟩, fun q9 => ?_⟩
      refine y_blk 2 tq_L_drawn (z := (16, [(4, .ref q9), (0, .ref (ad 1)), (1, .int p0), (2, .int p1), (3, .ref o)], [.int 1])) rfl ?_
      exact y_iret tq_L_drawn rfl rfl ⟨⟨_, rfl⟩, σ1, _, _, hX1, hn1, hO1, hk1.tg⟩
    · skip
      refine ⟨17, ⟨[(0, 10, 13, 25)], [], (0, 10, 17, 19), rfl, rfl, (show (0 : Nat) ≤ 4 by decide), (show (4 : Nat) < 10 by decide), yExA, (fun z hz => by rw [List.mem_singleton.mp hz]; exact ⟨"java/lang/IndexOutOfBoundsException", yExB, by decide⟩)⟩, fun q9 => ?_⟩
      refine y_blk 2 tq_L_drawn (z := (20, [(4, .ref q9), (0, .ref (ad 1)), (1, .int p0), (2, .int p1), (3, .ref o)], [.int 2])) rfl ?_
      exact y_iret tq_L_drawn rfl rfl ⟨⟨_, rfl⟩, σ1, _, _, hX1, hn1, hO1, hk1.tg⟩
