/-! ===== what is asked of the reference, told whole ===== -/
theorem lt239 {i : Int32} : ((239 : Int32) < i) ↔ ((240 : Int32) ≤ i) := by
  rw [ylt, yle, yl_239, yl_240]
  omega
theorem n239 {i : Int32} (c : ¬ (239 : Int32) < i) : ¬ (240 : Int32) ≤ i := fun q => c (lt239.mpr q)
def roncF (ρ : RS) (cell m : Int32) : Int32 → Int32 → Int32 := fun p a => a ||| (if rpl ρ (Int32.toNatClampNeg p) m = cell then 1 <<< (p &&& 31) else 0)
def ronc (ρ : RS) (cell m : Int32) : Int32 := itI (roncF ρ cell m) 0 (Int32.ofNat (rZ ρ 212)).toInt.toNat
abbrev remQ (ρ : RS) (post : Nat) (m : Int32) : Prop := ronc ρ (rV ρ 213 post) m = 0
def remC (ρ : RS) (post : Nat) : Int32 → Int32 → Int32 := fun m a => if remQ ρ post m then a + 1 else a
def remN (ρ : RS) (post : Nat) (f : Int32) : Int32 := if f = 0 then itI (remC ρ post) 0 (240 : Int32).toInt.toNat else itI (ffF (remQ ρ post)) (-1) (240 : Int32).toInt.toNat
def rthF (ρ : RS) (cell m : Int32) : Int32 → Int32 → Int32 := fun p a => a + (if rwh ρ (Int32.toNatClampNeg p) (Int32.toNatClampNeg m) = cell then 1 else 0)
def rthN (ρ : RS) (cell m : Int32) : Int32 := itI (rthF ρ cell m) 0 (Int32.ofNat (rZ ρ 215)).toInt.toNat
def rnoi (ρ : RS) (w : Nat) (m : Int32) : Int32 := (29 * m + 7 * rV ρ (340 + w) 0) - (29 * m + 7 * rV ρ (340 + w) 0) / 11 * 11
abbrev rrgQ (ρ : RS) (w : Nat) (m : Int32) : Prop := rV ρ (340 + w) 1 ≤ rnoi ρ w m + 5 * rthN ρ (rV ρ (340 + w) 0) m
abbrev rtwQ (ρ : RS) (w : Nat) (m : Int32) : Prop := 0 < rthN ρ (rV ρ (340 + w) 0) m
def rrgF (ρ : RS) (w : Nat) : Int32 → Int32 → Int32 := fun m a => if rrgQ ρ w m then a + 1 else a
def rrfF (ρ : RS) (w : Nat) : Int32 → Int32 → Int32 := fun m a => if rrgQ ρ w m then a + (if rthN ρ (rV ρ (340 + w) 0) m = 0 then 1 else 0) else a
def rrtF (ρ : RS) (w : Nat) : Int32 → Int32 → Int32 := fun m a => if rrgQ ρ w m then (if rtwQ ρ w m then (if a = -1 then m else a) else a) else a
def rwnN (ρ : RS) (w : Nat) (what : Int32) : Int32 := if what < 2 then rV ρ (340 + w) (Int32.toNatClampNeg what) else if what = 2 then itI (rrgF ρ w) 0 (240 : Int32).toInt.toNat else if what = 3 then itI (rrfF ρ w) 0 (240 : Int32).toInt.toNat else itI (rrtF ρ w) (-1) (240 : Int32).toInt.toNat
abbrev roEmpty (post isFirst : Int32) (r : Option Value) (ρ ρ1 : RS) : Prop := ((0 ≤ post ∧ post ≤ Int32.ofNat (rZ ρ 213) - 1) ∧ r = some (.int (remN (rin ρ 0 0) (Int32.toNatClampNeg post) isFirst)) ∧ rI ρ1 0 = 0 ∧ rSm ρ ρ1) ∨ roNo (¬ (0 ≤ post ∧ post ≤ Int32.ofNat (rZ ρ 213) - 1)) 1 ρ ρ1
abbrev roOfWire (wire what : Int32) (r : Option Value) (ρ ρ1 : RS) : Prop := (((0 ≤ wire ∧ wire ≤ Int32.ofNat (rZ ρ 216) - 1) ∧ (0 ≤ what ∧ what ≤ 4)) ∧ r = some (.int (rwnN (rin ρ 0 0) (Int32.toNatClampNeg wire) what)) ∧ rI ρ1 0 = 0 ∧ rSm ρ ρ1) ∨ roNo (¬ (0 ≤ wire ∧ wire ≤ Int32.ofNat (rZ ρ 216) - 1)) 1 ρ ρ1 ∨ roNo ((0 ≤ wire ∧ wire ≤ Int32.ofNat (rZ ρ 216) - 1) ∧ ¬ (0 ≤ what ∧ what ≤ 4)) 2 ρ ρ1
section YWN
variable {ρ : RS} {w : Nat} {m a : Int32}
theorem rrg_y (h : rrgQ ρ w m) : a + 1 = rrgF ρ w m a := (if_pos h).symm
theorem rrg_n (h : ¬ rrgQ ρ w m) : a = rrgF ρ w m a := (if_neg h).symm
theorem rrf_0 (h : rrgQ ρ w m) (z : rthN ρ (rV ρ (340 + w) 0) m = 0) : a + 1 = rrfF ρ w m a := by
  unfold rrfF
  rw [if_pos h, if_pos z]
theorem rrf_1 (h : rrgQ ρ w m) (z : ¬ rthN ρ (rV ρ (340 + w) 0) m = 0) : a + 0 = rrfF ρ w m a := by
  unfold rrfF
  rw [if_pos h, if_neg z]
theorem rrf_n (h : ¬ rrgQ ρ w m) : a = rrfF ρ w m a := (if_neg h).symm
theorem rrt_m (h : rrgQ ρ w m) (z : ¬ rthN ρ (rV ρ (340 + w) 0) m ≤ 0) (t : a = -1) : m = rrtF ρ w m a := by
  unfold rrtF
  rw [if_pos h, if_pos (Int32.not_le.mp z), if_pos t]
theorem rrt_a (h : rrgQ ρ w m) (z : ¬ rthN ρ (rV ρ (340 + w) 0) m ≤ 0) (t : ¬ a = -1) : a = rrtF ρ w m a := by
  unfold rrtF
  rw [if_pos h, if_pos (Int32.not_le.mp z), if_neg t]
theorem rrt_0 (h : rrgQ ρ w m) (z : rthN ρ (rV ρ (340 + w) 0) m ≤ 0) : a = rrtF ρ w m a := by
  unfold rrtF
  rw [if_pos h, if_neg (Int32.not_lt.mpr z)]
theorem rrt_n (h : ¬ rrgQ ρ w m) : a = rrtF ρ w m a := (if_neg h).symm
end YWN
set_option maxHeartbeats 4000000 in
set_option maxRecDepth 100000 in
theorem m_X12_onCell_v {l : Launch} {S0 : State} {A0 : Array Value} {D : va_G} {aC : Nat → ClassId} {ic : Int32 → Nat} {de : Nat} {ad : Nat → Nat} {G : AH} {ρ : RS} (hS : yS l S0 A0 D aC) (hI : yIc S0 ic de) (hX : atR aC ic de ad G ρ) (cell : Int32) (minute : Int32) : yM l S0 D yX12_onCell cX12_onCell 5 (some .int) 19 0 0 [.ref (ad 200), .int cell, .int minute] G (fun r G1 => r = some (.int (ronc ρ cell minute)) ∧ G1 = G) (fun _ _ => False) := by
  refine yM.ofK K_X12_onCell rfl (by decide) (Nat.le_of_ble_eq_true rfl) ?_
  have hn212 := hX.2.le10 212 (by decide)
  have J5 : ∀ (n5 : Nat) (v5_3 : Int32) (v5_4 : Int32) (h0_5 : 0 ≤ v5_4.toInt) (hh5 : 0 ≤ v5_4.toInt ∧ v5_4.toInt ≤ (Int32.ofNat (rZ ρ 212) : Int32).toInt) (ea5 : v5_3 = itI (roncF ρ cell minute) 0 v5_4.toInt.toNat), (((Int32.ofNat (rZ ρ 212)) : Int32).toInt - v5_4.toInt).toNat = n5 → Y l S0 D K_X12_onCell 19 0 0 (fun r G1 => r = some (.int (ronc ρ cell minute)) ∧ G1 = G) (fun _ _ => False) 5 [(0, .ref (ad 200)), (1, .int cell), (2, .int minute), (3, .int v5_3), (4, .int v5_4)] [] G 0 0 := by
    intro n5
    induction n5 using Nat.strongRecOn with
    | _ n5 ih5 =>
    intro v5_3 v5_4 h0_5 hh5 ea5 hn5
    subst hn5
    refine y_blk 2 tq_X12_onCell (z := (8, [(0, .ref (ad 200)), (1, .int cell), (2, .int minute), (3, .int v5_3), (4, .int v5_4)], [.ref (ad 200), .int v5_4])) rfl ?_
    refine y_get hS tq_X12_onCell (v := .ref (ad 212)) rfl fg_X12_27_X12 hX.m rfl ?_
    refine y_blk 0 tq_X12_onCell (z := (11, [(0, .ref (ad 200)), (1, .int cell), (2, .int minute), (3, .int v5_3), (4, .int v5_4)], [.ref (ad 212), .int v5_4])) rfl ?_
    refine y_callF hS tq_X12_onCell rfl (As := []) rfl cf_X12_58 (Or.inl ⟨_, (hX.ls 212 (by decide)).1⟩) (m_Jsize hS (hX.ls 212 (by decide))) rfl (by decide) (Nat.le_of_ble_eq_true rfl) (fun r11 Gc11 q11 => ?_) (fun _ _ h9 => h9.elim)
    obtain ⟨rfl, eG11⟩ := q11
    have eG11 := eG11.symm
    subst eG11
    refine y_blk 0 tq_X12_onCell (z := (16, [(0, .ref (ad 200)), (1, .int cell), (2, .int minute), (3, .int v5_3), (4, .int v5_4)], [.int (Int32.ofNat (rZ ρ 212)), .int v5_4])) rfl ?_
    refine y_icmp_ge tq_X12_onCell 58 rfl rfl (fun c16 => ?_) (fun c16 => ?_)
    · skip
      refine y_blk 1 tq_X12_onCell (z := (59, [(0, .ref (ad 200)), (1, .int cell), (2, .int minute), (3, .int v5_3), (4, .int v5_4)], [.int v5_3])) rfl ?_
      exact y_iret tq_X12_onCell rfl rfl (⟨congrArg (fun z => some (Value.int z)) (itI_e ea5 hh5 c16), rfl⟩)
    · skip
      have hn16 := hX.2.le10 212 (by decide)
      have b16 : v5_4.toInt < rZ ρ 212 := yIy (by omega) h0_5 c16
      have d16 : Int32.toNatClampNeg v5_4 < rZ ρ 212 := yIx h0_5 b16
      refine y_blk 2 tq_X12_onCell (z := (21, [(0, .ref (ad 200)), (1, .int cell), (2, .int minute), (3, .int v5_3), (4, .int v5_4)], [.ref (ad 200), .int v5_3])) rfl ?_
      refine y_get hS tq_X12_onCell (v := .ref (ad 212)) rfl fg_X12_27_X12 hX.m rfl ?_
      refine y_blk 1 tq_X12_onCell (z := (26, [(0, .ref (ad 200)), (1, .int cell), (2, .int minute), (3, .int v5_3), (4, .int v5_4)], [.int v5_4, .ref (ad 212), .int v5_3])) rfl ?_
      refine y_callF hS tq_X12_onCell rfl (As := [.int v5_4]) rfl cf_X12_80 (Or.inl ⟨_, (hX.ls 212 (by decide)).1⟩) (m_Rgu hS hX (by assumption) (by assumption)) rfl (by decide) (Nat.le_of_ble_eq_true rfl) (fun r26 Gc26 q26 => ?_) (fun _ _ h9 => h9.elim)
      obtain ⟨rfl, eG26⟩ := q26
      have eG26 := eG26.symm
      subst eG26
      have d26 : (Int32.toNatClampNeg v5_4) < rZ ρ 212 := yIx (by assumption) (by assumption)
      refine y_blk 0 tq_X12_onCell (z := (31, [(0, .ref (ad 200)), (1, .int cell), (2, .int minute), (3, .int v5_3), (4, .int v5_4)], [.ref (ad (360 + (Int32.toNatClampNeg v5_4))), .int v5_3])) rfl ?_
      refine y_castG hS tq_X12_onCell rfl kc_X12_84 (Or.inl ⟨_, (hX.gu (by assumption))⟩) ?_
      refine y_blk 1 tq_X12_onCell (z := (35, [(0, .ref (ad 200)), (1, .int cell), (2, .int minute), (3, .int v5_3), (4, .int v5_4)], [.int minute, .ref (ad (360 + (Int32.toNatClampNeg v5_4))), .int v5_3])) rfl ?_
      refine y_callV hS tq_X12_onCell rfl (As := [.int minute]) rfl cv_X12_124 (hX.gu (by assumption)) (m_X10_place hS hI hX (k := (Int32.toNatClampNeg v5_4)) (by assumption) minute) rfl (by decide) (Nat.le_of_ble_eq_true rfl) (fun r35 Gc35 q35 => ?_) (fun E9 G9 h9 => h9.elim)
      obtain ⟨⟨x35, hr_x35, rfl⟩, eG35⟩ := q35
      have eG35 := eG35.symm
      subst eG35
      refine y_blk 1 tq_X12_onCell (z := (39, [(0, .ref (ad 200)), (1, .int cell), (2, .int minute), (3, .int v5_3), (4, .int v5_4)], [.int cell, .int x35, .int v5_3])) rfl ?_
      refine y_icmp_ne tq_X12_onCell 49 rfl rfl (fun c39 => ?_) (fun c39 => ?_)
      · skip
        refine y_blk 5 tq_X12_onCell (z := (5, [(4, .int (v5_4 + 1)), (3, .int (v5_3 ||| 0)), (0, .ref (ad 200)), (1, .int cell), (2, .int minute)], [])) rfl ?_
        refine y_pick (L2 := [(0, .ref (ad 200)), (1, .int cell), (2, .int minute), (3, .int (v5_3 ||| 0)), (4, .int (v5_4 + 1))]) [2, 3, 4, 1, 0] rfl ?_
        exact ih5 _ (by exact ydec c16) (v5_3 ||| 0) (v5_4 + 1) (by first | decide | assumption | exact Int.le_refl _ | exact yposgeL (by assumption) c16) (by first | exact xcn_step hh5 c16 | exact xcn_init (by first | decide | (rw [yofn (by omega)]; omega))) (by first | exact itI_s ea5 hh5 c16 (by unfold roncF; rw [← hr_x35.2]; (repeat' split) <;> first | contradiction | with_reducible rfl) | with_reducible exact itI_0) rfl
      · skip
        refine y_blk 8 tq_X12_onCell (z := (5, [(4, .int (v5_4 + 1)), (3, .int (v5_3 ||| (1 <<< (v5_4 &&& 31)))), (0, .ref (ad 200)), (1, .int cell), (2, .int minute)], [])) rfl ?_
        refine y_pick (L2 := [(0, .ref (ad 200)), (1, .int cell), (2, .int minute), (3, .int (v5_3 ||| (1 <<< (v5_4 &&& 31)))), (4, .int (v5_4 + 1))]) [2, 3, 4, 1, 0] rfl ?_
        exact ih5 _ (by exact ydec c16) (v5_3 ||| (1 <<< (v5_4 &&& 31))) (v5_4 + 1) (by first | decide | assumption | exact Int.le_refl _ | exact yposgeL (by assumption) c16) (by first | exact xcn_step hh5 c16 | exact xcn_init (by first | decide | (rw [yofn (by omega)]; omega))) (by first | exact itI_s ea5 hh5 c16 (by unfold roncF; rw [← hr_x35.2]; (repeat' split) <;> first | contradiction | with_reducible rfl) | with_reducible exact itI_0) rfl
  refine y_blk 4 tq_X12_onCell (z := (5, [(4, .int 0), (3, .int 0), (0, .ref (ad 200)), (1, .int cell), (2, .int minute)], [])) rfl ?_
  refine y_pick (L2 := [(0, .ref (ad 200)), (1, .int cell), (2, .int minute), (3, .int 0), (4, .int 0)]) [2, 3, 4, 1, 0] rfl ?_
  exact J5 _ 0 0 (by first | decide | assumption | exact Int.le_refl _ | exact yposgeL (by assumption) c16) (by first | exact xcn_step hh5 c16 | exact xcn_init (by first | decide | (rw [yofn (by omega)]; omega))) (by first | exact itI_s ea5 hh5 c16 (by unfold roncF; rw [← hr_x35.2]; (repeat' split) <;> first | contradiction | with_reducible rfl) | with_reducible exact itI_0) rfl
set_option maxHeartbeats 4000000 in
set_option maxRecDepth 100000 in
theorem m_X12_isEmpty_v {l : Launch} {S0 : State} {A0 : Array Value} {D : va_G} {aC : Nat → ClassId} {ic : Int32 → Nat} {de : Nat} {ad : Nat → Nat} {G : AH} {ρ : RS} (hS : yS l S0 A0 D aC) (hI : yIc S0 ic de) (hX : atR aC ic de ad G ρ) (post : Int32) (minute : Int32) (hp0 : 0 ≤ post.toInt) (hp1 : post.toInt < rZ ρ 213) : yM l S0 D yX12_isEmpty cX12_isEmpty 3 (some .boolean) 20 0 0 [.ref (ad 200), .int post, .int minute] G (fun r G1 => r = some (.int (if remQ ρ (Int32.toNatClampNeg post) minute then 1 else 0)) ∧ G1 = G) (fun _ _ => False) := by
  refine yM.ofK K_X12_isEmpty rfl (by decide) (Nat.le_of_ble_eq_true rfl) ?_
  refine y_blk 2 tq_X12_isEmpty (z := (2, [(0, .ref (ad 200)), (1, .int post), (2, .int minute)], [.ref (ad 200), .ref (ad 200)])) rfl ?_
  refine y_get hS tq_X12_isEmpty (v := .ref (ad 213)) rfl fg_X12_30_X12 hX.m rfl ?_
  refine y_blk 1 tq_X12_isEmpty (z := (6, [(0, .ref (ad 200)), (1, .int post), (2, .int minute)], [.int post, .ref (ad 213), .ref (ad 200)])) rfl ?_
  refine y_callF hS tq_X12_isEmpty rfl (As := [.int post]) rfl cf_X12_80 (Or.inl ⟨_, (hX.ls 213 (by decide)).1⟩) (m_Rpo hS hX (by assumption) (by assumption)) rfl (by decide) (Nat.le_of_ble_eq_true rfl) (fun r6 Gc6 q6 => ?_) (fun _ _ h9 => h9.elim)
  obtain ⟨rfl, eG6⟩ := q6
  have eG6 := eG6.symm
  subst eG6
  have d6 : (Int32.toNatClampNeg post) < rZ ρ 213 := yIx (by assumption) (by assumption)
  refine y_blk 0 tq_X12_isEmpty (z := (11, [(0, .ref (ad 200)), (1, .int post), (2, .int minute)], [.ref (ic (rV ρ 213 (Int32.toNatClampNeg post))), .ref (ad 200)])) rfl ?_
  refine y_castI hS tq_X12_isEmpty rfl kc_X12_108 (hX.po hI (by assumption)) ?_
  refine y_blk 0 tq_X12_isEmpty (z := (14, [(0, .ref (ad 200)), (1, .int post), (2, .int minute)], [.ref (ic (rV ρ 213 (Int32.toNatClampNeg post))), .ref (ad 200)])) rfl ?_
  refine y_callVO hS tq_X12_isEmpty rfl (As := []) rfl cv_X12_146 (yIntO (hX.po hI (by assumption))) (m_JintValue hS (hX.po hI (by assumption))) rfl (by decide) (Nat.le_of_ble_eq_true rfl) (fun r14 Gc14 q14 => ?_) (fun _ _ h9 => h9.elim)
  obtain ⟨rfl, eG14⟩ := q14
  have eG14 := eG14.symm
  subst eG14
  refine y_blk 1 tq_X12_isEmpty (z := (18, [(0, .ref (ad 200)), (1, .int post), (2, .int minute)], [.int minute, .int (rV ρ 213 (Int32.toNatClampNeg post)), .ref (ad 200)])) rfl ?_
  refine y_callV hS tq_X12_isEmpty rfl (As := [.int (rV ρ 213 (Int32.toNatClampNeg post)), .int minute]) rfl cv_X12_189 hX.m (m_X12_onCell_v hS hI hX (rV ρ 213 (Int32.toNatClampNeg post)) minute) rfl (by decide) (Nat.le_of_ble_eq_true rfl) (fun r18 Gc18 q18 => ?_) (fun E9 G9 h9 => h9.elim)
  obtain ⟨rfl, eG18⟩ := q18
  have eG18 := eG18.symm
  subst eG18
  refine y_blk 0 tq_X12_isEmpty (z := (21, [(0, .ref (ad 200)), (1, .int post), (2, .int minute)], [.int (ronc ρ (rV ρ 213 (Int32.toNatClampNeg post)) minute)])) rfl ?_
  refine y_if_ne tq_X12_isEmpty 28 rfl rfl (fun c21 => ?_) (fun c21 => ?_)
  · skip
    refine y_blk 1 tq_X12_isEmpty (z := (29, [(0, .ref (ad 200)), (1, .int post), (2, .int minute)], [.int 0])) rfl ?_
    exact y_zret tq_X12_isEmpty rfl rfl (rfl) (⟨congrArg (fun z => some (Value.int z)) (by first | exact (if_neg c21).symm | exact (if_pos c21).symm), rfl⟩)
  · skip
    refine y_blk 2 tq_X12_isEmpty (z := (29, [(0, .ref (ad 200)), (1, .int post), (2, .int minute)], [.int 1])) rfl ?_
    exact y_zret tq_X12_isEmpty rfl rfl (rfl) (⟨congrArg (fun z => some (Value.int z)) (by first | exact (if_neg c21).symm | exact (if_pos c21).symm), rfl⟩)
set_option maxHeartbeats 4000000 in
set_option maxRecDepth 100000 in
theorem m_X12_emptyNow_v {l : Launch} {S0 : State} {A0 : Array Value} {D : va_G} {aC : Nat → ClassId} {ic : Int32 → Nat} {de : Nat} {ad : Nat → Nat} {G : AH} {ρ : RS} (hS : yS l S0 A0 D aC) (hI : yIc S0 ic de) (hX : atR aC ic de ad G ρ) (post : Int32) (isFirst : Int32) (hp0 : 0 ≤ post.toInt) (hp1 : post.toInt < rZ ρ 213) : yM l S0 D yX12_emptyNow cX12_emptyNow 5 (some .int) 21 0 0 [.ref (ad 200), .int post, .int isFirst] G (fun r G1 => r = some (.int (remN ρ (Int32.toNatClampNeg post) isFirst)) ∧ G1 = G) (fun _ _ => False) := by
  refine yM.ofK K_X12_emptyNow rfl (by decide) (Nat.le_of_ble_eq_true rfl) ?_
  have J5 : ∀ (n5 : Nat) (v5_3 : Int32) (v5_4 : Int32) (h0_5 : 0 ≤ v5_4.toInt) (hh5 : 0 ≤ v5_4.toInt ∧ v5_4.toInt ≤ (240 : Int32).toInt) (eb5 : isFirst = 0 → v5_3 = itI (remC ρ (Int32.toNatClampNeg post)) 0 v5_4.toInt.toNat) (en5 : ¬ isFirst = 0 → ∀ j : Nat, j < v5_4.toInt.toNat → ¬ remQ ρ (Int32.toNatClampNeg post) (Int32.ofNat j)), ((239 : Int32).toInt + 1 - v5_4.toInt).toNat = n5 → Y l S0 D K_X12_emptyNow 21 0 0 (fun r G1 => r = some (.int (remN ρ (Int32.toNatClampNeg post) isFirst)) ∧ G1 = G) (fun _ _ => False) 5 [(0, .ref (ad 200)), (1, .int post), (2, .int isFirst), (3, .int v5_3), (4, .int v5_4)] [] G 0 0 := by
    intro n5
    induction n5 using Nat.strongRecOn with
    | _ n5 ih5 =>
    intro v5_3 v5_4 h0_5 hh5 eb5 en5 hn5
    subst hn5
    refine y_blk 2 tq_X12_emptyNow (z := (10, [(0, .ref (ad 200)), (1, .int post), (2, .int isFirst), (3, .int v5_3), (4, .int v5_4)], [.int 239, .int v5_4])) rfl ?_
    refine y_icmp_gt tq_X12_emptyNow 42 rfl rfl (fun c10 => ?_) (fun c10 => ?_)
    · skip
      refine y_blk 1 tq_X12_emptyNow (z := (43, [(0, .ref (ad 200)), (1, .int post), (2, .int isFirst), (3, .int v5_3), (4, .int v5_4)], [.int isFirst])) rfl ?_
      refine y_if_eq tq_X12_emptyNow 50 rfl rfl (fun c43 => ?_) (fun c43 => ?_)
      · skip
        refine y_blk 1 tq_X12_emptyNow (z := (51, [(0, .ref (ad 200)), (1, .int post), (2, .int isFirst), (3, .int v5_3), (4, .int v5_4)], [.int v5_3])) rfl ?_
        exact y_iret tq_X12_emptyNow rfl rfl (⟨congrArg (fun z => some (Value.int z)) (by unfold remN; first | (rw [if_pos (by assumption)]; exact itI_e (eb5 (by assumption)) hh5 (lt239.mp c10)) | (rw [if_neg (by assumption)]; exact itf_end (P := remQ ρ (Int32.toNatClampNeg post)) (en5 (by assumption)) hh5 (lt239.mp c10)) | (rw [if_neg (by assumption)]; exact itf_at (P := remQ ρ (Int32.toNatClampNeg post)) (en5 (by assumption)) hh5 (n239 c10) (by decide) (by simp only [yif0', Classical.not_not] at *; assumption))), rfl⟩)
      · skip
        refine y_blk 2 tq_X12_emptyNow (z := (51, [(0, .ref (ad 200)), (1, .int post), (2, .int isFirst), (3, .int v5_3), (4, .int v5_4)], [.int (-1)])) rfl ?_
        exact y_iret tq_X12_emptyNow rfl rfl (⟨congrArg (fun z => some (Value.int z)) (by unfold remN; first | (rw [if_pos (by assumption)]; exact itI_e (eb5 (by assumption)) hh5 (lt239.mp c10)) | (rw [if_neg (by assumption)]; exact itf_end (P := remQ ρ (Int32.toNatClampNeg post)) (en5 (by assumption)) hh5 (lt239.mp c10)) | (rw [if_neg (by assumption)]; exact itf_at (P := remQ ρ (Int32.toNatClampNeg post)) (en5 (by assumption)) hh5 (n239 c10) (by decide) (by simp only [yif0', Classical.not_not] at *; assumption))), rfl⟩)
    · skip
      have b10 : v5_4.toInt ≤ 239 := by rw [ylt] at c10; have z9 : (239 : Int32).toInt = 239 := (by decide); omega
      refine y_blk 3 tq_X12_emptyNow (z := (17, [(0, .ref (ad 200)), (1, .int post), (2, .int isFirst), (3, .int v5_3), (4, .int v5_4)], [.int v5_4, .int post, .ref (ad 200)])) rfl ?_
      refine y_callV hS tq_X12_emptyNow rfl (As := [.int post, .int v5_4]) rfl cv_X12_202 hX.m (m_X12_isEmpty_v hS hI hX post v5_4 (by assumption) (by assumption)) rfl (by decide) (Nat.le_of_ble_eq_true rfl) (fun r17 Gc17 q17 => ?_) (fun E9 G9 h9 => h9.elim)
      obtain ⟨rfl, eG17⟩ := q17
      have eG17 := eG17.symm
      subst eG17
      refine y_blk 0 tq_X12_emptyNow (z := (20, [(0, .ref (ad 200)), (1, .int post), (2, .int isFirst), (3, .int v5_3), (4, .int v5_4)], [.int (if remQ ρ (Int32.toNatClampNeg post) v5_4 then 1 else 0)])) rfl ?_
      refine y_if_ne tq_X12_emptyNow 26 rfl rfl (fun c20 => ?_) (fun c20 => ?_)
      · skip
        refine y_blk 1 tq_X12_emptyNow (z := (27, [(0, .ref (ad 200)), (1, .int post), (2, .int isFirst), (3, .int v5_3), (4, .int v5_4)], [.int isFirst])) rfl ?_
        refine y_if_eq tq_X12_emptyNow 33 rfl rfl (fun c27 => ?_) (fun c27 => ?_)
        · skip
          refine y_blk 3 tq_X12_emptyNow (z := (5, [(4, .int (v5_4 + 1)), (3, .int (v5_3 + 1)), (0, .ref (ad 200)), (1, .int post), (2, .int isFirst)], [])) rfl ?_
          refine y_pick (L2 := [(0, .ref (ad 200)), (1, .int post), (2, .int isFirst), (3, .int (v5_3 + 1)), (4, .int (v5_4 + 1))]) [2, 3, 4, 1, 0] rfl ?_
          exact ih5 _ (by exact ydec2 c10 (by decide)) (v5_3 + 1) (v5_4 + 1) (by first | decide | assumption | exact Int.le_refl _ | exact yposgtL (by assumption) c10 (by decide)) (by first | exact xcn_step hh5 (n239 c10) | exact xcn_init (by first | decide | (rw [yofn (by omega)]; omega))) (by first | exact fun q => itI_s (eb5 q) hh5 (n239 c10) (by unfold remC; simp only [yif0', Classical.not_not] at *; (repeat' split) <;> first | contradiction | with_reducible rfl) | exact fun _ => itI_0) (by first | exact fun q => itf_s (P := remQ ρ (Int32.toNatClampNeg post)) (en5 q) hh5 (n239 c10) (by simp only [yif0', Classical.not_not] at *; first | assumption | contradiction) | exact fun _ => itf_0) rfl
        · skip
          refine y_blk 1 tq_X12_emptyNow (z := (32, [(0, .ref (ad 200)), (1, .int post), (2, .int isFirst), (3, .int v5_3), (4, .int v5_4)], [.int v5_4])) rfl ?_
          exact y_iret tq_X12_emptyNow rfl rfl (⟨congrArg (fun z => some (Value.int z)) (by unfold remN; first | (rw [if_pos (by assumption)]; exact itI_e (eb5 (by assumption)) hh5 (lt239.mp c10)) | (rw [if_neg (by assumption)]; exact itf_end (P := remQ ρ (Int32.toNatClampNeg post)) (en5 (by assumption)) hh5 (lt239.mp c10)) | (rw [if_neg (by assumption)]; exact itf_at (P := remQ ρ (Int32.toNatClampNeg post)) (en5 (by assumption)) hh5 (n239 c10) (by decide) (by simp only [yif0', Classical.not_not] at *; assumption))), rfl⟩)
      · skip
        refine y_blk 3 tq_X12_emptyNow (z := (5, [(4, .int (v5_4 + 1)), (0, .ref (ad 200)), (1, .int post), (2, .int isFirst), (3, .int v5_3)], [])) rfl ?_
        refine y_pick (L2 := [(0, .ref (ad 200)), (1, .int post), (2, .int isFirst), (3, .int v5_3), (4, .int (v5_4 + 1))]) [1, 2, 3, 4, 0] rfl ?_
        exact ih5 _ (by exact ydec2 c10 (by decide)) v5_3 (v5_4 + 1) (by first | decide | assumption | exact Int.le_refl _ | exact yposgtL (by assumption) c10 (by decide)) (by first | exact xcn_step hh5 (n239 c10) | exact xcn_init (by first | decide | (rw [yofn (by omega)]; omega))) (by first | exact fun q => itI_s (eb5 q) hh5 (n239 c10) (by unfold remC; simp only [yif0', Classical.not_not] at *; (repeat' split) <;> first | contradiction | with_reducible rfl) | exact fun _ => itI_0) (by first | exact fun q => itf_s (P := remQ ρ (Int32.toNatClampNeg post)) (en5 q) hh5 (n239 c10) (by simp only [yif0', Classical.not_not] at *; first | assumption | contradiction) | exact fun _ => itf_0) rfl
  refine y_blk 4 tq_X12_emptyNow (z := (5, [(4, .int 0), (3, .int 0), (0, .ref (ad 200)), (1, .int post), (2, .int isFirst)], [])) rfl ?_
  refine y_pick (L2 := [(0, .ref (ad 200)), (1, .int post), (2, .int isFirst), (3, .int 0), (4, .int 0)]) [2, 3, 4, 1, 0] rfl ?_
  exact J5 _ 0 0 (by first | decide | assumption | exact Int.le_refl _ | exact yposgtL (by assumption) c10 (by decide)) (by first | exact xcn_step hh5 (n239 c10) | exact xcn_init (by first | decide | (rw [yofn (by omega)]; omega))) (by first | exact fun q => itI_s (eb5 q) hh5 (n239 c10) (by unfold remC; simp only [yif0', Classical.not_not] at *; (repeat' split) <;> first | contradiction | with_reducible rfl) | exact fun _ => itI_0) (by first | exact fun q => itf_s (P := remQ ρ (Int32.toNatClampNeg post)) (en5 q) hh5 (n239 c10) (by simp only [yif0', Classical.not_not] at *; first | assumption | contradiction) | exact fun _ => itf_0) rfl
set_option maxHeartbeats 4000000 in
set_option maxRecDepth 100000 in
theorem m_X12_thereAt_v {l : Launch} {S0 : State} {A0 : Array Value} {D : va_G} {aC : Nat → ClassId} {ic : Int32 → Nat} {de : Nat} {ad : Nat → Nat} {G : AH} {ρ : RS} (hS : yS l S0 A0 D aC) (hI : yIc S0 ic de) (hX : atR aC ic de ad G ρ) (cell : Int32) (minute : Int32) (hm : minute.toInt < 240) (hm0 : 0 ≤ minute.toInt) : yM l S0 D yX12_thereAt cX12_thereAt 5 (some .int) 17 0 0 [.ref (ad 200), .int cell, .int minute] G (fun r G1 => r = some (.int (rthN ρ cell minute)) ∧ G1 = G) (fun _ _ => False) := by
  refine yM.ofK K_X12_thereAt rfl (by decide) (Nat.le_of_ble_eq_true rfl) ?_
  have hn215 := hX.2.le10 215 (by decide)
  have J5 : ∀ (n5 : Nat) (v5_3 : Int32) (v5_4 : Int32) (h0_5 : 0 ≤ v5_4.toInt) (hh5 : 0 ≤ v5_4.toInt ∧ v5_4.toInt ≤ (Int32.ofNat (rZ ρ 215) : Int32).toInt) (ea5 : v5_3 = itI (rthF ρ cell minute) 0 v5_4.toInt.toNat), (((Int32.ofNat (rZ ρ 215)) : Int32).toInt - v5_4.toInt).toNat = n5 → Y l S0 D K_X12_thereAt 17 0 0 (fun r G1 => r = some (.int (rthN ρ cell minute)) ∧ G1 = G) (fun _ _ => False) 5 [(0, .ref (ad 200)), (1, .int cell), (2, .int minute), (3, .int v5_3), (4, .int v5_4)] [] G 0 0 := by
    intro n5
    induction n5 using Nat.strongRecOn with
    | _ n5 ih5 =>
    intro v5_3 v5_4 h0_5 hh5 ea5 hn5
    subst hn5
    refine y_blk 2 tq_X12_thereAt (z := (8, [(0, .ref (ad 200)), (1, .int cell), (2, .int minute), (3, .int v5_3), (4, .int v5_4)], [.ref (ad 200), .int v5_4])) rfl ?_
    refine y_get hS tq_X12_thereAt (v := .ref (ad 215)) rfl fg_X12_42_X12 hX.m rfl ?_
    refine y_blk 0 tq_X12_thereAt (z := (11, [(0, .ref (ad 200)), (1, .int cell), (2, .int minute), (3, .int v5_3), (4, .int v5_4)], [.ref (ad 215), .int v5_4])) rfl ?_
    refine y_callF hS tq_X12_thereAt rfl (As := []) rfl cf_X12_58 (Or.inl ⟨_, (hX.ls 215 (by decide)).1⟩) (m_Jsize hS (hX.ls 215 (by decide))) rfl (by decide) (Nat.le_of_ble_eq_true rfl) (fun r11 Gc11 q11 => ?_) (fun _ _ h9 => h9.elim)
    obtain ⟨rfl, eG11⟩ := q11
    have eG11 := eG11.symm
    subst eG11
    refine y_blk 0 tq_X12_thereAt (z := (16, [(0, .ref (ad 200)), (1, .int cell), (2, .int minute), (3, .int v5_3), (4, .int v5_4)], [.int (Int32.ofNat (rZ ρ 215)), .int v5_4])) rfl ?_
    refine y_icmp_ge tq_X12_thereAt 55 rfl rfl (fun c16 => ?_) (fun c16 => ?_)
    · skip
      refine y_blk 1 tq_X12_thereAt (z := (56, [(0, .ref (ad 200)), (1, .int cell), (2, .int minute), (3, .int v5_3), (4, .int v5_4)], [.int v5_3])) rfl ?_
      exact y_iret tq_X12_thereAt rfl rfl (⟨congrArg (fun z => some (Value.int z)) (itI_e ea5 hh5 c16), rfl⟩)
    · skip
      have hn16 := hX.2.le10 215 (by decide)
      have b16 : v5_4.toInt < rZ ρ 215 := yIy (by omega) h0_5 c16
      have d16 : Int32.toNatClampNeg v5_4 < rZ ρ 215 := yIx h0_5 b16
      refine y_blk 2 tq_X12_thereAt (z := (21, [(0, .ref (ad 200)), (1, .int cell), (2, .int minute), (3, .int v5_3), (4, .int v5_4)], [.ref (ad 200), .int v5_3])) rfl ?_
      refine y_get hS tq_X12_thereAt (v := .ref (ad 215)) rfl fg_X12_42_X12 hX.m rfl ?_
      refine y_blk 1 tq_X12_thereAt (z := (26, [(0, .ref (ad 200)), (1, .int cell), (2, .int minute), (3, .int v5_3), (4, .int v5_4)], [.int v5_4, .ref (ad 215), .int v5_3])) rfl ?_
      refine y_callF hS tq_X12_thereAt rfl (As := [.int v5_4]) rfl cf_X12_80 (Or.inl ⟨_, (hX.ls 215 (by decide)).1⟩) (m_Rin hS hX (by assumption) (by assumption)) rfl (by decide) (Nat.le_of_ble_eq_true rfl) (fun r26 Gc26 q26 => ?_) (fun _ _ h9 => h9.elim)
      obtain ⟨rfl, eG26⟩ := q26
      have eG26 := eG26.symm
      subst eG26
      have d26 : (Int32.toNatClampNeg v5_4) < rZ ρ 215 := yIx (by assumption) (by assumption)
      refine y_blk 0 tq_X12_thereAt (z := (31, [(0, .ref (ad 200)), (1, .int cell), (2, .int minute), (3, .int v5_3), (4, .int v5_4)], [.ref (ad (420 + (Int32.toNatClampNeg v5_4))), .int v5_3])) rfl ?_
      refine y_castG hS tq_X12_thereAt rfl kc_X12_152 (Or.inl ⟨_, (hX.in (by assumption))⟩) ?_
      refine y_blk 1 tq_X12_thereAt (z := (35, [(0, .ref (ad 200)), (1, .int cell), (2, .int minute), (3, .int v5_3), (4, .int v5_4)], [.int minute, .ref (ad (420 + (Int32.toNatClampNeg v5_4))), .int v5_3])) rfl ?_
      refine y_callV hS tq_X12_thereAt rfl (As := [.int minute]) rfl cv_X12_154 (hX.in (by assumption)) (m_X11_where hS hI hX (k := (Int32.toNatClampNeg v5_4)) (by assumption) minute (by omega)) rfl (by decide) (Nat.le_of_ble_eq_true rfl) (fun r35 Gc35 q35 => ?_) (fun E9 G9 h9 => h9.elim)
      obtain ⟨⟨x35, hr_x35, rfl⟩, eG35⟩ := q35
      have eG35 := eG35.symm
      subst eG35
      refine y_blk 1 tq_X12_thereAt (z := (39, [(0, .ref (ad 200)), (1, .int cell), (2, .int minute), (3, .int v5_3), (4, .int v5_4)], [.int cell, .int x35, .int v5_3])) rfl ?_
      refine y_icmp_ne tq_X12_thereAt 46 rfl rfl (fun c39 => ?_) (fun c39 => ?_)
      · skip
        refine y_blk 5 tq_X12_thereAt (z := (5, [(4, .int (v5_4 + 1)), (3, .int (v5_3 + 0)), (0, .ref (ad 200)), (1, .int cell), (2, .int minute)], [])) rfl ?_
        refine y_pick (L2 := [(0, .ref (ad 200)), (1, .int cell), (2, .int minute), (3, .int (v5_3 + 0)), (4, .int (v5_4 + 1))]) [2, 3, 4, 1, 0] rfl ?_
        exact ih5 _ (by exact ydec c16) (v5_3 + 0) (v5_4 + 1) (by first | decide | assumption | exact Int.le_refl _ | exact yposgeL (by assumption) c16) (by first | exact xcn_step hh5 c16 | exact xcn_init (by first | decide | (rw [yofn (by omega)]; omega))) (by first | exact itI_s ea5 hh5 c16 (by unfold rthF; rw [← hr_x35.2 hm0]; (repeat' split) <;> first | contradiction | with_reducible rfl) | with_reducible exact itI_0) rfl
      · skip
        refine y_blk 6 tq_X12_thereAt (z := (5, [(4, .int (v5_4 + 1)), (3, .int (v5_3 + 1)), (0, .ref (ad 200)), (1, .int cell), (2, .int minute)], [])) rfl ?_
        refine y_pick (L2 := [(0, .ref (ad 200)), (1, .int cell), (2, .int minute), (3, .int (v5_3 + 1)), (4, .int (v5_4 + 1))]) [2, 3, 4, 1, 0] rfl ?_
        exact ih5 _ (by exact ydec c16) (v5_3 + 1) (v5_4 + 1) (by first | decide | assumption | exact Int.le_refl _ | exact yposgeL (by assumption) c16) (by first | exact xcn_step hh5 c16 | exact xcn_init (by first | decide | (rw [yofn (by omega)]; omega))) (by first | exact itI_s ea5 hh5 c16 (by unfold rthF; rw [← hr_x35.2 hm0]; (repeat' split) <;> first | contradiction | with_reducible rfl) | with_reducible exact itI_0) rfl
  refine y_blk 4 tq_X12_thereAt (z := (5, [(4, .int 0), (3, .int 0), (0, .ref (ad 200)), (1, .int cell), (2, .int minute)], [])) rfl ?_
  refine y_pick (L2 := [(0, .ref (ad 200)), (1, .int cell), (2, .int minute), (3, .int 0), (4, .int 0)]) [2, 3, 4, 1, 0] rfl ?_
  exact J5 _ 0 0 (by first | decide | assumption | exact Int.le_refl _ | exact yposgeL (by assumption) c16) (by first | exact xcn_step hh5 c16 | exact xcn_init (by first | decide | (rw [yofn (by omega)]; omega))) (by first | exact itI_s ea5 hh5 c16 (by unfold rthF; rw [← hr_x35.2 hm0]; (repeat' split) <;> first | contradiction | with_reducible rfl) | with_reducible exact itI_0) rfl
set_option maxHeartbeats 4000000 in
set_option maxRecDepth 100000 in
theorem m_X12_wireNow_v {l : Launch} {S0 : State} {A0 : Array Value} {D : va_G} {aC : Nat → ClassId} {ic : Int32 → Nat} {de : Nat} {ad : Nat → Nat} {G : AH} {ρ : RS} (hS : yS l S0 A0 D aC) (hI : yIc S0 ic de) (hX : atR aC ic de ad G ρ) (wire : Int32) (what : Int32) (hw0 : 0 ≤ wire.toInt) (hw1 : wire.toInt < rZ ρ 216) (hwh : 0 ≤ what.toInt) : yM l S0 D yX12_wireNow cX12_wireNow 9 (some .int) 18 0 0 [.ref (ad 200), .int wire, .int what] G (fun r G1 => r = some (.int (rwnN ρ (Int32.toNatClampNeg wire) what)) ∧ G1 = G) (fun _ _ => False) := by
  refine yM.ofK K_X12_wireNow rfl (by decide) (Nat.le_of_ble_eq_true rfl) ?_
  have dw := yIx hw0 hw1
  have rn0 : Int32.toNatClampNeg 0 = 0 := rfl
  have rn1 : Int32.toNatClampNeg 1 = 1 := rfl
  have J35 : ∀ (n35 : Nat) (v35_4 : Int32) (v35_5 : Int32) (v35_6 : Int32) (v35_7 : Int32) (h0_35 : 0 ≤ v35_7.toInt) (hw35 : (2 : Int32) ≤ what) (hh35 : 0 ≤ v35_7.toInt ∧ v35_7.toInt ≤ (240 : Int32).toInt) (ea35 : v35_4 = itI (rrgF ρ (Int32.toNatClampNeg wire)) 0 v35_7.toInt.toNat) (eb35 : v35_5 = itI (rrfF ρ (Int32.toNatClampNeg wire)) 0 v35_7.toInt.toNat) (ec35 : v35_6 = itI (rrtF ρ (Int32.toNatClampNeg wire)) (-1) v35_7.toInt.toNat), ((239 : Int32).toInt + 1 - v35_7.toInt).toNat = n35 → Y l S0 D K_X12_wireNow 18 0 0 (fun r G1 => r = some (.int (rwnN ρ (Int32.toNatClampNeg wire) what)) ∧ G1 = G) (fun _ _ => False) 35 [(0, .ref (ad 200)), (1, .int wire), (2, .int what), (3, .ref (ad (340 + (Int32.toNatClampNeg wire)))), (4, .int v35_4), (5, .int v35_5), (6, .int v35_6), (7, .int v35_7)] [] G 0 0 := by
    intro n35
    induction n35 using Nat.strongRecOn with
    | _ n35 ih35 =>
    intro v35_4 v35_5 v35_6 v35_7 h0_35 hw35 hh35 ea35 eb35 ec35 hn35
    subst hn35
    refine y_blk 2 tq_X12_wireNow (z := (40, [(0, .ref (ad 200)), (1, .int wire), (2, .int what), (3, .ref (ad (340 + (Int32.toNatClampNeg wire)))), (4, .int v35_4), (5, .int v35_5), (6, .int v35_6), (7, .int v35_7)], [.int 239, .int v35_7])) rfl ?_
    refine y_icmp_gt tq_X12_wireNow 127 rfl rfl (fun c40 => ?_) (fun c40 => ?_)
    · skip
      refine y_blk 2 tq_X12_wireNow (z := (129, [(0, .ref (ad 200)), (1, .int wire), (2, .int what), (3, .ref (ad (340 + (Int32.toNatClampNeg wire)))), (4, .int v35_4), (5, .int v35_5), (6, .int v35_6), (7, .int v35_7)], [.int 2, .int what])) rfl ?_
      refine y_icmp_ne tq_X12_wireNow 137 rfl rfl (fun c129 => ?_) (fun c129 => ?_)
      · skip
        refine y_blk 2 tq_X12_wireNow (z := (139, [(0, .ref (ad 200)), (1, .int wire), (2, .int what), (3, .ref (ad (340 + (Int32.toNatClampNeg wire)))), (4, .int v35_4), (5, .int v35_5), (6, .int v35_6), (7, .int v35_7)], [.int 3, .int what])) rfl ?_
        refine y_icmp_ne tq_X12_wireNow 147 rfl rfl (fun c139 => ?_) (fun c139 => ?_)
        · skip
          refine y_blk 1 tq_X12_wireNow (z := (149, [(0, .ref (ad 200)), (1, .int wire), (2, .int what), (3, .ref (ad (340 + (Int32.toNatClampNeg wire)))), (4, .int v35_4), (5, .int v35_5), (6, .int v35_6), (7, .int v35_7)], [.int v35_6])) rfl ?_
          exact y_iret tq_X12_wireNow rfl rfl (⟨congrArg (fun z => some (Value.int z)) (by unfold rwnN; first | (rw [if_pos (Int32.not_le.mp c16)]) | (rw [if_neg (fun q => (Int32.not_lt.mpr hw35) q), if_pos (by assumption)]; exact itI_e ea35 hh35 (lt239.mp c40)) | (rw [if_neg (fun q => (Int32.not_lt.mpr hw35) q), if_neg (by assumption), if_pos (by assumption)]; exact itI_e eb35 hh35 (lt239.mp c40)) | (rw [if_neg (fun q => (Int32.not_lt.mpr hw35) q), if_neg (by assumption), if_neg (by assumption)]; exact itI_e ec35 hh35 (lt239.mp c40))), rfl⟩)
        · skip
          refine y_blk 2 tq_X12_wireNow (z := (149, [(0, .ref (ad 200)), (1, .int wire), (2, .int what), (3, .ref (ad (340 + (Int32.toNatClampNeg wire)))), (4, .int v35_4), (5, .int v35_5), (6, .int v35_6), (7, .int v35_7)], [.int v35_5])) rfl ?_
          exact y_iret tq_X12_wireNow rfl rfl (⟨congrArg (fun z => some (Value.int z)) (by unfold rwnN; first | (rw [if_pos (Int32.not_le.mp c16)]) | (rw [if_neg (fun q => (Int32.not_lt.mpr hw35) q), if_pos (by assumption)]; exact itI_e ea35 hh35 (lt239.mp c40)) | (rw [if_neg (fun q => (Int32.not_lt.mpr hw35) q), if_neg (by assumption), if_pos (by assumption)]; exact itI_e eb35 hh35 (lt239.mp c40)) | (rw [if_neg (fun q => (Int32.not_lt.mpr hw35) q), if_neg (by assumption), if_neg (by assumption)]; exact itI_e ec35 hh35 (lt239.mp c40))), rfl⟩)
      · skip
        refine y_blk 2 tq_X12_wireNow (z := (149, [(0, .ref (ad 200)), (1, .int wire), (2, .int what), (3, .ref (ad (340 + (Int32.toNatClampNeg wire)))), (4, .int v35_4), (5, .int v35_5), (6, .int v35_6), (7, .int v35_7)], [.int v35_4])) rfl ?_
        exact y_iret tq_X12_wireNow rfl rfl (⟨congrArg (fun z => some (Value.int z)) (by unfold rwnN; first | (rw [if_pos (Int32.not_le.mp c16)]) | (rw [if_neg (fun q => (Int32.not_lt.mpr hw35) q), if_pos (by assumption)]; exact itI_e ea35 hh35 (lt239.mp c40)) | (rw [if_neg (fun q => (Int32.not_lt.mpr hw35) q), if_neg (by assumption), if_pos (by assumption)]; exact itI_e eb35 hh35 (lt239.mp c40)) | (rw [if_neg (fun q => (Int32.not_lt.mpr hw35) q), if_neg (by assumption), if_neg (by assumption)]; exact itI_e ec35 hh35 (lt239.mp c40))), rfl⟩)
    · skip
      have b40 : v35_7.toInt ≤ 239 := by rw [ylt] at c40; have z9 : (239 : Int32).toInt = 239 := (by decide); omega
      refine y_blk 3 tq_X12_wireNow (z := (46, [(0, .ref (ad 200)), (1, .int wire), (2, .int what), (3, .ref (ad (340 + (Int32.toNatClampNeg wire)))), (4, .int v35_4), (5, .int v35_5), (6, .int v35_6), (7, .int v35_7)], [.int 0, .ref (ad (340 + (Int32.toNatClampNeg wire))), .ref (ad 200)])) rfl ?_
      refine y_iald hS tq_X12_wireNow rfl (hX.wi (by assumption)) (by first | exact yIn (by decide) (by decide) | exact yIn (by assumption) (by assumption) | (exact yIn (by omega) (by omega))) ?_
      refine y_blk 1 tq_X12_wireNow (z := (49, [(0, .ref (ad 200)), (1, .int wire), (2, .int what), (3, .ref (ad (340 + (Int32.toNatClampNeg wire)))), (4, .int v35_4), (5, .int v35_5), (6, .int v35_6), (7, .int v35_7)], [.int v35_7, .int ((rV ρ (340 + (Int32.toNatClampNeg wire))) (Int32.toNatClampNeg 0)), .ref (ad 200)])) rfl ?_
      refine y_callV hS tq_X12_wireNow rfl (As := [.int ((rV ρ (340 + (Int32.toNatClampNeg wire))) (Int32.toNatClampNeg 0)), .int v35_7]) rfl cv_X12_274 hX.m (m_X12_thereAt_v hS hI hX ((rV ρ (340 + (Int32.toNatClampNeg wire))) (Int32.toNatClampNeg 0)) v35_7 (by omega) (by omega)) rfl (by decide) (Nat.le_of_ble_eq_true rfl) (fun r49 Gc49 q49 => ?_) (fun E9 G9 h9 => h9.elim)
      obtain ⟨rfl, eG49⟩ := q49
      have eG49 := eG49.symm
      subst eG49
      refine y_blk 7 tq_X12_wireNow (z := (63, [(8, .int (rthN ρ ((rV ρ (340 + (Int32.toNatClampNeg wire))) (Int32.toNatClampNeg 0)) v35_7)), (0, .ref (ad 200)), (1, .int wire), (2, .int what), (3, .ref (ad (340 + (Int32.toNatClampNeg wire)))), (4, .int v35_4), (5, .int v35_5), (6, .int v35_6), (7, .int v35_7)], [.int 0, .ref (ad (340 + (Int32.toNatClampNeg wire))), .int 7, .int (29 * v35_7)])) rfl ?_
      refine y_iald hS tq_X12_wireNow rfl (hX.wi (by assumption)) (by first | exact yIn (by decide) (by decide) | exact yIn (by assumption) (by assumption) | (exact yIn (by omega) (by omega))) ?_
      refine y_blk 3 tq_X12_wireNow (z := (68, [(8, .int (rthN ρ ((rV ρ (340 + (Int32.toNatClampNeg wire))) (Int32.toNatClampNeg 0)) v35_7)), (0, .ref (ad 200)), (1, .int wire), (2, .int what), (3, .ref (ad (340 + (Int32.toNatClampNeg wire)))), (4, .int v35_4), (5, .int v35_5), (6, .int v35_6), (7, .int v35_7)], [.int 11, .int ((29 * v35_7) + (7 * ((rV ρ (340 + (Int32.toNatClampNeg wire))) (Int32.toNatClampNeg 0))))])) rfl ?_
      refine y_irem tq_X12_wireNow rfl (by decide) ?_
      refine y_blk 6 tq_X12_wireNow (z := (76, [(8, .int (rthN ρ ((rV ρ (340 + (Int32.toNatClampNeg wire))) (Int32.toNatClampNeg 0)) v35_7)), (0, .ref (ad 200)), (1, .int wire), (2, .int what), (3, .ref (ad (340 + (Int32.toNatClampNeg wire)))), (4, .int v35_4), (5, .int v35_5), (6, .int v35_6), (7, .int v35_7)], [.int 1, .ref (ad (340 + (Int32.toNatClampNeg wire))), .int ((((29 * v35_7) + (7 * ((rV ρ (340 + (Int32.toNatClampNeg wire))) (Int32.toNatClampNeg 0)))) - ((29 * v35_7) + (7 * ((rV ρ (340 + (Int32.toNatClampNeg wire))) (Int32.toNatClampNeg 0)))) / 11 * 11) + (5 * (rthN ρ ((rV ρ (340 + (Int32.toNatClampNeg wire))) (Int32.toNatClampNeg 0)) v35_7)))])) rfl ?_
      refine y_iald hS tq_X12_wireNow rfl (hX.wi (by assumption)) (by first | exact yIn (by decide) (by decide) | exact yIn (by assumption) (by assumption) | (exact yIn (by omega) (by omega))) ?_
      refine y_blk 0 tq_X12_wireNow (z := (77, [(8, .int (rthN ρ ((rV ρ (340 + (Int32.toNatClampNeg wire))) (Int32.toNatClampNeg 0)) v35_7)), (0, .ref (ad 200)), (1, .int wire), (2, .int what), (3, .ref (ad (340 + (Int32.toNatClampNeg wire)))), (4, .int v35_4), (5, .int v35_5), (6, .int v35_6), (7, .int v35_7)], [.int ((rV ρ (340 + (Int32.toNatClampNeg wire))) (Int32.toNatClampNeg 1)), .int ((((29 * v35_7) + (7 * ((rV ρ (340 + (Int32.toNatClampNeg wire))) (Int32.toNatClampNeg 0)))) - ((29 * v35_7) + (7 * ((rV ρ (340 + (Int32.toNatClampNeg wire))) (Int32.toNatClampNeg 0)))) / 11 * 11) + (5 * (rthN ρ ((rV ρ (340 + (Int32.toNatClampNeg wire))) (Int32.toNatClampNeg 0)) v35_7)))])) rfl ?_
      refine y_icmp_ge tq_X12_wireNow 83 rfl rfl (fun c77 => ?_) (fun c77 => ?_)
      · skip
        refine y_blk 3 tq_X12_wireNow (z := (90, [(4, .int (v35_4 + 1)), (8, .int (rthN ρ ((rV ρ (340 + (Int32.toNatClampNeg wire))) (Int32.toNatClampNeg 0)) v35_7)), (0, .ref (ad 200)), (1, .int wire), (2, .int what), (3, .ref (ad (340 + (Int32.toNatClampNeg wire)))), (5, .int v35_5), (6, .int v35_6), (7, .int v35_7)], [.int (rthN ρ ((rV ρ (340 + (Int32.toNatClampNeg wire))) (Int32.toNatClampNeg 0)) v35_7), .int v35_5])) rfl ?_
        refine y_if_ne tq_X12_wireNow 97 rfl rfl (fun c90 => ?_) (fun c90 => ?_)
        · skip
          refine y_blk 4 tq_X12_wireNow (z := (103, [(5, .int (v35_5 + 0)), (4, .int (v35_4 + 1)), (8, .int (rthN ρ ((rV ρ (340 + (Int32.toNatClampNeg wire))) (Int32.toNatClampNeg 0)) v35_7)), (0, .ref (ad 200)), (1, .int wire), (2, .int what), (3, .ref (ad (340 + (Int32.toNatClampNeg wire)))), (6, .int v35_6), (7, .int v35_7)], [.int (rthN ρ ((rV ρ (340 + (Int32.toNatClampNeg wire))) (Int32.toNatClampNeg 0)) v35_7)])) rfl ?_
          refine y_if_le tq_X12_wireNow 117 rfl rfl (fun c103 => ?_) (fun c103 => ?_)
          · skip
            refine y_blk 4 tq_X12_wireNow (z := (35, [(7, .int (v35_7 + 1)), (6, .int v35_6), (5, .int (v35_5 + 0)), (4, .int (v35_4 + 1)), (8, .int (rthN ρ ((rV ρ (340 + (Int32.toNatClampNeg wire))) (Int32.toNatClampNeg 0)) v35_7)), (0, .ref (ad 200)), (1, .int wire), (2, .int what), (3, .ref (ad (340 + (Int32.toNatClampNeg wire))))], [])) rfl ?_
            refine y_pick (L2 := [(0, .ref (ad 200)), (1, .int wire), (2, .int what), (3, .ref (ad (340 + (Int32.toNatClampNeg wire)))), (4, .int (v35_4 + 1)), (5, .int (v35_5 + 0)), (6, .int v35_6), (7, .int (v35_7 + 1))]) [5, 6, 7, 8, 3, 2, 1, 0] rfl ?_
            exact ih35 _ (by exact ydec2 c40 (by decide)) (v35_4 + 1) (v35_5 + 0) v35_6 (v35_7 + 1) (by first | decide | assumption | exact Int.le_refl _ | exact yposgtL (by assumption) c40 (by decide)) (by first | exact hw35 | exact c16) (by first | exact xcn_step hh35 (n239 c40) | exact xcn_init (by first | decide | (rw [yofn (by omega)]; omega))) (by first | exact itI_s ea35 hh35 (n239 c40) (rrg_y c77) | exact itI_s ea35 hh35 (n239 c40) (rrg_n c77) | with_reducible exact itI_0) (by first | exact itI_s eb35 hh35 (n239 c40) (rrf_n c77) | exact itI_s eb35 hh35 (n239 c40) (rrf_1 c77 c90) | exact itI_s eb35 hh35 (n239 c40) (rrf_0 c77 c90) | with_reducible exact itI_0) (by first | exact itI_s ec35 hh35 (n239 c40) (rrt_n c77) | exact itI_s ec35 hh35 (n239 c40) (rrt_0 c77 c103) | exact itI_s ec35 hh35 (n239 c40) (rrt_a c77 c103 c109) | exact itI_s ec35 hh35 (n239 c40) (rrt_m c77 c103 c109) | with_reducible exact itI_0) rfl
          · skip
            refine y_blk 2 tq_X12_wireNow (z := (109, [(5, .int (v35_5 + 0)), (4, .int (v35_4 + 1)), (8, .int (rthN ρ ((rV ρ (340 + (Int32.toNatClampNeg wire))) (Int32.toNatClampNeg 0)) v35_7)), (0, .ref (ad 200)), (1, .int wire), (2, .int what), (3, .ref (ad (340 + (Int32.toNatClampNeg wire)))), (6, .int v35_6), (7, .int v35_7)], [.int (-1), .int v35_6])) rfl ?_
            refine y_icmp_ne tq_X12_wireNow 117 rfl rfl (fun c109 => ?_) (fun c109 => ?_)
            · skip
              refine y_blk 4 tq_X12_wireNow (z := (35, [(7, .int (v35_7 + 1)), (6, .int v35_6), (5, .int (v35_5 + 0)), (4, .int (v35_4 + 1)), (8, .int (rthN ρ ((rV ρ (340 + (Int32.toNatClampNeg wire))) (Int32.toNatClampNeg 0)) v35_7)), (0, .ref (ad 200)), (1, .int wire), (2, .int what), (3, .ref (ad (340 + (Int32.toNatClampNeg wire))))], [])) rfl ?_
              refine y_pick (L2 := [(0, .ref (ad 200)), (1, .int wire), (2, .int what), (3, .ref (ad (340 + (Int32.toNatClampNeg wire)))), (4, .int (v35_4 + 1)), (5, .int (v35_5 + 0)), (6, .int v35_6), (7, .int (v35_7 + 1))]) [5, 6, 7, 8, 3, 2, 1, 0] rfl ?_
              exact ih35 _ (by exact ydec2 c40 (by decide)) (v35_4 + 1) (v35_5 + 0) v35_6 (v35_7 + 1) (by first | decide | assumption | exact Int.le_refl _ | exact yposgtL (by assumption) c40 (by decide)) (by first | exact hw35 | exact c16) (by first | exact xcn_step hh35 (n239 c40) | exact xcn_init (by first | decide | (rw [yofn (by omega)]; omega))) (by first | exact itI_s ea35 hh35 (n239 c40) (rrg_y c77) | exact itI_s ea35 hh35 (n239 c40) (rrg_n c77) | with_reducible exact itI_0) (by first | exact itI_s eb35 hh35 (n239 c40) (rrf_n c77) | exact itI_s eb35 hh35 (n239 c40) (rrf_1 c77 c90) | exact itI_s eb35 hh35 (n239 c40) (rrf_0 c77 c90) | with_reducible exact itI_0) (by first | exact itI_s ec35 hh35 (n239 c40) (rrt_n c77) | exact itI_s ec35 hh35 (n239 c40) (rrt_0 c77 c103) | exact itI_s ec35 hh35 (n239 c40) (rrt_a c77 c103 c109) | exact itI_s ec35 hh35 (n239 c40) (rrt_m c77 c103 c109) | with_reducible exact itI_0) rfl
            · skip
              refine y_blk 5 tq_X12_wireNow (z := (35, [(7, .int (v35_7 + 1)), (6, .int v35_7), (5, .int (v35_5 + 0)), (4, .int (v35_4 + 1)), (8, .int (rthN ρ ((rV ρ (340 + (Int32.toNatClampNeg wire))) (Int32.toNatClampNeg 0)) v35_7)), (0, .ref (ad 200)), (1, .int wire), (2, .int what), (3, .ref (ad (340 + (Int32.toNatClampNeg wire))))], [])) rfl ?_
              refine y_pick (L2 := [(0, .ref (ad 200)), (1, .int wire), (2, .int what), (3, .ref (ad (340 + (Int32.toNatClampNeg wire)))), (4, .int (v35_4 + 1)), (5, .int (v35_5 + 0)), (6, .int v35_7), (7, .int (v35_7 + 1))]) [5, 6, 7, 8, 3, 2, 1, 0] rfl ?_
              exact ih35 _ (by exact ydec2 c40 (by decide)) (v35_4 + 1) (v35_5 + 0) v35_7 (v35_7 + 1) (by first | decide | assumption | exact Int.le_refl _ | exact yposgtL (by assumption) c40 (by decide)) (by first | exact hw35 | exact c16) (by first | exact xcn_step hh35 (n239 c40) | exact xcn_init (by first | decide | (rw [yofn (by omega)]; omega))) (by first | exact itI_s ea35 hh35 (n239 c40) (rrg_y c77) | exact itI_s ea35 hh35 (n239 c40) (rrg_n c77) | with_reducible exact itI_0) (by first | exact itI_s eb35 hh35 (n239 c40) (rrf_n c77) | exact itI_s eb35 hh35 (n239 c40) (rrf_1 c77 c90) | exact itI_s eb35 hh35 (n239 c40) (rrf_0 c77 c90) | with_reducible exact itI_0) (by first | exact itI_s ec35 hh35 (n239 c40) (rrt_n c77) | exact itI_s ec35 hh35 (n239 c40) (rrt_0 c77 c103) | exact itI_s ec35 hh35 (n239 c40) (rrt_a c77 c103 c109) | exact itI_s ec35 hh35 (n239 c40) (rrt_m c77 c103 c109) | with_reducible exact itI_0) rfl
        · skip
          refine y_blk 5 tq_X12_wireNow (z := (103, [(5, .int (v35_5 + 1)), (4, .int (v35_4 + 1)), (8, .int (rthN ρ ((rV ρ (340 + (Int32.toNatClampNeg wire))) (Int32.toNatClampNeg 0)) v35_7)), (0, .ref (ad 200)), (1, .int wire), (2, .int what), (3, .ref (ad (340 + (Int32.toNatClampNeg wire)))), (6, .int v35_6), (7, .int v35_7)], [.int (rthN ρ ((rV ρ (340 + (Int32.toNatClampNeg wire))) (Int32.toNatClampNeg 0)) v35_7)])) rfl ?_
          refine y_if_le tq_X12_wireNow 117 rfl rfl (fun c103 => ?_) (fun c103 => ?_)
          · skip
            refine y_blk 4 tq_X12_wireNow (z := (35, [(7, .int (v35_7 + 1)), (6, .int v35_6), (5, .int (v35_5 + 1)), (4, .int (v35_4 + 1)), (8, .int (rthN ρ ((rV ρ (340 + (Int32.toNatClampNeg wire))) (Int32.toNatClampNeg 0)) v35_7)), (0, .ref (ad 200)), (1, .int wire), (2, .int what), (3, .ref (ad (340 + (Int32.toNatClampNeg wire))))], [])) rfl ?_
            refine y_pick (L2 := [(0, .ref (ad 200)), (1, .int wire), (2, .int what), (3, .ref (ad (340 + (Int32.toNatClampNeg wire)))), (4, .int (v35_4 + 1)), (5, .int (v35_5 + 1)), (6, .int v35_6), (7, .int (v35_7 + 1))]) [5, 6, 7, 8, 3, 2, 1, 0] rfl ?_
            exact ih35 _ (by exact ydec2 c40 (by decide)) (v35_4 + 1) (v35_5 + 1) v35_6 (v35_7 + 1) (by first | decide | assumption | exact Int.le_refl _ | exact yposgtL (by assumption) c40 (by decide)) (by first | exact hw35 | exact c16) (by first | exact xcn_step hh35 (n239 c40) | exact xcn_init (by first | decide | (rw [yofn (by omega)]; omega))) (by first | exact itI_s ea35 hh35 (n239 c40) (rrg_y c77) | exact itI_s ea35 hh35 (n239 c40) (rrg_n c77) | with_reducible exact itI_0) (by first | exact itI_s eb35 hh35 (n239 c40) (rrf_n c77) | exact itI_s eb35 hh35 (n239 c40) (rrf_1 c77 c90) | exact itI_s eb35 hh35 (n239 c40) (rrf_0 c77 c90) | with_reducible exact itI_0) (by first | exact itI_s ec35 hh35 (n239 c40) (rrt_n c77) | exact itI_s ec35 hh35 (n239 c40) (rrt_0 c77 c103) | exact itI_s ec35 hh35 (n239 c40) (rrt_a c77 c103 c109) | exact itI_s ec35 hh35 (n239 c40) (rrt_m c77 c103 c109) | with_reducible exact itI_0) rfl
          · skip
            refine y_blk 2 tq_X12_wireNow (z := (109, [(5, .int (v35_5 + 1)), (4, .int (v35_4 + 1)), (8, .int (rthN ρ ((rV ρ (340 + (Int32.toNatClampNeg wire))) (Int32.toNatClampNeg 0)) v35_7)), (0, .ref (ad 200)), (1, .int wire), (2, .int what), (3, .ref (ad (340 + (Int32.toNatClampNeg wire)))), (6, .int v35_6), (7, .int v35_7)], [.int (-1), .int v35_6])) rfl ?_
            refine y_icmp_ne tq_X12_wireNow 117 rfl rfl (fun c109 => ?_) (fun c109 => ?_)
            · skip
              refine y_blk 4 tq_X12_wireNow (z := (35, [(7, .int (v35_7 + 1)), (6, .int v35_6), (5, .int (v35_5 + 1)), (4, .int (v35_4 + 1)), (8, .int (rthN ρ ((rV ρ (340 + (Int32.toNatClampNeg wire))) (Int32.toNatClampNeg 0)) v35_7)), (0, .ref (ad 200)), (1, .int wire), (2, .int what), (3, .ref (ad (340 + (Int32.toNatClampNeg wire))))], [])) rfl ?_
              refine y_pick (L2 := [(0, .ref (ad 200)), (1, .int wire), (2, .int what), (3, .ref (ad (340 + (Int32.toNatClampNeg wire)))), (4, .int (v35_4 + 1)), (5, .int (v35_5 + 1)), (6, .int v35_6), (7, .int (v35_7 + 1))]) [5, 6, 7, 8, 3, 2, 1, 0] rfl ?_
              exact ih35 _ (by exact ydec2 c40 (by decide)) (v35_4 + 1) (v35_5 + 1) v35_6 (v35_7 + 1) (by first | decide | assumption | exact Int.le_refl _ | exact yposgtL (by assumption) c40 (by decide)) (by first | exact hw35 | exact c16) (by first | exact xcn_step hh35 (n239 c40) | exact xcn_init (by first | decide | (rw [yofn (by omega)]; omega))) (by first | exact itI_s ea35 hh35 (n239 c40) (rrg_y c77) | exact itI_s ea35 hh35 (n239 c40) (rrg_n c77) | with_reducible exact itI_0) (by first | exact itI_s eb35 hh35 (n239 c40) (rrf_n c77) | exact itI_s eb35 hh35 (n239 c40) (rrf_1 c77 c90) | exact itI_s eb35 hh35 (n239 c40) (rrf_0 c77 c90) | with_reducible exact itI_0) (by first | exact itI_s ec35 hh35 (n239 c40) (rrt_n c77) | exact itI_s ec35 hh35 (n239 c40) (rrt_0 c77 c103) | exact itI_s ec35 hh35 (n239 c40) (rrt_a c77 c103 c109) | exact itI_s ec35 hh35 (n239 c40) (rrt_m c77 c103 c109) | with_reducible exact itI_0) rfl
            · skip
              refine y_blk 5 tq_X12_wireNow (z := (35, [(7, .int (v35_7 + 1)), (6, .int v35_7), (5, .int (v35_5 + 1)), (4, .int (v35_4 + 1)), (8, .int (rthN ρ ((rV ρ (340 + (Int32.toNatClampNeg wire))) (Int32.toNatClampNeg 0)) v35_7)), (0, .ref (ad 200)), (1, .int wire), (2, .int what), (3, .ref (ad (340 + (Int32.toNatClampNeg wire))))], [])) rfl ?_
              refine y_pick (L2 := [(0, .ref (ad 200)), (1, .int wire), (2, .int what), (3, .ref (ad (340 + (Int32.toNatClampNeg wire)))), (4, .int (v35_4 + 1)), (5, .int (v35_5 + 1)), (6, .int v35_7), (7, .int (v35_7 + 1))]) [5, 6, 7, 8, 3, 2, 1, 0] rfl ?_
              exact ih35 _ (by exact ydec2 c40 (by decide)) (v35_4 + 1) (v35_5 + 1) v35_7 (v35_7 + 1) (by first | decide | assumption | exact Int.le_refl _ | exact yposgtL (by assumption) c40 (by decide)) (by first | exact hw35 | exact c16) (by first | exact xcn_step hh35 (n239 c40) | exact xcn_init (by first | decide | (rw [yofn (by omega)]; omega))) (by first | exact itI_s ea35 hh35 (n239 c40) (rrg_y c77) | exact itI_s ea35 hh35 (n239 c40) (rrg_n c77) | with_reducible exact itI_0) (by first | exact itI_s eb35 hh35 (n239 c40) (rrf_n c77) | exact itI_s eb35 hh35 (n239 c40) (rrf_1 c77 c90) | exact itI_s eb35 hh35 (n239 c40) (rrf_0 c77 c90) | with_reducible exact itI_0) (by first | exact itI_s ec35 hh35 (n239 c40) (rrt_n c77) | exact itI_s ec35 hh35 (n239 c40) (rrt_0 c77 c103) | exact itI_s ec35 hh35 (n239 c40) (rrt_a c77 c103 c109) | exact itI_s ec35 hh35 (n239 c40) (rrt_m c77 c103 c109) | with_reducible exact itI_0) rfl
      · skip
        refine y_blk 3 tq_X12_wireNow (z := (35, [(7, .int (v35_7 + 1)), (8, .int (rthN ρ ((rV ρ (340 + (Int32.toNatClampNeg wire))) (Int32.toNatClampNeg 0)) v35_7)), (0, .ref (ad 200)), (1, .int wire), (2, .int what), (3, .ref (ad (340 + (Int32.toNatClampNeg wire)))), (4, .int v35_4), (5, .int v35_5), (6, .int v35_6)], [])) rfl ?_
        refine y_pick (L2 := [(0, .ref (ad 200)), (1, .int wire), (2, .int what), (3, .ref (ad (340 + (Int32.toNatClampNeg wire)))), (4, .int v35_4), (5, .int v35_5), (6, .int v35_6), (7, .int (v35_7 + 1))]) [2, 3, 4, 5, 6, 7, 8, 0] rfl ?_
        exact ih35 _ (by exact ydec2 c40 (by decide)) v35_4 v35_5 v35_6 (v35_7 + 1) (by first | decide | assumption | exact Int.le_refl _ | exact yposgtL (by assumption) c40 (by decide)) (by first | exact hw35 | exact c16) (by first | exact xcn_step hh35 (n239 c40) | exact xcn_init (by first | decide | (rw [yofn (by omega)]; omega))) (by first | exact itI_s ea35 hh35 (n239 c40) (rrg_y c77) | exact itI_s ea35 hh35 (n239 c40) (rrg_n c77) | with_reducible exact itI_0) (by first | exact itI_s eb35 hh35 (n239 c40) (rrf_n c77) | exact itI_s eb35 hh35 (n239 c40) (rrf_1 c77 c90) | exact itI_s eb35 hh35 (n239 c40) (rrf_0 c77 c90) | with_reducible exact itI_0) (by first | exact itI_s ec35 hh35 (n239 c40) (rrt_n c77) | exact itI_s ec35 hh35 (n239 c40) (rrt_0 c77 c103) | exact itI_s ec35 hh35 (n239 c40) (rrt_a c77 c103 c109) | exact itI_s ec35 hh35 (n239 c40) (rrt_m c77 c103 c109) | with_reducible exact itI_0) rfl
  refine y_blk 1 tq_X12_wireNow (z := (1, [(0, .ref (ad 200)), (1, .int wire), (2, .int what)], [.ref (ad 200)])) rfl ?_
  refine y_get hS tq_X12_wireNow (v := .ref (ad 216)) rfl fg_X12_45_X12 hX.m rfl ?_
  refine y_blk 1 tq_X12_wireNow (z := (5, [(0, .ref (ad 200)), (1, .int wire), (2, .int what)], [.int wire, .ref (ad 216)])) rfl ?_
  refine y_callF hS tq_X12_wireNow rfl (As := [.int wire]) rfl cf_X12_80 (Or.inl ⟨_, (hX.ls 216 (by decide)).1⟩) (m_Rwi hS hX (by assumption) (by assumption)) rfl (by decide) (Nat.le_of_ble_eq_true rfl) (fun r5 Gc5 q5 => ?_) (fun _ _ h9 => h9.elim)
  obtain ⟨rfl, eG5⟩ := q5
  have eG5 := eG5.symm
  subst eG5
  have d5 : (Int32.toNatClampNeg wire) < rZ ρ 216 := yIx (by assumption) (by assumption)
  refine y_blk 0 tq_X12_wireNow (z := (10, [(0, .ref (ad 200)), (1, .int wire), (2, .int what)], [.ref (ad (340 + (Int32.toNatClampNeg wire)))])) rfl ?_
  refine y_castA hS tq_X12_wireNow rfl kc_X12_116 (Or.inl ⟨_, (hX.wi (by assumption))⟩) ?_
  refine y_blk 3 tq_X12_wireNow (z := (16, [(3, .ref (ad (340 + (Int32.toNatClampNeg wire)))), (0, .ref (ad 200)), (1, .int wire), (2, .int what)], [.int 2, .int what])) rfl ?_
  refine y_icmp_ge tq_X12_wireNow 23 rfl rfl (fun c16 => ?_) (fun c16 => ?_)
  · skip
    refine y_blk 8 tq_X12_wireNow (z := (35, [(7, .int 0), (6, .int (-1)), (5, .int 0), (4, .int 0), (3, .ref (ad (340 + (Int32.toNatClampNeg wire)))), (0, .ref (ad 200)), (1, .int wire), (2, .int what)], [])) rfl ?_
    refine y_pick (L2 := [(0, .ref (ad 200)), (1, .int wire), (2, .int what), (3, .ref (ad (340 + (Int32.toNatClampNeg wire)))), (4, .int 0), (5, .int 0), (6, .int (-1)), (7, .int 0)]) [5, 6, 7, 4, 3, 2, 1, 0] rfl ?_
    exact J35 _ 0 0 (-1) 0 (by first | decide | assumption | exact Int.le_refl _ | exact yposgtL (by assumption) c40 (by decide)) (by first | exact hw35 | exact c16) (by first | exact xcn_step hh35 (n239 c40) | exact xcn_init (by first | decide | (rw [yofn (by omega)]; omega))) (by first | exact itI_s ea35 hh35 (n239 c40) (rrg_y c77) | exact itI_s ea35 hh35 (n239 c40) (rrg_n c77) | with_reducible exact itI_0) (by first | exact itI_s eb35 hh35 (n239 c40) (rrf_n c77) | exact itI_s eb35 hh35 (n239 c40) (rrf_1 c77 c90) | exact itI_s eb35 hh35 (n239 c40) (rrf_0 c77 c90) | with_reducible exact itI_0) (by first | exact itI_s ec35 hh35 (n239 c40) (rrt_n c77) | exact itI_s ec35 hh35 (n239 c40) (rrt_0 c77 c103) | exact itI_s ec35 hh35 (n239 c40) (rrt_a c77 c103 c109) | exact itI_s ec35 hh35 (n239 c40) (rrt_m c77 c103 c109) | with_reducible exact itI_0) rfl
  · skip
    have hw2 : what.toInt < ((2 : Nat) : Int) := by rw [yle, yl_2] at c16; omega
    refine y_blk 2 tq_X12_wireNow (z := (21, [(3, .ref (ad (340 + (Int32.toNatClampNeg wire)))), (0, .ref (ad 200)), (1, .int wire), (2, .int what)], [.int what, .ref (ad (340 + (Int32.toNatClampNeg wire)))])) rfl ?_
    refine y_iald hS tq_X12_wireNow rfl (hX.wi (by assumption)) (by first | exact yIn (by decide) (by decide) | exact yIn (by assumption) (by assumption) | (exact yIn (by omega) (by omega))) ?_
    refine y_blk 0 tq_X12_wireNow (z := (22, [(3, .ref (ad (340 + (Int32.toNatClampNeg wire)))), (0, .ref (ad 200)), (1, .int wire), (2, .int what)], [.int ((rV ρ (340 + (Int32.toNatClampNeg wire))) (Int32.toNatClampNeg what))])) rfl ?_
    exact y_iret tq_X12_wireNow rfl rfl (⟨congrArg (fun z => some (Value.int z)) (by unfold rwnN; first | (rw [if_pos (Int32.not_le.mp c16)]) | (rw [if_neg (fun q => (Int32.not_lt.mpr hw35) q), if_pos (by assumption)]; exact itI_e ea35 hh35 (lt239.mp c40)) | (rw [if_neg (fun q => (Int32.not_lt.mpr hw35) q), if_neg (by assumption), if_pos (by assumption)]; exact itI_e eb35 hh35 (lt239.mp c40)) | (rw [if_neg (fun q => (Int32.not_lt.mpr hw35) q), if_neg (by assumption), if_neg (by assumption)]; exact itI_e ec35 hh35 (lt239.mp c40))), rfl⟩)
set_option maxHeartbeats 4000000 in
set_option maxRecDepth 100000 in
theorem m_X12_empty_v {l : Launch} {S0 : State} {A0 : Array Value} {D : va_G} {aC : Nat → ClassId} {ic : Int32 → Nat} {de : Nat} {ad : Nat → Nat} {G : AH} {ρ : RS} (hS : yS l S0 A0 D aC) (hI : yIc S0 ic de) (hX : atR aC ic de ad G ρ) (post : Int32) (isFirst : Int32) : yM l S0 D yX12_empty cX12_empty 3 (some .int) 22 0 0 [.ref (ad 200), .int post, .int isFirst] G (fun r G1 => (∃ v : Int32, r = some (.int v)) ∧ ∃ (ad1 : Nat → Nat) (ρ1 : RS), atR aC ic de ad1 G1 ρ1 ∧ ad1 200 = ad 200 ∧ yTg kR G G1 ∧ roEmpty post isFirst r ρ ρ1) (fun _ _ => False) := by
  refine yM.ofK K_X12_empty rfl (by decide) (Nat.le_of_ble_eq_true rfl) ?_
  refine y_blk 2 tq_X12_empty (z := (2, [(0, .ref (ad 200)), (1, .int post), (2, .int isFirst)], [.int 0, .ref (ad 200)])) rfl ?_
  refine y_put hS tq_X12_empty rfl fp_X12_51_X12 hX.m (by omega) rfl rfl (Nat.le_of_ble_eq_true rfl) ?_
  have hX2 : atR aC ic de ad (yup G (ad 200) (200, .inr (16, [.int 0, .int (rI ρ 1), .int (rI ρ 2), .ref (ad 201), .int (rI ρ 3), .int (rI ρ 4), .ref (ad 210), .ref (ad 211), .ref (ad 212), .ref (ad 213), .int (rI ρ 5), .int (rI ρ 6), .int (rI ρ 7), .ref (ad 202), .ref (ad 214), .int (rI ρ 8), .ref (ad 203), .ref (ad 215), .ref (ad 216), .int (rI ρ 9)]))) ((rin ρ 0 0)) := atR.setIb hX rfl rfl (hX.2.setI (by decide))
  have kt2 : yTg kR G (yup G (ad 200) (200, .inr (16, [.int 0, .int (rI ρ 1), .int (rI ρ 2), .ref (ad 201), .int (rI ρ 3), .int (rI ρ 4), .ref (ad 210), .ref (ad 211), .ref (ad 212), .ref (ad 213), .int (rI ρ 5), .int (rI ρ 6), .int (rI ρ 7), .ref (ad 202), .ref (ad 214), .int (rI ρ 8), .ref (ad 203), .ref (ad 215), .ref (ad 216), .int (rI ρ 9)]))) := ((yTg.rfl' (f := kR) (G := G))).trans (yTg.up hX.m (kR_n (by omega) (by omega)))
  show Y l S0 D K_X12_empty 22 0 0 (fun r G1 => (∃ v : Int32, r = some (.int v)) ∧ ∃ (ad1 : Nat → Nat) (ρ1 : RS), atR aC ic de ad1 G1 ρ1 ∧ ad1 200 = ad 200 ∧ yTg kR G G1 ∧ roEmpty post isFirst r ρ ρ1) (fun _ _ => False) (2 + 3) [(0, .ref (ad 200)), (1, .int post), (2, .int isFirst)] [] (yup G (ad 200) (200, .inr (16, [.int 0, .int (rI ρ 1), .int (rI ρ 2), .ref (ad 201), .int (rI ρ 3), .int (rI ρ 4), .ref (ad 210), .ref (ad 211), .ref (ad 212), .ref (ad 213), .int (rI ρ 5), .int (rI ρ 6), .int (rI ρ 7), .ref (ad 202), .ref (ad 214), .int (rI ρ 8), .ref (ad 203), .ref (ad 215), .ref (ad 216), .int (rI ρ 9)]))) 0 0
  generalize yup G (ad 200) (200, .inr (16, [.int 0, .int (rI ρ 1), .int (rI ρ 2), .ref (ad 201), .int (rI ρ 3), .int (rI ρ 4), .ref (ad 210), .ref (ad 211), .ref (ad 212), .ref (ad 213), .int (rI ρ 5), .int (rI ρ 6), .int (rI ρ 7), .ref (ad 202), .ref (ad 214), .int (rI ρ 8), .ref (ad 203), .ref (ad 215), .ref (ad 216), .int (rI ρ 9)])) = G2 at hX2 kt2 ⊢
  refine y_blk 3 tq_X12_empty (z := (8, [(0, .ref (ad 200)), (1, .int post), (2, .int isFirst)], [.ref (ad 200), .int 0, .int post])) rfl ?_
  refine y_get hS tq_X12_empty (v := .ref (ad 213)) rfl fg_X12_30_X12 hX2.m rfl ?_
  refine y_blk 0 tq_X12_empty (z := (11, [(0, .ref (ad 200)), (1, .int post), (2, .int isFirst)], [.ref (ad 213), .int 0, .int post])) rfl ?_
  refine y_callF hS tq_X12_empty rfl (As := []) rfl cf_X12_58 (Or.inl ⟨_, (hX2.ls 213 (by decide)).1⟩) (m_Jsize hS (hX2.ls 213 (by decide))) rfl (by decide) (Nat.le_of_ble_eq_true rfl) (fun r11 Gc11 q11 => ?_) (fun _ _ h9 => h9.elim)
  obtain ⟨rfl, eG11⟩ := q11
  have eG11 := eG11.symm
  subst eG11
  refine y_blk 2 tq_X12_empty (z := (18, [(0, .ref (ad 200)), (1, .int post), (2, .int isFirst)], [.int ((Int32.ofNat (rZ ((rin ρ 0 0)) 213)) - 1), .int 0, .int post])) rfl ?_
  refine y_callS hS tq_X12_empty rfl (As := [.int post, .int 0, .int ((Int32.ofNat (rZ ((rin ρ 0 0)) 213)) - 1)]) rfl cs_X12_54 (m_X12_in hS post 0 ((Int32.ofNat (rZ ((rin ρ 0 0)) 213)) - 1)) rfl (by decide) (Nat.le_of_ble_eq_true rfl) (fun r18 Gc18 q18 => ?_) (fun E9 G9 h9 => h9.elim)
  obtain ⟨rfl, eG18⟩ := q18
  have eG18 := eG18.symm
  subst eG18
  refine y_blk 0 tq_X12_empty (z := (21, [(0, .ref (ad 200)), (1, .int post), (2, .int isFirst)], [.int (if 0 ≤ post ∧ post ≤ ((Int32.ofNat (rZ ((rin ρ 0 0)) 213)) - 1) then 1 else 0)])) rfl ?_
  refine y_if_ne tq_X12_empty 30 rfl rfl (fun c21 => ?_) (fun c21 => ?_)
  · skip
    have hq21 := yif1 c21
    have hn21 := yinN (n := rZ ((rin ρ 0 0)) 213) (by have := hX2.2.le10 213 (by decide); omega) hq21
    have ha21 := hn21.1
    have hb21 := hn21.2
    refine y_blk 3 tq_X12_empty (z := (33, [(0, .ref (ad 200)), (1, .int post), (2, .int isFirst)], [.int isFirst, .int post, .ref (ad 200)])) rfl ?_
    refine y_callV hS tq_X12_empty rfl (As := [.int post, .int isFirst]) rfl cv_X12_208 hX2.m (m_X12_emptyNow_v hS hI hX2 post isFirst (by assumption) (by assumption)) rfl (by decide) (Nat.le_of_ble_eq_true rfl) (fun r33 Gc33 q33 => ?_) (fun E9 G9 h9 => h9.elim)
    obtain ⟨rfl, eG33⟩ := q33
    have eG33 := eG33.symm
    subst eG33
    refine y_blk 0 tq_X12_empty (z := (36, [(0, .ref (ad 200)), (1, .int post), (2, .int isFirst)], [.int (remN ((rin ρ 0 0)) (Int32.toNatClampNeg post) isFirst)])) rfl ?_
    exact y_iret tq_X12_empty rfl rfl (⟨⟨_, rfl⟩, ad, _, hX2, rfl, kt2, Or.inl (⟨yif1 c21, rfl, rfl, (rSm.in0 rSm.rfl')⟩)⟩)
  · skip
    refine y_blk 2 tq_X12_empty (z := (26, [(0, .ref (ad 200)), (1, .int post), (2, .int isFirst)], [.int 1, .ref (ad 200)])) rfl ?_
    refine y_callV hS tq_X12_empty rfl (As := [.int 1]) rfl cv_X12_140 hX2.m (m_X12_no hS hI hX2 1) rfl (by decide) (Nat.le_of_ble_eq_true rfl) (fun r26 Gc26 q26 => ?_) (fun E9 G9 h9 => h9.elim)
    obtain ⟨rfl, hX26, kt26_⟩ := q26
    have kt26 := (kt2).trans kt26_
    refine y_blk 0 tq_X12_empty (z := (29, [(0, .ref (ad 200)), (1, .int post), (2, .int isFirst)], [.int 0])) rfl ?_
    exact y_iret tq_X12_empty rfl rfl (⟨⟨_, rfl⟩, ad, _, hX26, rfl, kt26, Or.inr (⟨rif c21, rfl, (rSm.in0 (rSm.in0 rSm.rfl'))⟩)⟩)
set_option maxHeartbeats 4000000 in
set_option maxRecDepth 100000 in
theorem m_X12_ofWire_v {l : Launch} {S0 : State} {A0 : Array Value} {D : va_G} {aC : Nat → ClassId} {ic : Int32 → Nat} {de : Nat} {ad : Nat → Nat} {G : AH} {ρ : RS} (hS : yS l S0 A0 D aC) (hI : yIc S0 ic de) (hX : atR aC ic de ad G ρ) (wire : Int32) (what : Int32) : yM l S0 D yX12_ofWire cX12_ofWire 3 (some .int) 19 0 0 [.ref (ad 200), .int wire, .int what] G (fun r G1 => (∃ v : Int32, r = some (.int v)) ∧ ∃ (ad1 : Nat → Nat) (ρ1 : RS), atR aC ic de ad1 G1 ρ1 ∧ ad1 200 = ad 200 ∧ yTg kR G G1 ∧ roOfWire wire what r ρ ρ1) (fun _ _ => False) := by
  refine yM.ofK K_X12_ofWire rfl (by decide) (Nat.le_of_ble_eq_true rfl) ?_
  refine y_blk 2 tq_X12_ofWire (z := (2, [(0, .ref (ad 200)), (1, .int wire), (2, .int what)], [.int 0, .ref (ad 200)])) rfl ?_
  refine y_put hS tq_X12_ofWire rfl fp_X12_51_X12 hX.m (by omega) rfl rfl (Nat.le_of_ble_eq_true rfl) ?_
  have hX2 : atR aC ic de ad (yup G (ad 200) (200, .inr (16, [.int 0, .int (rI ρ 1), .int (rI ρ 2), .ref (ad 201), .int (rI ρ 3), .int (rI ρ 4), .ref (ad 210), .ref (ad 211), .ref (ad 212), .ref (ad 213), .int (rI ρ 5), .int (rI ρ 6), .int (rI ρ 7), .ref (ad 202), .ref (ad 214), .int (rI ρ 8), .ref (ad 203), .ref (ad 215), .ref (ad 216), .int (rI ρ 9)]))) ((rin ρ 0 0)) := atR.setIb hX rfl rfl (hX.2.setI (by decide))
  have kt2 : yTg kR G (yup G (ad 200) (200, .inr (16, [.int 0, .int (rI ρ 1), .int (rI ρ 2), .ref (ad 201), .int (rI ρ 3), .int (rI ρ 4), .ref (ad 210), .ref (ad 211), .ref (ad 212), .ref (ad 213), .int (rI ρ 5), .int (rI ρ 6), .int (rI ρ 7), .ref (ad 202), .ref (ad 214), .int (rI ρ 8), .ref (ad 203), .ref (ad 215), .ref (ad 216), .int (rI ρ 9)]))) := ((yTg.rfl' (f := kR) (G := G))).trans (yTg.up hX.m (kR_n (by omega) (by omega)))
  show Y l S0 D K_X12_ofWire 19 0 0 (fun r G1 => (∃ v : Int32, r = some (.int v)) ∧ ∃ (ad1 : Nat → Nat) (ρ1 : RS), atR aC ic de ad1 G1 ρ1 ∧ ad1 200 = ad 200 ∧ yTg kR G G1 ∧ roOfWire wire what r ρ ρ1) (fun _ _ => False) (2 + 3) [(0, .ref (ad 200)), (1, .int wire), (2, .int what)] [] (yup G (ad 200) (200, .inr (16, [.int 0, .int (rI ρ 1), .int (rI ρ 2), .ref (ad 201), .int (rI ρ 3), .int (rI ρ 4), .ref (ad 210), .ref (ad 211), .ref (ad 212), .ref (ad 213), .int (rI ρ 5), .int (rI ρ 6), .int (rI ρ 7), .ref (ad 202), .ref (ad 214), .int (rI ρ 8), .ref (ad 203), .ref (ad 215), .ref (ad 216), .int (rI ρ 9)]))) 0 0
  generalize yup G (ad 200) (200, .inr (16, [.int 0, .int (rI ρ 1), .int (rI ρ 2), .ref (ad 201), .int (rI ρ 3), .int (rI ρ 4), .ref (ad 210), .ref (ad 211), .ref (ad 212), .ref (ad 213), .int (rI ρ 5), .int (rI ρ 6), .int (rI ρ 7), .ref (ad 202), .ref (ad 214), .int (rI ρ 8), .ref (ad 203), .ref (ad 215), .ref (ad 216), .int (rI ρ 9)])) = G2 at hX2 kt2 ⊢
  refine y_blk 3 tq_X12_ofWire (z := (8, [(0, .ref (ad 200)), (1, .int wire), (2, .int what)], [.ref (ad 200), .int 0, .int wire])) rfl ?_
  refine y_get hS tq_X12_ofWire (v := .ref (ad 216)) rfl fg_X12_45_X12 hX2.m rfl ?_
  refine y_blk 0 tq_X12_ofWire (z := (11, [(0, .ref (ad 200)), (1, .int wire), (2, .int what)], [.ref (ad 216), .int 0, .int wire])) rfl ?_
  refine y_callF hS tq_X12_ofWire rfl (As := []) rfl cf_X12_58 (Or.inl ⟨_, (hX2.ls 216 (by decide)).1⟩) (m_Jsize hS (hX2.ls 216 (by decide))) rfl (by decide) (Nat.le_of_ble_eq_true rfl) (fun r11 Gc11 q11 => ?_) (fun _ _ h9 => h9.elim)
  obtain ⟨rfl, eG11⟩ := q11
  have eG11 := eG11.symm
  subst eG11
  refine y_blk 2 tq_X12_ofWire (z := (18, [(0, .ref (ad 200)), (1, .int wire), (2, .int what)], [.int ((Int32.ofNat (rZ ((rin ρ 0 0)) 216)) - 1), .int 0, .int wire])) rfl ?_
  refine y_callS hS tq_X12_ofWire rfl (As := [.int wire, .int 0, .int ((Int32.ofNat (rZ ((rin ρ 0 0)) 216)) - 1)]) rfl cs_X12_54 (m_X12_in hS wire 0 ((Int32.ofNat (rZ ((rin ρ 0 0)) 216)) - 1)) rfl (by decide) (Nat.le_of_ble_eq_true rfl) (fun r18 Gc18 q18 => ?_) (fun E9 G9 h9 => h9.elim)
  obtain ⟨rfl, eG18⟩ := q18
  have eG18 := eG18.symm
  subst eG18
  refine y_blk 0 tq_X12_ofWire (z := (21, [(0, .ref (ad 200)), (1, .int wire), (2, .int what)], [.int (if 0 ≤ wire ∧ wire ≤ ((Int32.ofNat (rZ ((rin ρ 0 0)) 216)) - 1) then 1 else 0)])) rfl ?_
  refine y_if_ne tq_X12_ofWire 30 rfl rfl (fun c21 => ?_) (fun c21 => ?_)
  · skip
    have hq21 := yif1 c21
    have hn21 := yinN (n := rZ ((rin ρ 0 0)) 216) (by have := hX2.2.le10 216 (by decide); omega) hq21
    have ha21 := hn21.1
    have hb21 := hn21.2
    refine y_blk 3 tq_X12_ofWire (z := (33, [(0, .ref (ad 200)), (1, .int wire), (2, .int what)], [.int 4, .int 0, .int what])) rfl ?_
    refine y_callS hS tq_X12_ofWire rfl (As := [.int what, .int 0, .int 4]) rfl cs_X12_54 (m_X12_in hS what 0 4) rfl (by decide) (Nat.le_of_ble_eq_true rfl) (fun r33 Gc33 q33 => ?_) (fun E9 G9 h9 => h9.elim)
    obtain ⟨rfl, eG33⟩ := q33
    have eG33 := eG33.symm
    subst eG33
    refine y_blk 0 tq_X12_ofWire (z := (36, [(0, .ref (ad 200)), (1, .int wire), (2, .int what)], [.int (if 0 ≤ what ∧ what ≤ 4 then 1 else 0)])) rfl ?_
    refine y_if_ne tq_X12_ofWire 45 rfl rfl (fun c36 => ?_) (fun c36 => ?_)
    · skip
      have hq36 := yif1 c36
      simp only [yle, yl_m1, yl_0, yl_1, yl_2, yl_3, yl_4, yl_5, yl_6, yl_7, yl_8, yl_9, yl_10, yl_11, yl_12, yl_60, yl_90, yl_239, yl_240] at hq36
      have ha36 := hq36.1
      have hb36 := hq36.2
      refine y_blk 3 tq_X12_ofWire (z := (48, [(0, .ref (ad 200)), (1, .int wire), (2, .int what)], [.int what, .int wire, .ref (ad 200)])) rfl ?_
      refine y_callV hS tq_X12_ofWire rfl (As := [.int wire, .int what]) rfl cv_X12_277 hX2.m (m_X12_wireNow_v hS hI hX2 wire what (by assumption) (by assumption) (by omega)) rfl (by decide) (Nat.le_of_ble_eq_true rfl) (fun r48 Gc48 q48 => ?_) (fun E9 G9 h9 => h9.elim)
      obtain ⟨rfl, eG48⟩ := q48
      have eG48 := eG48.symm
      subst eG48
      refine y_blk 0 tq_X12_ofWire (z := (51, [(0, .ref (ad 200)), (1, .int wire), (2, .int what)], [.int (rwnN ((rin ρ 0 0)) (Int32.toNatClampNeg wire) what)])) rfl ?_
      exact y_iret tq_X12_ofWire rfl rfl (⟨⟨_, rfl⟩, ad, _, hX2, rfl, kt2, Or.inl (⟨⟨yif1 c21, yif1 c36⟩, rfl, rfl, (rSm.in0 rSm.rfl')⟩)⟩)
    · skip
      refine y_blk 2 tq_X12_ofWire (z := (41, [(0, .ref (ad 200)), (1, .int wire), (2, .int what)], [.int 2, .ref (ad 200)])) rfl ?_
      refine y_callV hS tq_X12_ofWire rfl (As := [.int 2]) rfl cv_X12_140 hX2.m (m_X12_no hS hI hX2 2) rfl (by decide) (Nat.le_of_ble_eq_true rfl) (fun r41 Gc41 q41 => ?_) (fun E9 G9 h9 => h9.elim)
      obtain ⟨rfl, hX41, kt41_⟩ := q41
      have kt41 := (kt2).trans kt41_
      refine y_blk 0 tq_X12_ofWire (z := (44, [(0, .ref (ad 200)), (1, .int wire), (2, .int what)], [.int 0])) rfl ?_
      exact y_iret tq_X12_ofWire rfl rfl (⟨⟨_, rfl⟩, ad, _, hX41, rfl, kt41, Or.inr (Or.inr (⟨⟨yif1 c21, rif c36⟩, rfl, (rSm.in0 (rSm.in0 rSm.rfl'))⟩))⟩)
  · skip
    refine y_blk 2 tq_X12_ofWire (z := (26, [(0, .ref (ad 200)), (1, .int wire), (2, .int what)], [.int 1, .ref (ad 200)])) rfl ?_
    refine y_callV hS tq_X12_ofWire rfl (As := [.int 1]) rfl cv_X12_140 hX2.m (m_X12_no hS hI hX2 1) rfl (by decide) (Nat.le_of_ble_eq_true rfl) (fun r26 Gc26 q26 => ?_) (fun E9 G9 h9 => h9.elim)
    obtain ⟨rfl, hX26, kt26_⟩ := q26
    have kt26 := (kt2).trans kt26_
    refine y_blk 0 tq_X12_ofWire (z := (29, [(0, .ref (ad 200)), (1, .int wire), (2, .int what)], [.int 0])) rfl ?_
    exact y_iret tq_X12_ofWire rfl rfl (⟨⟨_, rfl⟩, ad, _, hX26, rfl, kt26, Or.inr (Or.inl (⟨rif c21, rfl, (rSm.in0 (rSm.in0 rSm.rfl'))⟩))⟩)
