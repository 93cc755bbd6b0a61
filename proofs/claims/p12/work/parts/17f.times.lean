/-! ===== what a cell, a minute is asked: the class ===== -/
def xwlk (σ : XS) (m : Int32) : Int64 := if σ.2.2.1 2 ≤ m ∧ m ≤ σ.2.2.1 3 then (xall (σ.2.2.1 0 * σ.2.2.1 1)) &&& ((σ.2.2.2.1 2) ^^^ (-1)) else ((xall (σ.2.2.1 0 * σ.2.2.1 1)) &&& ((σ.2.2.2.1 2) ^^^ (-1))) &&& ((σ.2.2.2.1 4) ^^^ (-1))
noncomputable def xgwF (σ : XS) (cell m : Int32) : Int32 → Int32 → Int32 := fun p a => if xis (xsgV σ p m (xbri σ)) cell then a ||| (1 <<< (p &&& 31)) else a
noncomputable def xgwN (σ : XS) (cell m : Int32) : Int32 := itI (xgwF σ cell m) 0 (σ.1 5).toInt.toNat
def xsoF (σ : XS) (cell m : Int32) : Int32 → Int32 → Int32 := fun p a => a ||| (if xsta σ p m = cell then 1 <<< (p &&& 31) else 0)
def xsoN (σ : XS) (cell m : Int32) : Int32 := itI (xsoF σ cell m) 0 (σ.1 5).toInt.toNat
def xcoF (σ : XS) (m : Int32) : Int32 → Int32 → Int32 := fun p a => a + (if ¬ xsta σ p m = -1 then 1 else 0)
def xcoN (σ : XS) (m : Int32) : Int32 := itI (xcoF σ m) 0 (σ.1 5).toInt.toNat
def xctF (σ : XS) (m : Int32) : Int32 → Int32 → Int32 := fun p a => a + (if ¬ xsta σ p m = -1 then (if 90 ≤ m - xat σ 5 p then 1 else 0) else 0)
def xctN (σ : XS) (m : Int32) : Int32 := itI (xctF σ m) 0 (σ.1 5).toInt.toNat
def xepF (σ : XS) (m : Int32) : Int32 → Int32 → Int32 := fun p a => if xis (xhld σ m) (xat σ 10 p) then a else a + 1
def xepN (σ : XS) (m : Int32) : Int32 := itI (xepF σ m) 0 (σ.1 10).toInt.toNat
def xkoF (σ : XS) (m : Int32) : Int32 → Int32 → Int32 := fun p a => if xat σ 15 p = -1 then a else if ¬ xsta σ (xat σ 15 p) m = -1 then a else a + 1
def xkoN (σ : XS) (m : Int32) : Int32 := itI (xkoF σ m) 0 (6 : Int32).toInt.toNat
/-- the first minute from a to b for which it is so; -1 without one -/
noncomputable def lapF (P : Int32 → Prop) (a : Int32) : Int32 → Int32 → Int32 := fun p v => cif (v = -1 ∧ a ≤ p ∧ P p) p v
noncomputable def lapN (P : Int32 → Prop) (a b : Int32) : Int32 := itI (lapF P a) (-1) (b.toInt.toNat + 1)
section YLN
variable {P : Int32 → Prop} {a b i : Int32} {C : Prop}
theorem lap_no : ∀ n : Nat, n ≤ 1000 → (∀ j : Nat, a.toInt ≤ (j : Int) → j < n → ¬ P (Int32.ofNat j)) → itI (lapF P a) (-1) n = -1
  | 0, _, _ => rfl
  | n + 1, h9, h => by
    show cif (itI (lapF P a) (-1) n = -1 ∧ a ≤ Int32.ofNat n ∧ P (Int32.ofNat n)) (Int32.ofNat n) (itI (lapF P a) (-1) n) = -1
    rw [cif_f (fun q => h n (by have z := q.2.1; rw [yle, yofNat (by omega)] at z; exact z) (Nat.lt_succ_self n) q.2.2)]
    exact lap_no n (by omega) (fun j h1 h2 => h j h1 (by omega))
theorem lap_hit {k : Nat} (hk : a.toInt ≤ (k : Int)) (hP : P (Int32.ofNat k)) (h : ∀ j : Nat, a.toInt ≤ (j : Int) → j < k → ¬ P (Int32.ofNat j)) : ∀ n : Nat, k < n → n ≤ 1000 → itI (lapF P a) (-1) n = Int32.ofNat k
  | 0, hn, _ => absurd hn (Nat.not_lt_zero k)
  | n + 1, hn, h9 => by
    show cif (itI (lapF P a) (-1) n = -1 ∧ a ≤ Int32.ofNat n ∧ P (Int32.ofNat n)) (Int32.ofNat n) (itI (lapF P a) (-1) n) = Int32.ofNat k
    by_cases q : k = n
    · subst q
      rw [cif_t ⟨lap_no k (by omega) h, by rw [yle, yofNat (by omega)]; exact hk, hP⟩]
    · have e := lap_hit hk hP h n (by omega) (by omega)
      rw [cif_f (fun z => by
        have e2 := congrArg Int32.toInt (e.symm.trans z.1)
        have em : (-1 : Int32).toInt = -1 := by decide
        rw [yofNat (by omega), em] at e2
        omega)]
      exact e
theorem lap_r (ok : C ∧ ((0 ≤ a ∧ a ≤ 239) ∧ (0 ≤ b ∧ b ≤ 239) ∧ a ≤ b)) : 0 ≤ a.toInt ∧ 0 ≤ b.toInt ∧ b.toInt ≤ 239 ∧ a.toInt ≤ b.toInt := by
  have e0 : (0 : Int32).toInt = 0 := by decide
  have e9 : (239 : Int32).toInt = 239 := by decide
  obtain ⟨-, ⟨h1, -⟩, ⟨h2, h3⟩, h4⟩ := ok
  rw [yle, e0] at h1 h2
  rw [yle, e9] at h3
  rw [yle] at h4
  exact ⟨h1, h2, h3, h4⟩
theorem lap_f (hf : a.toInt ≤ i.toInt) (ok : C ∧ ((0 ≤ a ∧ a ≤ 239) ∧ (0 ≤ b ∧ b ≤ 239) ∧ a ≤ b)) (c : ¬ b < i) : a.toInt ≤ (i + 1).toInt := by
  obtain ⟨r1, r2, r3, r4⟩ := lap_r ok
  have e1 : (1 : Int32).toInt = 1 := by decide
  rw [ylt] at c
  rw [yadd (by omega) (by omega), e1]
  omega
theorem lap_0 : ∀ j : Nat, a.toInt ≤ (j : Int) → (j : Int) < a.toInt → ¬ P (Int32.ofNat j) := fun j h1 h2 => absurd h2 (by omega)
theorem lap_s (na : ∀ j : Nat, a.toInt ≤ (j : Int) → (j : Int) < i.toInt → ¬ P (Int32.ofNat j)) (hf : a.toInt ≤ i.toInt) (ok : C ∧ ((0 ≤ a ∧ a ≤ 239) ∧ (0 ≤ b ∧ b ≤ 239) ∧ a ≤ b)) (c : ¬ b < i) (hq : ¬ P i) : ∀ j : Nat, a.toInt ≤ (j : Int) → (j : Int) < (i + 1).toInt → ¬ P (Int32.ofNat j) := by
  obtain ⟨r1, r2, r3, r4⟩ := lap_r ok
  have e1 : (1 : Int32).toInt = 1 := by decide
  rw [ylt] at c
  intro j h1 h2
  rw [yadd (by omega) (by omega), e1] at h2
  by_cases q : (j : Int) < i.toInt
  · exact na j h1 q
  · have e : Int32.ofNat j = i := Int32.toInt_inj.mp (by rw [yofNat (by omega)]; omega)
    rw [e]
    exact hq
theorem lap_e (na : ∀ j : Nat, a.toInt ≤ (j : Int) → (j : Int) < i.toInt → ¬ P (Int32.ofNat j)) (ok : C ∧ ((0 ≤ a ∧ a ≤ 239) ∧ (0 ≤ b ∧ b ≤ 239) ∧ a ≤ b)) (c : b < i) : -1 = lapN P a b := by
  obtain ⟨r1, r2, r3, r4⟩ := lap_r ok
  rw [ylt] at c
  exact (lap_no (b.toInt.toNat + 1) (by omega) (fun j h1 h2 => na j h1 (by omega))).symm
theorem lap_at (na : ∀ j : Nat, a.toInt ≤ (j : Int) → (j : Int) < i.toInt → ¬ P (Int32.ofNat j)) (hf : a.toInt ≤ i.toInt) (ok : C ∧ ((0 ≤ a ∧ a ≤ 239) ∧ (0 ≤ b ∧ b ≤ 239) ∧ a ≤ b)) (c : ¬ b < i) (hp : P i) : i = lapN P a b := by
  obtain ⟨r1, r2, r3, r4⟩ := lap_r ok
  rw [ylt] at c
  have e : Int32.ofNat i.toInt.toNat = i := Int32.toInt_inj.mp (by rw [yofNat (by omega)]; omega)
  have h := lap_hit (P := P) (a := a) (k := i.toInt.toNat) (by omega) (by rw [e]; exact hp) (fun j h1 h2 => na j h1 (by omega)) (b.toInt.toNat + 1) (by omega) (by omega)
  exact (h.trans e).symm
theorem lap_cg {Q : Int32 → Prop} (n9 : b.toInt ≤ 239) (h : ∀ j : Nat, j ≤ 239 → (P (Int32.ofNat j) ↔ Q (Int32.ofNat j))) : lapN P a b = lapN Q a b := by
  unfold lapN
  refine itI_cg (fun j hj => ?_)
  funext v
  exact cif_cg (and_congr Iff.rfl (and_congr Iff.rfl (h j (by omega))))
end YLN
abbrev xuwQ (σ : XS) (cell : Int32) : Int32 → Prop := fun m => ¬ xis (xsgV σ (-1) m (xbri σ)) cell
set_option maxHeartbeats 4000000 in
set_option maxRecDepth 100000 in
theorem m_X1_walkable_v {l : Launch} {S0 : State} {A0 : Array Value} {D : va_G} {aC : Nat → ClassId} {ad : Nat → Nat} {G : AH} {σ : XS} (hS : yS l S0 A0 D aC) (hX : atX aC ad G σ) (minute : Int32) : yM l S0 D yX1_walkable cX1_walkable 3 (some .long) 12 0 0 [.ref (ad 2), .int minute] G (fun r G1 => r = some (.long (xwlk σ minute)) ∧ G1 = G) (fun _ _ => False) := by
  refine yM.ofK K_X1_walkable rfl (by decide) (Nat.le_of_ble_eq_true rfl) ?_
  refine y_blk 2 tq_X1_walkable (z := (2, [(0, .ref (ad 2)), (1, .int minute)], [.ref (ad 2), .int minute])) rfl ?_
  refine y_get hS tq_X1_walkable (v := .int (σ.2.2.1 2)) rfl fg_X1_9_X1 (hX.1 2 _ rfl) rfl ?_
  refine y_blk 1 tq_X1_walkable (z := (6, [(0, .ref (ad 2)), (1, .int minute)], [.ref (ad 2), .int (σ.2.2.1 2), .int minute])) rfl ?_
  refine y_get hS tq_X1_walkable (v := .int (σ.2.2.1 3)) rfl fg_X1_59_X1 (hX.1 2 _ rfl) rfl ?_
  refine y_blk 0 tq_X1_walkable (z := (9, [(0, .ref (ad 2)), (1, .int minute)], [.int (σ.2.2.1 3), .int (σ.2.2.1 2), .int minute])) rfl ?_
  refine y_callSN hS tq_X1_walkable rfl (As := [.int minute, .int (σ.2.2.1 2), .int (σ.2.2.1 3)]) rfl cs_X1_82 (m_X8_isIn hS  minute (σ.2.2.1 2) (σ.2.2.1 3)) rfl (by decide) (Nat.le_of_ble_eq_true rfl) (fun r9 Gc9 q9 => ?_) (fun E9 G9 h9 => h9.elim)
  obtain ⟨rfl, eG9⟩ := q9
  have eG9 := eG9.symm
  subst eG9
  refine y_blk 2 tq_X1_walkable (z := (14, [(2, .int (if (σ.2.2.1 2) ≤ minute ∧ minute ≤ (σ.2.2.1 3) then 1 else 0)), (0, .ref (ad 2)), (1, .int minute)], [.int (if (σ.2.2.1 2) ≤ minute ∧ minute ≤ (σ.2.2.1 3) then 1 else 0)])) rfl ?_
  refine y_if_eq tq_X1_walkable 24 rfl rfl (fun c14 => ?_) (fun c14 => ?_)
  · skip
    refine y_blk 1 tq_X1_walkable (z := (25, [(2, .int (if (σ.2.2.1 2) ≤ minute ∧ minute ≤ (σ.2.2.1 3) then 1 else 0)), (0, .ref (ad 2)), (1, .int minute)], [.ref (ad 2)])) rfl ?_
    refine y_callV hS tq_X1_walkable rfl (As := []) rfl cv_X1_86 (hX.1 2 _ rfl) (m_X1_openCells hS hX ) rfl (by decide) (Nat.le_of_ble_eq_true rfl) (fun r25 Gc25 q25 => ?_) (fun E9 G9 h9 => h9.elim)
    obtain ⟨rfl, eG25⟩ := q25
    have eG25 := eG25.symm
    subst eG25
    refine y_blk 1 tq_X1_walkable (z := (29, [(2, .int (if (σ.2.2.1 2) ≤ minute ∧ minute ≤ (σ.2.2.1 3) then 1 else 0)), (0, .ref (ad 2)), (1, .int minute)], [.ref (ad 2), .long ((xall (σ.2.2.1 0 * σ.2.2.1 1)) &&& ((σ.2.2.2.1 2) ^^^ (-1)))])) rfl ?_
    refine y_get hS tq_X1_walkable (v := .long (σ.2.2.2.1 4)) rfl fg_X1_35_X1 (hX.1 2 _ rfl) rfl ?_
    refine y_blk 0 tq_X1_walkable (z := (32, [(2, .int (if (σ.2.2.1 2) ≤ minute ∧ minute ≤ (σ.2.2.1 3) then 1 else 0)), (0, .ref (ad 2)), (1, .int minute)], [.long (σ.2.2.2.1 4), .long ((xall (σ.2.2.1 0 * σ.2.2.1 1)) &&& ((σ.2.2.2.1 2) ^^^ (-1)))])) rfl ?_
    refine y_ldc2 hS tq_X1_walkable rfl ld_X1_66 ?_
    refine y_blk 2 tq_X1_walkable (z := (37, [(2, .int (if (σ.2.2.1 2) ≤ minute ∧ minute ≤ (σ.2.2.1 3) then 1 else 0)), (0, .ref (ad 2)), (1, .int minute)], [.long (((xall (σ.2.2.1 0 * σ.2.2.1 1)) &&& ((σ.2.2.2.1 2) ^^^ (-1))) &&& ((σ.2.2.2.1 4) ^^^ (-1)))])) rfl ?_
    exact y_lret tq_X1_walkable rfl rfl (⟨by first | rfl | (congr 2; unfold xwlk; (try simp only [yif0, Classical.not_not] at *); (repeat' split) <;> first | rfl | (exfalso; simp only [ylt, yle, yeqI, yl_m1, yl_0, yl_1, yl_2, yl_3, yl_4, yl_5, yl_6, yl_7, yl_8, yl_9, yl_10, yl_11, yl_12, yl_15, yl_16, yl_20, yl_60, yl_64, yl_90, yl_97, yl_99, yl_100, yl_120, yl_239, yl_240] at *; omega)), rfl⟩)
  · skip
    refine y_blk 1 tq_X1_walkable (z := (18, [(2, .int (if (σ.2.2.1 2) ≤ minute ∧ minute ≤ (σ.2.2.1 3) then 1 else 0)), (0, .ref (ad 2)), (1, .int minute)], [.ref (ad 2)])) rfl ?_
    refine y_callV hS tq_X1_walkable rfl (As := []) rfl cv_X1_86 (hX.1 2 _ rfl) (m_X1_openCells hS hX ) rfl (by decide) (Nat.le_of_ble_eq_true rfl) (fun r18 Gc18 q18 => ?_) (fun E9 G9 h9 => h9.elim)
    obtain ⟨rfl, eG18⟩ := q18
    have eG18 := eG18.symm
    subst eG18
    refine y_blk 1 tq_X1_walkable (z := (37, [(2, .int (if (σ.2.2.1 2) ≤ minute ∧ minute ≤ (σ.2.2.1 3) then 1 else 0)), (0, .ref (ad 2)), (1, .int minute)], [.long ((xall (σ.2.2.1 0 * σ.2.2.1 1)) &&& ((σ.2.2.2.1 2) ^^^ (-1)))])) rfl ?_
    exact y_lret tq_X1_walkable rfl rfl (⟨by first | rfl | (congr 2; unfold xwlk; (try simp only [yif0, Classical.not_not] at *); (repeat' split) <;> first | rfl | (exfalso; simp only [ylt, yle, yeqI, yl_m1, yl_0, yl_1, yl_2, yl_3, yl_4, yl_5, yl_6, yl_7, yl_8, yl_9, yl_10, yl_11, yl_12, yl_15, yl_16, yl_20, yl_60, yl_64, yl_90, yl_97, yl_99, yl_100, yl_120, yl_239, yl_240] at *; omega)), rfl⟩)
set_option maxHeartbeats 4000000 in
set_option maxRecDepth 100000 in
theorem m_X8_guardsWhoSee_v {l : Launch} {S0 : State} {A0 : Array Value} {D : va_G} {aC : Nat → ClassId} {ad : Nat → Nat} {G : AH} {σ : XS} (hS : yS l S0 A0 D aC) (hX : atX aC ad G σ) (cell : Int32) (minute : Int32) : yM l S0 D yX8_guardsWhoSee cX8_guardsWhoSee 7 (some .int) 13 0 0 [.ref (ad 1), .int cell, .int minute] G (fun r G1 => r = some (.int (xgwN σ cell minute)) ∧ G1 = G) (fun _ _ => False) := by
  refine yM.ofK K_X8_guardsWhoSee rfl (by decide) (Nat.le_of_ble_eq_true rfl) ?_
  have J11 : ∀ (n11 : Nat) (v11_3 : Int64) (v11_5 : Int32) (v11_6 : Int32) (hh11 : 0 ≤ v11_6.toInt ∧ v11_6.toInt ≤ (σ.1 5 : Int32).toInt) (hb11 : v11_3 = xbri σ) (ea11 : v11_5 = itI (xgwF σ cell minute) 0 v11_6.toInt.toNat), ((σ.1 5 : Int32).toInt - v11_6.toInt).toNat = n11 → Y l S0 D K_X8_guardsWhoSee 13 0 0 (fun r G1 => r = some (.int (xgwN σ cell minute)) ∧ G1 = G) (fun _ _ => False) 11 [(0, .ref (ad 1)), (1, .int cell), (2, .int minute), (3, .long v11_3), (5, .int v11_5), (6, .int v11_6)] [] G 0 0 := by
    intro n11
    induction n11 using Nat.strongRecOn with
    | _ n11 ih11 =>
    intro v11_3 v11_5 v11_6 hh11 hb11 ea11 hn11
    subst hn11
    refine y_blk 2 tq_X8_guardsWhoSee (z := (14, [(0, .ref (ad 1)), (1, .int cell), (2, .int minute), (3, .long v11_3), (5, .int v11_5), (6, .int v11_6)], [.ref (ad 1), .int v11_6])) rfl ?_
    refine y_get hS tq_X8_guardsWhoSee (v := .ref (ad 6)) rfl fg_X8_33_X8 (hX.1 1 _ rfl) rfl ?_
    refine y_blk 0 tq_X8_guardsWhoSee (z := (17, [(0, .ref (ad 1)), (1, .int cell), (2, .int minute), (3, .long v11_3), (5, .int v11_5), (6, .int v11_6)], [.ref (ad 6), .int v11_6])) rfl ?_
    refine y_callV hS tq_X8_guardsWhoSee rfl (As := []) rfl cv_X8_182 (hX.1 6 _ rfl) (m_X2_count hS hX ) rfl (by decide) (Nat.le_of_ble_eq_true rfl) (fun r17 Gc17 q17 => ?_) (fun E9 G9 h9 => h9.elim)
    obtain ⟨rfl, eG17⟩ := q17
    have eG17 := eG17.symm
    subst eG17
    refine y_blk 0 tq_X8_guardsWhoSee (z := (20, [(0, .ref (ad 1)), (1, .int cell), (2, .int minute), (3, .long v11_3), (5, .int v11_5), (6, .int v11_6)], [.int (σ.1 5), .int v11_6])) rfl ?_
    refine y_icmp_ge tq_X8_guardsWhoSee 53 rfl rfl (fun c20 => ?_) (fun c20 => ?_)
    · skip
      refine y_blk 1 tq_X8_guardsWhoSee (z := (55, [(0, .ref (ad 1)), (1, .int cell), (2, .int minute), (3, .long v11_3), (5, .int v11_5), (6, .int v11_6)], [.int v11_5])) rfl ?_
      exact y_iret tq_X8_guardsWhoSee rfl rfl (⟨congrArg (fun z => some (Value.int z)) (itI_e ea11 hh11 c20), rfl⟩)
    · skip
      refine y_blk 4 tq_X8_guardsWhoSee (z := (28, [(0, .ref (ad 1)), (1, .int cell), (2, .int minute), (3, .long v11_3), (5, .int v11_5), (6, .int v11_6)], [.long v11_3, .int minute, .int v11_6, .ref (ad 1)])) rfl ?_
      refine y_callV hS tq_X8_guardsWhoSee rfl (As := [.int v11_6, .int minute, .long v11_3]) rfl cv_X8_202 (hX.1 1 _ rfl) (m_X8_sightOf_v hS hX v11_6 minute v11_3 (by rw [yle] at c20; have h5 := hX.2.1 5; have h6 := xcap_le 5; omega) (Or.inr hh11.1)) rfl (by decide) (Nat.le_of_ble_eq_true rfl) (fun r28 Gc28 q28 => ?_) (fun E9 G9 h9 => h9.elim)
      obtain ⟨rfl, eG28⟩ := q28
      have eG28 := eG28.symm
      subst eG28
      refine y_blk 1 tq_X8_guardsWhoSee (z := (32, [(0, .ref (ad 1)), (1, .int cell), (2, .int minute), (3, .long v11_3), (5, .int v11_5), (6, .int v11_6)], [.int cell, .long (xsgV σ v11_6 minute v11_3)])) rfl ?_
      refine y_callS hS tq_X8_guardsWhoSee rfl (As := [.long (xsgV σ v11_6 minute v11_3), .int cell]) rfl cs_X8_124 (m_X8_isOf hS  (xsgV σ v11_6 minute v11_3) cell) rfl (by decide) (Nat.le_of_ble_eq_true rfl) (fun r32 Gc32 q32 => ?_) (fun E9 G9 h9 => h9.elim)
      obtain ⟨rfl, eG32⟩ := q32
      have eG32 := eG32.symm
      subst eG32
      refine y_blk 0 tq_X8_guardsWhoSee (z := (35, [(0, .ref (ad 1)), (1, .int cell), (2, .int minute), (3, .long v11_3), (5, .int v11_5), (6, .int v11_6)], [.int (if xis (xsgV σ v11_6 minute v11_3) cell then 1 else 0)])) rfl ?_
      refine y_if_eq tq_X8_guardsWhoSee 47 rfl rfl (fun c35 => ?_) (fun c35 => ?_)
      · skip
        refine y_blk 2 tq_X8_guardsWhoSee (z := (11, [(6, .int (v11_6 + 1)), (0, .ref (ad 1)), (1, .int cell), (2, .int minute), (3, .long v11_3), (5, .int v11_5)], [])) rfl ?_
        refine y_pick (L2 := [(0, .ref (ad 1)), (1, .int cell), (2, .int minute), (3, .long v11_3), (5, .int v11_5), (6, .int (v11_6 + 1))]) [1, 2, 3, 4, 5, 0] rfl ?_
        exact ih11 _ (by exact ydec c20) v11_3 v11_5 (v11_6 + 1) (by first | exact xcn_step hh11 c20 | exact xcn_init (hX.2.1 5).1) (by first | exact hb11 | rfl) (by first | exact itI_s ea11 hh11 c20 (by unfold xgwF; rw [← hb11]; (try simp only [yif0, Classical.not_not] at *); (repeat' split) <;> first | contradiction | with_reducible rfl) | with_reducible exact itI_0) rfl
      · skip
        refine y_blk 8 tq_X8_guardsWhoSee (z := (11, [(6, .int (v11_6 + 1)), (5, .int (v11_5 ||| (1 <<< (v11_6 &&& 31)))), (0, .ref (ad 1)), (1, .int cell), (2, .int minute), (3, .long v11_3)], [])) rfl ?_
        refine y_pick (L2 := [(0, .ref (ad 1)), (1, .int cell), (2, .int minute), (3, .long v11_3), (5, .int (v11_5 ||| (1 <<< (v11_6 &&& 31)))), (6, .int (v11_6 + 1))]) [2, 3, 4, 5, 1, 0] rfl ?_
        exact ih11 _ (by exact ydec c20) v11_3 (v11_5 ||| (1 <<< (v11_6 &&& 31))) (v11_6 + 1) (by first | exact xcn_step hh11 c20 | exact xcn_init (hX.2.1 5).1) (by first | exact hb11 | rfl) (by first | exact itI_s ea11 hh11 c20 (by unfold xgwF; rw [← hb11]; (try simp only [yif0, Classical.not_not] at *); (repeat' split) <;> first | contradiction | with_reducible rfl) | with_reducible exact itI_0) rfl
  refine y_blk 1 tq_X8_guardsWhoSee (z := (1, [(0, .ref (ad 1)), (1, .int cell), (2, .int minute)], [.ref (ad 1)])) rfl ?_
  refine y_callV hS tq_X8_guardsWhoSee rfl (As := []) rfl cv_X8_171 (hX.1 1 _ rfl) (m_X8_brightCells_v hS hX ) rfl (by decide) (Nat.le_of_ble_eq_true rfl) (fun r1 Gc1 q1 => ?_) (fun E9 G9 h9 => h9.elim)
  obtain ⟨rfl, eG1⟩ := q1
  have eG1 := eG1.symm
  subst eG1
  refine y_blk 5 tq_X8_guardsWhoSee (z := (11, [(6, .int 0), (5, .int 0), (3, .long (xbri σ)), (0, .ref (ad 1)), (1, .int cell), (2, .int minute)], [])) rfl ?_
  refine y_pick (L2 := [(0, .ref (ad 1)), (1, .int cell), (2, .int minute), (3, .long (xbri σ)), (5, .int 0), (6, .int 0)]) [3, 4, 5, 2, 1, 0] rfl ?_
  exact J11 _ (xbri σ) 0 0 (by first | exact xcn_step hh11 c20 | exact xcn_init (hX.2.1 5).1) (by first | exact hb11 | rfl) (by first | exact itI_s ea11 hh11 c20 (by unfold xgwF; rw [← hb11]; (try simp only [yif0, Classical.not_not] at *); (repeat' split) <;> first | contradiction | with_reducible rfl) | with_reducible exact itI_0) rfl
set_option maxHeartbeats 4000000 in
set_option maxRecDepth 100000 in
theorem m_X2_setOn_v {l : Launch} {S0 : State} {A0 : Array Value} {D : va_G} {aC : Nat → ClassId} {ad : Nat → Nat} {G : AH} {σ : XS} (hS : yS l S0 A0 D aC) (hX : atX aC ad G σ) (cell : Int32) (minute : Int32) : yM l S0 D yX2_setOn cX2_setOn 5 (some .int) 12 0 0 [.ref (ad 6), .int cell, .int minute] G (fun r G1 => r = some (.int (xsoN σ cell minute)) ∧ G1 = G) (fun _ _ => False) := by
  refine yM.ofK K_X2_setOn rfl (by decide) (Nat.le_of_ble_eq_true rfl) ?_
  have J5 : ∀ (n5 : Nat) (v5_3 : Int32) (v5_4 : Int32) (hh5 : 0 ≤ v5_4.toInt ∧ v5_4.toInt ≤ (σ.1 5 : Int32).toInt) (ea5 : v5_3 = itI (xsoF σ cell minute) 0 v5_4.toInt.toNat), ((σ.1 5 : Int32).toInt - v5_4.toInt).toNat = n5 → Y l S0 D K_X2_setOn 12 0 0 (fun r G1 => r = some (.int (xsoN σ cell minute)) ∧ G1 = G) (fun _ _ => False) 5 [(0, .ref (ad 6)), (1, .int cell), (2, .int minute), (3, .int v5_3), (4, .int v5_4)] [] G 0 0 := by
    intro n5
    induction n5 using Nat.strongRecOn with
    | _ n5 ih5 =>
    intro v5_3 v5_4 hh5 ea5 hn5
    subst hn5
    refine y_blk 2 tq_X2_setOn (z := (8, [(0, .ref (ad 6)), (1, .int cell), (2, .int minute), (3, .int v5_3), (4, .int v5_4)], [.ref (ad 6), .int v5_4])) rfl ?_
    refine y_callV hS tq_X2_setOn rfl (As := []) rfl cv_X2_46 (hX.1 6 _ rfl) (m_X2_count hS hX ) rfl (by decide) (Nat.le_of_ble_eq_true rfl) (fun r8 Gc8 q8 => ?_) (fun E9 G9 h9 => h9.elim)
    obtain ⟨rfl, eG8⟩ := q8
    have eG8 := eG8.symm
    subst eG8
    refine y_blk 0 tq_X2_setOn (z := (11, [(0, .ref (ad 6)), (1, .int cell), (2, .int minute), (3, .int v5_3), (4, .int v5_4)], [.int (σ.1 5), .int v5_4])) rfl ?_
    refine y_icmp_ge tq_X2_setOn 42 rfl rfl (fun c11 => ?_) (fun c11 => ?_)
    · skip
      refine y_blk 1 tq_X2_setOn (z := (43, [(0, .ref (ad 6)), (1, .int cell), (2, .int minute), (3, .int v5_3), (4, .int v5_4)], [.int v5_3])) rfl ?_
      exact y_iret tq_X2_setOn rfl rfl (⟨congrArg (fun z => some (Value.int z)) (itI_e ea5 hh5 c11), rfl⟩)
    · skip
      refine y_blk 4 tq_X2_setOn (z := (19, [(0, .ref (ad 6)), (1, .int cell), (2, .int minute), (3, .int v5_3), (4, .int v5_4)], [.int minute, .int v5_4, .ref (ad 6), .int v5_3])) rfl ?_
      refine y_callV hS tq_X2_setOn rfl (As := [.int v5_4, .int minute]) rfl cv_X2_61 (hX.1 6 _ rfl) (m_X2_standAt_ok hS hX v5_4 minute) rfl (by decide) (Nat.le_of_ble_eq_true rfl) (fun r19 Gc19 q19 => ?_) (fun E9 G9 h9 => h9.elim)
      obtain ⟨rfl, eG19⟩ := q19
      have eG19 := eG19.symm
      subst eG19
      refine y_blk 1 tq_X2_setOn (z := (23, [(0, .ref (ad 6)), (1, .int cell), (2, .int minute), (3, .int v5_3), (4, .int v5_4)], [.int cell, .int (xsta σ v5_4 minute), .int v5_3])) rfl ?_
      refine y_icmp_ne tq_X2_setOn 33 rfl rfl (fun c23 => ?_) (fun c23 => ?_)
      · skip
        refine y_blk 5 tq_X2_setOn (z := (5, [(4, .int (v5_4 + 1)), (3, .int (v5_3 ||| 0)), (0, .ref (ad 6)), (1, .int cell), (2, .int minute)], [])) rfl ?_
        refine y_pick (L2 := [(0, .ref (ad 6)), (1, .int cell), (2, .int minute), (3, .int (v5_3 ||| 0)), (4, .int (v5_4 + 1))]) [2, 3, 4, 1, 0] rfl ?_
        exact ih5 _ (by exact ydec c11) (v5_3 ||| 0) (v5_4 + 1) (by first | exact xcn_step hh5 c11 | exact xcn_init (hX.2.1 5).1) (by first | exact itI_s ea5 hh5 c11 (by unfold xsoF; simp only [yif0, Classical.not_not] at *; (repeat' split) <;> first | contradiction | with_reducible rfl) | with_reducible exact itI_0) rfl
      · skip
        refine y_blk 8 tq_X2_setOn (z := (5, [(4, .int (v5_4 + 1)), (3, .int (v5_3 ||| (1 <<< (v5_4 &&& 31)))), (0, .ref (ad 6)), (1, .int cell), (2, .int minute)], [])) rfl ?_
        refine y_pick (L2 := [(0, .ref (ad 6)), (1, .int cell), (2, .int minute), (3, .int (v5_3 ||| (1 <<< (v5_4 &&& 31)))), (4, .int (v5_4 + 1))]) [2, 3, 4, 1, 0] rfl ?_
        exact ih5 _ (by exact ydec c11) (v5_3 ||| (1 <<< (v5_4 &&& 31))) (v5_4 + 1) (by first | exact xcn_step hh5 c11 | exact xcn_init (hX.2.1 5).1) (by first | exact itI_s ea5 hh5 c11 (by unfold xsoF; simp only [yif0, Classical.not_not] at *; (repeat' split) <;> first | contradiction | with_reducible rfl) | with_reducible exact itI_0) rfl
  refine y_blk 4 tq_X2_setOn (z := (5, [(4, .int 0), (3, .int 0), (0, .ref (ad 6)), (1, .int cell), (2, .int minute)], [])) rfl ?_
  refine y_pick (L2 := [(0, .ref (ad 6)), (1, .int cell), (2, .int minute), (3, .int 0), (4, .int 0)]) [2, 3, 4, 1, 0] rfl ?_
  exact J5 _ 0 0 (by first | exact xcn_step hh5 c11 | exact xcn_init (hX.2.1 5).1) (by first | exact itI_s ea5 hh5 c11 (by unfold xsoF; simp only [yif0, Classical.not_not] at *; (repeat' split) <;> first | contradiction | with_reducible rfl) | with_reducible exact itI_0) rfl
set_option maxHeartbeats 4000000 in
set_option maxRecDepth 100000 in
theorem m_X2_isOnDuty_v {l : Launch} {S0 : State} {A0 : Array Value} {D : va_G} {aC : Nat → ClassId} {ad : Nat → Nat} {G : AH} {σ : XS} (hS : yS l S0 A0 D aC) (hX : atX aC ad G σ) (guard : Int32) (minute : Int32) : yM l S0 D yX2_isOnDuty cX2_isOnDuty 3 (some .boolean) 12 0 0 [.ref (ad 6), .int guard, .int minute] G (fun r G1 => r = some (.int (if ¬ xsta σ guard minute = -1 then 1 else 0)) ∧ G1 = G) (fun _ _ => False) := by
  refine yM.ofK K_X2_isOnDuty rfl (by decide) (Nat.le_of_ble_eq_true rfl) ?_
  refine y_blk 3 tq_X2_isOnDuty (z := (3, [(0, .ref (ad 6)), (1, .int guard), (2, .int minute)], [.int minute, .int guard, .ref (ad 6)])) rfl ?_
  refine y_callV hS tq_X2_isOnDuty rfl (As := [.int guard, .int minute]) rfl cv_X2_61 (hX.1 6 _ rfl) (m_X2_standAt_ok hS hX guard minute) rfl (by decide) (Nat.le_of_ble_eq_true rfl) (fun r3 Gc3 q3 => ?_) (fun E9 G9 h9 => h9.elim)
  obtain ⟨rfl, eG3⟩ := q3
  have eG3 := eG3.symm
  subst eG3
  refine y_blk 1 tq_X2_isOnDuty (z := (7, [(0, .ref (ad 6)), (1, .int guard), (2, .int minute)], [.int (-1), .int (xsta σ guard minute)])) rfl ?_
  refine y_icmp_eq tq_X2_isOnDuty 14 rfl rfl (fun c7 => ?_) (fun c7 => ?_)
  · skip
    refine y_blk 1 tq_X2_isOnDuty (z := (15, [(0, .ref (ad 6)), (1, .int guard), (2, .int minute)], [.int 0])) rfl ?_
    exact y_zret tq_X2_isOnDuty rfl rfl (rfl) (⟨by first | rfl | (congr 2; (repeat' split) <;> first | rfl | (exfalso; simp only [ylt, yle, yeqI, yl_m1, yl_0, yl_1, yl_2, yl_3, yl_4, yl_5, yl_6, yl_7, yl_8, yl_9, yl_10, yl_11, yl_12, yl_15, yl_16, yl_20, yl_60, yl_64, yl_90, yl_97, yl_99, yl_100, yl_120, yl_239, yl_240] at *; omega)), rfl⟩)
  · skip
    refine y_blk 2 tq_X2_isOnDuty (z := (15, [(0, .ref (ad 6)), (1, .int guard), (2, .int minute)], [.int 1])) rfl ?_
    exact y_zret tq_X2_isOnDuty rfl rfl (rfl) (⟨by first | rfl | (congr 2; (repeat' split) <;> first | rfl | (exfalso; simp only [ylt, yle, yeqI, yl_m1, yl_0, yl_1, yl_2, yl_3, yl_4, yl_5, yl_6, yl_7, yl_8, yl_9, yl_10, yl_11, yl_12, yl_15, yl_16, yl_20, yl_60, yl_64, yl_90, yl_97, yl_99, yl_100, yl_120, yl_239, yl_240] at *; omega)), rfl⟩)
set_option maxHeartbeats 4000000 in
set_option maxRecDepth 100000 in
theorem m_X2_countOnDuty_v {l : Launch} {S0 : State} {A0 : Array Value} {D : va_G} {aC : Nat → ClassId} {ad : Nat → Nat} {G : AH} {σ : XS} (hS : yS l S0 A0 D aC) (hX : atX aC ad G σ) (minute : Int32) : yM l S0 D yX2_countOnDuty cX2_countOnDuty 4 (some .int) 13 0 0 [.ref (ad 6), .int minute] G (fun r G1 => r = some (.int (xcoN σ minute)) ∧ G1 = G) (fun _ _ => False) := by
  refine yM.ofK K_X2_countOnDuty rfl (by decide) (Nat.le_of_ble_eq_true rfl) ?_
  have J4 : ∀ (n4 : Nat) (v4_2 : Int32) (v4_3 : Int32) (hh4 : 0 ≤ v4_3.toInt ∧ v4_3.toInt ≤ (σ.1 5 : Int32).toInt) (ea4 : v4_2 = itI (xcoF σ minute) 0 v4_3.toInt.toNat), ((σ.1 5 : Int32).toInt - v4_3.toInt).toNat = n4 → Y l S0 D K_X2_countOnDuty 13 0 0 (fun r G1 => r = some (.int (xcoN σ minute)) ∧ G1 = G) (fun _ _ => False) 4 [(0, .ref (ad 6)), (1, .int minute), (2, .int v4_2), (3, .int v4_3)] [] G 0 0 := by
    intro n4
    induction n4 using Nat.strongRecOn with
    | _ n4 ih4 =>
    intro v4_2 v4_3 hh4 ea4 hn4
    subst hn4
    refine y_blk 2 tq_X2_countOnDuty (z := (6, [(0, .ref (ad 6)), (1, .int minute), (2, .int v4_2), (3, .int v4_3)], [.ref (ad 6), .int v4_3])) rfl ?_
    refine y_callV hS tq_X2_countOnDuty rfl (As := []) rfl cv_X2_46 (hX.1 6 _ rfl) (m_X2_count hS hX ) rfl (by decide) (Nat.le_of_ble_eq_true rfl) (fun r6 Gc6 q6 => ?_) (fun E9 G9 h9 => h9.elim)
    obtain ⟨rfl, eG6⟩ := q6
    have eG6 := eG6.symm
    subst eG6
    refine y_blk 0 tq_X2_countOnDuty (z := (9, [(0, .ref (ad 6)), (1, .int minute), (2, .int v4_2), (3, .int v4_3)], [.int (σ.1 5), .int v4_3])) rfl ?_
    refine y_icmp_ge tq_X2_countOnDuty 35 rfl rfl (fun c9 => ?_) (fun c9 => ?_)
    · skip
      refine y_blk 1 tq_X2_countOnDuty (z := (36, [(0, .ref (ad 6)), (1, .int minute), (2, .int v4_2), (3, .int v4_3)], [.int v4_2])) rfl ?_
      exact y_iret tq_X2_countOnDuty rfl rfl (⟨congrArg (fun z => some (Value.int z)) (itI_e ea4 hh4 c9), rfl⟩)
    · skip
      refine y_blk 4 tq_X2_countOnDuty (z := (16, [(0, .ref (ad 6)), (1, .int minute), (2, .int v4_2), (3, .int v4_3)], [.int minute, .int v4_3, .ref (ad 6), .int v4_2])) rfl ?_
      refine y_callV hS tq_X2_countOnDuty rfl (As := [.int v4_3, .int minute]) rfl cv_X2_64 (hX.1 6 _ rfl) (m_X2_isOnDuty_v hS hX v4_3 minute) rfl (by decide) (Nat.le_of_ble_eq_true rfl) (fun r16 Gc16 q16 => ?_) (fun E9 G9 h9 => h9.elim)
      obtain ⟨rfl, eG16⟩ := q16
      have eG16 := eG16.symm
      subst eG16
      refine y_blk 0 tq_X2_countOnDuty (z := (19, [(0, .ref (ad 6)), (1, .int minute), (2, .int v4_2), (3, .int v4_3)], [.int (if ¬ xsta σ v4_3 minute = -1 then 1 else 0), .int v4_2])) rfl ?_
      refine y_if_eq tq_X2_countOnDuty 26 rfl rfl (fun c19 => ?_) (fun c19 => ?_)
      · skip
        refine y_blk 5 tq_X2_countOnDuty (z := (4, [(3, .int (v4_3 + 1)), (2, .int (v4_2 + 0)), (0, .ref (ad 6)), (1, .int minute)], [])) rfl ?_
        refine y_pick (L2 := [(0, .ref (ad 6)), (1, .int minute), (2, .int (v4_2 + 0)), (3, .int (v4_3 + 1))]) [2, 3, 1, 0] rfl ?_
        exact ih4 _ (by exact ydec c9) (v4_2 + 0) (v4_3 + 1) (by first | exact xcn_step hh4 c9 | exact xcn_init (hX.2.1 5).1) (by first | exact itI_s ea4 hh4 c9 (by unfold xcoF; simp only [yif0, Classical.not_not] at *; (repeat' split) <;> first | contradiction | with_reducible rfl) | with_reducible exact itI_0) rfl
      · skip
        refine y_blk 6 tq_X2_countOnDuty (z := (4, [(3, .int (v4_3 + 1)), (2, .int (v4_2 + 1)), (0, .ref (ad 6)), (1, .int minute)], [])) rfl ?_
        refine y_pick (L2 := [(0, .ref (ad 6)), (1, .int minute), (2, .int (v4_2 + 1)), (3, .int (v4_3 + 1))]) [2, 3, 1, 0] rfl ?_
        exact ih4 _ (by exact ydec c9) (v4_2 + 1) (v4_3 + 1) (by first | exact xcn_step hh4 c9 | exact xcn_init (hX.2.1 5).1) (by first | exact itI_s ea4 hh4 c9 (by unfold xcoF; simp only [yif0, Classical.not_not] at *; (repeat' split) <;> first | contradiction | with_reducible rfl) | with_reducible exact itI_0) rfl
  refine y_blk 4 tq_X2_countOnDuty (z := (4, [(3, .int 0), (2, .int 0), (0, .ref (ad 6)), (1, .int minute)], [])) rfl ?_
  refine y_pick (L2 := [(0, .ref (ad 6)), (1, .int minute), (2, .int 0), (3, .int 0)]) [2, 3, 1, 0] rfl ?_
  exact J4 _ 0 0 (by first | exact xcn_step hh4 c9 | exact xcn_init (hX.2.1 5).1) (by first | exact itI_s ea4 hh4 c9 (by unfold xcoF; simp only [yif0, Classical.not_not] at *; (repeat' split) <;> first | contradiction | with_reducible rfl) | with_reducible exact itI_0) rfl
set_option maxHeartbeats 4000000 in
set_option maxRecDepth 100000 in
theorem m_X2_countTired_v {l : Launch} {S0 : State} {A0 : Array Value} {D : va_G} {aC : Nat → ClassId} {ad : Nat → Nat} {G : AH} {σ : XS} (hS : yS l S0 A0 D aC) (hX : atX aC ad G σ) (minute : Int32) : yM l S0 D yX2_countTired cX2_countTired 4 (some .int) 13 0 0 [.ref (ad 6), .int minute] G (fun r G1 => r = some (.int (xctN σ minute)) ∧ G1 = G) (fun _ _ => False) := by
  refine yM.ofK K_X2_countTired rfl (by decide) (Nat.le_of_ble_eq_true rfl) ?_
  have J4 : ∀ (n4 : Nat) (v4_2 : Int32) (v4_3 : Int32) (hh4 : 0 ≤ v4_3.toInt ∧ v4_3.toInt ≤ (σ.1 5 : Int32).toInt) (ea4 : v4_2 = itI (xctF σ minute) 0 v4_3.toInt.toNat), ((σ.1 5 : Int32).toInt - v4_3.toInt).toNat = n4 → Y l S0 D K_X2_countTired 13 0 0 (fun r G1 => r = some (.int (xctN σ minute)) ∧ G1 = G) (fun _ _ => False) 4 [(0, .ref (ad 6)), (1, .int minute), (2, .int v4_2), (3, .int v4_3)] [] G 0 0 := by
    intro n4
    induction n4 using Nat.strongRecOn with
    | _ n4 ih4 =>
    intro v4_2 v4_3 hh4 ea4 hn4
    subst hn4
    refine y_blk 2 tq_X2_countTired (z := (6, [(0, .ref (ad 6)), (1, .int minute), (2, .int v4_2), (3, .int v4_3)], [.ref (ad 6), .int v4_3])) rfl ?_
    refine y_callV hS tq_X2_countTired rfl (As := []) rfl cv_X2_46 (hX.1 6 _ rfl) (m_X2_count hS hX ) rfl (by decide) (Nat.le_of_ble_eq_true rfl) (fun r6 Gc6 q6 => ?_) (fun E9 G9 h9 => h9.elim)
    obtain ⟨rfl, eG6⟩ := q6
    have eG6 := eG6.symm
    subst eG6
    refine y_blk 0 tq_X2_countTired (z := (9, [(0, .ref (ad 6)), (1, .int minute), (2, .int v4_2), (3, .int v4_3)], [.int (σ.1 5), .int v4_3])) rfl ?_
    refine y_icmp_ge tq_X2_countTired 44 rfl rfl (fun c9 => ?_) (fun c9 => ?_)
    · skip
      refine y_blk 1 tq_X2_countTired (z := (45, [(0, .ref (ad 6)), (1, .int minute), (2, .int v4_2), (3, .int v4_3)], [.int v4_2])) rfl ?_
      exact y_iret tq_X2_countTired rfl rfl (⟨congrArg (fun z => some (Value.int z)) (itI_e ea4 hh4 c9), rfl⟩)
    · skip
      refine y_blk 4 tq_X2_countTired (z := (16, [(0, .ref (ad 6)), (1, .int minute), (2, .int v4_2), (3, .int v4_3)], [.int minute, .int v4_3, .ref (ad 6), .int v4_2])) rfl ?_
      refine y_callV hS tq_X2_countTired rfl (As := [.int v4_3, .int minute]) rfl cv_X2_64 (hX.1 6 _ rfl) (m_X2_isOnDuty_v hS hX v4_3 minute) rfl (by decide) (Nat.le_of_ble_eq_true rfl) (fun r16 Gc16 q16 => ?_) (fun E9 G9 h9 => h9.elim)
      obtain ⟨rfl, eG16⟩ := q16
      have eG16 := eG16.symm
      subst eG16
      refine y_blk 0 tq_X2_countTired (z := (19, [(0, .ref (ad 6)), (1, .int minute), (2, .int v4_2), (3, .int v4_3)], [.int (if ¬ xsta σ v4_3 minute = -1 then 1 else 0), .int v4_2])) rfl ?_
      refine y_if_eq tq_X2_countTired 35 rfl rfl (fun c19 => ?_) (fun c19 => ?_)
      · skip
        refine y_blk 5 tq_X2_countTired (z := (4, [(3, .int (v4_3 + 1)), (2, .int (v4_2 + 0)), (0, .ref (ad 6)), (1, .int minute)], [])) rfl ?_
        refine y_pick (L2 := [(0, .ref (ad 6)), (1, .int minute), (2, .int (v4_2 + 0)), (3, .int (v4_3 + 1))]) [2, 3, 1, 0] rfl ?_
        exact ih4 _ (by exact ydec c9) (v4_2 + 0) (v4_3 + 1) (by first | exact xcn_step hh4 c9 | exact xcn_init (hX.2.1 5).1) (by first | exact itI_s ea4 hh4 c9 (by unfold xctF; simp only [yif0, Classical.not_not] at *; (repeat' split) <;> first | contradiction | with_reducible rfl) | with_reducible exact itI_0) rfl
      · skip
        refine y_blk 3 tq_X2_countTired (z := (25, [(0, .ref (ad 6)), (1, .int minute), (2, .int v4_2), (3, .int v4_3)], [.int minute, .int v4_3, .ref (ad 6), .int v4_2])) rfl ?_
        refine y_callV hS tq_X2_countTired rfl (As := [.int v4_3, .int minute]) rfl cv_X2_68 (hX.1 6 _ rfl) (m_X2_isTired_v hS hX v4_3 minute) rfl (by decide) (Nat.le_of_ble_eq_true rfl) (fun r25 Gc25 q25 => ?_) (fun E9 G9 h9 => h9.elim)
        obtain ⟨rfl, eG25⟩ := q25
        have eG25 := eG25.symm
        subst eG25
        refine y_blk 0 tq_X2_countTired (z := (28, [(0, .ref (ad 6)), (1, .int minute), (2, .int v4_2), (3, .int v4_3)], [.int (if 90 ≤ minute - xat σ 5 v4_3 then 1 else 0), .int v4_2])) rfl ?_
        refine y_if_eq tq_X2_countTired 35 rfl rfl (fun c28 => ?_) (fun c28 => ?_)
        · skip
          refine y_blk 5 tq_X2_countTired (z := (4, [(3, .int (v4_3 + 1)), (2, .int (v4_2 + 0)), (0, .ref (ad 6)), (1, .int minute)], [])) rfl ?_
          refine y_pick (L2 := [(0, .ref (ad 6)), (1, .int minute), (2, .int (v4_2 + 0)), (3, .int (v4_3 + 1))]) [2, 3, 1, 0] rfl ?_
          exact ih4 _ (by exact ydec c9) (v4_2 + 0) (v4_3 + 1) (by first | exact xcn_step hh4 c9 | exact xcn_init (hX.2.1 5).1) (by first | exact itI_s ea4 hh4 c9 (by unfold xctF; simp only [yif0, Classical.not_not] at *; (repeat' split) <;> first | contradiction | with_reducible rfl) | with_reducible exact itI_0) rfl
        · skip
          refine y_blk 6 tq_X2_countTired (z := (4, [(3, .int (v4_3 + 1)), (2, .int (v4_2 + 1)), (0, .ref (ad 6)), (1, .int minute)], [])) rfl ?_
          refine y_pick (L2 := [(0, .ref (ad 6)), (1, .int minute), (2, .int (v4_2 + 1)), (3, .int (v4_3 + 1))]) [2, 3, 1, 0] rfl ?_
          exact ih4 _ (by exact ydec c9) (v4_2 + 1) (v4_3 + 1) (by first | exact xcn_step hh4 c9 | exact xcn_init (hX.2.1 5).1) (by first | exact itI_s ea4 hh4 c9 (by unfold xctF; simp only [yif0, Classical.not_not] at *; (repeat' split) <;> first | contradiction | with_reducible rfl) | with_reducible exact itI_0) rfl
  refine y_blk 4 tq_X2_countTired (z := (4, [(3, .int 0), (2, .int 0), (0, .ref (ad 6)), (1, .int minute)], [])) rfl ?_
  refine y_pick (L2 := [(0, .ref (ad 6)), (1, .int minute), (2, .int 0), (3, .int 0)]) [2, 3, 1, 0] rfl ?_
  exact J4 _ 0 0 (by first | exact xcn_step hh4 c9 | exact xcn_init (hX.2.1 5).1) (by first | exact itI_s ea4 hh4 c9 (by unfold xctF; simp only [yif0, Classical.not_not] at *; (repeat' split) <;> first | contradiction | with_reducible rfl) | with_reducible exact itI_0) rfl
set_option maxHeartbeats 4000000 in
set_option maxRecDepth 100000 in
theorem m_X8_countEmptyPosts_v {l : Launch} {S0 : State} {A0 : Array Value} {D : va_G} {aC : Nat → ClassId} {ad : Nat → Nat} {G : AH} {σ : XS} (hS : yS l S0 A0 D aC) (hX : atX aC ad G σ) (minute : Int32) : yM l S0 D yX8_countEmptyPosts cX8_countEmptyPosts 6 (some .int) 13 0 0 [.ref (ad 1), .int minute] G (fun r G1 => r = some (.int (xepN σ minute)) ∧ G1 = G) (fun _ _ => False) := by
  refine yM.ofK K_X8_countEmptyPosts rfl (by decide) (Nat.le_of_ble_eq_true rfl) ?_
  have J15 : ∀ (n15 : Nat) (v15_2 : Int64) (v15_4 : Int32) (v15_5 : Int32) (hh15 : 0 ≤ v15_5.toInt ∧ v15_5.toInt ≤ (σ.1 10 : Int32).toInt) (hb15 : v15_2 = xhld σ minute) (ea15 : v15_4 = itI (xepF σ minute) 0 v15_5.toInt.toNat), ((σ.1 10 : Int32).toInt - v15_5.toInt).toNat = n15 → Y l S0 D K_X8_countEmptyPosts 13 0 0 (fun r G1 => r = some (.int (xepN σ minute)) ∧ G1 = G) (fun _ _ => False) 15 [(0, .ref (ad 1)), (1, .int minute), (2, .long v15_2), (4, .int v15_4), (5, .int v15_5)] [] G 0 0 := by
    intro n15
    induction n15 using Nat.strongRecOn with
    | _ n15 ih15 =>
    intro v15_2 v15_4 v15_5 hh15 hb15 ea15 hn15
    subst hn15
    refine y_blk 2 tq_X8_countEmptyPosts (z := (18, [(0, .ref (ad 1)), (1, .int minute), (2, .long v15_2), (4, .int v15_4), (5, .int v15_5)], [.ref (ad 1), .int v15_5])) rfl ?_
    refine y_get hS tq_X8_countEmptyPosts (v := .ref (ad 120)) rfl fg_X8_42_X8 (hX.1 1 _ rfl) rfl ?_
    refine y_blk 0 tq_X8_countEmptyPosts (z := (21, [(0, .ref (ad 1)), (1, .int minute), (2, .long v15_2), (4, .int v15_4), (5, .int v15_5)], [.ref (ad 120), .int v15_5])) rfl ?_
    refine y_callV hS tq_X8_countEmptyPosts rfl (As := []) rfl cv_X8_193 (hX.num (k := 10) (by decide)) (m_X5_size hS hX (k := 10) (by decide) ) rfl (by decide) (Nat.le_of_ble_eq_true rfl) (fun r21 Gc21 q21 => ?_) (fun E9 G9 h9 => h9.elim)
    obtain ⟨rfl, eG21⟩ := q21
    have eG21 := eG21.symm
    subst eG21
    refine y_blk 0 tq_X8_countEmptyPosts (z := (24, [(0, .ref (ad 1)), (1, .int minute), (2, .long v15_2), (4, .int v15_4), (5, .int v15_5)], [.int (σ.1 10), .int v15_5])) rfl ?_
    refine y_icmp_ge tq_X8_countEmptyPosts 52 rfl rfl (fun c24 => ?_) (fun c24 => ?_)
    · skip
      refine y_blk 1 tq_X8_countEmptyPosts (z := (54, [(0, .ref (ad 1)), (1, .int minute), (2, .long v15_2), (4, .int v15_4), (5, .int v15_5)], [.int v15_4])) rfl ?_
      exact y_iret tq_X8_countEmptyPosts rfl rfl (⟨congrArg (fun z => some (Value.int z)) (itI_e ea15 hh15 c24), rfl⟩)
    · skip
      refine y_blk 2 tq_X8_countEmptyPosts (z := (29, [(0, .ref (ad 1)), (1, .int minute), (2, .long v15_2), (4, .int v15_4), (5, .int v15_5)], [.ref (ad 1), .long v15_2])) rfl ?_
      refine y_get hS tq_X8_countEmptyPosts (v := .ref (ad 120)) rfl fg_X8_42_X8 (hX.1 1 _ rfl) rfl ?_
      refine y_blk 1 tq_X8_countEmptyPosts (z := (34, [(0, .ref (ad 1)), (1, .int minute), (2, .long v15_2), (4, .int v15_4), (5, .int v15_5)], [.int v15_5, .ref (ad 120), .long v15_2])) rfl ?_
      refine y_callV hS tq_X8_countEmptyPosts rfl (As := [.int v15_5]) rfl cv_X8_239 (hX.num (k := 10) (by decide)) (m_X5_at hS hX (k := 10) (by decide) v15_5) rfl (by decide) (Nat.le_of_ble_eq_true rfl) (fun r34 Gc34 q34 => ?_) (fun E9 G9 h9 => h9.elim)
      obtain ⟨rfl, eG34⟩ := q34
      have eG34 := eG34.symm
      subst eG34
      refine y_blk 0 tq_X8_countEmptyPosts (z := (37, [(0, .ref (ad 1)), (1, .int minute), (2, .long v15_2), (4, .int v15_4), (5, .int v15_5)], [.int (xat σ 10 v15_5), .long v15_2])) rfl ?_
      refine y_callS hS tq_X8_countEmptyPosts rfl (As := [.long v15_2, .int (xat σ 10 v15_5)]) rfl cs_X8_124 (m_X8_isOf hS  v15_2 (xat σ 10 v15_5)) rfl (by decide) (Nat.le_of_ble_eq_true rfl) (fun r37 Gc37 q37 => ?_) (fun E9 G9 h9 => h9.elim)
      obtain ⟨rfl, eG37⟩ := q37
      have eG37 := eG37.symm
      subst eG37
      refine y_blk 0 tq_X8_countEmptyPosts (z := (40, [(0, .ref (ad 1)), (1, .int minute), (2, .long v15_2), (4, .int v15_4), (5, .int v15_5)], [.int (if xis v15_2 (xat σ 10 v15_5) then 1 else 0)])) rfl ?_
      refine y_if_ne tq_X8_countEmptyPosts 46 rfl rfl (fun c40 => ?_) (fun c40 => ?_)
      · skip
        refine y_blk 2 tq_X8_countEmptyPosts (z := (15, [(5, .int (v15_5 + 1)), (0, .ref (ad 1)), (1, .int minute), (2, .long v15_2), (4, .int v15_4)], [])) rfl ?_
        refine y_pick (L2 := [(0, .ref (ad 1)), (1, .int minute), (2, .long v15_2), (4, .int v15_4), (5, .int (v15_5 + 1))]) [1, 2, 3, 4, 0] rfl ?_
        exact ih15 _ (by exact ydec c24) v15_2 v15_4 (v15_5 + 1) (by first | exact xcn_step hh15 c24 | exact xcn_init (hX.2.1 10).1) (by first | exact hb15 | rfl) (by first | exact itI_s ea15 hh15 c24 (by unfold xepF; rw [← hb15]; (try simp only [yif0, Classical.not_not] at *); (repeat' split) <;> first | contradiction | with_reducible rfl) | with_reducible exact itI_0) rfl
      · skip
        refine y_blk 3 tq_X8_countEmptyPosts (z := (15, [(5, .int (v15_5 + 1)), (4, .int (v15_4 + 1)), (0, .ref (ad 1)), (1, .int minute), (2, .long v15_2)], [])) rfl ?_
        refine y_pick (L2 := [(0, .ref (ad 1)), (1, .int minute), (2, .long v15_2), (4, .int (v15_4 + 1)), (5, .int (v15_5 + 1))]) [2, 3, 4, 1, 0] rfl ?_
        exact ih15 _ (by exact ydec c24) v15_2 (v15_4 + 1) (v15_5 + 1) (by first | exact xcn_step hh15 c24 | exact xcn_init (hX.2.1 10).1) (by first | exact hb15 | rfl) (by first | exact itI_s ea15 hh15 c24 (by unfold xepF; rw [← hb15]; (try simp only [yif0, Classical.not_not] at *); (repeat' split) <;> first | contradiction | with_reducible rfl) | with_reducible exact itI_0) rfl
  refine y_blk 1 tq_X8_countEmptyPosts (z := (1, [(0, .ref (ad 1)), (1, .int minute)], [.ref (ad 1)])) rfl ?_
  refine y_get hS tq_X8_countEmptyPosts (v := .ref (ad 6)) rfl fg_X8_33_X8 (hX.1 1 _ rfl) rfl ?_
  refine y_blk 1 tq_X8_countEmptyPosts (z := (5, [(0, .ref (ad 1)), (1, .int minute)], [.int minute, .ref (ad 6)])) rfl ?_
  refine y_callV hS tq_X8_countEmptyPosts rfl (As := [.int minute]) rfl cv_X8_236 (hX.1 6 _ rfl) (m_X2_cellsHeld_v hS hX minute) rfl (by decide) (Nat.le_of_ble_eq_true rfl) (fun r5 Gc5 q5 => ?_) (fun E9 G9 h9 => h9.elim)
  obtain ⟨rfl, eG5⟩ := q5
  have eG5 := eG5.symm
  subst eG5
  refine y_blk 5 tq_X8_countEmptyPosts (z := (15, [(5, .int 0), (4, .int 0), (2, .long (xhld σ minute)), (0, .ref (ad 1)), (1, .int minute)], [])) rfl ?_
  refine y_pick (L2 := [(0, .ref (ad 1)), (1, .int minute), (2, .long (xhld σ minute)), (4, .int 0), (5, .int 0)]) [3, 4, 2, 1, 0] rfl ?_
  exact J15 _ (xhld σ minute) 0 0 (by first | exact xcn_step hh15 c24 | exact xcn_init (hX.2.1 10).1) (by first | exact hb15 | rfl) (by first | exact itI_s ea15 hh15 c24 (by unfold xepF; rw [← hb15]; (try simp only [yif0, Classical.not_not] at *); (repeat' split) <;> first | contradiction | with_reducible rfl) | with_reducible exact itI_0) rfl
set_option maxHeartbeats 4000000 in
set_option maxRecDepth 100000 in
theorem m_X8_countKeysOffDuty_v {l : Launch} {S0 : State} {A0 : Array Value} {D : va_G} {aC : Nat → ClassId} {ad : Nat → Nat} {G : AH} {σ : XS} (hS : yS l S0 A0 D aC) (hX : atX aC ad G σ) (minute : Int32) : yM l S0 D yX8_countKeysOffDuty cX8_countKeysOffDuty 5 (some .int) 13 0 0 [.ref (ad 1), .int minute] G (fun r G1 => r = some (.int (xkoN σ minute)) ∧ G1 = G) (fun _ _ => False) := by
  refine yM.ofK K_X8_countKeysOffDuty rfl (by decide) (Nat.le_of_ble_eq_true rfl) ?_
  have J4 : ∀ (n4 : Nat) (v4_2 : Int32) (v4_3 : Int32) (hh4 : 0 ≤ v4_3.toInt ∧ v4_3.toInt ≤ (6 : Int32).toInt) (ea4 : v4_2 = itI (xkoF σ minute) 0 v4_3.toInt.toNat), ((6 : Int32).toInt - v4_3.toInt).toNat = n4 → Y l S0 D K_X8_countKeysOffDuty 13 0 0 (fun r G1 => r = some (.int (xkoN σ minute)) ∧ G1 = G) (fun _ _ => False) 4 [(0, .ref (ad 1)), (1, .int minute), (2, .int v4_2), (3, .int v4_3)] [] G 0 0 := by
    intro n4
    induction n4 using Nat.strongRecOn with
    | _ n4 ih4 =>
    intro v4_2 v4_3 hh4 ea4 hn4
    subst hn4
    refine y_blk 2 tq_X8_countKeysOffDuty (z := (7, [(0, .ref (ad 1)), (1, .int minute), (2, .int v4_2), (3, .int v4_3)], [.int 6, .int v4_3])) rfl ?_
    refine y_icmp_ge tq_X8_countKeysOffDuty 48 rfl rfl (fun c7 => ?_) (fun c7 => ?_)
    · skip
      refine y_blk 1 tq_X8_countKeysOffDuty (z := (49, [(0, .ref (ad 1)), (1, .int minute), (2, .int v4_2), (3, .int v4_3)], [.int v4_2])) rfl ?_
      exact y_iret tq_X8_countKeysOffDuty rfl rfl (⟨congrArg (fun z => some (Value.int z)) (itI_e ea4 hh4 c7), rfl⟩)
    · skip
      refine y_blk 1 tq_X8_countKeysOffDuty (z := (11, [(0, .ref (ad 1)), (1, .int minute), (2, .int v4_2), (3, .int v4_3)], [.ref (ad 1)])) rfl ?_
      refine y_get hS tq_X8_countKeysOffDuty (v := .ref (ad 130)) rfl fg_X8_53_X8 (hX.1 1 _ rfl) rfl ?_
      refine y_blk 1 tq_X8_countKeysOffDuty (z := (15, [(0, .ref (ad 1)), (1, .int minute), (2, .int v4_2), (3, .int v4_3)], [.int v4_3, .ref (ad 130)])) rfl ?_
      refine y_callV hS tq_X8_countKeysOffDuty rfl (As := [.int v4_3]) rfl cv_X8_239 (hX.num (k := 15) (by decide)) (m_X5_at hS hX (k := 15) (by decide) v4_3) rfl (by decide) (Nat.le_of_ble_eq_true rfl) (fun r15 Gc15 q15 => ?_) (fun E9 G9 h9 => h9.elim)
      obtain ⟨rfl, eG15⟩ := q15
      have eG15 := eG15.symm
      subst eG15
      refine y_blk 3 tq_X8_countKeysOffDuty (z := (23, [(4, .int (xat σ 15 v4_3)), (0, .ref (ad 1)), (1, .int minute), (2, .int v4_2), (3, .int v4_3)], [.int (-1), .int (xat σ 15 v4_3)])) rfl ?_
      refine y_icmp_eq tq_X8_countKeysOffDuty 42 rfl rfl (fun c23 => ?_) (fun c23 => ?_)
      · skip
        refine y_blk 2 tq_X8_countKeysOffDuty (z := (4, [(3, .int (v4_3 + 1)), (4, .int (xat σ 15 v4_3)), (0, .ref (ad 1)), (1, .int minute), (2, .int v4_2)], [])) rfl ?_
        refine y_pick (L2 := [(0, .ref (ad 1)), (1, .int minute), (2, .int v4_2), (3, .int (v4_3 + 1))]) [2, 3, 4, 0] rfl ?_
        exact ih4 _ (by exact ydec c7) v4_2 (v4_3 + 1) (by first | exact xcn_step hh4 c7 | exact xcn_init (by decide)) (by first | exact itI_s ea4 hh4 c7 (by unfold xkoF; simp only [yif0, Classical.not_not] at *; (repeat' split) <;> first | contradiction | with_reducible rfl) | with_reducible exact itI_0) rfl
      · skip
        refine y_blk 1 tq_X8_countKeysOffDuty (z := (27, [(4, .int (xat σ 15 v4_3)), (0, .ref (ad 1)), (1, .int minute), (2, .int v4_2), (3, .int v4_3)], [.ref (ad 1)])) rfl ?_
        refine y_get hS tq_X8_countKeysOffDuty (v := .ref (ad 6)) rfl fg_X8_33_X8 (hX.1 1 _ rfl) rfl ?_
        refine y_blk 2 tq_X8_countKeysOffDuty (z := (33, [(4, .int (xat σ 15 v4_3)), (0, .ref (ad 1)), (1, .int minute), (2, .int v4_2), (3, .int v4_3)], [.int minute, .int (xat σ 15 v4_3), .ref (ad 6)])) rfl ?_
        refine y_callV hS tq_X8_countKeysOffDuty rfl (As := [.int (xat σ 15 v4_3), .int minute]) rfl cv_X8_472 (hX.1 6 _ rfl) (m_X2_isOnDuty_v hS hX (xat σ 15 v4_3) minute) rfl (by decide) (Nat.le_of_ble_eq_true rfl) (fun r33 Gc33 q33 => ?_) (fun E9 G9 h9 => h9.elim)
        obtain ⟨rfl, eG33⟩ := q33
        have eG33 := eG33.symm
        subst eG33
        refine y_blk 0 tq_X8_countKeysOffDuty (z := (36, [(4, .int (xat σ 15 v4_3)), (0, .ref (ad 1)), (1, .int minute), (2, .int v4_2), (3, .int v4_3)], [.int (if ¬ xsta σ (xat σ 15 v4_3) minute = -1 then 1 else 0)])) rfl ?_
        refine y_if_ne tq_X8_countKeysOffDuty 42 rfl rfl (fun c36 => ?_) (fun c36 => ?_)
        · skip
          refine y_blk 2 tq_X8_countKeysOffDuty (z := (4, [(3, .int (v4_3 + 1)), (4, .int (xat σ 15 v4_3)), (0, .ref (ad 1)), (1, .int minute), (2, .int v4_2)], [])) rfl ?_
          refine y_pick (L2 := [(0, .ref (ad 1)), (1, .int minute), (2, .int v4_2), (3, .int (v4_3 + 1))]) [2, 3, 4, 0] rfl ?_
          exact ih4 _ (by exact ydec c7) v4_2 (v4_3 + 1) (by first | exact xcn_step hh4 c7 | exact xcn_init (by decide)) (by first | exact itI_s ea4 hh4 c7 (by unfold xkoF; simp only [yif0, Classical.not_not] at *; (repeat' split) <;> first | contradiction | with_reducible rfl) | with_reducible exact itI_0) rfl
        · skip
          refine y_blk 3 tq_X8_countKeysOffDuty (z := (4, [(3, .int (v4_3 + 1)), (2, .int (v4_2 + 1)), (4, .int (xat σ 15 v4_3)), (0, .ref (ad 1)), (1, .int minute)], [])) rfl ?_
          refine y_pick (L2 := [(0, .ref (ad 1)), (1, .int minute), (2, .int (v4_2 + 1)), (3, .int (v4_3 + 1))]) [3, 4, 1, 0] rfl ?_
          exact ih4 _ (by exact ydec c7) (v4_2 + 1) (v4_3 + 1) (by first | exact xcn_step hh4 c7 | exact xcn_init (by decide)) (by first | exact itI_s ea4 hh4 c7 (by unfold xkoF; simp only [yif0, Classical.not_not] at *; (repeat' split) <;> first | contradiction | with_reducible rfl) | with_reducible exact itI_0) rfl
  refine y_blk 4 tq_X8_countKeysOffDuty (z := (4, [(3, .int 0), (2, .int 0), (0, .ref (ad 1)), (1, .int minute)], [])) rfl ?_
  refine y_pick (L2 := [(0, .ref (ad 1)), (1, .int minute), (2, .int 0), (3, .int 0)]) [2, 3, 1, 0] rfl ?_
  exact J4 _ 0 0 (by first | exact xcn_step hh4 c7 | exact xcn_init (by decide)) (by first | exact itI_s ea4 hh4 c7 (by unfold xkoF; simp only [yif0, Classical.not_not] at *; (repeat' split) <;> first | contradiction | with_reducible rfl) | with_reducible exact itI_0) rfl
set_option maxHeartbeats 4000000 in
set_option maxRecDepth 100000 in
theorem m_X8_ofCell_v {l : Launch} {S0 : State} {A0 : Array Value} {D : va_G} {aC : Nat → ClassId} {ad : Nat → Nat} {G : AH} {σ : XS} (hS : yS l S0 A0 D aC) (hX : atX aC ad G σ) (cell : Int32) (minute : Int32) (what : Int32) : yM l S0 D yX8_ofCell cX8_ofCell 4 (some .int) 14 2 12 [.ref (ad 1), .int cell, .int minute, .int what] G (fun r G1 => (r = some (.int (if what = 0 then xkf σ cell else if what = 1 then (if xis (xbri σ) cell then 1 else 0) else if what = 2 then xgwN σ cell minute else if what = 3 then xsoN σ cell minute else (if xis (xwlk σ minute) cell then 1 else 0))) ∧ ((0 ≤ cell ∧ cell ≤ σ.2.2.1 0 * σ.2.2.1 1 - 1) ∧ ((0 ≤ minute ∧ minute ≤ 239) ∧ (0 ≤ what ∧ what ≤ 4)))) ∧ ∃ σ1 : XS, atX aC ad G1 σ1 ∧ keepX G G1 ∧ xfr [] σ σ1 ∧ σ1 = σ) (fun E G1 => ((E = "java/lang/IndexOutOfBoundsException" ∧ (¬ (0 ≤ cell ∧ cell ≤ σ.2.2.1 0 * σ.2.2.1 1 - 1))) ∨ (E = "java/lang/IllegalArgumentException" ∧ ((0 ≤ cell ∧ cell ≤ σ.2.2.1 0 * σ.2.2.1 1 - 1) ∧ (¬ ((0 ≤ minute ∧ minute ≤ 239) ∧ (0 ≤ what ∧ what ≤ 4)))))) ∧ G1 = G) := by
  refine yM.ofK K_X8_ofCell rfl (by decide) (Nat.le_of_ble_eq_true rfl) ?_
  refine y_blk 2 tq_X8_ofCell (z := (2, [(0, .ref (ad 1)), (1, .int cell), (2, .int minute), (3, .int what)], [.int cell, .ref (ad 1)])) rfl ?_
  refine y_callV hS tq_X8_ofCell rfl (As := [.int cell]) rfl cv_X8_114 (hX.1 1 _ rfl) (m_X8_needCell hS hX cell) rfl (by decide) (Nat.le_of_ble_eq_true rfl) (fun r2 Gc2 q2 => ?_) (fun E9 G9 h9 => ⟨(Or.inl (And.intro h9.1.1 (by first | exact h9.1.2 | exact absurd h9.1.2 (by decide) | exact absurd rfl hq2 | exact absurd rfl hq11 | exact absurd rfl hq19 | exact absurd rfl hq21 | exact absurd rfl hq24 | exact absurd rfl hq30 | exact absurd rfl hq35 | exact absurd rfl hq39 | exact absurd rfl hq40 | exact absurd rfl hq57 | exact absurd rfl hq45 | exact absurd rfl hq38 | exact absurd rfl hq34 | exact absurd rfl hq33 | exact absurd rfl hq29 | (have z9 := h9.1.2; clear h9; (repeat' apply And.intro) <;> first | (first | assumption | (simp only [yif0, Classical.not_not, ylt, yle, xcp0, xcp3, xcp5, xcp10, xcp12, xcp16, xcp22, yl_m1, yl_0, yl_1, yl_2, yl_3, yl_4, yl_5, yl_6, yl_7, yl_8, yl_9, yl_10, yl_11, yl_12, yl_15, yl_16, yl_20, yl_60, yl_64, yl_90, yl_97, yl_99, yl_100, yl_120, yl_239, yl_240] at *; first | omega | assumption | contradiction)) | (intro q9; (simp only [yif0, Classical.not_not, ylt, yle, xcp0, xcp3, xcp5, xcp10, xcp12, xcp16, xcp22, yl_m1, yl_0, yl_1, yl_2, yl_3, yl_4, yl_5, yl_6, yl_7, yl_8, yl_9, yl_10, yl_11, yl_12, yl_15, yl_16, yl_20, yl_60, yl_64, yl_90, yl_97, yl_99, yl_100, yl_120, yl_239, yl_240] at *; first | omega | contradiction | (obtain ⟨qa, qb⟩ := q9; contradiction))))))), h9.2⟩)
  obtain ⟨⟨rfl, hq2⟩, eG2⟩ := q2
  have eG2 := eG2.symm
  subst eG2
  refine y_blk 1 tq_X8_ofCell (z := (6, [(0, .ref (ad 1)), (1, .int cell), (2, .int minute), (3, .int what)], [.int minute])) rfl ?_
  refine y_callS hS tq_X8_ofCell rfl (As := [.int minute]) rfl cs_X8_139 (m_X8_isMinute hS  minute) rfl (by decide) (Nat.le_of_ble_eq_true rfl) (fun r6 Gc6 q6 => ?_) (fun E9 G9 h9 => h9.elim)
  obtain ⟨rfl, eG6⟩ := q6
  have eG6 := eG6.symm
  subst eG6
  refine y_blk 0 tq_X8_ofCell (z := (9, [(0, .ref (ad 1)), (1, .int cell), (2, .int minute), (3, .int what)], [.int (if 0 ≤ minute ∧ minute ≤ 239 then 1 else 0)])) rfl ?_
  refine y_if_eq tq_X8_ofCell 25 rfl rfl (fun c9 => ?_) (fun c9 => ?_)
  · skip
    refine y_blk 1 tq_X8_ofCell (z := (26, [(0, .ref (ad 1)), (1, .int cell), (2, .int minute), (3, .int what)], [.int 0])) rfl ?_
    refine y_callS hS tq_X8_ofCell rfl (As := [.int 0]) rfl cs_X8_117 (m_X8_needLet hS  0) rfl (by decide) (Nat.le_of_ble_eq_true rfl) (fun r26 Gc26 q26 => ?_) (fun E9 G9 h9 => ⟨(Or.inr (And.intro h9.1.1 (by first | exact h9.1.2 | exact absurd h9.1.2 (by decide) | exact absurd rfl hq2 | exact absurd rfl hq11 | exact absurd rfl hq19 | exact absurd rfl hq21 | exact absurd rfl hq24 | exact absurd rfl hq30 | exact absurd rfl hq35 | exact absurd rfl hq39 | exact absurd rfl hq40 | exact absurd rfl hq57 | exact absurd rfl hq45 | exact absurd rfl hq38 | exact absurd rfl hq34 | exact absurd rfl hq33 | exact absurd rfl hq29 | (have z9 := h9.1.2; clear h9; (repeat' apply And.intro) <;> first | (first | assumption | (simp only [yif0, Classical.not_not, ylt, yle, xcp0, xcp3, xcp5, xcp10, xcp12, xcp16, xcp22, yl_m1, yl_0, yl_1, yl_2, yl_3, yl_4, yl_5, yl_6, yl_7, yl_8, yl_9, yl_10, yl_11, yl_12, yl_15, yl_16, yl_20, yl_60, yl_64, yl_90, yl_97, yl_99, yl_100, yl_120, yl_239, yl_240] at *; first | omega | assumption | contradiction)) | (intro q9; (simp only [yif0, Classical.not_not, ylt, yle, xcp0, xcp3, xcp5, xcp10, xcp12, xcp16, xcp22, yl_m1, yl_0, yl_1, yl_2, yl_3, yl_4, yl_5, yl_6, yl_7, yl_8, yl_9, yl_10, yl_11, yl_12, yl_15, yl_16, yl_20, yl_60, yl_64, yl_90, yl_97, yl_99, yl_100, yl_120, yl_239, yl_240] at *; first | omega | contradiction | (obtain ⟨qa, qb⟩ := q9; contradiction))))))), h9.2⟩)
    obtain ⟨⟨rfl, hq26⟩, eG26⟩ := q26
    have eG26 := eG26.symm
    subst eG26
    refine y_blk 1 tq_X8_ofCell (z := (30, [(0, .ref (ad 1)), (1, .int cell), (2, .int minute), (3, .int what)], [.int what])) rfl ?_
    by_cases s30_0 : what = 0
    · refine y_swIn tq_X8_ofCell 60 rfl (by rw [s30_0]; decide) (by rw [s30_0]; decide) (by rw [s30_0]; rfl) rfl ?_
      refine y_blk 1 tq_X8_ofCell (z := (61, [(0, .ref (ad 1)), (1, .int cell), (2, .int minute), (3, .int what)], [.ref (ad 1)])) rfl ?_
      refine y_get hS tq_X8_ofCell (v := .ref (ad 2)) rfl fg_X8_10_X8 (hX.1 1 _ rfl) rfl ?_
      refine y_blk 1 tq_X8_ofCell (z := (65, [(0, .ref (ad 1)), (1, .int cell), (2, .int minute), (3, .int what)], [.int cell, .ref (ad 2)])) rfl ?_
      refine y_callV hS tq_X8_ofCell rfl (As := [.int cell]) rfl cv_X8_131 (hX.1 2 _ rfl) (m_X1_kindOf hS hX cell) rfl (by decide) (Nat.le_of_ble_eq_true rfl) (fun r65 Gc65 q65 => ?_) (fun E9 G9 h9 => h9.elim)
      obtain ⟨rfl, eG65⟩ := q65
      have eG65 := eG65.symm
      subst eG65
      refine y_blk 0 tq_X8_ofCell (z := (68, [(0, .ref (ad 1)), (1, .int cell), (2, .int minute), (3, .int what)], [.int (xkf σ cell)])) rfl ?_
      exact y_iret tq_X8_ofCell rfl rfl (⟨⟨congrArg (fun z => some (Value.int z)) (by (try simp only [yif0, Classical.not_not] at *); (repeat' split) <;> first | contradiction | with_reducible rfl), (by first | exact absurd rfl hq2 | exact absurd rfl hq11 | exact absurd rfl hq19 | exact absurd rfl hq21 | exact absurd rfl hq24 | exact absurd rfl hq30 | exact absurd rfl hq35 | exact absurd rfl hq39 | exact absurd rfl hq40 | exact absurd rfl hq57 | exact absurd rfl hq45 | exact absurd rfl hq38 | exact absurd rfl hq34 | exact absurd rfl hq33 | exact absurd rfl hq29 | ((repeat' apply And.intro) <;> first | assumption | (simp only [yif0, Classical.not_not, ylt, yle, xcp0, xcp3, xcp5, xcp10, xcp12, xcp16, xcp22, yl_m1, yl_0, yl_1, yl_2, yl_3, yl_4, yl_5, yl_6, yl_7, yl_8, yl_9, yl_10, yl_11, yl_12, yl_15, yl_16, yl_20, yl_60, yl_64, yl_90, yl_97, yl_99, yl_100, yl_120, yl_239, yl_240] at *; first | omega | assumption | contradiction)))⟩, _, hX, keepX.rfl', (xkn.rfl').w, rfl⟩)
    by_cases s30_1 : what = 1
    · refine y_swIn tq_X8_ofCell 69 rfl (by rw [s30_1]; decide) (by rw [s30_1]; decide) (by rw [s30_1]; rfl) rfl ?_
      refine y_blk 1 tq_X8_ofCell (z := (70, [(0, .ref (ad 1)), (1, .int cell), (2, .int minute), (3, .int what)], [.ref (ad 1)])) rfl ?_
      refine y_callV hS tq_X8_ofCell rfl (As := []) rfl cv_X8_171 (hX.1 1 _ rfl) (m_X8_brightCells_v hS hX ) rfl (by decide) (Nat.le_of_ble_eq_true rfl) (fun r70 Gc70 q70 => ?_) (fun E9 G9 h9 => h9.elim)
      obtain ⟨rfl, eG70⟩ := q70
      have eG70 := eG70.symm
      subst eG70
      refine y_blk 1 tq_X8_ofCell (z := (74, [(0, .ref (ad 1)), (1, .int cell), (2, .int minute), (3, .int what)], [.int cell, .long (xbri σ)])) rfl ?_
      refine y_callS hS tq_X8_ofCell rfl (As := [.long (xbri σ), .int cell]) rfl cs_X8_124 (m_X8_isOf hS  (xbri σ) cell) rfl (by decide) (Nat.le_of_ble_eq_true rfl) (fun r74 Gc74 q74 => ?_) (fun E9 G9 h9 => h9.elim)
      obtain ⟨rfl, eG74⟩ := q74
      have eG74 := eG74.symm
      subst eG74
      refine y_blk 0 tq_X8_ofCell (z := (77, [(0, .ref (ad 1)), (1, .int cell), (2, .int minute), (3, .int what)], [.int (if xis (xbri σ) cell then 1 else 0)])) rfl ?_
      refine y_if_eq tq_X8_ofCell 84 rfl rfl (fun c77 => ?_) (fun c77 => ?_)
      · skip
        refine y_blk 1 tq_X8_ofCell (z := (85, [(0, .ref (ad 1)), (1, .int cell), (2, .int minute), (3, .int what)], [.int 0])) rfl ?_
        exact y_iret tq_X8_ofCell rfl rfl (⟨⟨congrArg (fun z => some (Value.int z)) (by (try simp only [yif0, Classical.not_not] at *); (repeat' split) <;> first | contradiction | with_reducible rfl), (by first | exact absurd rfl hq2 | exact absurd rfl hq11 | exact absurd rfl hq19 | exact absurd rfl hq21 | exact absurd rfl hq24 | exact absurd rfl hq30 | exact absurd rfl hq35 | exact absurd rfl hq39 | exact absurd rfl hq40 | exact absurd rfl hq57 | exact absurd rfl hq45 | exact absurd rfl hq38 | exact absurd rfl hq34 | exact absurd rfl hq33 | exact absurd rfl hq29 | ((repeat' apply And.intro) <;> first | assumption | (simp only [yif0, Classical.not_not, ylt, yle, xcp0, xcp3, xcp5, xcp10, xcp12, xcp16, xcp22, yl_m1, yl_0, yl_1, yl_2, yl_3, yl_4, yl_5, yl_6, yl_7, yl_8, yl_9, yl_10, yl_11, yl_12, yl_15, yl_16, yl_20, yl_60, yl_64, yl_90, yl_97, yl_99, yl_100, yl_120, yl_239, yl_240] at *; first | omega | assumption | contradiction)))⟩, _, hX, keepX.rfl', (xkn.rfl').w, rfl⟩)
      · skip
        refine y_blk 2 tq_X8_ofCell (z := (85, [(0, .ref (ad 1)), (1, .int cell), (2, .int minute), (3, .int what)], [.int 1])) rfl ?_
        exact y_iret tq_X8_ofCell rfl rfl (⟨⟨congrArg (fun z => some (Value.int z)) (by (try simp only [yif0, Classical.not_not] at *); (repeat' split) <;> first | contradiction | with_reducible rfl), (by first | exact absurd rfl hq2 | exact absurd rfl hq11 | exact absurd rfl hq19 | exact absurd rfl hq21 | exact absurd rfl hq24 | exact absurd rfl hq30 | exact absurd rfl hq35 | exact absurd rfl hq39 | exact absurd rfl hq40 | exact absurd rfl hq57 | exact absurd rfl hq45 | exact absurd rfl hq38 | exact absurd rfl hq34 | exact absurd rfl hq33 | exact absurd rfl hq29 | ((repeat' apply And.intro) <;> first | assumption | (simp only [yif0, Classical.not_not, ylt, yle, xcp0, xcp3, xcp5, xcp10, xcp12, xcp16, xcp22, yl_m1, yl_0, yl_1, yl_2, yl_3, yl_4, yl_5, yl_6, yl_7, yl_8, yl_9, yl_10, yl_11, yl_12, yl_15, yl_16, yl_20, yl_60, yl_64, yl_90, yl_97, yl_99, yl_100, yl_120, yl_239, yl_240] at *; first | omega | assumption | contradiction)))⟩, _, hX, keepX.rfl', (xkn.rfl').w, rfl⟩)
    by_cases s30_2 : what = 2
    · refine y_swIn tq_X8_ofCell 86 rfl (by rw [s30_2]; decide) (by rw [s30_2]; decide) (by rw [s30_2]; rfl) rfl ?_
      refine y_blk 3 tq_X8_ofCell (z := (89, [(0, .ref (ad 1)), (1, .int cell), (2, .int minute), (3, .int what)], [.int minute, .int cell, .ref (ad 1)])) rfl ?_
      refine y_callV hS tq_X8_ofCell rfl (As := [.int cell, .int minute]) rfl cv_X8_206 (hX.1 1 _ rfl) (m_X8_guardsWhoSee_v hS hX cell minute) rfl (by decide) (Nat.le_of_ble_eq_true rfl) (fun r89 Gc89 q89 => ?_) (fun E9 G9 h9 => h9.elim)
      obtain ⟨rfl, eG89⟩ := q89
      have eG89 := eG89.symm
      subst eG89
      refine y_blk 0 tq_X8_ofCell (z := (92, [(0, .ref (ad 1)), (1, .int cell), (2, .int minute), (3, .int what)], [.int (xgwN σ cell minute)])) rfl ?_
      exact y_iret tq_X8_ofCell rfl rfl (⟨⟨congrArg (fun z => some (Value.int z)) (by (try simp only [yif0, Classical.not_not] at *); (repeat' split) <;> first | contradiction | with_reducible rfl), (by first | exact absurd rfl hq2 | exact absurd rfl hq11 | exact absurd rfl hq19 | exact absurd rfl hq21 | exact absurd rfl hq24 | exact absurd rfl hq30 | exact absurd rfl hq35 | exact absurd rfl hq39 | exact absurd rfl hq40 | exact absurd rfl hq57 | exact absurd rfl hq45 | exact absurd rfl hq38 | exact absurd rfl hq34 | exact absurd rfl hq33 | exact absurd rfl hq29 | ((repeat' apply And.intro) <;> first | assumption | (simp only [yif0, Classical.not_not, ylt, yle, xcp0, xcp3, xcp5, xcp10, xcp12, xcp16, xcp22, yl_m1, yl_0, yl_1, yl_2, yl_3, yl_4, yl_5, yl_6, yl_7, yl_8, yl_9, yl_10, yl_11, yl_12, yl_15, yl_16, yl_20, yl_60, yl_64, yl_90, yl_97, yl_99, yl_100, yl_120, yl_239, yl_240] at *; first | omega | assumption | contradiction)))⟩, _, hX, keepX.rfl', (xkn.rfl').w, rfl⟩)
    by_cases s30_3 : what = 3
    · refine y_swIn tq_X8_ofCell 93 rfl (by rw [s30_3]; decide) (by rw [s30_3]; decide) (by rw [s30_3]; rfl) rfl ?_
      refine y_blk 1 tq_X8_ofCell (z := (94, [(0, .ref (ad 1)), (1, .int cell), (2, .int minute), (3, .int what)], [.ref (ad 1)])) rfl ?_
      refine y_get hS tq_X8_ofCell (v := .ref (ad 6)) rfl fg_X8_33_X8 (hX.1 1 _ rfl) rfl ?_
      refine y_blk 2 tq_X8_ofCell (z := (99, [(0, .ref (ad 1)), (1, .int cell), (2, .int minute), (3, .int what)], [.int minute, .int cell, .ref (ad 6)])) rfl ?_
      refine y_callV hS tq_X8_ofCell rfl (As := [.int cell, .int minute]) rfl cv_X8_209 (hX.1 6 _ rfl) (m_X2_setOn_v hS hX cell minute) rfl (by decide) (Nat.le_of_ble_eq_true rfl) (fun r99 Gc99 q99 => ?_) (fun E9 G9 h9 => h9.elim)
      obtain ⟨rfl, eG99⟩ := q99
      have eG99 := eG99.symm
      subst eG99
      refine y_blk 0 tq_X8_ofCell (z := (102, [(0, .ref (ad 1)), (1, .int cell), (2, .int minute), (3, .int what)], [.int (xsoN σ cell minute)])) rfl ?_
      exact y_iret tq_X8_ofCell rfl rfl (⟨⟨congrArg (fun z => some (Value.int z)) (by (try simp only [yif0, Classical.not_not] at *); (repeat' split) <;> first | contradiction | with_reducible rfl), (by first | exact absurd rfl hq2 | exact absurd rfl hq11 | exact absurd rfl hq19 | exact absurd rfl hq21 | exact absurd rfl hq24 | exact absurd rfl hq30 | exact absurd rfl hq35 | exact absurd rfl hq39 | exact absurd rfl hq40 | exact absurd rfl hq57 | exact absurd rfl hq45 | exact absurd rfl hq38 | exact absurd rfl hq34 | exact absurd rfl hq33 | exact absurd rfl hq29 | ((repeat' apply And.intro) <;> first | assumption | (simp only [yif0, Classical.not_not, ylt, yle, xcp0, xcp3, xcp5, xcp10, xcp12, xcp16, xcp22, yl_m1, yl_0, yl_1, yl_2, yl_3, yl_4, yl_5, yl_6, yl_7, yl_8, yl_9, yl_10, yl_11, yl_12, yl_15, yl_16, yl_20, yl_60, yl_64, yl_90, yl_97, yl_99, yl_100, yl_120, yl_239, yl_240] at *; first | omega | assumption | contradiction)))⟩, _, hX, keepX.rfl', (xkn.rfl').w, rfl⟩)
    refine y_swOut tq_X8_ofCell 103 rfl (by have z0 : what.toInt ≠ 0 := fun q => s30_0 (Int32.toInt_inj.mp (q.trans (by decide))); have z1 : what.toInt ≠ 1 := fun q => s30_1 (Int32.toInt_inj.mp (q.trans (by decide))); have z2 : what.toInt ≠ 2 := fun q => s30_2 (Int32.toInt_inj.mp (q.trans (by decide))); have z3 : what.toInt ≠ 3 := fun q => s30_3 (Int32.toInt_inj.mp (q.trans (by decide))); omega) rfl ?_
    refine y_blk 1 tq_X8_ofCell (z := (104, [(0, .ref (ad 1)), (1, .int cell), (2, .int minute), (3, .int what)], [.ref (ad 1)])) rfl ?_
    refine y_get hS tq_X8_ofCell (v := .ref (ad 2)) rfl fg_X8_10_X8 (hX.1 1 _ rfl) rfl ?_
    refine y_blk 1 tq_X8_ofCell (z := (108, [(0, .ref (ad 1)), (1, .int cell), (2, .int minute), (3, .int what)], [.int minute, .ref (ad 2)])) rfl ?_
    refine y_callV hS tq_X8_ofCell rfl (As := [.int minute]) rfl cv_X8_212 (hX.1 2 _ rfl) (m_X1_walkable_v hS hX minute) rfl (by decide) (Nat.le_of_ble_eq_true rfl) (fun r108 Gc108 q108 => ?_) (fun E9 G9 h9 => h9.elim)
    obtain ⟨rfl, eG108⟩ := q108
    have eG108 := eG108.symm
    subst eG108
    refine y_blk 1 tq_X8_ofCell (z := (112, [(0, .ref (ad 1)), (1, .int cell), (2, .int minute), (3, .int what)], [.int cell, .long (xwlk σ minute)])) rfl ?_
    refine y_callS hS tq_X8_ofCell rfl (As := [.long (xwlk σ minute), .int cell]) rfl cs_X8_124 (m_X8_isOf hS  (xwlk σ minute) cell) rfl (by decide) (Nat.le_of_ble_eq_true rfl) (fun r112 Gc112 q112 => ?_) (fun E9 G9 h9 => h9.elim)
    obtain ⟨rfl, eG112⟩ := q112
    have eG112 := eG112.symm
    subst eG112
    refine y_blk 0 tq_X8_ofCell (z := (115, [(0, .ref (ad 1)), (1, .int cell), (2, .int minute), (3, .int what)], [.int (if xis (xwlk σ minute) cell then 1 else 0)])) rfl ?_
    refine y_if_eq tq_X8_ofCell 122 rfl rfl (fun c115 => ?_) (fun c115 => ?_)
    · skip
      refine y_blk 1 tq_X8_ofCell (z := (123, [(0, .ref (ad 1)), (1, .int cell), (2, .int minute), (3, .int what)], [.int 0])) rfl ?_
      exact y_iret tq_X8_ofCell rfl rfl (⟨⟨congrArg (fun z => some (Value.int z)) (by (try simp only [yif0, Classical.not_not] at *); (repeat' split) <;> first | contradiction | with_reducible rfl), (by first | exact absurd rfl hq2 | exact absurd rfl hq11 | exact absurd rfl hq19 | exact absurd rfl hq21 | exact absurd rfl hq24 | exact absurd rfl hq30 | exact absurd rfl hq35 | exact absurd rfl hq39 | exact absurd rfl hq40 | exact absurd rfl hq57 | exact absurd rfl hq45 | exact absurd rfl hq38 | exact absurd rfl hq34 | exact absurd rfl hq33 | exact absurd rfl hq29 | ((repeat' apply And.intro) <;> first | assumption | (simp only [yif0, Classical.not_not, ylt, yle, xcp0, xcp3, xcp5, xcp10, xcp12, xcp16, xcp22, yl_m1, yl_0, yl_1, yl_2, yl_3, yl_4, yl_5, yl_6, yl_7, yl_8, yl_9, yl_10, yl_11, yl_12, yl_15, yl_16, yl_20, yl_60, yl_64, yl_90, yl_97, yl_99, yl_100, yl_120, yl_239, yl_240] at *; first | omega | assumption | contradiction)))⟩, _, hX, keepX.rfl', (xkn.rfl').w, rfl⟩)
    · skip
      refine y_blk 2 tq_X8_ofCell (z := (123, [(0, .ref (ad 1)), (1, .int cell), (2, .int minute), (3, .int what)], [.int 1])) rfl ?_
      exact y_iret tq_X8_ofCell rfl rfl (⟨⟨congrArg (fun z => some (Value.int z)) (by (try simp only [yif0, Classical.not_not] at *); (repeat' split) <;> first | contradiction | with_reducible rfl), (by first | exact absurd rfl hq2 | exact absurd rfl hq11 | exact absurd rfl hq19 | exact absurd rfl hq21 | exact absurd rfl hq24 | exact absurd rfl hq30 | exact absurd rfl hq35 | exact absurd rfl hq39 | exact absurd rfl hq40 | exact absurd rfl hq57 | exact absurd rfl hq45 | exact absurd rfl hq38 | exact absurd rfl hq34 | exact absurd rfl hq33 | exact absurd rfl hq29 | ((repeat' apply And.intro) <;> first | assumption | (simp only [yif0, Classical.not_not, ylt, yle, xcp0, xcp3, xcp5, xcp10, xcp12, xcp16, xcp22, yl_m1, yl_0, yl_1, yl_2, yl_3, yl_4, yl_5, yl_6, yl_7, yl_8, yl_9, yl_10, yl_11, yl_12, yl_15, yl_16, yl_20, yl_60, yl_64, yl_90, yl_97, yl_99, yl_100, yl_120, yl_239, yl_240] at *; first | omega | assumption | contradiction)))⟩, _, hX, keepX.rfl', (xkn.rfl').w, rfl⟩)
  · skip
    refine y_blk 3 tq_X8_ofCell (z := (15, [(0, .ref (ad 1)), (1, .int cell), (2, .int minute), (3, .int what)], [.int 4, .int 0, .int what])) rfl ?_
    refine y_callS hS tq_X8_ofCell rfl (As := [.int what, .int 0, .int 4]) rfl cs_X8_76 (m_X8_isIn hS  what 0 4) rfl (by decide) (Nat.le_of_ble_eq_true rfl) (fun r15 Gc15 q15 => ?_) (fun E9 G9 h9 => h9.elim)
    obtain ⟨rfl, eG15⟩ := q15
    have eG15 := eG15.symm
    subst eG15
    refine y_blk 0 tq_X8_ofCell (z := (18, [(0, .ref (ad 1)), (1, .int cell), (2, .int minute), (3, .int what)], [.int (if 0 ≤ what ∧ what ≤ 4 then 1 else 0)])) rfl ?_
    refine y_if_eq tq_X8_ofCell 25 rfl rfl (fun c18 => ?_) (fun c18 => ?_)
    · skip
      refine y_blk 1 tq_X8_ofCell (z := (26, [(0, .ref (ad 1)), (1, .int cell), (2, .int minute), (3, .int what)], [.int 0])) rfl ?_
      refine y_callS hS tq_X8_ofCell rfl (As := [.int 0]) rfl cs_X8_117 (m_X8_needLet hS  0) rfl (by decide) (Nat.le_of_ble_eq_true rfl) (fun r26 Gc26 q26 => ?_) (fun E9 G9 h9 => ⟨(Or.inr (And.intro h9.1.1 (by first | exact h9.1.2 | exact absurd h9.1.2 (by decide) | exact absurd rfl hq2 | exact absurd rfl hq11 | exact absurd rfl hq19 | exact absurd rfl hq21 | exact absurd rfl hq24 | exact absurd rfl hq30 | exact absurd rfl hq35 | exact absurd rfl hq39 | exact absurd rfl hq40 | exact absurd rfl hq57 | exact absurd rfl hq45 | exact absurd rfl hq38 | exact absurd rfl hq34 | exact absurd rfl hq33 | exact absurd rfl hq29 | (have z9 := h9.1.2; clear h9; (repeat' apply And.intro) <;> first | (first | assumption | (simp only [yif0, Classical.not_not, ylt, yle, xcp0, xcp3, xcp5, xcp10, xcp12, xcp16, xcp22, yl_m1, yl_0, yl_1, yl_2, yl_3, yl_4, yl_5, yl_6, yl_7, yl_8, yl_9, yl_10, yl_11, yl_12, yl_15, yl_16, yl_20, yl_60, yl_64, yl_90, yl_97, yl_99, yl_100, yl_120, yl_239, yl_240] at *; first | omega | assumption | contradiction)) | (intro q9; (simp only [yif0, Classical.not_not, ylt, yle, xcp0, xcp3, xcp5, xcp10, xcp12, xcp16, xcp22, yl_m1, yl_0, yl_1, yl_2, yl_3, yl_4, yl_5, yl_6, yl_7, yl_8, yl_9, yl_10, yl_11, yl_12, yl_15, yl_16, yl_20, yl_60, yl_64, yl_90, yl_97, yl_99, yl_100, yl_120, yl_239, yl_240] at *; first | omega | contradiction | (obtain ⟨qa, qb⟩ := q9; contradiction))))))), h9.2⟩)
      obtain ⟨⟨rfl, hq26⟩, eG26⟩ := q26
      have eG26 := eG26.symm
      subst eG26
      refine y_blk 1 tq_X8_ofCell (z := (30, [(0, .ref (ad 1)), (1, .int cell), (2, .int minute), (3, .int what)], [.int what])) rfl ?_
      by_cases s30_0 : what = 0
      · refine y_swIn tq_X8_ofCell 60 rfl (by rw [s30_0]; decide) (by rw [s30_0]; decide) (by rw [s30_0]; rfl) rfl ?_
        refine y_blk 1 tq_X8_ofCell (z := (61, [(0, .ref (ad 1)), (1, .int cell), (2, .int minute), (3, .int what)], [.ref (ad 1)])) rfl ?_
        refine y_get hS tq_X8_ofCell (v := .ref (ad 2)) rfl fg_X8_10_X8 (hX.1 1 _ rfl) rfl ?_
        refine y_blk 1 tq_X8_ofCell (z := (65, [(0, .ref (ad 1)), (1, .int cell), (2, .int minute), (3, .int what)], [.int cell, .ref (ad 2)])) rfl ?_
        refine y_callV hS tq_X8_ofCell rfl (As := [.int cell]) rfl cv_X8_131 (hX.1 2 _ rfl) (m_X1_kindOf hS hX cell) rfl (by decide) (Nat.le_of_ble_eq_true rfl) (fun r65 Gc65 q65 => ?_) (fun E9 G9 h9 => h9.elim)
        obtain ⟨rfl, eG65⟩ := q65
        have eG65 := eG65.symm
        subst eG65
        refine y_blk 0 tq_X8_ofCell (z := (68, [(0, .ref (ad 1)), (1, .int cell), (2, .int minute), (3, .int what)], [.int (xkf σ cell)])) rfl ?_
        exact y_iret tq_X8_ofCell rfl rfl (⟨⟨congrArg (fun z => some (Value.int z)) (by (try simp only [yif0, Classical.not_not] at *); (repeat' split) <;> first | contradiction | with_reducible rfl), (by first | exact absurd rfl hq2 | exact absurd rfl hq11 | exact absurd rfl hq19 | exact absurd rfl hq21 | exact absurd rfl hq24 | exact absurd rfl hq30 | exact absurd rfl hq35 | exact absurd rfl hq39 | exact absurd rfl hq40 | exact absurd rfl hq57 | exact absurd rfl hq45 | exact absurd rfl hq38 | exact absurd rfl hq34 | exact absurd rfl hq33 | exact absurd rfl hq29 | ((repeat' apply And.intro) <;> first | assumption | (simp only [yif0, Classical.not_not, ylt, yle, xcp0, xcp3, xcp5, xcp10, xcp12, xcp16, xcp22, yl_m1, yl_0, yl_1, yl_2, yl_3, yl_4, yl_5, yl_6, yl_7, yl_8, yl_9, yl_10, yl_11, yl_12, yl_15, yl_16, yl_20, yl_60, yl_64, yl_90, yl_97, yl_99, yl_100, yl_120, yl_239, yl_240] at *; first | omega | assumption | contradiction)))⟩, _, hX, keepX.rfl', (xkn.rfl').w, rfl⟩)
      by_cases s30_1 : what = 1
      · refine y_swIn tq_X8_ofCell 69 rfl (by rw [s30_1]; decide) (by rw [s30_1]; decide) (by rw [s30_1]; rfl) rfl ?_
        refine y_blk 1 tq_X8_ofCell (z := (70, [(0, .ref (ad 1)), (1, .int cell), (2, .int minute), (3, .int what)], [.ref (ad 1)])) rfl ?_
        refine y_callV hS tq_X8_ofCell rfl (As := []) rfl cv_X8_171 (hX.1 1 _ rfl) (m_X8_brightCells_v hS hX ) rfl (by decide) (Nat.le_of_ble_eq_true rfl) (fun r70 Gc70 q70 => ?_) (fun E9 G9 h9 => h9.elim)
        obtain ⟨rfl, eG70⟩ := q70
        have eG70 := eG70.symm
        subst eG70
        refine y_blk 1 tq_X8_ofCell (z := (74, [(0, .ref (ad 1)), (1, .int cell), (2, .int minute), (3, .int what)], [.int cell, .long (xbri σ)])) rfl ?_
        refine y_callS hS tq_X8_ofCell rfl (As := [.long (xbri σ), .int cell]) rfl cs_X8_124 (m_X8_isOf hS  (xbri σ) cell) rfl (by decide) (Nat.le_of_ble_eq_true rfl) (fun r74 Gc74 q74 => ?_) (fun E9 G9 h9 => h9.elim)
        obtain ⟨rfl, eG74⟩ := q74
        have eG74 := eG74.symm
        subst eG74
        refine y_blk 0 tq_X8_ofCell (z := (77, [(0, .ref (ad 1)), (1, .int cell), (2, .int minute), (3, .int what)], [.int (if xis (xbri σ) cell then 1 else 0)])) rfl ?_
        refine y_if_eq tq_X8_ofCell 84 rfl rfl (fun c77 => ?_) (fun c77 => ?_)
        · skip
          refine y_blk 1 tq_X8_ofCell (z := (85, [(0, .ref (ad 1)), (1, .int cell), (2, .int minute), (3, .int what)], [.int 0])) rfl ?_
          exact y_iret tq_X8_ofCell rfl rfl (⟨⟨congrArg (fun z => some (Value.int z)) (by (try simp only [yif0, Classical.not_not] at *); (repeat' split) <;> first | contradiction | with_reducible rfl), (by first | exact absurd rfl hq2 | exact absurd rfl hq11 | exact absurd rfl hq19 | exact absurd rfl hq21 | exact absurd rfl hq24 | exact absurd rfl hq30 | exact absurd rfl hq35 | exact absurd rfl hq39 | exact absurd rfl hq40 | exact absurd rfl hq57 | exact absurd rfl hq45 | exact absurd rfl hq38 | exact absurd rfl hq34 | exact absurd rfl hq33 | exact absurd rfl hq29 | ((repeat' apply And.intro) <;> first | assumption | (simp only [yif0, Classical.not_not, ylt, yle, xcp0, xcp3, xcp5, xcp10, xcp12, xcp16, xcp22, yl_m1, yl_0, yl_1, yl_2, yl_3, yl_4, yl_5, yl_6, yl_7, yl_8, yl_9, yl_10, yl_11, yl_12, yl_15, yl_16, yl_20, yl_60, yl_64, yl_90, yl_97, yl_99, yl_100, yl_120, yl_239, yl_240] at *; first | omega | assumption | contradiction)))⟩, _, hX, keepX.rfl', (xkn.rfl').w, rfl⟩)
        · skip
          refine y_blk 2 tq_X8_ofCell (z := (85, [(0, .ref (ad 1)), (1, .int cell), (2, .int minute), (3, .int what)], [.int 1])) rfl ?_
          exact y_iret tq_X8_ofCell rfl rfl (⟨⟨congrArg (fun z => some (Value.int z)) (by (try simp only [yif0, Classical.not_not] at *); (repeat' split) <;> first | contradiction | with_reducible rfl), (by first | exact absurd rfl hq2 | exact absurd rfl hq11 | exact absurd rfl hq19 | exact absurd rfl hq21 | exact absurd rfl hq24 | exact absurd rfl hq30 | exact absurd rfl hq35 | exact absurd rfl hq39 | exact absurd rfl hq40 | exact absurd rfl hq57 | exact absurd rfl hq45 | exact absurd rfl hq38 | exact absurd rfl hq34 | exact absurd rfl hq33 | exact absurd rfl hq29 | ((repeat' apply And.intro) <;> first | assumption | (simp only [yif0, Classical.not_not, ylt, yle, xcp0, xcp3, xcp5, xcp10, xcp12, xcp16, xcp22, yl_m1, yl_0, yl_1, yl_2, yl_3, yl_4, yl_5, yl_6, yl_7, yl_8, yl_9, yl_10, yl_11, yl_12, yl_15, yl_16, yl_20, yl_60, yl_64, yl_90, yl_97, yl_99, yl_100, yl_120, yl_239, yl_240] at *; first | omega | assumption | contradiction)))⟩, _, hX, keepX.rfl', (xkn.rfl').w, rfl⟩)
      by_cases s30_2 : what = 2
      · refine y_swIn tq_X8_ofCell 86 rfl (by rw [s30_2]; decide) (by rw [s30_2]; decide) (by rw [s30_2]; rfl) rfl ?_
        refine y_blk 3 tq_X8_ofCell (z := (89, [(0, .ref (ad 1)), (1, .int cell), (2, .int minute), (3, .int what)], [.int minute, .int cell, .ref (ad 1)])) rfl ?_
        refine y_callV hS tq_X8_ofCell rfl (As := [.int cell, .int minute]) rfl cv_X8_206 (hX.1 1 _ rfl) (m_X8_guardsWhoSee_v hS hX cell minute) rfl (by decide) (Nat.le_of_ble_eq_true rfl) (fun r89 Gc89 q89 => ?_) (fun E9 G9 h9 => h9.elim)
        obtain ⟨rfl, eG89⟩ := q89
        have eG89 := eG89.symm
        subst eG89
        refine y_blk 0 tq_X8_ofCell (z := (92, [(0, .ref (ad 1)), (1, .int cell), (2, .int minute), (3, .int what)], [.int (xgwN σ cell minute)])) rfl ?_
        exact y_iret tq_X8_ofCell rfl rfl (⟨⟨congrArg (fun z => some (Value.int z)) (by (try simp only [yif0, Classical.not_not] at *); (repeat' split) <;> first | contradiction | with_reducible rfl), (by first | exact absurd rfl hq2 | exact absurd rfl hq11 | exact absurd rfl hq19 | exact absurd rfl hq21 | exact absurd rfl hq24 | exact absurd rfl hq30 | exact absurd rfl hq35 | exact absurd rfl hq39 | exact absurd rfl hq40 | exact absurd rfl hq57 | exact absurd rfl hq45 | exact absurd rfl hq38 | exact absurd rfl hq34 | exact absurd rfl hq33 | exact absurd rfl hq29 | ((repeat' apply And.intro) <;> first | assumption | (simp only [yif0, Classical.not_not, ylt, yle, xcp0, xcp3, xcp5, xcp10, xcp12, xcp16, xcp22, yl_m1, yl_0, yl_1, yl_2, yl_3, yl_4, yl_5, yl_6, yl_7, yl_8, yl_9, yl_10, yl_11, yl_12, yl_15, yl_16, yl_20, yl_60, yl_64, yl_90, yl_97, yl_99, yl_100, yl_120, yl_239, yl_240] at *; first | omega | assumption | contradiction)))⟩, _, hX, keepX.rfl', (xkn.rfl').w, rfl⟩)
      by_cases s30_3 : what = 3
      · refine y_swIn tq_X8_ofCell 93 rfl (by rw [s30_3]; decide) (by rw [s30_3]; decide) (by rw [s30_3]; rfl) rfl ?_
        refine y_blk 1 tq_X8_ofCell (z := (94, [(0, .ref (ad 1)), (1, .int cell), (2, .int minute), (3, .int what)], [.ref (ad 1)])) rfl ?_
        refine y_get hS tq_X8_ofCell (v := .ref (ad 6)) rfl fg_X8_33_X8 (hX.1 1 _ rfl) rfl ?_
        refine y_blk 2 tq_X8_ofCell (z := (99, [(0, .ref (ad 1)), (1, .int cell), (2, .int minute), (3, .int what)], [.int minute, .int cell, .ref (ad 6)])) rfl ?_
        refine y_callV hS tq_X8_ofCell rfl (As := [.int cell, .int minute]) rfl cv_X8_209 (hX.1 6 _ rfl) (m_X2_setOn_v hS hX cell minute) rfl (by decide) (Nat.le_of_ble_eq_true rfl) (fun r99 Gc99 q99 => ?_) (fun E9 G9 h9 => h9.elim)
        obtain ⟨rfl, eG99⟩ := q99
        have eG99 := eG99.symm
        subst eG99
        refine y_blk 0 tq_X8_ofCell (z := (102, [(0, .ref (ad 1)), (1, .int cell), (2, .int minute), (3, .int what)], [.int (xsoN σ cell minute)])) rfl ?_
        exact y_iret tq_X8_ofCell rfl rfl (⟨⟨congrArg (fun z => some (Value.int z)) (by (try simp only [yif0, Classical.not_not] at *); (repeat' split) <;> first | contradiction | with_reducible rfl), (by first | exact absurd rfl hq2 | exact absurd rfl hq11 | exact absurd rfl hq19 | exact absurd rfl hq21 | exact absurd rfl hq24 | exact absurd rfl hq30 | exact absurd rfl hq35 | exact absurd rfl hq39 | exact absurd rfl hq40 | exact absurd rfl hq57 | exact absurd rfl hq45 | exact absurd rfl hq38 | exact absurd rfl hq34 | exact absurd rfl hq33 | exact absurd rfl hq29 | ((repeat' apply And.intro) <;> first | assumption | (simp only [yif0, Classical.not_not, ylt, yle, xcp0, xcp3, xcp5, xcp10, xcp12, xcp16, xcp22, yl_m1, yl_0, yl_1, yl_2, yl_3, yl_4, yl_5, yl_6, yl_7, yl_8, yl_9, yl_10, yl_11, yl_12, yl_15, yl_16, yl_20, yl_60, yl_64, yl_90, yl_97, yl_99, yl_100, yl_120, yl_239, yl_240] at *; first | omega | assumption | contradiction)))⟩, _, hX, keepX.rfl', (xkn.rfl').w, rfl⟩)
      refine y_swOut tq_X8_ofCell 103 rfl (by have z0 : what.toInt ≠ 0 := fun q => s30_0 (Int32.toInt_inj.mp (q.trans (by decide))); have z1 : what.toInt ≠ 1 := fun q => s30_1 (Int32.toInt_inj.mp (q.trans (by decide))); have z2 : what.toInt ≠ 2 := fun q => s30_2 (Int32.toInt_inj.mp (q.trans (by decide))); have z3 : what.toInt ≠ 3 := fun q => s30_3 (Int32.toInt_inj.mp (q.trans (by decide))); omega) rfl ?_
      refine y_blk 1 tq_X8_ofCell (z := (104, [(0, .ref (ad 1)), (1, .int cell), (2, .int minute), (3, .int what)], [.ref (ad 1)])) rfl ?_
      refine y_get hS tq_X8_ofCell (v := .ref (ad 2)) rfl fg_X8_10_X8 (hX.1 1 _ rfl) rfl ?_
      refine y_blk 1 tq_X8_ofCell (z := (108, [(0, .ref (ad 1)), (1, .int cell), (2, .int minute), (3, .int what)], [.int minute, .ref (ad 2)])) rfl ?_
      refine y_callV hS tq_X8_ofCell rfl (As := [.int minute]) rfl cv_X8_212 (hX.1 2 _ rfl) (m_X1_walkable_v hS hX minute) rfl (by decide) (Nat.le_of_ble_eq_true rfl) (fun r108 Gc108 q108 => ?_) (fun E9 G9 h9 => h9.elim)
      obtain ⟨rfl, eG108⟩ := q108
      have eG108 := eG108.symm
      subst eG108
      refine y_blk 1 tq_X8_ofCell (z := (112, [(0, .ref (ad 1)), (1, .int cell), (2, .int minute), (3, .int what)], [.int cell, .long (xwlk σ minute)])) rfl ?_
      refine y_callS hS tq_X8_ofCell rfl (As := [.long (xwlk σ minute), .int cell]) rfl cs_X8_124 (m_X8_isOf hS  (xwlk σ minute) cell) rfl (by decide) (Nat.le_of_ble_eq_true rfl) (fun r112 Gc112 q112 => ?_) (fun E9 G9 h9 => h9.elim)
      obtain ⟨rfl, eG112⟩ := q112
      have eG112 := eG112.symm
      subst eG112
      refine y_blk 0 tq_X8_ofCell (z := (115, [(0, .ref (ad 1)), (1, .int cell), (2, .int minute), (3, .int what)], [.int (if xis (xwlk σ minute) cell then 1 else 0)])) rfl ?_
      refine y_if_eq tq_X8_ofCell 122 rfl rfl (fun c115 => ?_) (fun c115 => ?_)
      · skip
        refine y_blk 1 tq_X8_ofCell (z := (123, [(0, .ref (ad 1)), (1, .int cell), (2, .int minute), (3, .int what)], [.int 0])) rfl ?_
        exact y_iret tq_X8_ofCell rfl rfl (⟨⟨congrArg (fun z => some (Value.int z)) (by (try simp only [yif0, Classical.not_not] at *); (repeat' split) <;> first | contradiction | with_reducible rfl), (by first | exact absurd rfl hq2 | exact absurd rfl hq11 | exact absurd rfl hq19 | exact absurd rfl hq21 | exact absurd rfl hq24 | exact absurd rfl hq30 | exact absurd rfl hq35 | exact absurd rfl hq39 | exact absurd rfl hq40 | exact absurd rfl hq57 | exact absurd rfl hq45 | exact absurd rfl hq38 | exact absurd rfl hq34 | exact absurd rfl hq33 | exact absurd rfl hq29 | ((repeat' apply And.intro) <;> first | assumption | (simp only [yif0, Classical.not_not, ylt, yle, xcp0, xcp3, xcp5, xcp10, xcp12, xcp16, xcp22, yl_m1, yl_0, yl_1, yl_2, yl_3, yl_4, yl_5, yl_6, yl_7, yl_8, yl_9, yl_10, yl_11, yl_12, yl_15, yl_16, yl_20, yl_60, yl_64, yl_90, yl_97, yl_99, yl_100, yl_120, yl_239, yl_240] at *; first | omega | assumption | contradiction)))⟩, _, hX, keepX.rfl', (xkn.rfl').w, rfl⟩)
      · skip
        refine y_blk 2 tq_X8_ofCell (z := (123, [(0, .ref (ad 1)), (1, .int cell), (2, .int minute), (3, .int what)], [.int 1])) rfl ?_
        exact y_iret tq_X8_ofCell rfl rfl (⟨⟨congrArg (fun z => some (Value.int z)) (by (try simp only [yif0, Classical.not_not] at *); (repeat' split) <;> first | contradiction | with_reducible rfl), (by first | exact absurd rfl hq2 | exact absurd rfl hq11 | exact absurd rfl hq19 | exact absurd rfl hq21 | exact absurd rfl hq24 | exact absurd rfl hq30 | exact absurd rfl hq35 | exact absurd rfl hq39 | exact absurd rfl hq40 | exact absurd rfl hq57 | exact absurd rfl hq45 | exact absurd rfl hq38 | exact absurd rfl hq34 | exact absurd rfl hq33 | exact absurd rfl hq29 | ((repeat' apply And.intro) <;> first | assumption | (simp only [yif0, Classical.not_not, ylt, yle, xcp0, xcp3, xcp5, xcp10, xcp12, xcp16, xcp22, yl_m1, yl_0, yl_1, yl_2, yl_3, yl_4, yl_5, yl_6, yl_7, yl_8, yl_9, yl_10, yl_11, yl_12, yl_15, yl_16, yl_20, yl_60, yl_64, yl_90, yl_97, yl_99, yl_100, yl_120, yl_239, yl_240] at *; first | omega | assumption | contradiction)))⟩, _, hX, keepX.rfl', (xkn.rfl').w, rfl⟩)
    · skip
      refine y_blk 2 tq_X8_ofCell (z := (26, [(0, .ref (ad 1)), (1, .int cell), (2, .int minute), (3, .int what)], [.int 1])) rfl ?_
      refine y_callS hS tq_X8_ofCell rfl (As := [.int 1]) rfl cs_X8_117 (m_X8_needLet hS  1) rfl (by decide) (Nat.le_of_ble_eq_true rfl) (fun r26 Gc26 q26 => ?_) (fun E9 G9 h9 => ⟨(Or.inr (And.intro h9.1.1 (by first | exact h9.1.2 | exact absurd h9.1.2 (by decide) | exact absurd rfl hq2 | exact absurd rfl hq11 | exact absurd rfl hq19 | exact absurd rfl hq21 | exact absurd rfl hq24 | exact absurd rfl hq30 | exact absurd rfl hq35 | exact absurd rfl hq39 | exact absurd rfl hq40 | exact absurd rfl hq57 | exact absurd rfl hq45 | exact absurd rfl hq38 | exact absurd rfl hq34 | exact absurd rfl hq33 | exact absurd rfl hq29 | (have z9 := h9.1.2; clear h9; (repeat' apply And.intro) <;> first | (first | assumption | (simp only [yif0, Classical.not_not, ylt, yle, xcp0, xcp3, xcp5, xcp10, xcp12, xcp16, xcp22, yl_m1, yl_0, yl_1, yl_2, yl_3, yl_4, yl_5, yl_6, yl_7, yl_8, yl_9, yl_10, yl_11, yl_12, yl_15, yl_16, yl_20, yl_60, yl_64, yl_90, yl_97, yl_99, yl_100, yl_120, yl_239, yl_240] at *; first | omega | assumption | contradiction)) | (intro q9; (simp only [yif0, Classical.not_not, ylt, yle, xcp0, xcp3, xcp5, xcp10, xcp12, xcp16, xcp22, yl_m1, yl_0, yl_1, yl_2, yl_3, yl_4, yl_5, yl_6, yl_7, yl_8, yl_9, yl_10, yl_11, yl_12, yl_15, yl_16, yl_20, yl_60, yl_64, yl_90, yl_97, yl_99, yl_100, yl_120, yl_239, yl_240] at *; first | omega | contradiction | (obtain ⟨qa, qb⟩ := q9; contradiction))))))), h9.2⟩)
      obtain ⟨⟨rfl, hq26⟩, eG26⟩ := q26
      have eG26 := eG26.symm
      subst eG26
      refine y_blk 1 tq_X8_ofCell (z := (30, [(0, .ref (ad 1)), (1, .int cell), (2, .int minute), (3, .int what)], [.int what])) rfl ?_
      by_cases s30_0 : what = 0
      · refine y_swIn tq_X8_ofCell 60 rfl (by rw [s30_0]; decide) (by rw [s30_0]; decide) (by rw [s30_0]; rfl) rfl ?_
        refine y_blk 1 tq_X8_ofCell (z := (61, [(0, .ref (ad 1)), (1, .int cell), (2, .int minute), (3, .int what)], [.ref (ad 1)])) rfl ?_
        refine y_get hS tq_X8_ofCell (v := .ref (ad 2)) rfl fg_X8_10_X8 (hX.1 1 _ rfl) rfl ?_
        refine y_blk 1 tq_X8_ofCell (z := (65, [(0, .ref (ad 1)), (1, .int cell), (2, .int minute), (3, .int what)], [.int cell, .ref (ad 2)])) rfl ?_
        refine y_callV hS tq_X8_ofCell rfl (As := [.int cell]) rfl cv_X8_131 (hX.1 2 _ rfl) (m_X1_kindOf hS hX cell) rfl (by decide) (Nat.le_of_ble_eq_true rfl) (fun r65 Gc65 q65 => ?_) (fun E9 G9 h9 => h9.elim)
        obtain ⟨rfl, eG65⟩ := q65
        have eG65 := eG65.symm
        subst eG65
        refine y_blk 0 tq_X8_ofCell (z := (68, [(0, .ref (ad 1)), (1, .int cell), (2, .int minute), (3, .int what)], [.int (xkf σ cell)])) rfl ?_
        exact y_iret tq_X8_ofCell rfl rfl (⟨⟨congrArg (fun z => some (Value.int z)) (by (try simp only [yif0, Classical.not_not] at *); (repeat' split) <;> first | contradiction | with_reducible rfl), (by first | exact absurd rfl hq2 | exact absurd rfl hq11 | exact absurd rfl hq19 | exact absurd rfl hq21 | exact absurd rfl hq24 | exact absurd rfl hq30 | exact absurd rfl hq35 | exact absurd rfl hq39 | exact absurd rfl hq40 | exact absurd rfl hq57 | exact absurd rfl hq45 | exact absurd rfl hq38 | exact absurd rfl hq34 | exact absurd rfl hq33 | exact absurd rfl hq29 | ((repeat' apply And.intro) <;> first | assumption | (simp only [yif0, Classical.not_not, ylt, yle, xcp0, xcp3, xcp5, xcp10, xcp12, xcp16, xcp22, yl_m1, yl_0, yl_1, yl_2, yl_3, yl_4, yl_5, yl_6, yl_7, yl_8, yl_9, yl_10, yl_11, yl_12, yl_15, yl_16, yl_20, yl_60, yl_64, yl_90, yl_97, yl_99, yl_100, yl_120, yl_239, yl_240] at *; first | omega | assumption | contradiction)))⟩, _, hX, keepX.rfl', (xkn.rfl').w, rfl⟩)
      by_cases s30_1 : what = 1
      · refine y_swIn tq_X8_ofCell 69 rfl (by rw [s30_1]; decide) (by rw [s30_1]; decide) (by rw [s30_1]; rfl) rfl ?_
        refine y_blk 1 tq_X8_ofCell (z := (70, [(0, .ref (ad 1)), (1, .int cell), (2, .int minute), (3, .int what)], [.ref (ad 1)])) rfl ?_
        refine y_callV hS tq_X8_ofCell rfl (As := []) rfl cv_X8_171 (hX.1 1 _ rfl) (m_X8_brightCells_v hS hX ) rfl (by decide) (Nat.le_of_ble_eq_true rfl) (fun r70 Gc70 q70 => ?_) (fun E9 G9 h9 => h9.elim)
        obtain ⟨rfl, eG70⟩ := q70
        have eG70 := eG70.symm
        subst eG70
        refine y_blk 1 tq_X8_ofCell (z := (74, [(0, .ref (ad 1)), (1, .int cell), (2, .int minute), (3, .int what)], [.int cell, .long (xbri σ)])) rfl ?_
        refine y_callS hS tq_X8_ofCell rfl (As := [.long (xbri σ), .int cell]) rfl cs_X8_124 (m_X8_isOf hS  (xbri σ) cell) rfl (by decide) (Nat.le_of_ble_eq_true rfl) (fun r74 Gc74 q74 => ?_) (fun E9 G9 h9 => h9.elim)
        obtain ⟨rfl, eG74⟩ := q74
        have eG74 := eG74.symm
        subst eG74
        refine y_blk 0 tq_X8_ofCell (z := (77, [(0, .ref (ad 1)), (1, .int cell), (2, .int minute), (3, .int what)], [.int (if xis (xbri σ) cell then 1 else 0)])) rfl ?_
        refine y_if_eq tq_X8_ofCell 84 rfl rfl (fun c77 => ?_) (fun c77 => ?_)
        · skip
          refine y_blk 1 tq_X8_ofCell (z := (85, [(0, .ref (ad 1)), (1, .int cell), (2, .int minute), (3, .int what)], [.int 0])) rfl ?_
          exact y_iret tq_X8_ofCell rfl rfl (⟨⟨congrArg (fun z => some (Value.int z)) (by (try simp only [yif0, Classical.not_not] at *); (repeat' split) <;> first | contradiction | with_reducible rfl), (by first | exact absurd rfl hq2 | exact absurd rfl hq11 | exact absurd rfl hq19 | exact absurd rfl hq21 | exact absurd rfl hq24 | exact absurd rfl hq30 | exact absurd rfl hq35 | exact absurd rfl hq39 | exact absurd rfl hq40 | exact absurd rfl hq57 | exact absurd rfl hq45 | exact absurd rfl hq38 | exact absurd rfl hq34 | exact absurd rfl hq33 | exact absurd rfl hq29 | ((repeat' apply And.intro) <;> first | assumption | (simp only [yif0, Classical.not_not, ylt, yle, xcp0, xcp3, xcp5, xcp10, xcp12, xcp16, xcp22, yl_m1, yl_0, yl_1, yl_2, yl_3, yl_4, yl_5, yl_6, yl_7, yl_8, yl_9, yl_10, yl_11, yl_12, yl_15, yl_16, yl_20, yl_60, yl_64, yl_90, yl_97, yl_99, yl_100, yl_120, yl_239, yl_240] at *; first | omega | assumption | contradiction)))⟩, _, hX, keepX.rfl', (xkn.rfl').w, rfl⟩)
        · skip
          refine y_blk 2 tq_X8_ofCell (z := (85, [(0, .ref (ad 1)), (1, .int cell), (2, .int minute), (3, .int what)], [.int 1])) rfl ?_
          exact y_iret tq_X8_ofCell rfl rfl (⟨⟨congrArg (fun z => some (Value.int z)) (by (try simp only [yif0, Classical.not_not] at *); (repeat' split) <;> first | contradiction | with_reducible rfl), (by first | exact absurd rfl hq2 | exact absurd rfl hq11 | exact absurd rfl hq19 | exact absurd rfl hq21 | exact absurd rfl hq24 | exact absurd rfl hq30 | exact absurd rfl hq35 | exact absurd rfl hq39 | exact absurd rfl hq40 | exact absurd rfl hq57 | exact absurd rfl hq45 | exact absurd rfl hq38 | exact absurd rfl hq34 | exact absurd rfl hq33 | exact absurd rfl hq29 | ((repeat' apply And.intro) <;> first | assumption | (simp only [yif0, Classical.not_not, ylt, yle, xcp0, xcp3, xcp5, xcp10, xcp12, xcp16, xcp22, yl_m1, yl_0, yl_1, yl_2, yl_3, yl_4, yl_5, yl_6, yl_7, yl_8, yl_9, yl_10, yl_11, yl_12, yl_15, yl_16, yl_20, yl_60, yl_64, yl_90, yl_97, yl_99, yl_100, yl_120, yl_239, yl_240] at *; first | omega | assumption | contradiction)))⟩, _, hX, keepX.rfl', (xkn.rfl').w, rfl⟩)
      by_cases s30_2 : what = 2
      · refine y_swIn tq_X8_ofCell 86 rfl (by rw [s30_2]; decide) (by rw [s30_2]; decide) (by rw [s30_2]; rfl) rfl ?_
        refine y_blk 3 tq_X8_ofCell (z := (89, [(0, .ref (ad 1)), (1, .int cell), (2, .int minute), (3, .int what)], [.int minute, .int cell, .ref (ad 1)])) rfl ?_
        refine y_callV hS tq_X8_ofCell rfl (As := [.int cell, .int minute]) rfl cv_X8_206 (hX.1 1 _ rfl) (m_X8_guardsWhoSee_v hS hX cell minute) rfl (by decide) (Nat.le_of_ble_eq_true rfl) (fun r89 Gc89 q89 => ?_) (fun E9 G9 h9 => h9.elim)
        obtain ⟨rfl, eG89⟩ := q89
        have eG89 := eG89.symm
        subst eG89
        refine y_blk 0 tq_X8_ofCell (z := (92, [(0, .ref (ad 1)), (1, .int cell), (2, .int minute), (3, .int what)], [.int (xgwN σ cell minute)])) rfl ?_
        exact y_iret tq_X8_ofCell rfl rfl (⟨⟨congrArg (fun z => some (Value.int z)) (by (try simp only [yif0, Classical.not_not] at *); (repeat' split) <;> first | contradiction | with_reducible rfl), (by first | exact absurd rfl hq2 | exact absurd rfl hq11 | exact absurd rfl hq19 | exact absurd rfl hq21 | exact absurd rfl hq24 | exact absurd rfl hq30 | exact absurd rfl hq35 | exact absurd rfl hq39 | exact absurd rfl hq40 | exact absurd rfl hq57 | exact absurd rfl hq45 | exact absurd rfl hq38 | exact absurd rfl hq34 | exact absurd rfl hq33 | exact absurd rfl hq29 | ((repeat' apply And.intro) <;> first | assumption | (simp only [yif0, Classical.not_not, ylt, yle, xcp0, xcp3, xcp5, xcp10, xcp12, xcp16, xcp22, yl_m1, yl_0, yl_1, yl_2, yl_3, yl_4, yl_5, yl_6, yl_7, yl_8, yl_9, yl_10, yl_11, yl_12, yl_15, yl_16, yl_20, yl_60, yl_64, yl_90, yl_97, yl_99, yl_100, yl_120, yl_239, yl_240] at *; first | omega | assumption | contradiction)))⟩, _, hX, keepX.rfl', (xkn.rfl').w, rfl⟩)
      by_cases s30_3 : what = 3
      · refine y_swIn tq_X8_ofCell 93 rfl (by rw [s30_3]; decide) (by rw [s30_3]; decide) (by rw [s30_3]; rfl) rfl ?_
        refine y_blk 1 tq_X8_ofCell (z := (94, [(0, .ref (ad 1)), (1, .int cell), (2, .int minute), (3, .int what)], [.ref (ad 1)])) rfl ?_
        refine y_get hS tq_X8_ofCell (v := .ref (ad 6)) rfl fg_X8_33_X8 (hX.1 1 _ rfl) rfl ?_
        refine y_blk 2 tq_X8_ofCell (z := (99, [(0, .ref (ad 1)), (1, .int cell), (2, .int minute), (3, .int what)], [.int minute, .int cell, .ref (ad 6)])) rfl ?_
        refine y_callV hS tq_X8_ofCell rfl (As := [.int cell, .int minute]) rfl cv_X8_209 (hX.1 6 _ rfl) (m_X2_setOn_v hS hX cell minute) rfl (by decide) (Nat.le_of_ble_eq_true rfl) (fun r99 Gc99 q99 => ?_) (fun E9 G9 h9 => h9.elim)
        obtain ⟨rfl, eG99⟩ := q99
        have eG99 := eG99.symm
        subst eG99
        refine y_blk 0 tq_X8_ofCell (z := (102, [(0, .ref (ad 1)), (1, .int cell), (2, .int minute), (3, .int what)], [.int (xsoN σ cell minute)])) rfl ?_
        exact y_iret tq_X8_ofCell rfl rfl (⟨⟨congrArg (fun z => some (Value.int z)) (by (try simp only [yif0, Classical.not_not] at *); (repeat' split) <;> first | contradiction | with_reducible rfl), (by first | exact absurd rfl hq2 | exact absurd rfl hq11 | exact absurd rfl hq19 | exact absurd rfl hq21 | exact absurd rfl hq24 | exact absurd rfl hq30 | exact absurd rfl hq35 | exact absurd rfl hq39 | exact absurd rfl hq40 | exact absurd rfl hq57 | exact absurd rfl hq45 | exact absurd rfl hq38 | exact absurd rfl hq34 | exact absurd rfl hq33 | exact absurd rfl hq29 | ((repeat' apply And.intro) <;> first | assumption | (simp only [yif0, Classical.not_not, ylt, yle, xcp0, xcp3, xcp5, xcp10, xcp12, xcp16, xcp22, yl_m1, yl_0, yl_1, yl_2, yl_3, yl_4, yl_5, yl_6, yl_7, yl_8, yl_9, yl_10, yl_11, yl_12, yl_15, yl_16, yl_20, yl_60, yl_64, yl_90, yl_97, yl_99, yl_100, yl_120, yl_239, yl_240] at *; first | omega | assumption | contradiction)))⟩, _, hX, keepX.rfl', (xkn.rfl').w, rfl⟩)
      refine y_swOut tq_X8_ofCell 103 rfl (by have z0 : what.toInt ≠ 0 := fun q => s30_0 (Int32.toInt_inj.mp (q.trans (by decide))); have z1 : what.toInt ≠ 1 := fun q => s30_1 (Int32.toInt_inj.mp (q.trans (by decide))); have z2 : what.toInt ≠ 2 := fun q => s30_2 (Int32.toInt_inj.mp (q.trans (by decide))); have z3 : what.toInt ≠ 3 := fun q => s30_3 (Int32.toInt_inj.mp (q.trans (by decide))); omega) rfl ?_
      refine y_blk 1 tq_X8_ofCell (z := (104, [(0, .ref (ad 1)), (1, .int cell), (2, .int minute), (3, .int what)], [.ref (ad 1)])) rfl ?_
      refine y_get hS tq_X8_ofCell (v := .ref (ad 2)) rfl fg_X8_10_X8 (hX.1 1 _ rfl) rfl ?_
      refine y_blk 1 tq_X8_ofCell (z := (108, [(0, .ref (ad 1)), (1, .int cell), (2, .int minute), (3, .int what)], [.int minute, .ref (ad 2)])) rfl ?_
      refine y_callV hS tq_X8_ofCell rfl (As := [.int minute]) rfl cv_X8_212 (hX.1 2 _ rfl) (m_X1_walkable_v hS hX minute) rfl (by decide) (Nat.le_of_ble_eq_true rfl) (fun r108 Gc108 q108 => ?_) (fun E9 G9 h9 => h9.elim)
      obtain ⟨rfl, eG108⟩ := q108
      have eG108 := eG108.symm
      subst eG108
      refine y_blk 1 tq_X8_ofCell (z := (112, [(0, .ref (ad 1)), (1, .int cell), (2, .int minute), (3, .int what)], [.int cell, .long (xwlk σ minute)])) rfl ?_
      refine y_callS hS tq_X8_ofCell rfl (As := [.long (xwlk σ minute), .int cell]) rfl cs_X8_124 (m_X8_isOf hS  (xwlk σ minute) cell) rfl (by decide) (Nat.le_of_ble_eq_true rfl) (fun r112 Gc112 q112 => ?_) (fun E9 G9 h9 => h9.elim)
      obtain ⟨rfl, eG112⟩ := q112
      have eG112 := eG112.symm
      subst eG112
      refine y_blk 0 tq_X8_ofCell (z := (115, [(0, .ref (ad 1)), (1, .int cell), (2, .int minute), (3, .int what)], [.int (if xis (xwlk σ minute) cell then 1 else 0)])) rfl ?_
      refine y_if_eq tq_X8_ofCell 122 rfl rfl (fun c115 => ?_) (fun c115 => ?_)
      · skip
        refine y_blk 1 tq_X8_ofCell (z := (123, [(0, .ref (ad 1)), (1, .int cell), (2, .int minute), (3, .int what)], [.int 0])) rfl ?_
        exact y_iret tq_X8_ofCell rfl rfl (⟨⟨congrArg (fun z => some (Value.int z)) (by (try simp only [yif0, Classical.not_not] at *); (repeat' split) <;> first | contradiction | with_reducible rfl), (by first | exact absurd rfl hq2 | exact absurd rfl hq11 | exact absurd rfl hq19 | exact absurd rfl hq21 | exact absurd rfl hq24 | exact absurd rfl hq30 | exact absurd rfl hq35 | exact absurd rfl hq39 | exact absurd rfl hq40 | exact absurd rfl hq57 | exact absurd rfl hq45 | exact absurd rfl hq38 | exact absurd rfl hq34 | exact absurd rfl hq33 | exact absurd rfl hq29 | ((repeat' apply And.intro) <;> first | assumption | (simp only [yif0, Classical.not_not, ylt, yle, xcp0, xcp3, xcp5, xcp10, xcp12, xcp16, xcp22, yl_m1, yl_0, yl_1, yl_2, yl_3, yl_4, yl_5, yl_6, yl_7, yl_8, yl_9, yl_10, yl_11, yl_12, yl_15, yl_16, yl_20, yl_60, yl_64, yl_90, yl_97, yl_99, yl_100, yl_120, yl_239, yl_240] at *; first | omega | assumption | contradiction)))⟩, _, hX, keepX.rfl', (xkn.rfl').w, rfl⟩)
      · skip
        refine y_blk 2 tq_X8_ofCell (z := (123, [(0, .ref (ad 1)), (1, .int cell), (2, .int minute), (3, .int what)], [.int 1])) rfl ?_
        exact y_iret tq_X8_ofCell rfl rfl (⟨⟨congrArg (fun z => some (Value.int z)) (by (try simp only [yif0, Classical.not_not] at *); (repeat' split) <;> first | contradiction | with_reducible rfl), (by first | exact absurd rfl hq2 | exact absurd rfl hq11 | exact absurd rfl hq19 | exact absurd rfl hq21 | exact absurd rfl hq24 | exact absurd rfl hq30 | exact absurd rfl hq35 | exact absurd rfl hq39 | exact absurd rfl hq40 | exact absurd rfl hq57 | exact absurd rfl hq45 | exact absurd rfl hq38 | exact absurd rfl hq34 | exact absurd rfl hq33 | exact absurd rfl hq29 | ((repeat' apply And.intro) <;> first | assumption | (simp only [yif0, Classical.not_not, ylt, yle, xcp0, xcp3, xcp5, xcp10, xcp12, xcp16, xcp22, yl_m1, yl_0, yl_1, yl_2, yl_3, yl_4, yl_5, yl_6, yl_7, yl_8, yl_9, yl_10, yl_11, yl_12, yl_15, yl_16, yl_20, yl_60, yl_64, yl_90, yl_97, yl_99, yl_100, yl_120, yl_239, yl_240] at *; first | omega | assumption | contradiction)))⟩, _, hX, keepX.rfl', (xkn.rfl').w, rfl⟩)
set_option maxHeartbeats 4000000 in
set_option maxRecDepth 100000 in
theorem m_X8_ofMinute_v {l : Launch} {S0 : State} {A0 : Array Value} {D : va_G} {aC : Nat → ClassId} {ad : Nat → Nat} {G : AH} {σ : XS} (hS : yS l S0 A0 D aC) (hX : atX aC ad G σ) (minute : Int32) (what : Int32) : yM l S0 D yX8_ofMinute cX8_ofMinute 3 (some .int) 14 1 6 [.ref (ad 1), .int minute, .int what] G (fun r G1 => (r = some (.int (if what = 0 then xfog σ minute else if what = 1 then bcL (((xall (σ.2.2.1 0 * σ.2.2.1 1)) &&& ((σ.2.2.2.1 2) ^^^ (-1))) &&& ((xsgV σ (-1) minute (xbri σ)) ^^^ (-1))) else if what = 2 then xcoN σ minute else if what = 3 then xctN σ minute else if what = 4 then xepN σ minute else if what = 5 then bcL (xbri σ) else xkoN σ minute)) ∧ ((0 ≤ minute ∧ minute ≤ 239) ∧ (0 ≤ what ∧ what ≤ 6))) ∧ ∃ σ1 : XS, atX aC ad G1 σ1 ∧ keepX G G1 ∧ xfr [] σ σ1 ∧ σ1 = σ) (fun E G1 => ((E = "java/lang/IllegalArgumentException" ∧ (¬ ((0 ≤ minute ∧ minute ≤ 239) ∧ (0 ≤ what ∧ what ≤ 6))))) ∧ G1 = G) := by
  refine yM.ofK K_X8_ofMinute rfl (by decide) (Nat.le_of_ble_eq_true rfl) ?_
  refine y_blk 1 tq_X8_ofMinute (z := (1, [(0, .ref (ad 1)), (1, .int minute), (2, .int what)], [.int minute])) rfl ?_
  refine y_callS hS tq_X8_ofMinute rfl (As := [.int minute]) rfl cs_X8_139 (m_X8_isMinute hS  minute) rfl (by decide) (Nat.le_of_ble_eq_true rfl) (fun r1 Gc1 q1 => ?_) (fun E9 G9 h9 => h9.elim)
  obtain ⟨rfl, eG1⟩ := q1
  have eG1 := eG1.symm
  subst eG1
  refine y_blk 0 tq_X8_ofMinute (z := (4, [(0, .ref (ad 1)), (1, .int minute), (2, .int what)], [.int (if 0 ≤ minute ∧ minute ≤ 239 then 1 else 0)])) rfl ?_
  refine y_if_eq tq_X8_ofMinute 21 rfl rfl (fun c4 => ?_) (fun c4 => ?_)
  · skip
    refine y_blk 1 tq_X8_ofMinute (z := (22, [(0, .ref (ad 1)), (1, .int minute), (2, .int what)], [.int 0])) rfl ?_
    refine y_callS hS tq_X8_ofMinute rfl (As := [.int 0]) rfl cs_X8_117 (m_X8_needLet hS  0) rfl (by decide) (Nat.le_of_ble_eq_true rfl) (fun r22 Gc22 q22 => ?_) (fun E9 G9 h9 => ⟨(And.intro h9.1.1 (by first | exact h9.1.2 | exact absurd h9.1.2 (by decide) | exact absurd rfl hq2 | exact absurd rfl hq11 | exact absurd rfl hq19 | exact absurd rfl hq21 | exact absurd rfl hq24 | exact absurd rfl hq30 | exact absurd rfl hq35 | exact absurd rfl hq39 | exact absurd rfl hq40 | exact absurd rfl hq57 | exact absurd rfl hq45 | exact absurd rfl hq38 | exact absurd rfl hq34 | exact absurd rfl hq33 | exact absurd rfl hq29 | (have z9 := h9.1.2; clear h9; (repeat' apply And.intro) <;> first | (first | assumption | (simp only [yif0, Classical.not_not, ylt, yle, xcp0, xcp3, xcp5, xcp10, xcp12, xcp16, xcp22, yl_m1, yl_0, yl_1, yl_2, yl_3, yl_4, yl_5, yl_6, yl_7, yl_8, yl_9, yl_10, yl_11, yl_12, yl_15, yl_16, yl_20, yl_60, yl_64, yl_90, yl_97, yl_99, yl_100, yl_120, yl_239, yl_240] at *; first | omega | assumption | contradiction)) | (intro q9; (simp only [yif0, Classical.not_not, ylt, yle, xcp0, xcp3, xcp5, xcp10, xcp12, xcp16, xcp22, yl_m1, yl_0, yl_1, yl_2, yl_3, yl_4, yl_5, yl_6, yl_7, yl_8, yl_9, yl_10, yl_11, yl_12, yl_15, yl_16, yl_20, yl_60, yl_64, yl_90, yl_97, yl_99, yl_100, yl_120, yl_239, yl_240] at *; first | omega | contradiction | (obtain ⟨qa, qb⟩ := q9; contradiction)))))), h9.2⟩)
    obtain ⟨⟨rfl, hq22⟩, eG22⟩ := q22
    have eG22 := eG22.symm
    subst eG22
    refine y_blk 1 tq_X8_ofMinute (z := (26, [(0, .ref (ad 1)), (1, .int minute), (2, .int what)], [.int what])) rfl ?_
    by_cases s26_0 : what = 0
    · refine y_swIn tq_X8_ofMinute 64 rfl (by rw [s26_0]; decide) (by rw [s26_0]; decide) (by rw [s26_0]; rfl) rfl ?_
      refine y_blk 1 tq_X8_ofMinute (z := (65, [(0, .ref (ad 1)), (1, .int minute), (2, .int what)], [.ref (ad 1)])) rfl ?_
      refine y_get hS tq_X8_ofMinute (v := .ref (ad 5)) rfl fg_X8_26_X8 (hX.1 1 _ rfl) rfl ?_
      refine y_blk 1 tq_X8_ofMinute (z := (69, [(0, .ref (ad 1)), (1, .int minute), (2, .int what)], [.int minute, .ref (ad 5)])) rfl ?_
      refine y_callV hS tq_X8_ofMinute rfl (As := [.int minute]) rfl cv_X8_216 (hX.1 5 _ rfl) (m_X0_fogAt_v hS hX minute) rfl (by decide) (Nat.le_of_ble_eq_true rfl) (fun r69 Gc69 q69 => ?_) (fun E9 G9 h9 => h9.elim)
      obtain ⟨rfl, eG69⟩ := q69
      have eG69 := eG69.symm
      subst eG69
      refine y_blk 0 tq_X8_ofMinute (z := (72, [(0, .ref (ad 1)), (1, .int minute), (2, .int what)], [.int (xfog σ minute)])) rfl ?_
      exact y_iret tq_X8_ofMinute rfl rfl (⟨⟨congrArg (fun z => some (Value.int z)) (by (try simp only [yif0, Classical.not_not] at *); (repeat' split) <;> first | contradiction | with_reducible rfl), (by first | exact absurd rfl hq2 | exact absurd rfl hq11 | exact absurd rfl hq19 | exact absurd rfl hq21 | exact absurd rfl hq24 | exact absurd rfl hq30 | exact absurd rfl hq35 | exact absurd rfl hq39 | exact absurd rfl hq40 | exact absurd rfl hq57 | exact absurd rfl hq45 | exact absurd rfl hq38 | exact absurd rfl hq34 | exact absurd rfl hq33 | exact absurd rfl hq29 | ((repeat' apply And.intro) <;> first | assumption | (simp only [yif0, Classical.not_not, ylt, yle, xcp0, xcp3, xcp5, xcp10, xcp12, xcp16, xcp22, yl_m1, yl_0, yl_1, yl_2, yl_3, yl_4, yl_5, yl_6, yl_7, yl_8, yl_9, yl_10, yl_11, yl_12, yl_15, yl_16, yl_20, yl_60, yl_64, yl_90, yl_97, yl_99, yl_100, yl_120, yl_239, yl_240] at *; first | omega | assumption | contradiction)))⟩, _, hX, keepX.rfl', (xkn.rfl').w, rfl⟩)
    by_cases s26_1 : what = 1
    · refine y_swIn tq_X8_ofMinute 73 rfl (by rw [s26_1]; decide) (by rw [s26_1]; decide) (by rw [s26_1]; rfl) rfl ?_
      refine y_blk 1 tq_X8_ofMinute (z := (74, [(0, .ref (ad 1)), (1, .int minute), (2, .int what)], [.ref (ad 1)])) rfl ?_
      refine y_get hS tq_X8_ofMinute (v := .ref (ad 2)) rfl fg_X8_10_X8 (hX.1 1 _ rfl) rfl ?_
      refine y_blk 0 tq_X8_ofMinute (z := (77, [(0, .ref (ad 1)), (1, .int minute), (2, .int what)], [.ref (ad 2)])) rfl ?_
      refine y_callV hS tq_X8_ofMinute rfl (As := []) rfl cv_X8_104 (hX.1 2 _ rfl) (m_X1_openCells hS hX ) rfl (by decide) (Nat.le_of_ble_eq_true rfl) (fun r77 Gc77 q77 => ?_) (fun E9 G9 h9 => h9.elim)
      obtain ⟨rfl, eG77⟩ := q77
      have eG77 := eG77.symm
      subst eG77
      refine y_blk 2 tq_X8_ofMinute (z := (82, [(0, .ref (ad 1)), (1, .int minute), (2, .int what)], [.int minute, .ref (ad 1), .long ((xall (σ.2.2.1 0 * σ.2.2.1 1)) &&& ((σ.2.2.2.1 2) ^^^ (-1)))])) rfl ?_
      refine y_callV hS tq_X8_ofMinute rfl (As := [.int minute]) rfl cv_X8_219 (hX.1 1 _ rfl) (m_X8_watchedCells_v hS hX minute) rfl (by decide) (Nat.le_of_ble_eq_true rfl) (fun r82 Gc82 q82 => ?_) (fun E9 G9 h9 => h9.elim)
      obtain ⟨rfl, eG82⟩ := q82
      have eG82 := eG82.symm
      subst eG82
      refine y_blk 0 tq_X8_ofMinute (z := (85, [(0, .ref (ad 1)), (1, .int minute), (2, .int what)], [.long (xsgV σ (-1) minute (xbri σ)), .long ((xall (σ.2.2.1 0 * σ.2.2.1 1)) &&& ((σ.2.2.2.1 2) ^^^ (-1)))])) rfl ?_
      refine y_ldc2 hS tq_X8_ofMinute rfl ld_X8_222 ?_
      refine y_blk 2 tq_X8_ofMinute (z := (90, [(0, .ref (ad 1)), (1, .int minute), (2, .int what)], [.long (((xall (σ.2.2.1 0 * σ.2.2.1 1)) &&& ((σ.2.2.2.1 2) ^^^ (-1))) &&& ((xsgV σ (-1) minute (xbri σ)) ^^^ (-1)))])) rfl ?_
      refine y_callS hS tq_X8_ofMinute rfl (As := [.long (((xall (σ.2.2.1 0 * σ.2.2.1 1)) &&& ((σ.2.2.2.1 2) ^^^ (-1))) &&& ((xsgV σ (-1) minute (xbri σ)) ^^^ (-1)))]) rfl cs_X8_108 (m_J13_bitCount_95d88 hS  (((xall (σ.2.2.1 0 * σ.2.2.1 1)) &&& ((σ.2.2.2.1 2) ^^^ (-1))) &&& ((xsgV σ (-1) minute (xbri σ)) ^^^ (-1)))) rfl (by decide) (Nat.le_of_ble_eq_true rfl) (fun r90 Gc90 q90 => ?_) (fun E9 G9 h9 => h9.elim)
      obtain ⟨rfl, eG90⟩ := q90
      have eG90 := eG90.symm
      subst eG90
      refine y_blk 0 tq_X8_ofMinute (z := (93, [(0, .ref (ad 1)), (1, .int minute), (2, .int what)], [.int (bcL (((xall (σ.2.2.1 0 * σ.2.2.1 1)) &&& ((σ.2.2.2.1 2) ^^^ (-1))) &&& ((xsgV σ (-1) minute (xbri σ)) ^^^ (-1))))])) rfl ?_
      exact y_iret tq_X8_ofMinute rfl rfl (⟨⟨congrArg (fun z => some (Value.int z)) (by (try simp only [yif0, Classical.not_not] at *); (repeat' split) <;> first | contradiction | with_reducible rfl), (by first | exact absurd rfl hq2 | exact absurd rfl hq11 | exact absurd rfl hq19 | exact absurd rfl hq21 | exact absurd rfl hq24 | exact absurd rfl hq30 | exact absurd rfl hq35 | exact absurd rfl hq39 | exact absurd rfl hq40 | exact absurd rfl hq57 | exact absurd rfl hq45 | exact absurd rfl hq38 | exact absurd rfl hq34 | exact absurd rfl hq33 | exact absurd rfl hq29 | ((repeat' apply And.intro) <;> first | assumption | (simp only [yif0, Classical.not_not, ylt, yle, xcp0, xcp3, xcp5, xcp10, xcp12, xcp16, xcp22, yl_m1, yl_0, yl_1, yl_2, yl_3, yl_4, yl_5, yl_6, yl_7, yl_8, yl_9, yl_10, yl_11, yl_12, yl_15, yl_16, yl_20, yl_60, yl_64, yl_90, yl_97, yl_99, yl_100, yl_120, yl_239, yl_240] at *; first | omega | assumption | contradiction)))⟩, _, hX, keepX.rfl', (xkn.rfl').w, rfl⟩)
    by_cases s26_2 : what = 2
    · refine y_swIn tq_X8_ofMinute 94 rfl (by rw [s26_2]; decide) (by rw [s26_2]; decide) (by rw [s26_2]; rfl) rfl ?_
      refine y_blk 1 tq_X8_ofMinute (z := (95, [(0, .ref (ad 1)), (1, .int minute), (2, .int what)], [.ref (ad 1)])) rfl ?_
      refine y_get hS tq_X8_ofMinute (v := .ref (ad 6)) rfl fg_X8_33_X8 (hX.1 1 _ rfl) rfl ?_
      refine y_blk 1 tq_X8_ofMinute (z := (99, [(0, .ref (ad 1)), (1, .int minute), (2, .int what)], [.int minute, .ref (ad 6)])) rfl ?_
      refine y_callV hS tq_X8_ofMinute rfl (As := [.int minute]) rfl cv_X8_224 (hX.1 6 _ rfl) (m_X2_countOnDuty_v hS hX minute) rfl (by decide) (Nat.le_of_ble_eq_true rfl) (fun r99 Gc99 q99 => ?_) (fun E9 G9 h9 => h9.elim)
      obtain ⟨rfl, eG99⟩ := q99
      have eG99 := eG99.symm
      subst eG99
      refine y_blk 0 tq_X8_ofMinute (z := (102, [(0, .ref (ad 1)), (1, .int minute), (2, .int what)], [.int (xcoN σ minute)])) rfl ?_
      exact y_iret tq_X8_ofMinute rfl rfl (⟨⟨congrArg (fun z => some (Value.int z)) (by (try simp only [yif0, Classical.not_not] at *); (repeat' split) <;> first | contradiction | with_reducible rfl), (by first | exact absurd rfl hq2 | exact absurd rfl hq11 | exact absurd rfl hq19 | exact absurd rfl hq21 | exact absurd rfl hq24 | exact absurd rfl hq30 | exact absurd rfl hq35 | exact absurd rfl hq39 | exact absurd rfl hq40 | exact absurd rfl hq57 | exact absurd rfl hq45 | exact absurd rfl hq38 | exact absurd rfl hq34 | exact absurd rfl hq33 | exact absurd rfl hq29 | ((repeat' apply And.intro) <;> first | assumption | (simp only [yif0, Classical.not_not, ylt, yle, xcp0, xcp3, xcp5, xcp10, xcp12, xcp16, xcp22, yl_m1, yl_0, yl_1, yl_2, yl_3, yl_4, yl_5, yl_6, yl_7, yl_8, yl_9, yl_10, yl_11, yl_12, yl_15, yl_16, yl_20, yl_60, yl_64, yl_90, yl_97, yl_99, yl_100, yl_120, yl_239, yl_240] at *; first | omega | assumption | contradiction)))⟩, _, hX, keepX.rfl', (xkn.rfl').w, rfl⟩)
    by_cases s26_3 : what = 3
    · refine y_swIn tq_X8_ofMinute 103 rfl (by rw [s26_3]; decide) (by rw [s26_3]; decide) (by rw [s26_3]; rfl) rfl ?_
      refine y_blk 1 tq_X8_ofMinute (z := (104, [(0, .ref (ad 1)), (1, .int minute), (2, .int what)], [.ref (ad 1)])) rfl ?_
      refine y_get hS tq_X8_ofMinute (v := .ref (ad 6)) rfl fg_X8_33_X8 (hX.1 1 _ rfl) rfl ?_
      refine y_blk 1 tq_X8_ofMinute (z := (108, [(0, .ref (ad 1)), (1, .int minute), (2, .int what)], [.int minute, .ref (ad 6)])) rfl ?_
      refine y_callV hS tq_X8_ofMinute rfl (As := [.int minute]) rfl cv_X8_227 (hX.1 6 _ rfl) (m_X2_countTired_v hS hX minute) rfl (by decide) (Nat.le_of_ble_eq_true rfl) (fun r108 Gc108 q108 => ?_) (fun E9 G9 h9 => h9.elim)
      obtain ⟨rfl, eG108⟩ := q108
      have eG108 := eG108.symm
      subst eG108
      refine y_blk 0 tq_X8_ofMinute (z := (111, [(0, .ref (ad 1)), (1, .int minute), (2, .int what)], [.int (xctN σ minute)])) rfl ?_
      exact y_iret tq_X8_ofMinute rfl rfl (⟨⟨congrArg (fun z => some (Value.int z)) (by (try simp only [yif0, Classical.not_not] at *); (repeat' split) <;> first | contradiction | with_reducible rfl), (by first | exact absurd rfl hq2 | exact absurd rfl hq11 | exact absurd rfl hq19 | exact absurd rfl hq21 | exact absurd rfl hq24 | exact absurd rfl hq30 | exact absurd rfl hq35 | exact absurd rfl hq39 | exact absurd rfl hq40 | exact absurd rfl hq57 | exact absurd rfl hq45 | exact absurd rfl hq38 | exact absurd rfl hq34 | exact absurd rfl hq33 | exact absurd rfl hq29 | ((repeat' apply And.intro) <;> first | assumption | (simp only [yif0, Classical.not_not, ylt, yle, xcp0, xcp3, xcp5, xcp10, xcp12, xcp16, xcp22, yl_m1, yl_0, yl_1, yl_2, yl_3, yl_4, yl_5, yl_6, yl_7, yl_8, yl_9, yl_10, yl_11, yl_12, yl_15, yl_16, yl_20, yl_60, yl_64, yl_90, yl_97, yl_99, yl_100, yl_120, yl_239, yl_240] at *; first | omega | assumption | contradiction)))⟩, _, hX, keepX.rfl', (xkn.rfl').w, rfl⟩)
    by_cases s26_4 : what = 4
    · refine y_swIn tq_X8_ofMinute 112 rfl (by rw [s26_4]; decide) (by rw [s26_4]; decide) (by rw [s26_4]; rfl) rfl ?_
      refine y_blk 2 tq_X8_ofMinute (z := (114, [(0, .ref (ad 1)), (1, .int minute), (2, .int what)], [.int minute, .ref (ad 1)])) rfl ?_
      refine y_callV hS tq_X8_ofMinute rfl (As := [.int minute]) rfl cv_X8_230 (hX.1 1 _ rfl) (m_X8_countEmptyPosts_v hS hX minute) rfl (by decide) (Nat.le_of_ble_eq_true rfl) (fun r114 Gc114 q114 => ?_) (fun E9 G9 h9 => h9.elim)
      obtain ⟨rfl, eG114⟩ := q114
      have eG114 := eG114.symm
      subst eG114
      refine y_blk 0 tq_X8_ofMinute (z := (117, [(0, .ref (ad 1)), (1, .int minute), (2, .int what)], [.int (xepN σ minute)])) rfl ?_
      exact y_iret tq_X8_ofMinute rfl rfl (⟨⟨congrArg (fun z => some (Value.int z)) (by (try simp only [yif0, Classical.not_not] at *); (repeat' split) <;> first | contradiction | with_reducible rfl), (by first | exact absurd rfl hq2 | exact absurd rfl hq11 | exact absurd rfl hq19 | exact absurd rfl hq21 | exact absurd rfl hq24 | exact absurd rfl hq30 | exact absurd rfl hq35 | exact absurd rfl hq39 | exact absurd rfl hq40 | exact absurd rfl hq57 | exact absurd rfl hq45 | exact absurd rfl hq38 | exact absurd rfl hq34 | exact absurd rfl hq33 | exact absurd rfl hq29 | ((repeat' apply And.intro) <;> first | assumption | (simp only [yif0, Classical.not_not, ylt, yle, xcp0, xcp3, xcp5, xcp10, xcp12, xcp16, xcp22, yl_m1, yl_0, yl_1, yl_2, yl_3, yl_4, yl_5, yl_6, yl_7, yl_8, yl_9, yl_10, yl_11, yl_12, yl_15, yl_16, yl_20, yl_60, yl_64, yl_90, yl_97, yl_99, yl_100, yl_120, yl_239, yl_240] at *; first | omega | assumption | contradiction)))⟩, _, hX, keepX.rfl', (xkn.rfl').w, rfl⟩)
    by_cases s26_5 : what = 5
    · refine y_swIn tq_X8_ofMinute 118 rfl (by rw [s26_5]; decide) (by rw [s26_5]; decide) (by rw [s26_5]; rfl) rfl ?_
      refine y_blk 1 tq_X8_ofMinute (z := (119, [(0, .ref (ad 1)), (1, .int minute), (2, .int what)], [.ref (ad 1)])) rfl ?_
      refine y_callV hS tq_X8_ofMinute rfl (As := []) rfl cv_X8_171 (hX.1 1 _ rfl) (m_X8_brightCells_v hS hX ) rfl (by decide) (Nat.le_of_ble_eq_true rfl) (fun r119 Gc119 q119 => ?_) (fun E9 G9 h9 => h9.elim)
      obtain ⟨rfl, eG119⟩ := q119
      have eG119 := eG119.symm
      subst eG119
      refine y_blk 0 tq_X8_ofMinute (z := (122, [(0, .ref (ad 1)), (1, .int minute), (2, .int what)], [.long (xbri σ)])) rfl ?_
      refine y_callS hS tq_X8_ofMinute rfl (As := [.long (xbri σ)]) rfl cs_X8_108 (m_J13_bitCount_95d88 hS  (xbri σ)) rfl (by decide) (Nat.le_of_ble_eq_true rfl) (fun r122 Gc122 q122 => ?_) (fun E9 G9 h9 => h9.elim)
      obtain ⟨rfl, eG122⟩ := q122
      have eG122 := eG122.symm
      subst eG122
      refine y_blk 0 tq_X8_ofMinute (z := (125, [(0, .ref (ad 1)), (1, .int minute), (2, .int what)], [.int (bcL (xbri σ))])) rfl ?_
      exact y_iret tq_X8_ofMinute rfl rfl (⟨⟨congrArg (fun z => some (Value.int z)) (by (try simp only [yif0, Classical.not_not] at *); (repeat' split) <;> first | contradiction | with_reducible rfl), (by first | exact absurd rfl hq2 | exact absurd rfl hq11 | exact absurd rfl hq19 | exact absurd rfl hq21 | exact absurd rfl hq24 | exact absurd rfl hq30 | exact absurd rfl hq35 | exact absurd rfl hq39 | exact absurd rfl hq40 | exact absurd rfl hq57 | exact absurd rfl hq45 | exact absurd rfl hq38 | exact absurd rfl hq34 | exact absurd rfl hq33 | exact absurd rfl hq29 | ((repeat' apply And.intro) <;> first | assumption | (simp only [yif0, Classical.not_not, ylt, yle, xcp0, xcp3, xcp5, xcp10, xcp12, xcp16, xcp22, yl_m1, yl_0, yl_1, yl_2, yl_3, yl_4, yl_5, yl_6, yl_7, yl_8, yl_9, yl_10, yl_11, yl_12, yl_15, yl_16, yl_20, yl_60, yl_64, yl_90, yl_97, yl_99, yl_100, yl_120, yl_239, yl_240] at *; first | omega | assumption | contradiction)))⟩, _, hX, keepX.rfl', (xkn.rfl').w, rfl⟩)
    refine y_swOut tq_X8_ofMinute 126 rfl (by have z0 : what.toInt ≠ 0 := fun q => s26_0 (Int32.toInt_inj.mp (q.trans (by decide))); have z1 : what.toInt ≠ 1 := fun q => s26_1 (Int32.toInt_inj.mp (q.trans (by decide))); have z2 : what.toInt ≠ 2 := fun q => s26_2 (Int32.toInt_inj.mp (q.trans (by decide))); have z3 : what.toInt ≠ 3 := fun q => s26_3 (Int32.toInt_inj.mp (q.trans (by decide))); have z4 : what.toInt ≠ 4 := fun q => s26_4 (Int32.toInt_inj.mp (q.trans (by decide))); have z5 : what.toInt ≠ 5 := fun q => s26_5 (Int32.toInt_inj.mp (q.trans (by decide))); omega) rfl ?_
    refine y_blk 2 tq_X8_ofMinute (z := (128, [(0, .ref (ad 1)), (1, .int minute), (2, .int what)], [.int minute, .ref (ad 1)])) rfl ?_
    refine y_callV hS tq_X8_ofMinute rfl (As := [.int minute]) rfl cv_X8_233 (hX.1 1 _ rfl) (m_X8_countKeysOffDuty_v hS hX minute) rfl (by decide) (Nat.le_of_ble_eq_true rfl) (fun r128 Gc128 q128 => ?_) (fun E9 G9 h9 => h9.elim)
    obtain ⟨rfl, eG128⟩ := q128
    have eG128 := eG128.symm
    subst eG128
    refine y_blk 0 tq_X8_ofMinute (z := (131, [(0, .ref (ad 1)), (1, .int minute), (2, .int what)], [.int (xkoN σ minute)])) rfl ?_
    exact y_iret tq_X8_ofMinute rfl rfl (⟨⟨congrArg (fun z => some (Value.int z)) (by (try simp only [yif0, Classical.not_not] at *); (repeat' split) <;> first | contradiction | with_reducible rfl), (by first | exact absurd rfl hq2 | exact absurd rfl hq11 | exact absurd rfl hq19 | exact absurd rfl hq21 | exact absurd rfl hq24 | exact absurd rfl hq30 | exact absurd rfl hq35 | exact absurd rfl hq39 | exact absurd rfl hq40 | exact absurd rfl hq57 | exact absurd rfl hq45 | exact absurd rfl hq38 | exact absurd rfl hq34 | exact absurd rfl hq33 | exact absurd rfl hq29 | ((repeat' apply And.intro) <;> first | assumption | (simp only [yif0, Classical.not_not, ylt, yle, xcp0, xcp3, xcp5, xcp10, xcp12, xcp16, xcp22, yl_m1, yl_0, yl_1, yl_2, yl_3, yl_4, yl_5, yl_6, yl_7, yl_8, yl_9, yl_10, yl_11, yl_12, yl_15, yl_16, yl_20, yl_60, yl_64, yl_90, yl_97, yl_99, yl_100, yl_120, yl_239, yl_240] at *; first | omega | assumption | contradiction)))⟩, _, hX, keepX.rfl', (xkn.rfl').w, rfl⟩)
  · skip
    refine y_blk 3 tq_X8_ofMinute (z := (11, [(0, .ref (ad 1)), (1, .int minute), (2, .int what)], [.int 6, .int 0, .int what])) rfl ?_
    refine y_callS hS tq_X8_ofMinute rfl (As := [.int what, .int 0, .int 6]) rfl cs_X8_76 (m_X8_isIn hS  what 0 6) rfl (by decide) (Nat.le_of_ble_eq_true rfl) (fun r11 Gc11 q11 => ?_) (fun E9 G9 h9 => h9.elim)
    obtain ⟨rfl, eG11⟩ := q11
    have eG11 := eG11.symm
    subst eG11
    refine y_blk 0 tq_X8_ofMinute (z := (14, [(0, .ref (ad 1)), (1, .int minute), (2, .int what)], [.int (if 0 ≤ what ∧ what ≤ 6 then 1 else 0)])) rfl ?_
    refine y_if_eq tq_X8_ofMinute 21 rfl rfl (fun c14 => ?_) (fun c14 => ?_)
    · skip
      refine y_blk 1 tq_X8_ofMinute (z := (22, [(0, .ref (ad 1)), (1, .int minute), (2, .int what)], [.int 0])) rfl ?_
      refine y_callS hS tq_X8_ofMinute rfl (As := [.int 0]) rfl cs_X8_117 (m_X8_needLet hS  0) rfl (by decide) (Nat.le_of_ble_eq_true rfl) (fun r22 Gc22 q22 => ?_) (fun E9 G9 h9 => ⟨(And.intro h9.1.1 (by first | exact h9.1.2 | exact absurd h9.1.2 (by decide) | exact absurd rfl hq2 | exact absurd rfl hq11 | exact absurd rfl hq19 | exact absurd rfl hq21 | exact absurd rfl hq24 | exact absurd rfl hq30 | exact absurd rfl hq35 | exact absurd rfl hq39 | exact absurd rfl hq40 | exact absurd rfl hq57 | exact absurd rfl hq45 | exact absurd rfl hq38 | exact absurd rfl hq34 | exact absurd rfl hq33 | exact absurd rfl hq29 | (have z9 := h9.1.2; clear h9; (repeat' apply And.intro) <;> first | (first | assumption | (simp only [yif0, Classical.not_not, ylt, yle, xcp0, xcp3, xcp5, xcp10, xcp12, xcp16, xcp22, yl_m1, yl_0, yl_1, yl_2, yl_3, yl_4, yl_5, yl_6, yl_7, yl_8, yl_9, yl_10, yl_11, yl_12, yl_15, yl_16, yl_20, yl_60, yl_64, yl_90, yl_97, yl_99, yl_100, yl_120, yl_239, yl_240] at *; first | omega | assumption | contradiction)) | (intro q9; (simp only [yif0, Classical.not_not, ylt, yle, xcp0, xcp3, xcp5, xcp10, xcp12, xcp16, xcp22, yl_m1, yl_0, yl_1, yl_2, yl_3, yl_4, yl_5, yl_6, yl_7, yl_8, yl_9, yl_10, yl_11, yl_12, yl_15, yl_16, yl_20, yl_60, yl_64, yl_90, yl_97, yl_99, yl_100, yl_120, yl_239, yl_240] at *; first | omega | contradiction | (obtain ⟨qa, qb⟩ := q9; contradiction)))))), h9.2⟩)
      obtain ⟨⟨rfl, hq22⟩, eG22⟩ := q22
      have eG22 := eG22.symm
      subst eG22
      refine y_blk 1 tq_X8_ofMinute (z := (26, [(0, .ref (ad 1)), (1, .int minute), (2, .int what)], [.int what])) rfl ?_
      by_cases s26_0 : what = 0
      · refine y_swIn tq_X8_ofMinute 64 rfl (by rw [s26_0]; decide) (by rw [s26_0]; decide) (by rw [s26_0]; rfl) rfl ?_
        refine y_blk 1 tq_X8_ofMinute (z := (65, [(0, .ref (ad 1)), (1, .int minute), (2, .int what)], [.ref (ad 1)])) rfl ?_
        refine y_get hS tq_X8_ofMinute (v := .ref (ad 5)) rfl fg_X8_26_X8 (hX.1 1 _ rfl) rfl ?_
        refine y_blk 1 tq_X8_ofMinute (z := (69, [(0, .ref (ad 1)), (1, .int minute), (2, .int what)], [.int minute, .ref (ad 5)])) rfl ?_
        refine y_callV hS tq_X8_ofMinute rfl (As := [.int minute]) rfl cv_X8_216 (hX.1 5 _ rfl) (m_X0_fogAt_v hS hX minute) rfl (by decide) (Nat.le_of_ble_eq_true rfl) (fun r69 Gc69 q69 => ?_) (fun E9 G9 h9 => h9.elim)
        obtain ⟨rfl, eG69⟩ := q69
        have eG69 := eG69.symm
        subst eG69
        refine y_blk 0 tq_X8_ofMinute (z := (72, [(0, .ref (ad 1)), (1, .int minute), (2, .int what)], [.int (xfog σ minute)])) rfl ?_
        exact y_iret tq_X8_ofMinute rfl rfl (⟨⟨congrArg (fun z => some (Value.int z)) (by (try simp only [yif0, Classical.not_not] at *); (repeat' split) <;> first | contradiction | with_reducible rfl), (by first | exact absurd rfl hq2 | exact absurd rfl hq11 | exact absurd rfl hq19 | exact absurd rfl hq21 | exact absurd rfl hq24 | exact absurd rfl hq30 | exact absurd rfl hq35 | exact absurd rfl hq39 | exact absurd rfl hq40 | exact absurd rfl hq57 | exact absurd rfl hq45 | exact absurd rfl hq38 | exact absurd rfl hq34 | exact absurd rfl hq33 | exact absurd rfl hq29 | ((repeat' apply And.intro) <;> first | assumption | (simp only [yif0, Classical.not_not, ylt, yle, xcp0, xcp3, xcp5, xcp10, xcp12, xcp16, xcp22, yl_m1, yl_0, yl_1, yl_2, yl_3, yl_4, yl_5, yl_6, yl_7, yl_8, yl_9, yl_10, yl_11, yl_12, yl_15, yl_16, yl_20, yl_60, yl_64, yl_90, yl_97, yl_99, yl_100, yl_120, yl_239, yl_240] at *; first | omega | assumption | contradiction)))⟩, _, hX, keepX.rfl', (xkn.rfl').w, rfl⟩)
      by_cases s26_1 : what = 1
      · refine y_swIn tq_X8_ofMinute 73 rfl (by rw [s26_1]; decide) (by rw [s26_1]; decide) (by rw [s26_1]; rfl) rfl ?_
        refine y_blk 1 tq_X8_ofMinute (z := (74, [(0, .ref (ad 1)), (1, .int minute), (2, .int what)], [.ref (ad 1)])) rfl ?_
        refine y_get hS tq_X8_ofMinute (v := .ref (ad 2)) rfl fg_X8_10_X8 (hX.1 1 _ rfl) rfl ?_
        refine y_blk 0 tq_X8_ofMinute (z := (77, [(0, .ref (ad 1)), (1, .int minute), (2, .int what)], [.ref (ad 2)])) rfl ?_
        refine y_callV hS tq_X8_ofMinute rfl (As := []) rfl cv_X8_104 (hX.1 2 _ rfl) (m_X1_openCells hS hX ) rfl (by decide) (Nat.le_of_ble_eq_true rfl) (fun r77 Gc77 q77 => ?_) (fun E9 G9 h9 => h9.elim)
        obtain ⟨rfl, eG77⟩ := q77
        have eG77 := eG77.symm
        subst eG77
        refine y_blk 2 tq_X8_ofMinute (z := (82, [(0, .ref (ad 1)), (1, .int minute), (2, .int what)], [.int minute, .ref (ad 1), .long ((xall (σ.2.2.1 0 * σ.2.2.1 1)) &&& ((σ.2.2.2.1 2) ^^^ (-1)))])) rfl ?_
        refine y_callV hS tq_X8_ofMinute rfl (As := [.int minute]) rfl cv_X8_219 (hX.1 1 _ rfl) (m_X8_watchedCells_v hS hX minute) rfl (by decide) (Nat.le_of_ble_eq_true rfl) (fun r82 Gc82 q82 => ?_) (fun E9 G9 h9 => h9.elim)
        obtain ⟨rfl, eG82⟩ := q82
        have eG82 := eG82.symm
        subst eG82
        refine y_blk 0 tq_X8_ofMinute (z := (85, [(0, .ref (ad 1)), (1, .int minute), (2, .int what)], [.long (xsgV σ (-1) minute (xbri σ)), .long ((xall (σ.2.2.1 0 * σ.2.2.1 1)) &&& ((σ.2.2.2.1 2) ^^^ (-1)))])) rfl ?_
        refine y_ldc2 hS tq_X8_ofMinute rfl ld_X8_222 ?_
        refine y_blk 2 tq_X8_ofMinute (z := (90, [(0, .ref (ad 1)), (1, .int minute), (2, .int what)], [.long (((xall (σ.2.2.1 0 * σ.2.2.1 1)) &&& ((σ.2.2.2.1 2) ^^^ (-1))) &&& ((xsgV σ (-1) minute (xbri σ)) ^^^ (-1)))])) rfl ?_
        refine y_callS hS tq_X8_ofMinute rfl (As := [.long (((xall (σ.2.2.1 0 * σ.2.2.1 1)) &&& ((σ.2.2.2.1 2) ^^^ (-1))) &&& ((xsgV σ (-1) minute (xbri σ)) ^^^ (-1)))]) rfl cs_X8_108 (m_J13_bitCount_95d88 hS  (((xall (σ.2.2.1 0 * σ.2.2.1 1)) &&& ((σ.2.2.2.1 2) ^^^ (-1))) &&& ((xsgV σ (-1) minute (xbri σ)) ^^^ (-1)))) rfl (by decide) (Nat.le_of_ble_eq_true rfl) (fun r90 Gc90 q90 => ?_) (fun E9 G9 h9 => h9.elim)
        obtain ⟨rfl, eG90⟩ := q90
        have eG90 := eG90.symm
        subst eG90
        refine y_blk 0 tq_X8_ofMinute (z := (93, [(0, .ref (ad 1)), (1, .int minute), (2, .int what)], [.int (bcL (((xall (σ.2.2.1 0 * σ.2.2.1 1)) &&& ((σ.2.2.2.1 2) ^^^ (-1))) &&& ((xsgV σ (-1) minute (xbri σ)) ^^^ (-1))))])) rfl ?_
        exact y_iret tq_X8_ofMinute rfl rfl (⟨⟨congrArg (fun z => some (Value.int z)) (by (try simp only [yif0, Classical.not_not] at *); (repeat' split) <;> first | contradiction | with_reducible rfl), (by first | exact absurd rfl hq2 | exact absurd rfl hq11 | exact absurd rfl hq19 | exact absurd rfl hq21 | exact absurd rfl hq24 | exact absurd rfl hq30 | exact absurd rfl hq35 | exact absurd rfl hq39 | exact absurd rfl hq40 | exact absurd rfl hq57 | exact absurd rfl hq45 | exact absurd rfl hq38 | exact absurd rfl hq34 | exact absurd rfl hq33 | exact absurd rfl hq29 | ((repeat' apply And.intro) <;> first | assumption | (simp only [yif0, Classical.not_not, ylt, yle, xcp0, xcp3, xcp5, xcp10, xcp12, xcp16, xcp22, yl_m1, yl_0, yl_1, yl_2, yl_3, yl_4, yl_5, yl_6, yl_7, yl_8, yl_9, yl_10, yl_11, yl_12, yl_15, yl_16, yl_20, yl_60, yl_64, yl_90, yl_97, yl_99, yl_100, yl_120, yl_239, yl_240] at *; first | omega | assumption | contradiction)))⟩, _, hX, keepX.rfl', (xkn.rfl').w, rfl⟩)
      by_cases s26_2 : what = 2
      · refine y_swIn tq_X8_ofMinute 94 rfl (by rw [s26_2]; decide) (by rw [s26_2]; decide) (by rw [s26_2]; rfl) rfl ?_
        refine y_blk 1 tq_X8_ofMinute (z := (95, [(0, .ref (ad 1)), (1, .int minute), (2, .int what)], [.ref (ad 1)])) rfl ?_
        refine y_get hS tq_X8_ofMinute (v := .ref (ad 6)) rfl fg_X8_33_X8 (hX.1 1 _ rfl) rfl ?_
        refine y_blk 1 tq_X8_ofMinute (z := (99, [(0, .ref (ad 1)), (1, .int minute), (2, .int what)], [.int minute, .ref (ad 6)])) rfl ?_
        refine y_callV hS tq_X8_ofMinute rfl (As := [.int minute]) rfl cv_X8_224 (hX.1 6 _ rfl) (m_X2_countOnDuty_v hS hX minute) rfl (by decide) (Nat.le_of_ble_eq_true rfl) (fun r99 Gc99 q99 => ?_) (fun E9 G9 h9 => h9.elim)
        obtain ⟨rfl, eG99⟩ := q99
        have eG99 := eG99.symm
        subst eG99
        refine y_blk 0 tq_X8_ofMinute (z := (102, [(0, .ref (ad 1)), (1, .int minute), (2, .int what)], [.int (xcoN σ minute)])) rfl ?_
        exact y_iret tq_X8_ofMinute rfl rfl (⟨⟨congrArg (fun z => some (Value.int z)) (by (try simp only [yif0, Classical.not_not] at *); (repeat' split) <;> first | contradiction | with_reducible rfl), (by first | exact absurd rfl hq2 | exact absurd rfl hq11 | exact absurd rfl hq19 | exact absurd rfl hq21 | exact absurd rfl hq24 | exact absurd rfl hq30 | exact absurd rfl hq35 | exact absurd rfl hq39 | exact absurd rfl hq40 | exact absurd rfl hq57 | exact absurd rfl hq45 | exact absurd rfl hq38 | exact absurd rfl hq34 | exact absurd rfl hq33 | exact absurd rfl hq29 | ((repeat' apply And.intro) <;> first | assumption | (simp only [yif0, Classical.not_not, ylt, yle, xcp0, xcp3, xcp5, xcp10, xcp12, xcp16, xcp22, yl_m1, yl_0, yl_1, yl_2, yl_3, yl_4, yl_5, yl_6, yl_7, yl_8, yl_9, yl_10, yl_11, yl_12, yl_15, yl_16, yl_20, yl_60, yl_64, yl_90, yl_97, yl_99, yl_100, yl_120, yl_239, yl_240] at *; first | omega | assumption | contradiction)))⟩, _, hX, keepX.rfl', (xkn.rfl').w, rfl⟩)
      by_cases s26_3 : what = 3
      · refine y_swIn tq_X8_ofMinute 103 rfl (by rw [s26_3]; decide) (by rw [s26_3]; decide) (by rw [s26_3]; rfl) rfl ?_
        refine y_blk 1 tq_X8_ofMinute (z := (104, [(0, .ref (ad 1)), (1, .int minute), (2, .int what)], [.ref (ad 1)])) rfl ?_
        refine y_get hS tq_X8_ofMinute (v := .ref (ad 6)) rfl fg_X8_33_X8 (hX.1 1 _ rfl) rfl ?_
        refine y_blk 1 tq_X8_ofMinute (z := (108, [(0, .ref (ad 1)), (1, .int minute), (2, .int what)], [.int minute, .ref (ad 6)])) rfl ?_
        refine y_callV hS tq_X8_ofMinute rfl (As := [.int minute]) rfl cv_X8_227 (hX.1 6 _ rfl) (m_X2_countTired_v hS hX minute) rfl (by decide) (Nat.le_of_ble_eq_true rfl) (fun r108 Gc108 q108 => ?_) (fun E9 G9 h9 => h9.elim)
        obtain ⟨rfl, eG108⟩ := q108
        have eG108 := eG108.symm
        subst eG108
        refine y_blk 0 tq_X8_ofMinute (z := (111, [(0, .ref (ad 1)), (1, .int minute), (2, .int what)], [.int (xctN σ minute)])) rfl ?_
        exact y_iret tq_X8_ofMinute rfl rfl (⟨⟨congrArg (fun z => some (Value.int z)) (by (try simp only [yif0, Classical.not_not] at *); (repeat' split) <;> first | contradiction | with_reducible rfl), (by first | exact absurd rfl hq2 | exact absurd rfl hq11 | exact absurd rfl hq19 | exact absurd rfl hq21 | exact absurd rfl hq24 | exact absurd rfl hq30 | exact absurd rfl hq35 | exact absurd rfl hq39 | exact absurd rfl hq40 | exact absurd rfl hq57 | exact absurd rfl hq45 | exact absurd rfl hq38 | exact absurd rfl hq34 | exact absurd rfl hq33 | exact absurd rfl hq29 | ((repeat' apply And.intro) <;> first | assumption | (simp only [yif0, Classical.not_not, ylt, yle, xcp0, xcp3, xcp5, xcp10, xcp12, xcp16, xcp22, yl_m1, yl_0, yl_1, yl_2, yl_3, yl_4, yl_5, yl_6, yl_7, yl_8, yl_9, yl_10, yl_11, yl_12, yl_15, yl_16, yl_20, yl_60, yl_64, yl_90, yl_97, yl_99, yl_100, yl_120, yl_239, yl_240] at *; first | omega | assumption | contradiction)))⟩, _, hX, keepX.rfl', (xkn.rfl').w, rfl⟩)
      by_cases s26_4 : what = 4
      · refine y_swIn tq_X8_ofMinute 112 rfl (by rw [s26_4]; decide) (by rw [s26_4]; decide) (by rw [s26_4]; rfl) rfl ?_
        refine y_blk 2 tq_X8_ofMinute (z := (114, [(0, .ref (ad 1)), (1, .int minute), (2, .int what)], [.int minute, .ref (ad 1)])) rfl ?_
        refine y_callV hS tq_X8_ofMinute rfl (As := [.int minute]) rfl cv_X8_230 (hX.1 1 _ rfl) (m_X8_countEmptyPosts_v hS hX minute) rfl (by decide) (Nat.le_of_ble_eq_true rfl) (fun r114 Gc114 q114 => ?_) (fun E9 G9 h9 => h9.elim)
        obtain ⟨rfl, eG114⟩ := q114
        have eG114 := eG114.symm
        subst eG114
        refine y_blk 0 tq_X8_ofMinute (z := (117, [(0, .ref (ad 1)), (1, .int minute), (2, .int what)], [.int (xepN σ minute)])) rfl ?_
        exact y_iret tq_X8_ofMinute rfl rfl (⟨⟨congrArg (fun z => some (Value.int z)) (by (try simp only [yif0, Classical.not_not] at *); (repeat' split) <;> first | contradiction | with_reducible rfl), (by first | exact absurd rfl hq2 | exact absurd rfl hq11 | exact absurd rfl hq19 | exact absurd rfl hq21 | exact absurd rfl hq24 | exact absurd rfl hq30 | exact absurd rfl hq35 | exact absurd rfl hq39 | exact absurd rfl hq40 | exact absurd rfl hq57 | exact absurd rfl hq45 | exact absurd rfl hq38 | exact absurd rfl hq34 | exact absurd rfl hq33 | exact absurd rfl hq29 | ((repeat' apply And.intro) <;> first | assumption | (simp only [yif0, Classical.not_not, ylt, yle, xcp0, xcp3, xcp5, xcp10, xcp12, xcp16, xcp22, yl_m1, yl_0, yl_1, yl_2, yl_3, yl_4, yl_5, yl_6, yl_7, yl_8, yl_9, yl_10, yl_11, yl_12, yl_15, yl_16, yl_20, yl_60, yl_64, yl_90, yl_97, yl_99, yl_100, yl_120, yl_239, yl_240] at *; first | omega | assumption | contradiction)))⟩, _, hX, keepX.rfl', (xkn.rfl').w, rfl⟩)
      by_cases s26_5 : what = 5
      · refine y_swIn tq_X8_ofMinute 118 rfl (by rw [s26_5]; decide) (by rw [s26_5]; decide) (by rw [s26_5]; rfl) rfl ?_
        refine y_blk 1 tq_X8_ofMinute (z := (119, [(0, .ref (ad 1)), (1, .int minute), (2, .int what)], [.ref (ad 1)])) rfl ?_
        refine y_callV hS tq_X8_ofMinute rfl (As := []) rfl cv_X8_171 (hX.1 1 _ rfl) (m_X8_brightCells_v hS hX ) rfl (by decide) (Nat.le_of_ble_eq_true rfl) (fun r119 Gc119 q119 => ?_) (fun E9 G9 h9 => h9.elim)
        obtain ⟨rfl, eG119⟩ := q119
        have eG119 := eG119.symm
        subst eG119
        refine y_blk 0 tq_X8_ofMinute (z := (122, [(0, .ref (ad 1)), (1, .int minute), (2, .int what)], [.long (xbri σ)])) rfl ?_
        refine y_callS hS tq_X8_ofMinute rfl (As := [.long (xbri σ)]) rfl cs_X8_108 (m_J13_bitCount_95d88 hS  (xbri σ)) rfl (by decide) (Nat.le_of_ble_eq_true rfl) (fun r122 Gc122 q122 => ?_) (fun E9 G9 h9 => h9.elim)
        obtain ⟨rfl, eG122⟩ := q122
        have eG122 := eG122.symm
        subst eG122
        refine y_blk 0 tq_X8_ofMinute (z := (125, [(0, .ref (ad 1)), (1, .int minute), (2, .int what)], [.int (bcL (xbri σ))])) rfl ?_
        exact y_iret tq_X8_ofMinute rfl rfl (⟨⟨congrArg (fun z => some (Value.int z)) (by (try simp only [yif0, Classical.not_not] at *); (repeat' split) <;> first | contradiction | with_reducible rfl), (by first | exact absurd rfl hq2 | exact absurd rfl hq11 | exact absurd rfl hq19 | exact absurd rfl hq21 | exact absurd rfl hq24 | exact absurd rfl hq30 | exact absurd rfl hq35 | exact absurd rfl hq39 | exact absurd rfl hq40 | exact absurd rfl hq57 | exact absurd rfl hq45 | exact absurd rfl hq38 | exact absurd rfl hq34 | exact absurd rfl hq33 | exact absurd rfl hq29 | ((repeat' apply And.intro) <;> first | assumption | (simp only [yif0, Classical.not_not, ylt, yle, xcp0, xcp3, xcp5, xcp10, xcp12, xcp16, xcp22, yl_m1, yl_0, yl_1, yl_2, yl_3, yl_4, yl_5, yl_6, yl_7, yl_8, yl_9, yl_10, yl_11, yl_12, yl_15, yl_16, yl_20, yl_60, yl_64, yl_90, yl_97, yl_99, yl_100, yl_120, yl_239, yl_240] at *; first | omega | assumption | contradiction)))⟩, _, hX, keepX.rfl', (xkn.rfl').w, rfl⟩)
      refine y_swOut tq_X8_ofMinute 126 rfl (by have z0 : what.toInt ≠ 0 := fun q => s26_0 (Int32.toInt_inj.mp (q.trans (by decide))); have z1 : what.toInt ≠ 1 := fun q => s26_1 (Int32.toInt_inj.mp (q.trans (by decide))); have z2 : what.toInt ≠ 2 := fun q => s26_2 (Int32.toInt_inj.mp (q.trans (by decide))); have z3 : what.toInt ≠ 3 := fun q => s26_3 (Int32.toInt_inj.mp (q.trans (by decide))); have z4 : what.toInt ≠ 4 := fun q => s26_4 (Int32.toInt_inj.mp (q.trans (by decide))); have z5 : what.toInt ≠ 5 := fun q => s26_5 (Int32.toInt_inj.mp (q.trans (by decide))); omega) rfl ?_
      refine y_blk 2 tq_X8_ofMinute (z := (128, [(0, .ref (ad 1)), (1, .int minute), (2, .int what)], [.int minute, .ref (ad 1)])) rfl ?_
      refine y_callV hS tq_X8_ofMinute rfl (As := [.int minute]) rfl cv_X8_233 (hX.1 1 _ rfl) (m_X8_countKeysOffDuty_v hS hX minute) rfl (by decide) (Nat.le_of_ble_eq_true rfl) (fun r128 Gc128 q128 => ?_) (fun E9 G9 h9 => h9.elim)
      obtain ⟨rfl, eG128⟩ := q128
      have eG128 := eG128.symm
      subst eG128
      refine y_blk 0 tq_X8_ofMinute (z := (131, [(0, .ref (ad 1)), (1, .int minute), (2, .int what)], [.int (xkoN σ minute)])) rfl ?_
      exact y_iret tq_X8_ofMinute rfl rfl (⟨⟨congrArg (fun z => some (Value.int z)) (by (try simp only [yif0, Classical.not_not] at *); (repeat' split) <;> first | contradiction | with_reducible rfl), (by first | exact absurd rfl hq2 | exact absurd rfl hq11 | exact absurd rfl hq19 | exact absurd rfl hq21 | exact absurd rfl hq24 | exact absurd rfl hq30 | exact absurd rfl hq35 | exact absurd rfl hq39 | exact absurd rfl hq40 | exact absurd rfl hq57 | exact absurd rfl hq45 | exact absurd rfl hq38 | exact absurd rfl hq34 | exact absurd rfl hq33 | exact absurd rfl hq29 | ((repeat' apply And.intro) <;> first | assumption | (simp only [yif0, Classical.not_not, ylt, yle, xcp0, xcp3, xcp5, xcp10, xcp12, xcp16, xcp22, yl_m1, yl_0, yl_1, yl_2, yl_3, yl_4, yl_5, yl_6, yl_7, yl_8, yl_9, yl_10, yl_11, yl_12, yl_15, yl_16, yl_20, yl_60, yl_64, yl_90, yl_97, yl_99, yl_100, yl_120, yl_239, yl_240] at *; first | omega | assumption | contradiction)))⟩, _, hX, keepX.rfl', (xkn.rfl').w, rfl⟩)
    · skip
      refine y_blk 2 tq_X8_ofMinute (z := (22, [(0, .ref (ad 1)), (1, .int minute), (2, .int what)], [.int 1])) rfl ?_
      refine y_callS hS tq_X8_ofMinute rfl (As := [.int 1]) rfl cs_X8_117 (m_X8_needLet hS  1) rfl (by decide) (Nat.le_of_ble_eq_true rfl) (fun r22 Gc22 q22 => ?_) (fun E9 G9 h9 => ⟨(And.intro h9.1.1 (by first | exact h9.1.2 | exact absurd h9.1.2 (by decide) | exact absurd rfl hq2 | exact absurd rfl hq11 | exact absurd rfl hq19 | exact absurd rfl hq21 | exact absurd rfl hq24 | exact absurd rfl hq30 | exact absurd rfl hq35 | exact absurd rfl hq39 | exact absurd rfl hq40 | exact absurd rfl hq57 | exact absurd rfl hq45 | exact absurd rfl hq38 | exact absurd rfl hq34 | exact absurd rfl hq33 | exact absurd rfl hq29 | (have z9 := h9.1.2; clear h9; (repeat' apply And.intro) <;> first | (first | assumption | (simp only [yif0, Classical.not_not, ylt, yle, xcp0, xcp3, xcp5, xcp10, xcp12, xcp16, xcp22, yl_m1, yl_0, yl_1, yl_2, yl_3, yl_4, yl_5, yl_6, yl_7, yl_8, yl_9, yl_10, yl_11, yl_12, yl_15, yl_16, yl_20, yl_60, yl_64, yl_90, yl_97, yl_99, yl_100, yl_120, yl_239, yl_240] at *; first | omega | assumption | contradiction)) | (intro q9; (simp only [yif0, Classical.not_not, ylt, yle, xcp0, xcp3, xcp5, xcp10, xcp12, xcp16, xcp22, yl_m1, yl_0, yl_1, yl_2, yl_3, yl_4, yl_5, yl_6, yl_7, yl_8, yl_9, yl_10, yl_11, yl_12, yl_15, yl_16, yl_20, yl_60, yl_64, yl_90, yl_97, yl_99, yl_100, yl_120, yl_239, yl_240] at *; first | omega | contradiction | (obtain ⟨qa, qb⟩ := q9; contradiction)))))), h9.2⟩)
      obtain ⟨⟨rfl, hq22⟩, eG22⟩ := q22
      have eG22 := eG22.symm
      subst eG22
      refine y_blk 1 tq_X8_ofMinute (z := (26, [(0, .ref (ad 1)), (1, .int minute), (2, .int what)], [.int what])) rfl ?_
      by_cases s26_0 : what = 0
      · refine y_swIn tq_X8_ofMinute 64 rfl (by rw [s26_0]; decide) (by rw [s26_0]; decide) (by rw [s26_0]; rfl) rfl ?_
        refine y_blk 1 tq_X8_ofMinute (z := (65, [(0, .ref (ad 1)), (1, .int minute), (2, .int what)], [.ref (ad 1)])) rfl ?_
        refine y_get hS tq_X8_ofMinute (v := .ref (ad 5)) rfl fg_X8_26_X8 (hX.1 1 _ rfl) rfl ?_
        refine y_blk 1 tq_X8_ofMinute (z := (69, [(0, .ref (ad 1)), (1, .int minute), (2, .int what)], [.int minute, .ref (ad 5)])) rfl ?_
        refine y_callV hS tq_X8_ofMinute rfl (As := [.int minute]) rfl cv_X8_216 (hX.1 5 _ rfl) (m_X0_fogAt_v hS hX minute) rfl (by decide) (Nat.le_of_ble_eq_true rfl) (fun r69 Gc69 q69 => ?_) (fun E9 G9 h9 => h9.elim)
        obtain ⟨rfl, eG69⟩ := q69
        have eG69 := eG69.symm
        subst eG69
        refine y_blk 0 tq_X8_ofMinute (z := (72, [(0, .ref (ad 1)), (1, .int minute), (2, .int what)], [.int (xfog σ minute)])) rfl ?_
        exact y_iret tq_X8_ofMinute rfl rfl (⟨⟨congrArg (fun z => some (Value.int z)) (by (try simp only [yif0, Classical.not_not] at *); (repeat' split) <;> first | contradiction | with_reducible rfl), (by first | exact absurd rfl hq2 | exact absurd rfl hq11 | exact absurd rfl hq19 | exact absurd rfl hq21 | exact absurd rfl hq24 | exact absurd rfl hq30 | exact absurd rfl hq35 | exact absurd rfl hq39 | exact absurd rfl hq40 | exact absurd rfl hq57 | exact absurd rfl hq45 | exact absurd rfl hq38 | exact absurd rfl hq34 | exact absurd rfl hq33 | exact absurd rfl hq29 | ((repeat' apply And.intro) <;> first | assumption | (simp only [yif0, Classical.not_not, ylt, yle, xcp0, xcp3, xcp5, xcp10, xcp12, xcp16, xcp22, yl_m1, yl_0, yl_1, yl_2, yl_3, yl_4, yl_5, yl_6, yl_7, yl_8, yl_9, yl_10, yl_11, yl_12, yl_15, yl_16, yl_20, yl_60, yl_64, yl_90, yl_97, yl_99, yl_100, yl_120, yl_239, yl_240] at *; first | omega | assumption | contradiction)))⟩, _, hX, keepX.rfl', (xkn.rfl').w, rfl⟩)
      by_cases s26_1 : what = 1
      · refine y_swIn tq_X8_ofMinute 73 rfl (by rw [s26_1]; decide) (by rw [s26_1]; decide) (by rw [s26_1]; rfl) rfl ?_
        refine y_blk 1 tq_X8_ofMinute (z := (74, [(0, .ref (ad 1)), (1, .int minute), (2, .int what)], [.ref (ad 1)])) rfl ?_
        refine y_get hS tq_X8_ofMinute (v := .ref (ad 2)) rfl fg_X8_10_X8 (hX.1 1 _ rfl) rfl ?_
        refine y_blk 0 tq_X8_ofMinute (z := (77, [(0, .ref (ad 1)), (1, .int minute), (2, .int what)], [.ref (ad 2)])) rfl ?_
        refine y_callV hS tq_X8_ofMinute rfl (As := []) rfl cv_X8_104 (hX.1 2 _ rfl) (m_X1_openCells hS hX ) rfl (by decide) (Nat.le_of_ble_eq_true rfl) (fun r77 Gc77 q77 => ?_) (fun E9 G9 h9 => h9.elim)
        obtain ⟨rfl, eG77⟩ := q77
        have eG77 := eG77.symm
        subst eG77
        refine y_blk 2 tq_X8_ofMinute (z := (82, [(0, .ref (ad 1)), (1, .int minute), (2, .int what)], [.int minute, .ref (ad 1), .long ((xall (σ.2.2.1 0 * σ.2.2.1 1)) &&& ((σ.2.2.2.1 2) ^^^ (-1)))])) rfl ?_
        refine y_callV hS tq_X8_ofMinute rfl (As := [.int minute]) rfl cv_X8_219 (hX.1 1 _ rfl) (m_X8_watchedCells_v hS hX minute) rfl (by decide) (Nat.le_of_ble_eq_true rfl) (fun r82 Gc82 q82 => ?_) (fun E9 G9 h9 => h9.elim)
        obtain ⟨rfl, eG82⟩ := q82
        have eG82 := eG82.symm
        subst eG82
        refine y_blk 0 tq_X8_ofMinute (z := (85, [(0, .ref (ad 1)), (1, .int minute), (2, .int what)], [.long (xsgV σ (-1) minute (xbri σ)), .long ((xall (σ.2.2.1 0 * σ.2.2.1 1)) &&& ((σ.2.2.2.1 2) ^^^ (-1)))])) rfl ?_
        refine y_ldc2 hS tq_X8_ofMinute rfl ld_X8_222 ?_
        refine y_blk 2 tq_X8_ofMinute (z := (90, [(0, .ref (ad 1)), (1, .int minute), (2, .int what)], [.long (((xall (σ.2.2.1 0 * σ.2.2.1 1)) &&& ((σ.2.2.2.1 2) ^^^ (-1))) &&& ((xsgV σ (-1) minute (xbri σ)) ^^^ (-1)))])) rfl ?_
        refine y_callS hS tq_X8_ofMinute rfl (As := [.long (((xall (σ.2.2.1 0 * σ.2.2.1 1)) &&& ((σ.2.2.2.1 2) ^^^ (-1))) &&& ((xsgV σ (-1) minute (xbri σ)) ^^^ (-1)))]) rfl cs_X8_108 (m_J13_bitCount_95d88 hS  (((xall (σ.2.2.1 0 * σ.2.2.1 1)) &&& ((σ.2.2.2.1 2) ^^^ (-1))) &&& ((xsgV σ (-1) minute (xbri σ)) ^^^ (-1)))) rfl (by decide) (Nat.le_of_ble_eq_true rfl) (fun r90 Gc90 q90 => ?_) (fun E9 G9 h9 => h9.elim)
        obtain ⟨rfl, eG90⟩ := q90
        have eG90 := eG90.symm
        subst eG90
        refine y_blk 0 tq_X8_ofMinute (z := (93, [(0, .ref (ad 1)), (1, .int minute), (2, .int what)], [.int (bcL (((xall (σ.2.2.1 0 * σ.2.2.1 1)) &&& ((σ.2.2.2.1 2) ^^^ (-1))) &&& ((xsgV σ (-1) minute (xbri σ)) ^^^ (-1))))])) rfl ?_
        exact y_iret tq_X8_ofMinute rfl rfl (⟨⟨congrArg (fun z => some (Value.int z)) (by (try simp only [yif0, Classical.not_not] at *); (repeat' split) <;> first | contradiction | with_reducible rfl), (by first | exact absurd rfl hq2 | exact absurd rfl hq11 | exact absurd rfl hq19 | exact absurd rfl hq21 | exact absurd rfl hq24 | exact absurd rfl hq30 | exact absurd rfl hq35 | exact absurd rfl hq39 | exact absurd rfl hq40 | exact absurd rfl hq57 | exact absurd rfl hq45 | exact absurd rfl hq38 | exact absurd rfl hq34 | exact absurd rfl hq33 | exact absurd rfl hq29 | ((repeat' apply And.intro) <;> first | assumption | (simp only [yif0, Classical.not_not, ylt, yle, xcp0, xcp3, xcp5, xcp10, xcp12, xcp16, xcp22, yl_m1, yl_0, yl_1, yl_2, yl_3, yl_4, yl_5, yl_6, yl_7, yl_8, yl_9, yl_10, yl_11, yl_12, yl_15, yl_16, yl_20, yl_60, yl_64, yl_90, yl_97, yl_99, yl_100, yl_120, yl_239, yl_240] at *; first | omega | assumption | contradiction)))⟩, _, hX, keepX.rfl', (xkn.rfl').w, rfl⟩)
      by_cases s26_2 : what = 2
      · refine y_swIn tq_X8_ofMinute 94 rfl (by rw [s26_2]; decide) (by rw [s26_2]; decide) (by rw [s26_2]; rfl) rfl ?_
        refine y_blk 1 tq_X8_ofMinute (z := (95, [(0, .ref (ad 1)), (1, .int minute), (2, .int what)], [.ref (ad 1)])) rfl ?_
        refine y_get hS tq_X8_ofMinute (v := .ref (ad 6)) rfl fg_X8_33_X8 (hX.1 1 _ rfl) rfl ?_
        refine y_blk 1 tq_X8_ofMinute (z := (99, [(0, .ref (ad 1)), (1, .int minute), (2, .int what)], [.int minute, .ref (ad 6)])) rfl ?_
        refine y_callV hS tq_X8_ofMinute rfl (As := [.int minute]) rfl cv_X8_224 (hX.1 6 _ rfl) (m_X2_countOnDuty_v hS hX minute) rfl (by decide) (Nat.le_of_ble_eq_true rfl) (fun r99 Gc99 q99 => ?_) (fun E9 G9 h9 => h9.elim)
        obtain ⟨rfl, eG99⟩ := q99
        have eG99 := eG99.symm
        subst eG99
        refine y_blk 0 tq_X8_ofMinute (z := (102, [(0, .ref (ad 1)), (1, .int minute), (2, .int what)], [.int (xcoN σ minute)])) rfl ?_
        exact y_iret tq_X8_ofMinute rfl rfl (⟨⟨congrArg (fun z => some (Value.int z)) (by (try simp only [yif0, Classical.not_not] at *); (repeat' split) <;> first | contradiction | with_reducible rfl), (by first | exact absurd rfl hq2 | exact absurd rfl hq11 | exact absurd rfl hq19 | exact absurd rfl hq21 | exact absurd rfl hq24 | exact absurd rfl hq30 | exact absurd rfl hq35 | exact absurd rfl hq39 | exact absurd rfl hq40 | exact absurd rfl hq57 | exact absurd rfl hq45 | exact absurd rfl hq38 | exact absurd rfl hq34 | exact absurd rfl hq33 | exact absurd rfl hq29 | ((repeat' apply And.intro) <;> first | assumption | (simp only [yif0, Classical.not_not, ylt, yle, xcp0, xcp3, xcp5, xcp10, xcp12, xcp16, xcp22, yl_m1, yl_0, yl_1, yl_2, yl_3, yl_4, yl_5, yl_6, yl_7, yl_8, yl_9, yl_10, yl_11, yl_12, yl_15, yl_16, yl_20, yl_60, yl_64, yl_90, yl_97, yl_99, yl_100, yl_120, yl_239, yl_240] at *; first | omega | assumption | contradiction)))⟩, _, hX, keepX.rfl', (xkn.rfl').w, rfl⟩)
      by_cases s26_3 : what = 3
      · refine y_swIn tq_X8_ofMinute 103 rfl (by rw [s26_3]; decide) (by rw [s26_3]; decide) (by rw [s26_3]; rfl) rfl ?_
        refine y_blk 1 tq_X8_ofMinute (z := (104, [(0, .ref (ad 1)), (1, .int minute), (2, .int what)], [.ref (ad 1)])) rfl ?_
        refine y_get hS tq_X8_ofMinute (v := .ref (ad 6)) rfl fg_X8_33_X8 (hX.1 1 _ rfl) rfl ?_
        refine y_blk 1 tq_X8_ofMinute (z := (108, [(0, .ref (ad 1)), (1, .int minute), (2, .int what)], [.int minute, .ref (ad 6)])) rfl ?_
        refine y_callV hS tq_X8_ofMinute rfl (As := [.int minute]) rfl cv_X8_227 (hX.1 6 _ rfl) (m_X2_countTired_v hS hX minute) rfl (by decide) (Nat.le_of_ble_eq_true rfl) (fun r108 Gc108 q108 => ?_) (fun E9 G9 h9 => h9.elim)
        obtain ⟨rfl, eG108⟩ := q108
        have eG108 := eG108.symm
        subst eG108
        refine y_blk 0 tq_X8_ofMinute (z := (111, [(0, .ref (ad 1)), (1, .int minute), (2, .int what)], [.int (xctN σ minute)])) rfl ?_
        exact y_iret tq_X8_ofMinute rfl rfl (⟨⟨congrArg (fun z => some (Value.int z)) (by (try simp only [yif0, Classical.not_not] at *); (repeat' split) <;> first | contradiction | with_reducible rfl), (by first | exact absurd rfl hq2 | exact absurd rfl hq11 | exact absurd rfl hq19 | exact absurd rfl hq21 | exact absurd rfl hq24 | exact absurd rfl hq30 | exact absurd rfl hq35 | exact absurd rfl hq39 | exact absurd rfl hq40 | exact absurd rfl hq57 | exact absurd rfl hq45 | exact absurd rfl hq38 | exact absurd rfl hq34 | exact absurd rfl hq33 | exact absurd rfl hq29 | ((repeat' apply And.intro) <;> first | assumption | (simp only [yif0, Classical.not_not, ylt, yle, xcp0, xcp3, xcp5, xcp10, xcp12, xcp16, xcp22, yl_m1, yl_0, yl_1, yl_2, yl_3, yl_4, yl_5, yl_6, yl_7, yl_8, yl_9, yl_10, yl_11, yl_12, yl_15, yl_16, yl_20, yl_60, yl_64, yl_90, yl_97, yl_99, yl_100, yl_120, yl_239, yl_240] at *; first | omega | assumption | contradiction)))⟩, _, hX, keepX.rfl', (xkn.rfl').w, rfl⟩)
      by_cases s26_4 : what = 4
      · refine y_swIn tq_X8_ofMinute 112 rfl (by rw [s26_4]; decide) (by rw [s26_4]; decide) (by rw [s26_4]; rfl) rfl ?_
        refine y_blk 2 tq_X8_ofMinute (z := (114, [(0, .ref (ad 1)), (1, .int minute), (2, .int what)], [.int minute, .ref (ad 1)])) rfl ?_
        refine y_callV hS tq_X8_ofMinute rfl (As := [.int minute]) rfl cv_X8_230 (hX.1 1 _ rfl) (m_X8_countEmptyPosts_v hS hX minute) rfl (by decide) (Nat.le_of_ble_eq_true rfl) (fun r114 Gc114 q114 => ?_) (fun E9 G9 h9 => h9.elim)
        obtain ⟨rfl, eG114⟩ := q114
        have eG114 := eG114.symm
        subst eG114
        refine y_blk 0 tq_X8_ofMinute (z := (117, [(0, .ref (ad 1)), (1, .int minute), (2, .int what)], [.int (xepN σ minute)])) rfl ?_
        exact y_iret tq_X8_ofMinute rfl rfl (⟨⟨congrArg (fun z => some (Value.int z)) (by (try simp only [yif0, Classical.not_not] at *); (repeat' split) <;> first | contradiction | with_reducible rfl), (by first | exact absurd rfl hq2 | exact absurd rfl hq11 | exact absurd rfl hq19 | exact absurd rfl hq21 | exact absurd rfl hq24 | exact absurd rfl hq30 | exact absurd rfl hq35 | exact absurd rfl hq39 | exact absurd rfl hq40 | exact absurd rfl hq57 | exact absurd rfl hq45 | exact absurd rfl hq38 | exact absurd rfl hq34 | exact absurd rfl hq33 | exact absurd rfl hq29 | ((repeat' apply And.intro) <;> first | assumption | (simp only [yif0, Classical.not_not, ylt, yle, xcp0, xcp3, xcp5, xcp10, xcp12, xcp16, xcp22, yl_m1, yl_0, yl_1, yl_2, yl_3, yl_4, yl_5, yl_6, yl_7, yl_8, yl_9, yl_10, yl_11, yl_12, yl_15, yl_16, yl_20, yl_60, yl_64, yl_90, yl_97, yl_99, yl_100, yl_120, yl_239, yl_240] at *; first | omega | assumption | contradiction)))⟩, _, hX, keepX.rfl', (xkn.rfl').w, rfl⟩)
      by_cases s26_5 : what = 5
      · refine y_swIn tq_X8_ofMinute 118 rfl (by rw [s26_5]; decide) (by rw [s26_5]; decide) (by rw [s26_5]; rfl) rfl ?_
        refine y_blk 1 tq_X8_ofMinute (z := (119, [(0, .ref (ad 1)), (1, .int minute), (2, .int what)], [.ref (ad 1)])) rfl ?_
        refine y_callV hS tq_X8_ofMinute rfl (As := []) rfl cv_X8_171 (hX.1 1 _ rfl) (m_X8_brightCells_v hS hX ) rfl (by decide) (Nat.le_of_ble_eq_true rfl) (fun r119 Gc119 q119 => ?_) (fun E9 G9 h9 => h9.elim)
        obtain ⟨rfl, eG119⟩ := q119
        have eG119 := eG119.symm
        subst eG119
        refine y_blk 0 tq_X8_ofMinute (z := (122, [(0, .ref (ad 1)), (1, .int minute), (2, .int what)], [.long (xbri σ)])) rfl ?_
        refine y_callS hS tq_X8_ofMinute rfl (As := [.long (xbri σ)]) rfl cs_X8_108 (m_J13_bitCount_95d88 hS  (xbri σ)) rfl (by decide) (Nat.le_of_ble_eq_true rfl) (fun r122 Gc122 q122 => ?_) (fun E9 G9 h9 => h9.elim)
        obtain ⟨rfl, eG122⟩ := q122
        have eG122 := eG122.symm
        subst eG122
        refine y_blk 0 tq_X8_ofMinute (z := (125, [(0, .ref (ad 1)), (1, .int minute), (2, .int what)], [.int (bcL (xbri σ))])) rfl ?_
        exact y_iret tq_X8_ofMinute rfl rfl (⟨⟨congrArg (fun z => some (Value.int z)) (by (try simp only [yif0, Classical.not_not] at *); (repeat' split) <;> first | contradiction | with_reducible rfl), (by first | exact absurd rfl hq2 | exact absurd rfl hq11 | exact absurd rfl hq19 | exact absurd rfl hq21 | exact absurd rfl hq24 | exact absurd rfl hq30 | exact absurd rfl hq35 | exact absurd rfl hq39 | exact absurd rfl hq40 | exact absurd rfl hq57 | exact absurd rfl hq45 | exact absurd rfl hq38 | exact absurd rfl hq34 | exact absurd rfl hq33 | exact absurd rfl hq29 | ((repeat' apply And.intro) <;> first | assumption | (simp only [yif0, Classical.not_not, ylt, yle, xcp0, xcp3, xcp5, xcp10, xcp12, xcp16, xcp22, yl_m1, yl_0, yl_1, yl_2, yl_3, yl_4, yl_5, yl_6, yl_7, yl_8, yl_9, yl_10, yl_11, yl_12, yl_15, yl_16, yl_20, yl_60, yl_64, yl_90, yl_97, yl_99, yl_100, yl_120, yl_239, yl_240] at *; first | omega | assumption | contradiction)))⟩, _, hX, keepX.rfl', (xkn.rfl').w, rfl⟩)
      refine y_swOut tq_X8_ofMinute 126 rfl (by have z0 : what.toInt ≠ 0 := fun q => s26_0 (Int32.toInt_inj.mp (q.trans (by decide))); have z1 : what.toInt ≠ 1 := fun q => s26_1 (Int32.toInt_inj.mp (q.trans (by decide))); have z2 : what.toInt ≠ 2 := fun q => s26_2 (Int32.toInt_inj.mp (q.trans (by decide))); have z3 : what.toInt ≠ 3 := fun q => s26_3 (Int32.toInt_inj.mp (q.trans (by decide))); have z4 : what.toInt ≠ 4 := fun q => s26_4 (Int32.toInt_inj.mp (q.trans (by decide))); have z5 : what.toInt ≠ 5 := fun q => s26_5 (Int32.toInt_inj.mp (q.trans (by decide))); omega) rfl ?_
      refine y_blk 2 tq_X8_ofMinute (z := (128, [(0, .ref (ad 1)), (1, .int minute), (2, .int what)], [.int minute, .ref (ad 1)])) rfl ?_
      refine y_callV hS tq_X8_ofMinute rfl (As := [.int minute]) rfl cv_X8_233 (hX.1 1 _ rfl) (m_X8_countKeysOffDuty_v hS hX minute) rfl (by decide) (Nat.le_of_ble_eq_true rfl) (fun r128 Gc128 q128 => ?_) (fun E9 G9 h9 => h9.elim)
      obtain ⟨rfl, eG128⟩ := q128
      have eG128 := eG128.symm
      subst eG128
      refine y_blk 0 tq_X8_ofMinute (z := (131, [(0, .ref (ad 1)), (1, .int minute), (2, .int what)], [.int (xkoN σ minute)])) rfl ?_
      exact y_iret tq_X8_ofMinute rfl rfl (⟨⟨congrArg (fun z => some (Value.int z)) (by (try simp only [yif0, Classical.not_not] at *); (repeat' split) <;> first | contradiction | with_reducible rfl), (by first | exact absurd rfl hq2 | exact absurd rfl hq11 | exact absurd rfl hq19 | exact absurd rfl hq21 | exact absurd rfl hq24 | exact absurd rfl hq30 | exact absurd rfl hq35 | exact absurd rfl hq39 | exact absurd rfl hq40 | exact absurd rfl hq57 | exact absurd rfl hq45 | exact absurd rfl hq38 | exact absurd rfl hq34 | exact absurd rfl hq33 | exact absurd rfl hq29 | ((repeat' apply And.intro) <;> first | assumption | (simp only [yif0, Classical.not_not, ylt, yle, xcp0, xcp3, xcp5, xcp10, xcp12, xcp16, xcp22, yl_m1, yl_0, yl_1, yl_2, yl_3, yl_4, yl_5, yl_6, yl_7, yl_8, yl_9, yl_10, yl_11, yl_12, yl_15, yl_16, yl_20, yl_60, yl_64, yl_90, yl_97, yl_99, yl_100, yl_120, yl_239, yl_240] at *; first | omega | assumption | contradiction)))⟩, _, hX, keepX.rfl', (xkn.rfl').w, rfl⟩)
set_option maxHeartbeats 4000000 in
set_option maxRecDepth 100000 in
theorem m_X8_lapse_v {l : Launch} {S0 : State} {A0 : Array Value} {D : va_G} {aC : Nat → ClassId} {ad : Nat → Nat} {G : AH} {σ : XS} (hS : yS l S0 A0 D aC) (hX : atX aC ad G σ) (cell : Int32) (from_ : Int32) (to : Int32) : yM l S0 D yX8_lapse cX8_lapse 5 (some .int) 14 2 12 [.ref (ad 1), .int cell, .int from_, .int to] G (fun r G1 => (r = some (.int (lapN (xuwQ σ cell) from_ to)) ∧ ((0 ≤ cell ∧ cell ≤ σ.2.2.1 0 * σ.2.2.1 1 - 1) ∧ ((0 ≤ from_ ∧ from_ ≤ 239) ∧ (0 ≤ to ∧ to ≤ 239) ∧ from_ ≤ to))) ∧ ∃ σ1 : XS, atX aC ad G1 σ1 ∧ keepX G G1 ∧ xfr [] σ σ1 ∧ σ1 = σ) (fun E G1 => ((E = "java/lang/IndexOutOfBoundsException" ∧ (¬ (0 ≤ cell ∧ cell ≤ σ.2.2.1 0 * σ.2.2.1 1 - 1))) ∨ (E = "java/lang/IllegalArgumentException" ∧ ((0 ≤ cell ∧ cell ≤ σ.2.2.1 0 * σ.2.2.1 1 - 1) ∧ (¬ ((0 ≤ from_ ∧ from_ ≤ 239) ∧ (0 ≤ to ∧ to ≤ 239) ∧ from_ ≤ to))))) ∧ G1 = G) := by
  refine yM.ofK K_X8_lapse rfl (by decide) (Nat.le_of_ble_eq_true rfl) ?_
  have J35 : ∀ (n35 : Nat) (v35_4 : Int32) (hok35 : ((0 ≤ cell ∧ cell ≤ σ.2.2.1 0 * σ.2.2.1 1 - 1) ∧ ((0 ≤ from_ ∧ from_ ≤ 239) ∧ (0 ≤ to ∧ to ≤ 239) ∧ from_ ≤ to))) (hf35 : from_.toInt ≤ v35_4.toInt) (na35 : ∀ j : Nat, from_.toInt ≤ (j : Int) → (j : Int) < v35_4.toInt → ¬ xuwQ σ cell (Int32.ofNat j)), ((to : Int32).toInt + 1 - v35_4.toInt).toNat = n35 → Y l S0 D K_X8_lapse 14 2 12 (fun r G1 => (r = some (.int (lapN (xuwQ σ cell) from_ to)) ∧ ((0 ≤ cell ∧ cell ≤ σ.2.2.1 0 * σ.2.2.1 1 - 1) ∧ ((0 ≤ from_ ∧ from_ ≤ 239) ∧ (0 ≤ to ∧ to ≤ 239) ∧ from_ ≤ to))) ∧ ∃ σ1 : XS, atX aC ad G1 σ1 ∧ keepX G G1 ∧ xfr [] σ σ1 ∧ σ1 = σ) (fun E G1 => ((E = "java/lang/IndexOutOfBoundsException" ∧ (¬ (0 ≤ cell ∧ cell ≤ σ.2.2.1 0 * σ.2.2.1 1 - 1))) ∨ (E = "java/lang/IllegalArgumentException" ∧ ((0 ≤ cell ∧ cell ≤ σ.2.2.1 0 * σ.2.2.1 1 - 1) ∧ (¬ ((0 ≤ from_ ∧ from_ ≤ 239) ∧ (0 ≤ to ∧ to ≤ 239) ∧ from_ ≤ to))))) ∧ G1 = G) 35 [(0, .ref (ad 1)), (1, .int cell), (2, .int from_), (3, .int to), (4, .int v35_4)] [] G 0 0 := by
    intro n35
    induction n35 using Nat.strongRecOn with
    | _ n35 ih35 =>
    intro v35_4 hok35 hf35 na35 hn35
    subst hn35
    refine y_blk 2 tq_X8_lapse (z := (38, [(0, .ref (ad 1)), (1, .int cell), (2, .int from_), (3, .int to), (4, .int v35_4)], [.int to, .int v35_4])) rfl ?_
    refine y_icmp_gt tq_X8_lapse 63 rfl rfl (fun c38 => ?_) (fun c38 => ?_)
    · skip
      refine y_blk 1 tq_X8_lapse (z := (64, [(0, .ref (ad 1)), (1, .int cell), (2, .int from_), (3, .int to), (4, .int v35_4)], [.int (-1)])) rfl ?_
      exact y_iret tq_X8_lapse rfl rfl (⟨⟨congrArg (fun z => some (Value.int z)) (by first | exact lap_e na35 hok35 c38 | exact lap_at na35 hf35 hok35 c38 (by (try simp only [yif0, Classical.not_not] at *); assumption)), hok35⟩, _, hX, keepX.rfl', (xkn.rfl').w, rfl⟩)
    · skip
      refine y_blk 2 tq_X8_lapse (z := (44, [(0, .ref (ad 1)), (1, .int cell), (2, .int from_), (3, .int to), (4, .int v35_4)], [.int v35_4, .ref (ad 1)])) rfl ?_
      refine y_callV hS tq_X8_lapse rfl (As := [.int v35_4]) rfl cv_X8_219 (hX.1 1 _ rfl) (m_X8_watchedCells_v hS hX v35_4) rfl (by decide) (Nat.le_of_ble_eq_true rfl) (fun r44 Gc44 q44 => ?_) (fun E9 G9 h9 => h9.elim)
      obtain ⟨rfl, eG44⟩ := q44
      have eG44 := eG44.symm
      subst eG44
      refine y_blk 1 tq_X8_lapse (z := (48, [(0, .ref (ad 1)), (1, .int cell), (2, .int from_), (3, .int to), (4, .int v35_4)], [.int cell, .long (xsgV σ (-1) v35_4 (xbri σ))])) rfl ?_
      refine y_callS hS tq_X8_lapse rfl (As := [.long (xsgV σ (-1) v35_4 (xbri σ)), .int cell]) rfl cs_X8_124 (m_X8_isOf hS  (xsgV σ (-1) v35_4 (xbri σ)) cell) rfl (by decide) (Nat.le_of_ble_eq_true rfl) (fun r48 Gc48 q48 => ?_) (fun E9 G9 h9 => h9.elim)
      obtain ⟨rfl, eG48⟩ := q48
      have eG48 := eG48.symm
      subst eG48
      refine y_blk 0 tq_X8_lapse (z := (51, [(0, .ref (ad 1)), (1, .int cell), (2, .int from_), (3, .int to), (4, .int v35_4)], [.int (if xis (xsgV σ (-1) v35_4 (xbri σ)) cell then 1 else 0)])) rfl ?_
      refine y_if_ne tq_X8_lapse 57 rfl rfl (fun c51 => ?_) (fun c51 => ?_)
      · skip
        refine y_blk 2 tq_X8_lapse (z := (35, [(4, .int (v35_4 + 1)), (0, .ref (ad 1)), (1, .int cell), (2, .int from_), (3, .int to)], [])) rfl ?_
        refine y_pick (L2 := [(0, .ref (ad 1)), (1, .int cell), (2, .int from_), (3, .int to), (4, .int (v35_4 + 1))]) [1, 2, 3, 4, 0] rfl ?_
        exact ih35 _ (by exact ydec2 c38 (by have := hok35.2.2.1.2; rw [yle, yl_239] at this; omega)) (v35_4 + 1) (by first | exact hok35 | exact absurd rfl hq29 | ((repeat' apply And.intro) <;> first | assumption | (simp only [yif0, Classical.not_not, ylt, yle, xcp0, xcp3, xcp5, xcp10, xcp12, xcp16, xcp22, yl_m1, yl_0, yl_1, yl_2, yl_3, yl_4, yl_5, yl_6, yl_7, yl_8, yl_9, yl_10, yl_11, yl_12, yl_15, yl_16, yl_20, yl_60, yl_64, yl_90, yl_97, yl_99, yl_100, yl_120, yl_239, yl_240] at *; first | omega | assumption | contradiction))) (by first | exact lap_f hf35 hok35 c38 | exact Int.le_refl _) (by first | exact lap_s na35 hf35 hok35 c38 (fun q => by (try simp only [yif0, Classical.not_not] at *); contradiction) | exact lap_0) rfl
      · skip
        refine y_blk 1 tq_X8_lapse (z := (56, [(0, .ref (ad 1)), (1, .int cell), (2, .int from_), (3, .int to), (4, .int v35_4)], [.int v35_4])) rfl ?_
        exact y_iret tq_X8_lapse rfl rfl (⟨⟨congrArg (fun z => some (Value.int z)) (by first | exact lap_e na35 hok35 c38 | exact lap_at na35 hf35 hok35 c38 (by (try simp only [yif0, Classical.not_not] at *); assumption)), hok35⟩, _, hX, keepX.rfl', (xkn.rfl').w, rfl⟩)
  refine y_blk 2 tq_X8_lapse (z := (2, [(0, .ref (ad 1)), (1, .int cell), (2, .int from_), (3, .int to)], [.int cell, .ref (ad 1)])) rfl ?_
  refine y_callV hS tq_X8_lapse rfl (As := [.int cell]) rfl cv_X8_114 (hX.1 1 _ rfl) (m_X8_needCell hS hX cell) rfl (by decide) (Nat.le_of_ble_eq_true rfl) (fun r2 Gc2 q2 => ?_) (fun E9 G9 h9 => ⟨(Or.inl (And.intro h9.1.1 (by first | exact h9.1.2 | exact absurd h9.1.2 (by decide) | exact absurd rfl hq2 | exact absurd rfl hq11 | exact absurd rfl hq19 | exact absurd rfl hq21 | exact absurd rfl hq24 | exact absurd rfl hq30 | exact absurd rfl hq35 | exact absurd rfl hq39 | exact absurd rfl hq40 | exact absurd rfl hq57 | exact absurd rfl hq45 | exact absurd rfl hq38 | exact absurd rfl hq34 | exact absurd rfl hq33 | exact absurd rfl hq29 | (have z9 := h9.1.2; clear h9; (repeat' apply And.intro) <;> first | (first | assumption | (simp only [yif0, Classical.not_not, ylt, yle, xcp0, xcp3, xcp5, xcp10, xcp12, xcp16, xcp22, yl_m1, yl_0, yl_1, yl_2, yl_3, yl_4, yl_5, yl_6, yl_7, yl_8, yl_9, yl_10, yl_11, yl_12, yl_15, yl_16, yl_20, yl_60, yl_64, yl_90, yl_97, yl_99, yl_100, yl_120, yl_239, yl_240] at *; first | omega | assumption | contradiction)) | (intro q9; (simp only [yif0, Classical.not_not, ylt, yle, xcp0, xcp3, xcp5, xcp10, xcp12, xcp16, xcp22, yl_m1, yl_0, yl_1, yl_2, yl_3, yl_4, yl_5, yl_6, yl_7, yl_8, yl_9, yl_10, yl_11, yl_12, yl_15, yl_16, yl_20, yl_60, yl_64, yl_90, yl_97, yl_99, yl_100, yl_120, yl_239, yl_240] at *; first | omega | contradiction | (obtain ⟨qa, qb⟩ := q9; contradiction))))))), h9.2⟩)
  obtain ⟨⟨rfl, hq2⟩, eG2⟩ := q2
  have eG2 := eG2.symm
  subst eG2
  refine y_blk 1 tq_X8_lapse (z := (6, [(0, .ref (ad 1)), (1, .int cell), (2, .int from_), (3, .int to)], [.int from_])) rfl ?_
  refine y_callS hS tq_X8_lapse rfl (As := [.int from_]) rfl cs_X8_139 (m_X8_isMinute hS  from_) rfl (by decide) (Nat.le_of_ble_eq_true rfl) (fun r6 Gc6 q6 => ?_) (fun E9 G9 h9 => h9.elim)
  obtain ⟨rfl, eG6⟩ := q6
  have eG6 := eG6.symm
  subst eG6
  refine y_blk 0 tq_X8_lapse (z := (9, [(0, .ref (ad 1)), (1, .int cell), (2, .int from_), (3, .int to)], [.int (if 0 ≤ from_ ∧ from_ ≤ 239 then 1 else 0)])) rfl ?_
  refine y_if_eq tq_X8_lapse 28 rfl rfl (fun c9 => ?_) (fun c9 => ?_)
  · skip
    refine y_blk 1 tq_X8_lapse (z := (29, [(0, .ref (ad 1)), (1, .int cell), (2, .int from_), (3, .int to)], [.int 0])) rfl ?_
    refine y_callS hS tq_X8_lapse rfl (As := [.int 0]) rfl cs_X8_117 (m_X8_needLet hS  0) rfl (by decide) (Nat.le_of_ble_eq_true rfl) (fun r29 Gc29 q29 => ?_) (fun E9 G9 h9 => ⟨(Or.inr (And.intro h9.1.1 (by first | exact h9.1.2 | exact absurd h9.1.2 (by decide) | exact absurd rfl hq2 | exact absurd rfl hq11 | exact absurd rfl hq19 | exact absurd rfl hq21 | exact absurd rfl hq24 | exact absurd rfl hq30 | exact absurd rfl hq35 | exact absurd rfl hq39 | exact absurd rfl hq40 | exact absurd rfl hq57 | exact absurd rfl hq45 | exact absurd rfl hq38 | exact absurd rfl hq34 | exact absurd rfl hq33 | exact absurd rfl hq29 | (have z9 := h9.1.2; clear h9; (repeat' apply And.intro) <;> first | (first | assumption | (simp only [yif0, Classical.not_not, ylt, yle, xcp0, xcp3, xcp5, xcp10, xcp12, xcp16, xcp22, yl_m1, yl_0, yl_1, yl_2, yl_3, yl_4, yl_5, yl_6, yl_7, yl_8, yl_9, yl_10, yl_11, yl_12, yl_15, yl_16, yl_20, yl_60, yl_64, yl_90, yl_97, yl_99, yl_100, yl_120, yl_239, yl_240] at *; first | omega | assumption | contradiction)) | (intro q9; (simp only [yif0, Classical.not_not, ylt, yle, xcp0, xcp3, xcp5, xcp10, xcp12, xcp16, xcp22, yl_m1, yl_0, yl_1, yl_2, yl_3, yl_4, yl_5, yl_6, yl_7, yl_8, yl_9, yl_10, yl_11, yl_12, yl_15, yl_16, yl_20, yl_60, yl_64, yl_90, yl_97, yl_99, yl_100, yl_120, yl_239, yl_240] at *; first | omega | contradiction | (obtain ⟨qa, qb⟩ := q9; contradiction))))))), h9.2⟩)
    obtain ⟨⟨rfl, hq29⟩, eG29⟩ := q29
    have eG29 := eG29.symm
    subst eG29
    refine y_blk 2 tq_X8_lapse (z := (35, [(4, .int from_), (0, .ref (ad 1)), (1, .int cell), (2, .int from_), (3, .int to)], [])) rfl ?_
    refine y_pick (L2 := [(0, .ref (ad 1)), (1, .int cell), (2, .int from_), (3, .int to), (4, .int from_)]) [1, 2, 3, 4, 0] rfl ?_
    exact J35 _ from_ (by first | exact hok35 | exact absurd rfl hq29 | ((repeat' apply And.intro) <;> first | assumption | (simp only [yif0, Classical.not_not, ylt, yle, xcp0, xcp3, xcp5, xcp10, xcp12, xcp16, xcp22, yl_m1, yl_0, yl_1, yl_2, yl_3, yl_4, yl_5, yl_6, yl_7, yl_8, yl_9, yl_10, yl_11, yl_12, yl_15, yl_16, yl_20, yl_60, yl_64, yl_90, yl_97, yl_99, yl_100, yl_120, yl_239, yl_240] at *; first | omega | assumption | contradiction))) (by first | exact lap_f hf35 hok35 c38 | exact Int.le_refl _) (by first | exact lap_s na35 hf35 hok35 c38 (fun q => by (try simp only [yif0, Classical.not_not] at *); contradiction) | exact lap_0) rfl
  · skip
    refine y_blk 1 tq_X8_lapse (z := (13, [(0, .ref (ad 1)), (1, .int cell), (2, .int from_), (3, .int to)], [.int to])) rfl ?_
    refine y_callS hS tq_X8_lapse rfl (As := [.int to]) rfl cs_X8_139 (m_X8_isMinute hS  to) rfl (by decide) (Nat.le_of_ble_eq_true rfl) (fun r13 Gc13 q13 => ?_) (fun E9 G9 h9 => h9.elim)
    obtain ⟨rfl, eG13⟩ := q13
    have eG13 := eG13.symm
    subst eG13
    refine y_blk 0 tq_X8_lapse (z := (16, [(0, .ref (ad 1)), (1, .int cell), (2, .int from_), (3, .int to)], [.int (if 0 ≤ to ∧ to ≤ 239 then 1 else 0)])) rfl ?_
    refine y_if_eq tq_X8_lapse 28 rfl rfl (fun c16 => ?_) (fun c16 => ?_)
    · skip
      refine y_blk 1 tq_X8_lapse (z := (29, [(0, .ref (ad 1)), (1, .int cell), (2, .int from_), (3, .int to)], [.int 0])) rfl ?_
      refine y_callS hS tq_X8_lapse rfl (As := [.int 0]) rfl cs_X8_117 (m_X8_needLet hS  0) rfl (by decide) (Nat.le_of_ble_eq_true rfl) (fun r29 Gc29 q29 => ?_) (fun E9 G9 h9 => ⟨(Or.inr (And.intro h9.1.1 (by first | exact h9.1.2 | exact absurd h9.1.2 (by decide) | exact absurd rfl hq2 | exact absurd rfl hq11 | exact absurd rfl hq19 | exact absurd rfl hq21 | exact absurd rfl hq24 | exact absurd rfl hq30 | exact absurd rfl hq35 | exact absurd rfl hq39 | exact absurd rfl hq40 | exact absurd rfl hq57 | exact absurd rfl hq45 | exact absurd rfl hq38 | exact absurd rfl hq34 | exact absurd rfl hq33 | exact absurd rfl hq29 | (have z9 := h9.1.2; clear h9; (repeat' apply And.intro) <;> first | (first | assumption | (simp only [yif0, Classical.not_not, ylt, yle, xcp0, xcp3, xcp5, xcp10, xcp12, xcp16, xcp22, yl_m1, yl_0, yl_1, yl_2, yl_3, yl_4, yl_5, yl_6, yl_7, yl_8, yl_9, yl_10, yl_11, yl_12, yl_15, yl_16, yl_20, yl_60, yl_64, yl_90, yl_97, yl_99, yl_100, yl_120, yl_239, yl_240] at *; first | omega | assumption | contradiction)) | (intro q9; (simp only [yif0, Classical.not_not, ylt, yle, xcp0, xcp3, xcp5, xcp10, xcp12, xcp16, xcp22, yl_m1, yl_0, yl_1, yl_2, yl_3, yl_4, yl_5, yl_6, yl_7, yl_8, yl_9, yl_10, yl_11, yl_12, yl_15, yl_16, yl_20, yl_60, yl_64, yl_90, yl_97, yl_99, yl_100, yl_120, yl_239, yl_240] at *; first | omega | contradiction | (obtain ⟨qa, qb⟩ := q9; contradiction))))))), h9.2⟩)
      obtain ⟨⟨rfl, hq29⟩, eG29⟩ := q29
      have eG29 := eG29.symm
      subst eG29
      refine y_blk 2 tq_X8_lapse (z := (35, [(4, .int from_), (0, .ref (ad 1)), (1, .int cell), (2, .int from_), (3, .int to)], [])) rfl ?_
      refine y_pick (L2 := [(0, .ref (ad 1)), (1, .int cell), (2, .int from_), (3, .int to), (4, .int from_)]) [1, 2, 3, 4, 0] rfl ?_
      exact J35 _ from_ (by first | exact hok35 | exact absurd rfl hq29 | ((repeat' apply And.intro) <;> first | assumption | (simp only [yif0, Classical.not_not, ylt, yle, xcp0, xcp3, xcp5, xcp10, xcp12, xcp16, xcp22, yl_m1, yl_0, yl_1, yl_2, yl_3, yl_4, yl_5, yl_6, yl_7, yl_8, yl_9, yl_10, yl_11, yl_12, yl_15, yl_16, yl_20, yl_60, yl_64, yl_90, yl_97, yl_99, yl_100, yl_120, yl_239, yl_240] at *; first | omega | assumption | contradiction))) (by first | exact lap_f hf35 hok35 c38 | exact Int.le_refl _) (by first | exact lap_s na35 hf35 hok35 c38 (fun q => by (try simp only [yif0, Classical.not_not] at *); contradiction) | exact lap_0) rfl
    · skip
      refine y_blk 2 tq_X8_lapse (z := (21, [(0, .ref (ad 1)), (1, .int cell), (2, .int from_), (3, .int to)], [.int to, .int from_])) rfl ?_
      refine y_icmp_gt tq_X8_lapse 28 rfl rfl (fun c21 => ?_) (fun c21 => ?_)
      · skip
        refine y_blk 1 tq_X8_lapse (z := (29, [(0, .ref (ad 1)), (1, .int cell), (2, .int from_), (3, .int to)], [.int 0])) rfl ?_
        refine y_callS hS tq_X8_lapse rfl (As := [.int 0]) rfl cs_X8_117 (m_X8_needLet hS  0) rfl (by decide) (Nat.le_of_ble_eq_true rfl) (fun r29 Gc29 q29 => ?_) (fun E9 G9 h9 => ⟨(Or.inr (And.intro h9.1.1 (by first | exact h9.1.2 | exact absurd h9.1.2 (by decide) | exact absurd rfl hq2 | exact absurd rfl hq11 | exact absurd rfl hq19 | exact absurd rfl hq21 | exact absurd rfl hq24 | exact absurd rfl hq30 | exact absurd rfl hq35 | exact absurd rfl hq39 | exact absurd rfl hq40 | exact absurd rfl hq57 | exact absurd rfl hq45 | exact absurd rfl hq38 | exact absurd rfl hq34 | exact absurd rfl hq33 | exact absurd rfl hq29 | (have z9 := h9.1.2; clear h9; (repeat' apply And.intro) <;> first | (first | assumption | (simp only [yif0, Classical.not_not, ylt, yle, xcp0, xcp3, xcp5, xcp10, xcp12, xcp16, xcp22, yl_m1, yl_0, yl_1, yl_2, yl_3, yl_4, yl_5, yl_6, yl_7, yl_8, yl_9, yl_10, yl_11, yl_12, yl_15, yl_16, yl_20, yl_60, yl_64, yl_90, yl_97, yl_99, yl_100, yl_120, yl_239, yl_240] at *; first | omega | assumption | contradiction)) | (intro q9; (simp only [yif0, Classical.not_not, ylt, yle, xcp0, xcp3, xcp5, xcp10, xcp12, xcp16, xcp22, yl_m1, yl_0, yl_1, yl_2, yl_3, yl_4, yl_5, yl_6, yl_7, yl_8, yl_9, yl_10, yl_11, yl_12, yl_15, yl_16, yl_20, yl_60, yl_64, yl_90, yl_97, yl_99, yl_100, yl_120, yl_239, yl_240] at *; first | omega | contradiction | (obtain ⟨qa, qb⟩ := q9; contradiction))))))), h9.2⟩)
        obtain ⟨⟨rfl, hq29⟩, eG29⟩ := q29
        have eG29 := eG29.symm
        subst eG29
        refine y_blk 2 tq_X8_lapse (z := (35, [(4, .int from_), (0, .ref (ad 1)), (1, .int cell), (2, .int from_), (3, .int to)], [])) rfl ?_
        refine y_pick (L2 := [(0, .ref (ad 1)), (1, .int cell), (2, .int from_), (3, .int to), (4, .int from_)]) [1, 2, 3, 4, 0] rfl ?_
        exact J35 _ from_ (by first | exact hok35 | exact absurd rfl hq29 | ((repeat' apply And.intro) <;> first | assumption | (simp only [yif0, Classical.not_not, ylt, yle, xcp0, xcp3, xcp5, xcp10, xcp12, xcp16, xcp22, yl_m1, yl_0, yl_1, yl_2, yl_3, yl_4, yl_5, yl_6, yl_7, yl_8, yl_9, yl_10, yl_11, yl_12, yl_15, yl_16, yl_20, yl_60, yl_64, yl_90, yl_97, yl_99, yl_100, yl_120, yl_239, yl_240] at *; first | omega | assumption | contradiction))) (by first | exact lap_f hf35 hok35 c38 | exact Int.le_refl _) (by first | exact lap_s na35 hf35 hok35 c38 (fun q => by (try simp only [yif0, Classical.not_not] at *); contradiction) | exact lap_0) rfl
      · skip
        refine y_blk 2 tq_X8_lapse (z := (29, [(0, .ref (ad 1)), (1, .int cell), (2, .int from_), (3, .int to)], [.int 1])) rfl ?_
        refine y_callS hS tq_X8_lapse rfl (As := [.int 1]) rfl cs_X8_117 (m_X8_needLet hS  1) rfl (by decide) (Nat.le_of_ble_eq_true rfl) (fun r29 Gc29 q29 => ?_) (fun E9 G9 h9 => ⟨(Or.inr (And.intro h9.1.1 (by first | exact h9.1.2 | exact absurd h9.1.2 (by decide) | exact absurd rfl hq2 | exact absurd rfl hq11 | exact absurd rfl hq19 | exact absurd rfl hq21 | exact absurd rfl hq24 | exact absurd rfl hq30 | exact absurd rfl hq35 | exact absurd rfl hq39 | exact absurd rfl hq40 | exact absurd rfl hq57 | exact absurd rfl hq45 | exact absurd rfl hq38 | exact absurd rfl hq34 | exact absurd rfl hq33 | exact absurd rfl hq29 | (have z9 := h9.1.2; clear h9; (repeat' apply And.intro) <;> first | (first | assumption | (simp only [yif0, Classical.not_not, ylt, yle, xcp0, xcp3, xcp5, xcp10, xcp12, xcp16, xcp22, yl_m1, yl_0, yl_1, yl_2, yl_3, yl_4, yl_5, yl_6, yl_7, yl_8, yl_9, yl_10, yl_11, yl_12, yl_15, yl_16, yl_20, yl_60, yl_64, yl_90, yl_97, yl_99, yl_100, yl_120, yl_239, yl_240] at *; first | omega | assumption | contradiction)) | (intro q9; (simp only [yif0, Classical.not_not, ylt, yle, xcp0, xcp3, xcp5, xcp10, xcp12, xcp16, xcp22, yl_m1, yl_0, yl_1, yl_2, yl_3, yl_4, yl_5, yl_6, yl_7, yl_8, yl_9, yl_10, yl_11, yl_12, yl_15, yl_16, yl_20, yl_60, yl_64, yl_90, yl_97, yl_99, yl_100, yl_120, yl_239, yl_240] at *; first | omega | contradiction | (obtain ⟨qa, qb⟩ := q9; contradiction))))))), h9.2⟩)
        obtain ⟨⟨rfl, hq29⟩, eG29⟩ := q29
        have eG29 := eG29.symm
        subst eG29
        refine y_blk 2 tq_X8_lapse (z := (35, [(4, .int from_), (0, .ref (ad 1)), (1, .int cell), (2, .int from_), (3, .int to)], [])) rfl ?_
        refine y_pick (L2 := [(0, .ref (ad 1)), (1, .int cell), (2, .int from_), (3, .int to), (4, .int from_)]) [1, 2, 3, 4, 0] rfl ?_
        exact J35 _ from_ (by first | exact hok35 | exact absurd rfl hq29 | ((repeat' apply And.intro) <;> first | assumption | (simp only [yif0, Classical.not_not, ylt, yle, xcp0, xcp3, xcp5, xcp10, xcp12, xcp16, xcp22, yl_m1, yl_0, yl_1, yl_2, yl_3, yl_4, yl_5, yl_6, yl_7, yl_8, yl_9, yl_10, yl_11, yl_12, yl_15, yl_16, yl_20, yl_60, yl_64, yl_90, yl_97, yl_99, yl_100, yl_120, yl_239, yl_240] at *; first | omega | assumption | contradiction))) (by first | exact lap_f hf35 hok35 c38 | exact Int.le_refl _) (by first | exact lap_s na35 hf35 hok35 c38 (fun q => by (try simp only [yif0, Classical.not_not] at *); contradiction) | exact lap_0) rfl
set_option maxHeartbeats 4000000 in
set_option maxRecDepth 100000 in
theorem m_X8_sees_v {l : Launch} {S0 : State} {A0 : Array Value} {D : va_G} {aC : Nat → ClassId} {ad : Nat → Nat} {G : AH} {σ : XS} (hS : yS l S0 A0 D aC) (hX : atX aC ad G σ) (guard : Int32) (cell : Int32) (minute : Int32) : yM l S0 D yX8_sees cX8_sees 4 (some .boolean) 13 3 18 [.ref (ad 1), .int guard, .int cell, .int minute] G (fun r G1 => (r = some (.int (if xis (xsgV σ guard minute (xbri σ)) cell then 1 else 0)) ∧ (((guard = -1 ∨ (0 ≤ guard ∧ guard ≤ σ.1 5 - 1)) ∧ (0 ≤ cell ∧ cell ≤ σ.2.2.1 0 * σ.2.2.1 1 - 1)) ∧ (0 ≤ minute ∧ minute ≤ 239))) ∧ ∃ σ1 : XS, atX aC ad G1 σ1 ∧ keepX G G1 ∧ xfr [] σ σ1 ∧ σ1 = σ) (fun E G1 => ((E = "java/lang/IndexOutOfBoundsException" ∧ (¬ ((guard = -1 ∨ (0 ≤ guard ∧ guard ≤ σ.1 5 - 1)) ∧ (0 ≤ cell ∧ cell ≤ σ.2.2.1 0 * σ.2.2.1 1 - 1)))) ∨ (E = "java/lang/IllegalArgumentException" ∧ (((guard = -1 ∨ (0 ≤ guard ∧ guard ≤ σ.1 5 - 1)) ∧ (0 ≤ cell ∧ cell ≤ σ.2.2.1 0 * σ.2.2.1 1 - 1)) ∧ (¬ (0 ≤ minute ∧ minute ≤ 239))))) ∧ G1 = G) := by
  refine yM.ofK K_X8_sees rfl (by decide) (Nat.le_of_ble_eq_true rfl) ?_
  refine y_blk 2 tq_X8_sees (z := (2, [(0, .ref (ad 1)), (1, .int guard), (2, .int cell), (3, .int minute)], [.ref (ad 1), .int guard])) rfl ?_
  refine y_get hS tq_X8_sees (v := .ref (ad 6)) rfl fg_X8_33_X8 (hX.1 1 _ rfl) rfl ?_
  refine y_blk 0 tq_X8_sees (z := (5, [(0, .ref (ad 1)), (1, .int guard), (2, .int cell), (3, .int minute)], [.ref (ad 6), .int guard])) rfl ?_
  refine y_callV hS tq_X8_sees rfl (As := []) rfl cv_X8_182 (hX.1 6 _ rfl) (m_X2_count hS hX ) rfl (by decide) (Nat.le_of_ble_eq_true rfl) (fun r5 Gc5 q5 => ?_) (fun E9 G9 h9 => h9.elim)
  obtain ⟨rfl, eG5⟩ := q5
  have eG5 := eG5.symm
  subst eG5
  refine y_blk 0 tq_X8_sees (z := (8, [(0, .ref (ad 1)), (1, .int guard), (2, .int cell), (3, .int minute)], [.int (σ.1 5), .int guard])) rfl ?_
  refine y_callS hS tq_X8_sees rfl (As := [.int guard, .int (σ.1 5)]) rfl cs_X8_199 (m_X8_needNoneOrThere hS  guard (σ.1 5)) rfl (by decide) (Nat.le_of_ble_eq_true rfl) (fun r8 Gc8 q8 => ?_) (fun E9 G9 h9 => ⟨Or.inl ⟨h9.1.1, fun q9 => h9.1.2 q9.1⟩, h9.2⟩)
  obtain ⟨⟨rfl, hq8⟩, eG8⟩ := q8
  have eG8 := eG8.symm
  subst eG8
  refine y_blk 2 tq_X8_sees (z := (13, [(0, .ref (ad 1)), (1, .int guard), (2, .int cell), (3, .int minute)], [.int cell, .ref (ad 1)])) rfl ?_
  refine y_callV hS tq_X8_sees rfl (As := [.int cell]) rfl cv_X8_114 (hX.1 1 _ rfl) (m_X8_needCell hS hX cell) rfl (by decide) (Nat.le_of_ble_eq_true rfl) (fun r13 Gc13 q13 => ?_) (fun E9 G9 h9 => ⟨Or.inl ⟨h9.1.1, fun q9 => h9.1.2 q9.2⟩, h9.2⟩)
  obtain ⟨⟨rfl, hq13⟩, eG13⟩ := q13
  have eG13 := eG13.symm
  subst eG13
  refine y_blk 1 tq_X8_sees (z := (17, [(0, .ref (ad 1)), (1, .int guard), (2, .int cell), (3, .int minute)], [.int minute])) rfl ?_
  refine y_callS hS tq_X8_sees rfl (As := [.int minute]) rfl cs_X8_139 (m_X8_isMinute hS  minute) rfl (by decide) (Nat.le_of_ble_eq_true rfl) (fun r17 Gc17 q17 => ?_) (fun E9 G9 h9 => h9.elim)
  obtain ⟨rfl, eG17⟩ := q17
  have eG17 := eG17.symm
  subst eG17
  refine y_blk 0 tq_X8_sees (z := (20, [(0, .ref (ad 1)), (1, .int guard), (2, .int cell), (3, .int minute)], [.int (if 0 ≤ minute ∧ minute ≤ 239 then 1 else 0)])) rfl ?_
  refine y_callS hS tq_X8_sees rfl (As := [.int (if 0 ≤ minute ∧ minute ≤ 239 then 1 else 0)]) rfl cs_X8_117 (m_X8_needLet hS  (if 0 ≤ minute ∧ minute ≤ 239 then 1 else 0)) rfl (by decide) (Nat.le_of_ble_eq_true rfl) (fun r20 Gc20 q20 => ?_) (fun E9 G9 h9 => ⟨(Or.inr (And.intro h9.1.1 (by first | exact h9.1.2 | exact absurd h9.1.2 (by decide) | exact absurd rfl hq2 | exact absurd rfl hq11 | exact absurd rfl hq19 | exact absurd rfl hq21 | exact absurd rfl hq24 | exact absurd rfl hq30 | exact absurd rfl hq35 | exact absurd rfl hq39 | exact absurd rfl hq40 | exact absurd rfl hq57 | exact absurd rfl hq45 | exact absurd rfl hq38 | exact absurd rfl hq34 | exact absurd rfl hq33 | exact absurd rfl hq29 | (have z9 := h9.1.2; clear h9; (repeat' apply And.intro) <;> first | (first | assumption | (simp only [yif0, Classical.not_not, ylt, yle, xcp0, xcp3, xcp5, xcp10, xcp12, xcp16, xcp22, yl_m1, yl_0, yl_1, yl_2, yl_3, yl_4, yl_5, yl_6, yl_7, yl_8, yl_9, yl_10, yl_11, yl_12, yl_15, yl_16, yl_20, yl_60, yl_64, yl_90, yl_97, yl_99, yl_100, yl_120, yl_239, yl_240] at *; first | omega | assumption | contradiction)) | (intro q9; (simp only [yif0, Classical.not_not, ylt, yle, xcp0, xcp3, xcp5, xcp10, xcp12, xcp16, xcp22, yl_m1, yl_0, yl_1, yl_2, yl_3, yl_4, yl_5, yl_6, yl_7, yl_8, yl_9, yl_10, yl_11, yl_12, yl_15, yl_16, yl_20, yl_60, yl_64, yl_90, yl_97, yl_99, yl_100, yl_120, yl_239, yl_240] at *; first | omega | contradiction | (obtain ⟨qa, qb⟩ := q9; contradiction))))))), h9.2⟩)
  obtain ⟨⟨rfl, hq20⟩, eG20⟩ := q20
  have eG20 := eG20.symm
  subst eG20
  refine y_blk 4 tq_X8_sees (z := (27, [(0, .ref (ad 1)), (1, .int guard), (2, .int cell), (3, .int minute)], [.ref (ad 1), .int minute, .int guard, .ref (ad 1)])) rfl ?_
  refine y_callV hS tq_X8_sees rfl (As := []) rfl cv_X8_171 (hX.1 1 _ rfl) (m_X8_brightCells_v hS hX ) rfl (by decide) (Nat.le_of_ble_eq_true rfl) (fun r27 Gc27 q27 => ?_) (fun E9 G9 h9 => h9.elim)
  obtain ⟨rfl, eG27⟩ := q27
  have eG27 := eG27.symm
  subst eG27
  refine y_blk 0 tq_X8_sees (z := (30, [(0, .ref (ad 1)), (1, .int guard), (2, .int cell), (3, .int minute)], [.long (xbri σ), .int minute, .int guard, .ref (ad 1)])) rfl ?_
  refine y_callV hS tq_X8_sees rfl (As := [.int guard, .int minute, .long (xbri σ)]) rfl cv_X8_202 (hX.1 1 _ rfl) (m_X8_sightOf_v hS hX guard minute (xbri σ) (by cases hq8 with | inl q => (rw [q]; decide) | inr q => (have h5 := hX.2.1 5; have h6 := xcap_le 5; have q2 := q.2; rw [yle, ysub (by rw [yl_1]; omega) (by rw [yl_1]; omega), yl_1] at q2; omega)) (by cases hq8 with | inl q => exact Or.inl q | inr q => exact Or.inr (by have q2 := q.1; rw [yle, yl_0] at q2; omega))) rfl (by decide) (Nat.le_of_ble_eq_true rfl) (fun r30 Gc30 q30 => ?_) (fun E9 G9 h9 => h9.elim)
  obtain ⟨rfl, eG30⟩ := q30
  have eG30 := eG30.symm
  subst eG30
  refine y_blk 1 tq_X8_sees (z := (34, [(0, .ref (ad 1)), (1, .int guard), (2, .int cell), (3, .int minute)], [.int cell, .long (xsgV σ guard minute (xbri σ))])) rfl ?_
  refine y_callS hS tq_X8_sees rfl (As := [.long (xsgV σ guard minute (xbri σ)), .int cell]) rfl cs_X8_124 (m_X8_isOf hS  (xsgV σ guard minute (xbri σ)) cell) rfl (by decide) (Nat.le_of_ble_eq_true rfl) (fun r34 Gc34 q34 => ?_) (fun E9 G9 h9 => h9.elim)
  obtain ⟨rfl, eG34⟩ := q34
  have eG34 := eG34.symm
  subst eG34
  refine y_blk 0 tq_X8_sees (z := (37, [(0, .ref (ad 1)), (1, .int guard), (2, .int cell), (3, .int minute)], [.int (if xis (xsgV σ guard minute (xbri σ)) cell then 1 else 0)])) rfl ?_
  exact y_zret tq_X8_sees rfl rfl (y01 (y01i _)) (⟨⟨rfl, (by first | exact absurd rfl hq2 | exact absurd rfl hq11 | exact absurd rfl hq19 | exact absurd rfl hq21 | exact absurd rfl hq24 | exact absurd rfl hq30 | exact absurd rfl hq35 | exact absurd rfl hq39 | exact absurd rfl hq40 | exact absurd rfl hq57 | exact absurd rfl hq45 | exact absurd rfl hq38 | exact absurd rfl hq34 | exact absurd rfl hq33 | exact absurd rfl hq29 | ((repeat' apply And.intro) <;> first | assumption | (simp only [yif0, Classical.not_not, ylt, yle, xcp0, xcp3, xcp5, xcp10, xcp12, xcp16, xcp22, yl_m1, yl_0, yl_1, yl_2, yl_3, yl_4, yl_5, yl_6, yl_7, yl_8, yl_9, yl_10, yl_11, yl_12, yl_15, yl_16, yl_20, yl_60, yl_64, yl_90, yl_97, yl_99, yl_100, yl_120, yl_239, yl_240] at *; first | omega | assumption | contradiction)))⟩, _, hX, keepX.rfl', (xkn.rfl').w, rfl⟩)
