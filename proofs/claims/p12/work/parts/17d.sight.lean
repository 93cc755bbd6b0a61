/-! ===== who sees what, for the class ===== -/
def xrg (a : Int32) : Int32 := if 0 ≤ a then (if 8 ≤ a then 7 else a) else 0
theorem xrg_n {a : Int32} (h : ¬ 0 ≤ a) : xrg a = 0 := if_neg h
theorem xrg_7 {a : Int32} (h : 0 ≤ a) (h2 : 8 ≤ a) : xrg a = 7 := (if_pos h).trans (if_pos h2)
theorem xrg_a {a : Int32} (h : 0 ≤ a) (h2 : ¬ 8 ≤ a) : xrg a = a := (if_pos h).trans (if_neg h2)
def xvo (σ : XS) (c a : Int32) : Int64 := if c * 8 + xrg a < 0 then 0 else if Int32.ofNat 512 ≤ c * 8 + xrg a then 0 else σ.2.2.2.2 (Int32.toNatClampNeg (c * 8 + xrg a))
def xbrF (σ : XS) : Int32 → Int64 → Int64 := fun p v => if xat σ 2 p = 1 then v ||| xvo σ (xat σ 0 p) (xat σ 1 p) else v
def xbri (σ : XS) : Int64 := itI (xbrF σ) 0 (σ.1 0).toInt.toNat
def xfgF (σ : XS) (m : Int32) : Int32 → Int32 × Int32 → Int32 × Int32 := fun p a => if m < xat σ 3 p then a else if xat σ 3 p < a.1 then a else (xat σ 3 p, xat σ 4 p)
def xfog (σ : XS) (m : Int32) : Int32 := (itI (xfgF σ m) (-1, 0) (σ.1 3).toInt.toNat).2
def xles (σ : XS) (g m : Int32) : Int32 := if 90 ≤ m - xat σ 5 g then 1 else 0
def xsg1 (σ : XS) (m : Int32) (b : Int64) (g : Int32) (e : Nat) : Prop := bt (xvo σ (xsta σ g m) ((2 - xfog σ m / 2) - xles σ g m)) e = true ∨ (bt (xvo σ (xsta σ g m) ((7 - xfog σ m) - xles σ g m)) e = true ∧ bt b e = true)
def xg0 (g : Int32) : Int32 := if g = -1 then 0 else g
def xg1 (σ : XS) (g : Int32) : Int32 := if g = -1 then σ.1 5 - 1 else g
/-- what the guards from one to one other see -/
def xsgI (σ : XS) (m : Int32) (b v : Int64) (i j : Int32) : Prop := ∀ e : Nat, e < 64 → (bt v e = true ↔ ∃ k : Nat, i.toInt ≤ (k : Int) ∧ (k : Int) < j.toInt ∧ xsg1 σ m b (Int32.ofNat k) e)
theorem xsgI_0 {σ : XS} {m : Int32} {b : Int64} {i : Int32} : xsgI σ m b 0 i i := fun e he => by
  rw [bt_0]
  exact ⟨fun q => absurd q (by decide), fun ⟨k, q1, q2, _⟩ => by omega⟩
theorem xsgI_s {σ : XS} {m : Int32} {b v A B : Int64} {i j L f : Int32} (h : (0 ≤ i.toInt ∧ i.toInt ≤ j.toInt ∧ j.toInt ≤ L.toInt + 1) ∧ xsgI σ m b v i j) (hL : L.toInt < 1000) (c : ¬ L < j) (hf : f = xfog σ m) {d : Int32} (hd : d = xles σ j m) (hA : A = xvo σ (xsta σ j m) ((2 - f / 2) - d)) (hB : B = xvo σ (xsta σ j m) ((7 - f) - d)) : (0 ≤ i.toInt ∧ i.toInt ≤ (j + 1).toInt ∧ (j + 1).toInt ≤ L.toInt + 1) ∧ xsgI σ m b ((v ||| A) ||| (B &&& b)) i (j + 1) := by
  obtain ⟨⟨h0, h1, h2⟩, h⟩ := h
  have e1 : (1 : Int32).toInt = 1 := by decide
  rw [ylt] at c
  have ej : (j + 1).toInt = j.toInt + 1 := by rw [yadd (by rw [e1]; omega) (by rw [e1]; omega), e1]
  refine ⟨⟨h0, by omega, by omega⟩, fun e he => ?_⟩
  have en : Int32.ofNat j.toInt.toNat = j := Int32.toInt_inj.mp (by
    rw [yofNat (by omega)]
    omega)
  rw [bt_or, bt_or, bt_and, Bool.or_eq_true, Bool.or_eq_true, Bool.and_eq_true, h e he, hA, hB, hf, hd]
  constructor
  · rintro ((⟨k, k1, k2, k3⟩ | q) | q)
    · exact ⟨k, k1, by omega, k3⟩
    · exact ⟨j.toInt.toNat, by omega, by omega, by rw [en]; exact Or.inl q⟩
    · exact ⟨j.toInt.toNat, by omega, by omega, by rw [en]; exact Or.inr q⟩
  · rintro ⟨k, k1, k2, k3⟩
    by_cases z : k = j.toInt.toNat
    · rw [z, en] at k3
      rcases k3 with k3 | k3
      · exact Or.inl (Or.inr k3)
      · exact Or.inr k3
    · exact Or.inl (Or.inl ⟨k, k1, by omega, k3⟩)
def xsgR (σ : XS) (g m : Int32) (b v : Int64) : Prop := xsgI σ m b v (xg0 g) (xg1 σ g + 1)
theorem xsgI_e {σ : XS} {g m : Int32} {b v : Int64} {i j L f : Int32} (hl : L.toInt < 1000 ∧ f = xfog σ m ∧ i = xg0 g ∧ L = xg1 σ g) (h : (0 ≤ i.toInt ∧ i.toInt ≤ j.toInt ∧ j.toInt ≤ L.toInt + 1) ∧ xsgI σ m b v i j) (c : L < j) : xsgR σ g m b v := by
  obtain ⟨⟨h0, h1, h2⟩, h⟩ := h
  have e1 : (1 : Int32).toInt = 1 := by decide
  rw [ylt] at c
  have hr := yrng L
  have eL : (L + 1).toInt = L.toInt + 1 := by rw [yadd (by rw [e1]; omega) (by rw [e1]; have := hl.1; omega), e1]
  have ej : j = L + 1 := Int32.toInt_inj.mp (by omega)
  unfold xsgR
  rw [← hl.2.2.1, ← hl.2.2.2, ← ej]
  exact h
/-- the set itself -/
noncomputable def xsgV (σ : XS) (g m : Int32) (b : Int64) : Int64 := Classical.choose (xse.ex (fun e => ∃ k : Nat, (xg0 g).toInt ≤ (k : Int) ∧ (k : Int) < (xg1 σ g + 1).toInt ∧ xsg1 σ m b (Int32.ofNat k) e))
theorem xsg_R {σ : XS} {g m : Int32} {b : Int64} : xsgR σ g m b (xsgV σ g m b) := Classical.choose_spec (xse.ex (fun e => ∃ k : Nat, (xg0 g).toInt ≤ (k : Int) ∧ (k : Int) < (xg1 σ g + 1).toInt ∧ xsg1 σ m b (Int32.ofNat k) e))
theorem i64_bt {v w : Int64} (h : ∀ e : Nat, e < 64 → (bt v e = true ↔ bt w e = true)) : v = w := by
  refine Int64.toBitVec_inj.mp (BitVec.eq_of_getLsbD_eq fun i hi => ?_)
  have e := h i hi
  have a : v.toBitVec.getLsbD i = bt v i := rfl
  have b : w.toBitVec.getLsbD i = bt w i := rfl
  rw [a, b]
  cases hx : bt v i <;> cases hy : bt w i
  · rfl
  · rw [hx, hy] at e
    exact absurd (e.mpr rfl) (by decide)
  · rw [hx, hy] at e
    exact absurd (e.mp rfl) (by decide)
  · rfl
theorem xsg_v {σ : XS} {g m : Int32} {b v : Int64} (h : xsgR σ g m b v) : v = xsgV σ g m b := i64_bt fun e he => (h e he).trans (xsg_R e he).symm
set_option maxHeartbeats 4000000 in
set_option maxRecDepth 100000 in
theorem m_X1_viewOf_v {l : Launch} {S0 : State} {A0 : Array Value} {D : va_G} {aC : Nat → ClassId} {ad : Nat → Nat} {G : AH} {σ : XS} (hS : yS l S0 A0 D aC) (hX : atX aC ad G σ) (cell : Int32) (apart : Int32) : yM l S0 D yX1_viewOf cX1_viewOf 5 (some .long) 10 0 0 [.ref (ad 2), .int cell, .int apart] G (fun r G1 => r = some (.long (xvo σ cell apart)) ∧ G1 = G) (fun _ _ => False) := by
  refine yM.ofK K_X1_viewOf rfl (by decide) (Nat.le_of_ble_eq_true rfl) ?_
  have h512 : (Int32.ofNat 512).toInt = 512 := by decide
  refine y_blk 1 tq_X1_viewOf (z := (1, [(0, .ref (ad 2)), (1, .int cell), (2, .int apart)], [.int apart])) rfl ?_
  refine y_if_ge tq_X1_viewOf 8 rfl rfl (fun c1 => ?_) (fun c1 => ?_)
  · skip
    refine y_blk 7 tq_X1_viewOf (z := (17, [(3, .int apart), (0, .ref (ad 2)), (1, .int cell), (2, .int apart)], [.int 8, .int apart, .int (cell * 8)])) rfl ?_
    refine y_icmp_ge tq_X1_viewOf 24 rfl rfl (fun c17 => ?_) (fun c17 => ?_)
    · skip
      refine y_blk 4 tq_X1_viewOf (z := (31, [(4, .int ((cell * 8) + 7)), (3, .int apart), (0, .ref (ad 2)), (1, .int cell), (2, .int apart)], [.int ((cell * 8) + 7)])) rfl ?_
      refine y_if_lt tq_X1_viewOf 54 rfl rfl (fun c31 => ?_) (fun c31 => ?_)
      · skip
        refine y_blk 1 tq_X1_viewOf (z := (55, [(4, .int ((cell * 8) + 7)), (3, .int apart), (0, .ref (ad 2)), (1, .int cell), (2, .int apart)], [.long 0])) rfl ?_
        exact y_lret tq_X1_viewOf rfl rfl (⟨congrArg (fun z => some (Value.long z)) (by unfold xvo; first | exact absurd (show (8 : Int32) ≤ 0 by assumption) (by decide) | (first | rw [xrg_n (by assumption)] | rw [xrg_7 (by assumption) (by assumption)] | rw [xrg_a (by assumption) (by assumption)]); first | rw [if_pos (by assumption)] | rw [if_neg (by assumption), if_pos (by assumption)] | rw [if_neg (by assumption), if_neg (by assumption)]), rfl⟩)
      · skip
        refine y_blk 2 tq_X1_viewOf (z := (37, [(4, .int ((cell * 8) + 7)), (3, .int apart), (0, .ref (ad 2)), (1, .int cell), (2, .int apart)], [.ref (ad 2), .int ((cell * 8) + 7)])) rfl ?_
        refine y_get hS tq_X1_viewOf (v := .ref (ad 3)) rfl fg_X1_15_X1 (hX.1 2 _ rfl) rfl ?_
        refine y_blk 0 tq_X1_viewOf (z := (40, [(4, .int ((cell * 8) + 7)), (3, .int apart), (0, .ref (ad 2)), (1, .int cell), (2, .int apart)], [.ref (ad 3), .int ((cell * 8) + 7)])) rfl ?_
        refine y_alen hS tq_X1_viewOf 1 rfl rfl (hX.1 3 _ rfl) ?_
        refine y_blk 0 tq_X1_viewOf (z := (41, [(4, .int ((cell * 8) + 7)), (3, .int apart), (0, .ref (ad 2)), (1, .int cell), (2, .int apart)], [.int (Int32.ofNat 512), .int ((cell * 8) + 7)])) rfl ?_
        refine y_icmp_ge tq_X1_viewOf 54 rfl rfl (fun c41 => ?_) (fun c41 => ?_)
        · skip
          refine y_blk 1 tq_X1_viewOf (z := (55, [(4, .int ((cell * 8) + 7)), (3, .int apart), (0, .ref (ad 2)), (1, .int cell), (2, .int apart)], [.long 0])) rfl ?_
          exact y_lret tq_X1_viewOf rfl rfl (⟨congrArg (fun z => some (Value.long z)) (by unfold xvo; first | exact absurd (show (8 : Int32) ≤ 0 by assumption) (by decide) | (first | rw [xrg_n (by assumption)] | rw [xrg_7 (by assumption) (by assumption)] | rw [xrg_a (by assumption) (by assumption)]); first | rw [if_pos (by assumption)] | rw [if_neg (by assumption), if_pos (by assumption)] | rw [if_neg (by assumption), if_neg (by assumption)]), rfl⟩)
        · skip
          refine y_blk 1 tq_X1_viewOf (z := (45, [(4, .int ((cell * 8) + 7)), (3, .int apart), (0, .ref (ad 2)), (1, .int cell), (2, .int apart)], [.ref (ad 2)])) rfl ?_
          refine y_get hS tq_X1_viewOf (v := .ref (ad 3)) rfl fg_X1_15_X1 (hX.1 2 _ rfl) rfl ?_
          refine y_blk 1 tq_X1_viewOf (z := (50, [(4, .int ((cell * 8) + 7)), (3, .int apart), (0, .ref (ad 2)), (1, .int cell), (2, .int apart)], [.int ((cell * 8) + 7), .ref (ad 3)])) rfl ?_
          refine y_lald hS tq_X1_viewOf rfl (hX.1 3 _ rfl) (by exact yin (by (simp only [ylt, yle, yeqI, yl_m1, yl_0, yl_1, yl_2, yl_3, yl_4, yl_5, yl_6, yl_7, yl_8, yl_9, yl_10, yl_11, yl_12, yl_15, yl_16, yl_20, yl_60, yl_64, yl_90, yl_97, yl_99, yl_100, yl_120, yl_239, yl_240] at *; omega)) (by (simp only [ylt, yle, yeqI, yl_m1, yl_0, yl_1, yl_2, yl_3, yl_4, yl_5, yl_6, yl_7, yl_8, yl_9, yl_10, yl_11, yl_12, yl_15, yl_16, yl_20, yl_60, yl_64, yl_90, yl_97, yl_99, yl_100, yl_120, yl_239, yl_240] at *; omega))) ?_
          refine y_blk 1 tq_X1_viewOf (z := (55, [(4, .int ((cell * 8) + 7)), (3, .int apart), (0, .ref (ad 2)), (1, .int cell), (2, .int apart)], [.long (σ.2.2.2.2 (Int32.toNatClampNeg ((cell * 8) + 7)))])) rfl ?_
          exact y_lret tq_X1_viewOf rfl rfl (⟨congrArg (fun z => some (Value.long z)) (by unfold xvo; first | exact absurd (show (8 : Int32) ≤ 0 by assumption) (by decide) | (first | rw [xrg_n (by assumption)] | rw [xrg_7 (by assumption) (by assumption)] | rw [xrg_a (by assumption) (by assumption)]); first | rw [if_pos (by assumption)] | rw [if_neg (by assumption), if_pos (by assumption)] | rw [if_neg (by assumption), if_neg (by assumption)]), rfl⟩)
    · skip
      refine y_blk 5 tq_X1_viewOf (z := (31, [(4, .int ((cell * 8) + apart)), (3, .int apart), (0, .ref (ad 2)), (1, .int cell), (2, .int apart)], [.int ((cell * 8) + apart)])) rfl ?_
      refine y_if_lt tq_X1_viewOf 54 rfl rfl (fun c31 => ?_) (fun c31 => ?_)
      · skip
        refine y_blk 1 tq_X1_viewOf (z := (55, [(4, .int ((cell * 8) + apart)), (3, .int apart), (0, .ref (ad 2)), (1, .int cell), (2, .int apart)], [.long 0])) rfl ?_
        exact y_lret tq_X1_viewOf rfl rfl (⟨congrArg (fun z => some (Value.long z)) (by unfold xvo; first | exact absurd (show (8 : Int32) ≤ 0 by assumption) (by decide) | (first | rw [xrg_n (by assumption)] | rw [xrg_7 (by assumption) (by assumption)] | rw [xrg_a (by assumption) (by assumption)]); first | rw [if_pos (by assumption)] | rw [if_neg (by assumption), if_pos (by assumption)] | rw [if_neg (by assumption), if_neg (by assumption)]), rfl⟩)
      · skip
        refine y_blk 2 tq_X1_viewOf (z := (37, [(4, .int ((cell * 8) + apart)), (3, .int apart), (0, .ref (ad 2)), (1, .int cell), (2, .int apart)], [.ref (ad 2), .int ((cell * 8) + apart)])) rfl ?_
        refine y_get hS tq_X1_viewOf (v := .ref (ad 3)) rfl fg_X1_15_X1 (hX.1 2 _ rfl) rfl ?_
        refine y_blk 0 tq_X1_viewOf (z := (40, [(4, .int ((cell * 8) + apart)), (3, .int apart), (0, .ref (ad 2)), (1, .int cell), (2, .int apart)], [.ref (ad 3), .int ((cell * 8) + apart)])) rfl ?_
        refine y_alen hS tq_X1_viewOf 1 rfl rfl (hX.1 3 _ rfl) ?_
        refine y_blk 0 tq_X1_viewOf (z := (41, [(4, .int ((cell * 8) + apart)), (3, .int apart), (0, .ref (ad 2)), (1, .int cell), (2, .int apart)], [.int (Int32.ofNat 512), .int ((cell * 8) + apart)])) rfl ?_
        refine y_icmp_ge tq_X1_viewOf 54 rfl rfl (fun c41 => ?_) (fun c41 => ?_)
        · skip
          refine y_blk 1 tq_X1_viewOf (z := (55, [(4, .int ((cell * 8) + apart)), (3, .int apart), (0, .ref (ad 2)), (1, .int cell), (2, .int apart)], [.long 0])) rfl ?_
          exact y_lret tq_X1_viewOf rfl rfl (⟨congrArg (fun z => some (Value.long z)) (by unfold xvo; first | exact absurd (show (8 : Int32) ≤ 0 by assumption) (by decide) | (first | rw [xrg_n (by assumption)] | rw [xrg_7 (by assumption) (by assumption)] | rw [xrg_a (by assumption) (by assumption)]); first | rw [if_pos (by assumption)] | rw [if_neg (by assumption), if_pos (by assumption)] | rw [if_neg (by assumption), if_neg (by assumption)]), rfl⟩)
        · skip
          refine y_blk 1 tq_X1_viewOf (z := (45, [(4, .int ((cell * 8) + apart)), (3, .int apart), (0, .ref (ad 2)), (1, .int cell), (2, .int apart)], [.ref (ad 2)])) rfl ?_
          refine y_get hS tq_X1_viewOf (v := .ref (ad 3)) rfl fg_X1_15_X1 (hX.1 2 _ rfl) rfl ?_
          refine y_blk 1 tq_X1_viewOf (z := (50, [(4, .int ((cell * 8) + apart)), (3, .int apart), (0, .ref (ad 2)), (1, .int cell), (2, .int apart)], [.int ((cell * 8) + apart), .ref (ad 3)])) rfl ?_
          refine y_lald hS tq_X1_viewOf rfl (hX.1 3 _ rfl) (by exact yin (by (simp only [ylt, yle, yeqI, yl_m1, yl_0, yl_1, yl_2, yl_3, yl_4, yl_5, yl_6, yl_7, yl_8, yl_9, yl_10, yl_11, yl_12, yl_15, yl_16, yl_20, yl_60, yl_64, yl_90, yl_97, yl_99, yl_100, yl_120, yl_239, yl_240] at *; omega)) (by (simp only [ylt, yle, yeqI, yl_m1, yl_0, yl_1, yl_2, yl_3, yl_4, yl_5, yl_6, yl_7, yl_8, yl_9, yl_10, yl_11, yl_12, yl_15, yl_16, yl_20, yl_60, yl_64, yl_90, yl_97, yl_99, yl_100, yl_120, yl_239, yl_240] at *; omega))) ?_
          refine y_blk 1 tq_X1_viewOf (z := (55, [(4, .int ((cell * 8) + apart)), (3, .int apart), (0, .ref (ad 2)), (1, .int cell), (2, .int apart)], [.long (σ.2.2.2.2 (Int32.toNatClampNeg ((cell * 8) + apart)))])) rfl ?_
          exact y_lret tq_X1_viewOf rfl rfl (⟨congrArg (fun z => some (Value.long z)) (by unfold xvo; first | exact absurd (show (8 : Int32) ≤ 0 by assumption) (by decide) | (first | rw [xrg_n (by assumption)] | rw [xrg_7 (by assumption) (by assumption)] | rw [xrg_a (by assumption) (by assumption)]); first | rw [if_pos (by assumption)] | rw [if_neg (by assumption), if_pos (by assumption)] | rw [if_neg (by assumption), if_neg (by assumption)]), rfl⟩)
  · skip
    refine y_blk 8 tq_X1_viewOf (z := (17, [(3, .int 0), (0, .ref (ad 2)), (1, .int cell), (2, .int apart)], [.int 8, .int 0, .int (cell * 8)])) rfl ?_
    refine y_icmp_ge tq_X1_viewOf 24 rfl rfl (fun c17 => ?_) (fun c17 => ?_)
    · skip
      refine y_blk 4 tq_X1_viewOf (z := (31, [(4, .int ((cell * 8) + 7)), (3, .int 0), (0, .ref (ad 2)), (1, .int cell), (2, .int apart)], [.int ((cell * 8) + 7)])) rfl ?_
      refine y_if_lt tq_X1_viewOf 54 rfl rfl (fun c31 => ?_) (fun c31 => ?_)
      · skip
        refine y_blk 1 tq_X1_viewOf (z := (55, [(4, .int ((cell * 8) + 7)), (3, .int 0), (0, .ref (ad 2)), (1, .int cell), (2, .int apart)], [.long 0])) rfl ?_
        exact y_lret tq_X1_viewOf rfl rfl (⟨congrArg (fun z => some (Value.long z)) (by unfold xvo; first | exact absurd (show (8 : Int32) ≤ 0 by assumption) (by decide) | (first | rw [xrg_n (by assumption)] | rw [xrg_7 (by assumption) (by assumption)] | rw [xrg_a (by assumption) (by assumption)]); first | rw [if_pos (by assumption)] | rw [if_neg (by assumption), if_pos (by assumption)] | rw [if_neg (by assumption), if_neg (by assumption)]), rfl⟩)
      · skip
        refine y_blk 2 tq_X1_viewOf (z := (37, [(4, .int ((cell * 8) + 7)), (3, .int 0), (0, .ref (ad 2)), (1, .int cell), (2, .int apart)], [.ref (ad 2), .int ((cell * 8) + 7)])) rfl ?_
        refine y_get hS tq_X1_viewOf (v := .ref (ad 3)) rfl fg_X1_15_X1 (hX.1 2 _ rfl) rfl ?_
        refine y_blk 0 tq_X1_viewOf (z := (40, [(4, .int ((cell * 8) + 7)), (3, .int 0), (0, .ref (ad 2)), (1, .int cell), (2, .int apart)], [.ref (ad 3), .int ((cell * 8) + 7)])) rfl ?_
        refine y_alen hS tq_X1_viewOf 1 rfl rfl (hX.1 3 _ rfl) ?_
        refine y_blk 0 tq_X1_viewOf (z := (41, [(4, .int ((cell * 8) + 7)), (3, .int 0), (0, .ref (ad 2)), (1, .int cell), (2, .int apart)], [.int (Int32.ofNat 512), .int ((cell * 8) + 7)])) rfl ?_
        refine y_icmp_ge tq_X1_viewOf 54 rfl rfl (fun c41 => ?_) (fun c41 => ?_)
        · skip
          refine y_blk 1 tq_X1_viewOf (z := (55, [(4, .int ((cell * 8) + 7)), (3, .int 0), (0, .ref (ad 2)), (1, .int cell), (2, .int apart)], [.long 0])) rfl ?_
          exact y_lret tq_X1_viewOf rfl rfl (⟨congrArg (fun z => some (Value.long z)) (by unfold xvo; first | exact absurd (show (8 : Int32) ≤ 0 by assumption) (by decide) | (first | rw [xrg_n (by assumption)] | rw [xrg_7 (by assumption) (by assumption)] | rw [xrg_a (by assumption) (by assumption)]); first | rw [if_pos (by assumption)] | rw [if_neg (by assumption), if_pos (by assumption)] | rw [if_neg (by assumption), if_neg (by assumption)]), rfl⟩)
        · skip
          refine y_blk 1 tq_X1_viewOf (z := (45, [(4, .int ((cell * 8) + 7)), (3, .int 0), (0, .ref (ad 2)), (1, .int cell), (2, .int apart)], [.ref (ad 2)])) rfl ?_
          refine y_get hS tq_X1_viewOf (v := .ref (ad 3)) rfl fg_X1_15_X1 (hX.1 2 _ rfl) rfl ?_
          refine y_blk 1 tq_X1_viewOf (z := (50, [(4, .int ((cell * 8) + 7)), (3, .int 0), (0, .ref (ad 2)), (1, .int cell), (2, .int apart)], [.int ((cell * 8) + 7), .ref (ad 3)])) rfl ?_
          refine y_lald hS tq_X1_viewOf rfl (hX.1 3 _ rfl) (by exact yin (by (simp only [ylt, yle, yeqI, yl_m1, yl_0, yl_1, yl_2, yl_3, yl_4, yl_5, yl_6, yl_7, yl_8, yl_9, yl_10, yl_11, yl_12, yl_15, yl_16, yl_20, yl_60, yl_64, yl_90, yl_97, yl_99, yl_100, yl_120, yl_239, yl_240] at *; omega)) (by (simp only [ylt, yle, yeqI, yl_m1, yl_0, yl_1, yl_2, yl_3, yl_4, yl_5, yl_6, yl_7, yl_8, yl_9, yl_10, yl_11, yl_12, yl_15, yl_16, yl_20, yl_60, yl_64, yl_90, yl_97, yl_99, yl_100, yl_120, yl_239, yl_240] at *; omega))) ?_
          refine y_blk 1 tq_X1_viewOf (z := (55, [(4, .int ((cell * 8) + 7)), (3, .int 0), (0, .ref (ad 2)), (1, .int cell), (2, .int apart)], [.long (σ.2.2.2.2 (Int32.toNatClampNeg ((cell * 8) + 7)))])) rfl ?_
          exact y_lret tq_X1_viewOf rfl rfl (⟨congrArg (fun z => some (Value.long z)) (by unfold xvo; first | exact absurd (show (8 : Int32) ≤ 0 by assumption) (by decide) | (first | rw [xrg_n (by assumption)] | rw [xrg_7 (by assumption) (by assumption)] | rw [xrg_a (by assumption) (by assumption)]); first | rw [if_pos (by assumption)] | rw [if_neg (by assumption), if_pos (by assumption)] | rw [if_neg (by assumption), if_neg (by assumption)]), rfl⟩)
    · skip
      refine y_blk 5 tq_X1_viewOf (z := (31, [(4, .int ((cell * 8) + 0)), (3, .int 0), (0, .ref (ad 2)), (1, .int cell), (2, .int apart)], [.int ((cell * 8) + 0)])) rfl ?_
      refine y_if_lt tq_X1_viewOf 54 rfl rfl (fun c31 => ?_) (fun c31 => ?_)
      · skip
        refine y_blk 1 tq_X1_viewOf (z := (55, [(4, .int ((cell * 8) + 0)), (3, .int 0), (0, .ref (ad 2)), (1, .int cell), (2, .int apart)], [.long 0])) rfl ?_
        exact y_lret tq_X1_viewOf rfl rfl (⟨congrArg (fun z => some (Value.long z)) (by unfold xvo; first | exact absurd (show (8 : Int32) ≤ 0 by assumption) (by decide) | (first | rw [xrg_n (by assumption)] | rw [xrg_7 (by assumption) (by assumption)] | rw [xrg_a (by assumption) (by assumption)]); first | rw [if_pos (by assumption)] | rw [if_neg (by assumption), if_pos (by assumption)] | rw [if_neg (by assumption), if_neg (by assumption)]), rfl⟩)
      · skip
        refine y_blk 2 tq_X1_viewOf (z := (37, [(4, .int ((cell * 8) + 0)), (3, .int 0), (0, .ref (ad 2)), (1, .int cell), (2, .int apart)], [.ref (ad 2), .int ((cell * 8) + 0)])) rfl ?_
        refine y_get hS tq_X1_viewOf (v := .ref (ad 3)) rfl fg_X1_15_X1 (hX.1 2 _ rfl) rfl ?_
        refine y_blk 0 tq_X1_viewOf (z := (40, [(4, .int ((cell * 8) + 0)), (3, .int 0), (0, .ref (ad 2)), (1, .int cell), (2, .int apart)], [.ref (ad 3), .int ((cell * 8) + 0)])) rfl ?_
        refine y_alen hS tq_X1_viewOf 1 rfl rfl (hX.1 3 _ rfl) ?_
        refine y_blk 0 tq_X1_viewOf (z := (41, [(4, .int ((cell * 8) + 0)), (3, .int 0), (0, .ref (ad 2)), (1, .int cell), (2, .int apart)], [.int (Int32.ofNat 512), .int ((cell * 8) + 0)])) rfl ?_
        refine y_icmp_ge tq_X1_viewOf 54 rfl rfl (fun c41 => ?_) (fun c41 => ?_)
        · skip
          refine y_blk 1 tq_X1_viewOf (z := (55, [(4, .int ((cell * 8) + 0)), (3, .int 0), (0, .ref (ad 2)), (1, .int cell), (2, .int apart)], [.long 0])) rfl ?_
          exact y_lret tq_X1_viewOf rfl rfl (⟨congrArg (fun z => some (Value.long z)) (by unfold xvo; first | exact absurd (show (8 : Int32) ≤ 0 by assumption) (by decide) | (first | rw [xrg_n (by assumption)] | rw [xrg_7 (by assumption) (by assumption)] | rw [xrg_a (by assumption) (by assumption)]); first | rw [if_pos (by assumption)] | rw [if_neg (by assumption), if_pos (by assumption)] | rw [if_neg (by assumption), if_neg (by assumption)]), rfl⟩)
        · skip
          refine y_blk 1 tq_X1_viewOf (z := (45, [(4, .int ((cell * 8) + 0)), (3, .int 0), (0, .ref (ad 2)), (1, .int cell), (2, .int apart)], [.ref (ad 2)])) rfl ?_
          refine y_get hS tq_X1_viewOf (v := .ref (ad 3)) rfl fg_X1_15_X1 (hX.1 2 _ rfl) rfl ?_
          refine y_blk 1 tq_X1_viewOf (z := (50, [(4, .int ((cell * 8) + 0)), (3, .int 0), (0, .ref (ad 2)), (1, .int cell), (2, .int apart)], [.int ((cell * 8) + 0), .ref (ad 3)])) rfl ?_
          refine y_lald hS tq_X1_viewOf rfl (hX.1 3 _ rfl) (by exact yin (by (simp only [ylt, yle, yeqI, yl_m1, yl_0, yl_1, yl_2, yl_3, yl_4, yl_5, yl_6, yl_7, yl_8, yl_9, yl_10, yl_11, yl_12, yl_15, yl_16, yl_20, yl_60, yl_64, yl_90, yl_97, yl_99, yl_100, yl_120, yl_239, yl_240] at *; omega)) (by (simp only [ylt, yle, yeqI, yl_m1, yl_0, yl_1, yl_2, yl_3, yl_4, yl_5, yl_6, yl_7, yl_8, yl_9, yl_10, yl_11, yl_12, yl_15, yl_16, yl_20, yl_60, yl_64, yl_90, yl_97, yl_99, yl_100, yl_120, yl_239, yl_240] at *; omega))) ?_
          refine y_blk 1 tq_X1_viewOf (z := (55, [(4, .int ((cell * 8) + 0)), (3, .int 0), (0, .ref (ad 2)), (1, .int cell), (2, .int apart)], [.long (σ.2.2.2.2 (Int32.toNatClampNeg ((cell * 8) + 0)))])) rfl ?_
          exact y_lret tq_X1_viewOf rfl rfl (⟨congrArg (fun z => some (Value.long z)) (by unfold xvo; first | exact absurd (show (8 : Int32) ≤ 0 by assumption) (by decide) | (first | rw [xrg_n (by assumption)] | rw [xrg_7 (by assumption) (by assumption)] | rw [xrg_a (by assumption) (by assumption)]); first | rw [if_pos (by assumption)] | rw [if_neg (by assumption), if_pos (by assumption)] | rw [if_neg (by assumption), if_neg (by assumption)]), rfl⟩)
set_option maxHeartbeats 4000000 in
set_option maxRecDepth 100000 in
theorem m_X4_brightCells_v {l : Launch} {S0 : State} {A0 : Array Value} {D : va_G} {aC : Nat → ClassId} {ad : Nat → Nat} {G : AH} {σ : XS} (hS : yS l S0 A0 D aC) (hX : atX aC ad G σ) : yM l S0 D yX4_brightCells cX4_brightCells 5 (some .long) 11 0 0 [.ref (ad 4), .ref (ad 2)] G (fun r G1 => r = some (.long (xbri σ)) ∧ G1 = G) (fun _ _ => False) := by
  refine yM.ofK K_X4_brightCells rfl (by decide) (Nat.le_of_ble_eq_true rfl) ?_
  have J5 : ∀ (n5 : Nat) (v5_2 : Int64) (v5_4 : Int32) (hh5 : 0 ≤ v5_4.toInt ∧ v5_4.toInt ≤ (σ.1 0 : Int32).toInt) (ea5 : v5_2 = itI (xbrF σ) 0 v5_4.toInt.toNat), ((σ.1 0 : Int32).toInt - v5_4.toInt).toNat = n5 → Y l S0 D K_X4_brightCells 11 0 0 (fun r G1 => r = some (.long (xbri σ)) ∧ G1 = G) (fun _ _ => False) 5 [(0, .ref (ad 4)), (1, .ref (ad 2)), (2, .long v5_2), (4, .int v5_4)] [] G 0 0 := by
    intro n5
    induction n5 using Nat.strongRecOn with
    | _ n5 ih5 =>
    intro v5_2 v5_4 hh5 ea5 hn5
    subst hn5
    refine y_blk 2 tq_X4_brightCells (z := (8, [(0, .ref (ad 4)), (1, .ref (ad 2)), (2, .long v5_2), (4, .int v5_4)], [.ref (ad 4), .int v5_4])) rfl ?_
    refine y_get hS tq_X4_brightCells (v := .ref (ad 100)) rfl fg_X4_14_X4 (hX.1 4 _ rfl) rfl ?_
    refine y_blk 0 tq_X4_brightCells (z := (11, [(0, .ref (ad 4)), (1, .ref (ad 2)), (2, .long v5_2), (4, .int v5_4)], [.ref (ad 100), .int v5_4])) rfl ?_
    refine y_callV hS tq_X4_brightCells rfl (As := []) rfl cv_X4_24 (hX.num (k := 0) (by decide)) (m_X5_size hS hX (k := 0) (by decide) ) rfl (by decide) (Nat.le_of_ble_eq_true rfl) (fun r11 Gc11 q11 => ?_) (fun E9 G9 h9 => h9.elim)
    obtain ⟨rfl, eG11⟩ := q11
    have eG11 := eG11.symm
    subst eG11
    refine y_blk 0 tq_X4_brightCells (z := (14, [(0, .ref (ad 4)), (1, .ref (ad 2)), (2, .long v5_2), (4, .int v5_4)], [.int (σ.1 0), .int v5_4])) rfl ?_
    refine y_icmp_ge tq_X4_brightCells 61 rfl rfl (fun c14 => ?_) (fun c14 => ?_)
    · skip
      refine y_blk 1 tq_X4_brightCells (z := (62, [(0, .ref (ad 4)), (1, .ref (ad 2)), (2, .long v5_2), (4, .int v5_4)], [.long v5_2])) rfl ?_
      exact y_lret tq_X4_brightCells rfl rfl (⟨congrArg (fun z => some (Value.long z)) (itI_e ea5 hh5 c14), rfl⟩)
    · skip
      refine y_blk 1 tq_X4_brightCells (z := (18, [(0, .ref (ad 4)), (1, .ref (ad 2)), (2, .long v5_2), (4, .int v5_4)], [.ref (ad 4)])) rfl ?_
      refine y_get hS tq_X4_brightCells (v := .ref (ad 104)) rfl fg_X4_21_X4 (hX.1 4 _ rfl) rfl ?_
      refine y_blk 1 tq_X4_brightCells (z := (23, [(0, .ref (ad 4)), (1, .ref (ad 2)), (2, .long v5_2), (4, .int v5_4)], [.int v5_4, .ref (ad 104)])) rfl ?_
      refine y_callV hS tq_X4_brightCells rfl (As := [.int v5_4]) rfl cv_X4_53 (hX.num (k := 2) (by decide)) (m_X5_at hS hX (k := 2) (by decide) v5_4) rfl (by decide) (Nat.le_of_ble_eq_true rfl) (fun r23 Gc23 q23 => ?_) (fun E9 G9 h9 => h9.elim)
      obtain ⟨rfl, eG23⟩ := q23
      have eG23 := eG23.symm
      subst eG23
      refine y_blk 1 tq_X4_brightCells (z := (27, [(0, .ref (ad 4)), (1, .ref (ad 2)), (2, .long v5_2), (4, .int v5_4)], [.int 1, .int (xat σ 2 v5_4)])) rfl ?_
      refine y_icmp_ne tq_X4_brightCells 55 rfl rfl (fun c27 => ?_) (fun c27 => ?_)
      · skip
        refine y_blk 2 tq_X4_brightCells (z := (5, [(4, .int (v5_4 + 1)), (0, .ref (ad 4)), (1, .ref (ad 2)), (2, .long v5_2)], [])) rfl ?_
        refine y_pick (L2 := [(0, .ref (ad 4)), (1, .ref (ad 2)), (2, .long v5_2), (4, .int (v5_4 + 1))]) [1, 2, 3, 0] rfl ?_
        exact ih5 _ (by exact ydec c14) v5_2 (v5_4 + 1) (by first | exact xcn_step hh5 c14 | exact xcn_init (hX.2.1 0).1) (by first | exact itI_s ea5 hh5 c14 (by unfold xbrF; simp only [yif0, Classical.not_not] at *; (repeat' split) <;> first | contradiction | with_reducible rfl) | with_reducible exact itI_0) rfl
      · skip
        refine y_blk 3 tq_X4_brightCells (z := (33, [(0, .ref (ad 4)), (1, .ref (ad 2)), (2, .long v5_2), (4, .int v5_4)], [.ref (ad 4), .ref (ad 2), .long v5_2])) rfl ?_
        refine y_get hS tq_X4_brightCells (v := .ref (ad 100)) rfl fg_X4_14_X4 (hX.1 4 _ rfl) rfl ?_
        refine y_blk 1 tq_X4_brightCells (z := (38, [(0, .ref (ad 4)), (1, .ref (ad 2)), (2, .long v5_2), (4, .int v5_4)], [.int v5_4, .ref (ad 100), .ref (ad 2), .long v5_2])) rfl ?_
        refine y_callV hS tq_X4_brightCells rfl (As := [.int v5_4]) rfl cv_X4_53 (hX.num (k := 0) (by decide)) (m_X5_at hS hX (k := 0) (by decide) v5_4) rfl (by decide) (Nat.le_of_ble_eq_true rfl) (fun r38 Gc38 q38 => ?_) (fun E9 G9 h9 => h9.elim)
        obtain ⟨rfl, eG38⟩ := q38
        have eG38 := eG38.symm
        subst eG38
        refine y_blk 1 tq_X4_brightCells (z := (42, [(0, .ref (ad 4)), (1, .ref (ad 2)), (2, .long v5_2), (4, .int v5_4)], [.ref (ad 4), .int (xat σ 0 v5_4), .ref (ad 2), .long v5_2])) rfl ?_
        refine y_get hS tq_X4_brightCells (v := .ref (ad 102)) rfl fg_X4_18_X4 (hX.1 4 _ rfl) rfl ?_
        refine y_blk 1 tq_X4_brightCells (z := (47, [(0, .ref (ad 4)), (1, .ref (ad 2)), (2, .long v5_2), (4, .int v5_4)], [.int v5_4, .ref (ad 102), .int (xat σ 0 v5_4), .ref (ad 2), .long v5_2])) rfl ?_
        refine y_callV hS tq_X4_brightCells rfl (As := [.int v5_4]) rfl cv_X4_53 (hX.num (k := 1) (by decide)) (m_X5_at hS hX (k := 1) (by decide) v5_4) rfl (by decide) (Nat.le_of_ble_eq_true rfl) (fun r47 Gc47 q47 => ?_) (fun E9 G9 h9 => h9.elim)
        obtain ⟨rfl, eG47⟩ := q47
        have eG47 := eG47.symm
        subst eG47
        refine y_blk 0 tq_X4_brightCells (z := (50, [(0, .ref (ad 4)), (1, .ref (ad 2)), (2, .long v5_2), (4, .int v5_4)], [.int (xat σ 1 v5_4), .int (xat σ 0 v5_4), .ref (ad 2), .long v5_2])) rfl ?_
        refine y_callV hS tq_X4_brightCells rfl (As := [.int (xat σ 0 v5_4), .int (xat σ 1 v5_4)]) rfl cv_X4_56 (hX.1 2 _ rfl) (m_X1_viewOf_v hS hX (xat σ 0 v5_4) (xat σ 1 v5_4)) rfl (by decide) (Nat.le_of_ble_eq_true rfl) (fun r50 Gc50 q50 => ?_) (fun E9 G9 h9 => h9.elim)
        obtain ⟨rfl, eG50⟩ := q50
        have eG50 := eG50.symm
        subst eG50
        refine y_blk 4 tq_X4_brightCells (z := (5, [(4, .int (v5_4 + 1)), (2, .long (v5_2 ||| (xvo σ (xat σ 0 v5_4) (xat σ 1 v5_4)))), (0, .ref (ad 4)), (1, .ref (ad 2))], [])) rfl ?_
        refine y_pick (L2 := [(0, .ref (ad 4)), (1, .ref (ad 2)), (2, .long (v5_2 ||| (xvo σ (xat σ 0 v5_4) (xat σ 1 v5_4)))), (4, .int (v5_4 + 1))]) [2, 3, 1, 0] rfl ?_
        exact ih5 _ (by exact ydec c14) (v5_2 ||| (xvo σ (xat σ 0 v5_4) (xat σ 1 v5_4))) (v5_4 + 1) (by first | exact xcn_step hh5 c14 | exact xcn_init (hX.2.1 0).1) (by first | exact itI_s ea5 hh5 c14 (by unfold xbrF; simp only [yif0, Classical.not_not] at *; (repeat' split) <;> first | contradiction | with_reducible rfl) | with_reducible exact itI_0) rfl
  refine y_blk 4 tq_X4_brightCells (z := (5, [(4, .int 0), (2, .long 0), (0, .ref (ad 4)), (1, .ref (ad 2))], [])) rfl ?_
  refine y_pick (L2 := [(0, .ref (ad 4)), (1, .ref (ad 2)), (2, .long 0), (4, .int 0)]) [2, 3, 1, 0] rfl ?_
  exact J5 _ 0 0 (by first | exact xcn_step hh5 c14 | exact xcn_init (hX.2.1 0).1) (by first | exact itI_s ea5 hh5 c14 (by unfold xbrF; simp only [yif0, Classical.not_not] at *; (repeat' split) <;> first | contradiction | with_reducible rfl) | with_reducible exact itI_0) rfl
set_option maxHeartbeats 4000000 in
set_option maxRecDepth 100000 in
theorem m_X8_brightCells_v {l : Launch} {S0 : State} {A0 : Array Value} {D : va_G} {aC : Nat → ClassId} {ad : Nat → Nat} {G : AH} {σ : XS} (hS : yS l S0 A0 D aC) (hX : atX aC ad G σ) : yM l S0 D yX8_brightCells cX8_brightCells 1 (some .long) 12 0 0 [.ref (ad 1)] G (fun r G1 => r = some (.long (xbri σ)) ∧ G1 = G) (fun _ _ => False) := by
  refine yM.ofK K_X8_brightCells rfl (by decide) (Nat.le_of_ble_eq_true rfl) ?_
  refine y_blk 1 tq_X8_brightCells (z := (1, [(0, .ref (ad 1))], [.ref (ad 1)])) rfl ?_
  refine y_get hS tq_X8_brightCells (v := .ref (ad 4)) rfl fg_X8_19_X8 (hX.1 1 _ rfl) rfl ?_
  refine y_blk 1 tq_X8_brightCells (z := (5, [(0, .ref (ad 1))], [.ref (ad 1), .ref (ad 4)])) rfl ?_
  refine y_get hS tq_X8_brightCells (v := .ref (ad 2)) rfl fg_X8_10_X8 (hX.1 1 _ rfl) rfl ?_
  refine y_blk 0 tq_X8_brightCells (z := (8, [(0, .ref (ad 1))], [.ref (ad 2), .ref (ad 4)])) rfl ?_
  refine y_callV hS tq_X8_brightCells rfl (As := [.ref (ad 2)]) rfl cv_X8_447 (hX.1 4 _ rfl) (m_X4_brightCells_v hS hX ) rfl (by decide) (Nat.le_of_ble_eq_true rfl) (fun r8 Gc8 q8 => ?_) (fun E9 G9 h9 => h9.elim)
  obtain ⟨rfl, eG8⟩ := q8
  have eG8 := eG8.symm
  subst eG8
  refine y_blk 0 tq_X8_brightCells (z := (11, [(0, .ref (ad 1))], [.long (xbri σ)])) rfl ?_
  exact y_lret tq_X8_brightCells rfl rfl (⟨by first | rfl | (congr 2; (repeat' split) <;> first | rfl | (exfalso; simp only [ylt, yle, yeqI, yl_m1, yl_0, yl_1, yl_2, yl_3, yl_4, yl_5, yl_6, yl_7, yl_8, yl_9, yl_10, yl_11, yl_12, yl_15, yl_16, yl_20, yl_60, yl_64, yl_90, yl_97, yl_99, yl_100, yl_120, yl_239, yl_240] at *; omega)), rfl⟩)
set_option maxHeartbeats 4000000 in
set_option maxRecDepth 100000 in
theorem m_X0_fogAt_v {l : Launch} {S0 : State} {A0 : Array Value} {D : va_G} {aC : Nat → ClassId} {ad : Nat → Nat} {G : AH} {σ : XS} (hS : yS l S0 A0 D aC) (hX : atX aC ad G σ) (minute : Int32) : yM l S0 D yX0_fogAt cX0_fogAt 6 (some .int) 11 0 0 [.ref (ad 5), .int minute] G (fun r G1 => r = some (.int (xfog σ minute)) ∧ G1 = G) (fun _ _ => False) := by
  refine yM.ofK K_X0_fogAt rfl (by decide) (Nat.le_of_ble_eq_true rfl) ?_
  have J7 : ∀ (n7 : Nat) (v7_2 : Int32) (v7_3 : Int32) (v7_4 : Int32) (hh7 : 0 ≤ v7_4.toInt ∧ v7_4.toInt ≤ (σ.1 3 : Int32).toInt) (ea7 : (v7_2, v7_3) = itI (xfgF σ minute) (-1, 0) v7_4.toInt.toNat), ((σ.1 3 : Int32).toInt - v7_4.toInt).toNat = n7 → Y l S0 D K_X0_fogAt 11 0 0 (fun r G1 => r = some (.int (xfog σ minute)) ∧ G1 = G) (fun _ _ => False) 7 [(0, .ref (ad 5)), (1, .int minute), (2, .int v7_2), (3, .int v7_3), (4, .int v7_4)] [] G 0 0 := by
    intro n7
    induction n7 using Nat.strongRecOn with
    | _ n7 ih7 =>
    intro v7_2 v7_3 v7_4 hh7 ea7 hn7
    subst hn7
    refine y_blk 2 tq_X0_fogAt (z := (10, [(0, .ref (ad 5)), (1, .int minute), (2, .int v7_2), (3, .int v7_3), (4, .int v7_4)], [.ref (ad 5), .int v7_4])) rfl ?_
    refine y_get hS tq_X0_fogAt (v := .ref (ad 106)) rfl fg_X0_16_X0 (hX.1 5 _ rfl) rfl ?_
    refine y_blk 0 tq_X0_fogAt (z := (13, [(0, .ref (ad 5)), (1, .int minute), (2, .int v7_2), (3, .int v7_3), (4, .int v7_4)], [.ref (ad 106), .int v7_4])) rfl ?_
    refine y_callV hS tq_X0_fogAt rfl (As := []) rfl cv_X0_33 (hX.num (k := 3) (by decide)) (m_X5_size hS hX (k := 3) (by decide) ) rfl (by decide) (Nat.le_of_ble_eq_true rfl) (fun r13 Gc13 q13 => ?_) (fun E9 G9 h9 => h9.elim)
    obtain ⟨rfl, eG13⟩ := q13
    have eG13 := eG13.symm
    subst eG13
    refine y_blk 0 tq_X0_fogAt (z := (16, [(0, .ref (ad 5)), (1, .int minute), (2, .int v7_2), (3, .int v7_3), (4, .int v7_4)], [.int (σ.1 3), .int v7_4])) rfl ?_
    refine y_icmp_ge tq_X0_fogAt 61 rfl rfl (fun c16 => ?_) (fun c16 => ?_)
    · skip
      refine y_blk 1 tq_X0_fogAt (z := (62, [(0, .ref (ad 5)), (1, .int minute), (2, .int v7_2), (3, .int v7_3), (4, .int v7_4)], [.int v7_3])) rfl ?_
      exact y_iret tq_X0_fogAt rfl rfl (⟨congrArg (fun z => some (Value.int z)) (congrArg Prod.snd (itI_e ea7 hh7 c16)), rfl⟩)
    · skip
      refine y_blk 1 tq_X0_fogAt (z := (20, [(0, .ref (ad 5)), (1, .int minute), (2, .int v7_2), (3, .int v7_3), (4, .int v7_4)], [.ref (ad 5)])) rfl ?_
      refine y_get hS tq_X0_fogAt (v := .ref (ad 106)) rfl fg_X0_16_X0 (hX.1 5 _ rfl) rfl ?_
      refine y_blk 1 tq_X0_fogAt (z := (25, [(0, .ref (ad 5)), (1, .int minute), (2, .int v7_2), (3, .int v7_3), (4, .int v7_4)], [.int v7_4, .ref (ad 106)])) rfl ?_
      refine y_callV hS tq_X0_fogAt rfl (As := [.int v7_4]) rfl cv_X0_37 (hX.num (k := 3) (by decide)) (m_X5_at hS hX (k := 3) (by decide) v7_4) rfl (by decide) (Nat.le_of_ble_eq_true rfl) (fun r25 Gc25 q25 => ?_) (fun E9 G9 h9 => h9.elim)
      obtain ⟨rfl, eG25⟩ := q25
      have eG25 := eG25.symm
      subst eG25
      refine y_blk 3 tq_X0_fogAt (z := (33, [(5, .int (xat σ 3 v7_4)), (0, .ref (ad 5)), (1, .int minute), (2, .int v7_2), (3, .int v7_3), (4, .int v7_4)], [.int minute, .int (xat σ 3 v7_4)])) rfl ?_
      refine y_icmp_gt tq_X0_fogAt 55 rfl rfl (fun c33 => ?_) (fun c33 => ?_)
      · skip
        refine y_blk 2 tq_X0_fogAt (z := (7, [(4, .int (v7_4 + 1)), (5, .int (xat σ 3 v7_4)), (0, .ref (ad 5)), (1, .int minute), (2, .int v7_2), (3, .int v7_3)], [])) rfl ?_
        refine y_pick (L2 := [(0, .ref (ad 5)), (1, .int minute), (2, .int v7_2), (3, .int v7_3), (4, .int (v7_4 + 1))]) [2, 3, 4, 5, 0] rfl ?_
        exact ih7 _ (by exact ydec c16) v7_2 v7_3 (v7_4 + 1) (by first | exact xcn_step hh7 c16 | exact xcn_init (hX.2.1 3).1) (by first | exact itI_s ea7 hh7 c16 (by unfold xfgF; first | rw [if_pos (by assumption)] | rw [if_neg (by assumption), if_pos (by assumption)] | rw [if_neg (by assumption), if_neg (by assumption)]) | with_reducible exact itI_0) rfl
      · skip
        refine y_blk 2 tq_X0_fogAt (z := (39, [(5, .int (xat σ 3 v7_4)), (0, .ref (ad 5)), (1, .int minute), (2, .int v7_2), (3, .int v7_3), (4, .int v7_4)], [.int v7_2, .int (xat σ 3 v7_4)])) rfl ?_
        refine y_icmp_lt tq_X0_fogAt 55 rfl rfl (fun c39 => ?_) (fun c39 => ?_)
        · skip
          refine y_blk 2 tq_X0_fogAt (z := (7, [(4, .int (v7_4 + 1)), (5, .int (xat σ 3 v7_4)), (0, .ref (ad 5)), (1, .int minute), (2, .int v7_2), (3, .int v7_3)], [])) rfl ?_
          refine y_pick (L2 := [(0, .ref (ad 5)), (1, .int minute), (2, .int v7_2), (3, .int v7_3), (4, .int (v7_4 + 1))]) [2, 3, 4, 5, 0] rfl ?_
          exact ih7 _ (by exact ydec c16) v7_2 v7_3 (v7_4 + 1) (by first | exact xcn_step hh7 c16 | exact xcn_init (hX.2.1 3).1) (by first | exact itI_s ea7 hh7 c16 (by unfold xfgF; first | rw [if_pos (by assumption)] | rw [if_neg (by assumption), if_pos (by assumption)] | rw [if_neg (by assumption), if_neg (by assumption)]) | with_reducible exact itI_0) rfl
        · skip
          refine y_blk 3 tq_X0_fogAt (z := (46, [(2, .int (xat σ 3 v7_4)), (5, .int (xat σ 3 v7_4)), (0, .ref (ad 5)), (1, .int minute), (3, .int v7_3), (4, .int v7_4)], [.ref (ad 5)])) rfl ?_
          refine y_get hS tq_X0_fogAt (v := .ref (ad 108)) rfl fg_X0_20_X0 (hX.1 5 _ rfl) rfl ?_
          refine y_blk 1 tq_X0_fogAt (z := (51, [(2, .int (xat σ 3 v7_4)), (5, .int (xat σ 3 v7_4)), (0, .ref (ad 5)), (1, .int minute), (3, .int v7_3), (4, .int v7_4)], [.int v7_4, .ref (ad 108)])) rfl ?_
          refine y_callV hS tq_X0_fogAt rfl (As := [.int v7_4]) rfl cv_X0_37 (hX.num (k := 4) (by decide)) (m_X5_at hS hX (k := 4) (by decide) v7_4) rfl (by decide) (Nat.le_of_ble_eq_true rfl) (fun r51 Gc51 q51 => ?_) (fun E9 G9 h9 => h9.elim)
          obtain ⟨rfl, eG51⟩ := q51
          have eG51 := eG51.symm
          subst eG51
          refine y_blk 3 tq_X0_fogAt (z := (7, [(4, .int (v7_4 + 1)), (3, .int (xat σ 4 v7_4)), (2, .int (xat σ 3 v7_4)), (5, .int (xat σ 3 v7_4)), (0, .ref (ad 5)), (1, .int minute)], [])) rfl ?_
          refine y_pick (L2 := [(0, .ref (ad 5)), (1, .int minute), (2, .int (xat σ 3 v7_4)), (3, .int (xat σ 4 v7_4)), (4, .int (v7_4 + 1))]) [4, 5, 2, 1, 0] rfl ?_
          exact ih7 _ (by exact ydec c16) (xat σ 3 v7_4) (xat σ 4 v7_4) (v7_4 + 1) (by first | exact xcn_step hh7 c16 | exact xcn_init (hX.2.1 3).1) (by first | exact itI_s ea7 hh7 c16 (by unfold xfgF; first | rw [if_pos (by assumption)] | rw [if_neg (by assumption), if_pos (by assumption)] | rw [if_neg (by assumption), if_neg (by assumption)]) | with_reducible exact itI_0) rfl
  refine y_blk 6 tq_X0_fogAt (z := (7, [(4, .int 0), (3, .int 0), (2, .int (-1)), (0, .ref (ad 5)), (1, .int minute)], [])) rfl ?_
  refine y_pick (L2 := [(0, .ref (ad 5)), (1, .int minute), (2, .int (-1)), (3, .int 0), (4, .int 0)]) [3, 4, 2, 1, 0] rfl ?_
  exact J7 _ (-1) 0 0 (by first | exact xcn_step hh7 c16 | exact xcn_init (hX.2.1 3).1) (by first | exact itI_s ea7 hh7 c16 (by unfold xfgF; first | rw [if_pos (by assumption)] | rw [if_neg (by assumption), if_pos (by assumption)] | rw [if_neg (by assumption), if_neg (by assumption)]) | with_reducible exact itI_0) rfl
set_option maxHeartbeats 4000000 in
set_option maxRecDepth 100000 in
theorem m_X2_isTired_v {l : Launch} {S0 : State} {A0 : Array Value} {D : va_G} {aC : Nat → ClassId} {ad : Nat → Nat} {G : AH} {σ : XS} (hS : yS l S0 A0 D aC) (hX : atX aC ad G σ) (guard : Int32) (minute : Int32) : yM l S0 D yX2_isTired cX2_isTired 3 (some .boolean) 11 0 0 [.ref (ad 6), .int guard, .int minute] G (fun r G1 => r = some (.int (if 90 ≤ minute - xat σ 5 guard then 1 else 0)) ∧ G1 = G) (fun _ _ => False) := by
  refine yM.ofK K_X2_isTired rfl (by decide) (Nat.le_of_ble_eq_true rfl) ?_
  refine y_blk 2 tq_X2_isTired (z := (2, [(0, .ref (ad 6)), (1, .int guard), (2, .int minute)], [.ref (ad 6), .int minute])) rfl ?_
  refine y_get hS tq_X2_isTired (v := .ref (ad 110)) rfl fg_X2_14_X2 (hX.1 6 _ rfl) rfl ?_
  refine y_blk 1 tq_X2_isTired (z := (6, [(0, .ref (ad 6)), (1, .int guard), (2, .int minute)], [.int guard, .ref (ad 110), .int minute])) rfl ?_
  refine y_callV hS tq_X2_isTired rfl (As := [.int guard]) rfl cv_X2_53 (hX.num (k := 5) (by decide)) (m_X5_at hS hX (k := 5) (by decide) guard) rfl (by decide) (Nat.le_of_ble_eq_true rfl) (fun r6 Gc6 q6 => ?_) (fun E9 G9 h9 => h9.elim)
  obtain ⟨rfl, eG6⟩ := q6
  have eG6 := eG6.symm
  subst eG6
  refine y_blk 2 tq_X2_isTired (z := (12, [(0, .ref (ad 6)), (1, .int guard), (2, .int minute)], [.int 90, .int (minute - (xat σ 5 guard))])) rfl ?_
  refine y_icmp_lt tq_X2_isTired 19 rfl rfl (fun c12 => ?_) (fun c12 => ?_)
  · skip
    refine y_blk 1 tq_X2_isTired (z := (20, [(0, .ref (ad 6)), (1, .int guard), (2, .int minute)], [.int 0])) rfl ?_
    exact y_zret tq_X2_isTired rfl rfl (rfl) (⟨by first | rfl | (congr 2; (repeat' split) <;> first | rfl | (exfalso; simp only [ylt, yle, yeqI, yl_m1, yl_0, yl_1, yl_2, yl_3, yl_4, yl_5, yl_6, yl_7, yl_8, yl_9, yl_10, yl_11, yl_12, yl_15, yl_16, yl_20, yl_60, yl_64, yl_90, yl_97, yl_99, yl_100, yl_120, yl_239, yl_240] at *; omega)), rfl⟩)
  · skip
    refine y_blk 2 tq_X2_isTired (z := (20, [(0, .ref (ad 6)), (1, .int guard), (2, .int minute)], [.int 1])) rfl ?_
    exact y_zret tq_X2_isTired rfl rfl (rfl) (⟨by first | rfl | (congr 2; (repeat' split) <;> first | rfl | (exfalso; simp only [ylt, yle, yeqI, yl_m1, yl_0, yl_1, yl_2, yl_3, yl_4, yl_5, yl_6, yl_7, yl_8, yl_9, yl_10, yl_11, yl_12, yl_15, yl_16, yl_20, yl_60, yl_64, yl_90, yl_97, yl_99, yl_100, yl_120, yl_239, yl_240] at *; omega)), rfl⟩)
set_option maxHeartbeats 4000000 in
set_option maxRecDepth 100000 in
theorem m_X8_sightOf_v {l : Launch} {S0 : State} {A0 : Array Value} {D : va_G} {aC : Nat → ClassId} {ad : Nat → Nat} {G : AH} {σ : XS} (hS : yS l S0 A0 D aC) (hX : atX aC ad G σ) (guard : Int32) (minute : Int32) (bright : Int64) (hg : guard.toInt < 1000) (hg0 : guard = -1 ∨ 0 ≤ guard.toInt) : yM l S0 D yX8_sightOf cX8_sightOf 13 (some .long) 12 0 0 [.ref (ad 1), .int guard, .int minute, .long bright] G (fun r G1 => r = some (.long (xsgV σ guard minute bright)) ∧ G1 = G) (fun _ _ => False) := by
  refine yM.ofK K_X8_sightOf rfl (by decide) (Nat.le_of_ble_eq_true rfl) ?_
  have J49 : ∀ (n49 : Nat) (v49_5 : Int32) (v49_6 : Int32) (v49_7 : Int32) (v49_8 : Int64) (v49_10 : Int32) (hl49 : v49_7.toInt < 1000 ∧ v49_5 = xfog σ minute ∧ v49_6 = xg0 guard ∧ v49_7 = xg1 σ guard) (hs49 : (0 ≤ v49_6.toInt ∧ v49_6.toInt ≤ v49_10.toInt ∧ v49_10.toInt ≤ v49_7.toInt + 1) ∧ xsgI σ minute bright v49_8 v49_6 v49_10), (v49_7.toInt + 1 - v49_10.toInt).toNat = n49 → Y l S0 D K_X8_sightOf 12 0 0 (fun r G1 => r = some (.long (xsgV σ guard minute bright)) ∧ G1 = G) (fun _ _ => False) 49 [(0, .ref (ad 1)), (1, .int guard), (2, .int minute), (3, .long bright), (5, .int v49_5), (6, .int v49_6), (7, .int v49_7), (8, .long v49_8), (10, .int v49_10)] [] G 0 0 := by
    intro n49
    induction n49 using Nat.strongRecOn with
    | _ n49 ih49 =>
    intro v49_5 v49_6 v49_7 v49_8 v49_10 hl49 hs49 hn49
    subst hn49
    refine y_blk 2 tq_X8_sightOf (z := (53, [(0, .ref (ad 1)), (1, .int guard), (2, .int minute), (3, .long bright), (5, .int v49_5), (6, .int v49_6), (7, .int v49_7), (8, .long v49_8), (10, .int v49_10)], [.int v49_7, .int v49_10])) rfl ?_
    refine y_icmp_gt tq_X8_sightOf 141 rfl rfl (fun c53 => ?_) (fun c53 => ?_)
    · skip
      refine y_blk 1 tq_X8_sightOf (z := (143, [(0, .ref (ad 1)), (1, .int guard), (2, .int minute), (3, .long bright), (5, .int v49_5), (6, .int v49_6), (7, .int v49_7), (8, .long v49_8), (10, .int v49_10)], [.long v49_8])) rfl ?_
      exact y_lret tq_X8_sightOf rfl rfl (⟨congrArg (fun z => some (Value.long z)) (xsg_v (xsgI_e hl49 hs49 c53)), rfl⟩)
    · skip
      refine y_blk 1 tq_X8_sightOf (z := (57, [(0, .ref (ad 1)), (1, .int guard), (2, .int minute), (3, .long bright), (5, .int v49_5), (6, .int v49_6), (7, .int v49_7), (8, .long v49_8), (10, .int v49_10)], [.ref (ad 1)])) rfl ?_
      refine y_get hS tq_X8_sightOf (v := .ref (ad 6)) rfl fg_X8_33_X8 (hX.1 1 _ rfl) rfl ?_
      refine y_blk 2 tq_X8_sightOf (z := (63, [(0, .ref (ad 1)), (1, .int guard), (2, .int minute), (3, .long bright), (5, .int v49_5), (6, .int v49_6), (7, .int v49_7), (8, .long v49_8), (10, .int v49_10)], [.int minute, .int v49_10, .ref (ad 6)])) rfl ?_
      refine y_callV hS tq_X8_sightOf rfl (As := [.int v49_10, .int minute]) rfl cv_X8_196 (hX.1 6 _ rfl) (m_X2_standAt_ok hS hX v49_10 minute) rfl (by decide) (Nat.le_of_ble_eq_true rfl) (fun r63 Gc63 q63 => ?_) (fun E9 G9 h9 => h9.elim)
      obtain ⟨rfl, eG63⟩ := q63
      have eG63 := eG63.symm
      subst eG63
      refine y_blk 2 tq_X8_sightOf (z := (69, [(11, .int (xsta σ v49_10 minute)), (0, .ref (ad 1)), (1, .int guard), (2, .int minute), (3, .long bright), (5, .int v49_5), (6, .int v49_6), (7, .int v49_7), (8, .long v49_8), (10, .int v49_10)], [.ref (ad 1)])) rfl ?_
      refine y_get hS tq_X8_sightOf (v := .ref (ad 6)) rfl fg_X8_33_X8 (hX.1 1 _ rfl) rfl ?_
      refine y_blk 2 tq_X8_sightOf (z := (75, [(11, .int (xsta σ v49_10 minute)), (0, .ref (ad 1)), (1, .int guard), (2, .int minute), (3, .long bright), (5, .int v49_5), (6, .int v49_6), (7, .int v49_7), (8, .long v49_8), (10, .int v49_10)], [.int minute, .int v49_10, .ref (ad 6)])) rfl ?_
      refine y_callV hS tq_X8_sightOf rfl (As := [.int v49_10, .int minute]) rfl cv_X8_450 (hX.1 6 _ rfl) (m_X2_isTired_v hS hX v49_10 minute) rfl (by decide) (Nat.le_of_ble_eq_true rfl) (fun r75 Gc75 q75 => ?_) (fun E9 G9 h9 => h9.elim)
      obtain ⟨rfl, eG75⟩ := q75
      have eG75 := eG75.symm
      subst eG75
      refine y_blk 0 tq_X8_sightOf (z := (78, [(11, .int (xsta σ v49_10 minute)), (0, .ref (ad 1)), (1, .int guard), (2, .int minute), (3, .long bright), (5, .int v49_5), (6, .int v49_6), (7, .int v49_7), (8, .long v49_8), (10, .int v49_10)], [.int (if 90 ≤ minute - xat σ 5 v49_10 then 1 else 0)])) rfl ?_
      refine y_if_eq tq_X8_sightOf 85 rfl rfl (fun c78 => ?_) (fun c78 => ?_)
      · skip
        refine y_blk 4 tq_X8_sightOf (z := (91, [(12, .int 0), (11, .int (xsta σ v49_10 minute)), (0, .ref (ad 1)), (1, .int guard), (2, .int minute), (3, .long bright), (5, .int v49_5), (6, .int v49_6), (7, .int v49_7), (8, .long v49_8), (10, .int v49_10)], [.ref (ad 1), .long v49_8])) rfl ?_
        refine y_get hS tq_X8_sightOf (v := .ref (ad 2)) rfl fg_X8_10_X8 (hX.1 1 _ rfl) rfl ?_
        refine y_blk 4 tq_X8_sightOf (z := (100, [(12, .int 0), (11, .int (xsta σ v49_10 minute)), (0, .ref (ad 1)), (1, .int guard), (2, .int minute), (3, .long bright), (5, .int v49_5), (6, .int v49_6), (7, .int v49_7), (8, .long v49_8), (10, .int v49_10)], [.int 2, .int v49_5, .int 2, .int (xsta σ v49_10 minute), .ref (ad 2), .long v49_8])) rfl ?_
        refine y_idiv tq_X8_sightOf rfl (by decide) ?_
        refine y_blk 3 tq_X8_sightOf (z := (105, [(12, .int 0), (11, .int (xsta σ v49_10 minute)), (0, .ref (ad 1)), (1, .int guard), (2, .int minute), (3, .long bright), (5, .int v49_5), (6, .int v49_6), (7, .int v49_7), (8, .long v49_8), (10, .int v49_10)], [.int ((2 - (v49_5 / 2)) - 0), .int (xsta σ v49_10 minute), .ref (ad 2), .long v49_8])) rfl ?_
        refine y_callV hS tq_X8_sightOf rfl (As := [.int (xsta σ v49_10 minute), .int ((2 - (v49_5 / 2)) - 0)]) rfl cv_X8_454 (hX.1 2 _ rfl) (m_X1_viewOf_v hS hX (xsta σ v49_10 minute) ((2 - (v49_5 / 2)) - 0)) rfl (by decide) (Nat.le_of_ble_eq_true rfl) (fun r105 Gc105 q105 => ?_) (fun E9 G9 h9 => h9.elim)
        obtain ⟨rfl, eG105⟩ := q105
        have eG105 := eG105.symm
        subst eG105
        refine y_blk 4 tq_X8_sightOf (z := (114, [(8, .long (v49_8 ||| (xvo σ (xsta σ v49_10 minute) ((2 - (v49_5 / 2)) - 0)))), (12, .int 0), (11, .int (xsta σ v49_10 minute)), (0, .ref (ad 1)), (1, .int guard), (2, .int minute), (3, .long bright), (5, .int v49_5), (6, .int v49_6), (7, .int v49_7), (10, .int v49_10)], [.ref (ad 1), .long (v49_8 ||| (xvo σ (xsta σ v49_10 minute) ((2 - (v49_5 / 2)) - 0)))])) rfl ?_
        refine y_get hS tq_X8_sightOf (v := .ref (ad 2)) rfl fg_X8_10_X8 (hX.1 1 _ rfl) rfl ?_
        refine y_blk 6 tq_X8_sightOf (z := (127, [(8, .long (v49_8 ||| (xvo σ (xsta σ v49_10 minute) ((2 - (v49_5 / 2)) - 0)))), (12, .int 0), (11, .int (xsta σ v49_10 minute)), (0, .ref (ad 1)), (1, .int guard), (2, .int minute), (3, .long bright), (5, .int v49_5), (6, .int v49_6), (7, .int v49_7), (10, .int v49_10)], [.int ((7 - v49_5) - 0), .int (xsta σ v49_10 minute), .ref (ad 2), .long (v49_8 ||| (xvo σ (xsta σ v49_10 minute) ((2 - (v49_5 / 2)) - 0)))])) rfl ?_
        refine y_callV hS tq_X8_sightOf rfl (As := [.int (xsta σ v49_10 minute), .int ((7 - v49_5) - 0)]) rfl cv_X8_454 (hX.1 2 _ rfl) (m_X1_viewOf_v hS hX (xsta σ v49_10 minute) ((7 - v49_5) - 0)) rfl (by decide) (Nat.le_of_ble_eq_true rfl) (fun r127 Gc127 q127 => ?_) (fun E9 G9 h9 => h9.elim)
        obtain ⟨rfl, eG127⟩ := q127
        have eG127 := eG127.symm
        subst eG127
        refine y_blk 6 tq_X8_sightOf (z := (49, [(10, .int (v49_10 + 1)), (8, .long ((v49_8 ||| (xvo σ (xsta σ v49_10 minute) ((2 - (v49_5 / 2)) - 0))) ||| ((xvo σ (xsta σ v49_10 minute) ((7 - v49_5) - 0)) &&& bright))), (12, .int 0), (11, .int (xsta σ v49_10 minute)), (0, .ref (ad 1)), (1, .int guard), (2, .int minute), (3, .long bright), (5, .int v49_5), (6, .int v49_6), (7, .int v49_7)], [])) rfl ?_
        refine y_pick (L2 := [(0, .ref (ad 1)), (1, .int guard), (2, .int minute), (3, .long bright), (5, .int v49_5), (6, .int v49_6), (7, .int v49_7), (8, .long ((v49_8 ||| (xvo σ (xsta σ v49_10 minute) ((2 - (v49_5 / 2)) - 0))) ||| ((xvo σ (xsta σ v49_10 minute) ((7 - v49_5) - 0)) &&& bright))), (10, .int (v49_10 + 1))]) [4, 5, 6, 7, 8, 9, 10, 1, 0] rfl ?_
        exact ih49 _ (by exact ydec2 c53 (by have := hl49.1; omega)) v49_5 v49_6 v49_7 ((v49_8 ||| (xvo σ (xsta σ v49_10 minute) ((2 - (v49_5 / 2)) - 0))) ||| ((xvo σ (xsta σ v49_10 minute) ((7 - v49_5) - 0)) &&& bright)) (v49_10 + 1) (by first | exact hl49 | exact ⟨(by have h5 := hX.2.1 5; have h6 := xcap_le 5; rw [ysub (by rw [yl_1]; omega) (by rw [yl_1]; omega), yl_1]; omega), rfl, (if_pos c12).symm, (if_pos c12).symm⟩ | exact ⟨hg, rfl, (if_neg c12).symm, (if_neg c12).symm⟩ | exact absurd c24 c12 | exact absurd c12 c24) (by first | (have z9 : xles σ v49_10 minute = 0 := (by unfold xles; exact if_neg ((yif0 _).mp c78)); exact xsgI_s hs49 hl49.1 c53 hl49.2.1 z9.symm rfl rfl) | (have z9 : xles σ v49_10 minute = 1 := (by unfold xles; exact if_pos (Classical.not_not.mp (fun q => c78 ((yif0 _).mpr q)))); exact xsgI_s hs49 hl49.1 c53 hl49.2.1 z9.symm rfl rfl) | exact ⟨⟨by decide, Int.le_refl _, (by have h5 := hX.2.1 5; have h6 := xcap_le 5; rw [ysub (by rw [yl_1]; omega) (by rw [yl_1]; omega), yl_1, yl_0]; omega)⟩, xsgI_0⟩ | exact ⟨⟨hg0.resolve_left c12, Int.le_refl _, by omega⟩, xsgI_0⟩ | exact absurd c24 c12 | exact absurd c12 c24) rfl
      · skip
        refine y_blk 5 tq_X8_sightOf (z := (91, [(12, .int 1), (11, .int (xsta σ v49_10 minute)), (0, .ref (ad 1)), (1, .int guard), (2, .int minute), (3, .long bright), (5, .int v49_5), (6, .int v49_6), (7, .int v49_7), (8, .long v49_8), (10, .int v49_10)], [.ref (ad 1), .long v49_8])) rfl ?_
        refine y_get hS tq_X8_sightOf (v := .ref (ad 2)) rfl fg_X8_10_X8 (hX.1 1 _ rfl) rfl ?_
        refine y_blk 4 tq_X8_sightOf (z := (100, [(12, .int 1), (11, .int (xsta σ v49_10 minute)), (0, .ref (ad 1)), (1, .int guard), (2, .int minute), (3, .long bright), (5, .int v49_5), (6, .int v49_6), (7, .int v49_7), (8, .long v49_8), (10, .int v49_10)], [.int 2, .int v49_5, .int 2, .int (xsta σ v49_10 minute), .ref (ad 2), .long v49_8])) rfl ?_
        refine y_idiv tq_X8_sightOf rfl (by decide) ?_
        refine y_blk 3 tq_X8_sightOf (z := (105, [(12, .int 1), (11, .int (xsta σ v49_10 minute)), (0, .ref (ad 1)), (1, .int guard), (2, .int minute), (3, .long bright), (5, .int v49_5), (6, .int v49_6), (7, .int v49_7), (8, .long v49_8), (10, .int v49_10)], [.int ((2 - (v49_5 / 2)) - 1), .int (xsta σ v49_10 minute), .ref (ad 2), .long v49_8])) rfl ?_
        refine y_callV hS tq_X8_sightOf rfl (As := [.int (xsta σ v49_10 minute), .int ((2 - (v49_5 / 2)) - 1)]) rfl cv_X8_454 (hX.1 2 _ rfl) (m_X1_viewOf_v hS hX (xsta σ v49_10 minute) ((2 - (v49_5 / 2)) - 1)) rfl (by decide) (Nat.le_of_ble_eq_true rfl) (fun r105 Gc105 q105 => ?_) (fun E9 G9 h9 => h9.elim)
        obtain ⟨rfl, eG105⟩ := q105
        have eG105 := eG105.symm
        subst eG105
        refine y_blk 4 tq_X8_sightOf (z := (114, [(8, .long (v49_8 ||| (xvo σ (xsta σ v49_10 minute) ((2 - (v49_5 / 2)) - 1)))), (12, .int 1), (11, .int (xsta σ v49_10 minute)), (0, .ref (ad 1)), (1, .int guard), (2, .int minute), (3, .long bright), (5, .int v49_5), (6, .int v49_6), (7, .int v49_7), (10, .int v49_10)], [.ref (ad 1), .long (v49_8 ||| (xvo σ (xsta σ v49_10 minute) ((2 - (v49_5 / 2)) - 1)))])) rfl ?_
        refine y_get hS tq_X8_sightOf (v := .ref (ad 2)) rfl fg_X8_10_X8 (hX.1 1 _ rfl) rfl ?_
        refine y_blk 6 tq_X8_sightOf (z := (127, [(8, .long (v49_8 ||| (xvo σ (xsta σ v49_10 minute) ((2 - (v49_5 / 2)) - 1)))), (12, .int 1), (11, .int (xsta σ v49_10 minute)), (0, .ref (ad 1)), (1, .int guard), (2, .int minute), (3, .long bright), (5, .int v49_5), (6, .int v49_6), (7, .int v49_7), (10, .int v49_10)], [.int ((7 - v49_5) - 1), .int (xsta σ v49_10 minute), .ref (ad 2), .long (v49_8 ||| (xvo σ (xsta σ v49_10 minute) ((2 - (v49_5 / 2)) - 1)))])) rfl ?_
        refine y_callV hS tq_X8_sightOf rfl (As := [.int (xsta σ v49_10 minute), .int ((7 - v49_5) - 1)]) rfl cv_X8_454 (hX.1 2 _ rfl) (m_X1_viewOf_v hS hX (xsta σ v49_10 minute) ((7 - v49_5) - 1)) rfl (by decide) (Nat.le_of_ble_eq_true rfl) (fun r127 Gc127 q127 => ?_) (fun E9 G9 h9 => h9.elim)
        obtain ⟨rfl, eG127⟩ := q127
        have eG127 := eG127.symm
        subst eG127
        refine y_blk 6 tq_X8_sightOf (z := (49, [(10, .int (v49_10 + 1)), (8, .long ((v49_8 ||| (xvo σ (xsta σ v49_10 minute) ((2 - (v49_5 / 2)) - 1))) ||| ((xvo σ (xsta σ v49_10 minute) ((7 - v49_5) - 1)) &&& bright))), (12, .int 1), (11, .int (xsta σ v49_10 minute)), (0, .ref (ad 1)), (1, .int guard), (2, .int minute), (3, .long bright), (5, .int v49_5), (6, .int v49_6), (7, .int v49_7)], [])) rfl ?_
        refine y_pick (L2 := [(0, .ref (ad 1)), (1, .int guard), (2, .int minute), (3, .long bright), (5, .int v49_5), (6, .int v49_6), (7, .int v49_7), (8, .long ((v49_8 ||| (xvo σ (xsta σ v49_10 minute) ((2 - (v49_5 / 2)) - 1))) ||| ((xvo σ (xsta σ v49_10 minute) ((7 - v49_5) - 1)) &&& bright))), (10, .int (v49_10 + 1))]) [4, 5, 6, 7, 8, 9, 10, 1, 0] rfl ?_
        exact ih49 _ (by exact ydec2 c53 (by have := hl49.1; omega)) v49_5 v49_6 v49_7 ((v49_8 ||| (xvo σ (xsta σ v49_10 minute) ((2 - (v49_5 / 2)) - 1))) ||| ((xvo σ (xsta σ v49_10 minute) ((7 - v49_5) - 1)) &&& bright)) (v49_10 + 1) (by first | exact hl49 | exact ⟨(by have h5 := hX.2.1 5; have h6 := xcap_le 5; rw [ysub (by rw [yl_1]; omega) (by rw [yl_1]; omega), yl_1]; omega), rfl, (if_pos c12).symm, (if_pos c12).symm⟩ | exact ⟨hg, rfl, (if_neg c12).symm, (if_neg c12).symm⟩ | exact absurd c24 c12 | exact absurd c12 c24) (by first | (have z9 : xles σ v49_10 minute = 0 := (by unfold xles; exact if_neg ((yif0 _).mp c78)); exact xsgI_s hs49 hl49.1 c53 hl49.2.1 z9.symm rfl rfl) | (have z9 : xles σ v49_10 minute = 1 := (by unfold xles; exact if_pos (Classical.not_not.mp (fun q => c78 ((yif0 _).mpr q)))); exact xsgI_s hs49 hl49.1 c53 hl49.2.1 z9.symm rfl rfl) | exact ⟨⟨by decide, Int.le_refl _, (by have h5 := hX.2.1 5; have h6 := xcap_le 5; rw [ysub (by rw [yl_1]; omega) (by rw [yl_1]; omega), yl_1, yl_0]; omega)⟩, xsgI_0⟩ | exact ⟨⟨hg0.resolve_left c12, Int.le_refl _, by omega⟩, xsgI_0⟩ | exact absurd c24 c12 | exact absurd c12 c24) rfl
  refine y_blk 1 tq_X8_sightOf (z := (1, [(0, .ref (ad 1)), (1, .int guard), (2, .int minute), (3, .long bright)], [.ref (ad 1)])) rfl ?_
  refine y_get hS tq_X8_sightOf (v := .ref (ad 5)) rfl fg_X8_26_X8 (hX.1 1 _ rfl) rfl ?_
  refine y_blk 1 tq_X8_sightOf (z := (5, [(0, .ref (ad 1)), (1, .int guard), (2, .int minute), (3, .long bright)], [.int minute, .ref (ad 5)])) rfl ?_
  refine y_callV hS tq_X8_sightOf rfl (As := [.int minute]) rfl cv_X8_216 (hX.1 5 _ rfl) (m_X0_fogAt_v hS hX minute) rfl (by decide) (Nat.le_of_ble_eq_true rfl) (fun r5 Gc5 q5 => ?_) (fun E9 G9 h9 => h9.elim)
  obtain ⟨rfl, eG5⟩ := q5
  have eG5 := eG5.symm
  subst eG5
  refine y_blk 3 tq_X8_sightOf (z := (12, [(5, .int (xfog σ minute)), (0, .ref (ad 1)), (1, .int guard), (2, .int minute), (3, .long bright)], [.int (-1), .int guard])) rfl ?_
  refine y_icmp_ne tq_X8_sightOf 19 rfl rfl (fun c12 => ?_) (fun c12 => ?_)
  · skip
    refine y_blk 4 tq_X8_sightOf (z := (24, [(6, .int guard), (5, .int (xfog σ minute)), (0, .ref (ad 1)), (1, .int guard), (2, .int minute), (3, .long bright)], [.int (-1), .int guard])) rfl ?_
    refine y_icmp_ne tq_X8_sightOf 39 rfl rfl (fun c24 => ?_) (fun c24 => ?_)
    · skip
      refine y_blk 6 tq_X8_sightOf (z := (49, [(10, .int guard), (8, .long 0), (7, .int guard), (6, .int guard), (5, .int (xfog σ minute)), (0, .ref (ad 1)), (1, .int guard), (2, .int minute), (3, .long bright)], [])) rfl ?_
      refine y_pick (L2 := [(0, .ref (ad 1)), (1, .int guard), (2, .int minute), (3, .long bright), (5, .int (xfog σ minute)), (6, .int guard), (7, .int guard), (8, .long 0), (10, .int guard)]) [5, 6, 7, 8, 4, 3, 2, 1, 0] rfl ?_
      exact J49 _ (xfog σ minute) guard guard 0 guard (by first | exact hl49 | exact ⟨(by have h5 := hX.2.1 5; have h6 := xcap_le 5; rw [ysub (by rw [yl_1]; omega) (by rw [yl_1]; omega), yl_1]; omega), rfl, (if_pos c12).symm, (if_pos c12).symm⟩ | exact ⟨hg, rfl, (if_neg c12).symm, (if_neg c12).symm⟩ | exact absurd c24 c12 | exact absurd c12 c24) (by first | (have z9 : xles σ v49_10 minute = 0 := (by unfold xles; exact if_neg ((yif0 _).mp c78)); exact xsgI_s hs49 hl49.1 c53 hl49.2.1 z9.symm rfl rfl) | (have z9 : xles σ v49_10 minute = 1 := (by unfold xles; exact if_pos (Classical.not_not.mp (fun q => c78 ((yif0 _).mpr q)))); exact xsgI_s hs49 hl49.1 c53 hl49.2.1 z9.symm rfl rfl) | exact ⟨⟨by decide, Int.le_refl _, (by have h5 := hX.2.1 5; have h6 := xcap_le 5; rw [ysub (by rw [yl_1]; omega) (by rw [yl_1]; omega), yl_1, yl_0]; omega)⟩, xsgI_0⟩ | exact ⟨⟨hg0.resolve_left c12, Int.le_refl _, by omega⟩, xsgI_0⟩ | exact absurd c24 c12 | exact absurd c12 c24) rfl
    · skip
      refine y_blk 1 tq_X8_sightOf (z := (28, [(6, .int guard), (5, .int (xfog σ minute)), (0, .ref (ad 1)), (1, .int guard), (2, .int minute), (3, .long bright)], [.ref (ad 1)])) rfl ?_
      refine y_get hS tq_X8_sightOf (v := .ref (ad 6)) rfl fg_X8_33_X8 (hX.1 1 _ rfl) rfl ?_
      refine y_blk 0 tq_X8_sightOf (z := (31, [(6, .int guard), (5, .int (xfog σ minute)), (0, .ref (ad 1)), (1, .int guard), (2, .int minute), (3, .long bright)], [.ref (ad 6)])) rfl ?_
      refine y_callV hS tq_X8_sightOf rfl (As := []) rfl cv_X8_182 (hX.1 6 _ rfl) (m_X2_count hS hX ) rfl (by decide) (Nat.le_of_ble_eq_true rfl) (fun r31 Gc31 q31 => ?_) (fun E9 G9 h9 => h9.elim)
      obtain ⟨rfl, eG31⟩ := q31
      have eG31 := eG31.symm
      subst eG31
      refine y_blk 8 tq_X8_sightOf (z := (49, [(10, .int guard), (8, .long 0), (7, .int ((σ.1 5) - 1)), (6, .int guard), (5, .int (xfog σ minute)), (0, .ref (ad 1)), (1, .int guard), (2, .int minute), (3, .long bright)], [])) rfl ?_
      refine y_pick (L2 := [(0, .ref (ad 1)), (1, .int guard), (2, .int minute), (3, .long bright), (5, .int (xfog σ minute)), (6, .int guard), (7, .int ((σ.1 5) - 1)), (8, .long 0), (10, .int guard)]) [5, 6, 7, 8, 4, 3, 2, 1, 0] rfl ?_
      exact J49 _ (xfog σ minute) guard ((σ.1 5) - 1) 0 guard (by first | exact hl49 | exact ⟨(by have h5 := hX.2.1 5; have h6 := xcap_le 5; rw [ysub (by rw [yl_1]; omega) (by rw [yl_1]; omega), yl_1]; omega), rfl, (if_pos c12).symm, (if_pos c12).symm⟩ | exact ⟨hg, rfl, (if_neg c12).symm, (if_neg c12).symm⟩ | exact absurd c24 c12 | exact absurd c12 c24) (by first | (have z9 : xles σ v49_10 minute = 0 := (by unfold xles; exact if_neg ((yif0 _).mp c78)); exact xsgI_s hs49 hl49.1 c53 hl49.2.1 z9.symm rfl rfl) | (have z9 : xles σ v49_10 minute = 1 := (by unfold xles; exact if_pos (Classical.not_not.mp (fun q => c78 ((yif0 _).mpr q)))); exact xsgI_s hs49 hl49.1 c53 hl49.2.1 z9.symm rfl rfl) | exact ⟨⟨by decide, Int.le_refl _, (by have h5 := hX.2.1 5; have h6 := xcap_le 5; rw [ysub (by rw [yl_1]; omega) (by rw [yl_1]; omega), yl_1, yl_0]; omega)⟩, xsgI_0⟩ | exact ⟨⟨hg0.resolve_left c12, Int.le_refl _, by omega⟩, xsgI_0⟩ | exact absurd c24 c12 | exact absurd c12 c24) rfl
  · skip
    refine y_blk 5 tq_X8_sightOf (z := (24, [(6, .int 0), (5, .int (xfog σ minute)), (0, .ref (ad 1)), (1, .int guard), (2, .int minute), (3, .long bright)], [.int (-1), .int guard])) rfl ?_
    refine y_icmp_ne tq_X8_sightOf 39 rfl rfl (fun c24 => ?_) (fun c24 => ?_)
    · skip
      refine y_blk 6 tq_X8_sightOf (z := (49, [(10, .int 0), (8, .long 0), (7, .int guard), (6, .int 0), (5, .int (xfog σ minute)), (0, .ref (ad 1)), (1, .int guard), (2, .int minute), (3, .long bright)], [])) rfl ?_
      refine y_pick (L2 := [(0, .ref (ad 1)), (1, .int guard), (2, .int minute), (3, .long bright), (5, .int (xfog σ minute)), (6, .int 0), (7, .int guard), (8, .long 0), (10, .int 0)]) [5, 6, 7, 8, 4, 3, 2, 1, 0] rfl ?_
      exact J49 _ (xfog σ minute) 0 guard 0 0 (by first | exact hl49 | exact ⟨(by have h5 := hX.2.1 5; have h6 := xcap_le 5; rw [ysub (by rw [yl_1]; omega) (by rw [yl_1]; omega), yl_1]; omega), rfl, (if_pos c12).symm, (if_pos c12).symm⟩ | exact ⟨hg, rfl, (if_neg c12).symm, (if_neg c12).symm⟩ | exact absurd c24 c12 | exact absurd c12 c24) (by first | (have z9 : xles σ v49_10 minute = 0 := (by unfold xles; exact if_neg ((yif0 _).mp c78)); exact xsgI_s hs49 hl49.1 c53 hl49.2.1 z9.symm rfl rfl) | (have z9 : xles σ v49_10 minute = 1 := (by unfold xles; exact if_pos (Classical.not_not.mp (fun q => c78 ((yif0 _).mpr q)))); exact xsgI_s hs49 hl49.1 c53 hl49.2.1 z9.symm rfl rfl) | exact ⟨⟨by decide, Int.le_refl _, (by have h5 := hX.2.1 5; have h6 := xcap_le 5; rw [ysub (by rw [yl_1]; omega) (by rw [yl_1]; omega), yl_1, yl_0]; omega)⟩, xsgI_0⟩ | exact ⟨⟨hg0.resolve_left c12, Int.le_refl _, by omega⟩, xsgI_0⟩ | exact absurd c24 c12 | exact absurd c12 c24) rfl
    · skip
      refine y_blk 1 tq_X8_sightOf (z := (28, [(6, .int 0), (5, .int (xfog σ minute)), (0, .ref (ad 1)), (1, .int guard), (2, .int minute), (3, .long bright)], [.ref (ad 1)])) rfl ?_
      refine y_get hS tq_X8_sightOf (v := .ref (ad 6)) rfl fg_X8_33_X8 (hX.1 1 _ rfl) rfl ?_
      refine y_blk 0 tq_X8_sightOf (z := (31, [(6, .int 0), (5, .int (xfog σ minute)), (0, .ref (ad 1)), (1, .int guard), (2, .int minute), (3, .long bright)], [.ref (ad 6)])) rfl ?_
      refine y_callV hS tq_X8_sightOf rfl (As := []) rfl cv_X8_182 (hX.1 6 _ rfl) (m_X2_count hS hX ) rfl (by decide) (Nat.le_of_ble_eq_true rfl) (fun r31 Gc31 q31 => ?_) (fun E9 G9 h9 => h9.elim)
      obtain ⟨rfl, eG31⟩ := q31
      have eG31 := eG31.symm
      subst eG31
      refine y_blk 8 tq_X8_sightOf (z := (49, [(10, .int 0), (8, .long 0), (7, .int ((σ.1 5) - 1)), (6, .int 0), (5, .int (xfog σ minute)), (0, .ref (ad 1)), (1, .int guard), (2, .int minute), (3, .long bright)], [])) rfl ?_
      refine y_pick (L2 := [(0, .ref (ad 1)), (1, .int guard), (2, .int minute), (3, .long bright), (5, .int (xfog σ minute)), (6, .int 0), (7, .int ((σ.1 5) - 1)), (8, .long 0), (10, .int 0)]) [5, 6, 7, 8, 4, 3, 2, 1, 0] rfl ?_
      exact J49 _ (xfog σ minute) 0 ((σ.1 5) - 1) 0 0 (by first | exact hl49 | exact ⟨(by have h5 := hX.2.1 5; have h6 := xcap_le 5; rw [ysub (by rw [yl_1]; omega) (by rw [yl_1]; omega), yl_1]; omega), rfl, (if_pos c12).symm, (if_pos c12).symm⟩ | exact ⟨hg, rfl, (if_neg c12).symm, (if_neg c12).symm⟩ | exact absurd c24 c12 | exact absurd c12 c24) (by first | (have z9 : xles σ v49_10 minute = 0 := (by unfold xles; exact if_neg ((yif0 _).mp c78)); exact xsgI_s hs49 hl49.1 c53 hl49.2.1 z9.symm rfl rfl) | (have z9 : xles σ v49_10 minute = 1 := (by unfold xles; exact if_pos (Classical.not_not.mp (fun q => c78 ((yif0 _).mpr q)))); exact xsgI_s hs49 hl49.1 c53 hl49.2.1 z9.symm rfl rfl) | exact ⟨⟨by decide, Int.le_refl _, (by have h5 := hX.2.1 5; have h6 := xcap_le 5; rw [ysub (by rw [yl_1]; omega) (by rw [yl_1]; omega), yl_1, yl_0]; omega)⟩, xsgI_0⟩ | exact ⟨⟨hg0.resolve_left c12, Int.le_refl _, by omega⟩, xsgI_0⟩ | exact absurd c24 c12 | exact absurd c12 c24) rfl
set_option maxHeartbeats 4000000 in
set_option maxRecDepth 100000 in
theorem m_X8_watchedCells_v {l : Launch} {S0 : State} {A0 : Array Value} {D : va_G} {aC : Nat → ClassId} {ad : Nat → Nat} {G : AH} {σ : XS} (hS : yS l S0 A0 D aC) (hX : atX aC ad G σ) (minute : Int32) : yM l S0 D yX8_watchedCells cX8_watchedCells 2 (some .long) 13 0 0 [.ref (ad 1), .int minute] G (fun r G1 => r = some (.long (xsgV σ (-1) minute (xbri σ))) ∧ G1 = G) (fun _ _ => False) := by
  refine yM.ofK K_X8_watchedCells rfl (by decide) (Nat.le_of_ble_eq_true rfl) ?_
  refine y_blk 4 tq_X8_watchedCells (z := (4, [(0, .ref (ad 1)), (1, .int minute)], [.ref (ad 1), .int minute, .int (-1), .ref (ad 1)])) rfl ?_
  refine y_callV hS tq_X8_watchedCells rfl (As := []) rfl cv_X8_171 (hX.1 1 _ rfl) (m_X8_brightCells_v hS hX ) rfl (by decide) (Nat.le_of_ble_eq_true rfl) (fun r4 Gc4 q4 => ?_) (fun E9 G9 h9 => h9.elim)
  obtain ⟨rfl, eG4⟩ := q4
  have eG4 := eG4.symm
  subst eG4
  refine y_blk 0 tq_X8_watchedCells (z := (7, [(0, .ref (ad 1)), (1, .int minute)], [.long (xbri σ), .int minute, .int (-1), .ref (ad 1)])) rfl ?_
  refine y_callV hS tq_X8_watchedCells rfl (As := [.int (-1), .int minute, .long (xbri σ)]) rfl cv_X8_202 (hX.1 1 _ rfl) (m_X8_sightOf_v hS hX (-1) minute (xbri σ) (by decide) (Or.inl rfl)) rfl (by decide) (Nat.le_of_ble_eq_true rfl) (fun r7 Gc7 q7 => ?_) (fun E9 G9 h9 => h9.elim)
  obtain ⟨rfl, eG7⟩ := q7
  have eG7 := eG7.symm
  subst eG7
  refine y_blk 0 tq_X8_watchedCells (z := (10, [(0, .ref (ad 1)), (1, .int minute)], [.long (xsgV σ (-1) minute (xbri σ))])) rfl ?_
  exact y_lret tq_X8_watchedCells rfl rfl (⟨by first | rfl | (congr 2; (repeat' split) <;> first | rfl | (exfalso; simp only [ylt, yle, yeqI, yl_m1, yl_0, yl_1, yl_2, yl_3, yl_4, yl_5, yl_6, yl_7, yl_8, yl_9, yl_10, yl_11, yl_12, yl_15, yl_16, yl_20, yl_60, yl_64, yl_90, yl_97, yl_99, yl_100, yl_120, yl_239, yl_240] at *; omega)), rfl⟩)
set_option maxHeartbeats 4000000 in
set_option maxRecDepth 100000 in
theorem m_X8_light_v {l : Launch} {S0 : State} {A0 : Array Value} {D : va_G} {aC : Nat → ClassId} {ad : Nat → Nat} {G : AH} {σ : XS} (hS : yS l S0 A0 D aC) (hX : atX aC ad G σ) (lamp : Int32) (isLit : Int32) : yM l S0 D yX8_light cX8_light 3 (some .int) 13 1 6 [.ref (ad 1), .int lamp, .int isLit] G (fun r G1 => (r = some (.int (bcL (xbri (xput σ 2 lamp (if isLit = 0 then 0 else 1))))) ∧ (0 ≤ lamp ∧ lamp ≤ σ.1 0 - 1)) ∧ ∃ σ1 : XS, atX aC ad G1 σ1 ∧ keepX G G1 ∧ xfr [26] σ σ1 ∧ σ1 = xput σ 2 lamp (if isLit = 0 then 0 else 1)) (fun E G1 => ((E = "java/lang/IndexOutOfBoundsException" ∧ (¬ (0 ≤ lamp ∧ lamp ≤ σ.1 0 - 1)))) ∧ G1 = G) := by
  refine yM.ofK K_X8_light rfl (by decide) (Nat.le_of_ble_eq_true rfl) ?_
  refine y_blk 2 tq_X8_light (z := (2, [(0, .ref (ad 1)), (1, .int lamp), (2, .int isLit)], [.ref (ad 1), .int lamp])) rfl ?_
  refine y_get hS tq_X8_light (v := .ref (ad 4)) rfl fg_X8_19_X8 (hX.1 1 _ rfl) rfl ?_
  refine y_blk 0 tq_X8_light (z := (5, [(0, .ref (ad 1)), (1, .int lamp), (2, .int isLit)], [.ref (ad 4), .int lamp])) rfl ?_
  refine y_callV hS tq_X8_light rfl (As := []) rfl cv_X8_161 (hX.1 4 _ rfl) (m_X4_count hS hX ) rfl (by decide) (Nat.le_of_ble_eq_true rfl) (fun r5 Gc5 q5 => ?_) (fun E9 G9 h9 => h9.elim)
  obtain ⟨rfl, eG5⟩ := q5
  have eG5 := eG5.symm
  subst eG5
  refine y_blk 0 tq_X8_light (z := (8, [(0, .ref (ad 1)), (1, .int lamp), (2, .int isLit)], [.int (σ.1 0), .int lamp])) rfl ?_
  refine y_callS hS tq_X8_light rfl (As := [.int lamp, .int (σ.1 0)]) rfl cs_X8_164 (m_X8_needThere hS  lamp (σ.1 0)) rfl (by decide) (Nat.le_of_ble_eq_true rfl) (fun r8 Gc8 q8 => ?_) (fun E9 G9 h9 => ⟨(And.intro h9.1.1 (by first | exact h9.1.2 | exact absurd h9.1.2 (by decide) | exact absurd rfl hq2 | exact absurd rfl hq11 | exact absurd rfl hq19 | exact absurd rfl hq21 | exact absurd rfl hq24 | exact absurd rfl hq30 | exact absurd rfl hq35 | exact absurd rfl hq39 | exact absurd rfl hq40 | exact absurd rfl hq57 | exact absurd rfl hq45 | exact absurd rfl hq38 | exact absurd rfl hq34 | exact absurd rfl hq33 | exact absurd rfl hq29 | (have z9 := h9.1.2; clear h9; (repeat' apply And.intro) <;> first | (first | assumption | (simp only [yif0, Classical.not_not, ylt, yle, xcp0, xcp3, xcp5, xcp10, xcp12, xcp16, xcp22, yl_m1, yl_0, yl_1, yl_2, yl_3, yl_4, yl_5, yl_6, yl_7, yl_8, yl_9, yl_10, yl_11, yl_12, yl_15, yl_16, yl_20, yl_60, yl_64, yl_90, yl_97, yl_99, yl_100, yl_120, yl_239, yl_240] at *; first | omega | assumption | contradiction)) | (intro q9; (simp only [yif0, Classical.not_not, ylt, yle, xcp0, xcp3, xcp5, xcp10, xcp12, xcp16, xcp22, yl_m1, yl_0, yl_1, yl_2, yl_3, yl_4, yl_5, yl_6, yl_7, yl_8, yl_9, yl_10, yl_11, yl_12, yl_15, yl_16, yl_20, yl_60, yl_64, yl_90, yl_97, yl_99, yl_100, yl_120, yl_239, yl_240] at *; first | omega | contradiction | (obtain ⟨qa, qb⟩ := q9; contradiction)))))), h9.2⟩)
  obtain ⟨⟨rfl, hq8⟩, eG8⟩ := q8
  have eG8 := eG8.symm
  subst eG8
  refine y_blk 1 tq_X8_light (z := (12, [(0, .ref (ad 1)), (1, .int lamp), (2, .int isLit)], [.ref (ad 1)])) rfl ?_
  refine y_get hS tq_X8_light (v := .ref (ad 4)) rfl fg_X8_19_X8 (hX.1 1 _ rfl) rfl ?_
  refine y_blk 2 tq_X8_light (z := (17, [(0, .ref (ad 1)), (1, .int lamp), (2, .int isLit)], [.int isLit, .int lamp, .ref (ad 4)])) rfl ?_
  refine y_callV hS tq_X8_light rfl (As := [.int lamp, .int isLit]) rfl cv_X8_167 (hX.1 4 _ rfl) (m_X4_turn hS hX lamp isLit) rfl (by decide) (Nat.le_of_ble_eq_true rfl) (fun r17 Gc17 q17 => ?_) (fun E9 G9 h9 => h9.elim)
  obtain ⟨rfl, hXc17, hFc17⟩ := q17
  refine y_blk 1 tq_X8_light (z := (21, [(0, .ref (ad 1)), (1, .int lamp), (2, .int isLit)], [.ref (ad 1)])) rfl ?_
  refine y_callV hS tq_X8_light rfl (As := []) rfl cv_X8_171 (hXc17.1 1 _ rfl) (m_X8_brightCells_v hS hXc17 ) rfl (by decide) (Nat.le_of_ble_eq_true rfl) (fun r21 Gc21 q21 => ?_) (fun E9 G9 h9 => h9.elim)
  obtain ⟨rfl, eG21⟩ := q21
  have eG21 := eG21.symm
  subst eG21
  refine y_blk 0 tq_X8_light (z := (24, [(0, .ref (ad 1)), (1, .int lamp), (2, .int isLit)], [.long (xbri ((xput σ 2 lamp (if isLit = 0 then 0 else 1))))])) rfl ?_
  refine y_callS hS tq_X8_light rfl (As := [.long (xbri ((xput σ 2 lamp (if isLit = 0 then 0 else 1))))]) rfl cs_X8_108 (m_J13_bitCount_95d88 hS  (xbri ((xput σ 2 lamp (if isLit = 0 then 0 else 1))))) rfl (by decide) (Nat.le_of_ble_eq_true rfl) (fun r24 Gc24 q24 => ?_) (fun E9 G9 h9 => h9.elim)
  obtain ⟨rfl, eG24⟩ := q24
  have eG24 := eG24.symm
  subst eG24
  refine y_blk 0 tq_X8_light (z := (27, [(0, .ref (ad 1)), (1, .int lamp), (2, .int isLit)], [.int (bcL (xbri ((xput σ 2 lamp (if isLit = 0 then 0 else 1)))))])) rfl ?_
  exact y_iret tq_X8_light rfl rfl (⟨⟨rfl, (by first | exact absurd rfl hq2 | exact absurd rfl hq11 | exact absurd rfl hq19 | exact absurd rfl hq21 | exact absurd rfl hq24 | exact absurd rfl hq30 | exact absurd rfl hq35 | exact absurd rfl hq39 | exact absurd rfl hq40 | exact absurd rfl hq57 | exact absurd rfl hq45 | exact absurd rfl hq38 | exact absurd rfl hq34 | exact absurd rfl hq33 | exact absurd rfl hq29 | ((repeat' apply And.intro) <;> first | assumption | (simp only [yif0, Classical.not_not, ylt, yle, xcp0, xcp3, xcp5, xcp10, xcp12, xcp16, xcp22, yl_m1, yl_0, yl_1, yl_2, yl_3, yl_4, yl_5, yl_6, yl_7, yl_8, yl_9, yl_10, yl_11, yl_12, yl_15, yl_16, yl_20, yl_60, yl_64, yl_90, yl_97, yl_99, yl_100, yl_120, yl_239, yl_240] at *; first | omega | assumption | contradiction)))⟩, _, hXc17, (keepX.rfl'.trans hFc17), ((xkn.trans xkn.rfl' xkn_put)).w, rfl⟩)
