/-! ===== the views of the class, drawn ===== -/
def xtw (W H c d a : Int32) : Int32 := xcof W H (xrow W c + a * (d / 3 - 1)) (xcol W c + a * (d - d / 3 * 3 - 1))
/-- one direction, so far away: what is seen, in which directions it goes on -/
def dvF (W H : Int32) (B : Int64) (c a : Int32) : Int32 → Int64 × Int32 → Int64 × Int32 := fun d s => if 0 < a ∧ ¬ s.2 &&& (1 <<< (d &&& 31)) = 0 then (s.1 ||| xset (xtw W H c d a), if xtw W H c d a = -1 ∨ xis B (xtw W H c d a) then s.2 &&& ((1 <<< (d &&& 31)) ^^^ (-1)) else s.2) else s
def dvA (W H : Int32) (B : Int64) (c : Int32) : Int32 → Int64 × Int32 → Int64 × Int32 := fun a s => itI (dvF W H B c a) s (9 : Int32).toInt.toNat
def dvP (W H : Int32) (B : Int64) (c : Int32) (n : Nat) : Int64 × Int32 := itI (dvA W H B c) (xset c, 495) n
abbrev xdvP (σ : XS) (c : Int32) (n : Nat) : Int64 × Int32 := dvP (σ.2.2.1 0) (σ.2.2.1 1) (σ.2.2.2.1 2 ||| σ.2.2.2.1 3) c n
theorem xdvP_kn {σ s : XS} {m : List Nat} {c : Int32} {n : Nat} (h : xfr m σ s) (h0 : ¬ 48 + 0 ∈ m := by decide) (h1 : ¬ 48 + 1 ∈ m := by decide) (h2 : ¬ 56 + 2 ∈ m := by decide) (h3 : ¬ 56 + 3 ∈ m := by decide) : xdvP s c n = xdvP σ c n := by
  show dvP (s.2.2.1 0) (s.2.2.1 1) (s.2.2.2.1 2 ||| s.2.2.2.1 3) c n = _
  rw [h.2.2.1 0 h0, h.2.2.1 1 h1, h.2.2.2.1 2 h2, h.2.2.2.1 3 h3]
/-- the views of one cell, up to how far -/
def xdvV (V : Nat → Int64) (P : Nat → Int64 × Int32) (c n : Nat) : Nat → Int64 := fun p => if c * 8 ≤ p ∧ p < c * 8 + n then (P (p - c * 8 + 1)).1 else V p
theorem xdvV_0 {V : Nat → Int64} {P : Nat → Int64 × Int32} {c : Nat} : ∀ p : Nat, V p = xdvV V P c 0 p := fun p => (if_neg (by omega)).symm
theorem xdvV_s {V U : Nat → Int64} {P : Nat → Int64 × Int32} {c n : Nat} {v : Int64} (h : ∀ p : Nat, U p = xdvV V P c n p) (hv : v = (P (n + 1)).1) : ∀ p : Nat, vp_updL U (c * 8 + n) v p = xdvV V P c (n + 1) p := by
  intro p
  show (if p = c * 8 + n then v else U p) = (if c * 8 ≤ p ∧ p < c * 8 + (n + 1) then (P (p - c * 8 + 1)).1 else V p)
  by_cases q : p = c * 8 + n
  · have e : p - c * 8 + 1 = n + 1 := by omega
    rw [if_pos q, if_pos (by omega), e, hv]
  · rw [if_neg q, h p]
    show (if c * 8 ≤ p ∧ p < c * 8 + n then (P (p - c * 8 + 1)).1 else V p) = _
    by_cases z : c * 8 ≤ p ∧ p < c * 8 + n
    · rw [if_pos z, if_pos (by omega)]
    · rw [if_neg z, if_neg (by omega)]
/-- where a view lies -/
theorem xvpl {c a : Int32} (hc : 0 ≤ c.toInt ∧ c.toInt < 64) (ha : 0 ≤ a.toInt ∧ a.toInt < 8) : (c * 8 + a).toInt = ((c.toInt.toNat * 8 + a.toInt.toNat : Nat) : Int) ∧ (c * 8 + a).toInt < 512 ∧ 0 ≤ (c * 8 + a).toInt := by
  have e8 : (8 : Int32).toInt = 8 := by decide
  have em : (c * 8).toInt = c.toInt * 8 := by rw [ymul (by rw [e8]; omega) (by rw [e8]; omega), e8]
  have e : (c * 8 + a).toInt = c.toInt * 8 + a.toInt := by rw [yadd (by rw [em]; omega) (by rw [em]; omega), em]
  omega
/-- all views stand as they are drawn from the cells -/
def xvd (σ : XS) : Prop := ∀ N : Nat, (σ.2.2.1 0 * σ.2.2.1 1).toInt = (N : Int) → N ≤ 64 → ∀ c : Nat, c < N → ∀ a : Nat, a < 8 → σ.2.2.2.2 (c * 8 + a) = (xdvP σ (Int32.ofNat c) (a + 1)).1
theorem xvd.fr {σ σ1 : XS} {m : List Nat} (h : xvd σ) (hx : xfr m σ σ1) (h0 : ¬ 48 + 0 ∈ m := by decide) (h1 : ¬ 48 + 1 ∈ m := by decide) (h2 : ¬ 56 + 2 ∈ m := by decide) (h3 : ¬ 56 + 3 ∈ m := by decide) (h5 : ¬ 61 ∈ m := by decide) : xvd σ1 := by
  intro N hN h64 c hc a ha
  rw [hx.2.2.2.2 h5, xdvP_kn hx h0 h1 h2 h3]
  rw [hx.2.2.1 0 h0, hx.2.2.1 1 h1] at hN
  exact h N hN h64 c hc a ha
theorem xfr.vd {m : List Nat} {σ σ1 : XS} (hx : xfr m σ σ1) (h : xvd σ) (h0 : ¬ 48 + 0 ∈ m := by decide) (h1 : ¬ 48 + 1 ∈ m := by decide) (h2 : ¬ 56 + 2 ∈ m := by decide) (h3 : ¬ 56 + 3 ∈ m := by decide) (h5 : ¬ 61 ∈ m := by decide) : xvd σ1 := h.fr hx h0 h1 h2 h3 h5
section YDV
variable {W H c a d : Int32} {B v : Int64} {w : Int32}
theorem dvF_no (h : a ≤ 0 ∨ w &&& (1 <<< (d &&& 31)) = 0) : (v, w) = dvF W H B c a d (v, w) := by
  unfold dvF
  rw [if_neg]
  rintro ⟨h1, h2⟩
  rcases h with h | h
  · exact absurd h1 (Int32.not_lt.mpr h)
  · exact h2 h
theorem dvF_end (h1 : 0 < a) (h2 : ¬ w &&& (1 <<< (d &&& 31)) = 0) (h3 : xtw W H c d a = -1 ∨ xis B (xtw W H c d a)) : (v ||| xset (xtw W H c d a), w &&& ((1 <<< (d &&& 31)) ^^^ (-1))) = dvF W H B c a d (v, w) := by
  unfold dvF
  rw [if_pos ⟨h1, h2⟩, if_pos h3]
theorem dvF_on (h1 : 0 < a) (h2 : ¬ w &&& (1 <<< (d &&& 31)) = 0) (h3 : ¬ xtw W H c d a = -1) (h4 : ¬ xis B (xtw W H c d a)) : (v ||| xset (xtw W H c d a), w) = dvF W H B c a d (v, w) := by
  unfold dvF
  rw [if_pos ⟨h1, h2⟩, if_neg (fun q => q.elim h3 h4)]
end YDV
section YDW
variable {V U : Nat → Int64} {P : Nat → Int64 × Int32} {cell a w : Int32} {v : Int64}
theorem xvd_st (ha : 0 ≤ a.toInt ∧ a.toInt ≤ (8 : Int32).toInt) (c8 : ¬ (8 : Int32) ≤ a) (hu : (0 ≤ cell.toInt ∧ cell.toInt < 64) → ∀ p : Nat, U p = xdvV V P cell.toInt.toNat a.toInt.toNat p) (hv : (v, w) = P (a + 1).toInt.toNat) : (0 ≤ cell.toInt ∧ cell.toInt < 64) → ∀ p : Nat, vp_updL U (Int32.toNatClampNeg (cell * 8 + a)) v p = xdvV V P cell.toInt.toNat (a + 1).toInt.toNat p := by
  intro hc
  obtain ⟨e1, e2⟩ := xcn_nat ha c8
  have e8 : (8 : Int32).toInt = 8 := by decide
  rw [yle, e8] at c8
  obtain ⟨p1, p2, p3⟩ := xvpl hc ⟨ha.1, by omega⟩
  have e : Int32.toNatClampNeg (cell * 8 + a) = cell.toInt.toNat * 8 + a.toInt.toNat := by
    show (cell * 8 + a).toInt.toNat = _
    omega
  rw [e1] at hv ⊢
  rw [e]
  exact xdvV_s (hu hc) (congrArg Prod.fst hv)
theorem xvd_n1 {Q : Prop} (ha : 0 ≤ a.toInt ∧ a.toInt ≤ (8 : Int32).toInt) (c8 : ¬ (8 : Int32) ≤ a) (c : cell * 8 + a < 0) : (0 ≤ cell.toInt ∧ cell.toInt < 64) → Q := by
  intro hc
  exfalso
  have e8 : (8 : Int32).toInt = 8 := by decide
  have e0 : (0 : Int32).toInt = 0 := by decide
  rw [yle, e8] at c8
  rw [ylt, e0] at c
  obtain ⟨p1, p2, p3⟩ := xvpl hc ⟨ha.1, by omega⟩
  omega
theorem xvd_n2 {Q : Prop} (ha : 0 ≤ a.toInt ∧ a.toInt ≤ (8 : Int32).toInt) (c8 : ¬ (8 : Int32) ≤ a) (c : Int32.ofNat 512 ≤ cell * 8 + a) : (0 ≤ cell.toInt ∧ cell.toInt < 64) → Q := by
  intro hc
  exfalso
  have e8 : (8 : Int32).toInt = 8 := by decide
  have e9 : (Int32.ofNat 512).toInt = 512 := by decide
  rw [yle, e8] at c8
  rw [yle, e9] at c
  obtain ⟨p1, p2, p3⟩ := xvpl hc ⟨ha.1, by omega⟩
  omega
end YDW
/-- the views of the first cells stand -/
def xvw2 (σ s : XS) (i : Int32) : Prop := ∀ N : Nat, (σ.2.2.1 0 * σ.2.2.1 1).toInt = (N : Int) → N ≤ 64 → (0 ≤ i.toInt ∧ i.toInt ≤ (N : Int)) ∧ ∀ c : Nat, c < i.toInt.toNat → ∀ a : Nat, a < 8 → s.2.2.2.2 (c * 8 + a) = (xdvP σ (Int32.ofNat c) (a + 1)).1
theorem xvw2.init {σ : XS} : xvw2 σ σ 0 := fun N _ _ => ⟨by
  have e0 : (0 : Int32).toInt = 0 := by decide
  omega, fun c hc => absurd hc (Nat.not_lt_zero c)⟩
theorem xvw2.step {σ s s1 : XS} {i : Int32} (h : xvw2 σ s i) (kn : xfr [61] σ s) (c : ¬ s.2.2.1 0 * s.2.2.1 1 ≤ i) (hS : (0 ≤ i.toInt ∧ i.toInt < 64) → ∀ p : Nat, s1.2.2.2.2 p = xdvV s.2.2.2.2 (xdvP s i) i.toInt.toNat (8 : Int32).toInt.toNat p) : xvw2 σ s1 (i + 1) := by
  intro N hN h64
  obtain ⟨⟨h0, h1⟩, hv⟩ := h N hN h64
  have e1 : (1 : Int32).toInt = 1 := by decide
  rw [kn.2.2.1 0 (by decide), kn.2.2.1 1 (by decide), yle, hN] at c
  have ei : (i + 1).toInt = i.toInt + 1 := by rw [yadd (by rw [e1]; omega) (by rw [e1]; omega), e1]
  refine ⟨by omega, fun k hk a ha => ?_⟩
  have e8 : (8 : Int32).toInt.toNat = 8 := by decide
  have hs := hS ⟨h0, by omega⟩ (k * 8 + a)
  rw [e8] at hs
  rw [hs]
  show (if i.toInt.toNat * 8 ≤ k * 8 + a ∧ k * 8 + a < i.toInt.toNat * 8 + 8 then (xdvP s i (k * 8 + a - i.toInt.toNat * 8 + 1)).1 else s.2.2.2.2 (k * 8 + a)) = _
  by_cases q : k = i.toInt.toNat
  · have ek : Int32.ofNat k = i := Int32.toInt_inj.mp (by rw [yofNat (by omega)]; omega)
    have e9 : k * 8 + a - i.toInt.toNat * 8 + 1 = a + 1 := by omega
    rw [if_pos (by omega), e9, ek, xdvP_kn kn]
  · rw [if_neg (by omega)]
    exact hv k (by omega) a ha
theorem xvw2.stop {σ s : XS} {i : Int32} (h : xvw2 σ s i) (kn : xfr [61] σ s) (c : s.2.2.1 0 * s.2.2.1 1 ≤ i) : xvd s := by
  intro N hN h64 k hk a ha
  have k0 := kn.2.2.1 0 (by decide)
  have k1 := kn.2.2.1 1 (by decide)
  rw [yle, hN] at c
  rw [k0, k1] at hN
  obtain ⟨⟨h0, h1⟩, hv⟩ := h N hN h64
  rw [xdvP_kn kn]
  exact hv k (by omega) a ha
set_option maxHeartbeats 4000000 in
set_option maxRecDepth 100000 in
theorem m_X1_cellToward_v {l : Launch} {S0 : State} {A0 : Array Value} {D : va_G} {aC : Nat → ClassId} {ad : Nat → Nat} {G : AH} {σ : XS} (hS : yS l S0 A0 D aC) (hX : atX aC ad G σ) (cell : Int32) (direction : Int32) (apart : Int32) : yM l S0 D yX1_cellToward cX1_cellToward 6 (some .int) 12 0 0 [.ref (ad 2), .int cell, .int direction, .int apart] G (fun r G1 => r = some (.int (xtw (σ.2.2.1 0) (σ.2.2.1 1) cell direction apart)) ∧ G1 = G) (fun _ _ => False) := by
  refine yM.ofK K_X1_cellToward rfl (by decide) (Nat.le_of_ble_eq_true rfl) ?_
  refine y_blk 2 tq_X1_cellToward (z := (2, [(0, .ref (ad 2)), (1, .int cell), (2, .int direction), (3, .int apart)], [.int 3, .int direction])) rfl ?_
  refine y_idiv tq_X1_cellToward rfl (by decide) ?_
  refine y_blk 5 tq_X1_cellToward (z := (9, [(4, .int ((direction / 3) - 1)), (0, .ref (ad 2)), (1, .int cell), (2, .int direction), (3, .int apart)], [.int 3, .int direction])) rfl ?_
  refine y_irem tq_X1_cellToward rfl (by decide) ?_
  refine y_blk 6 tq_X1_cellToward (z := (17, [(5, .int ((direction - direction / 3 * 3) - 1)), (4, .int ((direction / 3) - 1)), (0, .ref (ad 2)), (1, .int cell), (2, .int direction), (3, .int apart)], [.int cell, .ref (ad 2), .ref (ad 2)])) rfl ?_
  refine y_callV hS tq_X1_cellToward rfl (As := [.int cell]) rfl cv_X1_89 (hX.1 2 _ rfl) (m_X1_rowOf hS hX cell) rfl (by decide) (Nat.le_of_ble_eq_true rfl) (fun r17 Gc17 q17 => ?_) (fun E9 G9 h9 => h9.elim)
  obtain ⟨rfl, eG17⟩ := q17
  have eG17 := eG17.symm
  subst eG17
  refine y_blk 6 tq_X1_cellToward (z := (27, [(5, .int ((direction - direction / 3 * 3) - 1)), (4, .int ((direction / 3) - 1)), (0, .ref (ad 2)), (1, .int cell), (2, .int direction), (3, .int apart)], [.int cell, .ref (ad 2), .int ((xrow (σ.2.2.1 0) cell) + (apart * ((direction / 3) - 1))), .ref (ad 2)])) rfl ?_
  refine y_callV hS tq_X1_cellToward rfl (As := [.int cell]) rfl cv_X1_92 (hX.1 2 _ rfl) (m_X1_columnOf hS hX cell) rfl (by decide) (Nat.le_of_ble_eq_true rfl) (fun r27 Gc27 q27 => ?_) (fun E9 G9 h9 => h9.elim)
  obtain ⟨rfl, eG27⟩ := q27
  have eG27 := eG27.symm
  subst eG27
  refine y_blk 4 tq_X1_cellToward (z := (35, [(5, .int ((direction - direction / 3 * 3) - 1)), (4, .int ((direction / 3) - 1)), (0, .ref (ad 2)), (1, .int cell), (2, .int direction), (3, .int apart)], [.int ((xcol (σ.2.2.1 0) cell) + (apart * ((direction - direction / 3 * 3) - 1))), .int ((xrow (σ.2.2.1 0) cell) + (apart * ((direction / 3) - 1))), .ref (ad 2)])) rfl ?_
  refine y_callV hS tq_X1_cellToward rfl (As := [.int ((xrow (σ.2.2.1 0) cell) + (apart * ((direction / 3) - 1))), .int ((xcol (σ.2.2.1 0) cell) + (apart * ((direction - direction / 3 * 3) - 1)))]) rfl cv_X1_95 (hX.1 2 _ rfl) (m_X1_cellOf hS hX ((xrow (σ.2.2.1 0) cell) + (apart * ((direction / 3) - 1))) ((xcol (σ.2.2.1 0) cell) + (apart * ((direction - direction / 3 * 3) - 1)))) rfl (by decide) (Nat.le_of_ble_eq_true rfl) (fun r35 Gc35 q35 => ?_) (fun E9 G9 h9 => h9.elim)
  obtain ⟨rfl, eG35⟩ := q35
  have eG35 := eG35.symm
  subst eG35
  refine y_blk 0 tq_X1_cellToward (z := (38, [(5, .int ((direction - direction / 3 * 3) - 1)), (4, .int ((direction / 3) - 1)), (0, .ref (ad 2)), (1, .int cell), (2, .int direction), (3, .int apart)], [.int (xcof (σ.2.2.1 0) (σ.2.2.1 1) ((xrow (σ.2.2.1 0) cell) + (apart * ((direction / 3) - 1))) ((xcol (σ.2.2.1 0) cell) + (apart * ((direction - direction / 3 * 3) - 1))))])) rfl ?_
  exact y_iret tq_X1_cellToward rfl rfl (⟨by first | rfl | (congr 2; (repeat' split) <;> first | rfl | (exfalso; simp only [ylt, yle, yeqI, yl_m1, yl_0, yl_1, yl_2, yl_3, yl_4, yl_5, yl_6, yl_7, yl_8, yl_9, yl_10, yl_11, yl_12, yl_15, yl_16, yl_20, yl_60, yl_64, yl_90, yl_97, yl_99, yl_100, yl_120, yl_239, yl_240] at *; omega)), rfl⟩)
set_option maxHeartbeats 4000000 in
set_option maxRecDepth 100000 in
theorem m_X1_drawViewsOf_v {l : Launch} {S0 : State} {A0 : Array Value} {D : va_G} {aC : Nat → ClassId} {ad : Nat → Nat} {G : AH} {σ : XS} (hS : yS l S0 A0 D aC) (hX : atX aC ad G σ) (cell : Int32) : yM l S0 D yX1_drawViewsOf cX1_drawViewsOf 9 none 13 0 0 [.ref (ad 2), .int cell] G (fun r G1 => r = none ∧ ∃ σ1 : XS, atX aC ad G1 σ1 ∧ keepX G G1 ∧ xfr [61] σ σ1 ∧ xgr σ σ1 ∧ ((0 ≤ cell.toInt ∧ cell.toInt < 64) → ∀ p : Nat, σ1.2.2.2.2 p = xdvV σ.2.2.2.2 (xdvP σ cell) cell.toInt.toNat (8 : Int32).toInt.toNat p)) (fun _ _ => False) := by
  refine yM.ofK K_X1_drawViewsOf rfl (by decide) (Nat.le_of_ble_eq_true rfl) ?_
  have h512 : (Int32.ofNat 512).toInt = 512 := by decide
  have J13 : ∀ (n13 : Nat) (v13_2 : Int64) (v13_4 : Int32) (v13_5 : Int32) (G13 : AH) (s13 : XS) (hX13 : atX aC ad G13 s13) (hF13 : keepX G G13) (kn13 : xfr [61] σ s13) (gr13 : xgr σ s13) (hh13 : 0 ≤ v13_5.toInt ∧ v13_5.toInt ≤ (8 : Int32).toInt) (es13 : (v13_2, v13_4) = xdvP σ cell v13_5.toInt.toNat) (vs13 : (0 ≤ cell.toInt ∧ cell.toInt < 64) → ∀ p : Nat, s13.2.2.2.2 p = xdvV σ.2.2.2.2 (xdvP σ cell) cell.toInt.toNat v13_5.toInt.toNat p), ((8 : Int32).toInt - v13_5.toInt).toNat = n13 → Y l S0 D K_X1_drawViewsOf 13 0 0 (fun r G1 => r = none ∧ ∃ σ1 : XS, atX aC ad G1 σ1 ∧ keepX G G1 ∧ xfr [61] σ σ1 ∧ xgr σ σ1 ∧ ((0 ≤ cell.toInt ∧ cell.toInt < 64) → ∀ p : Nat, σ1.2.2.2.2 p = xdvV σ.2.2.2.2 (xdvP σ cell) cell.toInt.toNat (8 : Int32).toInt.toNat p)) (fun _ _ => False) 13 [(0, .ref (ad 2)), (1, .int cell), (2, .long v13_2), (4, .int v13_4), (5, .int v13_5)] [] G13 0 0 := by
    intro n13
    induction n13 using Nat.strongRecOn with
    | _ n13 ih13 =>
    intro v13_2 v13_4 v13_5 G13 s13 hX13 hF13 kn13 gr13 hh13 es13 vs13 hn13
    subst hn13
    have J23 : ∀ (n23 : Nat) (v23_2 : Int64) (v23_4 : Int32) (v23_6 : Int32) (G23 : AH) (s23 : XS) (hX23 : atX aC ad G23 s23) (hF23 : keepX G G23) (kn23 : xfr [61] σ s23) (gr23 : xgr σ s23) (hh23 : 0 ≤ v23_6.toInt ∧ v23_6.toInt ≤ (9 : Int32).toInt) (es23 : (v23_2, v23_4) = itI (dvF (σ.2.2.1 0) (σ.2.2.1 1) (σ.2.2.2.1 2 ||| σ.2.2.2.1 3) cell v13_5) (xdvP σ cell v13_5.toInt.toNat) v23_6.toInt.toNat) (vs23 : (0 ≤ cell.toInt ∧ cell.toInt < 64) → ∀ p : Nat, s23.2.2.2.2 p = xdvV σ.2.2.2.2 (xdvP σ cell) cell.toInt.toNat v13_5.toInt.toNat p) (c17 : ¬ (8 : Int32) ≤ v13_5), ((9 : Int32).toInt - v23_6.toInt).toNat = n23 → Y l S0 D K_X1_drawViewsOf 13 0 0 (fun r G1 => r = none ∧ ∃ σ1 : XS, atX aC ad G1 σ1 ∧ keepX G G1 ∧ xfr [61] σ σ1 ∧ xgr σ σ1 ∧ ((0 ≤ cell.toInt ∧ cell.toInt < 64) → ∀ p : Nat, σ1.2.2.2.2 p = xdvV σ.2.2.2.2 (xdvP σ cell) cell.toInt.toNat (8 : Int32).toInt.toNat p)) (fun _ _ => False) 23 [(0, .ref (ad 2)), (1, .int cell), (2, .long v23_2), (4, .int v23_4), (5, .int v13_5), (6, .int v23_6)] [] G23 0 0 := by
      intro n23
      induction n23 using Nat.strongRecOn with
      | _ n23 ih23 =>
      intro v23_2 v23_4 v23_6 G23 s23 hX23 hF23 kn23 gr23 hh23 es23 vs23 c17 hn23
      subst hn23
      refine y_blk 2 tq_X1_drawViewsOf (z := (27, [(0, .ref (ad 2)), (1, .int cell), (2, .long v23_2), (4, .int v23_4), (5, .int v13_5), (6, .int v23_6)], [.int 9, .int v23_6])) rfl ?_
      refine y_icmp_ge tq_X1_drawViewsOf 121 rfl rfl (fun c27 => ?_) (fun c27 => ?_)
      · skip
        refine y_blk 7 tq_X1_drawViewsOf (z := (132, [(6, .int ((cell * 8) + v13_5)), (0, .ref (ad 2)), (1, .int cell), (2, .long v23_2), (4, .int v23_4), (5, .int v13_5)], [.int ((cell * 8) + v13_5)])) rfl ?_
        refine y_if_lt tq_X1_drawViewsOf 153 rfl rfl (fun c132 => ?_) (fun c132 => ?_)
        · skip
          refine y_blk 2 tq_X1_drawViewsOf (z := (13, [(5, .int (v13_5 + 1)), (6, .int ((cell * 8) + v13_5)), (0, .ref (ad 2)), (1, .int cell), (2, .long v23_2), (4, .int v23_4)], [])) rfl ?_
          refine y_pick (L2 := [(0, .ref (ad 2)), (1, .int cell), (2, .long v23_2), (4, .int v23_4), (5, .int (v13_5 + 1))]) [2, 3, 4, 5, 0] rfl ?_
          exact ih13 _ (by exact ydec c17) v23_2 v23_4 (v13_5 + 1) G23 s23 hX23 hF23 ((kn23).w) gr23 (by first | exact xcn_step hh13 c17 | exact xcn_init (by decide)) (by first | exact itI_s (F := dvA (σ.2.2.1 0) (σ.2.2.1 1) (σ.2.2.2.1 2 ||| σ.2.2.2.1 3) cell) rfl hh13 c17 (itI_e es23 hh23 c27) | exact (itI_0 (F := dvA (σ.2.2.1 0) (σ.2.2.1 1) (σ.2.2.2.1 2 ||| σ.2.2.2.1 3) cell))) (by first | exact xvd_st hh13 c17 vs23 (itI_s (F := dvA (σ.2.2.1 0) (σ.2.2.1 1) (σ.2.2.2.1 2 ||| σ.2.2.2.1 3) cell) rfl hh13 c17 (itI_e es23 hh23 c27)) | exact xvd_n1 hh13 c17 c132 | exact xvd_n2 hh13 c17 c142 | exact fun _ => xdvV_0) rfl
        · skip
          refine y_blk 2 tq_X1_drawViewsOf (z := (138, [(6, .int ((cell * 8) + v13_5)), (0, .ref (ad 2)), (1, .int cell), (2, .long v23_2), (4, .int v23_4), (5, .int v13_5)], [.ref (ad 2), .int ((cell * 8) + v13_5)])) rfl ?_
          refine y_get hS tq_X1_drawViewsOf (v := .ref (ad 3)) rfl fg_X1_15_X1 (hX23.1 2 _ rfl) rfl ?_
          refine y_blk 0 tq_X1_drawViewsOf (z := (141, [(6, .int ((cell * 8) + v13_5)), (0, .ref (ad 2)), (1, .int cell), (2, .long v23_2), (4, .int v23_4), (5, .int v13_5)], [.ref (ad 3), .int ((cell * 8) + v13_5)])) rfl ?_
          refine y_alen hS tq_X1_drawViewsOf 1 rfl rfl (hX23.1 3 _ rfl) ?_
          refine y_blk 0 tq_X1_drawViewsOf (z := (142, [(6, .int ((cell * 8) + v13_5)), (0, .ref (ad 2)), (1, .int cell), (2, .long v23_2), (4, .int v23_4), (5, .int v13_5)], [.int (Int32.ofNat 512), .int ((cell * 8) + v13_5)])) rfl ?_
          refine y_icmp_ge tq_X1_drawViewsOf 153 rfl rfl (fun c142 => ?_) (fun c142 => ?_)
          · skip
            refine y_blk 2 tq_X1_drawViewsOf (z := (13, [(5, .int (v13_5 + 1)), (6, .int ((cell * 8) + v13_5)), (0, .ref (ad 2)), (1, .int cell), (2, .long v23_2), (4, .int v23_4)], [])) rfl ?_
            refine y_pick (L2 := [(0, .ref (ad 2)), (1, .int cell), (2, .long v23_2), (4, .int v23_4), (5, .int (v13_5 + 1))]) [2, 3, 4, 5, 0] rfl ?_
            exact ih13 _ (by exact ydec c17) v23_2 v23_4 (v13_5 + 1) G23 s23 hX23 hF23 ((kn23).w) gr23 (by first | exact xcn_step hh13 c17 | exact xcn_init (by decide)) (by first | exact itI_s (F := dvA (σ.2.2.1 0) (σ.2.2.1 1) (σ.2.2.2.1 2 ||| σ.2.2.2.1 3) cell) rfl hh13 c17 (itI_e es23 hh23 c27) | exact (itI_0 (F := dvA (σ.2.2.1 0) (σ.2.2.1 1) (σ.2.2.2.1 2 ||| σ.2.2.2.1 3) cell))) (by first | exact xvd_st hh13 c17 vs23 (itI_s (F := dvA (σ.2.2.1 0) (σ.2.2.1 1) (σ.2.2.2.1 2 ||| σ.2.2.2.1 3) cell) rfl hh13 c17 (itI_e es23 hh23 c27)) | exact xvd_n1 hh13 c17 c132 | exact xvd_n2 hh13 c17 c142 | exact fun _ => xdvV_0) rfl
          · skip
            refine y_blk 1 tq_X1_drawViewsOf (z := (146, [(6, .int ((cell * 8) + v13_5)), (0, .ref (ad 2)), (1, .int cell), (2, .long v23_2), (4, .int v23_4), (5, .int v13_5)], [.ref (ad 2)])) rfl ?_
            refine y_get hS tq_X1_drawViewsOf (v := .ref (ad 3)) rfl fg_X1_15_X1 (hX23.1 2 _ rfl) rfl ?_
            refine y_blk 2 tq_X1_drawViewsOf (z := (152, [(6, .int ((cell * 8) + v13_5)), (0, .ref (ad 2)), (1, .int cell), (2, .long v23_2), (4, .int v23_4), (5, .int v13_5)], [.long v23_2, .int ((cell * 8) + v13_5), .ref (ad 3)])) rfl ?_
            refine y_last hS tq_X1_drawViewsOf rfl (hX23.1 3 _ rfl) (by omega) (by exact yin (by (simp only [ylt, yle, yeqI, yl_m1, yl_0, yl_1, yl_2, yl_3, yl_4, yl_5, yl_6, yl_7, yl_8, yl_9, yl_10, yl_11, yl_12, yl_15, yl_16, yl_20, yl_60, yl_64, yl_90, yl_97, yl_99, yl_100, yl_120, yl_239, yl_240] at *; omega)) (by (simp only [ylt, yle, yeqI, yl_m1, yl_0, yl_1, yl_2, yl_3, yl_4, yl_5, yl_6, yl_7, yl_8, yl_9, yl_10, yl_11, yl_12, yl_15, yl_16, yl_20, yl_60, yl_64, yl_90, yl_97, yl_99, yl_100, yl_120, yl_239, yl_240] at *; omega))) ?_
            have hXw152 : atX aC ad (yup G23 (ad 3) (3, .inl (aC 1, 512, .inr (.inl (vp_updL s23.2.2.2.2 (Int32.toNatClampNeg ((cell * 8) + v13_5)) v23_2))))) (xvw s23 (vp_updL s23.2.2.2.2 (Int32.toNatClampNeg ((cell * 8) + v13_5)) v23_2)) := hX23.setVw
            have hFw152 : keepX G (yup G23 (ad 3) (3, .inl (aC 1, 512, .inr (.inl (vp_updL s23.2.2.2.2 (Int32.toNatClampNeg ((cell * 8) + v13_5)) v23_2))))) := hF23.up (hX23.1 3 _ rfl) (by omega) (by omega)
            generalize yup G23 (ad 3) (3, .inl (aC 1, 512, .inr (.inl (vp_updL s23.2.2.2.2 (Int32.toNatClampNeg ((cell * 8) + v13_5)) v23_2)))) = Gw152 at hXw152 hFw152 ⊢
            refine y_blk 2 tq_X1_drawViewsOf (z := (13, [(5, .int (v13_5 + 1)), (6, .int ((cell * 8) + v13_5)), (0, .ref (ad 2)), (1, .int cell), (2, .long v23_2), (4, .int v23_4)], [])) rfl ?_
            refine y_pick (L2 := [(0, .ref (ad 2)), (1, .int cell), (2, .long v23_2), (4, .int v23_4), (5, .int (v13_5 + 1))]) [2, 3, 4, 5, 0] rfl ?_
            exact ih13 _ (by exact ydec c17) v23_2 v23_4 (v13_5 + 1) Gw152 (xvw s23 (vp_updL s23.2.2.2.2 (Int32.toNatClampNeg ((cell * 8) + v13_5)) v23_2)) hXw152 hFw152 (((xkn.trans kn23 xkn_vw)).w) (xgr.trans gr23 xgr_vw) (by first | exact xcn_step hh13 c17 | exact xcn_init (by decide)) (by first | exact itI_s (F := dvA (σ.2.2.1 0) (σ.2.2.1 1) (σ.2.2.2.1 2 ||| σ.2.2.2.1 3) cell) rfl hh13 c17 (itI_e es23 hh23 c27) | exact (itI_0 (F := dvA (σ.2.2.1 0) (σ.2.2.1 1) (σ.2.2.2.1 2 ||| σ.2.2.2.1 3) cell))) (by first | exact xvd_st hh13 c17 vs23 (itI_s (F := dvA (σ.2.2.1 0) (σ.2.2.1 1) (σ.2.2.2.1 2 ||| σ.2.2.2.1 3) cell) rfl hh13 c17 (itI_e es23 hh23 c27)) | exact xvd_n1 hh13 c17 c132 | exact xvd_n2 hh13 c17 c142 | exact fun _ => xdvV_0) rfl
      · skip
        refine y_blk 1 tq_X1_drawViewsOf (z := (32, [(0, .ref (ad 2)), (1, .int cell), (2, .long v23_2), (4, .int v23_4), (5, .int v13_5), (6, .int v23_6)], [.int v13_5])) rfl ?_
        refine y_if_le tq_X1_drawViewsOf 115 rfl rfl (fun c32 => ?_) (fun c32 => ?_)
        · skip
          refine y_blk 2 tq_X1_drawViewsOf (z := (23, [(6, .int (v23_6 + 1)), (0, .ref (ad 2)), (1, .int cell), (2, .long v23_2), (4, .int v23_4), (5, .int v13_5)], [])) rfl ?_
          refine y_pick (L2 := [(0, .ref (ad 2)), (1, .int cell), (2, .long v23_2), (4, .int v23_4), (5, .int v13_5), (6, .int (v23_6 + 1))]) [1, 2, 3, 4, 5, 0] rfl ?_
          exact ih23 _ (by exact ydec c27) v23_2 v23_4 (v23_6 + 1) G23 s23 hX23 hF23 ((kn23).w) gr23 (by first | exact xcn_step hh23 c27 | exact xcn_init (by decide)) (by first | exact itI_s es23 hh23 c27 (by first | exact absurd c96 (by decide) | exact absurd rfl c96 | (have e0 := (kn23).2.2.1 0 (by decide); have e1 := (kn23).2.2.1 1 (by decide); have e2 := (kn23).2.2.2.1 2 (by decide); have e3 := (kn23).2.2.2.1 3 (by decide); rw [← e0, ← e1, ← e2, ← e3]; first | exact dvF_no (Or.inl c32) | exact dvF_no (Or.inr c42) | exact dvF_end (Int32.not_le.mp c32) c42 (Or.inl c59) | exact dvF_end (Int32.not_le.mp c32) c42 (Or.inr (Classical.not_not.mp (fun q => c76 ((yif0 _).mpr q)))) | exact dvF_on (Int32.not_le.mp c32) c42 c59 ((yif0 _).mp c76))) | exact es13.trans itI_0) (by first | exact vs23 | exact vs13) (by exact c17) rfl
        · skip
          refine y_blk 5 tq_X1_drawViewsOf (z := (42, [(0, .ref (ad 2)), (1, .int cell), (2, .long v23_2), (4, .int v23_4), (5, .int v13_5), (6, .int v23_6)], [.int (v23_4 &&& (1 <<< (v23_6 &&& 31)))])) rfl ?_
          refine y_if_eq tq_X1_drawViewsOf 115 rfl rfl (fun c42 => ?_) (fun c42 => ?_)
          · skip
            refine y_blk 2 tq_X1_drawViewsOf (z := (23, [(6, .int (v23_6 + 1)), (0, .ref (ad 2)), (1, .int cell), (2, .long v23_2), (4, .int v23_4), (5, .int v13_5)], [])) rfl ?_
            refine y_pick (L2 := [(0, .ref (ad 2)), (1, .int cell), (2, .long v23_2), (4, .int v23_4), (5, .int v13_5), (6, .int (v23_6 + 1))]) [1, 2, 3, 4, 5, 0] rfl ?_
            exact ih23 _ (by exact ydec c27) v23_2 v23_4 (v23_6 + 1) G23 s23 hX23 hF23 ((kn23).w) gr23 (by first | exact xcn_step hh23 c27 | exact xcn_init (by decide)) (by first | exact itI_s es23 hh23 c27 (by first | exact absurd c96 (by decide) | exact absurd rfl c96 | (have e0 := (kn23).2.2.1 0 (by decide); have e1 := (kn23).2.2.1 1 (by decide); have e2 := (kn23).2.2.2.1 2 (by decide); have e3 := (kn23).2.2.2.1 3 (by decide); rw [← e0, ← e1, ← e2, ← e3]; first | exact dvF_no (Or.inl c32) | exact dvF_no (Or.inr c42) | exact dvF_end (Int32.not_le.mp c32) c42 (Or.inl c59) | exact dvF_end (Int32.not_le.mp c32) c42 (Or.inr (Classical.not_not.mp (fun q => c76 ((yif0 _).mpr q)))) | exact dvF_on (Int32.not_le.mp c32) c42 c59 ((yif0 _).mp c76))) | exact es13.trans itI_0) (by first | exact vs23 | exact vs13) (by exact c17) rfl
          · skip
            refine y_blk 4 tq_X1_drawViewsOf (z := (51, [(0, .ref (ad 2)), (1, .int cell), (2, .long v23_2), (4, .int v23_4), (5, .int v13_5), (6, .int v23_6)], [.int v13_5, .int v23_6, .int cell, .ref (ad 2)])) rfl ?_
            refine y_callV hS tq_X1_drawViewsOf rfl (As := [.int cell, .int v23_6, .int v13_5]) rfl cv_X1_109 (hX23.1 2 _ rfl) (m_X1_cellToward_v hS hX23 cell v23_6 v13_5) rfl (by decide) (Nat.le_of_ble_eq_true rfl) (fun r51 Gc51 q51 => ?_) (fun E9 G9 h9 => h9.elim)
            obtain ⟨rfl, eG51⟩ := q51
            have eG51 := eG51.symm
            subst eG51
            refine y_blk 3 tq_X1_drawViewsOf (z := (59, [(7, .int (xtw (s23.2.2.1 0) (s23.2.2.1 1) cell v23_6 v13_5)), (0, .ref (ad 2)), (1, .int cell), (2, .long v23_2), (4, .int v23_4), (5, .int v13_5), (6, .int v23_6)], [.int (-1), .int (xtw (s23.2.2.1 0) (s23.2.2.1 1) cell v23_6 v13_5)])) rfl ?_
            refine y_icmp_eq tq_X1_drawViewsOf 79 rfl rfl (fun c59 => ?_) (fun c59 => ?_)
            · skip
              refine y_blk 5 tq_X1_drawViewsOf (z := (89, [(8, .int 1), (7, .int (xtw (s23.2.2.1 0) (s23.2.2.1 1) cell v23_6 v13_5)), (0, .ref (ad 2)), (1, .int cell), (2, .long v23_2), (4, .int v23_4), (5, .int v13_5), (6, .int v23_6)], [.int (xtw (s23.2.2.1 0) (s23.2.2.1 1) cell v23_6 v13_5), .long v23_2])) rfl ?_
              refine y_callSN hS tq_X1_drawViewsOf rfl (As := [.int (xtw (s23.2.2.1 0) (s23.2.2.1 1) cell v23_6 v13_5)]) rfl cs_X1_62 (m_X8_setOf hS  (xtw (s23.2.2.1 0) (s23.2.2.1 1) cell v23_6 v13_5)) rfl (by decide) (Nat.le_of_ble_eq_true rfl) (fun r89 Gc89 q89 => ?_) (fun E9 G9 h9 => h9.elim)
              obtain ⟨rfl, eG89⟩ := q89
              have eG89 := eG89.symm
              subst eG89
              refine y_blk 3 tq_X1_drawViewsOf (z := (96, [(2, .long (v23_2 ||| (xset (xtw (s23.2.2.1 0) (s23.2.2.1 1) cell v23_6 v13_5)))), (8, .int 1), (7, .int (xtw (s23.2.2.1 0) (s23.2.2.1 1) cell v23_6 v13_5)), (0, .ref (ad 2)), (1, .int cell), (4, .int v23_4), (5, .int v13_5), (6, .int v23_6)], [.int 1])) rfl ?_
              refine y_if_eq tq_X1_drawViewsOf 111 rfl rfl (fun c96 => ?_) (fun c96 => ?_)
              · skip
                refine y_blk 4 tq_X1_drawViewsOf (z := (23, [(6, .int (v23_6 + 1)), (4, .int v23_4), (2, .long (v23_2 ||| (xset (xtw (s23.2.2.1 0) (s23.2.2.1 1) cell v23_6 v13_5)))), (8, .int 1), (7, .int (xtw (s23.2.2.1 0) (s23.2.2.1 1) cell v23_6 v13_5)), (0, .ref (ad 2)), (1, .int cell), (5, .int v13_5)], [])) rfl ?_
                refine y_pick (L2 := [(0, .ref (ad 2)), (1, .int cell), (2, .long (v23_2 ||| (xset (xtw (s23.2.2.1 0) (s23.2.2.1 1) cell v23_6 v13_5)))), (4, .int v23_4), (5, .int v13_5), (6, .int (v23_6 + 1))]) [5, 6, 2, 1, 7, 0] rfl ?_
                exact ih23 _ (by exact ydec c27) (v23_2 ||| (xset (xtw (s23.2.2.1 0) (s23.2.2.1 1) cell v23_6 v13_5))) v23_4 (v23_6 + 1) G23 s23 hX23 hF23 ((kn23).w) gr23 (by first | exact xcn_step hh23 c27 | exact xcn_init (by decide)) (by first | exact itI_s es23 hh23 c27 (by first | exact absurd c96 (by decide) | exact absurd rfl c96 | (have e0 := (kn23).2.2.1 0 (by decide); have e1 := (kn23).2.2.1 1 (by decide); have e2 := (kn23).2.2.2.1 2 (by decide); have e3 := (kn23).2.2.2.1 3 (by decide); rw [← e0, ← e1, ← e2, ← e3]; first | exact dvF_no (Or.inl c32) | exact dvF_no (Or.inr c42) | exact dvF_end (Int32.not_le.mp c32) c42 (Or.inl c59) | exact dvF_end (Int32.not_le.mp c32) c42 (Or.inr (Classical.not_not.mp (fun q => c76 ((yif0 _).mpr q)))) | exact dvF_on (Int32.not_le.mp c32) c42 c59 ((yif0 _).mp c76))) | exact es13.trans itI_0) (by first | exact vs23 | exact vs13) (by exact c17) rfl
              · skip
                refine y_blk 11 tq_X1_drawViewsOf (z := (23, [(6, .int (v23_6 + 1)), (4, .int (v23_4 &&& ((1 <<< (v23_6 &&& 31)) ^^^ (-1)))), (2, .long (v23_2 ||| (xset (xtw (s23.2.2.1 0) (s23.2.2.1 1) cell v23_6 v13_5)))), (8, .int 1), (7, .int (xtw (s23.2.2.1 0) (s23.2.2.1 1) cell v23_6 v13_5)), (0, .ref (ad 2)), (1, .int cell), (5, .int v13_5)], [])) rfl ?_
                refine y_pick (L2 := [(0, .ref (ad 2)), (1, .int cell), (2, .long (v23_2 ||| (xset (xtw (s23.2.2.1 0) (s23.2.2.1 1) cell v23_6 v13_5)))), (4, .int (v23_4 &&& ((1 <<< (v23_6 &&& 31)) ^^^ (-1)))), (5, .int v13_5), (6, .int (v23_6 + 1))]) [5, 6, 2, 1, 7, 0] rfl ?_
                exact ih23 _ (by exact ydec c27) (v23_2 ||| (xset (xtw (s23.2.2.1 0) (s23.2.2.1 1) cell v23_6 v13_5))) (v23_4 &&& ((1 <<< (v23_6 &&& 31)) ^^^ (-1))) (v23_6 + 1) G23 s23 hX23 hF23 ((kn23).w) gr23 (by first | exact xcn_step hh23 c27 | exact xcn_init (by decide)) (by first | exact itI_s es23 hh23 c27 (by first | exact absurd c96 (by decide) | exact absurd rfl c96 | (have e0 := (kn23).2.2.1 0 (by decide); have e1 := (kn23).2.2.1 1 (by decide); have e2 := (kn23).2.2.2.1 2 (by decide); have e3 := (kn23).2.2.2.1 3 (by decide); rw [← e0, ← e1, ← e2, ← e3]; first | exact dvF_no (Or.inl c32) | exact dvF_no (Or.inr c42) | exact dvF_end (Int32.not_le.mp c32) c42 (Or.inl c59) | exact dvF_end (Int32.not_le.mp c32) c42 (Or.inr (Classical.not_not.mp (fun q => c76 ((yif0 _).mpr q)))) | exact dvF_on (Int32.not_le.mp c32) c42 c59 ((yif0 _).mp c76))) | exact es13.trans itI_0) (by first | exact vs23 | exact vs13) (by exact c17) rfl
            · skip
              refine y_blk 1 tq_X1_drawViewsOf (z := (63, [(7, .int (xtw (s23.2.2.1 0) (s23.2.2.1 1) cell v23_6 v13_5)), (0, .ref (ad 2)), (1, .int cell), (2, .long v23_2), (4, .int v23_4), (5, .int v13_5), (6, .int v23_6)], [.ref (ad 2)])) rfl ?_
              refine y_get hS tq_X1_drawViewsOf (v := .long (s23.2.2.2.1 2)) rfl fg_X1_28_X1 (hX23.1 2 _ rfl) rfl ?_
              refine y_blk 1 tq_X1_drawViewsOf (z := (67, [(7, .int (xtw (s23.2.2.1 0) (s23.2.2.1 1) cell v23_6 v13_5)), (0, .ref (ad 2)), (1, .int cell), (2, .long v23_2), (4, .int v23_4), (5, .int v13_5), (6, .int v23_6)], [.ref (ad 2), .long (s23.2.2.2.1 2)])) rfl ?_
              refine y_get hS tq_X1_drawViewsOf (v := .long (s23.2.2.2.1 3)) rfl fg_X1_32_X1 (hX23.1 2 _ rfl) rfl ?_
              refine y_blk 2 tq_X1_drawViewsOf (z := (73, [(7, .int (xtw (s23.2.2.1 0) (s23.2.2.1 1) cell v23_6 v13_5)), (0, .ref (ad 2)), (1, .int cell), (2, .long v23_2), (4, .int v23_4), (5, .int v13_5), (6, .int v23_6)], [.int (xtw (s23.2.2.1 0) (s23.2.2.1 1) cell v23_6 v13_5), .long ((s23.2.2.2.1 2) ||| (s23.2.2.2.1 3))])) rfl ?_
              refine y_callSN hS tq_X1_drawViewsOf rfl (As := [.long ((s23.2.2.2.1 2) ||| (s23.2.2.2.1 3)), .int (xtw (s23.2.2.1 0) (s23.2.2.1 1) cell v23_6 v13_5)]) rfl cs_X1_68 (m_X8_isOf hS  ((s23.2.2.2.1 2) ||| (s23.2.2.2.1 3)) (xtw (s23.2.2.1 0) (s23.2.2.1 1) cell v23_6 v13_5)) rfl (by decide) (Nat.le_of_ble_eq_true rfl) (fun r73 Gc73 q73 => ?_) (fun E9 G9 h9 => h9.elim)
              obtain ⟨rfl, eG73⟩ := q73
              have eG73 := eG73.symm
              subst eG73
              refine y_blk 0 tq_X1_drawViewsOf (z := (76, [(7, .int (xtw (s23.2.2.1 0) (s23.2.2.1 1) cell v23_6 v13_5)), (0, .ref (ad 2)), (1, .int cell), (2, .long v23_2), (4, .int v23_4), (5, .int v13_5), (6, .int v23_6)], [.int (if xis ((s23.2.2.2.1 2) ||| (s23.2.2.2.1 3)) (xtw (s23.2.2.1 0) (s23.2.2.1 1) cell v23_6 v13_5) then 1 else 0)])) rfl ?_
              refine y_if_eq tq_X1_drawViewsOf 83 rfl rfl (fun c76 => ?_) (fun c76 => ?_)
              · skip
                refine y_blk 4 tq_X1_drawViewsOf (z := (89, [(8, .int 0), (7, .int (xtw (s23.2.2.1 0) (s23.2.2.1 1) cell v23_6 v13_5)), (0, .ref (ad 2)), (1, .int cell), (2, .long v23_2), (4, .int v23_4), (5, .int v13_5), (6, .int v23_6)], [.int (xtw (s23.2.2.1 0) (s23.2.2.1 1) cell v23_6 v13_5), .long v23_2])) rfl ?_
                refine y_callSN hS tq_X1_drawViewsOf rfl (As := [.int (xtw (s23.2.2.1 0) (s23.2.2.1 1) cell v23_6 v13_5)]) rfl cs_X1_62 (m_X8_setOf hS  (xtw (s23.2.2.1 0) (s23.2.2.1 1) cell v23_6 v13_5)) rfl (by decide) (Nat.le_of_ble_eq_true rfl) (fun r89 Gc89 q89 => ?_) (fun E9 G9 h9 => h9.elim)
                obtain ⟨rfl, eG89⟩ := q89
                have eG89 := eG89.symm
                subst eG89
                refine y_blk 3 tq_X1_drawViewsOf (z := (96, [(2, .long (v23_2 ||| (xset (xtw (s23.2.2.1 0) (s23.2.2.1 1) cell v23_6 v13_5)))), (8, .int 0), (7, .int (xtw (s23.2.2.1 0) (s23.2.2.1 1) cell v23_6 v13_5)), (0, .ref (ad 2)), (1, .int cell), (4, .int v23_4), (5, .int v13_5), (6, .int v23_6)], [.int 0])) rfl ?_
                refine y_if_eq tq_X1_drawViewsOf 111 rfl rfl (fun c96 => ?_) (fun c96 => ?_)
                · skip
                  refine y_blk 4 tq_X1_drawViewsOf (z := (23, [(6, .int (v23_6 + 1)), (4, .int v23_4), (2, .long (v23_2 ||| (xset (xtw (s23.2.2.1 0) (s23.2.2.1 1) cell v23_6 v13_5)))), (8, .int 0), (7, .int (xtw (s23.2.2.1 0) (s23.2.2.1 1) cell v23_6 v13_5)), (0, .ref (ad 2)), (1, .int cell), (5, .int v13_5)], [])) rfl ?_
                  refine y_pick (L2 := [(0, .ref (ad 2)), (1, .int cell), (2, .long (v23_2 ||| (xset (xtw (s23.2.2.1 0) (s23.2.2.1 1) cell v23_6 v13_5)))), (4, .int v23_4), (5, .int v13_5), (6, .int (v23_6 + 1))]) [5, 6, 2, 1, 7, 0] rfl ?_
                  exact ih23 _ (by exact ydec c27) (v23_2 ||| (xset (xtw (s23.2.2.1 0) (s23.2.2.1 1) cell v23_6 v13_5))) v23_4 (v23_6 + 1) G23 s23 hX23 hF23 ((kn23).w) gr23 (by first | exact xcn_step hh23 c27 | exact xcn_init (by decide)) (by first | exact itI_s es23 hh23 c27 (by first | exact absurd c96 (by decide) | exact absurd rfl c96 | (have e0 := (kn23).2.2.1 0 (by decide); have e1 := (kn23).2.2.1 1 (by decide); have e2 := (kn23).2.2.2.1 2 (by decide); have e3 := (kn23).2.2.2.1 3 (by decide); rw [← e0, ← e1, ← e2, ← e3]; first | exact dvF_no (Or.inl c32) | exact dvF_no (Or.inr c42) | exact dvF_end (Int32.not_le.mp c32) c42 (Or.inl c59) | exact dvF_end (Int32.not_le.mp c32) c42 (Or.inr (Classical.not_not.mp (fun q => c76 ((yif0 _).mpr q)))) | exact dvF_on (Int32.not_le.mp c32) c42 c59 ((yif0 _).mp c76))) | exact es13.trans itI_0) (by first | exact vs23 | exact vs13) (by exact c17) rfl
                · skip
                  refine y_blk 11 tq_X1_drawViewsOf (z := (23, [(6, .int (v23_6 + 1)), (4, .int (v23_4 &&& ((1 <<< (v23_6 &&& 31)) ^^^ (-1)))), (2, .long (v23_2 ||| (xset (xtw (s23.2.2.1 0) (s23.2.2.1 1) cell v23_6 v13_5)))), (8, .int 0), (7, .int (xtw (s23.2.2.1 0) (s23.2.2.1 1) cell v23_6 v13_5)), (0, .ref (ad 2)), (1, .int cell), (5, .int v13_5)], [])) rfl ?_
                  refine y_pick (L2 := [(0, .ref (ad 2)), (1, .int cell), (2, .long (v23_2 ||| (xset (xtw (s23.2.2.1 0) (s23.2.2.1 1) cell v23_6 v13_5)))), (4, .int (v23_4 &&& ((1 <<< (v23_6 &&& 31)) ^^^ (-1)))), (5, .int v13_5), (6, .int (v23_6 + 1))]) [5, 6, 2, 1, 7, 0] rfl ?_
                  exact ih23 _ (by exact ydec c27) (v23_2 ||| (xset (xtw (s23.2.2.1 0) (s23.2.2.1 1) cell v23_6 v13_5))) (v23_4 &&& ((1 <<< (v23_6 &&& 31)) ^^^ (-1))) (v23_6 + 1) G23 s23 hX23 hF23 ((kn23).w) gr23 (by first | exact xcn_step hh23 c27 | exact xcn_init (by decide)) (by first | exact itI_s es23 hh23 c27 (by first | exact absurd c96 (by decide) | exact absurd rfl c96 | (have e0 := (kn23).2.2.1 0 (by decide); have e1 := (kn23).2.2.1 1 (by decide); have e2 := (kn23).2.2.2.1 2 (by decide); have e3 := (kn23).2.2.2.1 3 (by decide); rw [← e0, ← e1, ← e2, ← e3]; first | exact dvF_no (Or.inl c32) | exact dvF_no (Or.inr c42) | exact dvF_end (Int32.not_le.mp c32) c42 (Or.inl c59) | exact dvF_end (Int32.not_le.mp c32) c42 (Or.inr (Classical.not_not.mp (fun q => c76 ((yif0 _).mpr q)))) | exact dvF_on (Int32.not_le.mp c32) c42 c59 ((yif0 _).mp c76))) | exact es13.trans itI_0) (by first | exact vs23 | exact vs13) (by exact c17) rfl
              · skip
                refine y_blk 5 tq_X1_drawViewsOf (z := (89, [(8, .int 1), (7, .int (xtw (s23.2.2.1 0) (s23.2.2.1 1) cell v23_6 v13_5)), (0, .ref (ad 2)), (1, .int cell), (2, .long v23_2), (4, .int v23_4), (5, .int v13_5), (6, .int v23_6)], [.int (xtw (s23.2.2.1 0) (s23.2.2.1 1) cell v23_6 v13_5), .long v23_2])) rfl ?_
                refine y_callSN hS tq_X1_drawViewsOf rfl (As := [.int (xtw (s23.2.2.1 0) (s23.2.2.1 1) cell v23_6 v13_5)]) rfl cs_X1_62 (m_X8_setOf hS  (xtw (s23.2.2.1 0) (s23.2.2.1 1) cell v23_6 v13_5)) rfl (by decide) (Nat.le_of_ble_eq_true rfl) (fun r89 Gc89 q89 => ?_) (fun E9 G9 h9 => h9.elim)
                obtain ⟨rfl, eG89⟩ := q89
                have eG89 := eG89.symm
                subst eG89
                refine y_blk 3 tq_X1_drawViewsOf (z := (96, [(2, .long (v23_2 ||| (xset (xtw (s23.2.2.1 0) (s23.2.2.1 1) cell v23_6 v13_5)))), (8, .int 1), (7, .int (xtw (s23.2.2.1 0) (s23.2.2.1 1) cell v23_6 v13_5)), (0, .ref (ad 2)), (1, .int cell), (4, .int v23_4), (5, .int v13_5), (6, .int v23_6)], [.int 1])) rfl ?_
                refine y_if_eq tq_X1_drawViewsOf 111 rfl rfl (fun c96 => ?_) (fun c96 => ?_)
                · skip
                  refine y_blk 4 tq_X1_drawViewsOf (z := (23, [(6, .int (v23_6 + 1)), (4, .int v23_4), (2, .long (v23_2 ||| (xset (xtw (s23.2.2.1 0) (s23.2.2.1 1) cell v23_6 v13_5)))), (8, .int 1), (7, .int (xtw (s23.2.2.1 0) (s23.2.2.1 1) cell v23_6 v13_5)), (0, .ref (ad 2)), (1, .int cell), (5, .int v13_5)], [])) rfl ?_
                  refine y_pick (L2 := [(0, .ref (ad 2)), (1, .int cell), (2, .long (v23_2 ||| (xset (xtw (s23.2.2.1 0) (s23.2.2.1 1) cell v23_6 v13_5)))), (4, .int v23_4), (5, .int v13_5), (6, .int (v23_6 + 1))]) [5, 6, 2, 1, 7, 0] rfl ?_
                  exact ih23 _ (by exact ydec c27) (v23_2 ||| (xset (xtw (s23.2.2.1 0) (s23.2.2.1 1) cell v23_6 v13_5))) v23_4 (v23_6 + 1) G23 s23 hX23 hF23 ((kn23).w) gr23 (by first | exact xcn_step hh23 c27 | exact xcn_init (by decide)) (by first | exact itI_s es23 hh23 c27 (by first | exact absurd c96 (by decide) | exact absurd rfl c96 | (have e0 := (kn23).2.2.1 0 (by decide); have e1 := (kn23).2.2.1 1 (by decide); have e2 := (kn23).2.2.2.1 2 (by decide); have e3 := (kn23).2.2.2.1 3 (by decide); rw [← e0, ← e1, ← e2, ← e3]; first | exact dvF_no (Or.inl c32) | exact dvF_no (Or.inr c42) | exact dvF_end (Int32.not_le.mp c32) c42 (Or.inl c59) | exact dvF_end (Int32.not_le.mp c32) c42 (Or.inr (Classical.not_not.mp (fun q => c76 ((yif0 _).mpr q)))) | exact dvF_on (Int32.not_le.mp c32) c42 c59 ((yif0 _).mp c76))) | exact es13.trans itI_0) (by first | exact vs23 | exact vs13) (by exact c17) rfl
                · skip
                  refine y_blk 11 tq_X1_drawViewsOf (z := (23, [(6, .int (v23_6 + 1)), (4, .int (v23_4 &&& ((1 <<< (v23_6 &&& 31)) ^^^ (-1)))), (2, .long (v23_2 ||| (xset (xtw (s23.2.2.1 0) (s23.2.2.1 1) cell v23_6 v13_5)))), (8, .int 1), (7, .int (xtw (s23.2.2.1 0) (s23.2.2.1 1) cell v23_6 v13_5)), (0, .ref (ad 2)), (1, .int cell), (5, .int v13_5)], [])) rfl ?_
                  refine y_pick (L2 := [(0, .ref (ad 2)), (1, .int cell), (2, .long (v23_2 ||| (xset (xtw (s23.2.2.1 0) (s23.2.2.1 1) cell v23_6 v13_5)))), (4, .int (v23_4 &&& ((1 <<< (v23_6 &&& 31)) ^^^ (-1)))), (5, .int v13_5), (6, .int (v23_6 + 1))]) [5, 6, 2, 1, 7, 0] rfl ?_
                  exact ih23 _ (by exact ydec c27) (v23_2 ||| (xset (xtw (s23.2.2.1 0) (s23.2.2.1 1) cell v23_6 v13_5))) (v23_4 &&& ((1 <<< (v23_6 &&& 31)) ^^^ (-1))) (v23_6 + 1) G23 s23 hX23 hF23 ((kn23).w) gr23 (by first | exact xcn_step hh23 c27 | exact xcn_init (by decide)) (by first | exact itI_s es23 hh23 c27 (by first | exact absurd c96 (by decide) | exact absurd rfl c96 | (have e0 := (kn23).2.2.1 0 (by decide); have e1 := (kn23).2.2.1 1 (by decide); have e2 := (kn23).2.2.2.1 2 (by decide); have e3 := (kn23).2.2.2.1 3 (by decide); rw [← e0, ← e1, ← e2, ← e3]; first | exact dvF_no (Or.inl c32) | exact dvF_no (Or.inr c42) | exact dvF_end (Int32.not_le.mp c32) c42 (Or.inl c59) | exact dvF_end (Int32.not_le.mp c32) c42 (Or.inr (Classical.not_not.mp (fun q => c76 ((yif0 _).mpr q)))) | exact dvF_on (Int32.not_le.mp c32) c42 c59 ((yif0 _).mp c76))) | exact es13.trans itI_0) (by first | exact vs23 | exact vs13) (by exact c17) rfl
    refine y_blk 2 tq_X1_drawViewsOf (z := (17, [(0, .ref (ad 2)), (1, .int cell), (2, .long v13_2), (4, .int v13_4), (5, .int v13_5)], [.int 8, .int v13_5])) rfl ?_
    refine y_icmp_ge tq_X1_drawViewsOf 159 rfl rfl (fun c17 => ?_) (fun c17 => ?_)
    · skip
      refine y_blk 0 tq_X1_drawViewsOf (z := (159, [(0, .ref (ad 2)), (1, .int cell), (2, .long v13_2), (4, .int v13_4), (5, .int v13_5)], [])) rfl ?_
      exact y_vret tq_X1_drawViewsOf rfl rfl (⟨rfl, _, hX13, hF13, (kn13).w, gr13, (by have e9 := xcn_stop hh13 c17; rw [e9] at vs13; exact vs13)⟩)
    · skip
      refine y_blk 2 tq_X1_drawViewsOf (z := (23, [(6, .int 0), (0, .ref (ad 2)), (1, .int cell), (2, .long v13_2), (4, .int v13_4), (5, .int v13_5)], [])) rfl ?_
      refine y_pick (L2 := [(0, .ref (ad 2)), (1, .int cell), (2, .long v13_2), (4, .int v13_4), (5, .int v13_5), (6, .int 0)]) [1, 2, 3, 4, 5, 0] rfl ?_
      exact J23 _ v13_2 v13_4 0 G13 s13 hX13 hF13 ((kn13).w) gr13 (by first | exact xcn_step hh23 c27 | exact xcn_init (by decide)) (by first | exact itI_s es23 hh23 c27 (by first | exact absurd c96 (by decide) | exact absurd rfl c96 | (have e0 := (kn13).2.2.1 0 (by decide); have e1 := (kn13).2.2.1 1 (by decide); have e2 := (kn13).2.2.2.1 2 (by decide); have e3 := (kn13).2.2.2.1 3 (by decide); rw [← e0, ← e1, ← e2, ← e3]; first | exact dvF_no (Or.inl c32) | exact dvF_no (Or.inr c42) | exact dvF_end (Int32.not_le.mp c32) c42 (Or.inl c59) | exact dvF_end (Int32.not_le.mp c32) c42 (Or.inr (Classical.not_not.mp (fun q => c76 ((yif0 _).mpr q)))) | exact dvF_on (Int32.not_le.mp c32) c42 c59 ((yif0 _).mp c76))) | exact es13.trans itI_0) (by first | exact vs23 | exact vs13) (by exact c17) rfl
  refine y_blk 1 tq_X1_drawViewsOf (z := (1, [(0, .ref (ad 2)), (1, .int cell)], [.int cell])) rfl ?_
  refine y_callSN hS tq_X1_drawViewsOf rfl (As := [.int cell]) rfl cs_X1_62 (m_X8_setOf hS  cell) rfl (by decide) (Nat.le_of_ble_eq_true rfl) (fun r1 Gc1 q1 => ?_) (fun E9 G9 h9 => h9.elim)
  obtain ⟨rfl, eG1⟩ := q1
  have eG1 := eG1.symm
  subst eG1
  refine y_blk 5 tq_X1_drawViewsOf (z := (13, [(5, .int 0), (4, .int 495), (2, .long (xset cell)), (0, .ref (ad 2)), (1, .int cell)], [])) rfl ?_
  refine y_pick (L2 := [(0, .ref (ad 2)), (1, .int cell), (2, .long (xset cell)), (4, .int 495), (5, .int 0)]) [3, 4, 2, 1, 0] rfl ?_
  exact J13 _ (xset cell) 495 0 G σ hX keepX.rfl' ((xkn.rfl').w) xgr.rfl' (by first | exact xcn_step hh13 c17 | exact xcn_init (by decide)) (by first | exact itI_s (F := dvA (σ.2.2.1 0) (σ.2.2.1 1) (σ.2.2.2.1 2 ||| σ.2.2.2.1 3) cell) rfl hh13 c17 (itI_e es23 hh23 c27) | exact (itI_0 (F := dvA (σ.2.2.1 0) (σ.2.2.1 1) (σ.2.2.2.1 2 ||| σ.2.2.2.1 3) cell))) (by first | exact xvd_st hh13 c17 vs23 (itI_s (F := dvA (σ.2.2.1 0) (σ.2.2.1 1) (σ.2.2.2.1 2 ||| σ.2.2.2.1 3) cell) rfl hh13 c17 (itI_e es23 hh23 c27)) | exact xvd_n1 hh13 c17 c132 | exact xvd_n2 hh13 c17 c142 | exact fun _ => xdvV_0) rfl
set_option maxHeartbeats 4000000 in
set_option maxRecDepth 100000 in
theorem m_X1_drawViews_v {l : Launch} {S0 : State} {A0 : Array Value} {D : va_G} {aC : Nat → ClassId} {ad : Nat → Nat} {G : AH} {σ : XS} (hS : yS l S0 A0 D aC) (hX : atX aC ad G σ) : yM l S0 D yX1_drawViews cX1_drawViews 2 none 14 0 0 [.ref (ad 2)] G (fun r G1 => r = none ∧ ∃ σ1 : XS, atX aC ad G1 σ1 ∧ keepX G G1 ∧ xfr [61] σ σ1 ∧ xgr σ σ1 ∧ xvd σ1) (fun _ _ => False) := by
  refine yM.ofK K_X1_drawViews rfl (by decide) (Nat.le_of_ble_eq_true rfl) ?_
  have J2 : ∀ (n2 : Nat) (v2_1 : Int32) (G2 : AH) (s2 : XS) (hX2 : atX aC ad G2 s2) (hF2 : keepX G G2) (kn2 : xfr [61] σ s2) (gr2 : xgr σ s2) (vw2 : xvw2 σ s2 v2_1), (((s2.2.2.1 0) * (s2.2.2.1 1) : Int32).toInt - v2_1.toInt).toNat = n2 → Y l S0 D K_X1_drawViews 14 0 0 (fun r G1 => r = none ∧ ∃ σ1 : XS, atX aC ad G1 σ1 ∧ keepX G G1 ∧ xfr [61] σ σ1 ∧ xgr σ σ1 ∧ xvd σ1) (fun _ _ => False) 2 [(0, .ref (ad 2)), (1, .int v2_1)] [] G2 0 0 := by
    intro n2
    induction n2 using Nat.strongRecOn with
    | _ n2 ih2 =>
    intro v2_1 G2 s2 hX2 hF2 kn2 gr2 vw2 hn2
    subst hn2
    refine y_blk 2 tq_X1_drawViews (z := (4, [(0, .ref (ad 2)), (1, .int v2_1)], [.ref (ad 2), .int v2_1])) rfl ?_
    refine y_callV hS tq_X1_drawViews rfl (As := []) rfl cv_X1_38 (hX2.1 2 _ rfl) (m_X1_cells hS hX2 ) rfl (by decide) (Nat.le_of_ble_eq_true rfl) (fun r4 Gc4 q4 => ?_) (fun E9 G9 h9 => h9.elim)
    obtain ⟨rfl, eG4⟩ := q4
    have eG4 := eG4.symm
    subst eG4
    refine y_blk 0 tq_X1_drawViews (z := (7, [(0, .ref (ad 2)), (1, .int v2_1)], [.int ((s2.2.2.1 0) * (s2.2.2.1 1)), .int v2_1])) rfl ?_
    refine y_icmp_ge tq_X1_drawViews 21 rfl rfl (fun c7 => ?_) (fun c7 => ?_)
    · skip
      refine y_blk 0 tq_X1_drawViews (z := (21, [(0, .ref (ad 2)), (1, .int v2_1)], [])) rfl ?_
      exact y_vret tq_X1_drawViews rfl rfl (⟨rfl, _, hX2, hF2, (kn2).w, gr2, vw2.stop ((kn2).w) c7⟩)
    · skip
      refine y_blk 2 tq_X1_drawViews (z := (12, [(0, .ref (ad 2)), (1, .int v2_1)], [.int v2_1, .ref (ad 2)])) rfl ?_
      refine y_callV hS tq_X1_drawViews rfl (As := [.int v2_1]) rfl cv_X1_105 (hX2.1 2 _ rfl) (m_X1_drawViewsOf_v hS hX2 v2_1) rfl (by decide) (Nat.le_of_ble_eq_true rfl) (fun r12 Gc12 q12 => ?_) (fun E9 G9 h9 => h9.elim)
      obtain ⟨rfl, σ12, hXc12, hFc12, knc12, hR12, hS12⟩ := q12
      refine y_blk 2 tq_X1_drawViews (z := (2, [(1, .int (v2_1 + 1)), (0, .ref (ad 2))], [])) rfl ?_
      refine y_pick (L2 := [(0, .ref (ad 2)), (1, .int (v2_1 + 1))]) [1, 0] rfl ?_
      exact ih2 _ (by rw [hR12.2.2]; exact ydec c7) (v2_1 + 1) Gc12 σ12 hXc12 (hF2.trans hFc12) (((xkn.trans kn2 knc12)).w) (xgr.trans gr2 hR12) (by first | exact vw2.step kn2 c7 hS12 | exact xvw2.init) rfl
  refine y_blk 2 tq_X1_drawViews (z := (2, [(1, .int 0), (0, .ref (ad 2))], [])) rfl ?_
  refine y_pick (L2 := [(0, .ref (ad 2)), (1, .int 0)]) [1, 0] rfl ?_
  exact J2 _ 0 G σ hX keepX.rfl' ((xkn.rfl').w) xgr.rfl' (by first | exact vw2.step kn2 c7 hS12 | exact xvw2.init) rfl
set_option maxHeartbeats 4000000 in
set_option maxRecDepth 100000 in
theorem m_X1_change_v {l : Launch} {S0 : State} {A0 : Array Value} {D : va_G} {aC : Nat → ClassId} {ad : Nat → Nat} {G : AH} {σ : XS} (hS : yS l S0 A0 D aC) (hX : atX aC ad G σ) (cell : Int32) (kind : Int32) : yM l S0 D yX1_change cX1_change 3 none 15 0 0 [.ref (ad 2), .int cell, .int kind] G (fun r G1 => r = none ∧ ∃ σ1 : XS, atX aC ad G1 σ1 ∧ keepX G G1 ∧ xfr [58, 59, 60, 61] σ σ1 ∧ xgr σ σ1 ∧ xsk σ σ1 cell kind ∧ xvd σ1) (fun _ _ => False) := by
  refine yM.ofK K_X1_change rfl (by decide) (Nat.le_of_ble_eq_true rfl) ?_
  refine y_blk 3 tq_X1_change (z := (3, [(0, .ref (ad 2)), (1, .int cell), (2, .int kind)], [.int kind, .int cell, .ref (ad 2)])) rfl ?_
  refine y_callV hS tq_X1_change rfl (As := [.int cell, .int kind]) rfl cv_X1_49 (hX.1 2 _ rfl) (m_X1_setKind hS hX cell kind) rfl (by decide) (Nat.le_of_ble_eq_true rfl) (fun r3 Gc3 q3 => ?_) (fun E9 G9 h9 => h9.elim)
  obtain ⟨rfl, σ3, hXc3, hFc3, knc3, hR3, hS3⟩ := q3
  refine y_blk 1 tq_X1_change (z := (7, [(0, .ref (ad 2)), (1, .int cell), (2, .int kind)], [.ref (ad 2)])) rfl ?_
  refine y_callV hS tq_X1_change rfl (As := []) rfl cv_X1_56 (hXc3.1 2 _ rfl) (m_X1_drawViews_v hS hXc3 ) rfl (by decide) (Nat.le_of_ble_eq_true rfl) (fun r7 Gc7 q7 => ?_) (fun E9 G9 h9 => h9.elim)
  obtain ⟨rfl, σ7, hXc7, hFc7, knc7, hR7, hS7⟩ := q7
  refine y_blk 0 tq_X1_change (z := (10, [(0, .ref (ad 2)), (1, .int cell), (2, .int kind)], [])) rfl ?_
  exact y_vret tq_X1_change rfl rfl (⟨rfl, _, hXc7, ((keepX.rfl'.trans hFc3).trans hFc7), ((xkn.trans (xkn.trans xkn.rfl' knc3) knc7)).w, (xgr.trans (xgr.trans xgr.rfl' hR3) hR7), ⟨knc7.s hS3.1, knc7.s hS3.2.1, knc7.s hS3.2.2⟩, hS7⟩)
set_option maxHeartbeats 4000000 in
set_option maxRecDepth 100000 in
theorem m_X1_build_v {l : Launch} {S0 : State} {A0 : Array Value} {D : va_G} {aC : Nat → ClassId} {ad : Nat → Nat} {G : AH} {σ : XS} (hS : yS l S0 A0 D aC) (hX : atX aC ad G σ) (newWide : Int32) (newHigh : Int32) (seed : Int32) (hw : newWide.toInt ≤ 8) (hn : 0 ≤ (newWide * newHigh).toInt ∧ (newWide * newHigh).toInt ≤ 64) : yM l S0 D yX1_build cX1_build 6 none 15 0 0 [.ref (ad 2), .int newWide, .int newHigh, .int seed] G (fun r G1 => r = none ∧ ∃ σ1 : XS, atX aC ad G1 σ1 ∧ keepX G G1 ∧ xfr [48, 49, 50, 51, 56, 57, 58, 59, 60, 61] σ σ1 ∧ σ1.2.2.1 0 = newWide ∧ σ1.2.2.1 1 = newHigh ∧ xbf (newWide * newHigh).toInt.toNat seed σ1 ∧ σ1.2.2.1 2 = 1 ∧ σ1.2.2.1 3 = 0 ∧ xvd σ1) (fun _ _ => False) := by
  refine yM.ofK K_X1_build rfl (by decide) (Nat.le_of_ble_eq_true rfl) ?_
  have J35 : ∀ (n35 : Nat) (v35_4 : Int32) (v35_5 : Int32) (G35 : AH) (s35 : XS) (hX35 : atX aC ad G35 s35) (hF35 : keepX G G35) (kn35 : xfr [48, 49, 50, 51, 56, 57, 58, 59, 60, 61] σ s35) (hwh : s35.2.2.1 0 = newWide ∧ s35.2.2.1 1 = newHigh) (hb35 : xbd (newWide * newHigh).toInt.toNat seed s35 v35_4 v35_5), (((s35.2.2.1 0) * (s35.2.2.1 1) : Int32).toInt - v35_5.toInt).toNat = n35 → Y l S0 D K_X1_build 15 0 0 (fun r G1 => r = none ∧ ∃ σ1 : XS, atX aC ad G1 σ1 ∧ keepX G G1 ∧ xfr [48, 49, 50, 51, 56, 57, 58, 59, 60, 61] σ σ1 ∧ σ1.2.2.1 0 = newWide ∧ σ1.2.2.1 1 = newHigh ∧ xbf (newWide * newHigh).toInt.toNat seed σ1 ∧ σ1.2.2.1 2 = 1 ∧ σ1.2.2.1 3 = 0 ∧ xvd σ1) (fun _ _ => False) 35 [(0, .ref (ad 2)), (1, .int newWide), (2, .int newHigh), (3, .int seed), (4, .int v35_4), (5, .int v35_5)] [] G35 0 0 := by
    intro n35
    induction n35 using Nat.strongRecOn with
    | _ n35 ih35 =>
    intro v35_4 v35_5 G35 s35 hX35 hF35 kn35 hwh hb35 hn35
    subst hn35
    have J72 : ∀ (v72_4 : Int32) (w72_0 : Int32) (hk72 : v72_4 = yaft v35_4 ∧ w72_0 = kd seed v35_5.toInt.toNat) (c41 : ¬ ((s35.2.2.1 0) * (s35.2.2.1 1) : Int32) ≤ v35_5), Y l S0 D K_X1_build 15 0 0 (fun r G1 => r = none ∧ ∃ σ1 : XS, atX aC ad G1 σ1 ∧ keepX G G1 ∧ xfr [48, 49, 50, 51, 56, 57, 58, 59, 60, 61] σ σ1 ∧ σ1.2.2.1 0 = newWide ∧ σ1.2.2.1 1 = newHigh ∧ xbf (newWide * newHigh).toInt.toNat seed σ1 ∧ σ1.2.2.1 2 = 1 ∧ σ1.2.2.1 3 = 0 ∧ xvd σ1) (fun _ _ => False) 72 [(0, .ref (ad 2)), (1, .int newWide), (2, .int newHigh), (3, .int seed), (4, .int v72_4), (5, .int v35_5)] [.int w72_0, .int v35_5, .ref (ad 2)] G35 0 0 := by
      intro v72_4 w72_0 hk72 c41
      refine y_callV hS tq_X1_build rfl (As := [.int v35_5, .int w72_0]) rfl cv_X1_49 (hX35.1 2 _ rfl) (m_X1_setKind hS hX35 v35_5 w72_0) rfl (by decide) (Nat.le_of_ble_eq_true rfl) (fun r72 Gc72 q72 => ?_) (fun E9 G9 h9 => h9.elim)
      obtain ⟨rfl, σ72, hXc72, hFc72, knc72, hR72, hS72⟩ := q72
      refine y_blk 2 tq_X1_build (z := (35, [(5, .int (v35_5 + 1)), (0, .ref (ad 2)), (1, .int newWide), (2, .int newHigh), (3, .int seed), (4, .int v72_4)], [])) rfl ?_
      refine y_pick (L2 := [(0, .ref (ad 2)), (1, .int newWide), (2, .int newHigh), (3, .int seed), (4, .int v72_4), (5, .int (v35_5 + 1))]) [1, 2, 3, 4, 5, 0] rfl ?_
      exact ih35 _ (by rw [hR72.2.2]; exact ydec c41) v72_4 (v35_5 + 1) Gc72 σ72 hXc72 (hF35.trans hFc72) (((xkn.trans kn35 knc72)).w) (by first | exact ⟨knc72.i hwh.1, knc72.i hwh.2⟩ | exact ⟨knc11.i rfl, knc11.i rfl⟩) (by first | exact hb35.step hS72 (by omega) (xlt hwh hn c41) hk72 | exact xbd.init rfl rfl rfl) rfl
    refine y_blk 2 tq_X1_build (z := (38, [(0, .ref (ad 2)), (1, .int newWide), (2, .int newHigh), (3, .int seed), (4, .int v35_4), (5, .int v35_5)], [.ref (ad 2), .int v35_5])) rfl ?_
    refine y_callV hS tq_X1_build rfl (As := []) rfl cv_X1_38 (hX35.1 2 _ rfl) (m_X1_cells hS hX35 ) rfl (by decide) (Nat.le_of_ble_eq_true rfl) (fun r38 Gc38 q38 => ?_) (fun E9 G9 h9 => h9.elim)
    obtain ⟨rfl, eG38⟩ := q38
    have eG38 := eG38.symm
    subst eG38
    refine y_blk 0 tq_X1_build (z := (41, [(0, .ref (ad 2)), (1, .int newWide), (2, .int newHigh), (3, .int seed), (4, .int v35_4), (5, .int v35_5)], [.int ((s35.2.2.1 0) * (s35.2.2.1 1)), .int v35_5])) rfl ?_
    refine y_icmp_ge tq_X1_build 81 rfl rfl (fun c41 => ?_) (fun c41 => ?_)
    · skip
      refine y_blk 3 tq_X1_build (z := (84, [(0, .ref (ad 2)), (1, .int newWide), (2, .int newHigh), (3, .int seed), (4, .int v35_4), (5, .int v35_5)], [.int 0, .int 1, .ref (ad 2)])) rfl ?_
      refine y_callV hS tq_X1_build rfl (As := [.int 1, .int 0]) rfl cv_X1_53 (hX35.1 2 _ rfl) (m_X1_openGates hS hX35 1 0) rfl (by decide) (Nat.le_of_ble_eq_true rfl) (fun r84 Gc84 q84 => ?_) (fun E9 G9 h9 => h9.elim)
      obtain ⟨rfl, hXc84, hFc84⟩ := q84
      refine y_blk 1 tq_X1_build (z := (88, [(0, .ref (ad 2)), (1, .int newWide), (2, .int newHigh), (3, .int seed), (4, .int v35_4), (5, .int v35_5)], [.ref (ad 2)])) rfl ?_
      refine y_callV hS tq_X1_build rfl (As := []) rfl cv_X1_56 (hXc84.1 2 _ rfl) (m_X1_drawViews_v hS hXc84 ) rfl (by decide) (Nat.le_of_ble_eq_true rfl) (fun r88 Gc88 q88 => ?_) (fun E9 G9 h9 => h9.elim)
      obtain ⟨rfl, σ88, hXc88, hFc88, knc88, hR88, hS88⟩ := q88
      refine y_blk 0 tq_X1_build (z := (91, [(0, .ref (ad 2)), (1, .int newWide), (2, .int newHigh), (3, .int seed), (4, .int v35_4), (5, .int v35_5)], [])) rfl ?_
      exact y_vret tq_X1_build rfl rfl (⟨rfl, _, hXc88, ((hF35.trans hFc84).trans hFc88), ((xkn.trans (xkn.trans kn35 (xkn.trans xkn_in xkn_in)) knc88)).w, knc88.i hwh.1, knc88.i hwh.2, (show xbf _ _ (xin (xin s35 2 1) 3 0) from hb35.stop (xge hwh hn c41)).fr knc88, knc88.i rfl, knc88.i rfl, hS88⟩)
    · skip
      refine y_blk 1 tq_X1_build (z := (46, [(0, .ref (ad 2)), (1, .int newWide), (2, .int newHigh), (3, .int seed), (4, .int v35_4), (5, .int v35_5)], [.int v35_4])) rfl ?_
      refine y_callSN hS tq_X1_build rfl (As := [.int v35_4]) rfl cs_X1_42 (m_X8_nextOfRow hS  v35_4) rfl (by decide) (Nat.le_of_ble_eq_true rfl) (fun r46 Gc46 q46 => ?_) (fun E9 G9 h9 => h9.elim)
      obtain ⟨rfl, eG46⟩ := q46
      have eG46 := eG46.symm
      subst eG46
      refine y_blk 5 tq_X1_build (z := (57, [(4, .int (yaft v35_4)), (0, .ref (ad 2)), (1, .int newWide), (2, .int newHigh), (3, .int seed), (5, .int v35_5)], [.int 100, .int seed, .int v35_5, .ref (ad 2)])) rfl ?_
      refine y_icmp_ne tq_X1_build 64 rfl rfl (fun c57 => ?_) (fun c57 => ?_)
      · skip
        refine y_blk 2 tq_X1_build (z := (68, [(4, .int (yaft v35_4)), (0, .ref (ad 2)), (1, .int newWide), (2, .int newHigh), (3, .int seed), (5, .int v35_5)], [.int 10, .int (yaft v35_4), .int v35_5, .ref (ad 2)])) rfl ?_
        refine y_irem tq_X1_build rfl (by decide) ?_
        refine y_blk 0 tq_X1_build (z := (69, [(4, .int (yaft v35_4)), (0, .ref (ad 2)), (1, .int newWide), (2, .int newHigh), (3, .int seed), (5, .int v35_5)], [.int ((yaft v35_4) - (yaft v35_4) / 10 * 10), .int v35_5, .ref (ad 2)])) rfl ?_
        refine y_callS hS tq_X1_build rfl (As := [.int ((yaft v35_4) - (yaft v35_4) / 10 * 10)]) rfl cs_X1_46 (m_X1_kindOfDigit hS hX35 ((yaft v35_4) - (yaft v35_4) / 10 * 10)) rfl (by decide) (Nat.le_of_ble_eq_true rfl) (fun r69 Gc69 q69 => ?_) (fun E9 G9 h9 => h9.elim)
        obtain ⟨rfl, eG69⟩ := q69
        have eG69 := eG69.symm
        subst eG69
        refine y_blk 0 tq_X1_build (z := (72, [(4, .int (yaft v35_4)), (0, .ref (ad 2)), (1, .int newWide), (2, .int newHigh), (3, .int seed), (5, .int v35_5)], [.int (xkd ((yaft v35_4) - (yaft v35_4) / 10 * 10)), .int v35_5, .ref (ad 2)])) rfl ?_
        refine y_pick (L2 := [(0, .ref (ad 2)), (1, .int newWide), (2, .int newHigh), (3, .int seed), (4, .int (yaft v35_4)), (5, .int v35_5)]) [1, 2, 3, 4, 0, 5] rfl ?_
        exact J72 (yaft v35_4) (xkd ((yaft v35_4) - (yaft v35_4) / 10 * 10)) (by first | exact ⟨rfl, hb35.kA c57⟩ | exact ⟨rfl, kB c57⟩) (by exact c41)
      · skip
        refine y_blk 2 tq_X1_build (z := (72, [(4, .int (yaft v35_4)), (0, .ref (ad 2)), (1, .int newWide), (2, .int newHigh), (3, .int seed), (5, .int v35_5)], [.int 0, .int v35_5, .ref (ad 2)])) rfl ?_
        refine y_pick (L2 := [(0, .ref (ad 2)), (1, .int newWide), (2, .int newHigh), (3, .int seed), (4, .int (yaft v35_4)), (5, .int v35_5)]) [1, 2, 3, 4, 0, 5] rfl ?_
        exact J72 (yaft v35_4) 0 (by first | exact ⟨rfl, hb35.kA c57⟩ | exact ⟨rfl, kB c57⟩) (by exact c41)
  refine y_blk 2 tq_X1_build (z := (2, [(0, .ref (ad 2)), (1, .int newWide), (2, .int newHigh), (3, .int seed)], [.int newWide, .ref (ad 2)])) rfl ?_
  refine y_put hS tq_X1_build rfl fp_X1_19_X1 (hX.1 2 _ rfl) (by omega) rfl rfl (Nat.le_of_ble_eq_true rfl) ?_
  have hXw2 : atX aC ad (yup G (ad 2) (2, .inr (5, [.int newWide, .int (σ.2.2.1 1), .long (σ.2.2.2.1 0), .long (σ.2.2.2.1 1), .long (σ.2.2.2.1 2), .long (σ.2.2.2.1 3), .long (σ.2.2.2.1 4), .int (σ.2.2.1 2), .int (σ.2.2.1 3), .ref (ad 3)]))) (xin σ 0 newWide) := hX.setIn 0 2 (fun _ => hw) (by omega) rfl rfl
  have hFw2 : keepX G (yup G (ad 2) (2, .inr (5, [.int newWide, .int (σ.2.2.1 1), .long (σ.2.2.2.1 0), .long (σ.2.2.2.1 1), .long (σ.2.2.2.1 2), .long (σ.2.2.2.1 3), .long (σ.2.2.2.1 4), .int (σ.2.2.1 2), .int (σ.2.2.1 3), .ref (ad 3)]))) := (keepX.rfl' (G := G)).up (hX.1 2 _ rfl) (by omega) (by omega)
  show Y l S0 D K_X1_build 15 0 0 (fun r G1 => r = none ∧ ∃ σ1 : XS, atX aC ad G1 σ1 ∧ keepX G G1 ∧ xfr [48, 49, 50, 51, 56, 57, 58, 59, 60, 61] σ σ1 ∧ σ1.2.2.1 0 = newWide ∧ σ1.2.2.1 1 = newHigh ∧ xbf (newWide * newHigh).toInt.toNat seed σ1 ∧ σ1.2.2.1 2 = 1 ∧ σ1.2.2.1 3 = 0 ∧ xvd σ1) (fun _ _ => False) (2 + 3) [(0, .ref (ad 2)), (1, .int newWide), (2, .int newHigh), (3, .int seed)] [] (yup G (ad 2) (2, .inr (5, [.int newWide, .int (σ.2.2.1 1), .long (σ.2.2.2.1 0), .long (σ.2.2.2.1 1), .long (σ.2.2.2.1 2), .long (σ.2.2.2.1 3), .long (σ.2.2.2.1 4), .int (σ.2.2.1 2), .int (σ.2.2.1 3), .ref (ad 3)]))) 0 0
  generalize yup G (ad 2) (2, .inr (5, [.int newWide, .int (σ.2.2.1 1), .long (σ.2.2.2.1 0), .long (σ.2.2.2.1 1), .long (σ.2.2.2.1 2), .long (σ.2.2.2.1 3), .long (σ.2.2.2.1 4), .int (σ.2.2.1 2), .int (σ.2.2.1 3), .ref (ad 3)])) = Gw2 at hXw2 hFw2 ⊢
  refine y_blk 2 tq_X1_build (z := (7, [(0, .ref (ad 2)), (1, .int newWide), (2, .int newHigh), (3, .int seed)], [.int newHigh, .ref (ad 2)])) rfl ?_
  refine y_put hS tq_X1_build rfl fp_X1_22_X1 (hXw2.1 2 _ rfl) (by omega) rfl rfl (Nat.le_of_ble_eq_true rfl) ?_
  have hXw7 : atX aC ad (yup Gw2 (ad 2) (2, .inr (5, [.int (((xin σ 0 newWide)).2.2.1 0), .int newHigh, .long (((xin σ 0 newWide)).2.2.2.1 0), .long (((xin σ 0 newWide)).2.2.2.1 1), .long (((xin σ 0 newWide)).2.2.2.1 2), .long (((xin σ 0 newWide)).2.2.2.1 3), .long (((xin σ 0 newWide)).2.2.2.1 4), .int (((xin σ 0 newWide)).2.2.1 2), .int (((xin σ 0 newWide)).2.2.1 3), .ref (ad 3)]))) (xin (xin σ 0 newWide) 1 newHigh) := hXw2.setIn 1 2 (fun q => absurd q (by decide)) (by omega) rfl rfl
  have hFw7 : keepX G (yup Gw2 (ad 2) (2, .inr (5, [.int (((xin σ 0 newWide)).2.2.1 0), .int newHigh, .long (((xin σ 0 newWide)).2.2.2.1 0), .long (((xin σ 0 newWide)).2.2.2.1 1), .long (((xin σ 0 newWide)).2.2.2.1 2), .long (((xin σ 0 newWide)).2.2.2.1 3), .long (((xin σ 0 newWide)).2.2.2.1 4), .int (((xin σ 0 newWide)).2.2.1 2), .int (((xin σ 0 newWide)).2.2.1 3), .ref (ad 3)]))) := hFw2.up (hXw2.1 2 _ rfl) (by omega) (by omega)
  show Y l S0 D K_X1_build 15 0 0 (fun r G1 => r = none ∧ ∃ σ1 : XS, atX aC ad G1 σ1 ∧ keepX G G1 ∧ xfr [48, 49, 50, 51, 56, 57, 58, 59, 60, 61] σ σ1 ∧ σ1.2.2.1 0 = newWide ∧ σ1.2.2.1 1 = newHigh ∧ xbf (newWide * newHigh).toInt.toNat seed σ1 ∧ σ1.2.2.1 2 = 1 ∧ σ1.2.2.1 3 = 0 ∧ xvd σ1) (fun _ _ => False) (7 + 3) [(0, .ref (ad 2)), (1, .int newWide), (2, .int newHigh), (3, .int seed)] [] (yup Gw2 (ad 2) (2, .inr (5, [.int (((xin σ 0 newWide)).2.2.1 0), .int newHigh, .long (((xin σ 0 newWide)).2.2.2.1 0), .long (((xin σ 0 newWide)).2.2.2.1 1), .long (((xin σ 0 newWide)).2.2.2.1 2), .long (((xin σ 0 newWide)).2.2.2.1 3), .long (((xin σ 0 newWide)).2.2.2.1 4), .int (((xin σ 0 newWide)).2.2.1 2), .int (((xin σ 0 newWide)).2.2.1 3), .ref (ad 3)]))) 0 0
  generalize yup Gw2 (ad 2) (2, .inr (5, [.int (((xin σ 0 newWide)).2.2.1 0), .int newHigh, .long (((xin σ 0 newWide)).2.2.2.1 0), .long (((xin σ 0 newWide)).2.2.2.1 1), .long (((xin σ 0 newWide)).2.2.2.1 2), .long (((xin σ 0 newWide)).2.2.2.1 3), .long (((xin σ 0 newWide)).2.2.2.1 4), .int (((xin σ 0 newWide)).2.2.1 2), .int (((xin σ 0 newWide)).2.2.1 3), .ref (ad 3)])) = Gw7 at hXw7 hFw7 ⊢
  refine y_blk 1 tq_X1_build (z := (11, [(0, .ref (ad 2)), (1, .int newWide), (2, .int newHigh), (3, .int seed)], [.ref (ad 2)])) rfl ?_
  refine y_callV hS tq_X1_build rfl (As := []) rfl cv_X1_25 (hXw7.1 2 _ rfl) (m_X1_drawColumns hS hXw7 ) rfl (by decide) (Nat.le_of_ble_eq_true rfl) (fun r11 Gc11 q11 => ?_) (fun E9 G9 h9 => h9.elim)
  obtain ⟨rfl, σ11, hXc11, hFc11, knc11, hR11⟩ := q11
  refine y_blk 2 tq_X1_build (z := (16, [(0, .ref (ad 2)), (1, .int newWide), (2, .int newHigh), (3, .int seed)], [.long 0, .ref (ad 2)])) rfl ?_
  refine y_put hS tq_X1_build rfl fp_X1_28_X1 (hXc11.1 2 _ rfl) (by omega) rfl rfl (Nat.le_of_ble_eq_true rfl) ?_
  have hXw16 : atX aC ad (yup Gc11 (ad 2) (2, .inr (5, [.int (σ11.2.2.1 0), .int (σ11.2.2.1 1), .long (σ11.2.2.2.1 0), .long (σ11.2.2.2.1 1), .long 0, .long (σ11.2.2.2.1 3), .long (σ11.2.2.2.1 4), .int (σ11.2.2.1 2), .int (σ11.2.2.1 3), .ref (ad 3)]))) (xlo σ11 2 0) := hXc11.setLo 2 rfl rfl
  have hFw16 : keepX G (yup Gc11 (ad 2) (2, .inr (5, [.int (σ11.2.2.1 0), .int (σ11.2.2.1 1), .long (σ11.2.2.2.1 0), .long (σ11.2.2.2.1 1), .long 0, .long (σ11.2.2.2.1 3), .long (σ11.2.2.2.1 4), .int (σ11.2.2.1 2), .int (σ11.2.2.1 3), .ref (ad 3)]))) := (hFw7.trans hFc11).up (hXc11.1 2 _ rfl) (by omega) (by omega)
  show Y l S0 D K_X1_build 15 0 0 (fun r G1 => r = none ∧ ∃ σ1 : XS, atX aC ad G1 σ1 ∧ keepX G G1 ∧ xfr [48, 49, 50, 51, 56, 57, 58, 59, 60, 61] σ σ1 ∧ σ1.2.2.1 0 = newWide ∧ σ1.2.2.1 1 = newHigh ∧ xbf (newWide * newHigh).toInt.toNat seed σ1 ∧ σ1.2.2.1 2 = 1 ∧ σ1.2.2.1 3 = 0 ∧ xvd σ1) (fun _ _ => False) (16 + 3) [(0, .ref (ad 2)), (1, .int newWide), (2, .int newHigh), (3, .int seed)] [] (yup Gc11 (ad 2) (2, .inr (5, [.int (σ11.2.2.1 0), .int (σ11.2.2.1 1), .long (σ11.2.2.2.1 0), .long (σ11.2.2.2.1 1), .long 0, .long (σ11.2.2.2.1 3), .long (σ11.2.2.2.1 4), .int (σ11.2.2.1 2), .int (σ11.2.2.1 3), .ref (ad 3)]))) 0 0
  generalize yup Gc11 (ad 2) (2, .inr (5, [.int (σ11.2.2.1 0), .int (σ11.2.2.1 1), .long (σ11.2.2.2.1 0), .long (σ11.2.2.2.1 1), .long 0, .long (σ11.2.2.2.1 3), .long (σ11.2.2.2.1 4), .int (σ11.2.2.1 2), .int (σ11.2.2.1 3), .ref (ad 3)])) = Gw16 at hXw16 hFw16 ⊢
  refine y_blk 2 tq_X1_build (z := (21, [(0, .ref (ad 2)), (1, .int newWide), (2, .int newHigh), (3, .int seed)], [.long 0, .ref (ad 2)])) rfl ?_
  refine y_put hS tq_X1_build rfl fp_X1_32_X1 (hXw16.1 2 _ rfl) (by omega) rfl rfl (Nat.le_of_ble_eq_true rfl) ?_
  have hXw21 : atX aC ad (yup Gw16 (ad 2) (2, .inr (5, [.int (((xlo σ11 2 0)).2.2.1 0), .int (((xlo σ11 2 0)).2.2.1 1), .long (((xlo σ11 2 0)).2.2.2.1 0), .long (((xlo σ11 2 0)).2.2.2.1 1), .long (((xlo σ11 2 0)).2.2.2.1 2), .long 0, .long (((xlo σ11 2 0)).2.2.2.1 4), .int (((xlo σ11 2 0)).2.2.1 2), .int (((xlo σ11 2 0)).2.2.1 3), .ref (ad 3)]))) (xlo (xlo σ11 2 0) 3 0) := hXw16.setLo 3 rfl rfl
  have hFw21 : keepX G (yup Gw16 (ad 2) (2, .inr (5, [.int (((xlo σ11 2 0)).2.2.1 0), .int (((xlo σ11 2 0)).2.2.1 1), .long (((xlo σ11 2 0)).2.2.2.1 0), .long (((xlo σ11 2 0)).2.2.2.1 1), .long (((xlo σ11 2 0)).2.2.2.1 2), .long 0, .long (((xlo σ11 2 0)).2.2.2.1 4), .int (((xlo σ11 2 0)).2.2.1 2), .int (((xlo σ11 2 0)).2.2.1 3), .ref (ad 3)]))) := hFw16.up (hXw16.1 2 _ rfl) (by omega) (by omega)
  show Y l S0 D K_X1_build 15 0 0 (fun r G1 => r = none ∧ ∃ σ1 : XS, atX aC ad G1 σ1 ∧ keepX G G1 ∧ xfr [48, 49, 50, 51, 56, 57, 58, 59, 60, 61] σ σ1 ∧ σ1.2.2.1 0 = newWide ∧ σ1.2.2.1 1 = newHigh ∧ xbf (newWide * newHigh).toInt.toNat seed σ1 ∧ σ1.2.2.1 2 = 1 ∧ σ1.2.2.1 3 = 0 ∧ xvd σ1) (fun _ _ => False) (21 + 3) [(0, .ref (ad 2)), (1, .int newWide), (2, .int newHigh), (3, .int seed)] [] (yup Gw16 (ad 2) (2, .inr (5, [.int (((xlo σ11 2 0)).2.2.1 0), .int (((xlo σ11 2 0)).2.2.1 1), .long (((xlo σ11 2 0)).2.2.2.1 0), .long (((xlo σ11 2 0)).2.2.2.1 1), .long (((xlo σ11 2 0)).2.2.2.1 2), .long 0, .long (((xlo σ11 2 0)).2.2.2.1 4), .int (((xlo σ11 2 0)).2.2.1 2), .int (((xlo σ11 2 0)).2.2.1 3), .ref (ad 3)]))) 0 0
  generalize yup Gw16 (ad 2) (2, .inr (5, [.int (((xlo σ11 2 0)).2.2.1 0), .int (((xlo σ11 2 0)).2.2.1 1), .long (((xlo σ11 2 0)).2.2.2.1 0), .long (((xlo σ11 2 0)).2.2.2.1 1), .long (((xlo σ11 2 0)).2.2.2.1 2), .long 0, .long (((xlo σ11 2 0)).2.2.2.1 4), .int (((xlo σ11 2 0)).2.2.1 2), .int (((xlo σ11 2 0)).2.2.1 3), .ref (ad 3)])) = Gw21 at hXw21 hFw21 ⊢
  refine y_blk 2 tq_X1_build (z := (26, [(0, .ref (ad 2)), (1, .int newWide), (2, .int newHigh), (3, .int seed)], [.long 0, .ref (ad 2)])) rfl ?_
  refine y_put hS tq_X1_build rfl fp_X1_35_X1 (hXw21.1 2 _ rfl) (by omega) rfl rfl (Nat.le_of_ble_eq_true rfl) ?_
  have hXw26 : atX aC ad (yup Gw21 (ad 2) (2, .inr (5, [.int (((xlo (xlo σ11 2 0) 3 0)).2.2.1 0), .int (((xlo (xlo σ11 2 0) 3 0)).2.2.1 1), .long (((xlo (xlo σ11 2 0) 3 0)).2.2.2.1 0), .long (((xlo (xlo σ11 2 0) 3 0)).2.2.2.1 1), .long (((xlo (xlo σ11 2 0) 3 0)).2.2.2.1 2), .long (((xlo (xlo σ11 2 0) 3 0)).2.2.2.1 3), .long 0, .int (((xlo (xlo σ11 2 0) 3 0)).2.2.1 2), .int (((xlo (xlo σ11 2 0) 3 0)).2.2.1 3), .ref (ad 3)]))) (xlo (xlo (xlo σ11 2 0) 3 0) 4 0) := hXw21.setLo 4 rfl rfl
  have hFw26 : keepX G (yup Gw21 (ad 2) (2, .inr (5, [.int (((xlo (xlo σ11 2 0) 3 0)).2.2.1 0), .int (((xlo (xlo σ11 2 0) 3 0)).2.2.1 1), .long (((xlo (xlo σ11 2 0) 3 0)).2.2.2.1 0), .long (((xlo (xlo σ11 2 0) 3 0)).2.2.2.1 1), .long (((xlo (xlo σ11 2 0) 3 0)).2.2.2.1 2), .long (((xlo (xlo σ11 2 0) 3 0)).2.2.2.1 3), .long 0, .int (((xlo (xlo σ11 2 0) 3 0)).2.2.1 2), .int (((xlo (xlo σ11 2 0) 3 0)).2.2.1 3), .ref (ad 3)]))) := hFw21.up (hXw21.1 2 _ rfl) (by omega) (by omega)
  show Y l S0 D K_X1_build 15 0 0 (fun r G1 => r = none ∧ ∃ σ1 : XS, atX aC ad G1 σ1 ∧ keepX G G1 ∧ xfr [48, 49, 50, 51, 56, 57, 58, 59, 60, 61] σ σ1 ∧ σ1.2.2.1 0 = newWide ∧ σ1.2.2.1 1 = newHigh ∧ xbf (newWide * newHigh).toInt.toNat seed σ1 ∧ σ1.2.2.1 2 = 1 ∧ σ1.2.2.1 3 = 0 ∧ xvd σ1) (fun _ _ => False) (26 + 3) [(0, .ref (ad 2)), (1, .int newWide), (2, .int newHigh), (3, .int seed)] [] (yup Gw21 (ad 2) (2, .inr (5, [.int (((xlo (xlo σ11 2 0) 3 0)).2.2.1 0), .int (((xlo (xlo σ11 2 0) 3 0)).2.2.1 1), .long (((xlo (xlo σ11 2 0) 3 0)).2.2.2.1 0), .long (((xlo (xlo σ11 2 0) 3 0)).2.2.2.1 1), .long (((xlo (xlo σ11 2 0) 3 0)).2.2.2.1 2), .long (((xlo (xlo σ11 2 0) 3 0)).2.2.2.1 3), .long 0, .int (((xlo (xlo σ11 2 0) 3 0)).2.2.1 2), .int (((xlo (xlo σ11 2 0) 3 0)).2.2.1 3), .ref (ad 3)]))) 0 0
  generalize yup Gw21 (ad 2) (2, .inr (5, [.int (((xlo (xlo σ11 2 0) 3 0)).2.2.1 0), .int (((xlo (xlo σ11 2 0) 3 0)).2.2.1 1), .long (((xlo (xlo σ11 2 0) 3 0)).2.2.2.1 0), .long (((xlo (xlo σ11 2 0) 3 0)).2.2.2.1 1), .long (((xlo (xlo σ11 2 0) 3 0)).2.2.2.1 2), .long (((xlo (xlo σ11 2 0) 3 0)).2.2.2.1 3), .long 0, .int (((xlo (xlo σ11 2 0) 3 0)).2.2.1 2), .int (((xlo (xlo σ11 2 0) 3 0)).2.2.1 3), .ref (ad 3)])) = Gw26 at hXw26 hFw26 ⊢
  refine y_blk 4 tq_X1_build (z := (35, [(5, .int 0), (4, .int seed), (0, .ref (ad 2)), (1, .int newWide), (2, .int newHigh), (3, .int seed)], [])) rfl ?_
  refine y_pick (L2 := [(0, .ref (ad 2)), (1, .int newWide), (2, .int newHigh), (3, .int seed), (4, .int seed), (5, .int 0)]) [2, 3, 4, 5, 1, 0] rfl ?_
  exact J35 _ seed 0 Gw26 (xlo (xlo (xlo σ11 2 0) 3 0) 4 0) hXw26 hFw26 (((xkn.trans (xkn.trans (xkn.trans (xkn.trans (xkn.trans (xkn.trans xkn.rfl' xkn_in) xkn_in) knc11) xkn_lo) xkn_lo) xkn_lo)).w) (by first | exact ⟨knc72.i hwh.1, knc72.i hwh.2⟩ | exact ⟨knc11.i rfl, knc11.i rfl⟩) (by first | exact hb35.step hS72 (by omega) (xlt hwh hn c41) hk72 | exact xbd.init rfl rfl rfl) rfl
set_option maxHeartbeats 4000000 in
set_option maxRecDepth 100000 in
theorem m_X8_lay_v {l : Launch} {S0 : State} {A0 : Array Value} {D : va_G} {aC : Nat → ClassId} {ad : Nat → Nat} {G : AH} {σ : XS} (hS : yS l S0 A0 D aC) (hX : atX aC ad G σ) (cell : Int32) (kind : Int32) : yM l S0 D yX8_lay cX8_lay 4 (some .int) 16 3 18 [.ref (ad 1), .int cell, .int kind] G (fun r G1 => (r = some (.int (xkf σ cell)) ∧ ((0 ≤ cell ∧ cell ≤ σ.2.2.1 0 * σ.2.2.1 1 - 1) ∧ ((0 ≤ kind ∧ kind ≤ 3) ∧ (kind = 1 → ∃ v : Int64, xse v (xtkQ σ) ∧ ¬ xis v cell)))) ∧ ∃ σ1 : XS, atX aC ad G1 σ1 ∧ keepX G G1 ∧ xfr [58, 59, 60, 61] σ σ1 ∧ xsk σ σ1 cell kind ∧ xvd σ1) (fun E G1 => ((E = "java/lang/IndexOutOfBoundsException" ∧ (¬ (0 ≤ cell ∧ cell ≤ σ.2.2.1 0 * σ.2.2.1 1 - 1))) ∨ (E = "java/lang/IllegalArgumentException" ∧ ((0 ≤ cell ∧ cell ≤ σ.2.2.1 0 * σ.2.2.1 1 - 1) ∧ (¬ (0 ≤ kind ∧ kind ≤ 3)))) ∨ (E = "java/lang/IllegalStateException" ∧ ((0 ≤ cell ∧ cell ≤ σ.2.2.1 0 * σ.2.2.1 1 - 1) ∧ ((0 ≤ kind ∧ kind ≤ 3) ∧ (¬ (kind = 1 → ∃ v : Int64, xse v (xtkQ σ) ∧ ¬ xis v cell)))))) ∧ G1 = G) := by
  refine yM.ofK K_X8_lay rfl (by decide) (Nat.le_of_ble_eq_true rfl) ?_
  refine y_blk 2 tq_X8_lay (z := (2, [(0, .ref (ad 1)), (1, .int cell), (2, .int kind)], [.int cell, .ref (ad 1)])) rfl ?_
  refine y_callV hS tq_X8_lay rfl (As := [.int cell]) rfl cv_X8_114 (hX.1 1 _ rfl) (m_X8_needCell hS hX cell) rfl (by decide) (Nat.le_of_ble_eq_true rfl) (fun r2 Gc2 q2 => ?_) (fun E9 G9 h9 => ⟨(Or.inl (And.intro h9.1.1 (by first | exact h9.1.2 | exact absurd h9.1.2 (by decide) | exact absurd rfl hq2 | exact absurd rfl hq11 | exact absurd rfl hq19 | exact absurd rfl hq21 | exact absurd rfl hq24 | exact absurd rfl hq30 | exact absurd rfl hq35 | exact absurd rfl hq39 | exact absurd rfl hq40 | exact absurd rfl hq57 | exact absurd rfl hq45 | exact absurd rfl hq38 | exact absurd rfl hq34 | exact absurd rfl hq33 | exact absurd rfl hq29 | (have z9 := h9.1.2; clear h9; (repeat' apply And.intro) <;> first | (first | assumption | (simp only [yif0, Classical.not_not, ylt, yle, xcp0, xcp3, xcp5, xcp10, xcp12, xcp16, xcp22, yl_m1, yl_0, yl_1, yl_2, yl_3, yl_4, yl_5, yl_6, yl_7, yl_8, yl_9, yl_10, yl_11, yl_12, yl_15, yl_16, yl_20, yl_60, yl_64, yl_90, yl_97, yl_99, yl_100, yl_120, yl_239, yl_240] at *; first | omega | assumption | contradiction)) | (intro q9; (simp only [yif0, Classical.not_not, ylt, yle, xcp0, xcp3, xcp5, xcp10, xcp12, xcp16, xcp22, yl_m1, yl_0, yl_1, yl_2, yl_3, yl_4, yl_5, yl_6, yl_7, yl_8, yl_9, yl_10, yl_11, yl_12, yl_15, yl_16, yl_20, yl_60, yl_64, yl_90, yl_97, yl_99, yl_100, yl_120, yl_239, yl_240] at *; first | omega | contradiction | (obtain ⟨qa, qb⟩ := q9; contradiction))))))), h9.2⟩)
  obtain ⟨⟨rfl, hq2⟩, eG2⟩ := q2
  have eG2 := eG2.symm
  subst eG2
  refine y_blk 3 tq_X8_lay (z := (8, [(0, .ref (ad 1)), (1, .int cell), (2, .int kind)], [.int 3, .int 0, .int kind])) rfl ?_
  refine y_callS hS tq_X8_lay rfl (As := [.int kind, .int 0, .int 3]) rfl cs_X8_76 (m_X8_isIn hS  kind 0 3) rfl (by decide) (Nat.le_of_ble_eq_true rfl) (fun r8 Gc8 q8 => ?_) (fun E9 G9 h9 => h9.elim)
  obtain ⟨rfl, eG8⟩ := q8
  have eG8 := eG8.symm
  subst eG8
  refine y_blk 0 tq_X8_lay (z := (11, [(0, .ref (ad 1)), (1, .int cell), (2, .int kind)], [.int (if 0 ≤ kind ∧ kind ≤ 3 then 1 else 0)])) rfl ?_
  refine y_callS hS tq_X8_lay rfl (As := [.int (if 0 ≤ kind ∧ kind ≤ 3 then 1 else 0)]) rfl cs_X8_117 (m_X8_needLet hS  (if 0 ≤ kind ∧ kind ≤ 3 then 1 else 0)) rfl (by decide) (Nat.le_of_ble_eq_true rfl) (fun r11 Gc11 q11 => ?_) (fun E9 G9 h9 => ⟨(Or.inr (Or.inl (And.intro h9.1.1 (by first | exact h9.1.2 | exact absurd h9.1.2 (by decide) | exact absurd rfl hq2 | exact absurd rfl hq11 | exact absurd rfl hq19 | exact absurd rfl hq21 | exact absurd rfl hq24 | exact absurd rfl hq30 | exact absurd rfl hq35 | exact absurd rfl hq39 | exact absurd rfl hq40 | exact absurd rfl hq57 | exact absurd rfl hq45 | exact absurd rfl hq38 | exact absurd rfl hq34 | exact absurd rfl hq33 | exact absurd rfl hq29 | (have z9 := h9.1.2; clear h9; (repeat' apply And.intro) <;> first | (first | assumption | (simp only [yif0, Classical.not_not, ylt, yle, xcp0, xcp3, xcp5, xcp10, xcp12, xcp16, xcp22, yl_m1, yl_0, yl_1, yl_2, yl_3, yl_4, yl_5, yl_6, yl_7, yl_8, yl_9, yl_10, yl_11, yl_12, yl_15, yl_16, yl_20, yl_60, yl_64, yl_90, yl_97, yl_99, yl_100, yl_120, yl_239, yl_240] at *; first | omega | assumption | contradiction)) | (intro q9; (simp only [yif0, Classical.not_not, ylt, yle, xcp0, xcp3, xcp5, xcp10, xcp12, xcp16, xcp22, yl_m1, yl_0, yl_1, yl_2, yl_3, yl_4, yl_5, yl_6, yl_7, yl_8, yl_9, yl_10, yl_11, yl_12, yl_15, yl_16, yl_20, yl_60, yl_64, yl_90, yl_97, yl_99, yl_100, yl_120, yl_239, yl_240] at *; first | omega | contradiction | (obtain ⟨qa, qb⟩ := q9; contradiction)))))))), h9.2⟩)
  obtain ⟨⟨rfl, hq11⟩, eG11⟩ := q11
  have eG11 := eG11.symm
  subst eG11
  refine y_blk 2 tq_X8_lay (z := (16, [(0, .ref (ad 1)), (1, .int cell), (2, .int kind)], [.int 1, .int kind])) rfl ?_
  refine y_icmp_ne tq_X8_lay 30 rfl rfl (fun c16 => ?_) (fun c16 => ?_)
  · skip
    refine y_blk 2 tq_X8_lay (z := (35, [(0, .ref (ad 1)), (1, .int cell), (2, .int kind)], [.int 1])) rfl ?_
    refine y_callS hS tq_X8_lay rfl (As := [.int 1]) rfl cs_X8_128 (m_X8_needPossible hS  1) rfl (by decide) (Nat.le_of_ble_eq_true rfl) (fun r35 Gc35 q35 => ?_) (fun E9 G9 h9 => ⟨(Or.inr (Or.inr (And.intro h9.1.1 (by first | exact absurd h9.1.2 (by decide) | exact ⟨hq2, Classical.not_not.mp (fun q => hq11 ((yif0 _).mpr q)), fun q => xlay_no (q c16) hr_x20 (Classical.not_not.mp (fun q => c27 ((yif0 _).mpr q)))⟩)))), h9.2⟩)
    obtain ⟨⟨rfl, hq35⟩, eG35⟩ := q35
    have eG35 := eG35.symm
    subst eG35
    refine y_blk 1 tq_X8_lay (z := (39, [(0, .ref (ad 1)), (1, .int cell), (2, .int kind)], [.ref (ad 1)])) rfl ?_
    refine y_get hS tq_X8_lay (v := .ref (ad 2)) rfl fg_X8_10_X8 (hX.1 1 _ rfl) rfl ?_
    refine y_blk 1 tq_X8_lay (z := (43, [(0, .ref (ad 1)), (1, .int cell), (2, .int kind)], [.int cell, .ref (ad 2)])) rfl ?_
    refine y_callV hS tq_X8_lay rfl (As := [.int cell]) rfl cv_X8_131 (hX.1 2 _ rfl) (m_X1_kindOf hS hX cell) rfl (by decide) (Nat.le_of_ble_eq_true rfl) (fun r43 Gc43 q43 => ?_) (fun E9 G9 h9 => h9.elim)
    obtain ⟨rfl, eG43⟩ := q43
    have eG43 := eG43.symm
    subst eG43
    refine y_blk 2 tq_X8_lay (z := (48, [(3, .int (xkf σ cell)), (0, .ref (ad 1)), (1, .int cell), (2, .int kind)], [.ref (ad 1)])) rfl ?_
    refine y_get hS tq_X8_lay (v := .ref (ad 2)) rfl fg_X8_10_X8 (hX.1 1 _ rfl) rfl ?_
    refine y_blk 2 tq_X8_lay (z := (53, [(3, .int (xkf σ cell)), (0, .ref (ad 1)), (1, .int cell), (2, .int kind)], [.int kind, .int cell, .ref (ad 2)])) rfl ?_
    refine y_callV hS tq_X8_lay rfl (As := [.int cell, .int kind]) rfl cv_X8_135 (hX.1 2 _ rfl) (m_X1_change_v hS hX cell kind) rfl (by decide) (Nat.le_of_ble_eq_true rfl) (fun r53 Gc53 q53 => ?_) (fun E9 G9 h9 => h9.elim)
    obtain ⟨rfl, σ53, hXc53, hFc53, knc53, hR53, hS53⟩ := q53
    refine y_blk 1 tq_X8_lay (z := (57, [(3, .int (xkf σ cell)), (0, .ref (ad 1)), (1, .int cell), (2, .int kind)], [.int (xkf σ cell)])) rfl ?_
    exact y_iret tq_X8_lay rfl rfl (⟨⟨rfl, (by first | exact absurd rfl hq35 | exact ⟨hq2, Classical.not_not.mp (fun q => hq11 ((yif0 _).mpr q)), fun q => absurd q c16⟩ | exact ⟨hq2, Classical.not_not.mp (fun q => hq11 ((yif0 _).mpr q)), fun _ => ⟨x20, hr_x20, (yif0 _).mp c27⟩⟩)⟩, _, hXc53, (keepX.rfl'.trans hFc53), ((xkn.trans xkn.rfl' knc53)).w, hS53⟩)
  · skip
    refine y_blk 1 tq_X8_lay (z := (20, [(0, .ref (ad 1)), (1, .int cell), (2, .int kind)], [.ref (ad 1)])) rfl ?_
    refine y_callV hS tq_X8_lay rfl (As := []) rfl cv_X8_121 (hX.1 1 _ rfl) (m_X8_takenCells hS hX ) rfl (by decide) (Nat.le_of_ble_eq_true rfl) (fun r20 Gc20 q20 => ?_) (fun E9 G9 h9 => h9.elim)
    obtain ⟨⟨x20, hr_x20, rfl⟩, eG20⟩ := q20
    have eG20 := eG20.symm
    subst eG20
    refine y_blk 1 tq_X8_lay (z := (24, [(0, .ref (ad 1)), (1, .int cell), (2, .int kind)], [.int cell, .long x20])) rfl ?_
    refine y_callS hS tq_X8_lay rfl (As := [.long x20, .int cell]) rfl cs_X8_124 (m_X8_isOf hS  x20 cell) rfl (by decide) (Nat.le_of_ble_eq_true rfl) (fun r24 Gc24 q24 => ?_) (fun E9 G9 h9 => h9.elim)
    obtain ⟨rfl, eG24⟩ := q24
    have eG24 := eG24.symm
    subst eG24
    refine y_blk 0 tq_X8_lay (z := (27, [(0, .ref (ad 1)), (1, .int cell), (2, .int kind)], [.int (if xis x20 cell then 1 else 0)])) rfl ?_
    refine y_if_ne tq_X8_lay 34 rfl rfl (fun c27 => ?_) (fun c27 => ?_)
    · skip
      refine y_blk 1 tq_X8_lay (z := (35, [(0, .ref (ad 1)), (1, .int cell), (2, .int kind)], [.int 0])) rfl ?_
      refine y_callS hS tq_X8_lay rfl (As := [.int 0]) rfl cs_X8_128 (m_X8_needPossible hS  0) rfl (by decide) (Nat.le_of_ble_eq_true rfl) (fun r35 Gc35 q35 => ?_) (fun E9 G9 h9 => ⟨(Or.inr (Or.inr (And.intro h9.1.1 (by first | exact absurd h9.1.2 (by decide) | exact ⟨hq2, Classical.not_not.mp (fun q => hq11 ((yif0 _).mpr q)), fun q => xlay_no (q c16) hr_x20 (Classical.not_not.mp (fun q => c27 ((yif0 _).mpr q)))⟩)))), h9.2⟩)
      obtain ⟨⟨rfl, hq35⟩, eG35⟩ := q35
      have eG35 := eG35.symm
      subst eG35
      refine y_blk 1 tq_X8_lay (z := (39, [(0, .ref (ad 1)), (1, .int cell), (2, .int kind)], [.ref (ad 1)])) rfl ?_
      refine y_get hS tq_X8_lay (v := .ref (ad 2)) rfl fg_X8_10_X8 (hX.1 1 _ rfl) rfl ?_
      refine y_blk 1 tq_X8_lay (z := (43, [(0, .ref (ad 1)), (1, .int cell), (2, .int kind)], [.int cell, .ref (ad 2)])) rfl ?_
      refine y_callV hS tq_X8_lay rfl (As := [.int cell]) rfl cv_X8_131 (hX.1 2 _ rfl) (m_X1_kindOf hS hX cell) rfl (by decide) (Nat.le_of_ble_eq_true rfl) (fun r43 Gc43 q43 => ?_) (fun E9 G9 h9 => h9.elim)
      obtain ⟨rfl, eG43⟩ := q43
      have eG43 := eG43.symm
      subst eG43
      refine y_blk 2 tq_X8_lay (z := (48, [(3, .int (xkf σ cell)), (0, .ref (ad 1)), (1, .int cell), (2, .int kind)], [.ref (ad 1)])) rfl ?_
      refine y_get hS tq_X8_lay (v := .ref (ad 2)) rfl fg_X8_10_X8 (hX.1 1 _ rfl) rfl ?_
      refine y_blk 2 tq_X8_lay (z := (53, [(3, .int (xkf σ cell)), (0, .ref (ad 1)), (1, .int cell), (2, .int kind)], [.int kind, .int cell, .ref (ad 2)])) rfl ?_
      refine y_callV hS tq_X8_lay rfl (As := [.int cell, .int kind]) rfl cv_X8_135 (hX.1 2 _ rfl) (m_X1_change_v hS hX cell kind) rfl (by decide) (Nat.le_of_ble_eq_true rfl) (fun r53 Gc53 q53 => ?_) (fun E9 G9 h9 => h9.elim)
      obtain ⟨rfl, σ53, hXc53, hFc53, knc53, hR53, hS53⟩ := q53
      refine y_blk 1 tq_X8_lay (z := (57, [(3, .int (xkf σ cell)), (0, .ref (ad 1)), (1, .int cell), (2, .int kind)], [.int (xkf σ cell)])) rfl ?_
      exact y_iret tq_X8_lay rfl rfl (⟨⟨rfl, (by first | exact absurd rfl hq35 | exact ⟨hq2, Classical.not_not.mp (fun q => hq11 ((yif0 _).mpr q)), fun q => absurd q c16⟩ | exact ⟨hq2, Classical.not_not.mp (fun q => hq11 ((yif0 _).mpr q)), fun _ => ⟨x20, hr_x20, (yif0 _).mp c27⟩⟩)⟩, _, hXc53, (keepX.rfl'.trans hFc53), ((xkn.trans xkn.rfl' knc53)).w, hS53⟩)
    · skip
      refine y_blk 2 tq_X8_lay (z := (35, [(0, .ref (ad 1)), (1, .int cell), (2, .int kind)], [.int 1])) rfl ?_
      refine y_callS hS tq_X8_lay rfl (As := [.int 1]) rfl cs_X8_128 (m_X8_needPossible hS  1) rfl (by decide) (Nat.le_of_ble_eq_true rfl) (fun r35 Gc35 q35 => ?_) (fun E9 G9 h9 => ⟨(Or.inr (Or.inr (And.intro h9.1.1 (by first | exact absurd h9.1.2 (by decide) | exact ⟨hq2, Classical.not_not.mp (fun q => hq11 ((yif0 _).mpr q)), fun q => xlay_no (q c16) hr_x20 (Classical.not_not.mp (fun q => c27 ((yif0 _).mpr q)))⟩)))), h9.2⟩)
      obtain ⟨⟨rfl, hq35⟩, eG35⟩ := q35
      have eG35 := eG35.symm
      subst eG35
      refine y_blk 1 tq_X8_lay (z := (39, [(0, .ref (ad 1)), (1, .int cell), (2, .int kind)], [.ref (ad 1)])) rfl ?_
      refine y_get hS tq_X8_lay (v := .ref (ad 2)) rfl fg_X8_10_X8 (hX.1 1 _ rfl) rfl ?_
      refine y_blk 1 tq_X8_lay (z := (43, [(0, .ref (ad 1)), (1, .int cell), (2, .int kind)], [.int cell, .ref (ad 2)])) rfl ?_
      refine y_callV hS tq_X8_lay rfl (As := [.int cell]) rfl cv_X8_131 (hX.1 2 _ rfl) (m_X1_kindOf hS hX cell) rfl (by decide) (Nat.le_of_ble_eq_true rfl) (fun r43 Gc43 q43 => ?_) (fun E9 G9 h9 => h9.elim)
      obtain ⟨rfl, eG43⟩ := q43
      have eG43 := eG43.symm
      subst eG43
      refine y_blk 2 tq_X8_lay (z := (48, [(3, .int (xkf σ cell)), (0, .ref (ad 1)), (1, .int cell), (2, .int kind)], [.ref (ad 1)])) rfl ?_
      refine y_get hS tq_X8_lay (v := .ref (ad 2)) rfl fg_X8_10_X8 (hX.1 1 _ rfl) rfl ?_
      refine y_blk 2 tq_X8_lay (z := (53, [(3, .int (xkf σ cell)), (0, .ref (ad 1)), (1, .int cell), (2, .int kind)], [.int kind, .int cell, .ref (ad 2)])) rfl ?_
      refine y_callV hS tq_X8_lay rfl (As := [.int cell, .int kind]) rfl cv_X8_135 (hX.1 2 _ rfl) (m_X1_change_v hS hX cell kind) rfl (by decide) (Nat.le_of_ble_eq_true rfl) (fun r53 Gc53 q53 => ?_) (fun E9 G9 h9 => h9.elim)
      obtain ⟨rfl, σ53, hXc53, hFc53, knc53, hR53, hS53⟩ := q53
      refine y_blk 1 tq_X8_lay (z := (57, [(3, .int (xkf σ cell)), (0, .ref (ad 1)), (1, .int cell), (2, .int kind)], [.int (xkf σ cell)])) rfl ?_
      exact y_iret tq_X8_lay rfl rfl (⟨⟨rfl, (by first | exact absurd rfl hq35 | exact ⟨hq2, Classical.not_not.mp (fun q => hq11 ((yif0 _).mpr q)), fun q => absurd q c16⟩ | exact ⟨hq2, Classical.not_not.mp (fun q => hq11 ((yif0 _).mpr q)), fun _ => ⟨x20, hr_x20, (yif0 _).mp c27⟩⟩)⟩, _, hXc53, (keepX.rfl'.trans hFc53), ((xkn.trans xkn.rfl' knc53)).w, hS53⟩)
set_option maxHeartbeats 4000000 in
set_option maxRecDepth 100000 in
theorem m_X8_base_v {l : Launch} {S0 : State} {A0 : Array Value} {D : va_G} {aC : Nat → ClassId} {ad : Nat → Nat} {G : AH} {σ : XS} (hS : yS l S0 A0 D aC) (hX : atX aC ad G σ) (wide : Int32) (high : Int32) (seed : Int32) : yM l S0 D yX8_base cX8_base 4 (some .int) 16 1 6 [.ref (ad 1), .int wide, .int high, .int seed] G (fun r G1 => (r = some (.int (Int32.ofNat (cnt (kop seed) (wide * high).toInt.toNat))) ∧ ((3 ≤ wide ∧ wide ≤ 8) ∧ (3 ≤ high ∧ high ≤ 8) ∧ (0 ≤ seed ∧ seed ≤ 100))) ∧ ∃ σ1 : XS, atX aC ad G1 σ1 ∧ keepX G G1 ∧ xfr [0, 1, 2, 3, 4, 5, 6, 7, 8, 10, 11, 12, 13, 14, 15, 16, 17, 18, 20, 21, 22, 23, 35, 37, 38, 39, 48, 49, 50, 51, 53, 54, 56, 57, 58, 59, 60, 61] σ σ1 ∧ xbase σ σ1 wide high seed ∧ xvd σ1) (fun E G1 => ((E = "java/lang/IllegalArgumentException" ∧ (¬ ((3 ≤ wide ∧ wide ≤ 8) ∧ (3 ≤ high ∧ high ≤ 8) ∧ (0 ≤ seed ∧ seed ≤ 100))))) ∧ G1 = G) := by
  refine yM.ofK K_X8_base rfl (by decide) (Nat.le_of_ble_eq_true rfl) ?_
  refine y_blk 3 tq_X8_base (z := (4, [(0, .ref (ad 1)), (1, .int wide), (2, .int high), (3, .int seed)], [.int 8, .int 3, .int wide])) rfl ?_
  refine y_callS hS tq_X8_base rfl (As := [.int wide, .int 3, .int 8]) rfl cs_X8_76 (m_X8_isIn hS  wide 3 8) rfl (by decide) (Nat.le_of_ble_eq_true rfl) (fun r4 Gc4 q4 => ?_) (fun E9 G9 h9 => h9.elim)
  obtain ⟨rfl, eG4⟩ := q4
  have eG4 := eG4.symm
  subst eG4
  refine y_blk 0 tq_X8_base (z := (7, [(0, .ref (ad 1)), (1, .int wide), (2, .int high), (3, .int seed)], [.int (if 3 ≤ wide ∧ wide ≤ 8 then 1 else 0)])) rfl ?_
  refine y_if_eq tq_X8_base 30 rfl rfl (fun c7 => ?_) (fun c7 => ?_)
  · skip
    refine y_blk 0 tq_X8_base (z := (30, [(0, .ref (ad 1)), (1, .int wide), (2, .int high), (3, .int seed)], [])) rfl ?_
    exact y_throwL hS tq_X8_base rfl rfl rfl rfl rfl rfl yth_base (by decide) (Nat.le_of_ble_eq_true rfl) (⟨⟨rfl, by intro q9; (simp only [yif0, Classical.not_not, ylt, yle, yl_m1, yl_0, yl_1, yl_2, yl_3, yl_4, yl_5, yl_6, yl_7, yl_8, yl_9, yl_10, yl_11, yl_12, yl_15, yl_16, yl_20, yl_60, yl_64, yl_90, yl_97, yl_99, yl_100, yl_120, yl_239, yl_240] at *; omega)⟩, rfl⟩) (by decide) (by decide)
  · skip
    refine y_blk 3 tq_X8_base (z := (14, [(0, .ref (ad 1)), (1, .int wide), (2, .int high), (3, .int seed)], [.int 8, .int 3, .int high])) rfl ?_
    refine y_callS hS tq_X8_base rfl (As := [.int high, .int 3, .int 8]) rfl cs_X8_76 (m_X8_isIn hS  high 3 8) rfl (by decide) (Nat.le_of_ble_eq_true rfl) (fun r14 Gc14 q14 => ?_) (fun E9 G9 h9 => h9.elim)
    obtain ⟨rfl, eG14⟩ := q14
    have eG14 := eG14.symm
    subst eG14
    refine y_blk 0 tq_X8_base (z := (17, [(0, .ref (ad 1)), (1, .int wide), (2, .int high), (3, .int seed)], [.int (if 3 ≤ high ∧ high ≤ 8 then 1 else 0)])) rfl ?_
    refine y_if_eq tq_X8_base 30 rfl rfl (fun c17 => ?_) (fun c17 => ?_)
    · skip
      refine y_blk 0 tq_X8_base (z := (30, [(0, .ref (ad 1)), (1, .int wide), (2, .int high), (3, .int seed)], [])) rfl ?_
      exact y_throwL hS tq_X8_base rfl rfl rfl rfl rfl rfl yth_base (by decide) (Nat.le_of_ble_eq_true rfl) (⟨⟨rfl, by intro q9; (simp only [yif0, Classical.not_not, ylt, yle, yl_m1, yl_0, yl_1, yl_2, yl_3, yl_4, yl_5, yl_6, yl_7, yl_8, yl_9, yl_10, yl_11, yl_12, yl_15, yl_16, yl_20, yl_60, yl_64, yl_90, yl_97, yl_99, yl_100, yl_120, yl_239, yl_240] at *; omega)⟩, rfl⟩) (by decide) (by decide)
    · skip
      refine y_blk 3 tq_X8_base (z := (24, [(0, .ref (ad 1)), (1, .int wide), (2, .int high), (3, .int seed)], [.int 100, .int 0, .int seed])) rfl ?_
      refine y_callS hS tq_X8_base rfl (As := [.int seed, .int 0, .int 100]) rfl cs_X8_76 (m_X8_isIn hS  seed 0 100) rfl (by decide) (Nat.le_of_ble_eq_true rfl) (fun r24 Gc24 q24 => ?_) (fun E9 G9 h9 => h9.elim)
      obtain ⟨rfl, eG24⟩ := q24
      have eG24 := eG24.symm
      subst eG24
      refine y_blk 0 tq_X8_base (z := (27, [(0, .ref (ad 1)), (1, .int wide), (2, .int high), (3, .int seed)], [.int (if 0 ≤ seed ∧ seed ≤ 100 then 1 else 0)])) rfl ?_
      refine y_if_ne tq_X8_base 40 rfl rfl (fun c27 => ?_) (fun c27 => ?_)
      · skip
        refine y_blk 1 tq_X8_base (z := (41, [(0, .ref (ad 1)), (1, .int wide), (2, .int high), (3, .int seed)], [.ref (ad 1)])) rfl ?_
        refine y_get hS tq_X8_base (v := .ref (ad 2)) rfl fg_X8_10_X8 (hX.1 1 _ rfl) rfl ?_
        refine y_blk 3 tq_X8_base (z := (47, [(0, .ref (ad 1)), (1, .int wide), (2, .int high), (3, .int seed)], [.int seed, .int high, .int wide, .ref (ad 2)])) rfl ?_
        refine y_callV hS tq_X8_base rfl (As := [.int wide, .int high, .int seed]) rfl cv_X8_87 (hX.1 2 _ rfl) (m_X1_build_v hS hX wide high seed (by (simp only [yif0, Classical.not_not, ylt, yle, yl_m1, yl_0, yl_1, yl_2, yl_3, yl_4, yl_5, yl_6, yl_7, yl_8, yl_9, yl_10, yl_11, yl_12, yl_15, yl_16, yl_20, yl_60, yl_64, yl_90, yl_97, yl_99, yl_100, yl_120, yl_239, yl_240] at *; omega)) (xwh (by (simp only [yif0, Classical.not_not, ylt, yle, yl_m1, yl_0, yl_1, yl_2, yl_3, yl_4, yl_5, yl_6, yl_7, yl_8, yl_9, yl_10, yl_11, yl_12, yl_15, yl_16, yl_20, yl_60, yl_64, yl_90, yl_97, yl_99, yl_100, yl_120, yl_239, yl_240] at *; omega)) (by (simp only [yif0, Classical.not_not, ylt, yle, yl_m1, yl_0, yl_1, yl_2, yl_3, yl_4, yl_5, yl_6, yl_7, yl_8, yl_9, yl_10, yl_11, yl_12, yl_15, yl_16, yl_20, yl_60, yl_64, yl_90, yl_97, yl_99, yl_100, yl_120, yl_239, yl_240] at *; omega)) (by (simp only [yif0, Classical.not_not, ylt, yle, yl_m1, yl_0, yl_1, yl_2, yl_3, yl_4, yl_5, yl_6, yl_7, yl_8, yl_9, yl_10, yl_11, yl_12, yl_15, yl_16, yl_20, yl_60, yl_64, yl_90, yl_97, yl_99, yl_100, yl_120, yl_239, yl_240] at *; omega)) (by (simp only [yif0, Classical.not_not, ylt, yle, yl_m1, yl_0, yl_1, yl_2, yl_3, yl_4, yl_5, yl_6, yl_7, yl_8, yl_9, yl_10, yl_11, yl_12, yl_15, yl_16, yl_20, yl_60, yl_64, yl_90, yl_97, yl_99, yl_100, yl_120, yl_239, yl_240] at *; omega)))) rfl (by decide) (Nat.le_of_ble_eq_true rfl) (fun r47 Gc47 q47 => ?_) (fun E9 G9 h9 => h9.elim)
        obtain ⟨rfl, σ47, hXc47, hFc47, knc47, hR47⟩ := q47
        refine y_blk 1 tq_X8_base (z := (51, [(0, .ref (ad 1)), (1, .int wide), (2, .int high), (3, .int seed)], [.ref (ad 1)])) rfl ?_
        refine y_get hS tq_X8_base (v := .ref (ad 4)) rfl fg_X8_19_X8 (hXc47.1 1 _ rfl) rfl ?_
        refine y_blk 0 tq_X8_base (z := (54, [(0, .ref (ad 1)), (1, .int wide), (2, .int high), (3, .int seed)], [.ref (ad 4)])) rfl ?_
        refine y_callV hS tq_X8_base rfl (As := []) rfl cv_X8_91 (hXc47.1 4 _ rfl) (m_X4_forget hS hXc47 ) rfl (by decide) (Nat.le_of_ble_eq_true rfl) (fun r54 Gc54 q54 => ?_) (fun E9 G9 h9 => h9.elim)
        obtain ⟨rfl, hXc54, hFc54⟩ := q54
        refine y_blk 1 tq_X8_base (z := (58, [(0, .ref (ad 1)), (1, .int wide), (2, .int high), (3, .int seed)], [.ref (ad 1)])) rfl ?_
        refine y_get hS tq_X8_base (v := .ref (ad 5)) rfl fg_X8_26_X8 (hXc54.1 1 _ rfl) rfl ?_
        refine y_blk 0 tq_X8_base (z := (61, [(0, .ref (ad 1)), (1, .int wide), (2, .int high), (3, .int seed)], [.ref (ad 5)])) rfl ?_
        refine y_callV hS tq_X8_base rfl (As := []) rfl cv_X8_94 (hXc54.1 5 _ rfl) (m_X0_forget hS hXc54 ) rfl (by decide) (Nat.le_of_ble_eq_true rfl) (fun r61 Gc61 q61 => ?_) (fun E9 G9 h9 => h9.elim)
        obtain ⟨rfl, hXc61, hFc61⟩ := q61
        refine y_blk 1 tq_X8_base (z := (65, [(0, .ref (ad 1)), (1, .int wide), (2, .int high), (3, .int seed)], [.ref (ad 1)])) rfl ?_
        refine y_get hS tq_X8_base (v := .ref (ad 6)) rfl fg_X8_33_X8 (hXc61.1 1 _ rfl) rfl ?_
        refine y_blk 0 tq_X8_base (z := (68, [(0, .ref (ad 1)), (1, .int wide), (2, .int high), (3, .int seed)], [.ref (ad 6)])) rfl ?_
        refine y_callV hS tq_X8_base rfl (As := []) rfl cv_X8_95 (hXc61.1 6 _ rfl) (m_X2_forget hS hXc61 ) rfl (by decide) (Nat.le_of_ble_eq_true rfl) (fun r68 Gc68 q68 => ?_) (fun E9 G9 h9 => h9.elim)
        obtain ⟨rfl, hXc68, hFc68⟩ := q68
        refine y_blk 1 tq_X8_base (z := (72, [(0, .ref (ad 1)), (1, .int wide), (2, .int high), (3, .int seed)], [.ref (ad 1)])) rfl ?_
        refine y_get hS tq_X8_base (v := .ref (ad 120)) rfl fg_X8_42_X8 (hXc68.1 1 _ rfl) rfl ?_
        refine y_blk 0 tq_X8_base (z := (75, [(0, .ref (ad 1)), (1, .int wide), (2, .int high), (3, .int seed)], [.ref (ad 120)])) rfl ?_
        refine y_callV hS tq_X8_base rfl (As := []) rfl cv_X8_96 (hXc68.num (k := 10) (by decide)) (m_X5_clear hS hXc68 (k := 10) (by decide) ) rfl (by decide) (Nat.le_of_ble_eq_true rfl) (fun r75 Gc75 q75 => ?_) (fun E9 G9 h9 => h9.elim)
        obtain ⟨rfl, hXc75, hFc75⟩ := q75
        refine y_blk 1 tq_X8_base (z := (79, [(0, .ref (ad 1)), (1, .int wide), (2, .int high), (3, .int seed)], [.ref (ad 1)])) rfl ?_
        refine y_get hS tq_X8_base (v := .ref (ad 7)) rfl fg_X8_49_X8 (hXc75.1 1 _ rfl) rfl ?_
        refine y_blk 0 tq_X8_base (z := (82, [(0, .ref (ad 1)), (1, .int wide), (2, .int high), (3, .int seed)], [.ref (ad 7)])) rfl ?_
        refine y_callV hS tq_X8_base rfl (As := []) rfl cv_X8_99 (hXc75.1 7 _ rfl) (m_X7_startAnew hS hXc75 ) rfl (by decide) (Nat.le_of_ble_eq_true rfl) (fun r82 Gc82 q82 => ?_) (fun E9 G9 h9 => h9.elim)
        obtain ⟨rfl, σ82, hXc82, hFc82, knc82, hR82⟩ := q82
        refine y_blk 1 tq_X8_base (z := (86, [(0, .ref (ad 1)), (1, .int wide), (2, .int high), (3, .int seed)], [.ref (ad 1)])) rfl ?_
        refine y_get hS tq_X8_base (v := .ref (ad 130)) rfl fg_X8_53_X8 (hXc82.1 1 _ rfl) rfl ?_
        refine y_blk 1 tq_X8_base (z := (90, [(0, .ref (ad 1)), (1, .int wide), (2, .int high), (3, .int seed)], [.int (-1), .ref (ad 130)])) rfl ?_
        refine y_callV hS tq_X8_base rfl (As := [.int (-1)]) rfl cv_X8_73 (hXc82.num (k := 15) (by decide)) (m_X5_fill hS hXc82 (k := 15) (by decide) (-1) (fun q => absurd q (by decide))) rfl (by decide) (Nat.le_of_ble_eq_true rfl) (fun r90 Gc90 q90 => ?_) (fun E9 G9 h9 => h9.elim)
        obtain ⟨rfl, σ90, hXc90, hFc90, knc90, hR90⟩ := q90
        refine y_blk 1 tq_X8_base (z := (94, [(0, .ref (ad 1)), (1, .int wide), (2, .int high), (3, .int seed)], [.ref (ad 1)])) rfl ?_
        refine y_get hS tq_X8_base (v := .ref (ad 8)) rfl fg_X8_59_X8 (hXc90.1 1 _ rfl) rfl ?_
        refine y_blk 0 tq_X8_base (z := (97, [(0, .ref (ad 1)), (1, .int wide), (2, .int high), (3, .int seed)], [.ref (ad 8)])) rfl ?_
        refine y_callV hS tq_X8_base rfl (As := []) rfl cv_X8_102 (hXc90.1 8 _ rfl) (m_X3_forget hS hXc90 ) rfl (by decide) (Nat.le_of_ble_eq_true rfl) (fun r97 Gc97 q97 => ?_) (fun E9 G9 h9 => h9.elim)
        obtain ⟨rfl, hXc97, hFc97⟩ := q97
        refine y_blk 1 tq_X8_base (z := (101, [(0, .ref (ad 1)), (1, .int wide), (2, .int high), (3, .int seed)], [.ref (ad 1)])) rfl ?_
        refine y_get hS tq_X8_base (v := .ref (ad 9)) rfl fg_X8_66_X8 (hXc97.1 1 _ rfl) rfl ?_
        refine y_blk 0 tq_X8_base (z := (104, [(0, .ref (ad 1)), (1, .int wide), (2, .int high), (3, .int seed)], [.ref (ad 9)])) rfl ?_
        refine y_callV hS tq_X8_base rfl (As := []) rfl cv_X8_103 (hXc97.1 9 _ rfl) (m_X6_forget hS hXc97 ) rfl (by decide) (Nat.le_of_ble_eq_true rfl) (fun r104 Gc104 q104 => ?_) (fun E9 G9 h9 => h9.elim)
        obtain ⟨rfl, hXc104, hFc104⟩ := q104
        refine y_blk 1 tq_X8_base (z := (108, [(0, .ref (ad 1)), (1, .int wide), (2, .int high), (3, .int seed)], [.ref (ad 1)])) rfl ?_
        refine y_get hS tq_X8_base (v := .ref (ad 2)) rfl fg_X8_10_X8 (hXc104.1 1 _ rfl) rfl ?_
        refine y_blk 0 tq_X8_base (z := (111, [(0, .ref (ad 1)), (1, .int wide), (2, .int high), (3, .int seed)], [.ref (ad 2)])) rfl ?_
        refine y_callV hS tq_X8_base rfl (As := []) rfl cv_X8_104 (hXc104.1 2 _ rfl) (m_X1_openCells hS hXc104 ) rfl (by decide) (Nat.le_of_ble_eq_true rfl) (fun r111 Gc111 q111 => ?_) (fun E9 G9 h9 => h9.elim)
        obtain ⟨rfl, eG111⟩ := q111
        have eG111 := eG111.symm
        subst eG111
        refine y_blk 0 tq_X8_base (z := (114, [(0, .ref (ad 1)), (1, .int wide), (2, .int high), (3, .int seed)], [.long ((xall (((xsz (xsz ((xsz (xsz (xsz (xsz (xsz σ90 16 0) 17 0) 18 0) 20 0) 21 0)) 22 0) 23 0)).2.2.1 0 * ((xsz (xsz ((xsz (xsz (xsz (xsz (xsz σ90 16 0) 17 0) 18 0) 20 0) 21 0)) 22 0) 23 0)).2.2.1 1)) &&& ((((xsz (xsz ((xsz (xsz (xsz (xsz (xsz σ90 16 0) 17 0) 18 0) 20 0) 21 0)) 22 0) 23 0)).2.2.2.1 2) ^^^ (-1)))])) rfl ?_
        refine y_callS hS tq_X8_base rfl (As := [.long ((xall (((xsz (xsz ((xsz (xsz (xsz (xsz (xsz σ90 16 0) 17 0) 18 0) 20 0) 21 0)) 22 0) 23 0)).2.2.1 0 * ((xsz (xsz ((xsz (xsz (xsz (xsz (xsz σ90 16 0) 17 0) 18 0) 20 0) 21 0)) 22 0) 23 0)).2.2.1 1)) &&& ((((xsz (xsz ((xsz (xsz (xsz (xsz (xsz σ90 16 0) 17 0) 18 0) 20 0) 21 0)) 22 0) 23 0)).2.2.2.1 2) ^^^ (-1)))]) rfl cs_X8_108 (m_J13_bitCount_95d88 hS  ((xall (((xsz (xsz ((xsz (xsz (xsz (xsz (xsz σ90 16 0) 17 0) 18 0) 20 0) 21 0)) 22 0) 23 0)).2.2.1 0 * ((xsz (xsz ((xsz (xsz (xsz (xsz (xsz σ90 16 0) 17 0) 18 0) 20 0) 21 0)) 22 0) 23 0)).2.2.1 1)) &&& ((((xsz (xsz ((xsz (xsz (xsz (xsz (xsz σ90 16 0) 17 0) 18 0) 20 0) 21 0)) 22 0) 23 0)).2.2.2.1 2) ^^^ (-1)))) rfl (by decide) (Nat.le_of_ble_eq_true rfl) (fun r114 Gc114 q114 => ?_) (fun E9 G9 h9 => h9.elim)
        obtain ⟨rfl, eG114⟩ := q114
        have eG114 := eG114.symm
        subst eG114
        refine y_blk 0 tq_X8_base (z := (117, [(0, .ref (ad 1)), (1, .int wide), (2, .int high), (3, .int seed)], [.int (bcL ((xall (((xsz (xsz ((xsz (xsz (xsz (xsz (xsz σ90 16 0) 17 0) 18 0) 20 0) 21 0)) 22 0) 23 0)).2.2.1 0 * ((xsz (xsz ((xsz (xsz (xsz (xsz (xsz σ90 16 0) 17 0) 18 0) 20 0) 21 0)) 22 0) 23 0)).2.2.1 1)) &&& ((((xsz (xsz ((xsz (xsz (xsz (xsz (xsz σ90 16 0) 17 0) 18 0) 20 0) 21 0)) 22 0) 23 0)).2.2.2.1 2) ^^^ (-1))))])) rfl ?_
        exact y_iret tq_X8_base rfl rfl (⟨⟨congrArg (fun z => some (Value.int z)) (xopen (knc90.i (k := 0) (knc82.i (k := 0) hR47.1)) (knc90.i (k := 1) (knc82.i (k := 1) hR47.2.1)) ((have h9 := knc90.bf (knc82.bf hR47.2.2.1); h9)) (xwh (by (simp only [yif0, Classical.not_not, ylt, yle, yl_m1, yl_0, yl_1, yl_2, yl_3, yl_4, yl_5, yl_6, yl_7, yl_8, yl_9, yl_10, yl_11, yl_12, yl_15, yl_16, yl_20, yl_60, yl_64, yl_90, yl_97, yl_99, yl_100, yl_120, yl_239, yl_240] at *; omega)) (by (simp only [yif0, Classical.not_not, ylt, yle, yl_m1, yl_0, yl_1, yl_2, yl_3, yl_4, yl_5, yl_6, yl_7, yl_8, yl_9, yl_10, yl_11, yl_12, yl_15, yl_16, yl_20, yl_60, yl_64, yl_90, yl_97, yl_99, yl_100, yl_120, yl_239, yl_240] at *; omega)) (by (simp only [yif0, Classical.not_not, ylt, yle, yl_m1, yl_0, yl_1, yl_2, yl_3, yl_4, yl_5, yl_6, yl_7, yl_8, yl_9, yl_10, yl_11, yl_12, yl_15, yl_16, yl_20, yl_60, yl_64, yl_90, yl_97, yl_99, yl_100, yl_120, yl_239, yl_240] at *; omega)) (by (simp only [yif0, Classical.not_not, ylt, yle, yl_m1, yl_0, yl_1, yl_2, yl_3, yl_4, yl_5, yl_6, yl_7, yl_8, yl_9, yl_10, yl_11, yl_12, yl_15, yl_16, yl_20, yl_60, yl_64, yl_90, yl_97, yl_99, yl_100, yl_120, yl_239, yl_240] at *; omega)))), (by first | exact absurd rfl hq21 | exact absurd rfl hq39 | exact absurd rfl hq30 | exact absurd rfl hq24 | (refine ⟨?_, ?_⟩ <;> (simp only [yif0, Classical.not_not, ylt, yle, yl_m1, yl_0, yl_1, yl_2, yl_3, yl_4, yl_5, yl_6, yl_7, yl_8, yl_9, yl_10, yl_11, yl_12, yl_15, yl_16, yl_20, yl_60, yl_64, yl_90, yl_97, yl_99, yl_100, yl_120, yl_239, yl_240] at *; omega)) | (simp only [yif0, Classical.not_not, ylt, yle, yl_m1, yl_0, yl_1, yl_2, yl_3, yl_4, yl_5, yl_6, yl_7, yl_8, yl_9, yl_10, yl_11, yl_12, yl_15, yl_16, yl_20, yl_60, yl_64, yl_90, yl_97, yl_99, yl_100, yl_120, yl_239, yl_240] at *; omega))⟩, _, hXc104, (((((((((keepX.rfl'.trans hFc47).trans hFc54).trans hFc61).trans hFc68).trans hFc75).trans hFc82).trans hFc90).trans hFc97).trans hFc104), ((xkn.trans (xkn.trans (xkn.trans (xkn.trans (xkn.trans (xkn.trans (xkn.trans (xkn.trans (xkn.trans xkn.rfl' knc47) (xkn.trans (xkn.trans xkn_sz xkn_sz) xkn_sz)) (xkn.trans xkn_sz xkn_sz)) (xkn.trans (xkn.trans (xkn.trans xkn_sz xkn_sz) xkn_sz) xkn_sz)) xkn_sz) knc82) knc90) (xkn.trans (xkn.trans (xkn.trans (xkn.trans xkn_sz xkn_sz) xkn_sz) xkn_sz) xkn_sz)) (xkn.trans xkn_sz xkn_sz))).w, ⟨⟨(fun k hk => by simp only [List.mem_cons, List.not_mem_nil, or_false] at hk; rcases hk with rfl | rfl | rfl | rfl | rfl | rfl | rfl | rfl | rfl | rfl | rfl | rfl | rfl | rfl | rfl | rfl | rfl <;> first | rfl | exact knc90.z (knc82.z rfl)), ⟨(knc90.i (k := 0) (knc82.i (k := 0) hR47.1)), (knc90.i (k := 1) (knc82.i (k := 1) hR47.2.1)), (knc90.i (k := 2) (knc82.i (k := 2) hR47.2.2.2.1)), (knc90.i (k := 3) (knc82.i (k := 3) hR47.2.2.2.2.1))⟩, (have h9 := knc90.bf (knc82.bf hR47.2.2.1); h9), (knc90.nw (by have e9 : σ47.2.2.1 4 = σ.2.2.1 4 := knc47.i rfl; rw [← e9]; exact hR82.1)).eq, (hR82.2.fr knc90).eq, hR90.eq⟩, (have h9 := knc90.vd (knc82.vd hR47.2.2.2.2.2); h9)⟩⟩)
      · skip
        refine y_blk 0 tq_X8_base (z := (30, [(0, .ref (ad 1)), (1, .int wide), (2, .int high), (3, .int seed)], [])) rfl ?_
        exact y_throwL hS tq_X8_base rfl rfl rfl rfl rfl rfl yth_base (by decide) (Nat.le_of_ble_eq_true rfl) (⟨⟨rfl, by intro q9; (simp only [yif0, Classical.not_not, ylt, yle, yl_m1, yl_0, yl_1, yl_2, yl_3, yl_4, yl_5, yl_6, yl_7, yl_8, yl_9, yl_10, yl_11, yl_12, yl_15, yl_16, yl_20, yl_60, yl_64, yl_90, yl_97, yl_99, yl_100, yl_120, yl_239, yl_240] at *; omega)⟩, rfl⟩) (by decide) (by decide)
