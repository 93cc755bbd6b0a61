/-! ===== what a cell, a minute is asked: the reference ===== -/
noncomputable def rclN (ρ : RS) (cell m what : Int32) : Int32 := if what = 0 then rV ρ 201 (Int32.toNatClampNeg cell) else if what = 1 then rbr1 ρ cell else if what = 2 then rsrN ρ cell m else if what = 3 then ronc ρ cell m else cif (rwlk ρ cell m) 1 0
noncomputable def rouF (ρ : RS) (m : Int32) : Int32 → Int32 → Int32 := fun p a => a + cif (¬ rV ρ 201 (Int32.toNatClampNeg p) = 1 ∧ ¬ rwat ρ p m) 1 0
theorem rou_0 {ρ : RS} {m p a : Int32} (h : rV ρ 201 (Int32.toNatClampNeg p) = 1) : a + 0 = rouF ρ m p a := by
  unfold rouF
  rw [cif_f (P := ¬ rV ρ 201 (Int32.toNatClampNeg p) = 1 ∧ ¬ rwat ρ p m) (fun q => q.1 h)]
theorem rou_1 {ρ : RS} {m p a : Int32} (h : rwat ρ p m) : a + 0 = rouF ρ m p a := by
  unfold rouF
  rw [cif_f (P := ¬ rV ρ 201 (Int32.toNatClampNeg p) = 1 ∧ ¬ rwat ρ p m) (fun q => q.2 h)]
theorem rou_2 {ρ : RS} {m p a : Int32} (h1 : ¬ rV ρ 201 (Int32.toNatClampNeg p) = 1) (h2 : ¬ rwat ρ p m) : a + 1 = rouF ρ m p a := by
  unfold rouF
  rw [cif_t (P := ¬ rV ρ 201 (Int32.toNatClampNeg p) = 1 ∧ ¬ rwat ρ p m) (And.intro h1 h2)]
def rdyF (ρ : RS) (m : Int32) : Int32 → Int32 → Int32 := fun p a => a + (if rdty ρ (Int32.toNatClampNeg p) m then 1 else 0)
def rtiF (ρ : RS) (m : Int32) : Int32 → Int32 → Int32 := fun p a => a + (if rtrd ρ (Int32.toNatClampNeg p) m then 1 else 0)
def repF (ρ : RS) (m : Int32) : Int32 → Int32 → Int32 := fun p a => a + (if remQ ρ (Int32.toNatClampNeg p) m then 1 else 0)
def rkoF (ρ : RS) (m : Int32) : Int32 → Int32 → Int32 := fun p a => a + (if rV ρ 203 (Int32.toNatClampNeg p) = -1 then 0 else if rdty ρ (Int32.toNatClampNeg (rV ρ 203 (Int32.toNatClampNeg p))) m then 0 else 1)
noncomputable def rmiN (ρ : RS) (m what : Int32) : Int32 := if what = 0 then rfog ρ m else if what = 1 then itI (rouF ρ m) 0 (Int32.ofNat (rZ ρ 201)).toInt.toNat else if what = 2 then itI (rdyF ρ m) 0 (Int32.ofNat (rZ ρ 212)).toInt.toNat else if what = 3 then itI (rtiF ρ m) 0 (Int32.ofNat (rZ ρ 212)).toInt.toNat else if what = 4 then itI (repF ρ m) 0 (Int32.ofNat (rZ ρ 213)).toInt.toNat else if what = 5 then rbrN ρ else itI (rkoF ρ m) 0 (6 : Int32).toInt.toNat
section YMI
variable {ρ : RS} {m what : Int32}
theorem rmi_0 (h : what = 0) : rmiN ρ m what = rfog ρ m := by
  subst h
  rfl
theorem rmi_1 (h : what = 1) : rmiN ρ m what = itI (rouF ρ m) 0 (Int32.ofNat (rZ ρ 201)).toInt.toNat := by
  subst h
  rfl
theorem rmi_2 (h : what = 2) : rmiN ρ m what = itI (rdyF ρ m) 0 (Int32.ofNat (rZ ρ 212)).toInt.toNat := by
  subst h
  rfl
theorem rmi_3 (h : what = 3) : rmiN ρ m what = itI (rtiF ρ m) 0 (Int32.ofNat (rZ ρ 212)).toInt.toNat := by
  subst h
  rfl
theorem rmi_4 (h : what = 4) : rmiN ρ m what = itI (repF ρ m) 0 (Int32.ofNat (rZ ρ 213)).toInt.toNat := by
  subst h
  rfl
theorem rmi_5 (h : what = 5) : rmiN ρ m what = rbrN ρ := by
  subst h
  rfl
theorem rmi_6 (h : ¬ what = 0 ∧ ¬ what = 1 ∧ ¬ what = 2 ∧ ¬ what = 3 ∧ ¬ what = 4 ∧ ¬ what = 5) : rmiN ρ m what = itI (rkoF ρ m) 0 (6 : Int32).toInt.toNat := by
  obtain ⟨h0, h1, h2, h3, h4, h5⟩ := h
  unfold rmiN
  rw [if_neg h0, if_neg h1, if_neg h2, if_neg h3, if_neg h4, if_neg h5]
end YMI
abbrev rnwQ (ρ : RS) (cell : Int32) : Int32 → Prop := fun m => ¬ rwat ρ cell m
section YIN
variable {ρ : RS} {c m : Int32}
theorem rbri_in : rbri (rin ρ 0 0) c ↔ rbri ρ c := Iff.rfl
theorem rfog_in : rfog (rin ρ 0 0) m = rfog ρ m := rfl
theorem rwat_in : rwat (rin ρ 0 0) c m ↔ rwat ρ c m := Iff.rfl
theorem lapk {C : Prop} {a b : Int32} (h : C ∧ OKm a ∧ (a ≤ b ∧ b ≤ 239)) : C ∧ ((0 ≤ a ∧ a ≤ 239) ∧ (0 ≤ b ∧ b ≤ 239) ∧ a ≤ b) := by
  obtain ⟨h0, ⟨h1, h2⟩, h3, h4⟩ := h
  refine ⟨h0, ⟨h1, h2⟩, ⟨?_, h4⟩, h3⟩
  rw [yle] at h1 h3 ⊢
  omega
end YIN
abbrev roOfCell (cell minute what : Int32) (r : Option Value) (ρ ρ1 : RS) : Prop := ((OKR ρ cell ∧ OKm minute ∧ (0 ≤ what ∧ what ≤ 4)) ∧ r = some (.int (rclN (rin ρ 0 0) cell minute what)) ∧ rI ρ1 0 = 0 ∧ rSm ρ ρ1) ∨ roNo (¬ OKR ρ cell) 1 ρ ρ1 ∨ roNo (OKR ρ cell ∧ ¬ (OKm minute ∧ (0 ≤ what ∧ what ≤ 4))) 2 ρ ρ1
abbrev roOfMinute (minute what : Int32) (r : Option Value) (ρ ρ1 : RS) : Prop := ((OKm minute ∧ (0 ≤ what ∧ what ≤ 6)) ∧ r = some (.int (rmiN (rin ρ 0 0) minute what)) ∧ rI ρ1 0 = 0 ∧ rSm ρ ρ1) ∨ roNo (¬ (OKm minute ∧ (0 ≤ what ∧ what ≤ 6))) 1 ρ ρ1
abbrev roLapse (cell from_ to : Int32) (r : Option Value) (ρ ρ1 : RS) : Prop := ((OKR ρ cell ∧ OKm from_ ∧ (from_ ≤ to ∧ to ≤ 239)) ∧ r = some (.int (lapN (rnwQ ρ cell) from_ to)) ∧ rI ρ1 0 = 0 ∧ rSm ρ ρ1) ∨ roNo (¬ OKR ρ cell) 1 ρ ρ1 ∨ roNo (OKR ρ cell ∧ ¬ (OKm from_ ∧ (from_ ≤ to ∧ to ≤ 239))) 2 ρ ρ1
/-! one guard's bit in the set of those who see -/
theorem sh8 : ∀ k : Nat, k < 16 → (Int32.ofNat k &&& 31).toBitVec.smod 32 = BitVec.ofNat 32 k := by decide +kernel
theorem sh1 : ∀ n : Nat, n < 16 → ∀ k : Nat, k < 16 → ((1 : Int32) <<< (Int32.ofNat n &&& 31)).toBitVec.getLsbD k = decide (k = n) := by decide +kernel
theorem bv1 {y : BitVec 32} : y &&& 1#32 = 1#32 ↔ y.getLsbD 0 = true := by
  constructor
  · intro h
    have h0 : (y &&& 1#32).getLsbD 0 = (1#32).getLsbD 0 := by rw [h]
    rw [BitVec.getLsbD_and, BitVec.getLsbD_one] at h0
    cases q : y.getLsbD 0
    · rw [q] at h0
      exact absurd h0 (by decide)
    · rfl
  · intro h
    apply BitVec.eq_of_getLsbD_eq
    intro i hi
    rw [BitVec.getLsbD_and, BitVec.getLsbD_one]
    by_cases q : i = 0
    · subst q
      rw [h]
      decide
    · rw [decide_eq_false q, Bool.and_false, Bool.and_false]
theorem i32bit {x : Int32} {k : Nat} (hk : k < 16) : (x >>> (Int32.ofNat k &&& 31)) &&& 1 = 1 ↔ x.toBitVec.getLsbD k = true := by
  have e2 : (BitVec.ofNat 32 k).toNat = k := by rw [BitVec.toNat_ofNat, Nat.mod_eq_of_lt (by omega)]
  have e : ((x >>> (Int32.ofNat k &&& 31)) &&& 1).toBitVec = (x.toBitVec.sshiftRight k) &&& 1#32 := by
    show (x.toBitVec.sshiftRight ((Int32.ofNat k &&& 31).toBitVec.smod 32).toNat) &&& 1#32 = _
    rw [sh8 k hk, e2]
  have e3 : (x.toBitVec.sshiftRight k).getLsbD 0 = x.toBitVec.getLsbD k := by
    rw [BitVec.getLsbD_sshiftRight, if_pos (by omega), Nat.add_zero]
    exact Bool.true_and _
  rw [← Int32.toBitVec_inj, e, ← e3]
  exact bv1
theorem cnS {n : Nat} (h : n ≤ 1000) : (Int32.ofNat n).toInt.toNat = n := by
  rw [yofNat (by omega)]
  omega
theorem rsr_bt {ρ : RS} {c m : Int32} : ∀ n : Nat, n ≤ 16 → ∀ k : Nat, k < 16 → ((itI (rsrF ρ c m) 0 n).toBitVec.getLsbD k = true ↔ k < n ∧ rsee ρ k c m (rbr1 ρ c) (rfog ρ m))
  | 0, _, k, _ => by
    show (0#32).getLsbD k = true ↔ _
    rw [BitVec.getLsbD_zero]
    exact ⟨fun h => absurd h (by decide), fun h => absurd h.1 (Nat.not_lt_zero k)⟩
  | n + 1, h, k, hk => by
    have ih := rsr_bt (ρ := ρ) (c := c) (m := m) n (by omega) k hk
    have en : Int32.toNatClampNeg (Int32.ofNat n) = n := cnS (by omega)
    show (itI (rsrF ρ c m) 0 n ||| cif (rsee ρ (Int32.toNatClampNeg (Int32.ofNat n)) c m (rbr1 ρ c) (rfog ρ m)) (1 <<< (Int32.ofNat n &&& 31)) 0).toBitVec.getLsbD k = true ↔ _
    rw [Int32.toBitVec_or, BitVec.getLsbD_or, Bool.or_eq_true, ih, en]
    have hb : (cif (rsee ρ n c m (rbr1 ρ c) (rfog ρ m)) (1 <<< (Int32.ofNat n &&& 31)) 0).toBitVec.getLsbD k = true ↔ k = n ∧ rsee ρ n c m (rbr1 ρ c) (rfog ρ m) := by
      by_cases q : rsee ρ n c m (rbr1 ρ c) (rfog ρ m)
      · rw [cif_t q, sh1 n (by omega) k hk]
        exact ⟨fun z => ⟨of_decide_eq_true z, q⟩, fun z => decide_eq_true z.1⟩
      · rw [cif_f q]
        show (0#32).getLsbD k = true ↔ _
        rw [BitVec.getLsbD_zero]
        exact ⟨fun z => absurd z (by decide), fun z => absurd z.2 q⟩
    rw [hb]
    constructor
    · rintro (⟨z1, z2⟩ | ⟨z1, z2⟩)
      · exact ⟨by omega, z2⟩
      · subst z1
        exact ⟨by omega, z2⟩
    · rintro ⟨z1, z2⟩
      by_cases q : k = n
      · subst q
        exact Or.inr ⟨rfl, z2⟩
      · exact Or.inl ⟨by omega, z2⟩
theorem rsr_at {ρ : RS} {c m g : Int32} (h0 : 0 ≤ g.toInt) (h1 : g.toInt < rZ ρ 212) (h2 : rZ ρ 212 ≤ 10) : (rsrN ρ c m >>> (g &&& 31)) &&& 1 = 1 ↔ rsee ρ (Int32.toNatClampNeg g) c m (rbr1 ρ c) (rfog ρ m) := by
  have eg : Int32.ofNat (Int32.toNatClampNeg g) = g := i32n h0
  have ek : Int32.toNatClampNeg g = g.toInt.toNat := rfl
  have h := i32bit (x := rsrN ρ c m) (k := Int32.toNatClampNeg g) (by omega)
  rw [eg] at h
  rw [h]
  unfold rsrN
  rw [cnS (by omega), rsr_bt _ (by omega) _ (by omega)]
  exact ⟨fun z => z.2, fun z => ⟨by omega, z⟩⟩
noncomputable def rseV (ρ : RS) (g c m : Int32) : Int32 := if g = -1 then cif (rwat ρ c m) 1 0 else cif (rsee ρ (Int32.toNatClampNeg g) c m (rbr1 ρ c) (rfog ρ m)) 1 0
theorem rse_w {ρ : RS} {c m g v : Int32} (h : g = -1) (hb : v = 0 ∨ v = 1) (hr : v = 1 ↔ rwat ρ c m) : v = rseV ρ g c m := by
  unfold rseV
  rw [if_pos h]
  exact b01 hb hr
theorem rse_0 {ρ : RS} {c m g : Int32} (h : ¬ g = -1) (h0 : 0 ≤ g.toInt) (h1 : g.toInt < rZ ρ 212) (h2 : rZ ρ 212 ≤ 10) (q : ¬ (rsrN ρ c m >>> (g &&& 31)) &&& 1 = 1) : 0 = rseV ρ g c m := by
  unfold rseV
  rw [if_neg h, cif_f (fun z => q ((rsr_at h0 h1 h2).mpr z))]
theorem rse_1 {ρ : RS} {c m g : Int32} (h : ¬ g = -1) (h0 : 0 ≤ g.toInt) (h1 : g.toInt < rZ ρ 212) (h2 : rZ ρ 212 ≤ 10) (q : (rsrN ρ c m >>> (g &&& 31)) &&& 1 = 1) : 1 = rseV ρ g c m := by
  unfold rseV
  rw [if_neg h, cif_t ((rsr_at h0 h1 h2).mp q)]
abbrev roSees (guard cell minute : Int32) (r : Option Value) (ρ ρ1 : RS) : Prop := ((((guard = -1 ∨ OKG ρ guard) ∧ OKR ρ cell) ∧ OKm minute) ∧ r = some (.int (rseV (rin ρ 0 0) guard cell minute)) ∧ rI ρ1 0 = 0 ∧ rSm ρ ρ1) ∨ roNo (¬ ((guard = -1 ∨ OKG ρ guard) ∧ OKR ρ cell)) 1 ρ ρ1 ∨ roNo (((guard = -1 ∨ OKG ρ guard) ∧ OKR ρ cell) ∧ ¬ OKm minute) 2 ρ ρ1
set_option maxHeartbeats 4000000 in
set_option maxRecDepth 100000 in
theorem m_X12_cellNow_v {l : Launch} {S0 : State} {A0 : Array Value} {D : va_G} {aC : Nat → ClassId} {ic : Int32 → Nat} {de : Nat} {ad : Nat → Nat} {G : AH} {ρ : RS} (hS : yS l S0 A0 D aC) (hI : yIc S0 ic de) (hX : atR aC ic de ad G ρ) (cell : Int32) (minute : Int32) (what : Int32) (hcell : rcell ρ cell) : yM l S0 D yX12_cellNow cX12_cellNow 4 (some .int) 21 0 0 [.ref (ad 200), .int cell, .int minute, .int what] G (fun r G1 => r = some (.int (rclN ρ cell minute what)) ∧ G1 = G) (fun _ _ => False) := by
  refine yM.ofK K_X12_cellNow rfl (by decide) (Nat.le_of_ble_eq_true rfl) ?_
  have hc0 := hcell.1
  have hc1 := hcell.2
  refine y_blk 1 tq_X12_cellNow (z := (1, [(0, .ref (ad 200)), (1, .int cell), (2, .int minute), (3, .int what)], [.int what])) rfl ?_
  by_cases s1_0 : what = 0
  · refine y_swIn tq_X12_cellNow 32 rfl (by rw [s1_0]; decide) (by rw [s1_0]; decide) (by rw [s1_0]; rfl) rfl ?_
    refine y_blk 1 tq_X12_cellNow (z := (33, [(0, .ref (ad 200)), (1, .int cell), (2, .int minute), (3, .int what)], [.ref (ad 200)])) rfl ?_
    refine y_get hS tq_X12_cellNow (v := .ref (ad 201)) rfl fg_X12_7_X12 hX.m rfl ?_
    refine y_blk 1 tq_X12_cellNow (z := (37, [(0, .ref (ad 200)), (1, .int cell), (2, .int minute), (3, .int what)], [.int cell, .ref (ad 201)])) rfl ?_
    refine y_iald hS tq_X12_cellNow rfl hX.ki (by first | exact yIn (by decide) (by decide) | exact yIn (by assumption) (by assumption) | (exact yIn (by omega) (by omega))) ?_
    refine y_blk 0 tq_X12_cellNow (z := (38, [(0, .ref (ad 200)), (1, .int cell), (2, .int minute), (3, .int what)], [.int ((rV ρ 201) (Int32.toNatClampNeg cell))])) rfl ?_
    exact y_iret tq_X12_cellNow rfl rfl (⟨congrArg (fun z => some (Value.int z)) (by unfold rclN; (repeat' split) <;> first | contradiction | with_reducible rfl | exact (cif_f (fun q => by rw [hr_x41.mpr q] at c44; exact absurd c44 (by decide))).symm | exact (cif_t (hr_x41.mp (hb_x41.resolve_left c44))).symm | exact (cif_f (fun q => by rw [hr_x70.mpr q] at c73; exact absurd c73 (by decide))).symm | exact (cif_t (hr_x70.mp (hb_x70.resolve_left c73))).symm), rfl⟩)
  by_cases s1_1 : what = 1
  · refine y_swIn tq_X12_cellNow 39 rfl (by rw [s1_1]; decide) (by rw [s1_1]; decide) (by rw [s1_1]; rfl) rfl ?_
    refine y_blk 2 tq_X12_cellNow (z := (41, [(0, .ref (ad 200)), (1, .int cell), (2, .int minute), (3, .int what)], [.int cell, .ref (ad 200)])) rfl ?_
    refine y_callV hS tq_X12_cellNow rfl (As := [.int cell]) rfl cv_X12_120 hX.m (m_X12_isBright_v hS hI hX cell (by first | (with_reducible assumption) | (with_reducible exact hX.lac (by assumption)) | (with_reducible exact hX.poc (by assumption)) | (with_reducible exact hX.wac (by assumption) (by assumption) (by omega)) | assumption | exact hX.lac (by assumption) | exact hX.poc (by assumption) | exact hX.wac (by assumption) (by assumption) (by omega))) rfl (by decide) (Nat.le_of_ble_eq_true rfl) (fun r41 Gc41 q41 => ?_) (fun E9 G9 h9 => h9.elim)
    obtain ⟨⟨x41, hb_x41, hr_x41, rfl⟩, eG41⟩ := q41
    have eG41 := eG41.symm
    subst eG41
    refine y_blk 0 tq_X12_cellNow (z := (44, [(0, .ref (ad 200)), (1, .int cell), (2, .int minute), (3, .int what)], [.int x41])) rfl ?_
    refine y_if_eq tq_X12_cellNow 51 rfl rfl (fun c44 => ?_) (fun c44 => ?_)
    · skip
      refine y_blk 1 tq_X12_cellNow (z := (52, [(0, .ref (ad 200)), (1, .int cell), (2, .int minute), (3, .int what)], [.int 0])) rfl ?_
      exact y_iret tq_X12_cellNow rfl rfl (⟨congrArg (fun z => some (Value.int z)) (by unfold rclN; (repeat' split) <;> first | contradiction | with_reducible rfl | exact (cif_f (fun q => by rw [hr_x41.mpr q] at c44; exact absurd c44 (by decide))).symm | exact (cif_t (hr_x41.mp (hb_x41.resolve_left c44))).symm | exact (cif_f (fun q => by rw [hr_x70.mpr q] at c73; exact absurd c73 (by decide))).symm | exact (cif_t (hr_x70.mp (hb_x70.resolve_left c73))).symm), rfl⟩)
    · skip
      refine y_blk 2 tq_X12_cellNow (z := (52, [(0, .ref (ad 200)), (1, .int cell), (2, .int minute), (3, .int what)], [.int 1])) rfl ?_
      exact y_iret tq_X12_cellNow rfl rfl (⟨congrArg (fun z => some (Value.int z)) (by unfold rclN; (repeat' split) <;> first | contradiction | with_reducible rfl | exact (cif_f (fun q => by rw [hr_x41.mpr q] at c44; exact absurd c44 (by decide))).symm | exact (cif_t (hr_x41.mp (hb_x41.resolve_left c44))).symm | exact (cif_f (fun q => by rw [hr_x70.mpr q] at c73; exact absurd c73 (by decide))).symm | exact (cif_t (hr_x70.mp (hb_x70.resolve_left c73))).symm), rfl⟩)
  by_cases s1_2 : what = 2
  · refine y_swIn tq_X12_cellNow 53 rfl (by rw [s1_2]; decide) (by rw [s1_2]; decide) (by rw [s1_2]; rfl) rfl ?_
    refine y_blk 3 tq_X12_cellNow (z := (56, [(0, .ref (ad 200)), (1, .int cell), (2, .int minute), (3, .int what)], [.int minute, .int cell, .ref (ad 200)])) rfl ?_
    refine y_callV hS tq_X12_cellNow rfl (As := [.int cell, .int minute]) rfl cv_X12_186 hX.m (m_X12_seers_v hS hI hX cell minute (by first | (with_reducible assumption) | (with_reducible exact hX.lac (by assumption)) | (with_reducible exact hX.poc (by assumption)) | (with_reducible exact hX.wac (by assumption) (by assumption) (by omega)) | assumption | exact hX.lac (by assumption) | exact hX.poc (by assumption) | exact hX.wac (by assumption) (by assumption) (by omega))) rfl (by decide) (Nat.le_of_ble_eq_true rfl) (fun r56 Gc56 q56 => ?_) (fun E9 G9 h9 => h9.elim)
    obtain ⟨rfl, eG56⟩ := q56
    have eG56 := eG56.symm
    subst eG56
    refine y_blk 0 tq_X12_cellNow (z := (59, [(0, .ref (ad 200)), (1, .int cell), (2, .int minute), (3, .int what)], [.int (rsrN ρ cell minute)])) rfl ?_
    exact y_iret tq_X12_cellNow rfl rfl (⟨congrArg (fun z => some (Value.int z)) (by unfold rclN; (repeat' split) <;> first | contradiction | with_reducible rfl | exact (cif_f (fun q => by rw [hr_x41.mpr q] at c44; exact absurd c44 (by decide))).symm | exact (cif_t (hr_x41.mp (hb_x41.resolve_left c44))).symm | exact (cif_f (fun q => by rw [hr_x70.mpr q] at c73; exact absurd c73 (by decide))).symm | exact (cif_t (hr_x70.mp (hb_x70.resolve_left c73))).symm), rfl⟩)
  by_cases s1_3 : what = 3
  · refine y_swIn tq_X12_cellNow 60 rfl (by rw [s1_3]; decide) (by rw [s1_3]; decide) (by rw [s1_3]; rfl) rfl ?_
    refine y_blk 3 tq_X12_cellNow (z := (63, [(0, .ref (ad 200)), (1, .int cell), (2, .int minute), (3, .int what)], [.int minute, .int cell, .ref (ad 200)])) rfl ?_
    refine y_callV hS tq_X12_cellNow rfl (As := [.int cell, .int minute]) rfl cv_X12_189 hX.m (m_X12_onCell_v hS hI hX cell minute) rfl (by decide) (Nat.le_of_ble_eq_true rfl) (fun r63 Gc63 q63 => ?_) (fun E9 G9 h9 => h9.elim)
    obtain ⟨rfl, eG63⟩ := q63
    have eG63 := eG63.symm
    subst eG63
    refine y_blk 0 tq_X12_cellNow (z := (66, [(0, .ref (ad 200)), (1, .int cell), (2, .int minute), (3, .int what)], [.int (ronc ρ cell minute)])) rfl ?_
    exact y_iret tq_X12_cellNow rfl rfl (⟨congrArg (fun z => some (Value.int z)) (by unfold rclN; (repeat' split) <;> first | contradiction | with_reducible rfl | exact (cif_f (fun q => by rw [hr_x41.mpr q] at c44; exact absurd c44 (by decide))).symm | exact (cif_t (hr_x41.mp (hb_x41.resolve_left c44))).symm | exact (cif_f (fun q => by rw [hr_x70.mpr q] at c73; exact absurd c73 (by decide))).symm | exact (cif_t (hr_x70.mp (hb_x70.resolve_left c73))).symm), rfl⟩)
  refine y_swOut tq_X12_cellNow 67 rfl (by have z0 : what.toInt ≠ 0 := fun q => s1_0 (Int32.toInt_inj.mp (q.trans (by decide))); have z1 : what.toInt ≠ 1 := fun q => s1_1 (Int32.toInt_inj.mp (q.trans (by decide))); have z2 : what.toInt ≠ 2 := fun q => s1_2 (Int32.toInt_inj.mp (q.trans (by decide))); have z3 : what.toInt ≠ 3 := fun q => s1_3 (Int32.toInt_inj.mp (q.trans (by decide))); omega) rfl ?_
  refine y_blk 3 tq_X12_cellNow (z := (70, [(0, .ref (ad 200)), (1, .int cell), (2, .int minute), (3, .int what)], [.int minute, .int cell, .ref (ad 200)])) rfl ?_
  refine y_callV hS tq_X12_cellNow rfl (As := [.int cell, .int minute]) rfl cv_X12_192 hX.m (m_X12_isWalked_v hS hI hX cell minute (by first | (with_reducible assumption) | (with_reducible exact hX.lac (by assumption)) | (with_reducible exact hX.poc (by assumption)) | (with_reducible exact hX.wac (by assumption) (by assumption) (by omega)) | assumption | exact hX.lac (by assumption) | exact hX.poc (by assumption) | exact hX.wac (by assumption) (by assumption) (by omega))) rfl (by decide) (Nat.le_of_ble_eq_true rfl) (fun r70 Gc70 q70 => ?_) (fun E9 G9 h9 => h9.elim)
  obtain ⟨⟨x70, hb_x70, hr_x70, rfl⟩, eG70⟩ := q70
  have eG70 := eG70.symm
  subst eG70
  refine y_blk 0 tq_X12_cellNow (z := (73, [(0, .ref (ad 200)), (1, .int cell), (2, .int minute), (3, .int what)], [.int x70])) rfl ?_
  refine y_if_eq tq_X12_cellNow 80 rfl rfl (fun c73 => ?_) (fun c73 => ?_)
  · skip
    refine y_blk 1 tq_X12_cellNow (z := (81, [(0, .ref (ad 200)), (1, .int cell), (2, .int minute), (3, .int what)], [.int 0])) rfl ?_
    exact y_iret tq_X12_cellNow rfl rfl (⟨congrArg (fun z => some (Value.int z)) (by unfold rclN; (repeat' split) <;> first | contradiction | with_reducible rfl | exact (cif_f (fun q => by rw [hr_x41.mpr q] at c44; exact absurd c44 (by decide))).symm | exact (cif_t (hr_x41.mp (hb_x41.resolve_left c44))).symm | exact (cif_f (fun q => by rw [hr_x70.mpr q] at c73; exact absurd c73 (by decide))).symm | exact (cif_t (hr_x70.mp (hb_x70.resolve_left c73))).symm), rfl⟩)
  · skip
    refine y_blk 2 tq_X12_cellNow (z := (81, [(0, .ref (ad 200)), (1, .int cell), (2, .int minute), (3, .int what)], [.int 1])) rfl ?_
    exact y_iret tq_X12_cellNow rfl rfl (⟨congrArg (fun z => some (Value.int z)) (by unfold rclN; (repeat' split) <;> first | contradiction | with_reducible rfl | exact (cif_f (fun q => by rw [hr_x41.mpr q] at c44; exact absurd c44 (by decide))).symm | exact (cif_t (hr_x41.mp (hb_x41.resolve_left c44))).symm | exact (cif_f (fun q => by rw [hr_x70.mpr q] at c73; exact absurd c73 (by decide))).symm | exact (cif_t (hr_x70.mp (hb_x70.resolve_left c73))).symm), rfl⟩)
set_option maxHeartbeats 4000000 in
set_option maxRecDepth 100000 in
theorem m_X12_ofCell_v {l : Launch} {S0 : State} {A0 : Array Value} {D : va_G} {aC : Nat → ClassId} {ic : Int32 → Nat} {de : Nat} {ad : Nat → Nat} {G : AH} {ρ : RS} (hS : yS l S0 A0 D aC) (hI : yIc S0 ic de) (hX : atR aC ic de ad G ρ) (cell : Int32) (minute : Int32) (what : Int32) : yM l S0 D yX12_ofCell cX12_ofCell 4 (some .int) 22 0 0 [.ref (ad 200), .int cell, .int minute, .int what] G (fun r G1 => (∃ v : Int32, r = some (.int v)) ∧ ∃ (ad1 : Nat → Nat) (ρ1 : RS), atR aC ic de ad1 G1 ρ1 ∧ ad1 200 = ad 200 ∧ yTg kR G G1 ∧ roOfCell cell minute what r ρ ρ1) (fun _ _ => False) := by
  refine yM.ofK K_X12_ofCell rfl (by decide) (Nat.le_of_ble_eq_true rfl) ?_
  refine y_blk 2 tq_X12_ofCell (z := (2, [(0, .ref (ad 200)), (1, .int cell), (2, .int minute), (3, .int what)], [.int 0, .ref (ad 200)])) rfl ?_
  refine y_put hS tq_X12_ofCell rfl fp_X12_51_X12 hX.m (by omega) rfl rfl (Nat.le_of_ble_eq_true rfl) ?_
  have hX2 : atR aC ic de ad (yup G (ad 200) (200, .inr (16, [.int 0, .int (rI ρ 1), .int (rI ρ 2), .ref (ad 201), .int (rI ρ 3), .int (rI ρ 4), .ref (ad 210), .ref (ad 211), .ref (ad 212), .ref (ad 213), .int (rI ρ 5), .int (rI ρ 6), .int (rI ρ 7), .ref (ad 202), .ref (ad 214), .int (rI ρ 8), .ref (ad 203), .ref (ad 215), .ref (ad 216), .int (rI ρ 9)]))) ((rin ρ 0 0)) := atR.setIb hX rfl rfl (hX.2.setI (by decide))
  have kt2 : yTg kR G (yup G (ad 200) (200, .inr (16, [.int 0, .int (rI ρ 1), .int (rI ρ 2), .ref (ad 201), .int (rI ρ 3), .int (rI ρ 4), .ref (ad 210), .ref (ad 211), .ref (ad 212), .ref (ad 213), .int (rI ρ 5), .int (rI ρ 6), .int (rI ρ 7), .ref (ad 202), .ref (ad 214), .int (rI ρ 8), .ref (ad 203), .ref (ad 215), .ref (ad 216), .int (rI ρ 9)]))) := ((yTg.rfl' (f := kR) (G := G))).trans (yTg.up hX.m (kR_n (by omega) (by omega)))
  show Y l S0 D K_X12_ofCell 22 0 0 (fun r G1 => (∃ v : Int32, r = some (.int v)) ∧ ∃ (ad1 : Nat → Nat) (ρ1 : RS), atR aC ic de ad1 G1 ρ1 ∧ ad1 200 = ad 200 ∧ yTg kR G G1 ∧ roOfCell cell minute what r ρ ρ1) (fun _ _ => False) (2 + 3) [(0, .ref (ad 200)), (1, .int cell), (2, .int minute), (3, .int what)] [] (yup G (ad 200) (200, .inr (16, [.int 0, .int (rI ρ 1), .int (rI ρ 2), .ref (ad 201), .int (rI ρ 3), .int (rI ρ 4), .ref (ad 210), .ref (ad 211), .ref (ad 212), .ref (ad 213), .int (rI ρ 5), .int (rI ρ 6), .int (rI ρ 7), .ref (ad 202), .ref (ad 214), .int (rI ρ 8), .ref (ad 203), .ref (ad 215), .ref (ad 216), .int (rI ρ 9)]))) 0 0
  generalize yup G (ad 200) (200, .inr (16, [.int 0, .int (rI ρ 1), .int (rI ρ 2), .ref (ad 201), .int (rI ρ 3), .int (rI ρ 4), .ref (ad 210), .ref (ad 211), .ref (ad 212), .ref (ad 213), .int (rI ρ 5), .int (rI ρ 6), .int (rI ρ 7), .ref (ad 202), .ref (ad 214), .int (rI ρ 8), .ref (ad 203), .ref (ad 215), .ref (ad 216), .int (rI ρ 9)])) = G2 at hX2 kt2 ⊢
  refine y_blk 2 tq_X12_ofCell (z := (7, [(0, .ref (ad 200)), (1, .int cell), (2, .int minute), (3, .int what)], [.int cell, .ref (ad 200)])) rfl ?_
  refine y_callV hS tq_X12_ofCell rfl (As := [.int cell]) rfl cv_X12_157 hX2.m (m_X12_isCell hS hI hX2 cell) rfl (by decide) (Nat.le_of_ble_eq_true rfl) (fun r7 Gc7 q7 => ?_) (fun E9 G9 h9 => h9.elim)
  obtain ⟨rfl, eG7⟩ := q7
  have eG7 := eG7.symm
  subst eG7
  refine y_blk 0 tq_X12_ofCell (z := (10, [(0, .ref (ad 200)), (1, .int cell), (2, .int minute), (3, .int what)], [.int (if 0 ≤ cell ∧ cell ≤ (Int32.ofNat (rZ ((rin ρ 0 0)) 201)) - 1 then 1 else 0)])) rfl ?_
  refine y_if_ne tq_X12_ofCell 19 rfl rfl (fun c10 => ?_) (fun c10 => ?_)
  · skip
    have hq10 := yif1 c10
    have hn10 := yinN (n := rZ ((rin ρ 0 0)) 201) (by have := hX2.2.n64; omega) hq10
    have ha10 := hn10.1
    have hb10 := hn10.2
    refine y_blk 1 tq_X12_ofCell (z := (20, [(0, .ref (ad 200)), (1, .int cell), (2, .int minute), (3, .int what)], [.int minute])) rfl ?_
    refine y_callS hS tq_X12_ofCell rfl (As := [.int minute]) rfl cs_X12_163 (m_X12_isMinute hS minute) rfl (by decide) (Nat.le_of_ble_eq_true rfl) (fun r20 Gc20 q20 => ?_) (fun E9 G9 h9 => h9.elim)
    obtain ⟨rfl, eG20⟩ := q20
    have eG20 := eG20.symm
    subst eG20
    refine y_blk 0 tq_X12_ofCell (z := (23, [(0, .ref (ad 200)), (1, .int cell), (2, .int minute), (3, .int what)], [.int (if 0 ≤ minute ∧ minute ≤ 239 then 1 else 0)])) rfl ?_
    refine y_if_eq tq_X12_ofCell 35 rfl rfl (fun c23 => ?_) (fun c23 => ?_)
    · skip
      refine y_blk 2 tq_X12_ofCell (z := (37, [(0, .ref (ad 200)), (1, .int cell), (2, .int minute), (3, .int what)], [.int 2, .ref (ad 200)])) rfl ?_
      refine y_callV hS tq_X12_ofCell rfl (As := [.int 2]) rfl cv_X12_140 hX2.m (m_X12_no hS hI hX2 2) rfl (by decide) (Nat.le_of_ble_eq_true rfl) (fun r37 Gc37 q37 => ?_) (fun E9 G9 h9 => h9.elim)
      obtain ⟨rfl, hX37, kt37_⟩ := q37
      have kt37 := (kt2).trans kt37_
      refine y_blk 0 tq_X12_ofCell (z := (40, [(0, .ref (ad 200)), (1, .int cell), (2, .int minute), (3, .int what)], [.int 0])) rfl ?_
      exact y_iret tq_X12_ofCell rfl rfl (⟨⟨_, rfl⟩, ad, _, hX37, rfl, kt37, Or.inr (Or.inr (⟨⟨yif1 c10, (by first | exact fun q => rif c32 q.2 | exact fun q => rif c23 q.1)⟩, rfl, (rSm.in0 (rSm.in0 rSm.rfl'))⟩))⟩)
    · skip
      have hq23 := yif1 c23
      simp only [yle, yl_m1, yl_0, yl_1, yl_2, yl_3, yl_4, yl_5, yl_6, yl_7, yl_8, yl_9, yl_10, yl_11, yl_12, yl_60, yl_90, yl_239, yl_240] at hq23
      have ha23 := hq23.1
      have hb23 := hq23.2
      refine y_blk 3 tq_X12_ofCell (z := (29, [(0, .ref (ad 200)), (1, .int cell), (2, .int minute), (3, .int what)], [.int 4, .int 0, .int what])) rfl ?_
      refine y_callS hS tq_X12_ofCell rfl (As := [.int what, .int 0, .int 4]) rfl cs_X12_54 (m_X12_in hS what 0 4) rfl (by decide) (Nat.le_of_ble_eq_true rfl) (fun r29 Gc29 q29 => ?_) (fun E9 G9 h9 => h9.elim)
      obtain ⟨rfl, eG29⟩ := q29
      have eG29 := eG29.symm
      subst eG29
      refine y_blk 0 tq_X12_ofCell (z := (32, [(0, .ref (ad 200)), (1, .int cell), (2, .int minute), (3, .int what)], [.int (if 0 ≤ what ∧ what ≤ 4 then 1 else 0)])) rfl ?_
      refine y_if_ne tq_X12_ofCell 41 rfl rfl (fun c32 => ?_) (fun c32 => ?_)
      · skip
        have hq32 := yif1 c32
        simp only [yle, yl_m1, yl_0, yl_1, yl_2, yl_3, yl_4, yl_5, yl_6, yl_7, yl_8, yl_9, yl_10, yl_11, yl_12, yl_60, yl_90, yl_239, yl_240] at hq32
        have ha32 := hq32.1
        have hb32 := hq32.2
        refine y_blk 4 tq_X12_ofCell (z := (45, [(0, .ref (ad 200)), (1, .int cell), (2, .int minute), (3, .int what)], [.int what, .int minute, .int cell, .ref (ad 200)])) rfl ?_
        refine y_callV hS tq_X12_ofCell rfl (As := [.int cell, .int minute, .int what]) rfl cv_X12_195 hX2.m (m_X12_cellNow_v hS hI hX2 cell minute what (by first | (with_reducible assumption) | (with_reducible exact hX2.lac (by assumption)) | (with_reducible exact hX2.poc (by assumption)) | (with_reducible exact hX2.wac (by assumption) (by assumption) (by omega)) | assumption | exact hX2.lac (by assumption) | exact hX2.poc (by assumption) | exact hX2.wac (by assumption) (by assumption) (by omega))) rfl (by decide) (Nat.le_of_ble_eq_true rfl) (fun r45 Gc45 q45 => ?_) (fun E9 G9 h9 => h9.elim)
        obtain ⟨rfl, eG45⟩ := q45
        have eG45 := eG45.symm
        subst eG45
        refine y_blk 0 tq_X12_ofCell (z := (48, [(0, .ref (ad 200)), (1, .int cell), (2, .int minute), (3, .int what)], [.int (rclN ((rin ρ 0 0)) cell minute what)])) rfl ?_
        exact y_iret tq_X12_ofCell rfl rfl (⟨⟨_, rfl⟩, ad, _, hX2, rfl, kt2, Or.inl (⟨⟨yif1 c10, yif1 c23, yif1 c32⟩, rfl, rfl, (rSm.in0 rSm.rfl')⟩)⟩)
      · skip
        refine y_blk 2 tq_X12_ofCell (z := (37, [(0, .ref (ad 200)), (1, .int cell), (2, .int minute), (3, .int what)], [.int 2, .ref (ad 200)])) rfl ?_
        refine y_callV hS tq_X12_ofCell rfl (As := [.int 2]) rfl cv_X12_140 hX2.m (m_X12_no hS hI hX2 2) rfl (by decide) (Nat.le_of_ble_eq_true rfl) (fun r37 Gc37 q37 => ?_) (fun E9 G9 h9 => h9.elim)
        obtain ⟨rfl, hX37, kt37_⟩ := q37
        have kt37 := (kt2).trans kt37_
        refine y_blk 0 tq_X12_ofCell (z := (40, [(0, .ref (ad 200)), (1, .int cell), (2, .int minute), (3, .int what)], [.int 0])) rfl ?_
        exact y_iret tq_X12_ofCell rfl rfl (⟨⟨_, rfl⟩, ad, _, hX37, rfl, kt37, Or.inr (Or.inr (⟨⟨yif1 c10, (by first | exact fun q => rif c32 q.2 | exact fun q => rif c23 q.1)⟩, rfl, (rSm.in0 (rSm.in0 rSm.rfl'))⟩))⟩)
  · skip
    refine y_blk 2 tq_X12_ofCell (z := (15, [(0, .ref (ad 200)), (1, .int cell), (2, .int minute), (3, .int what)], [.int 1, .ref (ad 200)])) rfl ?_
    refine y_callV hS tq_X12_ofCell rfl (As := [.int 1]) rfl cv_X12_140 hX2.m (m_X12_no hS hI hX2 1) rfl (by decide) (Nat.le_of_ble_eq_true rfl) (fun r15 Gc15 q15 => ?_) (fun E9 G9 h9 => h9.elim)
    obtain ⟨rfl, hX15, kt15_⟩ := q15
    have kt15 := (kt2).trans kt15_
    refine y_blk 0 tq_X12_ofCell (z := (18, [(0, .ref (ad 200)), (1, .int cell), (2, .int minute), (3, .int what)], [.int 0])) rfl ?_
    exact y_iret tq_X12_ofCell rfl rfl (⟨⟨_, rfl⟩, ad, _, hX15, rfl, kt15, Or.inr (Or.inl (⟨rif c10, rfl, (rSm.in0 (rSm.in0 rSm.rfl'))⟩))⟩)
set_option maxHeartbeats 4000000 in
set_option maxRecDepth 100000 in
theorem m_X12_minuteNow_v {l : Launch} {S0 : State} {A0 : Array Value} {D : va_G} {aC : Nat → ClassId} {ic : Int32 → Nat} {de : Nat} {ad : Nat → Nat} {G : AH} {ρ : RS} (hS : yS l S0 A0 D aC) (hI : yIc S0 ic de) (hX : atR aC ic de ad G ρ) (minute : Int32) (what : Int32) : yM l S0 D yX12_minuteNow cX12_minuteNow 8 (some .int) 21 0 0 [.ref (ad 200), .int minute, .int what] G (fun r G1 => r = some (.int (rmiN ρ minute what)) ∧ G1 = G) (fun _ _ => False) := by
  refine yM.ofK K_X12_minuteNow rfl (by decide) (Nat.le_of_ble_eq_true rfl) ?_
  have n64 := hX.2.n64
  have hn212 := hX.2.le10 212 (by decide)
  have hn213 := hX.2.le10 213 (by decide)
  have J266 : ∀ (n266 : Nat) (v266_3 : Int32) (v266_6 : Int32) (h0_266 : 0 ≤ v266_6.toInt) (wh266 : ¬ what = 0 ∧ ¬ what = 1 ∧ ¬ what = 2 ∧ ¬ what = 3 ∧ ¬ what = 4 ∧ ¬ what = 5) (hh266 : 0 ≤ v266_6.toInt ∧ v266_6.toInt ≤ (6 : Int32).toInt) (ea266 : v266_3 = itI (rkoF ρ minute) 0 v266_6.toInt.toNat), (((Int32.ofNat 6) : Int32).toInt - v266_6.toInt).toNat = n266 → Y l S0 D K_X12_minuteNow 21 0 0 (fun r G1 => r = some (.int (rmiN ρ minute what)) ∧ G1 = G) (fun _ _ => False) 266 [(0, .ref (ad 200)), (1, .int minute), (2, .int what), (3, .int v266_3), (4, .ref (ad 203)), (5, .int (Int32.ofNat 6)), (6, .int v266_6)] [] G 0 0 := by
    intro n266
    induction n266 using Nat.strongRecOn with
    | _ n266 ih266 =>
    intro v266_3 v266_6 h0_266 wh266 hh266 ea266 hn266
    subst hn266
    refine y_blk 2 tq_X12_minuteNow (z := (270, [(0, .ref (ad 200)), (1, .int minute), (2, .int what), (3, .int v266_3), (4, .ref (ad 203)), (5, .int (Int32.ofNat 6)), (6, .int v266_6)], [.int (Int32.ofNat 6), .int v266_6])) rfl ?_
    refine y_icmp_ge tq_X12_minuteNow 321 rfl rfl (fun c270 => ?_) (fun c270 => ?_)
    · skip
      refine y_blk 1 tq_X12_minuteNow (z := (322, [(0, .ref (ad 200)), (1, .int minute), (2, .int what), (3, .int v266_3), (4, .ref (ad 203)), (5, .int (Int32.ofNat 6)), (6, .int v266_6)], [.int v266_3])) rfl ?_
      exact y_iret tq_X12_minuteNow rfl rfl (⟨congrArg (fun z => some (Value.int z)) (by first | exact (rmi_0 s3_0).symm | exact (itI_e ea49 hh49 c56).trans (rmi_1 wh49).symm | exact (itI_e ea99 hh99 c110).trans (rmi_2 wh99).symm | exact (itI_e ea153 hh153 c164).trans (rmi_3 wh153).symm | exact (itI_e ea207 hh207 c218).trans (rmi_4 wh207).symm | exact (itI_e ea266 hh266 c270).trans (rmi_6 wh266).symm | exact (rmi_5 s3_5).symm), rfl⟩)
    · skip
      have b270 : v266_6.toInt < ((6 : Nat) : Int) := yIy (by decide) h0_266 c270
      have d270 : Int32.toNatClampNeg v266_6 < 6 := yIx h0_266 b270
      refine y_blk 2 tq_X12_minuteNow (z := (277, [(0, .ref (ad 200)), (1, .int minute), (2, .int what), (3, .int v266_3), (4, .ref (ad 203)), (5, .int (Int32.ofNat 6)), (6, .int v266_6)], [.int v266_6, .ref (ad 203)])) rfl ?_
      refine y_iald hS tq_X12_minuteNow rfl hX.ke (by first | exact yIn (by decide) (by decide) | exact yIn (by assumption) (by assumption) | (exact yIn (by omega) (by omega))) ?_
      refine y_blk 4 tq_X12_minuteNow (z := (284, [(7, .int ((rV ρ 203) (Int32.toNatClampNeg v266_6))), (0, .ref (ad 200)), (1, .int minute), (2, .int what), (3, .int v266_3), (4, .ref (ad 203)), (5, .int (Int32.ofNat 6)), (6, .int v266_6)], [.int (-1), .int ((rV ρ 203) (Int32.toNatClampNeg v266_6)), .int v266_3])) rfl ?_
      refine y_icmp_eq tq_X12_minuteNow 312 rfl rfl (fun c284 => ?_) (fun c284 => ?_)
      · skip
        refine y_blk 5 tq_X12_minuteNow (z := (266, [(6, .int (v266_6 + 1)), (3, .int (v266_3 + 0)), (7, .int ((rV ρ 203) (Int32.toNatClampNeg v266_6))), (0, .ref (ad 200)), (1, .int minute), (2, .int what), (4, .ref (ad 203)), (5, .int (Int32.ofNat 6))], [])) rfl ?_
        refine y_pick (L2 := [(0, .ref (ad 200)), (1, .int minute), (2, .int what), (3, .int (v266_3 + 0)), (4, .ref (ad 203)), (5, .int (Int32.ofNat 6)), (6, .int (v266_6 + 1))]) [3, 4, 5, 1, 6, 7, 0] rfl ?_
        exact ih266 _ (by exact ydec c270) (v266_3 + 0) (v266_6 + 1) (by first | decide | assumption | exact Int.le_refl _ | exact yposgeL (by assumption) c270) (by first | assumption | exact ⟨s3_0, s3_1, s3_2, s3_3, s3_4, s3_5⟩) (by first | exact xcn_step hh266 c270 | exact xcn_init (by first | decide | (rw [yofn (by omega)]; omega))) (by first | exact itI_s ea266 hh266 c270 (by unfold rkoF; first | rw [if_pos c284] | rw [if_neg c284, if_pos (yif1 c305)] | rw [if_neg c284, if_neg (rif c305)]) | with_reducible exact itI_0) rfl
      · skip
        obtain ⟨hk0, hk1⟩ := (hX.2.2.2.2.2.1 _ d270).resolve_left c284
        refine y_blk 1 tq_X12_minuteNow (z := (288, [(7, .int ((rV ρ 203) (Int32.toNatClampNeg v266_6))), (0, .ref (ad 200)), (1, .int minute), (2, .int what), (3, .int v266_3), (4, .ref (ad 203)), (5, .int (Int32.ofNat 6)), (6, .int v266_6)], [.ref (ad 200), .int v266_3])) rfl ?_
        refine y_get hS tq_X12_minuteNow (v := .ref (ad 212)) rfl fg_X12_27_X12 hX.m rfl ?_
        refine y_blk 1 tq_X12_minuteNow (z := (293, [(7, .int ((rV ρ 203) (Int32.toNatClampNeg v266_6))), (0, .ref (ad 200)), (1, .int minute), (2, .int what), (3, .int v266_3), (4, .ref (ad 203)), (5, .int (Int32.ofNat 6)), (6, .int v266_6)], [.int ((rV ρ 203) (Int32.toNatClampNeg v266_6)), .ref (ad 212), .int v266_3])) rfl ?_
        refine y_callF hS tq_X12_minuteNow rfl (As := [.int ((rV ρ 203) (Int32.toNatClampNeg v266_6))]) rfl cf_X12_80 (Or.inl ⟨_, (hX.ls 212 (by decide)).1⟩) (m_Rgu hS hX (by assumption) (by assumption)) rfl (by decide) (Nat.le_of_ble_eq_true rfl) (fun r293 Gc293 q293 => ?_) (fun _ _ h9 => h9.elim)
        obtain ⟨rfl, eG293⟩ := q293
        have eG293 := eG293.symm
        subst eG293
        have d293 : (Int32.toNatClampNeg ((rV ρ 203) (Int32.toNatClampNeg v266_6))) < rZ ρ 212 := yIx (by assumption) (by assumption)
        refine y_blk 0 tq_X12_minuteNow (z := (298, [(7, .int ((rV ρ 203) (Int32.toNatClampNeg v266_6))), (0, .ref (ad 200)), (1, .int minute), (2, .int what), (3, .int v266_3), (4, .ref (ad 203)), (5, .int (Int32.ofNat 6)), (6, .int v266_6)], [.ref (ad (360 + (Int32.toNatClampNeg ((rV ρ 203) (Int32.toNatClampNeg v266_6))))), .int v266_3])) rfl ?_
        refine y_castG hS tq_X12_minuteNow rfl kc_X12_84 (Or.inl ⟨_, (hX.gu (by assumption))⟩) ?_
        refine y_blk 1 tq_X12_minuteNow (z := (302, [(7, .int ((rV ρ 203) (Int32.toNatClampNeg v266_6))), (0, .ref (ad 200)), (1, .int minute), (2, .int what), (3, .int v266_3), (4, .ref (ad 203)), (5, .int (Int32.ofNat 6)), (6, .int v266_6)], [.int minute, .ref (ad (360 + (Int32.toNatClampNeg ((rV ρ 203) (Int32.toNatClampNeg v266_6))))), .int v266_3])) rfl ?_
        refine y_callV hS tq_X12_minuteNow rfl (As := [.int minute]) rfl cv_X12_199 (hX.gu (by assumption)) (m_X10_isOnDuty hS hI hX (k := (Int32.toNatClampNeg ((rV ρ 203) (Int32.toNatClampNeg v266_6)))) (by assumption) minute) rfl (by decide) (Nat.le_of_ble_eq_true rfl) (fun r302 Gc302 q302 => ?_) (fun E9 G9 h9 => h9.elim)
        obtain ⟨rfl, eG302⟩ := q302
        have eG302 := eG302.symm
        subst eG302
        refine y_blk 0 tq_X12_minuteNow (z := (305, [(7, .int ((rV ρ 203) (Int32.toNatClampNeg v266_6))), (0, .ref (ad 200)), (1, .int minute), (2, .int what), (3, .int v266_3), (4, .ref (ad 203)), (5, .int (Int32.ofNat 6)), (6, .int v266_6)], [.int (if (rF ρ (360 + (Int32.toNatClampNeg ((rV ρ 203) (Int32.toNatClampNeg v266_6)))) 0) ≤ minute ∧ minute ≤ (rF ρ (360 + (Int32.toNatClampNeg ((rV ρ 203) (Int32.toNatClampNeg v266_6)))) 1) then 1 else 0), .int v266_3])) rfl ?_
        refine y_if_ne tq_X12_minuteNow 312 rfl rfl (fun c305 => ?_) (fun c305 => ?_)
        · skip
          refine y_blk 5 tq_X12_minuteNow (z := (266, [(6, .int (v266_6 + 1)), (3, .int (v266_3 + 0)), (7, .int ((rV ρ 203) (Int32.toNatClampNeg v266_6))), (0, .ref (ad 200)), (1, .int minute), (2, .int what), (4, .ref (ad 203)), (5, .int (Int32.ofNat 6))], [])) rfl ?_
          refine y_pick (L2 := [(0, .ref (ad 200)), (1, .int minute), (2, .int what), (3, .int (v266_3 + 0)), (4, .ref (ad 203)), (5, .int (Int32.ofNat 6)), (6, .int (v266_6 + 1))]) [3, 4, 5, 1, 6, 7, 0] rfl ?_
          exact ih266 _ (by exact ydec c270) (v266_3 + 0) (v266_6 + 1) (by first | decide | assumption | exact Int.le_refl _ | exact yposgeL (by assumption) c270) (by first | assumption | exact ⟨s3_0, s3_1, s3_2, s3_3, s3_4, s3_5⟩) (by first | exact xcn_step hh266 c270 | exact xcn_init (by first | decide | (rw [yofn (by omega)]; omega))) (by first | exact itI_s ea266 hh266 c270 (by unfold rkoF; first | rw [if_pos c284] | rw [if_neg c284, if_pos (yif1 c305)] | rw [if_neg c284, if_neg (rif c305)]) | with_reducible exact itI_0) rfl
        · skip
          refine y_blk 6 tq_X12_minuteNow (z := (266, [(6, .int (v266_6 + 1)), (3, .int (v266_3 + 1)), (7, .int ((rV ρ 203) (Int32.toNatClampNeg v266_6))), (0, .ref (ad 200)), (1, .int minute), (2, .int what), (4, .ref (ad 203)), (5, .int (Int32.ofNat 6))], [])) rfl ?_
          refine y_pick (L2 := [(0, .ref (ad 200)), (1, .int minute), (2, .int what), (3, .int (v266_3 + 1)), (4, .ref (ad 203)), (5, .int (Int32.ofNat 6)), (6, .int (v266_6 + 1))]) [3, 4, 5, 1, 6, 7, 0] rfl ?_
          exact ih266 _ (by exact ydec c270) (v266_3 + 1) (v266_6 + 1) (by first | decide | assumption | exact Int.le_refl _ | exact yposgeL (by assumption) c270) (by first | assumption | exact ⟨s3_0, s3_1, s3_2, s3_3, s3_4, s3_5⟩) (by first | exact xcn_step hh266 c270 | exact xcn_init (by first | decide | (rw [yofn (by omega)]; omega))) (by first | exact itI_s ea266 hh266 c270 (by unfold rkoF; first | rw [if_pos c284] | rw [if_neg c284, if_pos (yif1 c305)] | rw [if_neg c284, if_neg (rif c305)]) | with_reducible exact itI_0) rfl
  have J49 : ∀ (n49 : Nat) (v49_3 : Int32) (v49_4 : Int32) (h0_49 : 0 ≤ v49_4.toInt) (wh49 : what = 1) (hh49 : 0 ≤ v49_4.toInt ∧ v49_4.toInt ≤ (Int32.ofNat (rZ ρ 201) : Int32).toInt) (ea49 : v49_3 = itI (rouF ρ minute) 0 v49_4.toInt.toNat), (((Int32.ofNat (rZ ρ 201)) : Int32).toInt - v49_4.toInt).toNat = n49 → Y l S0 D K_X12_minuteNow 21 0 0 (fun r G1 => r = some (.int (rmiN ρ minute what)) ∧ G1 = G) (fun _ _ => False) 49 [(0, .ref (ad 200)), (1, .int minute), (2, .int what), (3, .int v49_3), (4, .int v49_4)] [] G 0 0 := by
    intro n49
    induction n49 using Nat.strongRecOn with
    | _ n49 ih49 =>
    intro v49_3 v49_4 h0_49 wh49 hh49 ea49 hn49
    subst hn49
    refine y_blk 2 tq_X12_minuteNow (z := (52, [(0, .ref (ad 200)), (1, .int minute), (2, .int what), (3, .int v49_3), (4, .int v49_4)], [.ref (ad 200), .int v49_4])) rfl ?_
    refine y_get hS tq_X12_minuteNow (v := .ref (ad 201)) rfl fg_X12_7_X12 hX.m rfl ?_
    refine y_blk 0 tq_X12_minuteNow (z := (55, [(0, .ref (ad 200)), (1, .int minute), (2, .int what), (3, .int v49_3), (4, .int v49_4)], [.ref (ad 201), .int v49_4])) rfl ?_
    refine y_alen hS tq_X12_minuteNow 0 rfl rfl hX.ki ?_
    refine y_blk 0 tq_X12_minuteNow (z := (56, [(0, .ref (ad 200)), (1, .int minute), (2, .int what), (3, .int v49_3), (4, .int v49_4)], [.int (Int32.ofNat (rZ ρ 201)), .int v49_4])) rfl ?_
    refine y_icmp_ge tq_X12_minuteNow 94 rfl rfl (fun c56 => ?_) (fun c56 => ?_)
    · skip
      refine y_blk 1 tq_X12_minuteNow (z := (95, [(0, .ref (ad 200)), (1, .int minute), (2, .int what), (3, .int v49_3), (4, .int v49_4)], [.int v49_3])) rfl ?_
      exact y_iret tq_X12_minuteNow rfl rfl (⟨congrArg (fun z => some (Value.int z)) (by first | exact (rmi_0 s3_0).symm | exact (itI_e ea49 hh49 c56).trans (rmi_1 wh49).symm | exact (itI_e ea99 hh99 c110).trans (rmi_2 wh99).symm | exact (itI_e ea153 hh153 c164).trans (rmi_3 wh153).symm | exact (itI_e ea207 hh207 c218).trans (rmi_4 wh207).symm | exact (itI_e ea266 hh266 c270).trans (rmi_6 wh266).symm | exact (rmi_5 s3_5).symm), rfl⟩)
    · skip
      have hn56 := hX.2.n64
      have b56 : v49_4.toInt < rZ ρ 201 := yIy (by omega) h0_49 c56
      have d56 : Int32.toNatClampNeg v49_4 < rZ ρ 201 := yIx h0_49 b56
      have e56 : rcell ρ v49_4 := ⟨h0_49, b56⟩
      refine y_blk 2 tq_X12_minuteNow (z := (61, [(0, .ref (ad 200)), (1, .int minute), (2, .int what), (3, .int v49_3), (4, .int v49_4)], [.ref (ad 200), .int v49_3])) rfl ?_
      refine y_get hS tq_X12_minuteNow (v := .ref (ad 201)) rfl fg_X12_7_X12 hX.m rfl ?_
      refine y_blk 1 tq_X12_minuteNow (z := (66, [(0, .ref (ad 200)), (1, .int minute), (2, .int what), (3, .int v49_3), (4, .int v49_4)], [.int v49_4, .ref (ad 201), .int v49_3])) rfl ?_
      refine y_iald hS tq_X12_minuteNow rfl hX.ki (by first | exact yIn (by decide) (by decide) | exact yIn (by assumption) (by assumption) | (exact yIn (by omega) (by omega))) ?_
      refine y_blk 1 tq_X12_minuteNow (z := (68, [(0, .ref (ad 200)), (1, .int minute), (2, .int what), (3, .int v49_3), (4, .int v49_4)], [.int 1, .int ((rV ρ 201) (Int32.toNatClampNeg v49_4)), .int v49_3])) rfl ?_
      refine y_icmp_eq tq_X12_minuteNow 85 rfl rfl (fun c68 => ?_) (fun c68 => ?_)
      · skip
        refine y_blk 5 tq_X12_minuteNow (z := (49, [(4, .int (v49_4 + 1)), (3, .int (v49_3 + 0)), (0, .ref (ad 200)), (1, .int minute), (2, .int what)], [])) rfl ?_
        refine y_pick (L2 := [(0, .ref (ad 200)), (1, .int minute), (2, .int what), (3, .int (v49_3 + 0)), (4, .int (v49_4 + 1))]) [2, 3, 4, 1, 0] rfl ?_
        exact ih49 _ (by exact ydec c56) (v49_3 + 0) (v49_4 + 1) (by first | decide | assumption | exact Int.le_refl _ | exact yposgeL (by assumption) c56) (by assumption) (by first | exact xcn_step hh49 c56 | exact xcn_init (by first | decide | (rw [yofn (by omega)]; omega))) (by first | exact itI_s ea49 hh49 c56 (by first | exact rou_0 c68 | exact rou_1 (hr_x75.mp (hb_x75.resolve_left c78)) | exact rou_2 c68 (fun q => by rw [hr_x75.mpr q] at c78; exact absurd c78 (by decide))) | with_reducible exact itI_0) rfl
      · skip
        refine y_blk 3 tq_X12_minuteNow (z := (75, [(0, .ref (ad 200)), (1, .int minute), (2, .int what), (3, .int v49_3), (4, .int v49_4)], [.int minute, .int v49_4, .ref (ad 200), .int v49_3])) rfl ?_
        refine y_callV hS tq_X12_minuteNow rfl (As := [.int v49_4, .int minute]) rfl cv_X12_183 hX.m (m_X12_isWatched_v hS hI hX v49_4 minute (by first | (with_reducible assumption) | (with_reducible exact hX.lac (by assumption)) | (with_reducible exact hX.poc (by assumption)) | (with_reducible exact hX.wac (by assumption) (by assumption) (by omega)) | assumption | exact hX.lac (by assumption) | exact hX.poc (by assumption) | exact hX.wac (by assumption) (by assumption) (by omega))) rfl (by decide) (Nat.le_of_ble_eq_true rfl) (fun r75 Gc75 q75 => ?_) (fun E9 G9 h9 => h9.elim)
        obtain ⟨⟨x75, hb_x75, hr_x75, rfl⟩, eG75⟩ := q75
        have eG75 := eG75.symm
        subst eG75
        refine y_blk 0 tq_X12_minuteNow (z := (78, [(0, .ref (ad 200)), (1, .int minute), (2, .int what), (3, .int v49_3), (4, .int v49_4)], [.int x75, .int v49_3])) rfl ?_
        refine y_if_ne tq_X12_minuteNow 85 rfl rfl (fun c78 => ?_) (fun c78 => ?_)
        · skip
          refine y_blk 5 tq_X12_minuteNow (z := (49, [(4, .int (v49_4 + 1)), (3, .int (v49_3 + 0)), (0, .ref (ad 200)), (1, .int minute), (2, .int what)], [])) rfl ?_
          refine y_pick (L2 := [(0, .ref (ad 200)), (1, .int minute), (2, .int what), (3, .int (v49_3 + 0)), (4, .int (v49_4 + 1))]) [2, 3, 4, 1, 0] rfl ?_
          exact ih49 _ (by exact ydec c56) (v49_3 + 0) (v49_4 + 1) (by first | decide | assumption | exact Int.le_refl _ | exact yposgeL (by assumption) c56) (by assumption) (by first | exact xcn_step hh49 c56 | exact xcn_init (by first | decide | (rw [yofn (by omega)]; omega))) (by first | exact itI_s ea49 hh49 c56 (by first | exact rou_0 c68 | exact rou_1 (hr_x75.mp (hb_x75.resolve_left c78)) | exact rou_2 c68 (fun q => by rw [hr_x75.mpr q] at c78; exact absurd c78 (by decide))) | with_reducible exact itI_0) rfl
        · skip
          refine y_blk 6 tq_X12_minuteNow (z := (49, [(4, .int (v49_4 + 1)), (3, .int (v49_3 + 1)), (0, .ref (ad 200)), (1, .int minute), (2, .int what)], [])) rfl ?_
          refine y_pick (L2 := [(0, .ref (ad 200)), (1, .int minute), (2, .int what), (3, .int (v49_3 + 1)), (4, .int (v49_4 + 1))]) [2, 3, 4, 1, 0] rfl ?_
          exact ih49 _ (by exact ydec c56) (v49_3 + 1) (v49_4 + 1) (by first | decide | assumption | exact Int.le_refl _ | exact yposgeL (by assumption) c56) (by assumption) (by first | exact xcn_step hh49 c56 | exact xcn_init (by first | decide | (rw [yofn (by omega)]; omega))) (by first | exact itI_s ea49 hh49 c56 (by first | exact rou_0 c68 | exact rou_1 (hr_x75.mp (hb_x75.resolve_left c78)) | exact rou_2 c68 (fun q => by rw [hr_x75.mpr q] at c78; exact absurd c78 (by decide))) | with_reducible exact itI_0) rfl
  have J99 : ∀ (n99 : Nat) (v99_3 : Int32) (v99_4 : Int32) (h0_99 : 0 ≤ v99_4.toInt) (wh99 : what = 2) (hh99 : 0 ≤ v99_4.toInt ∧ v99_4.toInt ≤ (Int32.ofNat (rZ ρ 212) : Int32).toInt) (ea99 : v99_3 = itI (rdyF ρ minute) 0 v99_4.toInt.toNat), (((Int32.ofNat (rZ ρ 212)) : Int32).toInt - v99_4.toInt).toNat = n99 → Y l S0 D K_X12_minuteNow 21 0 0 (fun r G1 => r = some (.int (rmiN ρ minute what)) ∧ G1 = G) (fun _ _ => False) 99 [(0, .ref (ad 200)), (1, .int minute), (2, .int what), (3, .int v99_3), (4, .int v99_4)] [] G 0 0 := by
    intro n99
    induction n99 using Nat.strongRecOn with
    | _ n99 ih99 =>
    intro v99_3 v99_4 h0_99 wh99 hh99 ea99 hn99
    subst hn99
    refine y_blk 2 tq_X12_minuteNow (z := (102, [(0, .ref (ad 200)), (1, .int minute), (2, .int what), (3, .int v99_3), (4, .int v99_4)], [.ref (ad 200), .int v99_4])) rfl ?_
    refine y_get hS tq_X12_minuteNow (v := .ref (ad 212)) rfl fg_X12_27_X12 hX.m rfl ?_
    refine y_blk 0 tq_X12_minuteNow (z := (105, [(0, .ref (ad 200)), (1, .int minute), (2, .int what), (3, .int v99_3), (4, .int v99_4)], [.ref (ad 212), .int v99_4])) rfl ?_
    refine y_callF hS tq_X12_minuteNow rfl (As := []) rfl cf_X12_58 (Or.inl ⟨_, (hX.ls 212 (by decide)).1⟩) (m_Jsize hS (hX.ls 212 (by decide))) rfl (by decide) (Nat.le_of_ble_eq_true rfl) (fun r105 Gc105 q105 => ?_) (fun _ _ h9 => h9.elim)
    obtain ⟨rfl, eG105⟩ := q105
    have eG105 := eG105.symm
    subst eG105
    refine y_blk 0 tq_X12_minuteNow (z := (110, [(0, .ref (ad 200)), (1, .int minute), (2, .int what), (3, .int v99_3), (4, .int v99_4)], [.int (Int32.ofNat (rZ ρ 212)), .int v99_4])) rfl ?_
    refine y_icmp_ge tq_X12_minuteNow 148 rfl rfl (fun c110 => ?_) (fun c110 => ?_)
    · skip
      refine y_blk 1 tq_X12_minuteNow (z := (149, [(0, .ref (ad 200)), (1, .int minute), (2, .int what), (3, .int v99_3), (4, .int v99_4)], [.int v99_3])) rfl ?_
      exact y_iret tq_X12_minuteNow rfl rfl (⟨congrArg (fun z => some (Value.int z)) (by first | exact (rmi_0 s3_0).symm | exact (itI_e ea49 hh49 c56).trans (rmi_1 wh49).symm | exact (itI_e ea99 hh99 c110).trans (rmi_2 wh99).symm | exact (itI_e ea153 hh153 c164).trans (rmi_3 wh153).symm | exact (itI_e ea207 hh207 c218).trans (rmi_4 wh207).symm | exact (itI_e ea266 hh266 c270).trans (rmi_6 wh266).symm | exact (rmi_5 s3_5).symm), rfl⟩)
    · skip
      have hn110 := hX.2.le10 212 (by decide)
      have b110 : v99_4.toInt < rZ ρ 212 := yIy (by omega) h0_99 c110
      have d110 : Int32.toNatClampNeg v99_4 < rZ ρ 212 := yIx h0_99 b110
      refine y_blk 2 tq_X12_minuteNow (z := (115, [(0, .ref (ad 200)), (1, .int minute), (2, .int what), (3, .int v99_3), (4, .int v99_4)], [.ref (ad 200), .int v99_3])) rfl ?_
      refine y_get hS tq_X12_minuteNow (v := .ref (ad 212)) rfl fg_X12_27_X12 hX.m rfl ?_
      refine y_blk 1 tq_X12_minuteNow (z := (120, [(0, .ref (ad 200)), (1, .int minute), (2, .int what), (3, .int v99_3), (4, .int v99_4)], [.int v99_4, .ref (ad 212), .int v99_3])) rfl ?_
      refine y_callF hS tq_X12_minuteNow rfl (As := [.int v99_4]) rfl cf_X12_80 (Or.inl ⟨_, (hX.ls 212 (by decide)).1⟩) (m_Rgu hS hX (by assumption) (by assumption)) rfl (by decide) (Nat.le_of_ble_eq_true rfl) (fun r120 Gc120 q120 => ?_) (fun _ _ h9 => h9.elim)
      obtain ⟨rfl, eG120⟩ := q120
      have eG120 := eG120.symm
      subst eG120
      have d120 : (Int32.toNatClampNeg v99_4) < rZ ρ 212 := yIx (by assumption) (by assumption)
      refine y_blk 0 tq_X12_minuteNow (z := (125, [(0, .ref (ad 200)), (1, .int minute), (2, .int what), (3, .int v99_3), (4, .int v99_4)], [.ref (ad (360 + (Int32.toNatClampNeg v99_4))), .int v99_3])) rfl ?_
      refine y_castG hS tq_X12_minuteNow rfl kc_X12_84 (Or.inl ⟨_, (hX.gu (by assumption))⟩) ?_
      refine y_blk 1 tq_X12_minuteNow (z := (129, [(0, .ref (ad 200)), (1, .int minute), (2, .int what), (3, .int v99_3), (4, .int v99_4)], [.int minute, .ref (ad (360 + (Int32.toNatClampNeg v99_4))), .int v99_3])) rfl ?_
      refine y_callV hS tq_X12_minuteNow rfl (As := [.int minute]) rfl cv_X12_199 (hX.gu (by assumption)) (m_X10_isOnDuty hS hI hX (k := (Int32.toNatClampNeg v99_4)) (by assumption) minute) rfl (by decide) (Nat.le_of_ble_eq_true rfl) (fun r129 Gc129 q129 => ?_) (fun E9 G9 h9 => h9.elim)
      obtain ⟨rfl, eG129⟩ := q129
      have eG129 := eG129.symm
      subst eG129
      refine y_blk 0 tq_X12_minuteNow (z := (132, [(0, .ref (ad 200)), (1, .int minute), (2, .int what), (3, .int v99_3), (4, .int v99_4)], [.int (if (rF ρ (360 + (Int32.toNatClampNeg v99_4)) 0) ≤ minute ∧ minute ≤ (rF ρ (360 + (Int32.toNatClampNeg v99_4)) 1) then 1 else 0), .int v99_3])) rfl ?_
      refine y_if_eq tq_X12_minuteNow 139 rfl rfl (fun c132 => ?_) (fun c132 => ?_)
      · skip
        refine y_blk 5 tq_X12_minuteNow (z := (99, [(4, .int (v99_4 + 1)), (3, .int (v99_3 + 0)), (0, .ref (ad 200)), (1, .int minute), (2, .int what)], [])) rfl ?_
        refine y_pick (L2 := [(0, .ref (ad 200)), (1, .int minute), (2, .int what), (3, .int (v99_3 + 0)), (4, .int (v99_4 + 1))]) [2, 3, 4, 1, 0] rfl ?_
        exact ih99 _ (by exact ydec c110) (v99_3 + 0) (v99_4 + 1) (by first | decide | assumption | exact Int.le_refl _ | exact yposgeL (by assumption) c110) (by assumption) (by first | exact xcn_step hh99 c110 | exact xcn_init (by first | decide | (rw [yofn (by omega)]; omega))) (by first | exact itI_s ea99 hh99 c110 (by unfold rdyF; first | rw [if_pos (yif1 c132)] | rw [if_neg (rif c132)]) | with_reducible exact itI_0) rfl
      · skip
        refine y_blk 6 tq_X12_minuteNow (z := (99, [(4, .int (v99_4 + 1)), (3, .int (v99_3 + 1)), (0, .ref (ad 200)), (1, .int minute), (2, .int what)], [])) rfl ?_
        refine y_pick (L2 := [(0, .ref (ad 200)), (1, .int minute), (2, .int what), (3, .int (v99_3 + 1)), (4, .int (v99_4 + 1))]) [2, 3, 4, 1, 0] rfl ?_
        exact ih99 _ (by exact ydec c110) (v99_3 + 1) (v99_4 + 1) (by first | decide | assumption | exact Int.le_refl _ | exact yposgeL (by assumption) c110) (by assumption) (by first | exact xcn_step hh99 c110 | exact xcn_init (by first | decide | (rw [yofn (by omega)]; omega))) (by first | exact itI_s ea99 hh99 c110 (by unfold rdyF; first | rw [if_pos (yif1 c132)] | rw [if_neg (rif c132)]) | with_reducible exact itI_0) rfl
  have J153 : ∀ (n153 : Nat) (v153_3 : Int32) (v153_4 : Int32) (h0_153 : 0 ≤ v153_4.toInt) (wh153 : what = 3) (hh153 : 0 ≤ v153_4.toInt ∧ v153_4.toInt ≤ (Int32.ofNat (rZ ρ 212) : Int32).toInt) (ea153 : v153_3 = itI (rtiF ρ minute) 0 v153_4.toInt.toNat), (((Int32.ofNat (rZ ρ 212)) : Int32).toInt - v153_4.toInt).toNat = n153 → Y l S0 D K_X12_minuteNow 21 0 0 (fun r G1 => r = some (.int (rmiN ρ minute what)) ∧ G1 = G) (fun _ _ => False) 153 [(0, .ref (ad 200)), (1, .int minute), (2, .int what), (3, .int v153_3), (4, .int v153_4)] [] G 0 0 := by
    intro n153
    induction n153 using Nat.strongRecOn with
    | _ n153 ih153 =>
    intro v153_3 v153_4 h0_153 wh153 hh153 ea153 hn153
    subst hn153
    refine y_blk 2 tq_X12_minuteNow (z := (156, [(0, .ref (ad 200)), (1, .int minute), (2, .int what), (3, .int v153_3), (4, .int v153_4)], [.ref (ad 200), .int v153_4])) rfl ?_
    refine y_get hS tq_X12_minuteNow (v := .ref (ad 212)) rfl fg_X12_27_X12 hX.m rfl ?_
    refine y_blk 0 tq_X12_minuteNow (z := (159, [(0, .ref (ad 200)), (1, .int minute), (2, .int what), (3, .int v153_3), (4, .int v153_4)], [.ref (ad 212), .int v153_4])) rfl ?_
    refine y_callF hS tq_X12_minuteNow rfl (As := []) rfl cf_X12_58 (Or.inl ⟨_, (hX.ls 212 (by decide)).1⟩) (m_Jsize hS (hX.ls 212 (by decide))) rfl (by decide) (Nat.le_of_ble_eq_true rfl) (fun r159 Gc159 q159 => ?_) (fun _ _ h9 => h9.elim)
    obtain ⟨rfl, eG159⟩ := q159
    have eG159 := eG159.symm
    subst eG159
    refine y_blk 0 tq_X12_minuteNow (z := (164, [(0, .ref (ad 200)), (1, .int minute), (2, .int what), (3, .int v153_3), (4, .int v153_4)], [.int (Int32.ofNat (rZ ρ 212)), .int v153_4])) rfl ?_
    refine y_icmp_ge tq_X12_minuteNow 202 rfl rfl (fun c164 => ?_) (fun c164 => ?_)
    · skip
      refine y_blk 1 tq_X12_minuteNow (z := (203, [(0, .ref (ad 200)), (1, .int minute), (2, .int what), (3, .int v153_3), (4, .int v153_4)], [.int v153_3])) rfl ?_
      exact y_iret tq_X12_minuteNow rfl rfl (⟨congrArg (fun z => some (Value.int z)) (by first | exact (rmi_0 s3_0).symm | exact (itI_e ea49 hh49 c56).trans (rmi_1 wh49).symm | exact (itI_e ea99 hh99 c110).trans (rmi_2 wh99).symm | exact (itI_e ea153 hh153 c164).trans (rmi_3 wh153).symm | exact (itI_e ea207 hh207 c218).trans (rmi_4 wh207).symm | exact (itI_e ea266 hh266 c270).trans (rmi_6 wh266).symm | exact (rmi_5 s3_5).symm), rfl⟩)
    · skip
      have hn164 := hX.2.le10 212 (by decide)
      have b164 : v153_4.toInt < rZ ρ 212 := yIy (by omega) h0_153 c164
      have d164 : Int32.toNatClampNeg v153_4 < rZ ρ 212 := yIx h0_153 b164
      refine y_blk 2 tq_X12_minuteNow (z := (169, [(0, .ref (ad 200)), (1, .int minute), (2, .int what), (3, .int v153_3), (4, .int v153_4)], [.ref (ad 200), .int v153_3])) rfl ?_
      refine y_get hS tq_X12_minuteNow (v := .ref (ad 212)) rfl fg_X12_27_X12 hX.m rfl ?_
      refine y_blk 1 tq_X12_minuteNow (z := (174, [(0, .ref (ad 200)), (1, .int minute), (2, .int what), (3, .int v153_3), (4, .int v153_4)], [.int v153_4, .ref (ad 212), .int v153_3])) rfl ?_
      refine y_callF hS tq_X12_minuteNow rfl (As := [.int v153_4]) rfl cf_X12_80 (Or.inl ⟨_, (hX.ls 212 (by decide)).1⟩) (m_Rgu hS hX (by assumption) (by assumption)) rfl (by decide) (Nat.le_of_ble_eq_true rfl) (fun r174 Gc174 q174 => ?_) (fun _ _ h9 => h9.elim)
      obtain ⟨rfl, eG174⟩ := q174
      have eG174 := eG174.symm
      subst eG174
      have d174 : (Int32.toNatClampNeg v153_4) < rZ ρ 212 := yIx (by assumption) (by assumption)
      refine y_blk 0 tq_X12_minuteNow (z := (179, [(0, .ref (ad 200)), (1, .int minute), (2, .int what), (3, .int v153_3), (4, .int v153_4)], [.ref (ad (360 + (Int32.toNatClampNeg v153_4))), .int v153_3])) rfl ?_
      refine y_castG hS tq_X12_minuteNow rfl kc_X12_84 (Or.inl ⟨_, (hX.gu (by assumption))⟩) ?_
      refine y_blk 1 tq_X12_minuteNow (z := (183, [(0, .ref (ad 200)), (1, .int minute), (2, .int what), (3, .int v153_3), (4, .int v153_4)], [.int minute, .ref (ad (360 + (Int32.toNatClampNeg v153_4))), .int v153_3])) rfl ?_
      refine y_callV hS tq_X12_minuteNow rfl (As := [.int minute]) rfl cv_X12_127 (hX.gu (by assumption)) (m_X10_isTired_v hS hI hX (k := (Int32.toNatClampNeg v153_4)) (by assumption) minute) rfl (by decide) (Nat.le_of_ble_eq_true rfl) (fun r183 Gc183 q183 => ?_) (fun E9 G9 h9 => h9.elim)
      obtain ⟨rfl, eG183⟩ := q183
      have eG183 := eG183.symm
      subst eG183
      refine y_blk 0 tq_X12_minuteNow (z := (186, [(0, .ref (ad 200)), (1, .int minute), (2, .int what), (3, .int v153_3), (4, .int v153_4)], [.int (if rtrd ρ (Int32.toNatClampNeg v153_4) minute then 1 else 0), .int v153_3])) rfl ?_
      refine y_if_eq tq_X12_minuteNow 193 rfl rfl (fun c186 => ?_) (fun c186 => ?_)
      · skip
        refine y_blk 5 tq_X12_minuteNow (z := (153, [(4, .int (v153_4 + 1)), (3, .int (v153_3 + 0)), (0, .ref (ad 200)), (1, .int minute), (2, .int what)], [])) rfl ?_
        refine y_pick (L2 := [(0, .ref (ad 200)), (1, .int minute), (2, .int what), (3, .int (v153_3 + 0)), (4, .int (v153_4 + 1))]) [2, 3, 4, 1, 0] rfl ?_
        exact ih153 _ (by exact ydec c164) (v153_3 + 0) (v153_4 + 1) (by first | decide | assumption | exact Int.le_refl _ | exact yposgeL (by assumption) c164) (by assumption) (by first | exact xcn_step hh153 c164 | exact xcn_init (by first | decide | (rw [yofn (by omega)]; omega))) (by first | exact itI_s ea153 hh153 c164 (by unfold rtiF; first | rw [if_pos (yif1 c186)] | rw [if_neg (rif c186)]) | with_reducible exact itI_0) rfl
      · skip
        refine y_blk 6 tq_X12_minuteNow (z := (153, [(4, .int (v153_4 + 1)), (3, .int (v153_3 + 1)), (0, .ref (ad 200)), (1, .int minute), (2, .int what)], [])) rfl ?_
        refine y_pick (L2 := [(0, .ref (ad 200)), (1, .int minute), (2, .int what), (3, .int (v153_3 + 1)), (4, .int (v153_4 + 1))]) [2, 3, 4, 1, 0] rfl ?_
        exact ih153 _ (by exact ydec c164) (v153_3 + 1) (v153_4 + 1) (by first | decide | assumption | exact Int.le_refl _ | exact yposgeL (by assumption) c164) (by assumption) (by first | exact xcn_step hh153 c164 | exact xcn_init (by first | decide | (rw [yofn (by omega)]; omega))) (by first | exact itI_s ea153 hh153 c164 (by unfold rtiF; first | rw [if_pos (yif1 c186)] | rw [if_neg (rif c186)]) | with_reducible exact itI_0) rfl
  have J207 : ∀ (n207 : Nat) (v207_3 : Int32) (v207_4 : Int32) (h0_207 : 0 ≤ v207_4.toInt) (wh207 : what = 4) (hh207 : 0 ≤ v207_4.toInt ∧ v207_4.toInt ≤ (Int32.ofNat (rZ ρ 213) : Int32).toInt) (ea207 : v207_3 = itI (repF ρ minute) 0 v207_4.toInt.toNat), (((Int32.ofNat (rZ ρ 213)) : Int32).toInt - v207_4.toInt).toNat = n207 → Y l S0 D K_X12_minuteNow 21 0 0 (fun r G1 => r = some (.int (rmiN ρ minute what)) ∧ G1 = G) (fun _ _ => False) 207 [(0, .ref (ad 200)), (1, .int minute), (2, .int what), (3, .int v207_3), (4, .int v207_4)] [] G 0 0 := by
    intro n207
    induction n207 using Nat.strongRecOn with
    | _ n207 ih207 =>
    intro v207_3 v207_4 h0_207 wh207 hh207 ea207 hn207
    subst hn207
    refine y_blk 2 tq_X12_minuteNow (z := (210, [(0, .ref (ad 200)), (1, .int minute), (2, .int what), (3, .int v207_3), (4, .int v207_4)], [.ref (ad 200), .int v207_4])) rfl ?_
    refine y_get hS tq_X12_minuteNow (v := .ref (ad 213)) rfl fg_X12_30_X12 hX.m rfl ?_
    refine y_blk 0 tq_X12_minuteNow (z := (213, [(0, .ref (ad 200)), (1, .int minute), (2, .int what), (3, .int v207_3), (4, .int v207_4)], [.ref (ad 213), .int v207_4])) rfl ?_
    refine y_callF hS tq_X12_minuteNow rfl (As := []) rfl cf_X12_58 (Or.inl ⟨_, (hX.ls 213 (by decide)).1⟩) (m_Jsize hS (hX.ls 213 (by decide))) rfl (by decide) (Nat.le_of_ble_eq_true rfl) (fun r213 Gc213 q213 => ?_) (fun _ _ h9 => h9.elim)
    obtain ⟨rfl, eG213⟩ := q213
    have eG213 := eG213.symm
    subst eG213
    refine y_blk 0 tq_X12_minuteNow (z := (218, [(0, .ref (ad 200)), (1, .int minute), (2, .int what), (3, .int v207_3), (4, .int v207_4)], [.int (Int32.ofNat (rZ ρ 213)), .int v207_4])) rfl ?_
    refine y_icmp_ge tq_X12_minuteNow 245 rfl rfl (fun c218 => ?_) (fun c218 => ?_)
    · skip
      refine y_blk 1 tq_X12_minuteNow (z := (246, [(0, .ref (ad 200)), (1, .int minute), (2, .int what), (3, .int v207_3), (4, .int v207_4)], [.int v207_3])) rfl ?_
      exact y_iret tq_X12_minuteNow rfl rfl (⟨congrArg (fun z => some (Value.int z)) (by first | exact (rmi_0 s3_0).symm | exact (itI_e ea49 hh49 c56).trans (rmi_1 wh49).symm | exact (itI_e ea99 hh99 c110).trans (rmi_2 wh99).symm | exact (itI_e ea153 hh153 c164).trans (rmi_3 wh153).symm | exact (itI_e ea207 hh207 c218).trans (rmi_4 wh207).symm | exact (itI_e ea266 hh266 c270).trans (rmi_6 wh266).symm | exact (rmi_5 s3_5).symm), rfl⟩)
    · skip
      have hn218 := hX.2.le10 213 (by decide)
      have b218 : v207_4.toInt < rZ ρ 213 := yIy (by omega) h0_207 c218
      have d218 : Int32.toNatClampNeg v207_4 < rZ ρ 213 := yIx h0_207 b218
      refine y_blk 4 tq_X12_minuteNow (z := (226, [(0, .ref (ad 200)), (1, .int minute), (2, .int what), (3, .int v207_3), (4, .int v207_4)], [.int minute, .int v207_4, .ref (ad 200), .int v207_3])) rfl ?_
      refine y_callV hS tq_X12_minuteNow rfl (As := [.int v207_4, .int minute]) rfl cv_X12_202 hX.m (m_X12_isEmpty_v hS hI hX v207_4 minute (by assumption) (by assumption)) rfl (by decide) (Nat.le_of_ble_eq_true rfl) (fun r226 Gc226 q226 => ?_) (fun E9 G9 h9 => h9.elim)
      obtain ⟨rfl, eG226⟩ := q226
      have eG226 := eG226.symm
      subst eG226
      refine y_blk 0 tq_X12_minuteNow (z := (229, [(0, .ref (ad 200)), (1, .int minute), (2, .int what), (3, .int v207_3), (4, .int v207_4)], [.int (if remQ ρ (Int32.toNatClampNeg v207_4) minute then 1 else 0), .int v207_3])) rfl ?_
      refine y_if_eq tq_X12_minuteNow 236 rfl rfl (fun c229 => ?_) (fun c229 => ?_)
      · skip
        refine y_blk 5 tq_X12_minuteNow (z := (207, [(4, .int (v207_4 + 1)), (3, .int (v207_3 + 0)), (0, .ref (ad 200)), (1, .int minute), (2, .int what)], [])) rfl ?_
        refine y_pick (L2 := [(0, .ref (ad 200)), (1, .int minute), (2, .int what), (3, .int (v207_3 + 0)), (4, .int (v207_4 + 1))]) [2, 3, 4, 1, 0] rfl ?_
        exact ih207 _ (by exact ydec c218) (v207_3 + 0) (v207_4 + 1) (by first | decide | assumption | exact Int.le_refl _ | exact yposgeL (by assumption) c218) (by assumption) (by first | exact xcn_step hh207 c218 | exact xcn_init (by first | decide | (rw [yofn (by omega)]; omega))) (by first | exact itI_s ea207 hh207 c218 (by unfold repF; first | rw [if_pos (yif1 c229)] | rw [if_neg (rif c229)]) | with_reducible exact itI_0) rfl
      · skip
        refine y_blk 6 tq_X12_minuteNow (z := (207, [(4, .int (v207_4 + 1)), (3, .int (v207_3 + 1)), (0, .ref (ad 200)), (1, .int minute), (2, .int what)], [])) rfl ?_
        refine y_pick (L2 := [(0, .ref (ad 200)), (1, .int minute), (2, .int what), (3, .int (v207_3 + 1)), (4, .int (v207_4 + 1))]) [2, 3, 4, 1, 0] rfl ?_
        exact ih207 _ (by exact ydec c218) (v207_3 + 1) (v207_4 + 1) (by first | decide | assumption | exact Int.le_refl _ | exact yposgeL (by assumption) c218) (by assumption) (by first | exact xcn_step hh207 c218 | exact xcn_init (by first | decide | (rw [yofn (by omega)]; omega))) (by first | exact itI_s ea207 hh207 c218 (by unfold repF; first | rw [if_pos (yif1 c229)] | rw [if_neg (rif c229)]) | with_reducible exact itI_0) rfl
  refine y_blk 3 tq_X12_minuteNow (z := (3, [(3, .int 0), (0, .ref (ad 200)), (1, .int minute), (2, .int what)], [.int what])) rfl ?_
  by_cases s3_0 : what = 0
  · refine y_swIn tq_X12_minuteNow 40 rfl (by rw [s3_0]; decide) (by rw [s3_0]; decide) (by rw [s3_0]; rfl) rfl ?_
    refine y_blk 2 tq_X12_minuteNow (z := (42, [(3, .int 0), (0, .ref (ad 200)), (1, .int minute), (2, .int what)], [.int minute, .ref (ad 200)])) rfl ?_
    refine y_callV hS tq_X12_minuteNow rfl (As := [.int minute]) rfl cv_X12_130 hX.m (m_X12_fogAt_v hS hI hX minute) rfl (by decide) (Nat.le_of_ble_eq_true rfl) (fun r42 Gc42 q42 => ?_) (fun E9 G9 h9 => h9.elim)
    obtain ⟨rfl, eG42⟩ := q42
    have eG42 := eG42.symm
    subst eG42
    refine y_blk 0 tq_X12_minuteNow (z := (45, [(3, .int 0), (0, .ref (ad 200)), (1, .int minute), (2, .int what)], [.int (rfog ρ minute)])) rfl ?_
    exact y_iret tq_X12_minuteNow rfl rfl (⟨congrArg (fun z => some (Value.int z)) (by first | exact (rmi_0 s3_0).symm | exact (itI_e ea49 hh49 c56).trans (rmi_1 wh49).symm | exact (itI_e ea99 hh99 c110).trans (rmi_2 wh99).symm | exact (itI_e ea153 hh153 c164).trans (rmi_3 wh153).symm | exact (itI_e ea207 hh207 c218).trans (rmi_4 wh207).symm | exact (itI_e ea266 hh266 c270).trans (rmi_6 wh266).symm | exact (rmi_5 s3_5).symm), rfl⟩)
  by_cases s3_1 : what = 1
  · refine y_swIn tq_X12_minuteNow 46 rfl (by rw [s3_1]; decide) (by rw [s3_1]; decide) (by rw [s3_1]; rfl) rfl ?_
    refine y_blk 2 tq_X12_minuteNow (z := (49, [(4, .int 0), (3, .int 0), (0, .ref (ad 200)), (1, .int minute), (2, .int what)], [])) rfl ?_
    refine y_pick (L2 := [(0, .ref (ad 200)), (1, .int minute), (2, .int what), (3, .int 0), (4, .int 0)]) [2, 3, 4, 1, 0] rfl ?_
    exact J49 _ 0 0 (by first | decide | assumption | exact Int.le_refl _ | exact yposgeL (by assumption) c56) (by assumption) (by first | exact xcn_step hh49 c56 | exact xcn_init (by first | decide | (rw [yofn (by omega)]; omega))) (by first | exact itI_s ea49 hh49 c56 (by first | exact rou_0 c68 | exact rou_1 (hr_x75.mp (hb_x75.resolve_left c78)) | exact rou_2 c68 (fun q => by rw [hr_x75.mpr q] at c78; exact absurd c78 (by decide))) | with_reducible exact itI_0) rfl
  by_cases s3_2 : what = 2
  · refine y_swIn tq_X12_minuteNow 96 rfl (by rw [s3_2]; decide) (by rw [s3_2]; decide) (by rw [s3_2]; rfl) rfl ?_
    refine y_blk 2 tq_X12_minuteNow (z := (99, [(4, .int 0), (3, .int 0), (0, .ref (ad 200)), (1, .int minute), (2, .int what)], [])) rfl ?_
    refine y_pick (L2 := [(0, .ref (ad 200)), (1, .int minute), (2, .int what), (3, .int 0), (4, .int 0)]) [2, 3, 4, 1, 0] rfl ?_
    exact J99 _ 0 0 (by first | decide | assumption | exact Int.le_refl _ | exact yposgeL (by assumption) c110) (by assumption) (by first | exact xcn_step hh99 c110 | exact xcn_init (by first | decide | (rw [yofn (by omega)]; omega))) (by first | exact itI_s ea99 hh99 c110 (by unfold rdyF; first | rw [if_pos (yif1 c132)] | rw [if_neg (rif c132)]) | with_reducible exact itI_0) rfl
  by_cases s3_3 : what = 3
  · refine y_swIn tq_X12_minuteNow 150 rfl (by rw [s3_3]; decide) (by rw [s3_3]; decide) (by rw [s3_3]; rfl) rfl ?_
    refine y_blk 2 tq_X12_minuteNow (z := (153, [(4, .int 0), (3, .int 0), (0, .ref (ad 200)), (1, .int minute), (2, .int what)], [])) rfl ?_
    refine y_pick (L2 := [(0, .ref (ad 200)), (1, .int minute), (2, .int what), (3, .int 0), (4, .int 0)]) [2, 3, 4, 1, 0] rfl ?_
    exact J153 _ 0 0 (by first | decide | assumption | exact Int.le_refl _ | exact yposgeL (by assumption) c164) (by assumption) (by first | exact xcn_step hh153 c164 | exact xcn_init (by first | decide | (rw [yofn (by omega)]; omega))) (by first | exact itI_s ea153 hh153 c164 (by unfold rtiF; first | rw [if_pos (yif1 c186)] | rw [if_neg (rif c186)]) | with_reducible exact itI_0) rfl
  by_cases s3_4 : what = 4
  · refine y_swIn tq_X12_minuteNow 204 rfl (by rw [s3_4]; decide) (by rw [s3_4]; decide) (by rw [s3_4]; rfl) rfl ?_
    refine y_blk 2 tq_X12_minuteNow (z := (207, [(4, .int 0), (3, .int 0), (0, .ref (ad 200)), (1, .int minute), (2, .int what)], [])) rfl ?_
    refine y_pick (L2 := [(0, .ref (ad 200)), (1, .int minute), (2, .int what), (3, .int 0), (4, .int 0)]) [2, 3, 4, 1, 0] rfl ?_
    exact J207 _ 0 0 (by first | decide | assumption | exact Int.le_refl _ | exact yposgeL (by assumption) c218) (by assumption) (by first | exact xcn_step hh207 c218 | exact xcn_init (by first | decide | (rw [yofn (by omega)]; omega))) (by first | exact itI_s ea207 hh207 c218 (by unfold repF; first | rw [if_pos (yif1 c229)] | rw [if_neg (rif c229)]) | with_reducible exact itI_0) rfl
  by_cases s3_5 : what = 5
  · refine y_swIn tq_X12_minuteNow 247 rfl (by rw [s3_5]; decide) (by rw [s3_5]; decide) (by rw [s3_5]; rfl) rfl ?_
    refine y_blk 1 tq_X12_minuteNow (z := (248, [(3, .int 0), (0, .ref (ad 200)), (1, .int minute), (2, .int what)], [.ref (ad 200)])) rfl ?_
    refine y_callV hS tq_X12_minuteNow rfl (As := []) rfl cv_X12_170 hX.m (m_X12_brights_v hS hI hX ) rfl (by decide) (Nat.le_of_ble_eq_true rfl) (fun r248 Gc248 q248 => ?_) (fun E9 G9 h9 => h9.elim)
    obtain ⟨rfl, eG248⟩ := q248
    have eG248 := eG248.symm
    subst eG248
    refine y_blk 0 tq_X12_minuteNow (z := (251, [(3, .int 0), (0, .ref (ad 200)), (1, .int minute), (2, .int what)], [.int (rbrN ρ)])) rfl ?_
    exact y_iret tq_X12_minuteNow rfl rfl (⟨congrArg (fun z => some (Value.int z)) (by first | exact (rmi_0 s3_0).symm | exact (itI_e ea49 hh49 c56).trans (rmi_1 wh49).symm | exact (itI_e ea99 hh99 c110).trans (rmi_2 wh99).symm | exact (itI_e ea153 hh153 c164).trans (rmi_3 wh153).symm | exact (itI_e ea207 hh207 c218).trans (rmi_4 wh207).symm | exact (itI_e ea266 hh266 c270).trans (rmi_6 wh266).symm | exact (rmi_5 s3_5).symm), rfl⟩)
  refine y_swOut tq_X12_minuteNow 252 rfl (by have z0 : what.toInt ≠ 0 := fun q => s3_0 (Int32.toInt_inj.mp (q.trans (by decide))); have z1 : what.toInt ≠ 1 := fun q => s3_1 (Int32.toInt_inj.mp (q.trans (by decide))); have z2 : what.toInt ≠ 2 := fun q => s3_2 (Int32.toInt_inj.mp (q.trans (by decide))); have z3 : what.toInt ≠ 3 := fun q => s3_3 (Int32.toInt_inj.mp (q.trans (by decide))); have z4 : what.toInt ≠ 4 := fun q => s3_4 (Int32.toInt_inj.mp (q.trans (by decide))); have z5 : what.toInt ≠ 5 := fun q => s3_5 (Int32.toInt_inj.mp (q.trans (by decide))); omega) rfl ?_
  refine y_blk 1 tq_X12_minuteNow (z := (253, [(3, .int 0), (0, .ref (ad 200)), (1, .int minute), (2, .int what)], [.ref (ad 200)])) rfl ?_
  refine y_get hS tq_X12_minuteNow (v := .ref (ad 203)) rfl fg_X12_39_X12 hX.m rfl ?_
  refine y_blk 2 tq_X12_minuteNow (z := (260, [(4, .ref (ad 203)), (3, .int 0), (0, .ref (ad 200)), (1, .int minute), (2, .int what)], [.ref (ad 203)])) rfl ?_
  refine y_alen hS tq_X12_minuteNow 0 rfl rfl hX.ke ?_
  refine y_blk 3 tq_X12_minuteNow (z := (266, [(6, .int 0), (5, .int (Int32.ofNat 6)), (4, .ref (ad 203)), (3, .int 0), (0, .ref (ad 200)), (1, .int minute), (2, .int what)], [])) rfl ?_
  refine y_pick (L2 := [(0, .ref (ad 200)), (1, .int minute), (2, .int what), (3, .int 0), (4, .ref (ad 203)), (5, .int (Int32.ofNat 6)), (6, .int 0)]) [4, 5, 6, 3, 2, 1, 0] rfl ?_
  exact J266 _ 0 0 (by first | decide | assumption | exact Int.le_refl _ | exact yposgeL (by assumption) c270) (by first | assumption | exact ⟨s3_0, s3_1, s3_2, s3_3, s3_4, s3_5⟩) (by first | exact xcn_step hh266 c270 | exact xcn_init (by first | decide | (rw [yofn (by omega)]; omega))) (by first | exact itI_s ea266 hh266 c270 (by unfold rkoF; first | rw [if_pos c284] | rw [if_neg c284, if_pos (yif1 c305)] | rw [if_neg c284, if_neg (rif c305)]) | with_reducible exact itI_0) rfl
set_option maxHeartbeats 4000000 in
set_option maxRecDepth 100000 in
theorem m_X12_ofMinute_v {l : Launch} {S0 : State} {A0 : Array Value} {D : va_G} {aC : Nat → ClassId} {ic : Int32 → Nat} {de : Nat} {ad : Nat → Nat} {G : AH} {ρ : RS} (hS : yS l S0 A0 D aC) (hI : yIc S0 ic de) (hX : atR aC ic de ad G ρ) (minute : Int32) (what : Int32) : yM l S0 D yX12_ofMinute cX12_ofMinute 3 (some .int) 22 0 0 [.ref (ad 200), .int minute, .int what] G (fun r G1 => (∃ v : Int32, r = some (.int v)) ∧ ∃ (ad1 : Nat → Nat) (ρ1 : RS), atR aC ic de ad1 G1 ρ1 ∧ ad1 200 = ad 200 ∧ yTg kR G G1 ∧ roOfMinute minute what r ρ ρ1) (fun _ _ => False) := by
  refine yM.ofK K_X12_ofMinute rfl (by decide) (Nat.le_of_ble_eq_true rfl) ?_
  refine y_blk 2 tq_X12_ofMinute (z := (2, [(0, .ref (ad 200)), (1, .int minute), (2, .int what)], [.int 0, .ref (ad 200)])) rfl ?_
  refine y_put hS tq_X12_ofMinute rfl fp_X12_51_X12 hX.m (by omega) rfl rfl (Nat.le_of_ble_eq_true rfl) ?_
  have hX2 : atR aC ic de ad (yup G (ad 200) (200, .inr (16, [.int 0, .int (rI ρ 1), .int (rI ρ 2), .ref (ad 201), .int (rI ρ 3), .int (rI ρ 4), .ref (ad 210), .ref (ad 211), .ref (ad 212), .ref (ad 213), .int (rI ρ 5), .int (rI ρ 6), .int (rI ρ 7), .ref (ad 202), .ref (ad 214), .int (rI ρ 8), .ref (ad 203), .ref (ad 215), .ref (ad 216), .int (rI ρ 9)]))) ((rin ρ 0 0)) := atR.setIb hX rfl rfl (hX.2.setI (by decide))
  have kt2 : yTg kR G (yup G (ad 200) (200, .inr (16, [.int 0, .int (rI ρ 1), .int (rI ρ 2), .ref (ad 201), .int (rI ρ 3), .int (rI ρ 4), .ref (ad 210), .ref (ad 211), .ref (ad 212), .ref (ad 213), .int (rI ρ 5), .int (rI ρ 6), .int (rI ρ 7), .ref (ad 202), .ref (ad 214), .int (rI ρ 8), .ref (ad 203), .ref (ad 215), .ref (ad 216), .int (rI ρ 9)]))) := ((yTg.rfl' (f := kR) (G := G))).trans (yTg.up hX.m (kR_n (by omega) (by omega)))
  show Y l S0 D K_X12_ofMinute 22 0 0 (fun r G1 => (∃ v : Int32, r = some (.int v)) ∧ ∃ (ad1 : Nat → Nat) (ρ1 : RS), atR aC ic de ad1 G1 ρ1 ∧ ad1 200 = ad 200 ∧ yTg kR G G1 ∧ roOfMinute minute what r ρ ρ1) (fun _ _ => False) (2 + 3) [(0, .ref (ad 200)), (1, .int minute), (2, .int what)] [] (yup G (ad 200) (200, .inr (16, [.int 0, .int (rI ρ 1), .int (rI ρ 2), .ref (ad 201), .int (rI ρ 3), .int (rI ρ 4), .ref (ad 210), .ref (ad 211), .ref (ad 212), .ref (ad 213), .int (rI ρ 5), .int (rI ρ 6), .int (rI ρ 7), .ref (ad 202), .ref (ad 214), .int (rI ρ 8), .ref (ad 203), .ref (ad 215), .ref (ad 216), .int (rI ρ 9)]))) 0 0
  generalize yup G (ad 200) (200, .inr (16, [.int 0, .int (rI ρ 1), .int (rI ρ 2), .ref (ad 201), .int (rI ρ 3), .int (rI ρ 4), .ref (ad 210), .ref (ad 211), .ref (ad 212), .ref (ad 213), .int (rI ρ 5), .int (rI ρ 6), .int (rI ρ 7), .ref (ad 202), .ref (ad 214), .int (rI ρ 8), .ref (ad 203), .ref (ad 215), .ref (ad 216), .int (rI ρ 9)])) = G2 at hX2 kt2 ⊢
  refine y_blk 1 tq_X12_ofMinute (z := (6, [(0, .ref (ad 200)), (1, .int minute), (2, .int what)], [.int minute])) rfl ?_
  refine y_callS hS tq_X12_ofMinute rfl (As := [.int minute]) rfl cs_X12_163 (m_X12_isMinute hS minute) rfl (by decide) (Nat.le_of_ble_eq_true rfl) (fun r6 Gc6 q6 => ?_) (fun E9 G9 h9 => h9.elim)
  obtain ⟨rfl, eG6⟩ := q6
  have eG6 := eG6.symm
  subst eG6
  refine y_blk 0 tq_X12_ofMinute (z := (9, [(0, .ref (ad 200)), (1, .int minute), (2, .int what)], [.int (if 0 ≤ minute ∧ minute ≤ 239 then 1 else 0)])) rfl ?_
  refine y_if_eq tq_X12_ofMinute 22 rfl rfl (fun c9 => ?_) (fun c9 => ?_)
  · skip
    refine y_blk 2 tq_X12_ofMinute (z := (24, [(0, .ref (ad 200)), (1, .int minute), (2, .int what)], [.int 1, .ref (ad 200)])) rfl ?_
    refine y_callV hS tq_X12_ofMinute rfl (As := [.int 1]) rfl cv_X12_140 hX2.m (m_X12_no hS hI hX2 1) rfl (by decide) (Nat.le_of_ble_eq_true rfl) (fun r24 Gc24 q24 => ?_) (fun E9 G9 h9 => h9.elim)
    obtain ⟨rfl, hX24, kt24_⟩ := q24
    have kt24 := (kt2).trans kt24_
    refine y_blk 0 tq_X12_ofMinute (z := (27, [(0, .ref (ad 200)), (1, .int minute), (2, .int what)], [.int 0])) rfl ?_
    exact y_iret tq_X12_ofMinute rfl rfl (⟨⟨_, rfl⟩, ad, _, hX24, rfl, kt24, Or.inr (⟨(by first | exact fun q => rif c19 q.2 | exact fun q => rif c9 q.1), rfl, (rSm.in0 (rSm.in0 rSm.rfl'))⟩)⟩)
  · skip
    have hq9 := yif1 c9
    simp only [yle, yl_m1, yl_0, yl_1, yl_2, yl_3, yl_4, yl_5, yl_6, yl_7, yl_8, yl_9, yl_10, yl_11, yl_12, yl_60, yl_90, yl_239, yl_240] at hq9
    have ha9 := hq9.1
    have hb9 := hq9.2
    refine y_blk 3 tq_X12_ofMinute (z := (16, [(0, .ref (ad 200)), (1, .int minute), (2, .int what)], [.int 6, .int 0, .int what])) rfl ?_
    refine y_callS hS tq_X12_ofMinute rfl (As := [.int what, .int 0, .int 6]) rfl cs_X12_54 (m_X12_in hS what 0 6) rfl (by decide) (Nat.le_of_ble_eq_true rfl) (fun r16 Gc16 q16 => ?_) (fun E9 G9 h9 => h9.elim)
    obtain ⟨rfl, eG16⟩ := q16
    have eG16 := eG16.symm
    subst eG16
    refine y_blk 0 tq_X12_ofMinute (z := (19, [(0, .ref (ad 200)), (1, .int minute), (2, .int what)], [.int (if 0 ≤ what ∧ what ≤ 6 then 1 else 0)])) rfl ?_
    refine y_if_ne tq_X12_ofMinute 28 rfl rfl (fun c19 => ?_) (fun c19 => ?_)
    · skip
      have hq19 := yif1 c19
      simp only [yle, yl_m1, yl_0, yl_1, yl_2, yl_3, yl_4, yl_5, yl_6, yl_7, yl_8, yl_9, yl_10, yl_11, yl_12, yl_60, yl_90, yl_239, yl_240] at hq19
      have ha19 := hq19.1
      have hb19 := hq19.2
      refine y_blk 3 tq_X12_ofMinute (z := (31, [(0, .ref (ad 200)), (1, .int minute), (2, .int what)], [.int what, .int minute, .ref (ad 200)])) rfl ?_
      refine y_callV hS tq_X12_ofMinute rfl (As := [.int minute, .int what]) rfl cv_X12_205 hX2.m (m_X12_minuteNow_v hS hI hX2 minute what) rfl (by decide) (Nat.le_of_ble_eq_true rfl) (fun r31 Gc31 q31 => ?_) (fun E9 G9 h9 => h9.elim)
      obtain ⟨rfl, eG31⟩ := q31
      have eG31 := eG31.symm
      subst eG31
      refine y_blk 0 tq_X12_ofMinute (z := (34, [(0, .ref (ad 200)), (1, .int minute), (2, .int what)], [.int (rmiN ((rin ρ 0 0)) minute what)])) rfl ?_
      exact y_iret tq_X12_ofMinute rfl rfl (⟨⟨_, rfl⟩, ad, _, hX2, rfl, kt2, Or.inl (⟨⟨yif1 c9, yif1 c19⟩, rfl, rfl, (rSm.in0 rSm.rfl')⟩)⟩)
    · skip
      refine y_blk 2 tq_X12_ofMinute (z := (24, [(0, .ref (ad 200)), (1, .int minute), (2, .int what)], [.int 1, .ref (ad 200)])) rfl ?_
      refine y_callV hS tq_X12_ofMinute rfl (As := [.int 1]) rfl cv_X12_140 hX2.m (m_X12_no hS hI hX2 1) rfl (by decide) (Nat.le_of_ble_eq_true rfl) (fun r24 Gc24 q24 => ?_) (fun E9 G9 h9 => h9.elim)
      obtain ⟨rfl, hX24, kt24_⟩ := q24
      have kt24 := (kt2).trans kt24_
      refine y_blk 0 tq_X12_ofMinute (z := (27, [(0, .ref (ad 200)), (1, .int minute), (2, .int what)], [.int 0])) rfl ?_
      exact y_iret tq_X12_ofMinute rfl rfl (⟨⟨_, rfl⟩, ad, _, hX24, rfl, kt24, Or.inr (⟨(by first | exact fun q => rif c19 q.2 | exact fun q => rif c9 q.1), rfl, (rSm.in0 (rSm.in0 rSm.rfl'))⟩)⟩)
set_option maxHeartbeats 4000000 in
set_option maxRecDepth 100000 in
theorem m_X12_lapse_v {l : Launch} {S0 : State} {A0 : Array Value} {D : va_G} {aC : Nat → ClassId} {ic : Int32 → Nat} {de : Nat} {ad : Nat → Nat} {G : AH} {ρ : RS} (hS : yS l S0 A0 D aC) (hI : yIc S0 ic de) (hX : atR aC ic de ad G ρ) (cell : Int32) (from_ : Int32) (to : Int32) : yM l S0 D yX12_lapse cX12_lapse 5 (some .int) 21 0 0 [.ref (ad 200), .int cell, .int from_, .int to] G (fun r G1 => (∃ v : Int32, r = some (.int v)) ∧ ∃ (ad1 : Nat → Nat) (ρ1 : RS), atR aC ic de ad1 G1 ρ1 ∧ ad1 200 = ad 200 ∧ yTg kR G G1 ∧ roLapse cell from_ to r ρ ρ1) (fun _ _ => False) := by
  refine yM.ofK K_X12_lapse rfl (by decide) (Nat.le_of_ble_eq_true rfl) ?_
  have J46 : ∀ (n46 : Nat) (v46_4 : Int32) (G46 : AH) (s46 : RS) (hX46 : atR aC ic de ad G46 s46) (kt46 : yTg kR G G46) (hc_ : rcell s46 cell) (ht_ : to.toInt < 1000) (es_46 : s46 = rin ρ 0 0) (ok_46 : OKR ρ cell ∧ OKm from_ ∧ (from_ ≤ to ∧ to ≤ 239)) (hf_46 : from_.toInt ≤ v46_4.toInt) (na_46 : ∀ j : Nat, from_.toInt ≤ (j : Int) → (j : Int) < v46_4.toInt → ¬ rnwQ ρ cell (Int32.ofNat j)), ((to : Int32).toInt + 1 - v46_4.toInt).toNat = n46 → Y l S0 D K_X12_lapse 21 0 0 (fun r G1 => (∃ v : Int32, r = some (.int v)) ∧ ∃ (ad1 : Nat → Nat) (ρ1 : RS), atR aC ic de ad1 G1 ρ1 ∧ ad1 200 = ad 200 ∧ yTg kR G G1 ∧ roLapse cell from_ to r ρ ρ1) (fun _ _ => False) 46 [(0, .ref (ad 200)), (1, .int cell), (2, .int from_), (3, .int to), (4, .int v46_4)] [] G46 0 0 := by
    intro n46
    induction n46 using Nat.strongRecOn with
    | _ n46 ih46 =>
    intro v46_4 G46 s46 hX46 kt46 hc_ ht_ es_46 ok_46 hf_46 na_46 hn46
    subst hn46
    refine y_blk 2 tq_X12_lapse (z := (49, [(0, .ref (ad 200)), (1, .int cell), (2, .int from_), (3, .int to), (4, .int v46_4)], [.int to, .int v46_4])) rfl ?_
    refine y_icmp_gt tq_X12_lapse 71 rfl rfl (fun c49 => ?_) (fun c49 => ?_)
    · skip
      refine y_blk 1 tq_X12_lapse (z := (72, [(0, .ref (ad 200)), (1, .int cell), (2, .int from_), (3, .int to), (4, .int v46_4)], [.int (-1)])) rfl ?_
      exact y_iret tq_X12_lapse rfl rfl (⟨⟨_, rfl⟩, ad, _, hX46, rfl, kt46, Or.inl (⟨ok_46, congrArg (fun z => some (Value.int z)) (lap_e na_46 (lapk ok_46) c49), (by rw [es_46]; rfl), (by rw [es_46]; exact rSm.in0 rSm.rfl')⟩)⟩)
    · skip
      refine y_blk 3 tq_X12_lapse (z := (56, [(0, .ref (ad 200)), (1, .int cell), (2, .int from_), (3, .int to), (4, .int v46_4)], [.int v46_4, .int cell, .ref (ad 200)])) rfl ?_
      refine y_callV hS tq_X12_lapse rfl (As := [.int cell, .int v46_4]) rfl cv_X12_183 hX46.m (m_X12_isWatched_v hS hI hX46 cell v46_4 (by first | (with_reducible assumption) | (with_reducible exact hX46.lac (by assumption)) | (with_reducible exact hX46.poc (by assumption)) | (with_reducible exact hX46.wac (by assumption) (by assumption) (by omega)) | assumption | exact hX46.lac (by assumption) | exact hX46.poc (by assumption) | exact hX46.wac (by assumption) (by assumption) (by omega))) rfl (by decide) (Nat.le_of_ble_eq_true rfl) (fun r56 Gc56 q56 => ?_) (fun E9 G9 h9 => h9.elim)
      obtain ⟨⟨x56, hb_x56, hr_x56, rfl⟩, eG56⟩ := q56
      have eG56 := eG56.symm
      subst eG56
      refine y_blk 0 tq_X12_lapse (z := (59, [(0, .ref (ad 200)), (1, .int cell), (2, .int from_), (3, .int to), (4, .int v46_4)], [.int x56])) rfl ?_
      refine y_if_ne tq_X12_lapse 65 rfl rfl (fun c59 => ?_) (fun c59 => ?_)
      · skip
        refine y_blk 2 tq_X12_lapse (z := (46, [(4, .int (v46_4 + 1)), (0, .ref (ad 200)), (1, .int cell), (2, .int from_), (3, .int to)], [])) rfl ?_
        refine y_pick (L2 := [(0, .ref (ad 200)), (1, .int cell), (2, .int from_), (3, .int to), (4, .int (v46_4 + 1))]) [1, 2, 3, 4, 0] rfl ?_
        exact ih46 _ (by exact ydec2 c49 (by omega)) (v46_4 + 1) G46 s46 hX46 kt46 (by assumption) (by omega) (by first | assumption | rfl) (by first | assumption | exact ⟨yif1 c10, yif1 c23, yif1 c34⟩) (by first | exact lap_f hf_46 (lapk ok_46) c49 | exact Int.le_refl _) (by first | exact lap_s na_46 hf_46 (lapk ok_46) c49 (fun q => q (by have z := hr_x56.mp (hb_x56.resolve_left c59); rw [es_46] at z; exact rwat_in.mp z)) | exact lap_0) rfl
      · skip
        refine y_blk 1 tq_X12_lapse (z := (64, [(0, .ref (ad 200)), (1, .int cell), (2, .int from_), (3, .int to), (4, .int v46_4)], [.int v46_4])) rfl ?_
        exact y_iret tq_X12_lapse rfl rfl (⟨⟨_, rfl⟩, ad, _, hX46, rfl, kt46, Or.inl (⟨ok_46, congrArg (fun z => some (Value.int z)) (lap_at na_46 hf_46 (lapk ok_46) c49 (fun q => by rw [hr_x56.mpr (by rw [es_46]; exact rwat_in.mpr q)] at c59; exact absurd c59 (by decide))), (by rw [es_46]; rfl), (by rw [es_46]; exact rSm.in0 rSm.rfl')⟩)⟩)
  refine y_blk 2 tq_X12_lapse (z := (2, [(0, .ref (ad 200)), (1, .int cell), (2, .int from_), (3, .int to)], [.int 0, .ref (ad 200)])) rfl ?_
  refine y_put hS tq_X12_lapse rfl fp_X12_51_X12 hX.m (by omega) rfl rfl (Nat.le_of_ble_eq_true rfl) ?_
  have hX2 : atR aC ic de ad (yup G (ad 200) (200, .inr (16, [.int 0, .int (rI ρ 1), .int (rI ρ 2), .ref (ad 201), .int (rI ρ 3), .int (rI ρ 4), .ref (ad 210), .ref (ad 211), .ref (ad 212), .ref (ad 213), .int (rI ρ 5), .int (rI ρ 6), .int (rI ρ 7), .ref (ad 202), .ref (ad 214), .int (rI ρ 8), .ref (ad 203), .ref (ad 215), .ref (ad 216), .int (rI ρ 9)]))) ((rin ρ 0 0)) := atR.setIb hX rfl rfl (hX.2.setI (by decide))
  have kt2 : yTg kR G (yup G (ad 200) (200, .inr (16, [.int 0, .int (rI ρ 1), .int (rI ρ 2), .ref (ad 201), .int (rI ρ 3), .int (rI ρ 4), .ref (ad 210), .ref (ad 211), .ref (ad 212), .ref (ad 213), .int (rI ρ 5), .int (rI ρ 6), .int (rI ρ 7), .ref (ad 202), .ref (ad 214), .int (rI ρ 8), .ref (ad 203), .ref (ad 215), .ref (ad 216), .int (rI ρ 9)]))) := ((yTg.rfl' (f := kR) (G := G))).trans (yTg.up hX.m (kR_n (by omega) (by omega)))
  show Y l S0 D K_X12_lapse 21 0 0 (fun r G1 => (∃ v : Int32, r = some (.int v)) ∧ ∃ (ad1 : Nat → Nat) (ρ1 : RS), atR aC ic de ad1 G1 ρ1 ∧ ad1 200 = ad 200 ∧ yTg kR G G1 ∧ roLapse cell from_ to r ρ ρ1) (fun _ _ => False) (2 + 3) [(0, .ref (ad 200)), (1, .int cell), (2, .int from_), (3, .int to)] [] (yup G (ad 200) (200, .inr (16, [.int 0, .int (rI ρ 1), .int (rI ρ 2), .ref (ad 201), .int (rI ρ 3), .int (rI ρ 4), .ref (ad 210), .ref (ad 211), .ref (ad 212), .ref (ad 213), .int (rI ρ 5), .int (rI ρ 6), .int (rI ρ 7), .ref (ad 202), .ref (ad 214), .int (rI ρ 8), .ref (ad 203), .ref (ad 215), .ref (ad 216), .int (rI ρ 9)]))) 0 0
  generalize yup G (ad 200) (200, .inr (16, [.int 0, .int (rI ρ 1), .int (rI ρ 2), .ref (ad 201), .int (rI ρ 3), .int (rI ρ 4), .ref (ad 210), .ref (ad 211), .ref (ad 212), .ref (ad 213), .int (rI ρ 5), .int (rI ρ 6), .int (rI ρ 7), .ref (ad 202), .ref (ad 214), .int (rI ρ 8), .ref (ad 203), .ref (ad 215), .ref (ad 216), .int (rI ρ 9)])) = G2 at hX2 kt2 ⊢
  refine y_blk 2 tq_X12_lapse (z := (7, [(0, .ref (ad 200)), (1, .int cell), (2, .int from_), (3, .int to)], [.int cell, .ref (ad 200)])) rfl ?_
  refine y_callV hS tq_X12_lapse rfl (As := [.int cell]) rfl cv_X12_157 hX2.m (m_X12_isCell hS hI hX2 cell) rfl (by decide) (Nat.le_of_ble_eq_true rfl) (fun r7 Gc7 q7 => ?_) (fun E9 G9 h9 => h9.elim)
  obtain ⟨rfl, eG7⟩ := q7
  have eG7 := eG7.symm
  subst eG7
  refine y_blk 0 tq_X12_lapse (z := (10, [(0, .ref (ad 200)), (1, .int cell), (2, .int from_), (3, .int to)], [.int (if 0 ≤ cell ∧ cell ≤ (Int32.ofNat (rZ ((rin ρ 0 0)) 201)) - 1 then 1 else 0)])) rfl ?_
  refine y_if_ne tq_X12_lapse 19 rfl rfl (fun c10 => ?_) (fun c10 => ?_)
  · skip
    have hq10 := yif1 c10
    have hn10 := yinN (n := rZ ((rin ρ 0 0)) 201) (by have := hX2.2.n64; omega) hq10
    have ha10 := hn10.1
    have hb10 := hn10.2
    refine y_blk 1 tq_X12_lapse (z := (20, [(0, .ref (ad 200)), (1, .int cell), (2, .int from_), (3, .int to)], [.int from_])) rfl ?_
    refine y_callS hS tq_X12_lapse rfl (As := [.int from_]) rfl cs_X12_163 (m_X12_isMinute hS from_) rfl (by decide) (Nat.le_of_ble_eq_true rfl) (fun r20 Gc20 q20 => ?_) (fun E9 G9 h9 => h9.elim)
    obtain ⟨rfl, eG20⟩ := q20
    have eG20 := eG20.symm
    subst eG20
    refine y_blk 0 tq_X12_lapse (z := (23, [(0, .ref (ad 200)), (1, .int cell), (2, .int from_), (3, .int to)], [.int (if 0 ≤ from_ ∧ from_ ≤ 239 then 1 else 0)])) rfl ?_
    refine y_if_eq tq_X12_lapse 37 rfl rfl (fun c23 => ?_) (fun c23 => ?_)
    · skip
      refine y_blk 2 tq_X12_lapse (z := (39, [(0, .ref (ad 200)), (1, .int cell), (2, .int from_), (3, .int to)], [.int 2, .ref (ad 200)])) rfl ?_
      refine y_callV hS tq_X12_lapse rfl (As := [.int 2]) rfl cv_X12_140 hX2.m (m_X12_no hS hI hX2 2) rfl (by decide) (Nat.le_of_ble_eq_true rfl) (fun r39 Gc39 q39 => ?_) (fun E9 G9 h9 => h9.elim)
      obtain ⟨rfl, hX39, kt39_⟩ := q39
      have kt39 := (kt2).trans kt39_
      refine y_blk 0 tq_X12_lapse (z := (42, [(0, .ref (ad 200)), (1, .int cell), (2, .int from_), (3, .int to)], [.int 0])) rfl ?_
      exact y_iret tq_X12_lapse rfl rfl (⟨⟨_, rfl⟩, ad, _, hX39, rfl, kt39, Or.inr (Or.inr (⟨⟨yif1 c10, (by first | exact fun q => rif c34 q.2 | exact fun q => rif c23 q.1)⟩, rfl, (rSm.in0 (rSm.in0 rSm.rfl'))⟩))⟩)
    · skip
      have hq23 := yif1 c23
      simp only [yle, yl_m1, yl_0, yl_1, yl_2, yl_3, yl_4, yl_5, yl_6, yl_7, yl_8, yl_9, yl_10, yl_11, yl_12, yl_60, yl_90, yl_239, yl_240] at hq23
      have ha23 := hq23.1
      have hb23 := hq23.2
      refine y_blk 3 tq_X12_lapse (z := (31, [(0, .ref (ad 200)), (1, .int cell), (2, .int from_), (3, .int to)], [.int 239, .int from_, .int to])) rfl ?_
      refine y_callS hS tq_X12_lapse rfl (As := [.int to, .int from_, .int 239]) rfl cs_X12_54 (m_X12_in hS to from_ 239) rfl (by decide) (Nat.le_of_ble_eq_true rfl) (fun r31 Gc31 q31 => ?_) (fun E9 G9 h9 => h9.elim)
      obtain ⟨rfl, eG31⟩ := q31
      have eG31 := eG31.symm
      subst eG31
      refine y_blk 0 tq_X12_lapse (z := (34, [(0, .ref (ad 200)), (1, .int cell), (2, .int from_), (3, .int to)], [.int (if from_ ≤ to ∧ to ≤ 239 then 1 else 0)])) rfl ?_
      refine y_if_ne tq_X12_lapse 43 rfl rfl (fun c34 => ?_) (fun c34 => ?_)
      · skip
        have hq34 := yif1 c34
        simp only [yle, yl_m1, yl_0, yl_1, yl_2, yl_3, yl_4, yl_5, yl_6, yl_7, yl_8, yl_9, yl_10, yl_11, yl_12, yl_60, yl_90, yl_239, yl_240] at hq34
        have ha34 := hq34.1
        have hb34 := hq34.2
        refine y_blk 2 tq_X12_lapse (z := (46, [(4, .int from_), (0, .ref (ad 200)), (1, .int cell), (2, .int from_), (3, .int to)], [])) rfl ?_
        refine y_pick (L2 := [(0, .ref (ad 200)), (1, .int cell), (2, .int from_), (3, .int to), (4, .int from_)]) [1, 2, 3, 4, 0] rfl ?_
        exact J46 _ from_ G2 (rin ρ 0 0) hX2 kt2 (by assumption) (by omega) (by first | assumption | rfl) (by first | assumption | exact ⟨yif1 c10, yif1 c23, yif1 c34⟩) (by first | exact lap_f hf_46 (lapk ok_46) c49 | exact Int.le_refl _) (by first | exact lap_s na_46 hf_46 (lapk ok_46) c49 (fun q => q (by have z := hr_x56.mp (hb_x56.resolve_left c59); rw [es_46] at z; exact rwat_in.mp z)) | exact lap_0) rfl
      · skip
        refine y_blk 2 tq_X12_lapse (z := (39, [(0, .ref (ad 200)), (1, .int cell), (2, .int from_), (3, .int to)], [.int 2, .ref (ad 200)])) rfl ?_
        refine y_callV hS tq_X12_lapse rfl (As := [.int 2]) rfl cv_X12_140 hX2.m (m_X12_no hS hI hX2 2) rfl (by decide) (Nat.le_of_ble_eq_true rfl) (fun r39 Gc39 q39 => ?_) (fun E9 G9 h9 => h9.elim)
        obtain ⟨rfl, hX39, kt39_⟩ := q39
        have kt39 := (kt2).trans kt39_
        refine y_blk 0 tq_X12_lapse (z := (42, [(0, .ref (ad 200)), (1, .int cell), (2, .int from_), (3, .int to)], [.int 0])) rfl ?_
        exact y_iret tq_X12_lapse rfl rfl (⟨⟨_, rfl⟩, ad, _, hX39, rfl, kt39, Or.inr (Or.inr (⟨⟨yif1 c10, (by first | exact fun q => rif c34 q.2 | exact fun q => rif c23 q.1)⟩, rfl, (rSm.in0 (rSm.in0 rSm.rfl'))⟩))⟩)
  · skip
    refine y_blk 2 tq_X12_lapse (z := (15, [(0, .ref (ad 200)), (1, .int cell), (2, .int from_), (3, .int to)], [.int 1, .ref (ad 200)])) rfl ?_
    refine y_callV hS tq_X12_lapse rfl (As := [.int 1]) rfl cv_X12_140 hX2.m (m_X12_no hS hI hX2 1) rfl (by decide) (Nat.le_of_ble_eq_true rfl) (fun r15 Gc15 q15 => ?_) (fun E9 G9 h9 => h9.elim)
    obtain ⟨rfl, hX15, kt15_⟩ := q15
    have kt15 := (kt2).trans kt15_
    refine y_blk 0 tq_X12_lapse (z := (18, [(0, .ref (ad 200)), (1, .int cell), (2, .int from_), (3, .int to)], [.int 0])) rfl ?_
    exact y_iret tq_X12_lapse rfl rfl (⟨⟨_, rfl⟩, ad, _, hX15, rfl, kt15, Or.inr (Or.inl (⟨rif c10, rfl, (rSm.in0 (rSm.in0 rSm.rfl'))⟩))⟩)
set_option maxHeartbeats 4000000 in
set_option maxRecDepth 100000 in
theorem m_X12_sees__v {l : Launch} {S0 : State} {A0 : Array Value} {D : va_G} {aC : Nat → ClassId} {ic : Int32 → Nat} {de : Nat} {ad : Nat → Nat} {G : AH} {ρ : RS} (hS : yS l S0 A0 D aC) (hI : yIc S0 ic de) (hX : atR aC ic de ad G ρ) (guard : Int32) (cell : Int32) (minute : Int32) : yM l S0 D yX12_sees_ cX12_sees_ 4 (some .boolean) 21 0 0 [.ref (ad 200), .int guard, .int cell, .int minute] G (fun r G1 => (∃ v : Int32, (v = 0 ∨ v = 1) ∧ r = some (.int v)) ∧ ∃ (ad1 : Nat → Nat) (ρ1 : RS), atR aC ic de ad1 G1 ρ1 ∧ ad1 200 = ad 200 ∧ yTg kR G G1 ∧ roSees guard cell minute r ρ ρ1) (fun _ _ => False) := by
  refine yM.ofK K_X12_sees_ rfl (by decide) (Nat.le_of_ble_eq_true rfl) ?_
  refine y_blk 2 tq_X12_sees_ (z := (2, [(0, .ref (ad 200)), (1, .int guard), (2, .int cell), (3, .int minute)], [.int 0, .ref (ad 200)])) rfl ?_
  refine y_put hS tq_X12_sees_ rfl fp_X12_51_X12 hX.m (by omega) rfl rfl (Nat.le_of_ble_eq_true rfl) ?_
  have hX2 : atR aC ic de ad (yup G (ad 200) (200, .inr (16, [.int 0, .int (rI ρ 1), .int (rI ρ 2), .ref (ad 201), .int (rI ρ 3), .int (rI ρ 4), .ref (ad 210), .ref (ad 211), .ref (ad 212), .ref (ad 213), .int (rI ρ 5), .int (rI ρ 6), .int (rI ρ 7), .ref (ad 202), .ref (ad 214), .int (rI ρ 8), .ref (ad 203), .ref (ad 215), .ref (ad 216), .int (rI ρ 9)]))) ((rin ρ 0 0)) := atR.setIb hX rfl rfl (hX.2.setI (by decide))
  have kt2 : yTg kR G (yup G (ad 200) (200, .inr (16, [.int 0, .int (rI ρ 1), .int (rI ρ 2), .ref (ad 201), .int (rI ρ 3), .int (rI ρ 4), .ref (ad 210), .ref (ad 211), .ref (ad 212), .ref (ad 213), .int (rI ρ 5), .int (rI ρ 6), .int (rI ρ 7), .ref (ad 202), .ref (ad 214), .int (rI ρ 8), .ref (ad 203), .ref (ad 215), .ref (ad 216), .int (rI ρ 9)]))) := ((yTg.rfl' (f := kR) (G := G))).trans (yTg.up hX.m (kR_n (by omega) (by omega)))
  show Y l S0 D K_X12_sees_ 21 0 0 (fun r G1 => (∃ v : Int32, (v = 0 ∨ v = 1) ∧ r = some (.int v)) ∧ ∃ (ad1 : Nat → Nat) (ρ1 : RS), atR aC ic de ad1 G1 ρ1 ∧ ad1 200 = ad 200 ∧ yTg kR G G1 ∧ roSees guard cell minute r ρ ρ1) (fun _ _ => False) (2 + 3) [(0, .ref (ad 200)), (1, .int guard), (2, .int cell), (3, .int minute)] [] (yup G (ad 200) (200, .inr (16, [.int 0, .int (rI ρ 1), .int (rI ρ 2), .ref (ad 201), .int (rI ρ 3), .int (rI ρ 4), .ref (ad 210), .ref (ad 211), .ref (ad 212), .ref (ad 213), .int (rI ρ 5), .int (rI ρ 6), .int (rI ρ 7), .ref (ad 202), .ref (ad 214), .int (rI ρ 8), .ref (ad 203), .ref (ad 215), .ref (ad 216), .int (rI ρ 9)]))) 0 0
  generalize yup G (ad 200) (200, .inr (16, [.int 0, .int (rI ρ 1), .int (rI ρ 2), .ref (ad 201), .int (rI ρ 3), .int (rI ρ 4), .ref (ad 210), .ref (ad 211), .ref (ad 212), .ref (ad 213), .int (rI ρ 5), .int (rI ρ 6), .int (rI ρ 7), .ref (ad 202), .ref (ad 214), .int (rI ρ 8), .ref (ad 203), .ref (ad 215), .ref (ad 216), .int (rI ρ 9)])) = G2 at hX2 kt2 ⊢
  refine y_blk 2 tq_X12_sees_ (z := (7, [(0, .ref (ad 200)), (1, .int guard), (2, .int cell), (3, .int minute)], [.int (-1), .int guard])) rfl ?_
  refine y_icmp_eq tq_X12_sees_ 18 rfl rfl (fun c7 => ?_) (fun c7 => ?_)
  · skip
    refine y_blk 2 tq_X12_sees_ (z := (20, [(0, .ref (ad 200)), (1, .int guard), (2, .int cell), (3, .int minute)], [.int cell, .ref (ad 200)])) rfl ?_
    refine y_callV hS tq_X12_sees_ rfl (As := [.int cell]) rfl cv_X12_157 hX2.m (m_X12_isCell hS hI hX2 cell) rfl (by decide) (Nat.le_of_ble_eq_true rfl) (fun r20 Gc20 q20 => ?_) (fun E9 G9 h9 => h9.elim)
    obtain ⟨rfl, eG20⟩ := q20
    have eG20 := eG20.symm
    subst eG20
    refine y_blk 0 tq_X12_sees_ (z := (23, [(0, .ref (ad 200)), (1, .int guard), (2, .int cell), (3, .int minute)], [.int (if 0 ≤ cell ∧ cell ≤ (Int32.ofNat (rZ ((rin ρ 0 0)) 201)) - 1 then 1 else 0)])) rfl ?_
    refine y_if_ne tq_X12_sees_ 40 rfl rfl (fun c23 => ?_) (fun c23 => ?_)
    · skip
      have hq23 := yif1 c23
      have hn23 := yinN (n := rZ ((rin ρ 0 0)) 201) (by have := hX2.2.n64; omega) hq23
      have ha23 := hn23.1
      have hb23 := hn23.2
      refine y_blk 1 tq_X12_sees_ (z := (41, [(0, .ref (ad 200)), (1, .int guard), (2, .int cell), (3, .int minute)], [.int minute])) rfl ?_
      refine y_callS hS tq_X12_sees_ rfl (As := [.int minute]) rfl cs_X12_163 (m_X12_isMinute hS minute) rfl (by decide) (Nat.le_of_ble_eq_true rfl) (fun r41 Gc41 q41 => ?_) (fun E9 G9 h9 => h9.elim)
      obtain ⟨rfl, eG41⟩ := q41
      have eG41 := eG41.symm
      subst eG41
      refine y_blk 0 tq_X12_sees_ (z := (44, [(0, .ref (ad 200)), (1, .int guard), (2, .int cell), (3, .int minute)], [.int (if 0 ≤ minute ∧ minute ≤ 239 then 1 else 0)])) rfl ?_
      refine y_if_ne tq_X12_sees_ 61 rfl rfl (fun c44 => ?_) (fun c44 => ?_)
      · skip
        have hq44 := yif1 c44
        simp only [yle, yl_m1, yl_0, yl_1, yl_2, yl_3, yl_4, yl_5, yl_6, yl_7, yl_8, yl_9, yl_10, yl_11, yl_12, yl_60, yl_90, yl_239, yl_240] at hq44
        have ha44 := hq44.1
        have hb44 := hq44.2
        refine y_blk 2 tq_X12_sees_ (z := (63, [(0, .ref (ad 200)), (1, .int guard), (2, .int cell), (3, .int minute)], [.int (-1), .int guard])) rfl ?_
        refine y_icmp_ne tq_X12_sees_ 75 rfl rfl (fun c63 => ?_) (fun c63 => ?_)
        · skip
          refine y_blk 3 tq_X12_sees_ (z := (78, [(0, .ref (ad 200)), (1, .int guard), (2, .int cell), (3, .int minute)], [.int minute, .int cell, .ref (ad 200)])) rfl ?_
          refine y_callV hS tq_X12_sees_ rfl (As := [.int cell, .int minute]) rfl cv_X12_186 hX2.m (m_X12_seers_v hS hI hX2 cell minute (by first | (with_reducible assumption) | (with_reducible exact hX2.lac (by assumption)) | (with_reducible exact hX2.poc (by assumption)) | (with_reducible exact hX2.wac (by assumption) (by assumption) (by omega)) | assumption | exact hX2.lac (by assumption) | exact hX2.poc (by assumption) | exact hX2.wac (by assumption) (by assumption) (by omega))) rfl (by decide) (Nat.le_of_ble_eq_true rfl) (fun r78 Gc78 q78 => ?_) (fun E9 G9 h9 => h9.elim)
          obtain ⟨rfl, eG78⟩ := q78
          have eG78 := eG78.symm
          subst eG78
          refine y_blk 5 tq_X12_sees_ (z := (86, [(0, .ref (ad 200)), (1, .int guard), (2, .int cell), (3, .int minute)], [.int 1, .int (((rsrN ((rin ρ 0 0)) cell minute) >>> (guard &&& 31)) &&& 1)])) rfl ?_
          refine y_icmp_ne tq_X12_sees_ 93 rfl rfl (fun c86 => ?_) (fun c86 => ?_)
          · skip
            refine y_blk 1 tq_X12_sees_ (z := (94, [(0, .ref (ad 200)), (1, .int guard), (2, .int cell), (3, .int minute)], [.int 0])) rfl ?_
            exact y_zret tq_X12_sees_ rfl rfl (rfl) (⟨⟨_, (Or.inl rfl), rfl⟩, ad, _, hX2, rfl, kt2, Or.inl (⟨⟨⟨(by first | exact Or.inl c7 | exact Or.inr (yif1 c15)), yif1 c23⟩, yif1 c44⟩, congrArg (fun z => some (Value.int z)) (by first | exact absurd c7 c63 | exact absurd c63 c7 | exact rse_w c63 hb_x69 hr_x69 | exact rse_0 c63 ha15 hb15 (Nat.le_trans (hX.2.le10 212 (by decide)) (by decide)) c86 | exact rse_1 c63 ha15 hb15 (Nat.le_trans (hX.2.le10 212 (by decide)) (by decide)) c86), rfl, (rSm.in0 rSm.rfl')⟩)⟩)
          · skip
            refine y_blk 2 tq_X12_sees_ (z := (94, [(0, .ref (ad 200)), (1, .int guard), (2, .int cell), (3, .int minute)], [.int 1])) rfl ?_
            exact y_zret tq_X12_sees_ rfl rfl (rfl) (⟨⟨_, (Or.inr rfl), rfl⟩, ad, _, hX2, rfl, kt2, Or.inl (⟨⟨⟨(by first | exact Or.inl c7 | exact Or.inr (yif1 c15)), yif1 c23⟩, yif1 c44⟩, congrArg (fun z => some (Value.int z)) (by first | exact absurd c7 c63 | exact absurd c63 c7 | exact rse_w c63 hb_x69 hr_x69 | exact rse_0 c63 ha15 hb15 (Nat.le_trans (hX.2.le10 212 (by decide)) (by decide)) c86 | exact rse_1 c63 ha15 hb15 (Nat.le_trans (hX.2.le10 212 (by decide)) (by decide)) c86), rfl, (rSm.in0 rSm.rfl')⟩)⟩)
        · skip
          refine y_blk 3 tq_X12_sees_ (z := (69, [(0, .ref (ad 200)), (1, .int guard), (2, .int cell), (3, .int minute)], [.int minute, .int cell, .ref (ad 200)])) rfl ?_
          refine y_callV hS tq_X12_sees_ rfl (As := [.int cell, .int minute]) rfl cv_X12_183 hX2.m (m_X12_isWatched_v hS hI hX2 cell minute (by first | (with_reducible assumption) | (with_reducible exact hX2.lac (by assumption)) | (with_reducible exact hX2.poc (by assumption)) | (with_reducible exact hX2.wac (by assumption) (by assumption) (by omega)) | assumption | exact hX2.lac (by assumption) | exact hX2.poc (by assumption) | exact hX2.wac (by assumption) (by assumption) (by omega))) rfl (by decide) (Nat.le_of_ble_eq_true rfl) (fun r69 Gc69 q69 => ?_) (fun E9 G9 h9 => h9.elim)
          obtain ⟨⟨x69, hb_x69, hr_x69, rfl⟩, eG69⟩ := q69
          have eG69 := eG69.symm
          subst eG69
          refine y_blk 1 tq_X12_sees_ (z := (94, [(0, .ref (ad 200)), (1, .int guard), (2, .int cell), (3, .int minute)], [.int x69])) rfl ?_
          exact y_zret tq_X12_sees_ rfl rfl (y01 hb_x69) (⟨⟨_, hb_x69, rfl⟩, ad, _, hX2, rfl, kt2, Or.inl (⟨⟨⟨(by first | exact Or.inl c7 | exact Or.inr (yif1 c15)), yif1 c23⟩, yif1 c44⟩, congrArg (fun z => some (Value.int z)) (by first | exact absurd c7 c63 | exact absurd c63 c7 | exact rse_w c63 hb_x69 hr_x69 | exact rse_0 c63 ha15 hb15 (Nat.le_trans (hX.2.le10 212 (by decide)) (by decide)) c86 | exact rse_1 c63 ha15 hb15 (Nat.le_trans (hX.2.le10 212 (by decide)) (by decide)) c86), rfl, (rSm.in0 rSm.rfl')⟩)⟩)
      · skip
        refine y_blk 2 tq_X12_sees_ (z := (49, [(0, .ref (ad 200)), (1, .int guard), (2, .int cell), (3, .int minute)], [.int 2, .ref (ad 200)])) rfl ?_
        refine y_callV hS tq_X12_sees_ rfl (As := [.int 2]) rfl cv_X12_140 hX2.m (m_X12_no hS hI hX2 2) rfl (by decide) (Nat.le_of_ble_eq_true rfl) (fun r49 Gc49 q49 => ?_) (fun E9 G9 h9 => h9.elim)
        obtain ⟨rfl, hX49, kt49_⟩ := q49
        have kt49 := (kt2).trans kt49_
        refine y_blk 0 tq_X12_sees_ (z := (52, [(0, .ref (ad 200)), (1, .int guard), (2, .int cell), (3, .int minute)], [.int 0])) rfl ?_
        refine y_if_le tq_X12_sees_ 59 rfl rfl (fun c52 => ?_) (fun c52 => ?_)
        · skip
          refine y_blk 1 tq_X12_sees_ (z := (60, [(0, .ref (ad 200)), (1, .int guard), (2, .int cell), (3, .int minute)], [.int 0])) rfl ?_
          exact y_zret tq_X12_sees_ rfl rfl (rfl) (⟨⟨_, (Or.inl rfl), rfl⟩, ad, _, hX49, rfl, kt49, Or.inr (Or.inr (⟨⟨⟨(by first | exact Or.inl c7 | exact Or.inr (yif1 c15)), yif1 c23⟩, rif c44⟩, rfl, (rSm.in0 (rSm.in0 rSm.rfl'))⟩))⟩)
        · skip
          refine y_blk 2 tq_X12_sees_ (z := (60, [(0, .ref (ad 200)), (1, .int guard), (2, .int cell), (3, .int minute)], [.int 1])) rfl ?_
          exact y_zret tq_X12_sees_ rfl rfl (rfl) (⟨⟨_, (Or.inr rfl), rfl⟩, ad, _, hX49, rfl, kt49, Or.inr (Or.inr (⟨⟨⟨(by first | exact Or.inl c7 | exact Or.inr (yif1 c15)), yif1 c23⟩, rif c44⟩, rfl, (rSm.in0 (rSm.in0 rSm.rfl'))⟩))⟩)
    · skip
      refine y_blk 2 tq_X12_sees_ (z := (28, [(0, .ref (ad 200)), (1, .int guard), (2, .int cell), (3, .int minute)], [.int 1, .ref (ad 200)])) rfl ?_
      refine y_callV hS tq_X12_sees_ rfl (As := [.int 1]) rfl cv_X12_140 hX2.m (m_X12_no hS hI hX2 1) rfl (by decide) (Nat.le_of_ble_eq_true rfl) (fun r28 Gc28 q28 => ?_) (fun E9 G9 h9 => h9.elim)
      obtain ⟨rfl, hX28, kt28_⟩ := q28
      have kt28 := (kt2).trans kt28_
      refine y_blk 0 tq_X12_sees_ (z := (31, [(0, .ref (ad 200)), (1, .int guard), (2, .int cell), (3, .int minute)], [.int 0])) rfl ?_
      refine y_if_le tq_X12_sees_ 38 rfl rfl (fun c31 => ?_) (fun c31 => ?_)
      · skip
        refine y_blk 1 tq_X12_sees_ (z := (39, [(0, .ref (ad 200)), (1, .int guard), (2, .int cell), (3, .int minute)], [.int 0])) rfl ?_
        exact y_zret tq_X12_sees_ rfl rfl (rfl) (⟨⟨_, (Or.inl rfl), rfl⟩, ad, _, hX28, rfl, kt28, Or.inr (Or.inl (⟨(by first | exact fun q => rif c23 q.2 | exact fun q => q.1.elim c7 (rif c15)), rfl, (rSm.in0 (rSm.in0 rSm.rfl'))⟩))⟩)
      · skip
        refine y_blk 2 tq_X12_sees_ (z := (39, [(0, .ref (ad 200)), (1, .int guard), (2, .int cell), (3, .int minute)], [.int 1])) rfl ?_
        exact y_zret tq_X12_sees_ rfl rfl (rfl) (⟨⟨_, (Or.inr rfl), rfl⟩, ad, _, hX28, rfl, kt28, Or.inr (Or.inl (⟨(by first | exact fun q => rif c23 q.2 | exact fun q => q.1.elim c7 (rif c15)), rfl, (rSm.in0 (rSm.in0 rSm.rfl'))⟩))⟩)
  · skip
    refine y_blk 2 tq_X12_sees_ (z := (12, [(0, .ref (ad 200)), (1, .int guard), (2, .int cell), (3, .int minute)], [.int guard, .ref (ad 200)])) rfl ?_
    refine y_callV hS tq_X12_sees_ rfl (As := [.int guard]) rfl cv_X12_176 hX2.m (m_X12_isGuard hS hI hX2 guard) rfl (by decide) (Nat.le_of_ble_eq_true rfl) (fun r12 Gc12 q12 => ?_) (fun E9 G9 h9 => h9.elim)
    obtain ⟨rfl, eG12⟩ := q12
    have eG12 := eG12.symm
    subst eG12
    refine y_blk 0 tq_X12_sees_ (z := (15, [(0, .ref (ad 200)), (1, .int guard), (2, .int cell), (3, .int minute)], [.int (if 0 ≤ guard ∧ guard ≤ (Int32.ofNat (rZ ((rin ρ 0 0)) 212)) - 1 then 1 else 0)])) rfl ?_
    refine y_if_eq tq_X12_sees_ 26 rfl rfl (fun c15 => ?_) (fun c15 => ?_)
    · skip
      refine y_blk 2 tq_X12_sees_ (z := (28, [(0, .ref (ad 200)), (1, .int guard), (2, .int cell), (3, .int minute)], [.int 1, .ref (ad 200)])) rfl ?_
      refine y_callV hS tq_X12_sees_ rfl (As := [.int 1]) rfl cv_X12_140 hX2.m (m_X12_no hS hI hX2 1) rfl (by decide) (Nat.le_of_ble_eq_true rfl) (fun r28 Gc28 q28 => ?_) (fun E9 G9 h9 => h9.elim)
      obtain ⟨rfl, hX28, kt28_⟩ := q28
      have kt28 := (kt2).trans kt28_
      refine y_blk 0 tq_X12_sees_ (z := (31, [(0, .ref (ad 200)), (1, .int guard), (2, .int cell), (3, .int minute)], [.int 0])) rfl ?_
      refine y_if_le tq_X12_sees_ 38 rfl rfl (fun c31 => ?_) (fun c31 => ?_)
      · skip
        refine y_blk 1 tq_X12_sees_ (z := (39, [(0, .ref (ad 200)), (1, .int guard), (2, .int cell), (3, .int minute)], [.int 0])) rfl ?_
        exact y_zret tq_X12_sees_ rfl rfl (rfl) (⟨⟨_, (Or.inl rfl), rfl⟩, ad, _, hX28, rfl, kt28, Or.inr (Or.inl (⟨(by first | exact fun q => rif c23 q.2 | exact fun q => q.1.elim c7 (rif c15)), rfl, (rSm.in0 (rSm.in0 rSm.rfl'))⟩))⟩)
      · skip
        refine y_blk 2 tq_X12_sees_ (z := (39, [(0, .ref (ad 200)), (1, .int guard), (2, .int cell), (3, .int minute)], [.int 1])) rfl ?_
        exact y_zret tq_X12_sees_ rfl rfl (rfl) (⟨⟨_, (Or.inr rfl), rfl⟩, ad, _, hX28, rfl, kt28, Or.inr (Or.inl (⟨(by first | exact fun q => rif c23 q.2 | exact fun q => q.1.elim c7 (rif c15)), rfl, (rSm.in0 (rSm.in0 rSm.rfl'))⟩))⟩)
    · skip
      have hq15 := yif1 c15
      have hn15 := yinN (n := rZ ((rin ρ 0 0)) 212) (by have := hX2.2.le10 212 (by decide); omega) hq15
      have ha15 := hn15.1
      have hb15 := hn15.2
      refine y_blk 2 tq_X12_sees_ (z := (20, [(0, .ref (ad 200)), (1, .int guard), (2, .int cell), (3, .int minute)], [.int cell, .ref (ad 200)])) rfl ?_
      refine y_callV hS tq_X12_sees_ rfl (As := [.int cell]) rfl cv_X12_157 hX2.m (m_X12_isCell hS hI hX2 cell) rfl (by decide) (Nat.le_of_ble_eq_true rfl) (fun r20 Gc20 q20 => ?_) (fun E9 G9 h9 => h9.elim)
      obtain ⟨rfl, eG20⟩ := q20
      have eG20 := eG20.symm
      subst eG20
      refine y_blk 0 tq_X12_sees_ (z := (23, [(0, .ref (ad 200)), (1, .int guard), (2, .int cell), (3, .int minute)], [.int (if 0 ≤ cell ∧ cell ≤ (Int32.ofNat (rZ ((rin ρ 0 0)) 201)) - 1 then 1 else 0)])) rfl ?_
      refine y_if_ne tq_X12_sees_ 40 rfl rfl (fun c23 => ?_) (fun c23 => ?_)
      · skip
        have hq23 := yif1 c23
        have hn23 := yinN (n := rZ ((rin ρ 0 0)) 201) (by have := hX2.2.n64; omega) hq23
        have ha23 := hn23.1
        have hb23 := hn23.2
        refine y_blk 1 tq_X12_sees_ (z := (41, [(0, .ref (ad 200)), (1, .int guard), (2, .int cell), (3, .int minute)], [.int minute])) rfl ?_
        refine y_callS hS tq_X12_sees_ rfl (As := [.int minute]) rfl cs_X12_163 (m_X12_isMinute hS minute) rfl (by decide) (Nat.le_of_ble_eq_true rfl) (fun r41 Gc41 q41 => ?_) (fun E9 G9 h9 => h9.elim)
        obtain ⟨rfl, eG41⟩ := q41
        have eG41 := eG41.symm
        subst eG41
        refine y_blk 0 tq_X12_sees_ (z := (44, [(0, .ref (ad 200)), (1, .int guard), (2, .int cell), (3, .int minute)], [.int (if 0 ≤ minute ∧ minute ≤ 239 then 1 else 0)])) rfl ?_
        refine y_if_ne tq_X12_sees_ 61 rfl rfl (fun c44 => ?_) (fun c44 => ?_)
        · skip
          have hq44 := yif1 c44
          simp only [yle, yl_m1, yl_0, yl_1, yl_2, yl_3, yl_4, yl_5, yl_6, yl_7, yl_8, yl_9, yl_10, yl_11, yl_12, yl_60, yl_90, yl_239, yl_240] at hq44
          have ha44 := hq44.1
          have hb44 := hq44.2
          refine y_blk 2 tq_X12_sees_ (z := (63, [(0, .ref (ad 200)), (1, .int guard), (2, .int cell), (3, .int minute)], [.int (-1), .int guard])) rfl ?_
          refine y_icmp_ne tq_X12_sees_ 75 rfl rfl (fun c63 => ?_) (fun c63 => ?_)
          · skip
            refine y_blk 3 tq_X12_sees_ (z := (78, [(0, .ref (ad 200)), (1, .int guard), (2, .int cell), (3, .int minute)], [.int minute, .int cell, .ref (ad 200)])) rfl ?_
            refine y_callV hS tq_X12_sees_ rfl (As := [.int cell, .int minute]) rfl cv_X12_186 hX2.m (m_X12_seers_v hS hI hX2 cell minute (by first | (with_reducible assumption) | (with_reducible exact hX2.lac (by assumption)) | (with_reducible exact hX2.poc (by assumption)) | (with_reducible exact hX2.wac (by assumption) (by assumption) (by omega)) | assumption | exact hX2.lac (by assumption) | exact hX2.poc (by assumption) | exact hX2.wac (by assumption) (by assumption) (by omega))) rfl (by decide) (Nat.le_of_ble_eq_true rfl) (fun r78 Gc78 q78 => ?_) (fun E9 G9 h9 => h9.elim)
            obtain ⟨rfl, eG78⟩ := q78
            have eG78 := eG78.symm
            subst eG78
            refine y_blk 5 tq_X12_sees_ (z := (86, [(0, .ref (ad 200)), (1, .int guard), (2, .int cell), (3, .int minute)], [.int 1, .int (((rsrN ((rin ρ 0 0)) cell minute) >>> (guard &&& 31)) &&& 1)])) rfl ?_
            refine y_icmp_ne tq_X12_sees_ 93 rfl rfl (fun c86 => ?_) (fun c86 => ?_)
            · skip
              refine y_blk 1 tq_X12_sees_ (z := (94, [(0, .ref (ad 200)), (1, .int guard), (2, .int cell), (3, .int minute)], [.int 0])) rfl ?_
              exact y_zret tq_X12_sees_ rfl rfl (rfl) (⟨⟨_, (Or.inl rfl), rfl⟩, ad, _, hX2, rfl, kt2, Or.inl (⟨⟨⟨(by first | exact Or.inl c7 | exact Or.inr (yif1 c15)), yif1 c23⟩, yif1 c44⟩, congrArg (fun z => some (Value.int z)) (by first | exact absurd c7 c63 | exact absurd c63 c7 | exact rse_w c63 hb_x69 hr_x69 | exact rse_0 c63 ha15 hb15 (Nat.le_trans (hX.2.le10 212 (by decide)) (by decide)) c86 | exact rse_1 c63 ha15 hb15 (Nat.le_trans (hX.2.le10 212 (by decide)) (by decide)) c86), rfl, (rSm.in0 rSm.rfl')⟩)⟩)
            · skip
              refine y_blk 2 tq_X12_sees_ (z := (94, [(0, .ref (ad 200)), (1, .int guard), (2, .int cell), (3, .int minute)], [.int 1])) rfl ?_
              exact y_zret tq_X12_sees_ rfl rfl (rfl) (⟨⟨_, (Or.inr rfl), rfl⟩, ad, _, hX2, rfl, kt2, Or.inl (⟨⟨⟨(by first | exact Or.inl c7 | exact Or.inr (yif1 c15)), yif1 c23⟩, yif1 c44⟩, congrArg (fun z => some (Value.int z)) (by first | exact absurd c7 c63 | exact absurd c63 c7 | exact rse_w c63 hb_x69 hr_x69 | exact rse_0 c63 ha15 hb15 (Nat.le_trans (hX.2.le10 212 (by decide)) (by decide)) c86 | exact rse_1 c63 ha15 hb15 (Nat.le_trans (hX.2.le10 212 (by decide)) (by decide)) c86), rfl, (rSm.in0 rSm.rfl')⟩)⟩)
          · skip
            refine y_blk 3 tq_X12_sees_ (z := (69, [(0, .ref (ad 200)), (1, .int guard), (2, .int cell), (3, .int minute)], [.int minute, .int cell, .ref (ad 200)])) rfl ?_
            refine y_callV hS tq_X12_sees_ rfl (As := [.int cell, .int minute]) rfl cv_X12_183 hX2.m (m_X12_isWatched_v hS hI hX2 cell minute (by first | (with_reducible assumption) | (with_reducible exact hX2.lac (by assumption)) | (with_reducible exact hX2.poc (by assumption)) | (with_reducible exact hX2.wac (by assumption) (by assumption) (by omega)) | assumption | exact hX2.lac (by assumption) | exact hX2.poc (by assumption) | exact hX2.wac (by assumption) (by assumption) (by omega))) rfl (by decide) (Nat.le_of_ble_eq_true rfl) (fun r69 Gc69 q69 => ?_) (fun E9 G9 h9 => h9.elim)
            obtain ⟨⟨x69, hb_x69, hr_x69, rfl⟩, eG69⟩ := q69
            have eG69 := eG69.symm
            subst eG69
            refine y_blk 1 tq_X12_sees_ (z := (94, [(0, .ref (ad 200)), (1, .int guard), (2, .int cell), (3, .int minute)], [.int x69])) rfl ?_
            exact y_zret tq_X12_sees_ rfl rfl (y01 hb_x69) (⟨⟨_, hb_x69, rfl⟩, ad, _, hX2, rfl, kt2, Or.inl (⟨⟨⟨(by first | exact Or.inl c7 | exact Or.inr (yif1 c15)), yif1 c23⟩, yif1 c44⟩, congrArg (fun z => some (Value.int z)) (by first | exact absurd c7 c63 | exact absurd c63 c7 | exact rse_w c63 hb_x69 hr_x69 | exact rse_0 c63 ha15 hb15 (Nat.le_trans (hX.2.le10 212 (by decide)) (by decide)) c86 | exact rse_1 c63 ha15 hb15 (Nat.le_trans (hX.2.le10 212 (by decide)) (by decide)) c86), rfl, (rSm.in0 rSm.rfl')⟩)⟩)
        · skip
          refine y_blk 2 tq_X12_sees_ (z := (49, [(0, .ref (ad 200)), (1, .int guard), (2, .int cell), (3, .int minute)], [.int 2, .ref (ad 200)])) rfl ?_
          refine y_callV hS tq_X12_sees_ rfl (As := [.int 2]) rfl cv_X12_140 hX2.m (m_X12_no hS hI hX2 2) rfl (by decide) (Nat.le_of_ble_eq_true rfl) (fun r49 Gc49 q49 => ?_) (fun E9 G9 h9 => h9.elim)
          obtain ⟨rfl, hX49, kt49_⟩ := q49
          have kt49 := (kt2).trans kt49_
          refine y_blk 0 tq_X12_sees_ (z := (52, [(0, .ref (ad 200)), (1, .int guard), (2, .int cell), (3, .int minute)], [.int 0])) rfl ?_
          refine y_if_le tq_X12_sees_ 59 rfl rfl (fun c52 => ?_) (fun c52 => ?_)
          · skip
            refine y_blk 1 tq_X12_sees_ (z := (60, [(0, .ref (ad 200)), (1, .int guard), (2, .int cell), (3, .int minute)], [.int 0])) rfl ?_
            exact y_zret tq_X12_sees_ rfl rfl (rfl) (⟨⟨_, (Or.inl rfl), rfl⟩, ad, _, hX49, rfl, kt49, Or.inr (Or.inr (⟨⟨⟨(by first | exact Or.inl c7 | exact Or.inr (yif1 c15)), yif1 c23⟩, rif c44⟩, rfl, (rSm.in0 (rSm.in0 rSm.rfl'))⟩))⟩)
          · skip
            refine y_blk 2 tq_X12_sees_ (z := (60, [(0, .ref (ad 200)), (1, .int guard), (2, .int cell), (3, .int minute)], [.int 1])) rfl ?_
            exact y_zret tq_X12_sees_ rfl rfl (rfl) (⟨⟨_, (Or.inr rfl), rfl⟩, ad, _, hX49, rfl, kt49, Or.inr (Or.inr (⟨⟨⟨(by first | exact Or.inl c7 | exact Or.inr (yif1 c15)), yif1 c23⟩, rif c44⟩, rfl, (rSm.in0 (rSm.in0 rSm.rfl'))⟩))⟩)
      · skip
        refine y_blk 2 tq_X12_sees_ (z := (28, [(0, .ref (ad 200)), (1, .int guard), (2, .int cell), (3, .int minute)], [.int 1, .ref (ad 200)])) rfl ?_
        refine y_callV hS tq_X12_sees_ rfl (As := [.int 1]) rfl cv_X12_140 hX2.m (m_X12_no hS hI hX2 1) rfl (by decide) (Nat.le_of_ble_eq_true rfl) (fun r28 Gc28 q28 => ?_) (fun E9 G9 h9 => h9.elim)
        obtain ⟨rfl, hX28, kt28_⟩ := q28
        have kt28 := (kt2).trans kt28_
        refine y_blk 0 tq_X12_sees_ (z := (31, [(0, .ref (ad 200)), (1, .int guard), (2, .int cell), (3, .int minute)], [.int 0])) rfl ?_
        refine y_if_le tq_X12_sees_ 38 rfl rfl (fun c31 => ?_) (fun c31 => ?_)
        · skip
          refine y_blk 1 tq_X12_sees_ (z := (39, [(0, .ref (ad 200)), (1, .int guard), (2, .int cell), (3, .int minute)], [.int 0])) rfl ?_
          exact y_zret tq_X12_sees_ rfl rfl (rfl) (⟨⟨_, (Or.inl rfl), rfl⟩, ad, _, hX28, rfl, kt28, Or.inr (Or.inl (⟨(by first | exact fun q => rif c23 q.2 | exact fun q => q.1.elim c7 (rif c15)), rfl, (rSm.in0 (rSm.in0 rSm.rfl'))⟩))⟩)
        · skip
          refine y_blk 2 tq_X12_sees_ (z := (39, [(0, .ref (ad 200)), (1, .int guard), (2, .int cell), (3, .int minute)], [.int 1])) rfl ?_
          exact y_zret tq_X12_sees_ rfl rfl (rfl) (⟨⟨_, (Or.inr rfl), rfl⟩, ad, _, hX28, rfl, kt28, Or.inr (Or.inl (⟨(by first | exact fun q => rif c23 q.2 | exact fun q => q.1.elim c7 (rif c15)), rfl, (rSm.in0 (rSm.in0 rSm.rfl'))⟩))⟩)
