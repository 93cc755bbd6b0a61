/-! ===== contracts of the reference: what changes nothing, third part ===== -/
/-- where a move leads -/
def rmv (ρ : RS) (c m : Int32) : Int32 := if m = 1 then (if c < rI ρ 1 then -1 else c - rI ρ 1) else if m = 2 then (if rI ρ 1 - 1 ≤ c - c / rI ρ 1 * rI ρ 1 then -1 else c + 1) else if m = 3 then (if Int32.ofNat (rZ ρ 201) - rI ρ 1 ≤ c then -1 else c + rI ρ 1) else if m = 4 then (if c - c / rI ρ 1 * rI ρ 1 ≤ 0 then -1 else c - 1) else c
/-- the p-th digit to the base 5, from the front -/
def dgt (m p : Nat) : Nat := m / 5 ^ (ndg m - 1 - p) % 5
/-- where the reference's way is behind p minutes -/
def rhw (ρ : RS) (cell : Int32) (m : Nat) : Nat → Int32
  | 0 => cell
  | p + 1 => if p < ndg m then rmv ρ (rhw ρ cell m p) (Int32.ofNat (dgt m p)) else rhw ρ cell m p
def rok (ρ : RS) (c : Int32) : Prop := ¬ c = -1 ∧ ¬ rV ρ 201 (Int32.toNatClampNeg c) = 1
def rdg (n many nth k left : Int32) : Prop := nth.toInt ≤ k.toInt ∧ k.toInt ≤ many.toInt - 1 ∧ left.toInt = ((n.toInt.toNat / 5 ^ (many.toInt - 1 - k.toInt).toNat : Nat) : Int)
theorem rdg.init {n many nth : Int32} (hn : 0 ≤ n.toInt) (h0 : 0 ≤ nth.toInt) (h1 : nth.toInt ≤ many.toInt - 1) : rdg n many nth (many - 1) n := by
  have e1 : (1 : Int32).toInt = 1 := by decide
  have hr := yrng many
  have e : (many - 1).toInt = many.toInt - 1 := by rw [ysub (by omega) (by omega), e1]
  have ej : (many.toInt - 1 - (many - 1).toInt).toNat = 0 := by omega
  refine ⟨by omega, by omega, ?_⟩
  rw [ej, Nat.pow_zero, Nat.div_one]
  omega
theorem rdg.step {n many nth k left : Int32} (h : rdg n many nth k left) (h0 : 0 ≤ nth.toInt) (c : ¬ k ≤ nth) : rdg n many nth (k + (-1)) (left / 5) := by
  have em1 : (-1 : Int32).toInt = -1 := by decide
  have e5 : (5 : Int32).toInt = 5 := by decide
  have hk := yrng k
  have hm := yrng many
  have hl := yrng left
  obtain ⟨a, b, d⟩ := h
  rw [yle] at c
  have ek : (k + (-1)).toInt = k.toInt - 1 := by
    rw [yadd (by omega) (by omega), em1]
    omega
  have ej : (many.toInt - 1 - (k + (-1)).toInt).toNat = (many.toInt - 1 - k.toInt).toNat + 1 := by omega
  refine ⟨by omega, by omega, ?_⟩
  rw [ej, Nat.pow_succ, ← Nat.div_div_eq_div_mul]
  generalize n.toInt.toNat / 5 ^ (many.toInt - 1 - k.toInt).toNat = z at d ⊢
  have el : (left / 5).toInt = left.toInt / 5 := by
    rw [Int32.toInt_div, e5, Int.tdiv_eq_ediv_of_nonneg (by omega)]
    exact ybmod (by omega) (by omega)
  rw [el]
  omega
theorem rdg.stop {n many nth k left : Int32} (h : rdg n many nth k left) (c : k ≤ nth) : (left - left / 5 * 5).toInt = ((n.toInt.toNat / 5 ^ (many.toInt - 1 - nth.toInt).toNat % 5 : Nat) : Int) := by
  have e5 : (5 : Int32).toInt = 5 := by decide
  have hl := yrng left
  obtain ⟨a, b, d⟩ := h
  rw [yle] at c
  have ek : k.toInt = nth.toInt := by omega
  rw [ek] at d
  generalize n.toInt.toNat / 5 ^ (many.toInt - 1 - nth.toInt).toNat = z at d ⊢
  have el : (left / 5).toInt = left.toInt / 5 := by
    rw [Int32.toInt_div, e5, Int.tdiv_eq_ediv_of_nonneg (by omega)]
    exact ybmod (by omega) (by omega)
  have em : (left / 5 * 5).toInt = left.toInt / 5 * 5 := by rw [ymul (by rw [el, e5]; omega) (by rw [el, e5]; omega), el, e5]
  rw [ysub (by rw [em]; omega) (by rw [em]; omega), em]
  omega
theorem rnm {mn x : Int32} {m : Nat} (h : mn = Int32.ofNat (ndg m)) (hb : x.toInt ≤ (mn - 1).toInt) : x.toInt ≤ mn.toInt - 1 := by
  have e1 : (1 : Int32).toInt = 1 := by decide
  have h14 : ndg m ≤ 14 := nd5_le 14 m
  have e : mn.toInt = (ndg m : Int) := by rw [h, yofNat (by omega)]
  rw [ysub (by omega) (by omega), e1] at hb
  exact hb
/-- where the reference's walk stands at the beginning of a minute -/
def rwk (ρ : RS) (cell minute moves : Int32) (fw : Nat → Int32) (at_ m : Int32) : Prop := minute.toInt ≤ m.toInt ∧ at_ = rhw ρ cell moves.toInt.toNat ((m.toInt - minute.toInt).toNat - 1) ∧ ∀ p : Nat, minute.toInt + (p : Int) < m.toInt → fw (minute.toInt.toNat + p) = rhw ρ cell moves.toInt.toNat p ∧ rok ρ (rhw ρ cell moves.toInt.toNat p)
theorem rwk.init {ρ : RS} {cell minute moves : Int32} {fw : Nat → Int32} : rwk ρ cell minute moves fw cell minute := by
  have e : (minute.toInt - minute.toInt).toNat - 1 = 0 := by omega
  refine ⟨Int.le_refl _, ?_, fun p hp => by omega⟩
  rw [e]
  rfl
theorem rwk.step {ρ s : RS} {cell minute moves a b m : Int32} {fw : Nat → Int32} (h : rwk ρ cell minute moves fw a m) (h0 : 0 ≤ minute.toInt) (h9 : m.toInt ≤ 239) (hb : b = rhw ρ cell moves.toInt.toNat (m.toInt - minute.toInt).toNat) (c1 : ¬ b = -1) (c2 : ¬ rV s 201 (Int32.toNatClampNeg b) = 1) (hs : s = rin ρ 0 0) : rwk ρ cell minute moves (upd fw (Int32.toNatClampNeg m) b) b (m + 1) := by
  have e1 : (1 : Int32).toInt = 1 := by decide
  subst hs
  obtain ⟨a1, -, a3⟩ := h
  have em : (m + 1).toInt = m.toInt + 1 := by rw [yadd (by omega) (by omega), e1]
  have ek : Int32.toNatClampNeg m = m.toInt.toNat := rfl
  refine ⟨by omega, ?_, fun p hp => ?_⟩
  · have e : ((m + 1).toInt - minute.toInt).toNat - 1 = (m.toInt - minute.toInt).toNat := by omega
    rw [e]
    exact hb
  · by_cases q : p = (m.toInt - minute.toInt).toNat
    · have e : minute.toInt.toNat + p = Int32.toNatClampNeg m := by omega
      rw [e, pk_us, q, ← hb]
      exact ⟨rfl, c1, c2⟩
    · rw [pk_un (by omega)]
      exact a3 p (by omega)
theorem rwk.all {ρ : RS} {cell minute moves a m : Int32} {fw : Nat → Int32} (h : rwk ρ cell minute moves fw a m) (c : (239 : Int32) < m) : ∀ p : Nat, minute.toInt + (p : Int) ≤ 239 → fw (minute.toInt.toNat + p) = rhw ρ cell moves.toInt.toNat p ∧ rok ρ (rhw ρ cell moves.toInt.toNat p) := by
  have e : (239 : Int32).toInt = 239 := by decide
  rw [ylt, e] at c
  exact fun p hp => h.2.2 p (by omega)
/-- the next place, where a move is made, and where none is left -/
theorem rhw_new {ρ s : RS} {cell minute moves a m mn x y : Int32} {fw : Nat → Int32} (h : rwk ρ cell minute moves fw a m) (hmn : mn = Int32.ofNat (ndg moves.toInt.toNat)) (h9 : m.toInt ≤ 239) (h0 : 0 ≤ minute.toInt) (ha : 0 ≤ ((m - minute) - 1).toInt) (hb : ((m - minute) - 1).toInt ≤ (mn - 1).toInt) (hx : x.toInt = ((moves.toInt.toNat / 5 ^ (mn.toInt - 1 - ((m - minute) - 1).toInt).toNat % 5 : Nat) : Int)) (hs : s = rin ρ 0 0) (hy : y = rmv s a x) : y = rhw ρ cell moves.toInt.toNat (m.toInt - minute.toInt).toNat := by
  have e1 : (1 : Int32).toInt = 1 := by decide
  subst hs
  have hb2 := rnm hmn hb
  have h14 : ndg moves.toInt.toNat ≤ 14 := nd5_le 14 _
  have em : mn.toInt = (ndg moves.toInt.toNat : Int) := by rw [hmn, yofNat (by omega)]
  obtain ⟨a1, a2, -⟩ := h
  have ed : (m - minute).toInt = m.toInt - minute.toInt := ysub (by omega) (by omega)
  have en : ((m - minute) - 1).toInt = m.toInt - minute.toInt - 1 := by rw [ysub (by omega) (by omega), ed, e1]
  rw [en] at ha hb2 hx
  have ep : (m.toInt - minute.toInt).toNat = ((m.toInt - minute.toInt).toNat - 1) + 1 := by omega
  rw [ep]
  generalize hp : (m.toInt - minute.toInt).toNat - 1 = p at a2
  show y = if p < ndg moves.toInt.toNat then rmv ρ (rhw ρ cell moves.toInt.toNat p) (Int32.ofNat (dgt moves.toInt.toNat p)) else rhw ρ cell moves.toInt.toNat p
  have ej : (mn.toInt - 1 - (m.toInt - minute.toInt - 1)).toNat = ndg moves.toInt.toNat - 1 - p := by omega
  rw [ej] at hx
  have h5 : dgt moves.toInt.toNat p < 5 := Nat.mod_lt _ (by decide)
  have ex : x = Int32.ofNat (dgt moves.toInt.toNat p) := Int32.toInt_inj.mp (by rw [yofNat (by omega)]; exact hx)
  rw [if_pos (by omega), hy, a2, ex]
  rfl
theorem rhw_old {ρ : RS} {cell minute moves a m mn : Int32} {fw : Nat → Int32} (h : rwk ρ cell minute moves fw a m) (hmn : mn = Int32.ofNat (ndg moves.toInt.toNat)) (h9 : m.toInt ≤ 239) (h0 : 0 ≤ minute.toInt) (c : (if 0 ≤ ((m - minute) - 1) ∧ ((m - minute) - 1) ≤ (mn - 1) then (1 : Int32) else 0) = 0) : a = rhw ρ cell moves.toInt.toNat (m.toInt - minute.toInt).toNat := by
  have e1 : (1 : Int32).toInt = 1 := by decide
  have e0 : (0 : Int32).toInt = 0 := by decide
  have c := (yif0' _).mp c
  have h14 : ndg moves.toInt.toNat ≤ 14 := nd5_le 14 _
  have em : mn.toInt = (ndg moves.toInt.toNat : Int) := by rw [hmn, yofNat (by omega)]
  have em1 : (mn - 1).toInt = (ndg moves.toInt.toNat : Int) - 1 := by rw [ysub (by omega) (by omega), em, e1]
  obtain ⟨a1, a2, -⟩ := h
  have ed : (m - minute).toInt = m.toInt - minute.toInt := ysub (by omega) (by omega)
  have en : ((m - minute) - 1).toInt = m.toInt - minute.toInt - 1 := by rw [ysub (by omega) (by omega), ed, e1]
  rw [yle, yle, e0, en, em1] at c
  by_cases q : m.toInt - minute.toInt = 0
  · have e : (m.toInt - minute.toInt).toNat - 1 = (m.toInt - minute.toInt).toNat := by omega
    rw [e] at a2
    exact a2
  · have ep : (m.toInt - minute.toInt).toNat = ((m.toInt - minute.toInt).toNat - 1) + 1 := by omega
    rw [ep]
    generalize hp : (m.toInt - minute.toInt).toNat - 1 = p at a2
    show a = if p < ndg moves.toInt.toNat then rmv ρ (rhw ρ cell moves.toInt.toNat p) (Int32.ofNat (dgt moves.toInt.toNat p)) else rhw ρ cell moves.toInt.toNat p
    rw [if_neg (by omega)]
    exact a2
theorem rhw_bad {ρ s : RS} {cell minute moves b m : Int32} (h0 : minute.toInt ≤ m.toInt) (h9 : m.toInt ≤ 239) (hb : b = rhw ρ cell moves.toInt.toNat (m.toInt - minute.toInt).toNat) (c : b = -1 ∨ rV s 201 (Int32.toNatClampNeg b) = 1) (hs : s = rin ρ 0 0) : ∃ p : Nat, minute.toInt + (p : Int) ≤ 239 ∧ ¬ rok ρ (rhw ρ cell moves.toInt.toNat p) := by
  subst hs
  refine ⟨(m.toInt - minute.toInt).toNat, by omega, fun q => ?_⟩
  rw [← hb] at q
  rcases c with c | c
  · exact q.1 c
  · exact q.2 c
set_option maxHeartbeats 4000000 in
set_option maxRecDepth 100000 in
theorem m_X12_judged {l : Launch} {S0 : State} {A0 : Array Value} {D : va_G} {aC : Nat → ClassId} {ic : Int32 → Nat} {de : Nat} {ad : Nat → Nat} {G : AH} {ρ : RS} (hS : yS l S0 A0 D aC) (hI : yIc S0 ic de) (hX : atR aC ic de ad G ρ) {k : Nat} (hk : k < rZ ρ 212) (hour : Int32) (word : Int32) (hh0 : 0 ≤ hour.toInt) (hh1 : hour.toInt < 4) : yM l S0 D yX12_judged cX12_judged 8 (some .int) 16 0 0 [.ref (ad 200), .ref (ad (360 + k)), .int hour, .int word] G (fun r G1 => (∃ v : Int32, r = some (.int v)) ∧ G1 = G) (fun _ _ => False) := by
  refine yM.ofK K_X12_judged rfl (by decide) (Nat.le_of_ble_eq_true rfl) ?_
  have J72 : ∀ (n72 : Nat) (v72_4 : Int32) (v72_6 : Int32) (h0_72 : 0 ≤ v72_4.toInt), (((Int32.ofNat (rZ ρ 214)) : Int32).toInt - v72_4.toInt).toNat = n72 → Y l S0 D K_X12_judged 16 0 0 (fun r G1 => (∃ v : Int32, r = some (.int v)) ∧ G1 = G) (fun _ _ => False) 72 [(0, .ref (ad 200)), (1, .ref (ad (360 + k))), (2, .int hour), (3, .int word), (4, .int v72_4), (5, .int (Int32.ofNat 4)), (6, .int v72_6)] [] G 0 0 := by
    intro n72
    induction n72 using Nat.strongRecOn with
    | _ n72 ih72 =>
    intro v72_4 v72_6 h0_72 hn72
    subst hn72
    refine y_blk 2 tq_X12_judged (z := (75, [(0, .ref (ad 200)), (1, .ref (ad (360 + k))), (2, .int hour), (3, .int word), (4, .int v72_4), (5, .int (Int32.ofNat 4)), (6, .int v72_6)], [.ref (ad 200), .int v72_4])) rfl ?_
    refine y_get hS tq_X12_judged (v := .ref (ad 214)) rfl fg_X12_36_X12 hX.m rfl ?_
    refine y_blk 0 tq_X12_judged (z := (78, [(0, .ref (ad 200)), (1, .ref (ad (360 + k))), (2, .int hour), (3, .int word), (4, .int v72_4), (5, .int (Int32.ofNat 4)), (6, .int v72_6)], [.ref (ad 214), .int v72_4])) rfl ?_
    refine y_callF hS tq_X12_judged rfl (As := []) rfl cf_X12_58 (Or.inl ⟨_, (hX.ls 214 (by decide)).1⟩) (m_Jsize hS (hX.ls 214 (by decide))) rfl (by decide) (Nat.le_of_ble_eq_true rfl) (fun r78 Gc78 q78 => ?_) (fun _ _ h9 => h9.elim)
    obtain ⟨rfl, eG78⟩ := q78
    have eG78 := eG78.symm
    subst eG78
    refine y_blk 0 tq_X12_judged (z := (83, [(0, .ref (ad 200)), (1, .ref (ad (360 + k))), (2, .int hour), (3, .int word), (4, .int v72_4), (5, .int (Int32.ofNat 4)), (6, .int v72_6)], [.int (Int32.ofNat (rZ ρ 214)), .int v72_4])) rfl ?_
    refine y_icmp_ge tq_X12_judged 115 rfl rfl (fun c83 => ?_) (fun c83 => ?_)
    · skip
      refine y_blk 1 tq_X12_judged (z := (116, [(0, .ref (ad 200)), (1, .ref (ad (360 + k))), (2, .int hour), (3, .int word), (4, .int v72_4), (5, .int (Int32.ofNat 4)), (6, .int v72_6)], [.int 3])) rfl ?_
      exact y_iret tq_X12_judged rfl rfl (⟨⟨_, rfl⟩, rfl⟩)
    · skip
      have hn83 := hX.2.le10 214 (by decide)
      have b83 : v72_4.toInt < rZ ρ 214 := yIy (by omega) h0_72 c83
      have d83 : Int32.toNatClampNeg v72_4 < rZ ρ 214 := yIx h0_72 b83
      refine y_blk 1 tq_X12_judged (z := (87, [(0, .ref (ad 200)), (1, .ref (ad (360 + k))), (2, .int hour), (3, .int word), (4, .int v72_4), (5, .int (Int32.ofNat 4)), (6, .int v72_6)], [.ref (ad 200)])) rfl ?_
      refine y_get hS tq_X12_judged (v := .ref (ad 214)) rfl fg_X12_36_X12 hX.m rfl ?_
      refine y_blk 1 tq_X12_judged (z := (92, [(0, .ref (ad 200)), (1, .ref (ad (360 + k))), (2, .int hour), (3, .int word), (4, .int v72_4), (5, .int (Int32.ofNat 4)), (6, .int v72_6)], [.int v72_4, .ref (ad 214)])) rfl ?_
      refine y_callF hS tq_X12_judged rfl (As := [.int v72_4]) rfl cf_X12_80 (Or.inl ⟨_, (hX.ls 214 (by decide)).1⟩) (m_Rol hS hX (by assumption) (by assumption)) rfl (by decide) (Nat.le_of_ble_eq_true rfl) (fun r92 Gc92 q92 => ?_) (fun _ _ h9 => h9.elim)
      obtain ⟨rfl, eG92⟩ := q92
      have eG92 := eG92.symm
      subst eG92
      have d92 : (Int32.toNatClampNeg v72_4) < rZ ρ 214 := yIx (by assumption) (by assumption)
      refine y_blk 0 tq_X12_judged (z := (97, [(0, .ref (ad 200)), (1, .ref (ad (360 + k))), (2, .int hour), (3, .int word), (4, .int v72_4), (5, .int (Int32.ofNat 4)), (6, .int v72_6)], [.ref (ic (rV ρ 214 (Int32.toNatClampNeg v72_4)))])) rfl ?_
      refine y_castI hS tq_X12_judged rfl kc_X12_108 (hX.ol hI (by assumption)) ?_
      refine y_blk 0 tq_X12_judged (z := (100, [(0, .ref (ad 200)), (1, .ref (ad (360 + k))), (2, .int hour), (3, .int word), (4, .int v72_4), (5, .int (Int32.ofNat 4)), (6, .int v72_6)], [.ref (ic (rV ρ 214 (Int32.toNatClampNeg v72_4)))])) rfl ?_
      refine y_callVO hS tq_X12_judged rfl (As := []) rfl cv_X12_146 (yIntO (hX.ol hI (by assumption))) (m_JintValue hS (hX.ol hI (by assumption))) rfl (by decide) (Nat.le_of_ble_eq_true rfl) (fun r100 Gc100 q100 => ?_) (fun _ _ h9 => h9.elim)
      obtain ⟨rfl, eG100⟩ := q100
      have eG100 := eG100.symm
      subst eG100
      refine y_blk 1 tq_X12_judged (z := (104, [(0, .ref (ad 200)), (1, .ref (ad (360 + k))), (2, .int hour), (3, .int word), (4, .int v72_4), (5, .int (Int32.ofNat 4)), (6, .int v72_6)], [.int word, .int (rV ρ 214 (Int32.toNatClampNeg v72_4))])) rfl ?_
      refine y_icmp_ne tq_X12_judged 109 rfl rfl (fun c104 => ?_) (fun c104 => ?_)
      · skip
        refine y_blk 2 tq_X12_judged (z := (72, [(4, .int (v72_4 + 1)), (0, .ref (ad 200)), (1, .ref (ad (360 + k))), (2, .int hour), (3, .int word), (5, .int (Int32.ofNat 4)), (6, .int v72_6)], [])) rfl ?_
        refine y_pick (L2 := [(0, .ref (ad 200)), (1, .ref (ad (360 + k))), (2, .int hour), (3, .int word), (4, .int (v72_4 + 1)), (5, .int (Int32.ofNat 4)), (6, .int v72_6)]) [1, 2, 3, 4, 0, 5, 6] rfl ?_
        exact ih72 _ (by exact ydec c83) (v72_4 + 1) v72_6 (by first | decide | assumption | exact Int.le_refl _ | exact yposgeL (by assumption) c83) rfl
      · skip
        refine y_blk 1 tq_X12_judged (z := (108, [(0, .ref (ad 200)), (1, .ref (ad (360 + k))), (2, .int hour), (3, .int word), (4, .int v72_4), (5, .int (Int32.ofNat 4)), (6, .int v72_6)], [.int 2])) rfl ?_
        exact y_iret tq_X12_judged rfl rfl (⟨⟨_, rfl⟩, rfl⟩)
  have J41 : ∀ (n41 : Nat) (v41_6 : Int32) (h0_41 : 0 ≤ v41_6.toInt), (((Int32.ofNat 4) : Int32).toInt - v41_6.toInt).toNat = n41 → Y l S0 D K_X12_judged 16 0 0 (fun r G1 => (∃ v : Int32, r = some (.int v)) ∧ G1 = G) (fun _ _ => False) 41 [(0, .ref (ad 200)), (1, .ref (ad (360 + k))), (2, .int hour), (3, .int word), (4, .ref (ad 202)), (5, .int (Int32.ofNat 4)), (6, .int v41_6)] [] G 0 0 := by
    intro n41
    induction n41 using Nat.strongRecOn with
    | _ n41 ih41 =>
    intro v41_6 h0_41 hn41
    subst hn41
    refine y_blk 2 tq_X12_judged (z := (45, [(0, .ref (ad 200)), (1, .ref (ad (360 + k))), (2, .int hour), (3, .int word), (4, .ref (ad 202)), (5, .int (Int32.ofNat 4)), (6, .int v41_6)], [.int (Int32.ofNat 4), .int v41_6])) rfl ?_
    refine y_icmp_ge tq_X12_judged 69 rfl rfl (fun c45 => ?_) (fun c45 => ?_)
    · skip
      refine y_blk 2 tq_X12_judged (z := (72, [(4, .int 0), (0, .ref (ad 200)), (1, .ref (ad (360 + k))), (2, .int hour), (3, .int word), (5, .int (Int32.ofNat 4)), (6, .int v41_6)], [])) rfl ?_
      refine y_pick (L2 := [(0, .ref (ad 200)), (1, .ref (ad (360 + k))), (2, .int hour), (3, .int word), (4, .int 0), (5, .int (Int32.ofNat 4)), (6, .int v41_6)]) [1, 2, 3, 4, 0, 5, 6] rfl ?_
      exact J72 _ 0 v41_6 (by first | decide | assumption | exact Int.le_refl _ | exact yposgeL (by assumption) c83) rfl
    · skip
      have b45 : v41_6.toInt < ((4 : Nat) : Int) := yIy (by decide) h0_41 c45
      refine y_blk 2 tq_X12_judged (z := (52, [(0, .ref (ad 200)), (1, .ref (ad (360 + k))), (2, .int hour), (3, .int word), (4, .ref (ad 202)), (5, .int (Int32.ofNat 4)), (6, .int v41_6)], [.int v41_6, .ref (ad 202)])) rfl ?_
      refine y_iald hS tq_X12_judged rfl hX.wo (by first | exact yIn (by decide) (by decide) | exact yIn (by assumption) (by assumption) | (exact yIn (by omega) (by omega))) ?_
      refine y_blk 3 tq_X12_judged (z := (58, [(7, .int ((rV ρ 202) (Int32.toNatClampNeg v41_6))), (0, .ref (ad 200)), (1, .ref (ad (360 + k))), (2, .int hour), (3, .int word), (4, .ref (ad 202)), (5, .int (Int32.ofNat 4)), (6, .int v41_6)], [.int word, .int ((rV ρ 202) (Int32.toNatClampNeg v41_6))])) rfl ?_
      refine y_icmp_ne tq_X12_judged 63 rfl rfl (fun c58 => ?_) (fun c58 => ?_)
      · skip
        refine y_blk 2 tq_X12_judged (z := (41, [(6, .int (v41_6 + 1)), (7, .int ((rV ρ 202) (Int32.toNatClampNeg v41_6))), (0, .ref (ad 200)), (1, .ref (ad (360 + k))), (2, .int hour), (3, .int word), (4, .ref (ad 202)), (5, .int (Int32.ofNat 4))], [])) rfl ?_
        refine y_pick (L2 := [(0, .ref (ad 200)), (1, .ref (ad (360 + k))), (2, .int hour), (3, .int word), (4, .ref (ad 202)), (5, .int (Int32.ofNat 4)), (6, .int (v41_6 + 1))]) [2, 3, 4, 5, 6, 7, 0] rfl ?_
        exact ih41 _ (by exact ydec c45) (v41_6 + 1) (by first | decide | assumption | exact Int.le_refl _ | exact yposgeL (by assumption) c45) rfl
      · skip
        refine y_blk 1 tq_X12_judged (z := (62, [(7, .int ((rV ρ 202) (Int32.toNatClampNeg v41_6))), (0, .ref (ad 200)), (1, .ref (ad (360 + k))), (2, .int hour), (3, .int word), (4, .ref (ad 202)), (5, .int (Int32.ofNat 4)), (6, .int v41_6)], [.int 2])) rfl ?_
        exact y_iret tq_X12_judged rfl rfl (⟨⟨_, rfl⟩, rfl⟩)
  have J26 : ∀ (w26_0 : Int32) (hb_w26_0 : w26_0 = 0 ∨ w26_0 = 1), Y l S0 D K_X12_judged 16 0 0 (fun r G1 => (∃ v : Int32, r = some (.int v)) ∧ G1 = G) (fun _ _ => False) 26 [(0, .ref (ad 200)), (1, .ref (ad (360 + k))), (2, .int hour), (3, .int word)] [.int w26_0] G 0 0 := by
    intro w26_0 hb_w26_0
    exact y_iret tq_X12_judged rfl rfl (⟨⟨_, rfl⟩, rfl⟩)
  refine y_blk 2 tq_X12_judged (z := (2, [(0, .ref (ad 200)), (1, .ref (ad (360 + k))), (2, .int hour), (3, .int word)], [.ref (ad 200), .int word])) rfl ?_
  refine y_get hS tq_X12_judged (v := .ref (ad 202)) rfl fg_X12_33_X12 hX.m rfl ?_
  refine y_blk 1 tq_X12_judged (z := (6, [(0, .ref (ad 200)), (1, .ref (ad (360 + k))), (2, .int hour), (3, .int word)], [.int hour, .ref (ad 202), .int word])) rfl ?_
  refine y_iald hS tq_X12_judged rfl hX.wo (by first | exact yIn (by decide) (by decide) | exact yIn (by assumption) (by assumption) | (exact yIn (by omega) (by omega))) ?_
  refine y_blk 0 tq_X12_judged (z := (7, [(0, .ref (ad 200)), (1, .ref (ad (360 + k))), (2, .int hour), (3, .int word)], [.int ((rV ρ 202) (Int32.toNatClampNeg hour)), .int word])) rfl ?_
  refine y_icmp_ne tq_X12_judged 27 rfl rfl (fun c7 => ?_) (fun c7 => ?_)
  · skip
    refine y_blk 1 tq_X12_judged (z := (28, [(0, .ref (ad 200)), (1, .ref (ad (360 + k))), (2, .int hour), (3, .int word)], [.ref (ad 200)])) rfl ?_
    refine y_get hS tq_X12_judged (v := .ref (ad 202)) rfl fg_X12_33_X12 hX.m rfl ?_
    refine y_blk 2 tq_X12_judged (z := (35, [(4, .ref (ad 202)), (0, .ref (ad 200)), (1, .ref (ad (360 + k))), (2, .int hour), (3, .int word)], [.ref (ad 202)])) rfl ?_
    refine y_alen hS tq_X12_judged 0 rfl rfl hX.wo ?_
    refine y_blk 3 tq_X12_judged (z := (41, [(6, .int 0), (5, .int (Int32.ofNat 4)), (4, .ref (ad 202)), (0, .ref (ad 200)), (1, .ref (ad (360 + k))), (2, .int hour), (3, .int word)], [])) rfl ?_
    refine y_pick (L2 := [(0, .ref (ad 200)), (1, .ref (ad (360 + k))), (2, .int hour), (3, .int word), (4, .ref (ad 202)), (5, .int (Int32.ofNat 4)), (6, .int 0)]) [3, 4, 5, 6, 2, 1, 0] rfl ?_
    exact J41 _ 0 (by first | decide | assumption | exact Int.le_refl _ | exact yposgeL (by assumption) c45) rfl
  · skip
    refine y_blk 1 tq_X12_judged (z := (11, [(0, .ref (ad 200)), (1, .ref (ad (360 + k))), (2, .int hour), (3, .int word)], [.ref (ad (360 + k))])) rfl ?_
    refine y_get hS tq_X12_judged (v := .int (rF ρ (360 + k) 4)) rfl fg_X12_89_X10 (hX.gu (by assumption)) rfl ?_
    refine y_blk 4 tq_X12_judged (z := (18, [(0, .ref (ad 200)), (1, .ref (ad (360 + k))), (2, .int hour), (3, .int word)], [.int (((rF ρ (360 + k) 4) >>> (hour &&& 31)) &&& 1)])) rfl ?_
    refine y_if_ne tq_X12_judged 25 rfl rfl (fun c18 => ?_) (fun c18 => ?_)
    · skip
      refine y_blk 1 tq_X12_judged (z := (26, [(0, .ref (ad 200)), (1, .ref (ad (360 + k))), (2, .int hour), (3, .int word)], [.int 1])) rfl ?_
      exact J26 1 (Or.inr rfl)
    · skip
      refine y_blk 2 tq_X12_judged (z := (26, [(0, .ref (ad 200)), (1, .ref (ad (360 + k))), (2, .int hour), (3, .int word)], [.int 0])) rfl ?_
      exact J26 0 (Or.inl rfl)
set_option maxHeartbeats 4000000 in
set_option maxRecDepth 100000 in
theorem m_X12_digits {l : Launch} {S0 : State} {A0 : Array Value} {D : va_G} {aC : Nat → ClassId} {G : AH} (hS : yS l S0 A0 D aC) (number : Int32) : yM l S0 D yX12_digits cX12_digits 3 (some .int) 16 0 0 [.int number] G (fun r G1 => r = some (.int (Int32.ofNat (ndg number.toInt.toNat))) ∧ G1 = G) (fun _ _ => False) := by
  refine yM.ofK K_X12_digits rfl (by decide) (Nat.le_of_ble_eq_true rfl) ?_
  have J4 : ∀ (n4 : Nat) (v4_1 : Int32) (v4_2 : Int32) (hd4 : xdc number v4_1 v4_2), v4_2.toInt.toNat = n4 → Y l S0 D K_X12_digits 16 0 0 (fun r G1 => r = some (.int (Int32.ofNat (ndg number.toInt.toNat))) ∧ G1 = G) (fun _ _ => False) 4 [(0, .int number), (1, .int v4_1), (2, .int v4_2)] [] G 0 0 := by
    intro n4
    induction n4 using Nat.strongRecOn with
    | _ n4 ih4 =>
    intro v4_1 v4_2 hd4 hn4
    subst hn4
    refine y_blk 1 tq_X12_digits (z := (5, [(0, .int number), (1, .int v4_1), (2, .int v4_2)], [.int v4_2])) rfl ?_
    refine y_if_le tq_X12_digits 18 rfl rfl (fun c5 => ?_) (fun c5 => ?_)
    · skip
      refine y_blk 1 tq_X12_digits (z := (19, [(0, .int number), (1, .int v4_1), (2, .int v4_2)], [.int v4_1])) rfl ?_
      exact y_iret tq_X12_digits rfl rfl (⟨congrArg (fun z => some (Value.int z)) (hd4.stop (xpn c5)), rfl⟩)
    · skip
      refine y_blk 3 tq_X12_digits (z := (13, [(1, .int (v4_1 + 1)), (0, .int number), (2, .int v4_2)], [.int 5, .int v4_2])) rfl ?_
      refine y_idiv tq_X12_digits rfl (by decide) ?_
      refine y_blk 2 tq_X12_digits (z := (4, [(2, .int (v4_2 / 5)), (1, .int (v4_1 + 1)), (0, .int number)], [])) rfl ?_
      refine y_pick (L2 := [(0, .int number), (1, .int (v4_1 + 1)), (2, .int (v4_2 / 5))]) [2, 1, 0] rfl ?_
      exact ih4 _ (by exact ydiv5 c5) (v4_1 + 1) (v4_2 / 5) (by first | exact hd4.step (xps c5) | exact xdc.init) rfl
  refine y_blk 4 tq_X12_digits (z := (4, [(2, .int number), (1, .int 0), (0, .int number)], [])) rfl ?_
  refine y_pick (L2 := [(0, .int number), (1, .int 0), (2, .int number)]) [2, 1, 0] rfl ?_
  exact J4 _ 0 number (by first | exact hd4.step (xps c5) | exact xdc.init) rfl
set_option maxHeartbeats 4000000 in
set_option maxRecDepth 100000 in
theorem m_X12_digit {l : Launch} {S0 : State} {A0 : Array Value} {D : va_G} {aC : Nat → ClassId} {G : AH} (hS : yS l S0 A0 D aC) (number : Int32) (nth : Int32) (many : Int32) (hn0 : 0 ≤ number.toInt) (hnt : 0 ≤ nth.toInt) (hnm : nth.toInt ≤ many.toInt - 1) : yM l S0 D yX12_digit cX12_digit 5 (some .int) 16 0 0 [.int number, .int nth, .int many] G (fun r G1 => (∃ v : Int32, v.toInt = ((number.toInt.toNat / 5 ^ (many.toInt - 1 - nth.toInt).toNat % 5 : Nat) : Int) ∧ r = some (.int v)) ∧ G1 = G) (fun _ _ => False) := by
  refine yM.ofK K_X12_digit rfl (by decide) (Nat.le_of_ble_eq_true rfl) ?_
  have J7 : ∀ (n7 : Nat) (v7_3 : Int32) (v7_4 : Int32) (hg7 : rdg number many nth v7_4 v7_3), (v7_4.toInt - nth.toInt).toNat = n7 → Y l S0 D K_X12_digit 16 0 0 (fun r G1 => (∃ v : Int32, v.toInt = ((number.toInt.toNat / 5 ^ (many.toInt - 1 - nth.toInt).toNat % 5 : Nat) : Int) ∧ r = some (.int v)) ∧ G1 = G) (fun _ _ => False) 7 [(0, .int number), (1, .int nth), (2, .int many), (3, .int v7_3), (4, .int v7_4)] [] G 0 0 := by
    intro n7
    induction n7 using Nat.strongRecOn with
    | _ n7 ih7 =>
    intro v7_3 v7_4 hg7 hn7
    subst hn7
    refine y_blk 2 tq_X12_digit (z := (10, [(0, .int number), (1, .int nth), (2, .int many), (3, .int v7_3), (4, .int v7_4)], [.int nth, .int v7_4])) rfl ?_
    refine y_icmp_le tq_X12_digit 23 rfl rfl (fun c10 => ?_) (fun c10 => ?_)
    · skip
      refine y_blk 2 tq_X12_digit (z := (25, [(0, .int number), (1, .int nth), (2, .int many), (3, .int v7_3), (4, .int v7_4)], [.int 5, .int v7_3])) rfl ?_
      refine y_irem tq_X12_digit rfl (by decide) ?_
      refine y_blk 0 tq_X12_digit (z := (26, [(0, .int number), (1, .int nth), (2, .int many), (3, .int v7_3), (4, .int v7_4)], [.int (v7_3 - v7_3 / 5 * 5)])) rfl ?_
      exact y_iret tq_X12_digit rfl rfl (⟨⟨_, hg7.stop c10, rfl⟩, rfl⟩)
    · skip
      refine y_blk 2 tq_X12_digit (z := (15, [(0, .int number), (1, .int nth), (2, .int many), (3, .int v7_3), (4, .int v7_4)], [.int 5, .int v7_3])) rfl ?_
      refine y_idiv tq_X12_digit rfl (by decide) ?_
      refine y_blk 3 tq_X12_digit (z := (7, [(4, .int (v7_4 + (-1))), (3, .int (v7_3 / 5)), (0, .int number), (1, .int nth), (2, .int many)], [])) rfl ?_
      refine y_pick (L2 := [(0, .int number), (1, .int nth), (2, .int many), (3, .int (v7_3 / 5)), (4, .int (v7_4 + (-1)))]) [2, 3, 4, 1, 0] rfl ?_
      exact ih7 _ (by exact ydecm c10) (v7_3 / 5) (v7_4 + (-1)) (by first | exact hg7.step hnt c10 | exact rdg.init hn0 hnt hnm) rfl
  refine y_blk 6 tq_X12_digit (z := (7, [(4, .int (many - 1)), (3, .int number), (0, .int number), (1, .int nth), (2, .int many)], [])) rfl ?_
  refine y_pick (L2 := [(0, .int number), (1, .int nth), (2, .int many), (3, .int number), (4, .int (many - 1))]) [2, 3, 4, 1, 0] rfl ?_
  exact J7 _ number (many - 1) (by first | exact hg7.step hnt c10 | exact rdg.init hn0 hnt hnm) rfl
set_option maxHeartbeats 4000000 in
set_option maxRecDepth 100000 in
theorem m_X12_moved {l : Launch} {S0 : State} {A0 : Array Value} {D : va_G} {aC : Nat → ClassId} {ic : Int32 → Nat} {de : Nat} {ad : Nat → Nat} {G : AH} {ρ : RS} (hS : yS l S0 A0 D aC) (hI : yIc S0 ic de) (hX : atR aC ic de ad G ρ) (cell : Int32) (move : Int32) (hcell : rcell ρ cell) : yM l S0 D yX12_moved cX12_moved 3 (some .int) 16 0 0 [.ref (ad 200), .int cell, .int move] G (fun r G1 => (∃ v : Int32, ((v = -1 ∨ rcell ρ v) ∧ v = rmv ρ cell move) ∧ r = some (.int v)) ∧ G1 = G) (fun _ _ => False) := by
  refine yM.ofK K_X12_moved rfl (by decide) (Nat.le_of_ble_eq_true rfl) ?_
  refine y_blk 2 tq_X12_moved (z := (2, [(0, .ref (ad 200)), (1, .int cell), (2, .int move)], [.int 1, .int move])) rfl ?_
  refine y_icmp_ne tq_X12_moved 24 rfl rfl (fun c2 => ?_) (fun c2 => ?_)
  · skip
    refine y_blk 2 tq_X12_moved (z := (26, [(0, .ref (ad 200)), (1, .int cell), (2, .int move)], [.int 2, .int move])) rfl ?_
    refine y_icmp_ne tq_X12_moved 52 rfl rfl (fun c26 => ?_) (fun c26 => ?_)
    · skip
      refine y_blk 2 tq_X12_moved (z := (54, [(0, .ref (ad 200)), (1, .int cell), (2, .int move)], [.int 3, .int move])) rfl ?_
      refine y_icmp_ne tq_X12_moved 82 rfl rfl (fun c54 => ?_) (fun c54 => ?_)
      · skip
        refine y_blk 2 tq_X12_moved (z := (84, [(0, .ref (ad 200)), (1, .int cell), (2, .int move)], [.int 4, .int move])) rfl ?_
        refine y_icmp_ne tq_X12_moved 104 rfl rfl (fun c84 => ?_) (fun c84 => ?_)
        · skip
          refine y_blk 1 tq_X12_moved (z := (105, [(0, .ref (ad 200)), (1, .int cell), (2, .int move)], [.int cell])) rfl ?_
          exact y_iret tq_X12_moved rfl rfl (⟨⟨_, ⟨Or.inr hcell, (by unfold rmv; (repeat' split) <;> first | rfl | contradiction)⟩, rfl⟩, rfl⟩)
        · skip
          refine y_blk 2 tq_X12_moved (z := (89, [(0, .ref (ad 200)), (1, .int cell), (2, .int move)], [.ref (ad 200), .int cell])) rfl ?_
          refine y_get hS tq_X12_moved (v := .int (rI ρ 1)) rfl fg_X12_92_X12 hX.m rfl ?_
          refine y_blk 0 tq_X12_moved (z := (92, [(0, .ref (ad 200)), (1, .int cell), (2, .int move)], [.int (rI ρ 1), .int cell])) rfl ?_
          refine y_irem tq_X12_moved rfl (by first | exact rcell.w hX hone | exact rcell.w hX hcell | decide) ?_
          refine y_blk 0 tq_X12_moved (z := (93, [(0, .ref (ad 200)), (1, .int cell), (2, .int move)], [.int (cell - cell / (rI ρ 1) * (rI ρ 1))])) rfl ?_
          refine y_if_le tq_X12_moved 102 rfl rfl (fun c93 => ?_) (fun c93 => ?_)
          · skip
            refine y_blk 1 tq_X12_moved (z := (103, [(0, .ref (ad 200)), (1, .int cell), (2, .int move)], [.int (-1)])) rfl ?_
            exact y_iret tq_X12_moved rfl rfl (⟨⟨_, ⟨Or.inl rfl, (by unfold rmv; (repeat' split) <;> first | rfl | contradiction)⟩, rfl⟩, rfl⟩)
          · skip
            refine y_blk 4 tq_X12_moved (z := (103, [(0, .ref (ad 200)), (1, .int cell), (2, .int move)], [.int (cell - 1)])) rfl ?_
            exact y_iret tq_X12_moved rfl rfl (⟨⟨_, ⟨Or.inr (ymv4 hX hcell c93), (by unfold rmv; (repeat' split) <;> first | rfl | contradiction)⟩, rfl⟩, rfl⟩)
      · skip
        refine y_blk 2 tq_X12_moved (z := (59, [(0, .ref (ad 200)), (1, .int cell), (2, .int move)], [.ref (ad 200), .int cell])) rfl ?_
        refine y_get hS tq_X12_moved (v := .ref (ad 201)) rfl fg_X12_7_X12 hX.m rfl ?_
        refine y_blk 0 tq_X12_moved (z := (62, [(0, .ref (ad 200)), (1, .int cell), (2, .int move)], [.ref (ad 201), .int cell])) rfl ?_
        refine y_alen hS tq_X12_moved 0 rfl rfl hX.ki ?_
        refine y_blk 1 tq_X12_moved (z := (64, [(0, .ref (ad 200)), (1, .int cell), (2, .int move)], [.ref (ad 200), .int (Int32.ofNat (rZ ρ 201)), .int cell])) rfl ?_
        refine y_get hS tq_X12_moved (v := .int (rI ρ 1)) rfl fg_X12_92_X12 hX.m rfl ?_
        refine y_blk 1 tq_X12_moved (z := (68, [(0, .ref (ad 200)), (1, .int cell), (2, .int move)], [.int ((Int32.ofNat (rZ ρ 201)) - (rI ρ 1)), .int cell])) rfl ?_
        refine y_icmp_ge tq_X12_moved 80 rfl rfl (fun c68 => ?_) (fun c68 => ?_)
        · skip
          refine y_blk 1 tq_X12_moved (z := (81, [(0, .ref (ad 200)), (1, .int cell), (2, .int move)], [.int (-1)])) rfl ?_
          exact y_iret tq_X12_moved rfl rfl (⟨⟨_, ⟨Or.inl rfl, (by unfold rmv; (repeat' split) <;> first | rfl | contradiction)⟩, rfl⟩, rfl⟩)
        · skip
          refine y_blk 2 tq_X12_moved (z := (73, [(0, .ref (ad 200)), (1, .int cell), (2, .int move)], [.ref (ad 200), .int cell])) rfl ?_
          refine y_get hS tq_X12_moved (v := .int (rI ρ 1)) rfl fg_X12_92_X12 hX.m rfl ?_
          refine y_blk 2 tq_X12_moved (z := (81, [(0, .ref (ad 200)), (1, .int cell), (2, .int move)], [.int (cell + (rI ρ 1))])) rfl ?_
          exact y_iret tq_X12_moved rfl rfl (⟨⟨_, ⟨Or.inr (ymv3 hX hcell c68), (by unfold rmv; (repeat' split) <;> first | rfl | contradiction)⟩, rfl⟩, rfl⟩)
    · skip
      refine y_blk 2 tq_X12_moved (z := (31, [(0, .ref (ad 200)), (1, .int cell), (2, .int move)], [.ref (ad 200), .int cell])) rfl ?_
      refine y_get hS tq_X12_moved (v := .int (rI ρ 1)) rfl fg_X12_92_X12 hX.m rfl ?_
      refine y_blk 0 tq_X12_moved (z := (34, [(0, .ref (ad 200)), (1, .int cell), (2, .int move)], [.int (rI ρ 1), .int cell])) rfl ?_
      refine y_irem tq_X12_moved rfl (by first | exact rcell.w hX hone | exact rcell.w hX hcell | decide) ?_
      refine y_blk 1 tq_X12_moved (z := (36, [(0, .ref (ad 200)), (1, .int cell), (2, .int move)], [.ref (ad 200), .int (cell - cell / (rI ρ 1) * (rI ρ 1))])) rfl ?_
      refine y_get hS tq_X12_moved (v := .int (rI ρ 1)) rfl fg_X12_92_X12 hX.m rfl ?_
      refine y_blk 2 tq_X12_moved (z := (41, [(0, .ref (ad 200)), (1, .int cell), (2, .int move)], [.int ((rI ρ 1) - 1), .int (cell - cell / (rI ρ 1) * (rI ρ 1))])) rfl ?_
      refine y_icmp_ge tq_X12_moved 50 rfl rfl (fun c41 => ?_) (fun c41 => ?_)
      · skip
        refine y_blk 1 tq_X12_moved (z := (51, [(0, .ref (ad 200)), (1, .int cell), (2, .int move)], [.int (-1)])) rfl ?_
        exact y_iret tq_X12_moved rfl rfl (⟨⟨_, ⟨Or.inl rfl, (by unfold rmv; (repeat' split) <;> first | rfl | contradiction)⟩, rfl⟩, rfl⟩)
      · skip
        refine y_blk 4 tq_X12_moved (z := (51, [(0, .ref (ad 200)), (1, .int cell), (2, .int move)], [.int (cell + 1)])) rfl ?_
        exact y_iret tq_X12_moved rfl rfl (⟨⟨_, ⟨Or.inr (ymv2 hX hcell c41), (by unfold rmv; (repeat' split) <;> first | rfl | contradiction)⟩, rfl⟩, rfl⟩)
  · skip
    refine y_blk 2 tq_X12_moved (z := (7, [(0, .ref (ad 200)), (1, .int cell), (2, .int move)], [.ref (ad 200), .int cell])) rfl ?_
    refine y_get hS tq_X12_moved (v := .int (rI ρ 1)) rfl fg_X12_92_X12 hX.m rfl ?_
    refine y_blk 0 tq_X12_moved (z := (10, [(0, .ref (ad 200)), (1, .int cell), (2, .int move)], [.int (rI ρ 1), .int cell])) rfl ?_
    refine y_icmp_lt tq_X12_moved 22 rfl rfl (fun c10 => ?_) (fun c10 => ?_)
    · skip
      refine y_blk 1 tq_X12_moved (z := (23, [(0, .ref (ad 200)), (1, .int cell), (2, .int move)], [.int (-1)])) rfl ?_
      exact y_iret tq_X12_moved rfl rfl (⟨⟨_, ⟨Or.inl rfl, (by unfold rmv; (repeat' split) <;> first | rfl | contradiction)⟩, rfl⟩, rfl⟩)
    · skip
      refine y_blk 2 tq_X12_moved (z := (15, [(0, .ref (ad 200)), (1, .int cell), (2, .int move)], [.ref (ad 200), .int cell])) rfl ?_
      refine y_get hS tq_X12_moved (v := .int (rI ρ 1)) rfl fg_X12_92_X12 hX.m rfl ?_
      refine y_blk 2 tq_X12_moved (z := (23, [(0, .ref (ad 200)), (1, .int cell), (2, .int move)], [.int (cell - (rI ρ 1))])) rfl ?_
      exact y_iret tq_X12_moved rfl rfl (⟨⟨_, ⟨Or.inr (ymv1 hX hcell c10), (by unfold rmv; (repeat' split) <;> first | rfl | contradiction)⟩, rfl⟩, rfl⟩)
set_option maxHeartbeats 4000000 in
set_option maxRecDepth 100000 in
theorem m_X12_foundNow {l : Launch} {S0 : State} {A0 : Array Value} {D : va_G} {aC : Nat → ClassId} {ic : Int32 → Nat} {de : Nat} {ad : Nat → Nat} {G : AH} {ρ : RS} (hS : yS l S0 A0 D aC) (hI : yIc S0 ic de) (hX : atR aC ic de ad G ρ) {k : Nat} (hk : k < rZ ρ 215) : yM l S0 D yX12_foundNow cX12_foundNow 3 (some .int) 21 0 0 [.ref (ad 200), .ref (ad (420 + k))] G (fun r G1 => (∃ v : Int32, (v = -1 ∨ ((rF ρ (420 + k) 0).toInt ≤ v.toInt ∧ v.toInt ≤ 239)) ∧ r = some (.int v)) ∧ G1 = G) (fun _ _ => False) := by
  refine yM.ofK K_X12_foundNow rfl (by decide) (Nat.le_of_ble_eq_true rfl) ?_
  have hf0 := (hX.2.2.2.2.1 k hk).1
  have J5 : ∀ (n5 : Nat) (v5_2 : Int32) (h0_5 : 0 ≤ v5_2.toInt) (hf_5 : (rF ρ (420 + k) 0).toInt ≤ v5_2.toInt), ((239 : Int32).toInt + 1 - v5_2.toInt).toNat = n5 → Y l S0 D K_X12_foundNow 21 0 0 (fun r G1 => (∃ v : Int32, (v = -1 ∨ ((rF ρ (420 + k) 0).toInt ≤ v.toInt ∧ v.toInt ≤ 239)) ∧ r = some (.int v)) ∧ G1 = G) (fun _ _ => False) 5 [(0, .ref (ad 200)), (1, .ref (ad (420 + k))), (2, .int v5_2)] [] G 0 0 := by
    intro n5
    induction n5 using Nat.strongRecOn with
    | _ n5 ih5 =>
    intro v5_2 h0_5 hf_5 hn5
    subst hn5
    refine y_blk 2 tq_X12_foundNow (z := (9, [(0, .ref (ad 200)), (1, .ref (ad (420 + k))), (2, .int v5_2)], [.int 239, .int v5_2])) rfl ?_
    refine y_icmp_gt tq_X12_foundNow 34 rfl rfl (fun c9 => ?_) (fun c9 => ?_)
    · skip
      refine y_blk 1 tq_X12_foundNow (z := (35, [(0, .ref (ad 200)), (1, .ref (ad (420 + k))), (2, .int v5_2)], [.int (-1)])) rfl ?_
      exact y_iret tq_X12_foundNow rfl rfl (⟨⟨_, Or.inl rfl, rfl⟩, rfl⟩)
    · skip
      have b9 : v5_2.toInt ≤ 239 := by rw [ylt] at c9; have z9 : (239 : Int32).toInt = 239 := (by decide); omega
      refine y_blk 2 tq_X12_foundNow (z := (14, [(0, .ref (ad 200)), (1, .ref (ad (420 + k))), (2, .int v5_2)], [.ref (ad (420 + k)), .ref (ad 200)])) rfl ?_
      refine y_get hS tq_X12_foundNow (v := .ref (ad (440 + k))) rfl fg_X12_243_X11 (hX.in (by assumption)) rfl ?_
      refine y_blk 1 tq_X12_foundNow (z := (18, [(0, .ref (ad 200)), (1, .ref (ad (420 + k))), (2, .int v5_2)], [.int v5_2, .ref (ad (440 + k)), .ref (ad 200)])) rfl ?_
      refine y_iald hS tq_X12_foundNow rfl (hX.wa (by assumption)) (by first | exact yIn (by decide) (by decide) | exact yIn (by assumption) (by assumption) | (exact yIn (by omega) (by omega))) ?_
      refine y_blk 1 tq_X12_foundNow (z := (20, [(0, .ref (ad 200)), (1, .ref (ad (420 + k))), (2, .int v5_2)], [.int v5_2, .int ((rV ρ (440 + k)) (Int32.toNatClampNeg v5_2)), .ref (ad 200)])) rfl ?_
      refine y_callV hS tq_X12_foundNow rfl (As := [.int ((rV ρ (440 + k)) (Int32.toNatClampNeg v5_2)), .int v5_2]) rfl cv_X12_183 hX.m (m_X12_isWatched hS hI hX ((rV ρ (440 + k)) (Int32.toNatClampNeg v5_2)) v5_2 (by first | (with_reducible assumption) | (with_reducible exact hX.lac (by assumption)) | (with_reducible exact hX.poc (by assumption)) | (with_reducible exact hX.wac (by assumption) (by assumption) (by omega)) | assumption | exact hX.lac (by assumption) | exact hX.poc (by assumption) | exact hX.wac (by assumption) (by assumption) (by omega))) rfl (by decide) (Nat.le_of_ble_eq_true rfl) (fun r20 Gc20 q20 => ?_) (fun E9 G9 h9 => h9.elim)
      obtain ⟨⟨x20, hb_x20, rfl⟩, eG20⟩ := q20
      have eG20 := eG20.symm
      subst eG20
      refine y_blk 0 tq_X12_foundNow (z := (23, [(0, .ref (ad 200)), (1, .ref (ad (420 + k))), (2, .int v5_2)], [.int x20])) rfl ?_
      refine y_if_eq tq_X12_foundNow 28 rfl rfl (fun c23 => ?_) (fun c23 => ?_)
      · skip
        refine y_blk 2 tq_X12_foundNow (z := (5, [(2, .int (v5_2 + 1)), (0, .ref (ad 200)), (1, .ref (ad (420 + k)))], [])) rfl ?_
        refine y_pick (L2 := [(0, .ref (ad 200)), (1, .ref (ad (420 + k))), (2, .int (v5_2 + 1))]) [1, 2, 0] rfl ?_
        exact ih5 _ (by exact ydec2 c9 (by decide)) (v5_2 + 1) (by first | decide | assumption | exact Int.le_refl _ | exact yposgtL (by assumption) c9 (by decide)) (by first | exact Int.le_refl _ | exact yposgtL hf_5 c9 (by decide)) rfl
      · skip
        refine y_blk 1 tq_X12_foundNow (z := (27, [(0, .ref (ad 200)), (1, .ref (ad (420 + k))), (2, .int v5_2)], [.int v5_2])) rfl ?_
        exact y_iret tq_X12_foundNow rfl rfl (⟨⟨_, by first | exact Or.inr (⟨hf_5, by omega⟩), rfl⟩, rfl⟩)
  refine y_blk 1 tq_X12_foundNow (z := (1, [(0, .ref (ad 200)), (1, .ref (ad (420 + k)))], [.ref (ad (420 + k))])) rfl ?_
  refine y_get hS tq_X12_foundNow (v := .int (rF ρ (420 + k) 0)) rfl fg_X12_249_X11 (hX.in (by assumption)) rfl ?_
  refine y_blk 1 tq_X12_foundNow (z := (5, [(2, .int (rF ρ (420 + k) 0)), (0, .ref (ad 200)), (1, .ref (ad (420 + k)))], [])) rfl ?_
  refine y_pick (L2 := [(0, .ref (ad 200)), (1, .ref (ad (420 + k))), (2, .int (rF ρ (420 + k) 0))]) [1, 2, 0] rfl ?_
  exact J5 _ (rF ρ (420 + k) 0) (by first | decide | assumption | exact Int.le_refl _ | exact yposgtL (by assumption) c9 (by decide)) (by first | exact Int.le_refl _ | exact yposgtL hf_5 c9 (by decide)) rfl
set_option maxHeartbeats 4000000 in
set_option maxRecDepth 100000 in
theorem m_X12_thereAt {l : Launch} {S0 : State} {A0 : Array Value} {D : va_G} {aC : Nat → ClassId} {ic : Int32 → Nat} {de : Nat} {ad : Nat → Nat} {G : AH} {ρ : RS} (hS : yS l S0 A0 D aC) (hI : yIc S0 ic de) (hX : atR aC ic de ad G ρ) (cell : Int32) (minute : Int32) (hm : minute.toInt < 240) : yM l S0 D yX12_thereAt cX12_thereAt 5 (some .int) 17 0 0 [.ref (ad 200), .int cell, .int minute] G (fun r G1 => (∃ v : Int32, r = some (.int v)) ∧ G1 = G) (fun _ _ => False) := by
  refine yM.ofK K_X12_thereAt rfl (by decide) (Nat.le_of_ble_eq_true rfl) ?_
  have J5 : ∀ (n5 : Nat) (v5_3 : Int32) (v5_4 : Int32) (h0_5 : 0 ≤ v5_4.toInt), (((Int32.ofNat (rZ ρ 215)) : Int32).toInt - v5_4.toInt).toNat = n5 → Y l S0 D K_X12_thereAt 17 0 0 (fun r G1 => (∃ v : Int32, r = some (.int v)) ∧ G1 = G) (fun _ _ => False) 5 [(0, .ref (ad 200)), (1, .int cell), (2, .int minute), (3, .int v5_3), (4, .int v5_4)] [] G 0 0 := by
    intro n5
    induction n5 using Nat.strongRecOn with
    | _ n5 ih5 =>
    intro v5_3 v5_4 h0_5 hn5
    subst hn5
    have J47 : ∀ (w47_0 : Int32) (hb_w47_0 : w47_0 = 0 ∨ w47_0 = 1) (c16 : ¬ ((Int32.ofNat (rZ ρ 215)) : Int32) ≤ v5_4), Y l S0 D K_X12_thereAt 17 0 0 (fun r G1 => (∃ v : Int32, r = some (.int v)) ∧ G1 = G) (fun _ _ => False) 47 [(0, .ref (ad 200)), (1, .int cell), (2, .int minute), (3, .int v5_3), (4, .int v5_4)] [.int w47_0, .int v5_3] G 0 0 := by
      intro w47_0 hb_w47_0 c16
      have hn16 := hX.2.le10 215 (by decide)
      have b16 : v5_4.toInt < rZ ρ 215 := yIy (by omega) h0_5 c16
      have d16 : Int32.toNatClampNeg v5_4 < rZ ρ 215 := yIx h0_5 b16
      refine y_blk 4 tq_X12_thereAt (z := (5, [(4, .int (v5_4 + 1)), (3, .int (v5_3 + w47_0)), (0, .ref (ad 200)), (1, .int cell), (2, .int minute)], [])) rfl ?_
      refine y_pick (L2 := [(0, .ref (ad 200)), (1, .int cell), (2, .int minute), (3, .int (v5_3 + w47_0)), (4, .int (v5_4 + 1))]) [2, 3, 4, 1, 0] rfl ?_
      exact ih5 _ (by exact ydec c16) (v5_3 + w47_0) (v5_4 + 1) (by first | decide | assumption | exact Int.le_refl _ | exact yposgeL (by assumption) c16) rfl
    refine y_blk 2 tq_X12_thereAt (z := (8, [(0, .ref (ad 200)), (1, .int cell), (2, .int minute), (3, .int v5_3), (4, .int v5_4)], [.ref (ad 200), .int v5_4])) rfl ?_
    refine y_get hS tq_X12_thereAt (v := .ref (ad 215)) rfl fg_X12_42_X12 hX.m rfl ?_
    refine y_blk 0 tq_X12_thereAt (z := (11, [(0, .ref (ad 200)), (1, .int cell), (2, .int minute), (3, .int v5_3), (4, .int v5_4)], [.ref (ad 215), .int v5_4])) rfl ?_
    refine y_callF hS tq_X12_thereAt rfl (As := []) rfl cf_X12_58 (Or.inl ⟨_, (hX.ls 215 (by decide)).1⟩) (m_Jsize hS (hX.ls 215 (by decide))) rfl (by decide) (Nat.le_of_ble_eq_true rfl) (fun r11 Gc11 q11 => ?_) (fun _ _ h9 => h9.elim)
    obtain ⟨rfl, eG11⟩ := q11
    have eG11 := eG11.symm
    subst eG11
    refine y_blk 0 tq_X12_thereAt (z := (16, [(0, .ref (ad 200)), (1, .int cell), (2, .int minute), (3, .int v5_3), (4, .int v5_4)], [.int (Int32.ofNat (rZ ρ 215)), .int v5_4])) rfl ?_
    refine y_icmp_ge tq_X12_thereAt 55 rfl rfl (fun c16 => ?_) (fun c16 => ?_)
    · skip
      refine y_blk 1 tq_X12_thereAt (z := (56, [(0, .ref (ad 200)), (1, .int cell), (2, .int minute), (3, .int v5_3), (4, .int v5_4)], [.int v5_3])) rfl ?_
      exact y_iret tq_X12_thereAt rfl rfl (⟨⟨_, rfl⟩, rfl⟩)
    · skip
      have hn16 := hX.2.le10 215 (by decide)
      have b16 : v5_4.toInt < rZ ρ 215 := yIy (by omega) h0_5 c16
      have d16 : Int32.toNatClampNeg v5_4 < rZ ρ 215 := yIx h0_5 b16
      refine y_blk 2 tq_X12_thereAt (z := (21, [(0, .ref (ad 200)), (1, .int cell), (2, .int minute), (3, .int v5_3), (4, .int v5_4)], [.ref (ad 200), .int v5_3])) rfl ?_
      refine y_get hS tq_X12_thereAt (v := .ref (ad 215)) rfl fg_X12_42_X12 hX.m rfl ?_
      refine y_blk 1 tq_X12_thereAt (z := (26, [(0, .ref (ad 200)), (1, .int cell), (2, .int minute), (3, .int v5_3), (4, .int v5_4)], [.int v5_4, .ref (ad 215), .int v5_3])) rfl ?_
      refine y_callF hS tq_X12_thereAt rfl (As := [.int v5_4]) rfl cf_X12_80 (Or.inl ⟨_, (hX.ls 215 (by decide)).1⟩) (m_Rin hS hX (by assumption) (by assumption)) rfl (by decide) (Nat.le_of_ble_eq_true rfl) (fun r26 Gc26 q26 => ?_) (fun _ _ h9 => h9.elim)
      obtain ⟨rfl, eG26⟩ := q26
      have eG26 := eG26.symm
      subst eG26
      have d26 : (Int32.toNatClampNeg v5_4) < rZ ρ 215 := yIx (by assumption) (by assumption)
      refine y_blk 0 tq_X12_thereAt (z := (31, [(0, .ref (ad 200)), (1, .int cell), (2, .int minute), (3, .int v5_3), (4, .int v5_4)], [.ref (ad (420 + (Int32.toNatClampNeg v5_4))), .int v5_3])) rfl ?_
      refine y_castG hS tq_X12_thereAt rfl kc_X12_152 (Or.inl ⟨_, (hX.in (by assumption))⟩) ?_
      refine y_blk 1 tq_X12_thereAt (z := (35, [(0, .ref (ad 200)), (1, .int cell), (2, .int minute), (3, .int v5_3), (4, .int v5_4)], [.int minute, .ref (ad (420 + (Int32.toNatClampNeg v5_4))), .int v5_3])) rfl ?_
      refine y_callV hS tq_X12_thereAt rfl (As := [.int minute]) rfl cv_X12_154 (hX.in (by assumption)) (m_X11_where hS hI hX (k := (Int32.toNatClampNeg v5_4)) (by assumption) minute (by omega)) rfl (by decide) (Nat.le_of_ble_eq_true rfl) (fun r35 Gc35 q35 => ?_) (fun E9 G9 h9 => h9.elim)
      obtain ⟨⟨x35, hr_x35, rfl⟩, eG35⟩ := q35
      have eG35 := eG35.symm
      subst eG35
      refine y_blk 1 tq_X12_thereAt (z := (39, [(0, .ref (ad 200)), (1, .int cell), (2, .int minute), (3, .int v5_3), (4, .int v5_4)], [.int cell, .int x35, .int v5_3])) rfl ?_
      refine y_icmp_ne tq_X12_thereAt 46 rfl rfl (fun c39 => ?_) (fun c39 => ?_)
      · skip
        refine y_blk 1 tq_X12_thereAt (z := (47, [(0, .ref (ad 200)), (1, .int cell), (2, .int minute), (3, .int v5_3), (4, .int v5_4)], [.int 0, .int v5_3])) rfl ?_
        exact J47 0 (Or.inl rfl) (by exact c16)
      · skip
        refine y_blk 2 tq_X12_thereAt (z := (47, [(0, .ref (ad 200)), (1, .int cell), (2, .int minute), (3, .int v5_3), (4, .int v5_4)], [.int 1, .int v5_3])) rfl ?_
        exact J47 1 (Or.inr rfl) (by exact c16)
  refine y_blk 4 tq_X12_thereAt (z := (5, [(4, .int 0), (3, .int 0), (0, .ref (ad 200)), (1, .int cell), (2, .int minute)], [])) rfl ?_
  refine y_pick (L2 := [(0, .ref (ad 200)), (1, .int cell), (2, .int minute), (3, .int 0), (4, .int 0)]) [2, 3, 4, 1, 0] rfl ?_
  exact J5 _ 0 0 (by first | decide | assumption | exact Int.le_refl _ | exact yposgeL (by assumption) c16) rfl
set_option maxHeartbeats 4000000 in
set_option maxRecDepth 100000 in
theorem m_X12_wireNow {l : Launch} {S0 : State} {A0 : Array Value} {D : va_G} {aC : Nat → ClassId} {ic : Int32 → Nat} {de : Nat} {ad : Nat → Nat} {G : AH} {ρ : RS} (hS : yS l S0 A0 D aC) (hI : yIc S0 ic de) (hX : atR aC ic de ad G ρ) (wire : Int32) (what : Int32) (hw0 : 0 ≤ wire.toInt) (hw1 : wire.toInt < rZ ρ 216) (hwh : 0 ≤ what.toInt) : yM l S0 D yX12_wireNow cX12_wireNow 9 (some .int) 18 0 0 [.ref (ad 200), .int wire, .int what] G (fun r G1 => (∃ v : Int32, r = some (.int v)) ∧ G1 = G) (fun _ _ => False) := by
  refine yM.ofK K_X12_wireNow rfl (by decide) (Nat.le_of_ble_eq_true rfl) ?_
  have dw := yIx hw0 hw1
  have J149 : ∀ (v149_4 : Int32) (v149_5 : Int32) (v149_6 : Int32) (v149_7 : Int32) (w149_0 : Int32), Y l S0 D K_X12_wireNow 18 0 0 (fun r G1 => (∃ v : Int32, r = some (.int v)) ∧ G1 = G) (fun _ _ => False) 149 [(0, .ref (ad 200)), (1, .int wire), (2, .int what), (3, .ref (ad (340 + (Int32.toNatClampNeg wire)))), (4, .int v149_4), (5, .int v149_5), (6, .int v149_6), (7, .int v149_7)] [.int w149_0] G 0 0 := by
    intro v149_4 v149_5 v149_6 v149_7 w149_0
    exact y_iret tq_X12_wireNow rfl rfl (⟨⟨_, rfl⟩, rfl⟩)
  have J35 : ∀ (n35 : Nat) (v35_4 : Int32) (v35_5 : Int32) (v35_6 : Int32) (v35_7 : Int32) (h0_35 : 0 ≤ v35_7.toInt), ((239 : Int32).toInt + 1 - v35_7.toInt).toNat = n35 → Y l S0 D K_X12_wireNow 18 0 0 (fun r G1 => (∃ v : Int32, r = some (.int v)) ∧ G1 = G) (fun _ _ => False) 35 [(0, .ref (ad 200)), (1, .int wire), (2, .int what), (3, .ref (ad (340 + (Int32.toNatClampNeg wire)))), (4, .int v35_4), (5, .int v35_5), (6, .int v35_6), (7, .int v35_7)] [] G 0 0 := by
    intro n35
    induction n35 using Nat.strongRecOn with
    | _ n35 ih35 =>
    intro v35_4 v35_5 v35_6 v35_7 h0_35 hn35
    subst hn35
    have J121 : ∀ (v121_4 : Int32) (v121_5 : Int32) (v121_6 : Int32) (v121_8 : Int32) (c40 : ¬ (239 : Int32) < v35_7), Y l S0 D K_X12_wireNow 18 0 0 (fun r G1 => (∃ v : Int32, r = some (.int v)) ∧ G1 = G) (fun _ _ => False) 121 [(0, .ref (ad 200)), (1, .int wire), (2, .int what), (3, .ref (ad (340 + (Int32.toNatClampNeg wire)))), (4, .int v121_4), (5, .int v121_5), (6, .int v121_6), (7, .int v35_7), (8, .int v121_8)] [] G 0 0 := by
      intro v121_4 v121_5 v121_6 v121_8 c40
      have b40 : v35_7.toInt ≤ 239 := by rw [ylt] at c40; have z9 : (239 : Int32).toInt = 239 := (by decide); omega
      refine y_blk 2 tq_X12_wireNow (z := (35, [(7, .int (v35_7 + 1)), (0, .ref (ad 200)), (1, .int wire), (2, .int what), (3, .ref (ad (340 + (Int32.toNatClampNeg wire)))), (4, .int v121_4), (5, .int v121_5), (6, .int v121_6), (8, .int v121_8)], [])) rfl ?_
      refine y_pick (L2 := [(0, .ref (ad 200)), (1, .int wire), (2, .int what), (3, .ref (ad (340 + (Int32.toNatClampNeg wire)))), (4, .int v121_4), (5, .int v121_5), (6, .int v121_6), (7, .int (v35_7 + 1))]) [1, 2, 3, 4, 5, 6, 7, 0] rfl ?_
      exact ih35 _ (by exact ydec2 c40 (by decide)) v121_4 v121_5 v121_6 (v35_7 + 1) (by first | decide | assumption | exact Int.le_refl _ | exact yposgtL (by assumption) c40 (by decide)) rfl
    have J119 : ∀ (v119_4 : Int32) (v119_5 : Int32) (v119_8 : Int32) (w119_0 : Int32) (c40 : ¬ (239 : Int32) < v35_7), Y l S0 D K_X12_wireNow 18 0 0 (fun r G1 => (∃ v : Int32, r = some (.int v)) ∧ G1 = G) (fun _ _ => False) 119 [(0, .ref (ad 200)), (1, .int wire), (2, .int what), (3, .ref (ad (340 + (Int32.toNatClampNeg wire)))), (4, .int v119_4), (5, .int v119_5), (6, .int v35_6), (7, .int v35_7), (8, .int v119_8)] [.int w119_0] G 0 0 := by
      intro v119_4 v119_5 v119_8 w119_0 c40
      have b40 : v35_7.toInt ≤ 239 := by rw [ylt] at c40; have z9 : (239 : Int32).toInt = 239 := (by decide); omega
      refine y_blk 1 tq_X12_wireNow (z := (121, [(6, .int w119_0), (0, .ref (ad 200)), (1, .int wire), (2, .int what), (3, .ref (ad (340 + (Int32.toNatClampNeg wire)))), (4, .int v119_4), (5, .int v119_5), (7, .int v35_7), (8, .int v119_8)], [])) rfl ?_
      refine y_pick (L2 := [(0, .ref (ad 200)), (1, .int wire), (2, .int what), (3, .ref (ad (340 + (Int32.toNatClampNeg wire)))), (4, .int v119_4), (5, .int v119_5), (6, .int w119_0), (7, .int v35_7), (8, .int v119_8)]) [1, 2, 3, 4, 5, 6, 0, 7, 8] rfl ?_
      exact J121 v119_4 v119_5 w119_0 v119_8 (by exact c40)
    have J117 : ∀ (v117_4 : Int32) (v117_5 : Int32) (v117_8 : Int32) (c40 : ¬ (239 : Int32) < v35_7), Y l S0 D K_X12_wireNow 18 0 0 (fun r G1 => (∃ v : Int32, r = some (.int v)) ∧ G1 = G) (fun _ _ => False) 117 [(0, .ref (ad 200)), (1, .int wire), (2, .int what), (3, .ref (ad (340 + (Int32.toNatClampNeg wire)))), (4, .int v117_4), (5, .int v117_5), (6, .int v35_6), (7, .int v35_7), (8, .int v117_8)] [] G 0 0 := by
      intro v117_4 v117_5 v117_8 c40
      have b40 : v35_7.toInt ≤ 239 := by rw [ylt] at c40; have z9 : (239 : Int32).toInt = 239 := (by decide); omega
      refine y_blk 1 tq_X12_wireNow (z := (119, [(0, .ref (ad 200)), (1, .int wire), (2, .int what), (3, .ref (ad (340 + (Int32.toNatClampNeg wire)))), (4, .int v117_4), (5, .int v117_5), (6, .int v35_6), (7, .int v35_7), (8, .int v117_8)], [.int v35_6])) rfl ?_
      exact J119 v117_4 v117_5 v117_8 v35_6 (by exact c40)
    have J98 : ∀ (v98_4 : Int32) (v98_8 : Int32) (w98_0 : Int32) (hb_w98_0 : w98_0 = 0 ∨ w98_0 = 1) (c40 : ¬ (239 : Int32) < v35_7), Y l S0 D K_X12_wireNow 18 0 0 (fun r G1 => (∃ v : Int32, r = some (.int v)) ∧ G1 = G) (fun _ _ => False) 98 [(0, .ref (ad 200)), (1, .int wire), (2, .int what), (3, .ref (ad (340 + (Int32.toNatClampNeg wire)))), (4, .int v98_4), (5, .int v35_5), (6, .int v35_6), (7, .int v35_7), (8, .int v98_8)] [.int w98_0, .int v35_5] G 0 0 := by
      intro v98_4 v98_8 w98_0 hb_w98_0 c40
      have b40 : v35_7.toInt ≤ 239 := by rw [ylt] at c40; have z9 : (239 : Int32).toInt = 239 := (by decide); omega
      refine y_blk 3 tq_X12_wireNow (z := (103, [(5, .int (v35_5 + w98_0)), (0, .ref (ad 200)), (1, .int wire), (2, .int what), (3, .ref (ad (340 + (Int32.toNatClampNeg wire)))), (4, .int v98_4), (6, .int v35_6), (7, .int v35_7), (8, .int v98_8)], [.int v98_8])) rfl ?_
      refine y_if_le tq_X12_wireNow 117 rfl rfl (fun c103 => ?_) (fun c103 => ?_)
      · skip
        refine y_blk 0 tq_X12_wireNow (z := (117, [(5, .int (v35_5 + w98_0)), (0, .ref (ad 200)), (1, .int wire), (2, .int what), (3, .ref (ad (340 + (Int32.toNatClampNeg wire)))), (4, .int v98_4), (6, .int v35_6), (7, .int v35_7), (8, .int v98_8)], [])) rfl ?_
        refine y_pick (L2 := [(0, .ref (ad 200)), (1, .int wire), (2, .int what), (3, .ref (ad (340 + (Int32.toNatClampNeg wire)))), (4, .int v98_4), (5, .int (v35_5 + w98_0)), (6, .int v35_6), (7, .int v35_7), (8, .int v98_8)]) [1, 2, 3, 4, 5, 0, 6, 7, 8] rfl ?_
        exact J117 v98_4 (v35_5 + w98_0) v98_8 (by exact c40)
      · skip
        refine y_blk 2 tq_X12_wireNow (z := (109, [(5, .int (v35_5 + w98_0)), (0, .ref (ad 200)), (1, .int wire), (2, .int what), (3, .ref (ad (340 + (Int32.toNatClampNeg wire)))), (4, .int v98_4), (6, .int v35_6), (7, .int v35_7), (8, .int v98_8)], [.int (-1), .int v35_6])) rfl ?_
        refine y_icmp_ne tq_X12_wireNow 117 rfl rfl (fun c109 => ?_) (fun c109 => ?_)
        · skip
          refine y_blk 0 tq_X12_wireNow (z := (117, [(5, .int (v35_5 + w98_0)), (0, .ref (ad 200)), (1, .int wire), (2, .int what), (3, .ref (ad (340 + (Int32.toNatClampNeg wire)))), (4, .int v98_4), (6, .int v35_6), (7, .int v35_7), (8, .int v98_8)], [])) rfl ?_
          refine y_pick (L2 := [(0, .ref (ad 200)), (1, .int wire), (2, .int what), (3, .ref (ad (340 + (Int32.toNatClampNeg wire)))), (4, .int v98_4), (5, .int (v35_5 + w98_0)), (6, .int v35_6), (7, .int v35_7), (8, .int v98_8)]) [1, 2, 3, 4, 5, 0, 6, 7, 8] rfl ?_
          exact J117 v98_4 (v35_5 + w98_0) v98_8 (by exact c40)
        · skip
          refine y_blk 2 tq_X12_wireNow (z := (119, [(5, .int (v35_5 + w98_0)), (0, .ref (ad 200)), (1, .int wire), (2, .int what), (3, .ref (ad (340 + (Int32.toNatClampNeg wire)))), (4, .int v98_4), (6, .int v35_6), (7, .int v35_7), (8, .int v98_8)], [.int v35_7])) rfl ?_
          refine y_pick (L2 := [(0, .ref (ad 200)), (1, .int wire), (2, .int what), (3, .ref (ad (340 + (Int32.toNatClampNeg wire)))), (4, .int v98_4), (5, .int (v35_5 + w98_0)), (6, .int v35_6), (7, .int v35_7), (8, .int v98_8)]) [1, 2, 3, 4, 5, 0, 6, 7, 8] rfl ?_
          exact J119 v98_4 (v35_5 + w98_0) v98_8 v35_7 (by exact c40)
    refine y_blk 2 tq_X12_wireNow (z := (40, [(0, .ref (ad 200)), (1, .int wire), (2, .int what), (3, .ref (ad (340 + (Int32.toNatClampNeg wire)))), (4, .int v35_4), (5, .int v35_5), (6, .int v35_6), (7, .int v35_7)], [.int 239, .int v35_7])) rfl ?_
    refine y_icmp_gt tq_X12_wireNow 127 rfl rfl (fun c40 => ?_) (fun c40 => ?_)
    · skip
      refine y_blk 2 tq_X12_wireNow (z := (129, [(0, .ref (ad 200)), (1, .int wire), (2, .int what), (3, .ref (ad (340 + (Int32.toNatClampNeg wire)))), (4, .int v35_4), (5, .int v35_5), (6, .int v35_6), (7, .int v35_7)], [.int 2, .int what])) rfl ?_
      refine y_icmp_ne tq_X12_wireNow 137 rfl rfl (fun c129 => ?_) (fun c129 => ?_)
      · skip
        refine y_blk 2 tq_X12_wireNow (z := (139, [(0, .ref (ad 200)), (1, .int wire), (2, .int what), (3, .ref (ad (340 + (Int32.toNatClampNeg wire)))), (4, .int v35_4), (5, .int v35_5), (6, .int v35_6), (7, .int v35_7)], [.int 3, .int what])) rfl ?_
        refine y_icmp_ne tq_X12_wireNow 147 rfl rfl (fun c139 => ?_) (fun c139 => ?_)
        · skip
          refine y_blk 1 tq_X12_wireNow (z := (149, [(0, .ref (ad 200)), (1, .int wire), (2, .int what), (3, .ref (ad (340 + (Int32.toNatClampNeg wire)))), (4, .int v35_4), (5, .int v35_5), (6, .int v35_6), (7, .int v35_7)], [.int v35_6])) rfl ?_
          exact J149 v35_4 v35_5 v35_6 v35_7 v35_6
        · skip
          refine y_blk 2 tq_X12_wireNow (z := (149, [(0, .ref (ad 200)), (1, .int wire), (2, .int what), (3, .ref (ad (340 + (Int32.toNatClampNeg wire)))), (4, .int v35_4), (5, .int v35_5), (6, .int v35_6), (7, .int v35_7)], [.int v35_5])) rfl ?_
          exact J149 v35_4 v35_5 v35_6 v35_7 v35_5
      · skip
        refine y_blk 2 tq_X12_wireNow (z := (149, [(0, .ref (ad 200)), (1, .int wire), (2, .int what), (3, .ref (ad (340 + (Int32.toNatClampNeg wire)))), (4, .int v35_4), (5, .int v35_5), (6, .int v35_6), (7, .int v35_7)], [.int v35_4])) rfl ?_
        exact J149 v35_4 v35_5 v35_6 v35_7 v35_4
    · skip
      have b40 : v35_7.toInt ≤ 239 := by rw [ylt] at c40; have z9 : (239 : Int32).toInt = 239 := (by decide); omega
      refine y_blk 3 tq_X12_wireNow (z := (46, [(0, .ref (ad 200)), (1, .int wire), (2, .int what), (3, .ref (ad (340 + (Int32.toNatClampNeg wire)))), (4, .int v35_4), (5, .int v35_5), (6, .int v35_6), (7, .int v35_7)], [.int 0, .ref (ad (340 + (Int32.toNatClampNeg wire))), .ref (ad 200)])) rfl ?_
      refine y_iald hS tq_X12_wireNow rfl (hX.wi (by assumption)) (by first | exact yIn (by decide) (by decide) | exact yIn (by assumption) (by assumption) | (exact yIn (by omega) (by omega))) ?_
      refine y_blk 1 tq_X12_wireNow (z := (49, [(0, .ref (ad 200)), (1, .int wire), (2, .int what), (3, .ref (ad (340 + (Int32.toNatClampNeg wire)))), (4, .int v35_4), (5, .int v35_5), (6, .int v35_6), (7, .int v35_7)], [.int v35_7, .int ((rV ρ (340 + (Int32.toNatClampNeg wire))) (Int32.toNatClampNeg 0)), .ref (ad 200)])) rfl ?_
      refine y_callV hS tq_X12_wireNow rfl (As := [.int ((rV ρ (340 + (Int32.toNatClampNeg wire))) (Int32.toNatClampNeg 0)), .int v35_7]) rfl cv_X12_274 hX.m (m_X12_thereAt hS hI hX ((rV ρ (340 + (Int32.toNatClampNeg wire))) (Int32.toNatClampNeg 0)) v35_7 (by omega)) rfl (by decide) (Nat.le_of_ble_eq_true rfl) (fun r49 Gc49 q49 => ?_) (fun E9 G9 h9 => h9.elim)
      obtain ⟨⟨x49, rfl⟩, eG49⟩ := q49
      have eG49 := eG49.symm
      subst eG49
      refine y_blk 7 tq_X12_wireNow (z := (63, [(8, .int x49), (0, .ref (ad 200)), (1, .int wire), (2, .int what), (3, .ref (ad (340 + (Int32.toNatClampNeg wire)))), (4, .int v35_4), (5, .int v35_5), (6, .int v35_6), (7, .int v35_7)], [.int 0, .ref (ad (340 + (Int32.toNatClampNeg wire))), .int 7, .int (29 * v35_7)])) rfl ?_
      refine y_iald hS tq_X12_wireNow rfl (hX.wi (by assumption)) (by first | exact yIn (by decide) (by decide) | exact yIn (by assumption) (by assumption) | (exact yIn (by omega) (by omega))) ?_
      refine y_blk 3 tq_X12_wireNow (z := (68, [(8, .int x49), (0, .ref (ad 200)), (1, .int wire), (2, .int what), (3, .ref (ad (340 + (Int32.toNatClampNeg wire)))), (4, .int v35_4), (5, .int v35_5), (6, .int v35_6), (7, .int v35_7)], [.int 11, .int ((29 * v35_7) + (7 * ((rV ρ (340 + (Int32.toNatClampNeg wire))) (Int32.toNatClampNeg 0))))])) rfl ?_
      refine y_irem tq_X12_wireNow rfl (by decide) ?_
      refine y_blk 6 tq_X12_wireNow (z := (76, [(8, .int x49), (0, .ref (ad 200)), (1, .int wire), (2, .int what), (3, .ref (ad (340 + (Int32.toNatClampNeg wire)))), (4, .int v35_4), (5, .int v35_5), (6, .int v35_6), (7, .int v35_7)], [.int 1, .ref (ad (340 + (Int32.toNatClampNeg wire))), .int ((((29 * v35_7) + (7 * ((rV ρ (340 + (Int32.toNatClampNeg wire))) (Int32.toNatClampNeg 0)))) - ((29 * v35_7) + (7 * ((rV ρ (340 + (Int32.toNatClampNeg wire))) (Int32.toNatClampNeg 0)))) / 11 * 11) + (5 * x49))])) rfl ?_
      refine y_iald hS tq_X12_wireNow rfl (hX.wi (by assumption)) (by first | exact yIn (by decide) (by decide) | exact yIn (by assumption) (by assumption) | (exact yIn (by omega) (by omega))) ?_
      refine y_blk 0 tq_X12_wireNow (z := (77, [(8, .int x49), (0, .ref (ad 200)), (1, .int wire), (2, .int what), (3, .ref (ad (340 + (Int32.toNatClampNeg wire)))), (4, .int v35_4), (5, .int v35_5), (6, .int v35_6), (7, .int v35_7)], [.int ((rV ρ (340 + (Int32.toNatClampNeg wire))) (Int32.toNatClampNeg 1)), .int ((((29 * v35_7) + (7 * ((rV ρ (340 + (Int32.toNatClampNeg wire))) (Int32.toNatClampNeg 0)))) - ((29 * v35_7) + (7 * ((rV ρ (340 + (Int32.toNatClampNeg wire))) (Int32.toNatClampNeg 0)))) / 11 * 11) + (5 * x49))])) rfl ?_
      refine y_icmp_ge tq_X12_wireNow 83 rfl rfl (fun c77 => ?_) (fun c77 => ?_)
      · skip
        refine y_blk 3 tq_X12_wireNow (z := (90, [(4, .int (v35_4 + 1)), (8, .int x49), (0, .ref (ad 200)), (1, .int wire), (2, .int what), (3, .ref (ad (340 + (Int32.toNatClampNeg wire)))), (5, .int v35_5), (6, .int v35_6), (7, .int v35_7)], [.int x49, .int v35_5])) rfl ?_
        refine y_if_ne tq_X12_wireNow 97 rfl rfl (fun c90 => ?_) (fun c90 => ?_)
        · skip
          refine y_blk 1 tq_X12_wireNow (z := (98, [(4, .int (v35_4 + 1)), (8, .int x49), (0, .ref (ad 200)), (1, .int wire), (2, .int what), (3, .ref (ad (340 + (Int32.toNatClampNeg wire)))), (5, .int v35_5), (6, .int v35_6), (7, .int v35_7)], [.int 0, .int v35_5])) rfl ?_
          refine y_pick (L2 := [(0, .ref (ad 200)), (1, .int wire), (2, .int what), (3, .ref (ad (340 + (Int32.toNatClampNeg wire)))), (4, .int (v35_4 + 1)), (5, .int v35_5), (6, .int v35_6), (7, .int v35_7), (8, .int x49)]) [2, 3, 4, 5, 0, 6, 7, 8, 1] rfl ?_
          exact J98 (v35_4 + 1) x49 0 (Or.inl rfl) (by exact c40)
        · skip
          refine y_blk 2 tq_X12_wireNow (z := (98, [(4, .int (v35_4 + 1)), (8, .int x49), (0, .ref (ad 200)), (1, .int wire), (2, .int what), (3, .ref (ad (340 + (Int32.toNatClampNeg wire)))), (5, .int v35_5), (6, .int v35_6), (7, .int v35_7)], [.int 1, .int v35_5])) rfl ?_
          refine y_pick (L2 := [(0, .ref (ad 200)), (1, .int wire), (2, .int what), (3, .ref (ad (340 + (Int32.toNatClampNeg wire)))), (4, .int (v35_4 + 1)), (5, .int v35_5), (6, .int v35_6), (7, .int v35_7), (8, .int x49)]) [2, 3, 4, 5, 0, 6, 7, 8, 1] rfl ?_
          exact J98 (v35_4 + 1) x49 1 (Or.inr rfl) (by exact c40)
      · skip
        refine y_blk 1 tq_X12_wireNow (z := (121, [(8, .int x49), (0, .ref (ad 200)), (1, .int wire), (2, .int what), (3, .ref (ad (340 + (Int32.toNatClampNeg wire)))), (4, .int v35_4), (5, .int v35_5), (6, .int v35_6), (7, .int v35_7)], [])) rfl ?_
        refine y_pick (L2 := [(0, .ref (ad 200)), (1, .int wire), (2, .int what), (3, .ref (ad (340 + (Int32.toNatClampNeg wire)))), (4, .int v35_4), (5, .int v35_5), (6, .int v35_6), (7, .int v35_7), (8, .int x49)]) [1, 2, 3, 4, 5, 6, 7, 8, 0] rfl ?_
        exact J121 v35_4 v35_5 v35_6 x49 (by exact c40)
  refine y_blk 1 tq_X12_wireNow (z := (1, [(0, .ref (ad 200)), (1, .int wire), (2, .int what)], [.ref (ad 200)])) rfl ?_
  refine y_get hS tq_X12_wireNow (v := .ref (ad 216)) rfl fg_X12_45_X12 hX.m rfl ?_
  refine y_blk 1 tq_X12_wireNow (z := (5, [(0, .ref (ad 200)), (1, .int wire), (2, .int what)], [.int wire, .ref (ad 216)])) rfl ?_
  refine y_callF hS tq_X12_wireNow rfl (As := [.int wire]) rfl cf_X12_80 (Or.inl ⟨_, (hX.ls 216 (by decide)).1⟩) (m_Rwi hS hX (by assumption) (by assumption)) rfl (by decide) (Nat.le_of_ble_eq_true rfl) (fun r5 Gc5 q5 => ?_) (fun _ _ h9 => h9.elim)
  obtain ⟨rfl, eG5⟩ := q5
  have eG5 := eG5.symm
  subst eG5
  have d5 : (Int32.toNatClampNeg wire) < rZ ρ 216 := yIx (by assumption) (by assumption)
  refine y_blk 0 tq_X12_wireNow (z := (10, [(0, .ref (ad 200)), (1, .int wire), (2, .int what)], [.ref (ad (340 + (Int32.toNatClampNeg wire)))])) rfl ?_
  refine y_castA hS tq_X12_wireNow rfl kc_X12_116 (Or.inl ⟨_, (hX.wi (by assumption))⟩) ?_
  refine y_blk 3 tq_X12_wireNow (z := (16, [(3, .ref (ad (340 + (Int32.toNatClampNeg wire)))), (0, .ref (ad 200)), (1, .int wire), (2, .int what)], [.int 2, .int what])) rfl ?_
  refine y_icmp_ge tq_X12_wireNow 23 rfl rfl (fun c16 => ?_) (fun c16 => ?_)
  · skip
    refine y_blk 8 tq_X12_wireNow (z := (35, [(7, .int 0), (6, .int (-1)), (5, .int 0), (4, .int 0), (3, .ref (ad (340 + (Int32.toNatClampNeg wire)))), (0, .ref (ad 200)), (1, .int wire), (2, .int what)], [])) rfl ?_
    refine y_pick (L2 := [(0, .ref (ad 200)), (1, .int wire), (2, .int what), (3, .ref (ad (340 + (Int32.toNatClampNeg wire)))), (4, .int 0), (5, .int 0), (6, .int (-1)), (7, .int 0)]) [5, 6, 7, 4, 3, 2, 1, 0] rfl ?_
    exact J35 _ 0 0 (-1) 0 (by first | decide | assumption | exact Int.le_refl _ | exact yposgtL (by assumption) c40 (by decide)) rfl
  · skip
    have hw2 : what.toInt < ((2 : Nat) : Int) := by rw [yle, yl_2] at c16; omega
    refine y_blk 2 tq_X12_wireNow (z := (21, [(3, .ref (ad (340 + (Int32.toNatClampNeg wire)))), (0, .ref (ad 200)), (1, .int wire), (2, .int what)], [.int what, .ref (ad (340 + (Int32.toNatClampNeg wire)))])) rfl ?_
    refine y_iald hS tq_X12_wireNow rfl (hX.wi (by assumption)) (by first | exact yIn (by decide) (by decide) | exact yIn (by assumption) (by assumption) | (exact yIn (by omega) (by omega))) ?_
    refine y_blk 0 tq_X12_wireNow (z := (22, [(3, .ref (ad (340 + (Int32.toNatClampNeg wire)))), (0, .ref (ad 200)), (1, .int wire), (2, .int what)], [.int ((rV ρ (340 + (Int32.toNatClampNeg wire))) (Int32.toNatClampNeg what))])) rfl ?_
    exact y_iret tq_X12_wireNow rfl rfl (⟨⟨_, rfl⟩, rfl⟩)
set_option maxHeartbeats 4000000 in
set_option maxRecDepth 100000 in
theorem m_X12_isUnseen {l : Launch} {S0 : State} {A0 : Array Value} {D : va_G} {aC : Nat → ClassId} {ic : Int32 → Nat} {de : Nat} {ad : Nat → Nat} {G : AH} {ρ : RS} (hS : yS l S0 A0 D aC) (hI : yIc S0 ic de) (hX : atR aC ic de ad G ρ) (cell : Int32) (minute : Int32) (hcell : rcell ρ cell) : yM l S0 D yX12_isUnseen cX12_isUnseen 3 (some .boolean) 21 0 0 [.ref (ad 200), .int cell, .int minute] G (fun r G1 => (∃ v : Int32, (v = 0 ∨ v = 1) ∧ r = some (.int v)) ∧ G1 = G) (fun _ _ => False) := by
  refine yM.ofK K_X12_isUnseen rfl (by decide) (Nat.le_of_ble_eq_true rfl) ?_
  have J23 : ∀ (w23_0 : Int32) (hb_w23_0 : w23_0 = 0 ∨ w23_0 = 1), Y l S0 D K_X12_isUnseen 21 0 0 (fun r G1 => (∃ v : Int32, (v = 0 ∨ v = 1) ∧ r = some (.int v)) ∧ G1 = G) (fun _ _ => False) 23 [(0, .ref (ad 200)), (1, .int cell), (2, .int minute)] [.int w23_0] G 0 0 := by
    intro w23_0 hb_w23_0
    exact y_zret tq_X12_isUnseen rfl rfl (y01 hb_w23_0) (⟨⟨_, hb_w23_0, rfl⟩, rfl⟩)
  have J22 : ∀ (_ : True), Y l S0 D K_X12_isUnseen 21 0 0 (fun r G1 => (∃ v : Int32, (v = 0 ∨ v = 1) ∧ r = some (.int v)) ∧ G1 = G) (fun _ _ => False) 22 [(0, .ref (ad 200)), (1, .int cell), (2, .int minute)] [] G 0 0 := by
    intro _
    refine y_blk 1 tq_X12_isUnseen (z := (23, [(0, .ref (ad 200)), (1, .int cell), (2, .int minute)], [.int 0])) rfl ?_
    exact J23 0 (Or.inl rfl)
  refine y_blk 3 tq_X12_isUnseen (z := (3, [(0, .ref (ad 200)), (1, .int cell), (2, .int minute)], [.int minute, .int cell, .ref (ad 200)])) rfl ?_
  refine y_callV hS tq_X12_isUnseen rfl (As := [.int cell, .int minute]) rfl cv_X12_192 hX.m (m_X12_isWalked hS hI hX cell minute (by first | (with_reducible assumption) | (with_reducible exact hX.lac (by assumption)) | (with_reducible exact hX.poc (by assumption)) | (with_reducible exact hX.wac (by assumption) (by assumption) (by omega)) | assumption | exact hX.lac (by assumption) | exact hX.poc (by assumption) | exact hX.wac (by assumption) (by assumption) (by omega))) rfl (by decide) (Nat.le_of_ble_eq_true rfl) (fun r3 Gc3 q3 => ?_) (fun E9 G9 h9 => h9.elim)
  obtain ⟨⟨x3, hb_x3, rfl⟩, eG3⟩ := q3
  have eG3 := eG3.symm
  subst eG3
  refine y_blk 0 tq_X12_isUnseen (z := (6, [(0, .ref (ad 200)), (1, .int cell), (2, .int minute)], [.int x3])) rfl ?_
  refine y_if_eq tq_X12_isUnseen 22 rfl rfl (fun c6 => ?_) (fun c6 => ?_)
  · skip
    refine y_blk 0 tq_X12_isUnseen (z := (22, [(0, .ref (ad 200)), (1, .int cell), (2, .int minute)], [])) rfl ?_
    exact J22 trivial
  · skip
    refine y_blk 3 tq_X12_isUnseen (z := (12, [(0, .ref (ad 200)), (1, .int cell), (2, .int minute)], [.int minute, .int cell, .ref (ad 200)])) rfl ?_
    refine y_callV hS tq_X12_isUnseen rfl (As := [.int cell, .int minute]) rfl cv_X12_183 hX.m (m_X12_isWatched hS hI hX cell minute (by first | (with_reducible assumption) | (with_reducible exact hX.lac (by assumption)) | (with_reducible exact hX.poc (by assumption)) | (with_reducible exact hX.wac (by assumption) (by assumption) (by omega)) | assumption | exact hX.lac (by assumption) | exact hX.poc (by assumption) | exact hX.wac (by assumption) (by assumption) (by omega))) rfl (by decide) (Nat.le_of_ble_eq_true rfl) (fun r12 Gc12 q12 => ?_) (fun E9 G9 h9 => h9.elim)
    obtain ⟨⟨x12, hb_x12, rfl⟩, eG12⟩ := q12
    have eG12 := eG12.symm
    subst eG12
    refine y_blk 0 tq_X12_isUnseen (z := (15, [(0, .ref (ad 200)), (1, .int cell), (2, .int minute)], [.int x12])) rfl ?_
    refine y_if_ne tq_X12_isUnseen 22 rfl rfl (fun c15 => ?_) (fun c15 => ?_)
    · skip
      refine y_blk 0 tq_X12_isUnseen (z := (22, [(0, .ref (ad 200)), (1, .int cell), (2, .int minute)], [])) rfl ?_
      exact J22 trivial
    · skip
      refine y_blk 2 tq_X12_isUnseen (z := (23, [(0, .ref (ad 200)), (1, .int cell), (2, .int minute)], [.int 1])) rfl ?_
      exact J23 1 (Or.inr rfl)
set_option maxHeartbeats 4000000 in
set_option maxRecDepth 100000 in
theorem m_X12_isSoundNow {l : Launch} {S0 : State} {A0 : Array Value} {D : va_G} {aC : Nat → ClassId} {ic : Int32 → Nat} {de : Nat} {ad : Nat → Nat} {G : AH} {ρ : RS} (hS : yS l S0 A0 D aC) (hI : yIc S0 ic de) (hX : atR aC ic de ad G ρ) : yM l S0 D yX12_isSoundNow cX12_isSoundNow 5 (some .boolean) 18 0 0 [.ref (ad 200)] G (fun r G1 => (∃ v : Int32, (v = 0 ∨ v = 1) ∧ r = some (.int v)) ∧ G1 = G) (fun _ _ => False) := by
  refine yM.ofK K_X12_isSoundNow rfl (by decide) (Nat.le_of_ble_eq_true rfl) ?_
  have J125 : ∀ (n125 : Nat) (v125_1 : Int32) (v125_3 : Int32) (h0_125 : 0 ≤ v125_1.toInt), (((Int32.ofNat (rZ ρ 215)) : Int32).toInt - v125_1.toInt).toNat = n125 → Y l S0 D K_X12_isSoundNow 18 0 0 (fun r G1 => (∃ v : Int32, (v = 0 ∨ v = 1) ∧ r = some (.int v)) ∧ G1 = G) (fun _ _ => False) 125 [(0, .ref (ad 200)), (1, .int v125_1), (2, .int (Int32.ofNat 6)), (3, .int v125_3)] [] G 0 0 := by
    intro n125
    induction n125 using Nat.strongRecOn with
    | _ n125 ih125 =>
    intro v125_1 v125_3 h0_125 hn125
    subst hn125
    refine y_blk 2 tq_X12_isSoundNow (z := (127, [(0, .ref (ad 200)), (1, .int v125_1), (2, .int (Int32.ofNat 6)), (3, .int v125_3)], [.ref (ad 200), .int v125_1])) rfl ?_
    refine y_get hS tq_X12_isSoundNow (v := .ref (ad 215)) rfl fg_X12_42_X12 hX.m rfl ?_
    refine y_blk 0 tq_X12_isSoundNow (z := (130, [(0, .ref (ad 200)), (1, .int v125_1), (2, .int (Int32.ofNat 6)), (3, .int v125_3)], [.ref (ad 215), .int v125_1])) rfl ?_
    refine y_callF hS tq_X12_isSoundNow rfl (As := []) rfl cf_X12_58 (Or.inl ⟨_, (hX.ls 215 (by decide)).1⟩) (m_Jsize hS (hX.ls 215 (by decide))) rfl (by decide) (Nat.le_of_ble_eq_true rfl) (fun r130 Gc130 q130 => ?_) (fun _ _ h9 => h9.elim)
    obtain ⟨rfl, eG130⟩ := q130
    have eG130 := eG130.symm
    subst eG130
    refine y_blk 0 tq_X12_isSoundNow (z := (135, [(0, .ref (ad 200)), (1, .int v125_1), (2, .int (Int32.ofNat 6)), (3, .int v125_3)], [.int (Int32.ofNat (rZ ρ 215)), .int v125_1])) rfl ?_
    refine y_icmp_ge tq_X12_isSoundNow 166 rfl rfl (fun c135 => ?_) (fun c135 => ?_)
    · skip
      refine y_blk 1 tq_X12_isSoundNow (z := (167, [(0, .ref (ad 200)), (1, .int v125_1), (2, .int (Int32.ofNat 6)), (3, .int v125_3)], [.int 1])) rfl ?_
      exact y_zret tq_X12_isSoundNow rfl rfl (rfl) (⟨⟨_, (Or.inr rfl), rfl⟩, rfl⟩)
    · skip
      have hn135 := hX.2.le10 215 (by decide)
      have b135 : v125_1.toInt < rZ ρ 215 := yIy (by omega) h0_125 c135
      have d135 : Int32.toNatClampNeg v125_1 < rZ ρ 215 := yIx h0_125 b135
      refine y_blk 1 tq_X12_isSoundNow (z := (139, [(0, .ref (ad 200)), (1, .int v125_1), (2, .int (Int32.ofNat 6)), (3, .int v125_3)], [.ref (ad 200)])) rfl ?_
      refine y_get hS tq_X12_isSoundNow (v := .ref (ad 215)) rfl fg_X12_42_X12 hX.m rfl ?_
      refine y_blk 1 tq_X12_isSoundNow (z := (143, [(0, .ref (ad 200)), (1, .int v125_1), (2, .int (Int32.ofNat 6)), (3, .int v125_3)], [.int v125_1, .ref (ad 215)])) rfl ?_
      refine y_callF hS tq_X12_isSoundNow rfl (As := [.int v125_1]) rfl cf_X12_80 (Or.inl ⟨_, (hX.ls 215 (by decide)).1⟩) (m_Rin hS hX (by assumption) (by assumption)) rfl (by decide) (Nat.le_of_ble_eq_true rfl) (fun r143 Gc143 q143 => ?_) (fun _ _ h9 => h9.elim)
      obtain ⟨rfl, eG143⟩ := q143
      have eG143 := eG143.symm
      subst eG143
      have d143 : (Int32.toNatClampNeg v125_1) < rZ ρ 215 := yIx (by assumption) (by assumption)
      refine y_blk 0 tq_X12_isSoundNow (z := (148, [(0, .ref (ad 200)), (1, .int v125_1), (2, .int (Int32.ofNat 6)), (3, .int v125_3)], [.ref (ad (420 + (Int32.toNatClampNeg v125_1)))])) rfl ?_
      refine y_castG hS tq_X12_isSoundNow rfl kc_X12_152 (Or.inl ⟨_, (hX.in (by assumption))⟩) ?_
      refine y_blk 0 tq_X12_isSoundNow (z := (151, [(0, .ref (ad 200)), (1, .int v125_1), (2, .int (Int32.ofNat 6)), (3, .int v125_3)], [.ref (ad (420 + (Int32.toNatClampNeg v125_1)))])) rfl ?_
      refine y_get hS tq_X12_isSoundNow (v := .int (rF ρ (420 + (Int32.toNatClampNeg v125_1)) 2)) rfl fg_X12_266_X11 (hX.in (by assumption)) rfl ?_
      refine y_blk 1 tq_X12_isSoundNow (z := (155, [(0, .ref (ad 200)), (1, .int v125_1), (2, .int (Int32.ofNat 6)), (3, .int v125_3)], [.int 4, .int (rF ρ (420 + (Int32.toNatClampNeg v125_1)) 2)])) rfl ?_
      refine y_icmp_le tq_X12_isSoundNow 160 rfl rfl (fun c155 => ?_) (fun c155 => ?_)
      · skip
        refine y_blk 2 tq_X12_isSoundNow (z := (125, [(1, .int (v125_1 + 1)), (0, .ref (ad 200)), (2, .int (Int32.ofNat 6)), (3, .int v125_3)], [])) rfl ?_
        refine y_pick (L2 := [(0, .ref (ad 200)), (1, .int (v125_1 + 1)), (2, .int (Int32.ofNat 6)), (3, .int v125_3)]) [1, 0, 2, 3] rfl ?_
        exact ih125 _ (by exact ydec c135) (v125_1 + 1) v125_3 (by first | decide | assumption | exact Int.le_refl _ | exact yposgeL (by assumption) c135) rfl
      · skip
        refine y_blk 1 tq_X12_isSoundNow (z := (159, [(0, .ref (ad 200)), (1, .int v125_1), (2, .int (Int32.ofNat 6)), (3, .int v125_3)], [.int 0])) rfl ?_
        exact y_zret tq_X12_isSoundNow rfl rfl (rfl) (⟨⟨_, (Or.inl rfl), rfl⟩, rfl⟩)
  have J82 : ∀ (n82 : Nat) (v82_1 : Int32) (v82_3 : Int32) (h0_82 : 0 ≤ v82_1.toInt), (((Int32.ofNat (rZ ρ 212)) : Int32).toInt - v82_1.toInt).toNat = n82 → Y l S0 D K_X12_isSoundNow 18 0 0 (fun r G1 => (∃ v : Int32, (v = 0 ∨ v = 1) ∧ r = some (.int v)) ∧ G1 = G) (fun _ _ => False) 82 [(0, .ref (ad 200)), (1, .int v82_1), (2, .int (Int32.ofNat 6)), (3, .int v82_3)] [] G 0 0 := by
    intro n82
    induction n82 using Nat.strongRecOn with
    | _ n82 ih82 =>
    intro v82_1 v82_3 h0_82 hn82
    subst hn82
    refine y_blk 2 tq_X12_isSoundNow (z := (84, [(0, .ref (ad 200)), (1, .int v82_1), (2, .int (Int32.ofNat 6)), (3, .int v82_3)], [.ref (ad 200), .int v82_1])) rfl ?_
    refine y_get hS tq_X12_isSoundNow (v := .ref (ad 212)) rfl fg_X12_27_X12 hX.m rfl ?_
    refine y_blk 0 tq_X12_isSoundNow (z := (87, [(0, .ref (ad 200)), (1, .int v82_1), (2, .int (Int32.ofNat 6)), (3, .int v82_3)], [.ref (ad 212), .int v82_1])) rfl ?_
    refine y_callF hS tq_X12_isSoundNow rfl (As := []) rfl cf_X12_58 (Or.inl ⟨_, (hX.ls 212 (by decide)).1⟩) (m_Jsize hS (hX.ls 212 (by decide))) rfl (by decide) (Nat.le_of_ble_eq_true rfl) (fun r87 Gc87 q87 => ?_) (fun _ _ h9 => h9.elim)
    obtain ⟨rfl, eG87⟩ := q87
    have eG87 := eG87.symm
    subst eG87
    refine y_blk 0 tq_X12_isSoundNow (z := (92, [(0, .ref (ad 200)), (1, .int v82_1), (2, .int (Int32.ofNat 6)), (3, .int v82_3)], [.int (Int32.ofNat (rZ ρ 212)), .int v82_1])) rfl ?_
    refine y_icmp_ge tq_X12_isSoundNow 123 rfl rfl (fun c92 => ?_) (fun c92 => ?_)
    · skip
      refine y_blk 2 tq_X12_isSoundNow (z := (125, [(1, .int 0), (0, .ref (ad 200)), (2, .int (Int32.ofNat 6)), (3, .int v82_3)], [])) rfl ?_
      refine y_pick (L2 := [(0, .ref (ad 200)), (1, .int 0), (2, .int (Int32.ofNat 6)), (3, .int v82_3)]) [1, 0, 2, 3] rfl ?_
      exact J125 _ 0 v82_3 (by first | decide | assumption | exact Int.le_refl _ | exact yposgeL (by assumption) c135) rfl
    · skip
      have hn92 := hX.2.le10 212 (by decide)
      have b92 : v82_1.toInt < rZ ρ 212 := yIy (by omega) h0_82 c92
      have d92 : Int32.toNatClampNeg v82_1 < rZ ρ 212 := yIx h0_82 b92
      refine y_blk 1 tq_X12_isSoundNow (z := (96, [(0, .ref (ad 200)), (1, .int v82_1), (2, .int (Int32.ofNat 6)), (3, .int v82_3)], [.ref (ad 200)])) rfl ?_
      refine y_get hS tq_X12_isSoundNow (v := .ref (ad 212)) rfl fg_X12_27_X12 hX.m rfl ?_
      refine y_blk 1 tq_X12_isSoundNow (z := (100, [(0, .ref (ad 200)), (1, .int v82_1), (2, .int (Int32.ofNat 6)), (3, .int v82_3)], [.int v82_1, .ref (ad 212)])) rfl ?_
      refine y_callF hS tq_X12_isSoundNow rfl (As := [.int v82_1]) rfl cf_X12_80 (Or.inl ⟨_, (hX.ls 212 (by decide)).1⟩) (m_Rgu hS hX (by assumption) (by assumption)) rfl (by decide) (Nat.le_of_ble_eq_true rfl) (fun r100 Gc100 q100 => ?_) (fun _ _ h9 => h9.elim)
      obtain ⟨rfl, eG100⟩ := q100
      have eG100 := eG100.symm
      subst eG100
      have d100 : (Int32.toNatClampNeg v82_1) < rZ ρ 212 := yIx (by assumption) (by assumption)
      refine y_blk 0 tq_X12_isSoundNow (z := (105, [(0, .ref (ad 200)), (1, .int v82_1), (2, .int (Int32.ofNat 6)), (3, .int v82_3)], [.ref (ad (360 + (Int32.toNatClampNeg v82_1)))])) rfl ?_
      refine y_castG hS tq_X12_isSoundNow rfl kc_X12_84 (Or.inl ⟨_, (hX.gu (by assumption))⟩) ?_
      refine y_blk 0 tq_X12_isSoundNow (z := (108, [(0, .ref (ad 200)), (1, .int v82_1), (2, .int (Int32.ofNat 6)), (3, .int v82_3)], [.ref (ad (360 + (Int32.toNatClampNeg v82_1)))])) rfl ?_
      refine y_get hS tq_X12_isSoundNow (v := .int (rF ρ (360 + (Int32.toNatClampNeg v82_1)) 3)) rfl fg_X12_86_X10 (hX.gu (by assumption)) rfl ?_
      refine y_blk 1 tq_X12_isSoundNow (z := (112, [(0, .ref (ad 200)), (1, .int v82_1), (2, .int (Int32.ofNat 6)), (3, .int v82_3)], [.int 3, .int (rF ρ (360 + (Int32.toNatClampNeg v82_1)) 3)])) rfl ?_
      refine y_icmp_le tq_X12_isSoundNow 117 rfl rfl (fun c112 => ?_) (fun c112 => ?_)
      · skip
        refine y_blk 2 tq_X12_isSoundNow (z := (82, [(1, .int (v82_1 + 1)), (0, .ref (ad 200)), (2, .int (Int32.ofNat 6)), (3, .int v82_3)], [])) rfl ?_
        refine y_pick (L2 := [(0, .ref (ad 200)), (1, .int (v82_1 + 1)), (2, .int (Int32.ofNat 6)), (3, .int v82_3)]) [1, 0, 2, 3] rfl ?_
        exact ih82 _ (by exact ydec c92) (v82_1 + 1) v82_3 (by first | decide | assumption | exact Int.le_refl _ | exact yposgeL (by assumption) c92) rfl
      · skip
        refine y_blk 1 tq_X12_isSoundNow (z := (116, [(0, .ref (ad 200)), (1, .int v82_1), (2, .int (Int32.ofNat 6)), (3, .int v82_3)], [.int 0])) rfl ?_
        exact y_zret tq_X12_isSoundNow rfl rfl (rfl) (⟨⟨_, (Or.inl rfl), rfl⟩, rfl⟩)
  have J47 : ∀ (n47 : Nat) (v47_3 : Int32) (h0_47 : 0 ≤ v47_3.toInt), (((Int32.ofNat 6) : Int32).toInt - v47_3.toInt).toNat = n47 → Y l S0 D K_X12_isSoundNow 18 0 0 (fun r G1 => (∃ v : Int32, (v = 0 ∨ v = 1) ∧ r = some (.int v)) ∧ G1 = G) (fun _ _ => False) 47 [(0, .ref (ad 200)), (1, .ref (ad 203)), (2, .int (Int32.ofNat 6)), (3, .int v47_3)] [] G 0 0 := by
    intro n47
    induction n47 using Nat.strongRecOn with
    | _ n47 ih47 =>
    intro v47_3 h0_47 hn47
    subst hn47
    have J74 : ∀ (v74_4 : Int32) (c49 : ¬ ((Int32.ofNat 6) : Int32) ≤ v47_3), Y l S0 D K_X12_isSoundNow 18 0 0 (fun r G1 => (∃ v : Int32, (v = 0 ∨ v = 1) ∧ r = some (.int v)) ∧ G1 = G) (fun _ _ => False) 74 [(0, .ref (ad 200)), (1, .ref (ad 203)), (2, .int (Int32.ofNat 6)), (3, .int v47_3), (4, .int v74_4)] [] G 0 0 := by
      intro v74_4 c49
      refine y_blk 2 tq_X12_isSoundNow (z := (47, [(3, .int (v47_3 + 1)), (0, .ref (ad 200)), (1, .ref (ad 203)), (2, .int (Int32.ofNat 6)), (4, .int v74_4)], [])) rfl ?_
      refine y_pick (L2 := [(0, .ref (ad 200)), (1, .ref (ad 203)), (2, .int (Int32.ofNat 6)), (3, .int (v47_3 + 1))]) [1, 2, 3, 0] rfl ?_
      exact ih47 _ (by exact ydec c49) (v47_3 + 1) (by first | decide | assumption | exact Int.le_refl _ | exact yposgeL (by assumption) c49) rfl
    refine y_blk 2 tq_X12_isSoundNow (z := (49, [(0, .ref (ad 200)), (1, .ref (ad 203)), (2, .int (Int32.ofNat 6)), (3, .int v47_3)], [.int (Int32.ofNat 6), .int v47_3])) rfl ?_
    refine y_icmp_ge tq_X12_isSoundNow 80 rfl rfl (fun c49 => ?_) (fun c49 => ?_)
    · skip
      refine y_blk 2 tq_X12_isSoundNow (z := (82, [(1, .int 0), (0, .ref (ad 200)), (2, .int (Int32.ofNat 6)), (3, .int v47_3)], [])) rfl ?_
      refine y_pick (L2 := [(0, .ref (ad 200)), (1, .int 0), (2, .int (Int32.ofNat 6)), (3, .int v47_3)]) [1, 0, 2, 3] rfl ?_
      exact J82 _ 0 v47_3 (by first | decide | assumption | exact Int.le_refl _ | exact yposgeL (by assumption) c92) rfl
    · skip
      have b49 : v47_3.toInt < ((6 : Nat) : Int) := yIy (by decide) h0_47 c49
      refine y_blk 2 tq_X12_isSoundNow (z := (54, [(0, .ref (ad 200)), (1, .ref (ad 203)), (2, .int (Int32.ofNat 6)), (3, .int v47_3)], [.int v47_3, .ref (ad 203)])) rfl ?_
      refine y_iald hS tq_X12_isSoundNow rfl hX.ke (by first | exact yIn (by decide) (by decide) | exact yIn (by assumption) (by assumption) | (exact yIn (by omega) (by omega))) ?_
      refine y_blk 3 tq_X12_isSoundNow (z := (60, [(4, .int ((rV ρ 203) (Int32.toNatClampNeg v47_3))), (0, .ref (ad 200)), (1, .ref (ad 203)), (2, .int (Int32.ofNat 6)), (3, .int v47_3)], [.int (-1), .int ((rV ρ 203) (Int32.toNatClampNeg v47_3))])) rfl ?_
      refine y_icmp_eq tq_X12_isSoundNow 74 rfl rfl (fun c60 => ?_) (fun c60 => ?_)
      · skip
        refine y_blk 0 tq_X12_isSoundNow (z := (74, [(4, .int ((rV ρ 203) (Int32.toNatClampNeg v47_3))), (0, .ref (ad 200)), (1, .ref (ad 203)), (2, .int (Int32.ofNat 6)), (3, .int v47_3)], [])) rfl ?_
        refine y_pick (L2 := [(0, .ref (ad 200)), (1, .ref (ad 203)), (2, .int (Int32.ofNat 6)), (3, .int v47_3), (4, .int ((rV ρ 203) (Int32.toNatClampNeg v47_3)))]) [1, 2, 3, 4, 0] rfl ?_
        exact J74 ((rV ρ 203) (Int32.toNatClampNeg v47_3)) (by exact c49)
      · skip
        refine y_blk 2 tq_X12_isSoundNow (z := (66, [(4, .int ((rV ρ 203) (Int32.toNatClampNeg v47_3))), (0, .ref (ad 200)), (1, .ref (ad 203)), (2, .int (Int32.ofNat 6)), (3, .int v47_3)], [.int ((rV ρ 203) (Int32.toNatClampNeg v47_3)), .ref (ad 200)])) rfl ?_
        refine y_callV hS tq_X12_isSoundNow rfl (As := [.int ((rV ρ 203) (Int32.toNatClampNeg v47_3))]) rfl cv_X12_176 hX.m (m_X12_isGuard hS hI hX ((rV ρ 203) (Int32.toNatClampNeg v47_3))) rfl (by decide) (Nat.le_of_ble_eq_true rfl) (fun r66 Gc66 q66 => ?_) (fun E9 G9 h9 => h9.elim)
        obtain ⟨rfl, eG66⟩ := q66
        have eG66 := eG66.symm
        subst eG66
        refine y_blk 0 tq_X12_isSoundNow (z := (69, [(4, .int ((rV ρ 203) (Int32.toNatClampNeg v47_3))), (0, .ref (ad 200)), (1, .ref (ad 203)), (2, .int (Int32.ofNat 6)), (3, .int v47_3)], [.int (if 0 ≤ ((rV ρ 203) (Int32.toNatClampNeg v47_3)) ∧ ((rV ρ 203) (Int32.toNatClampNeg v47_3)) ≤ (Int32.ofNat (rZ ρ 212)) - 1 then 1 else 0)])) rfl ?_
        refine y_if_ne tq_X12_isSoundNow 74 rfl rfl (fun c69 => ?_) (fun c69 => ?_)
        · skip
          refine y_blk 0 tq_X12_isSoundNow (z := (74, [(4, .int ((rV ρ 203) (Int32.toNatClampNeg v47_3))), (0, .ref (ad 200)), (1, .ref (ad 203)), (2, .int (Int32.ofNat 6)), (3, .int v47_3)], [])) rfl ?_
          refine y_pick (L2 := [(0, .ref (ad 200)), (1, .ref (ad 203)), (2, .int (Int32.ofNat 6)), (3, .int v47_3), (4, .int ((rV ρ 203) (Int32.toNatClampNeg v47_3)))]) [1, 2, 3, 4, 0] rfl ?_
          exact J74 ((rV ρ 203) (Int32.toNatClampNeg v47_3)) (by exact c49)
        · skip
          refine y_blk 1 tq_X12_isSoundNow (z := (73, [(4, .int ((rV ρ 203) (Int32.toNatClampNeg v47_3))), (0, .ref (ad 200)), (1, .ref (ad 203)), (2, .int (Int32.ofNat 6)), (3, .int v47_3)], [.int 0])) rfl ?_
          exact y_zret tq_X12_isSoundNow rfl rfl (rfl) (⟨⟨_, (Or.inl rfl), rfl⟩, rfl⟩)
  have J2 : ∀ (n2 : Nat) (v2_1 : Int32) (h0_2 : 0 ≤ v2_1.toInt), (((Int32.ofNat (rZ ρ 201)) : Int32).toInt - v2_1.toInt).toNat = n2 → Y l S0 D K_X12_isSoundNow 18 0 0 (fun r G1 => (∃ v : Int32, (v = 0 ∨ v = 1) ∧ r = some (.int v)) ∧ G1 = G) (fun _ _ => False) 2 [(0, .ref (ad 200)), (1, .int v2_1)] [] G 0 0 := by
    intro n2
    induction n2 using Nat.strongRecOn with
    | _ n2 ih2 =>
    intro v2_1 h0_2 hn2
    subst hn2
    have J31 : ∀ (c8 : ¬ ((Int32.ofNat (rZ ρ 201)) : Int32) ≤ v2_1), Y l S0 D K_X12_isSoundNow 18 0 0 (fun r G1 => (∃ v : Int32, (v = 0 ∨ v = 1) ∧ r = some (.int v)) ∧ G1 = G) (fun _ _ => False) 31 [(0, .ref (ad 200)), (1, .int v2_1)] [] G 0 0 := by
      intro c8
      have hn8 := hX.2.n64
      have b8 : v2_1.toInt < rZ ρ 201 := yIy (by omega) h0_2 c8
      have d8 : Int32.toNatClampNeg v2_1 < rZ ρ 201 := yIx h0_2 b8
      have e8 : rcell ρ v2_1 := ⟨h0_2, b8⟩
      refine y_blk 2 tq_X12_isSoundNow (z := (2, [(1, .int (v2_1 + 1)), (0, .ref (ad 200))], [])) rfl ?_
      refine y_pick (L2 := [(0, .ref (ad 200)), (1, .int (v2_1 + 1))]) [1, 0] rfl ?_
      exact ih2 _ (by exact ydec c8) (v2_1 + 1) (by first | decide | assumption | exact Int.le_refl _ | exact yposgeL (by assumption) c8) rfl
    refine y_blk 2 tq_X12_isSoundNow (z := (4, [(0, .ref (ad 200)), (1, .int v2_1)], [.ref (ad 200), .int v2_1])) rfl ?_
    refine y_get hS tq_X12_isSoundNow (v := .ref (ad 201)) rfl fg_X12_7_X12 hX.m rfl ?_
    refine y_blk 0 tq_X12_isSoundNow (z := (7, [(0, .ref (ad 200)), (1, .int v2_1)], [.ref (ad 201), .int v2_1])) rfl ?_
    refine y_alen hS tq_X12_isSoundNow 0 rfl rfl hX.ki ?_
    refine y_blk 0 tq_X12_isSoundNow (z := (8, [(0, .ref (ad 200)), (1, .int v2_1)], [.int (Int32.ofNat (rZ ρ 201)), .int v2_1])) rfl ?_
    refine y_icmp_ge tq_X12_isSoundNow 37 rfl rfl (fun c8 => ?_) (fun c8 => ?_)
    · skip
      refine y_blk 1 tq_X12_isSoundNow (z := (38, [(0, .ref (ad 200)), (1, .int v2_1)], [.ref (ad 200)])) rfl ?_
      refine y_get hS tq_X12_isSoundNow (v := .ref (ad 203)) rfl fg_X12_39_X12 hX.m rfl ?_
      refine y_blk 2 tq_X12_isSoundNow (z := (43, [(1, .ref (ad 203)), (0, .ref (ad 200))], [.ref (ad 203)])) rfl ?_
      refine y_alen hS tq_X12_isSoundNow 0 rfl rfl hX.ke ?_
      refine y_blk 3 tq_X12_isSoundNow (z := (47, [(3, .int 0), (2, .int (Int32.ofNat 6)), (1, .ref (ad 203)), (0, .ref (ad 200))], [])) rfl ?_
      refine y_pick (L2 := [(0, .ref (ad 200)), (1, .ref (ad 203)), (2, .int (Int32.ofNat 6)), (3, .int 0)]) [3, 2, 1, 0] rfl ?_
      exact J47 _ 0 (by first | decide | assumption | exact Int.le_refl _ | exact yposgeL (by assumption) c49) rfl
    · skip
      have hn8 := hX.2.n64
      have b8 : v2_1.toInt < rZ ρ 201 := yIy (by omega) h0_2 c8
      have d8 : Int32.toNatClampNeg v2_1 < rZ ρ 201 := yIx h0_2 b8
      have e8 : rcell ρ v2_1 := ⟨h0_2, b8⟩
      refine y_blk 1 tq_X12_isSoundNow (z := (12, [(0, .ref (ad 200)), (1, .int v2_1)], [.ref (ad 200)])) rfl ?_
      refine y_get hS tq_X12_isSoundNow (v := .ref (ad 201)) rfl fg_X12_7_X12 hX.m rfl ?_
      refine y_blk 1 tq_X12_isSoundNow (z := (16, [(0, .ref (ad 200)), (1, .int v2_1)], [.int v2_1, .ref (ad 201)])) rfl ?_
      refine y_iald hS tq_X12_isSoundNow rfl hX.ki (by first | exact yIn (by decide) (by decide) | exact yIn (by assumption) (by assumption) | (exact yIn (by omega) (by omega))) ?_
      refine y_blk 1 tq_X12_isSoundNow (z := (18, [(0, .ref (ad 200)), (1, .int v2_1)], [.int 1, .int ((rV ρ 201) (Int32.toNatClampNeg v2_1))])) rfl ?_
      refine y_icmp_ne tq_X12_isSoundNow 31 rfl rfl (fun c18 => ?_) (fun c18 => ?_)
      · skip
        refine y_blk 0 tq_X12_isSoundNow (z := (31, [(0, .ref (ad 200)), (1, .int v2_1)], [])) rfl ?_
        exact J31 (by exact c8)
      · skip
        refine y_blk 2 tq_X12_isSoundNow (z := (23, [(0, .ref (ad 200)), (1, .int v2_1)], [.int v2_1, .ref (ad 200)])) rfl ?_
        refine y_callV hS tq_X12_isSoundNow rfl (As := [.int v2_1]) rfl cv_X12_160 hX.m (m_X12_isTaken hS hI hX v2_1) rfl (by decide) (Nat.le_of_ble_eq_true rfl) (fun r23 Gc23 q23 => ?_) (fun E9 G9 h9 => h9.elim)
        obtain ⟨⟨x23, hb_x23, hr_x23, rfl⟩, eG23⟩ := q23
        have eG23 := eG23.symm
        subst eG23
        refine y_blk 0 tq_X12_isSoundNow (z := (26, [(0, .ref (ad 200)), (1, .int v2_1)], [.int x23])) rfl ?_
        refine y_if_eq tq_X12_isSoundNow 31 rfl rfl (fun c26 => ?_) (fun c26 => ?_)
        · skip
          refine y_blk 0 tq_X12_isSoundNow (z := (31, [(0, .ref (ad 200)), (1, .int v2_1)], [])) rfl ?_
          exact J31 (by exact c8)
        · skip
          refine y_blk 1 tq_X12_isSoundNow (z := (30, [(0, .ref (ad 200)), (1, .int v2_1)], [.int 0])) rfl ?_
          exact y_zret tq_X12_isSoundNow rfl rfl (rfl) (⟨⟨_, (Or.inl rfl), rfl⟩, rfl⟩)
  refine y_blk 2 tq_X12_isSoundNow (z := (2, [(1, .int 0), (0, .ref (ad 200))], [])) rfl ?_
  refine y_pick (L2 := [(0, .ref (ad 200)), (1, .int 0)]) [1, 0] rfl ?_
  exact J2 _ 0 (by first | decide | assumption | exact Int.le_refl _ | exact yposgeL (by assumption) c8) rfl
