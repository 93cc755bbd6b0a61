/-! ===== contracts of the reference: small ones ===== -/
theorem yposgeL {x n : Int32} {c : Int} (h : c ≤ x.toInt) (h2 : ¬ n ≤ x) : c ≤ (x + 1).toInt := by
  rw [yle] at h2
  have h3 := yrng n
  have h4 := yrng x
  rw [yadd (by rw [yl_1]; omega) (by rw [yl_1]; omega), yl_1]
  omega
theorem yposgtL {x n : Int32} {c : Int} (h : c ≤ x.toInt) (h2 : ¬ n < x) (h3 : n.toInt < 2147483647) : c ≤ (x + 1).toInt := by
  rw [ylt] at h2
  have h4 := yrng x
  rw [yadd (by rw [yl_1]; omega) (by rw [yl_1]; omega), yl_1]
  omega
theorem yif0' (c : Prop) [Decidable c] : (if c then (1 : Int32) else 0) = 0 ↔ ¬ c := by
  by_cases h : c
  · rw [if_pos h]; exact ⟨fun q => absurd q (by decide), fun q => absurd h q⟩
  · rw [if_neg h]; exact ⟨fun _ => h, fun _ => rfl⟩
theorem yif1 {c : Prop} [Decidable c] (h : ¬ (if c then (1 : Int32) else 0) = 0) : c := Classical.not_not.mp fun q => h ((yif0' c).mpr q)
/-- what 'is a cell / guard / intruder' says -/
theorem yinN {k9 : Int32} {n : Nat} (hn : n ≤ 1000) (h : 0 ≤ k9 ∧ k9 ≤ Int32.ofNat n - 1) : 0 ≤ k9.toInt ∧ k9.toInt < n := by
  obtain ⟨h1, h2⟩ := h
  rw [yle, yl_0] at h1
  rw [yle, ysub (by rw [yofn hn, yl_1]; omega) (by rw [yofn hn, yl_1]; omega), yofn hn, yl_1] at h2
  omega
/-! ===== what the reference's isTaken says ===== -/
/-- where an intruder is at a minute -/
def rwh (ρ : RS) (k m : Nat) : Int32 := if (m : Int) < (rF ρ (420 + k) 0).toInt then -1 else rV ρ (440 + k) m
def rfA (ρ : RS) (cell : Int32) (n : Nat) : Prop := ∀ k : Nat, k < n → ¬ rV ρ (300 + k) 0 = cell
def rfB (ρ : RS) (cell : Int32) (n : Nat) : Prop := ∀ k : Nat, k < n → ¬ rV ρ 213 k = cell
def rfCi (ρ : RS) (cell : Int32) (k n : Nat) : Prop := ∀ i : Nat, i < n → ¬ rV ρ (380 + k) i = cell
def rfC (ρ : RS) (cell : Int32) (n : Nat) : Prop := ∀ k : Nat, k < n → rfCi ρ cell k (rZ ρ (380 + k))
def rfDi (ρ : RS) (cell : Int32) (k n : Nat) : Prop := ∀ m : Nat, m < n → ¬ rwh ρ k m = cell
def rfD (ρ : RS) (cell : Int32) (n : Nat) : Prop := ∀ k : Nat, k < n → rfDi ρ cell k 240
/-- the cell isn't taken -/
def rfree (ρ : RS) (cell : Int32) : Prop := rfA ρ cell (rZ ρ 210) ∧ rfB ρ cell (rZ ρ 213) ∧ rfC ρ cell (rZ ρ 212) ∧ rfD ρ cell (rZ ρ 215)
/-- a thing for all numbers below, one more -/
theorem allS {P : Nat → Prop} {v N : Int32} (h : ∀ k : Nat, k < v.toInt.toNat → P k) (h0 : 0 ≤ v.toInt) (c : ¬ N ≤ v) (hv : P (Int32.toNatClampNeg v)) : ∀ k : Nat, k < (v + 1).toInt.toNat → P k := by
  have e1 : (1 : Int32).toInt = 1 := by decide
  have hN := yrng N
  rw [yle] at c
  have e : (v + 1).toInt = v.toInt + 1 := by rw [yadd (by omega) (by omega), e1]
  have ek : Int32.toNatClampNeg v = v.toInt.toNat := rfl
  intro k hk
  by_cases q : k = v.toInt.toNat
  · rw [q, ← ek]
    exact hv
  · exact h k (by omega)
theorem allSg {P : Nat → Prop} {v N : Int32} (h : ∀ k : Nat, k < v.toInt.toNat → P k) (h0 : 0 ≤ v.toInt) (hN : N.toInt ≤ 1000) (c : ¬ N < v) (hv : P (Int32.toNatClampNeg v)) : ∀ k : Nat, k < (v + 1).toInt.toNat → P k := by
  have e1 : (1 : Int32).toInt = 1 := by decide
  rw [ylt] at c
  have e : (v + 1).toInt = v.toInt + 1 := by rw [yadd (by omega) (by omega), e1]
  have ek : Int32.toNatClampNeg v = v.toInt.toNat := rfl
  intro k hk
  by_cases q : k = v.toInt.toNat
  · rw [q, ← ek]
    exact hv
  · exact h k (by omega)
theorem all0 {P : Nat → Prop} : ∀ k : Nat, k < (0 : Int32).toInt.toNat → P k := by
  have e0 : (0 : Int32).toInt.toNat = 0 := by decide
  intro k hk
  rw [e0] at hk
  exact absurd hk (Nat.not_lt_zero _)
theorem allN {P : Nat → Prop} {v : Int32} {n : Nat} (h : ∀ k : Nat, k < v.toInt.toNat → P k) (hn : n ≤ 1000) (c : Int32.ofNat n ≤ v) : ∀ k : Nat, k < n → P k := by
  intro k hk
  have e := yofNat (n := n) (by omega)
  rw [yle, e] at c
  exact h k (by omega)
theorem allG {P : Nat → Prop} {v : Int32} (h : ∀ k : Nat, k < v.toInt.toNat → P k) (c : (239 : Int32) < v) : ∀ k : Nat, k < 240 → P k := by
  intro k hk
  have e : (239 : Int32).toInt = 239 := by decide
  rw [ylt, e] at c
  exact h k (by omega)
/-- where a guard stands at a minute -/
def rpl (ρ : RS) (k : Nat) (m : Int32) : Int32 := if rF ρ (360 + k) 0 ≤ m ∧ m ≤ rF ρ (360 + k) 1 then rV ρ (380 + k) (Int32.toNatClampNeg ((m - rF ρ (360 + k) 0) / rF ρ (360 + k) 2 - (m - rF ρ (360 + k) 0) / rF ρ (360 + k) 2 / Int32.ofNat (rZ ρ (380 + k)) * Int32.ofNat (rZ ρ (380 + k)))) else -1
theorem rif0 {c : Prop} [Decidable c] (h : (if c then (1 : Int32) else 0) = 0) : ¬ c := (yif0' c).mp h
set_option maxHeartbeats 4000000 in
set_option maxRecDepth 100000 in
theorem m_J6_signum_0f7a4 {l : Launch} {S0 : State} {A0 : Array Value} {D : va_G} {aC : Nat → ClassId} {G : AH} (hS : yS l S0 A0 D aC) (i : Int32) : yM l S0 D yJ6_signum_0f7a4 cJ6_signum_0f7a4 1 (some .int) 16 0 0 [.int i] G (fun r G1 => r = some (.int (ysg i)) ∧ G1 = G) (fun _ _ => False) := by
  refine yM.ofK K_J6_signum_0f7a4 rfl (by decide) (Nat.le_of_ble_eq_true rfl) ?_
  refine y_blk 8 tq_J6_signum_0f7a4 (z := (10, [(0, .int i)], [.int ((i >>> (31 &&& 31)) ||| ((Int32.toUInt32 (-i) >>> (Int32.toUInt32 31 &&& Int32.toUInt32 31)).toInt32))])) rfl ?_
  exact y_iret tq_J6_signum_0f7a4 rfl rfl (⟨rfl, rfl⟩)
set_option maxHeartbeats 4000000 in
set_option maxRecDepth 100000 in
theorem m_X12_in {l : Launch} {S0 : State} {A0 : Array Value} {D : va_G} {aC : Nat → ClassId} {G : AH} (hS : yS l S0 A0 D aC) (k9 : Int32) (low : Int32) (high : Int32) : yM l S0 D yX12_in cX12_in 3 (some .boolean) 16 0 0 [.int k9, .int low, .int high] G (fun r G1 => r = some (.int (if low ≤ k9 ∧ k9 ≤ high then 1 else 0)) ∧ G1 = G) (fun _ _ => False) := by
  refine yM.ofK K_X12_in rfl (by decide) (Nat.le_of_ble_eq_true rfl) ?_
  refine y_blk 2 tq_X12_in (z := (2, [(0, .int k9), (1, .int low), (2, .int high)], [.int low, .int k9])) rfl ?_
  refine y_icmp_lt tq_X12_in 14 rfl rfl (fun c2 => ?_) (fun c2 => ?_)
  · skip
    refine y_blk 1 tq_X12_in (z := (15, [(0, .int k9), (1, .int low), (2, .int high)], [.int 0])) rfl ?_
    exact y_zret tq_X12_in rfl rfl (rfl) (⟨by first | rfl | (congr 2; (repeat' split) <;> first | rfl | (exfalso; simp only [ylt, yle, Classical.not_not] at *; omega)), rfl⟩)
  · skip
    refine y_blk 2 tq_X12_in (z := (7, [(0, .int k9), (1, .int low), (2, .int high)], [.int high, .int k9])) rfl ?_
    refine y_icmp_gt tq_X12_in 14 rfl rfl (fun c7 => ?_) (fun c7 => ?_)
    · skip
      refine y_blk 1 tq_X12_in (z := (15, [(0, .int k9), (1, .int low), (2, .int high)], [.int 0])) rfl ?_
      exact y_zret tq_X12_in rfl rfl (rfl) (⟨by first | rfl | (congr 2; (repeat' split) <;> first | rfl | (exfalso; simp only [ylt, yle, Classical.not_not] at *; omega)), rfl⟩)
    · skip
      refine y_blk 2 tq_X12_in (z := (15, [(0, .int k9), (1, .int low), (2, .int high)], [.int 1])) rfl ?_
      exact y_zret tq_X12_in rfl rfl (rfl) (⟨by first | rfl | (congr 2; (repeat' split) <;> first | rfl | (exfalso; simp only [ylt, yle, Classical.not_not] at *; omega)), rfl⟩)
set_option maxHeartbeats 4000000 in
set_option maxRecDepth 100000 in
theorem m_X12_isMinute {l : Launch} {S0 : State} {A0 : Array Value} {D : va_G} {aC : Nat → ClassId} {G : AH} (hS : yS l S0 A0 D aC) (k9 : Int32) : yM l S0 D yX12_isMinute cX12_isMinute 1 (some .boolean) 17 0 0 [.int k9] G (fun r G1 => r = some (.int (if 0 ≤ k9 ∧ k9 ≤ 239 then 1 else 0)) ∧ G1 = G) (fun _ _ => False) := by
  refine yM.ofK K_X12_isMinute rfl (by decide) (Nat.le_of_ble_eq_true rfl) ?_
  refine y_blk 3 tq_X12_isMinute (z := (5, [(0, .int k9)], [.int 239, .int 0, .int k9])) rfl ?_
  refine y_callS hS tq_X12_isMinute rfl (As := [.int k9, .int 0, .int 239]) rfl cs_X12_54 (m_X12_in hS k9 0 239) rfl (by decide) (Nat.le_of_ble_eq_true rfl) (fun r5 Gc5 q5 => ?_) (fun E9 G9 h9 => h9.elim)
  obtain ⟨rfl, eG5⟩ := q5
  have eG5 := eG5.symm
  subst eG5
  refine y_blk 0 tq_X12_isMinute (z := (8, [(0, .int k9)], [.int (if 0 ≤ k9 ∧ k9 ≤ 239 then 1 else 0)])) rfl ?_
  exact y_zret tq_X12_isMinute rfl rfl (y01 (y01i _)) (⟨rfl, rfl⟩)
set_option maxHeartbeats 4000000 in
set_option maxRecDepth 100000 in
theorem m_X12_after {l : Launch} {S0 : State} {A0 : Array Value} {D : va_G} {aC : Nat → ClassId} {G : AH} (hS : yS l S0 A0 D aC) (number : Int32) : yM l S0 D yX12_after cX12_after 1 (some .int) 16 0 0 [.int number] G (fun r G1 => r = some (.int ((23 * number + 15) - (23 * number + 15) / 97 * 97)) ∧ G1 = G) (fun _ _ => False) := by
  refine yM.ofK K_X12_after rfl (by decide) (Nat.le_of_ble_eq_true rfl) ?_
  refine y_blk 6 tq_X12_after (z := (9, [(0, .int number)], [.int 97, .int ((23 * number) + 15)])) rfl ?_
  refine y_irem tq_X12_after rfl (by decide) ?_
  refine y_blk 0 tq_X12_after (z := (10, [(0, .int number)], [.int (((23 * number) + 15) - ((23 * number) + 15) / 97 * 97)])) rfl ?_
  exact y_iret tq_X12_after rfl rfl (⟨rfl, rfl⟩)
set_option maxHeartbeats 4000000 in
set_option maxRecDepth 100000 in
theorem m_X12_isCell {l : Launch} {S0 : State} {A0 : Array Value} {D : va_G} {aC : Nat → ClassId} {ic : Int32 → Nat} {de : Nat} {ad : Nat → Nat} {G : AH} {ρ : RS} (hS : yS l S0 A0 D aC) (hI : yIc S0 ic de) (hX : atR aC ic de ad G ρ) (k9 : Int32) : yM l S0 D yX12_isCell cX12_isCell 2 (some .boolean) 17 0 0 [.ref (ad 200), .int k9] G (fun r G1 => r = some (.int (if 0 ≤ k9 ∧ k9 ≤ (Int32.ofNat (rZ ρ 201)) - 1 then 1 else 0)) ∧ G1 = G) (fun _ _ => False) := by
  refine yM.ofK K_X12_isCell rfl (by decide) (Nat.le_of_ble_eq_true rfl) ?_
  refine y_blk 3 tq_X12_isCell (z := (3, [(0, .ref (ad 200)), (1, .int k9)], [.ref (ad 200), .int 0, .int k9])) rfl ?_
  refine y_get hS tq_X12_isCell (v := .ref (ad 201)) rfl fg_X12_7_X12 hX.m rfl ?_
  refine y_blk 0 tq_X12_isCell (z := (6, [(0, .ref (ad 200)), (1, .int k9)], [.ref (ad 201), .int 0, .int k9])) rfl ?_
  refine y_alen hS tq_X12_isCell 0 rfl rfl hX.ki ?_
  refine y_blk 2 tq_X12_isCell (z := (9, [(0, .ref (ad 200)), (1, .int k9)], [.int ((Int32.ofNat (rZ ρ 201)) - 1), .int 0, .int k9])) rfl ?_
  refine y_callS hS tq_X12_isCell rfl (As := [.int k9, .int 0, .int ((Int32.ofNat (rZ ρ 201)) - 1)]) rfl cs_X12_54 (m_X12_in hS k9 0 ((Int32.ofNat (rZ ρ 201)) - 1)) rfl (by decide) (Nat.le_of_ble_eq_true rfl) (fun r9 Gc9 q9 => ?_) (fun E9 G9 h9 => h9.elim)
  obtain ⟨rfl, eG9⟩ := q9
  have eG9 := eG9.symm
  subst eG9
  refine y_blk 0 tq_X12_isCell (z := (12, [(0, .ref (ad 200)), (1, .int k9)], [.int (if 0 ≤ k9 ∧ k9 ≤ ((Int32.ofNat (rZ ρ 201)) - 1) then 1 else 0)])) rfl ?_
  exact y_zret tq_X12_isCell rfl rfl (y01 (y01i _)) (⟨rfl, rfl⟩)
set_option maxHeartbeats 4000000 in
set_option maxRecDepth 100000 in
theorem m_X12_isGuard {l : Launch} {S0 : State} {A0 : Array Value} {D : va_G} {aC : Nat → ClassId} {ic : Int32 → Nat} {de : Nat} {ad : Nat → Nat} {G : AH} {ρ : RS} (hS : yS l S0 A0 D aC) (hI : yIc S0 ic de) (hX : atR aC ic de ad G ρ) (k9 : Int32) : yM l S0 D yX12_isGuard cX12_isGuard 2 (some .boolean) 17 0 0 [.ref (ad 200), .int k9] G (fun r G1 => r = some (.int (if 0 ≤ k9 ∧ k9 ≤ (Int32.ofNat (rZ ρ 212)) - 1 then 1 else 0)) ∧ G1 = G) (fun _ _ => False) := by
  refine yM.ofK K_X12_isGuard rfl (by decide) (Nat.le_of_ble_eq_true rfl) ?_
  refine y_blk 3 tq_X12_isGuard (z := (3, [(0, .ref (ad 200)), (1, .int k9)], [.ref (ad 200), .int 0, .int k9])) rfl ?_
  refine y_get hS tq_X12_isGuard (v := .ref (ad 212)) rfl fg_X12_27_X12 hX.m rfl ?_
  refine y_blk 0 tq_X12_isGuard (z := (6, [(0, .ref (ad 200)), (1, .int k9)], [.ref (ad 212), .int 0, .int k9])) rfl ?_
  refine y_callF hS tq_X12_isGuard rfl (As := []) rfl cf_X12_58 (Or.inl ⟨_, (hX.ls 212 (by decide)).1⟩) (m_Jsize hS (hX.ls 212 (by decide))) rfl (by decide) (Nat.le_of_ble_eq_true rfl) (fun r6 Gc6 q6 => ?_) (fun _ _ h9 => h9.elim)
  obtain ⟨rfl, eG6⟩ := q6
  have eG6 := eG6.symm
  subst eG6
  refine y_blk 2 tq_X12_isGuard (z := (13, [(0, .ref (ad 200)), (1, .int k9)], [.int ((Int32.ofNat (rZ ρ 212)) - 1), .int 0, .int k9])) rfl ?_
  refine y_callS hS tq_X12_isGuard rfl (As := [.int k9, .int 0, .int ((Int32.ofNat (rZ ρ 212)) - 1)]) rfl cs_X12_54 (m_X12_in hS k9 0 ((Int32.ofNat (rZ ρ 212)) - 1)) rfl (by decide) (Nat.le_of_ble_eq_true rfl) (fun r13 Gc13 q13 => ?_) (fun E9 G9 h9 => h9.elim)
  obtain ⟨rfl, eG13⟩ := q13
  have eG13 := eG13.symm
  subst eG13
  refine y_blk 0 tq_X12_isGuard (z := (16, [(0, .ref (ad 200)), (1, .int k9)], [.int (if 0 ≤ k9 ∧ k9 ≤ ((Int32.ofNat (rZ ρ 212)) - 1) then 1 else 0)])) rfl ?_
  exact y_zret tq_X12_isGuard rfl rfl (y01 (y01i _)) (⟨rfl, rfl⟩)
set_option maxHeartbeats 4000000 in
set_option maxRecDepth 100000 in
theorem m_X12_isIntruder {l : Launch} {S0 : State} {A0 : Array Value} {D : va_G} {aC : Nat → ClassId} {ic : Int32 → Nat} {de : Nat} {ad : Nat → Nat} {G : AH} {ρ : RS} (hS : yS l S0 A0 D aC) (hI : yIc S0 ic de) (hX : atR aC ic de ad G ρ) (k9 : Int32) : yM l S0 D yX12_isIntruder cX12_isIntruder 2 (some .boolean) 17 0 0 [.ref (ad 200), .int k9] G (fun r G1 => r = some (.int (if 0 ≤ k9 ∧ k9 ≤ (Int32.ofNat (rZ ρ 215)) - 1 then 1 else 0)) ∧ G1 = G) (fun _ _ => False) := by
  refine yM.ofK K_X12_isIntruder rfl (by decide) (Nat.le_of_ble_eq_true rfl) ?_
  refine y_blk 3 tq_X12_isIntruder (z := (3, [(0, .ref (ad 200)), (1, .int k9)], [.ref (ad 200), .int 0, .int k9])) rfl ?_
  refine y_get hS tq_X12_isIntruder (v := .ref (ad 215)) rfl fg_X12_42_X12 hX.m rfl ?_
  refine y_blk 0 tq_X12_isIntruder (z := (6, [(0, .ref (ad 200)), (1, .int k9)], [.ref (ad 215), .int 0, .int k9])) rfl ?_
  refine y_callF hS tq_X12_isIntruder rfl (As := []) rfl cf_X12_58 (Or.inl ⟨_, (hX.ls 215 (by decide)).1⟩) (m_Jsize hS (hX.ls 215 (by decide))) rfl (by decide) (Nat.le_of_ble_eq_true rfl) (fun r6 Gc6 q6 => ?_) (fun _ _ h9 => h9.elim)
  obtain ⟨rfl, eG6⟩ := q6
  have eG6 := eG6.symm
  subst eG6
  refine y_blk 2 tq_X12_isIntruder (z := (13, [(0, .ref (ad 200)), (1, .int k9)], [.int ((Int32.ofNat (rZ ρ 215)) - 1), .int 0, .int k9])) rfl ?_
  refine y_callS hS tq_X12_isIntruder rfl (As := [.int k9, .int 0, .int ((Int32.ofNat (rZ ρ 215)) - 1)]) rfl cs_X12_54 (m_X12_in hS k9 0 ((Int32.ofNat (rZ ρ 215)) - 1)) rfl (by decide) (Nat.le_of_ble_eq_true rfl) (fun r13 Gc13 q13 => ?_) (fun E9 G9 h9 => h9.elim)
  obtain ⟨rfl, eG13⟩ := q13
  have eG13 := eG13.symm
  subst eG13
  refine y_blk 0 tq_X12_isIntruder (z := (16, [(0, .ref (ad 200)), (1, .int k9)], [.int (if 0 ≤ k9 ∧ k9 ≤ ((Int32.ofNat (rZ ρ 215)) - 1) then 1 else 0)])) rfl ?_
  exact y_zret tq_X12_isIntruder rfl rfl (y01 (y01i _)) (⟨rfl, rfl⟩)
set_option maxHeartbeats 4000000 in
set_option maxRecDepth 100000 in
theorem m_X10_isOnDuty {l : Launch} {S0 : State} {A0 : Array Value} {D : va_G} {aC : Nat → ClassId} {ic : Int32 → Nat} {de : Nat} {ad : Nat → Nat} {G : AH} {ρ : RS} (hS : yS l S0 A0 D aC) (hI : yIc S0 ic de) (hX : atR aC ic de ad G ρ) {k : Nat} (hk : k < rZ ρ 212) (minute : Int32) : yM l S0 D yX10_isOnDuty cX10_isOnDuty 2 (some .boolean) 17 0 0 [.ref (ad (360 + k)), .int minute] G (fun r G1 => r = some (.int (if (rF ρ (360 + k) 0) ≤ minute ∧ minute ≤ (rF ρ (360 + k) 1) then 1 else 0)) ∧ G1 = G) (fun _ _ => False) := by
  refine yM.ofK K_X10_isOnDuty rfl (by decide) (Nat.le_of_ble_eq_true rfl) ?_
  refine y_blk 2 tq_X10_isOnDuty (z := (2, [(0, .ref (ad (360 + k))), (1, .int minute)], [.ref (ad (360 + k)), .int minute])) rfl ?_
  refine y_get hS tq_X10_isOnDuty (v := .int (rF ρ (360 + k) 0)) rfl fg_X10_30_X10 (hX.gu (by assumption)) rfl ?_
  refine y_blk 1 tq_X10_isOnDuty (z := (6, [(0, .ref (ad (360 + k))), (1, .int minute)], [.ref (ad (360 + k)), .int (rF ρ (360 + k) 0), .int minute])) rfl ?_
  refine y_get hS tq_X10_isOnDuty (v := .int (rF ρ (360 + k) 1)) rfl fg_X10_34_X10 (hX.gu (by assumption)) rfl ?_
  refine y_blk 0 tq_X10_isOnDuty (z := (9, [(0, .ref (ad (360 + k))), (1, .int minute)], [.int (rF ρ (360 + k) 1), .int (rF ρ (360 + k) 0), .int minute])) rfl ?_
  refine y_callSN hS tq_X10_isOnDuty rfl (As := [.int minute, .int (rF ρ (360 + k) 0), .int (rF ρ (360 + k) 1)]) rfl cs_X10_40 (m_X12_in hS minute (rF ρ (360 + k) 0) (rF ρ (360 + k) 1)) rfl (by decide) (Nat.le_of_ble_eq_true rfl) (fun r9 Gc9 q9 => ?_) (fun E9 G9 h9 => h9.elim)
  obtain ⟨rfl, eG9⟩ := q9
  have eG9 := eG9.symm
  subst eG9
  refine y_blk 0 tq_X10_isOnDuty (z := (12, [(0, .ref (ad (360 + k))), (1, .int minute)], [.int (if (rF ρ (360 + k) 0) ≤ minute ∧ minute ≤ (rF ρ (360 + k) 1) then 1 else 0)])) rfl ?_
  exact y_zret tq_X10_isOnDuty rfl rfl (y01 (y01i _)) (⟨rfl, rfl⟩)
set_option maxHeartbeats 4000000 in
set_option maxRecDepth 100000 in
theorem m_X10_isTired {l : Launch} {S0 : State} {A0 : Array Value} {D : va_G} {aC : Nat → ClassId} {ic : Int32 → Nat} {de : Nat} {ad : Nat → Nat} {G : AH} {ρ : RS} (hS : yS l S0 A0 D aC) (hI : yIc S0 ic de) (hX : atR aC ic de ad G ρ) {k : Nat} (hk : k < rZ ρ 212) (minute : Int32) : yM l S0 D yX10_isTired cX10_isTired 2 (some .boolean) 18 0 0 [.ref (ad (360 + k)), .int minute] G (fun r G1 => (∃ v : Int32, (v = 0 ∨ v = 1) ∧ r = some (.int v)) ∧ G1 = G) (fun _ _ => False) := by
  refine yM.ofK K_X10_isTired rfl (by decide) (Nat.le_of_ble_eq_true rfl) ?_
  have J24 : ∀ (w24_0 : Int32) (hb_w24_0 : w24_0 = 0 ∨ w24_0 = 1), Y l S0 D K_X10_isTired 18 0 0 (fun r G1 => (∃ v : Int32, (v = 0 ∨ v = 1) ∧ r = some (.int v)) ∧ G1 = G) (fun _ _ => False) 24 [(0, .ref (ad (360 + k))), (1, .int minute)] [.int w24_0] G 0 0 := by
    intro w24_0 hb_w24_0
    exact y_zret tq_X10_isTired rfl rfl (y01 hb_w24_0) (⟨⟨_, hb_w24_0, rfl⟩, rfl⟩)
  have J23 : ∀ (_ : True), Y l S0 D K_X10_isTired 18 0 0 (fun r G1 => (∃ v : Int32, (v = 0 ∨ v = 1) ∧ r = some (.int v)) ∧ G1 = G) (fun _ _ => False) 23 [(0, .ref (ad (360 + k))), (1, .int minute)] [] G 0 0 := by
    intro _
    refine y_blk 1 tq_X10_isTired (z := (24, [(0, .ref (ad (360 + k))), (1, .int minute)], [.int 0])) rfl ?_
    exact J24 0 (Or.inl rfl)
  refine y_blk 2 tq_X10_isTired (z := (2, [(0, .ref (ad (360 + k))), (1, .int minute)], [.int minute, .ref (ad (360 + k))])) rfl ?_
  refine y_callV hS tq_X10_isTired rfl (As := [.int minute]) rfl cv_X10_44 (hX.gu (by assumption)) (m_X10_isOnDuty hS hI hX (k := k) (by assumption) minute) rfl (by decide) (Nat.le_of_ble_eq_true rfl) (fun r2 Gc2 q2 => ?_) (fun E9 G9 h9 => h9.elim)
  obtain ⟨rfl, eG2⟩ := q2
  have eG2 := eG2.symm
  subst eG2
  refine y_blk 0 tq_X10_isTired (z := (5, [(0, .ref (ad (360 + k))), (1, .int minute)], [.int (if (rF ρ (360 + k) 0) ≤ minute ∧ minute ≤ (rF ρ (360 + k) 1) then 1 else 0)])) rfl ?_
  refine y_if_eq tq_X10_isTired 23 rfl rfl (fun c5 => ?_) (fun c5 => ?_)
  · skip
    refine y_blk 0 tq_X10_isTired (z := (23, [(0, .ref (ad (360 + k))), (1, .int minute)], [])) rfl ?_
    exact J23 trivial
  · skip
    refine y_blk 2 tq_X10_isTired (z := (10, [(0, .ref (ad (360 + k))), (1, .int minute)], [.ref (ad (360 + k)), .int minute])) rfl ?_
    refine y_get hS tq_X10_isTired (v := .int (rF ρ (360 + k) 0)) rfl fg_X10_30_X10 (hX.gu (by assumption)) rfl ?_
    refine y_blk 2 tq_X10_isTired (z := (16, [(0, .ref (ad (360 + k))), (1, .int minute)], [.int 90, .int (minute - (rF ρ (360 + k) 0))])) rfl ?_
    refine y_icmp_lt tq_X10_isTired 23 rfl rfl (fun c16 => ?_) (fun c16 => ?_)
    · skip
      refine y_blk 0 tq_X10_isTired (z := (23, [(0, .ref (ad (360 + k))), (1, .int minute)], [])) rfl ?_
      exact J23 trivial
    · skip
      refine y_blk 2 tq_X10_isTired (z := (24, [(0, .ref (ad (360 + k))), (1, .int minute)], [.int 1])) rfl ?_
      exact J24 1 (Or.inr rfl)
