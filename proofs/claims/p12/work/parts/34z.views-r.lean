/-! ===== who sees what, for the reference ===== -/
abbrev rdR (ρ : RS) (a b : Int32) : Int32 := b / rI ρ 1 - a / rI ρ 1
abbrev rdC (ρ : RS) (a b : Int32) : Int32 := (b - b / rI ρ 1 * rI ρ 1) - (a - a / rI ρ 1 * rI ρ 1)
abbrev rap (ρ : RS) (a b : Int32) : Int32 := if yab (a / rI ρ 1 - b / rI ρ 1) < yab ((a - a / rI ρ 1 * rI ρ 1) - (b - b / rI ρ 1 * rI ρ 1)) then yab ((a - a / rI ρ 1 * rI ρ 1) - (b - b / rI ρ 1 * rI ρ 1)) else yab (a / rI ρ 1 - b / rI ρ 1)
abbrev rst (ρ : RS) (a b : Int32) : Int32 := ysg (rdR ρ a b) * rI ρ 1 + ysg (rdC ρ a b)
abbrev rop (ρ : RS) (x : Int32) : Prop := ¬ rV ρ 201 (Int32.toNatClampNeg x) = 1 ∧ ¬ rV ρ 201 (Int32.toNatClampNeg x) = 2
def rclr (ρ : RS) (a b : Int32) : Prop := (rdR ρ a b = 0 ∨ rdC ρ a b = 0 ∨ yab (rdR ρ a b) = yab (rdC ρ a b)) ∧ ∀ j : Nat, 1 ≤ j → (j : Int) < (rap ρ a b).toInt → rop ρ (a + Int32.ofNat j * rst ρ a b)
theorem rcl_0 {Q : Nat → Prop} : ∀ j : Nat, 1 ≤ j → (j : Int) < (1 : Int32).toInt → Q j := fun j h1 h2 => by
  have e1 : (1 : Int32).toInt = 1 := by decide
  omega
theorem i32n {i : Int32} (h : 0 ≤ i.toInt) : Int32.ofNat i.toInt.toNat = i := Int32.toInt_inj.mp (by
  have hr := yrng i
  rw [yofNat (by omega)]
  omega)
theorem rcl_s {Q : Int32 → Prop} {i far : Int32} (h : ∀ j : Nat, 1 ≤ j → (j : Int) < i.toInt → Q (Int32.ofNat j)) (h1 : 1 ≤ i.toInt) (c : ¬ far ≤ i) (hq : Q i) : ∀ j : Nat, 1 ≤ j → (j : Int) < (i + 1).toInt → Q (Int32.ofNat j) := by
  intro j j1 j2
  have e1 : (1 : Int32).toInt = 1 := by decide
  have hf := yrng far
  rw [yle] at c
  rw [yadd (by rw [e1]; omega) (by rw [e1]; omega), e1] at j2
  by_cases z : (j : Int) < i.toInt
  · exact h j j1 z
  · have e : j = i.toInt.toNat := by omega
    rw [e, i32n (by omega)]
    exact hq
theorem rcl_e {Q : Nat → Prop} {i far : Int32} (h : ∀ j : Nat, 1 ≤ j → (j : Int) < i.toInt → Q j) (c : far ≤ i) : ∀ j : Nat, 1 ≤ j → (j : Int) < far.toInt → Q j := fun j j1 j2 => by
  rw [yle] at c
  exact h j j1 (by omega)
theorem rcl_at {ρ : RS} {a b i : Int32} (h : rclr ρ a b) (h0 : 1 ≤ i.toInt) (c : ¬ rap ρ a b ≤ i) : rop ρ (a + i * rst ρ a b) := by
  rw [yle] at c
  have z := h.2 i.toInt.toNat (by omega) (by omega)
  rw [i32n (by omega)] at z
  exact z
def rlit (ρ : RS) (c r o : Int32) : Prop := rap ρ c o ≤ r ∧ rclr ρ c o
def rbrK (ρ : RS) (c : Int32) (k : Nat) : Prop := rV ρ (300 + k) 2 = 1 ∧ rlit ρ (rV ρ (300 + k) 0) (rV ρ (300 + k) 1) c
def rbri (ρ : RS) (c : Int32) : Prop := ∃ k : Nat, k < rZ ρ 210 ∧ rbrK ρ c k
noncomputable def rbrF (ρ : RS) : Int32 → Int32 → Int32 := fun p a => a + cif (rbri ρ p) 1 0
noncomputable def rbrN (ρ : RS) : Int32 := itI (rbrF ρ) 0 (Int32.ofNat (rZ ρ 201)).toInt.toNat
def rfgF (ρ : RS) (m : Int32) : Int32 → Int32 × Int32 → Int32 × Int32 := fun p a => if m < rV ρ (320 + Int32.toNatClampNeg p) 0 then a else if rV ρ (320 + Int32.toNatClampNeg p) 0 < a.1 then a else (rV ρ (320 + Int32.toNatClampNeg p) 0, rV ρ (320 + Int32.toNatClampNeg p) 1)
def rfog (ρ : RS) (m : Int32) : Int32 := (itI (rfgF ρ m) (-1, 0) (Int32.ofNat (rZ ρ 211)).toInt.toNat).2
abbrev rdty (ρ : RS) (k : Nat) (m : Int32) : Prop := rF ρ (360 + k) 0 ≤ m ∧ m ≤ rF ρ (360 + k) 1
abbrev rtrd (ρ : RS) (k : Nat) (m : Int32) : Prop := rdty ρ k m ∧ 90 ≤ m - rF ρ (360 + k) 0
def rrng (ρ : RS) (k : Nat) (m b f : Int32) : Int32 := (if b = 0 then 2 - f / 2 else 7 - f) - (if rtrd ρ k m then 1 else 0)
def rsee (ρ : RS) (k : Nat) (c m b f : Int32) : Prop := ¬ rpl ρ k m = -1 ∧ (rpl ρ k m = c ∨ (rap ρ (rpl ρ k m) c ≤ rrng ρ k m b f ∧ rclr ρ (rpl ρ k m) c))
noncomputable def rbr1 (ρ : RS) (c : Int32) : Int32 := cif (rbri ρ c) 1 0
def rwat (ρ : RS) (c m : Int32) : Prop := ∃ k : Nat, k < rZ ρ 212 ∧ rsee ρ k c m (rbr1 ρ c) (rfog ρ m)
noncomputable def rsrF (ρ : RS) (c m : Int32) : Int32 → Int32 → Int32 := fun p a => a ||| cif (rsee ρ (Int32.toNatClampNeg p) c m (rbr1 ρ c) (rfog ρ m)) (1 <<< (p &&& 31)) 0
noncomputable def rsrN (ρ : RS) (c m : Int32) : Int32 := itI (rsrF ρ c m) 0 (Int32.ofNat (rZ ρ 212)).toInt.toNat
def rwlk (ρ : RS) (c m : Int32) : Prop := ¬ rV ρ 201 (Int32.toNatClampNeg c) = 1 ∧ (¬ rV ρ 201 (Int32.toNatClampNeg c) = 3 ∨ (rI ρ 3 ≤ m ∧ m ≤ rI ρ 4))
/-- an answer that is 0 or 1 -/
theorem b01 {v : Int32} {P : Prop} (hb : v = 0 ∨ v = 1) (h : v = 1 ↔ P) : v = cif P 1 0 := by
  rcases hb with q | q
  · rw [q, cif_f (fun z => by
      have e := h.mpr z
      rw [q] at e
      exact absurd e (by decide))]
  · rw [q, cif_t (h.mp q)]
theorem rrng_00 {ρ : RS} {k : Nat} {m b f : Int32} (c : b = 0) (t : (if rtrd ρ k m then (1 : Int32) else 0) = 0) : rrng ρ k m b f = 2 - f / 2 - 0 := by
  unfold rrng
  rw [if_pos c, t]
theorem rrng_01 {ρ : RS} {k : Nat} {m b f : Int32} (c : b = 0) (t : ¬ (if rtrd ρ k m then (1 : Int32) else 0) = 0) : rrng ρ k m b f = 2 - f / 2 - 1 := by
  unfold rrng
  rw [if_pos c, if_pos (yif1 t)]
theorem rrng_10 {ρ : RS} {k : Nat} {m b f : Int32} (c : ¬ b = 0) (t : (if rtrd ρ k m then (1 : Int32) else 0) = 0) : rrng ρ k m b f = 7 - f - 0 := by
  unfold rrng
  rw [if_neg c, t]
theorem rrng_11 {ρ : RS} {k : Nat} {m b f : Int32} (c : ¬ b = 0) (t : ¬ (if rtrd ρ k m then (1 : Int32) else 0) = 0) : rrng ρ k m b f = 7 - f - 1 := by
  unfold rrng
  rw [if_neg c, if_pos (yif1 t)]
abbrev roLightV (lamp isLit : Int32) (r : Option Value) (ρ ρ1 : RS) : Prop := ((0 ≤ lamp ∧ lamp ≤ Int32.ofNat (rZ ρ 210) - 1) ∧ ρ1 = rar (rin ρ 0 0) (300 + (Int32.toNatClampNeg lamp)) (upd (rV ρ (300 + (Int32.toNatClampNeg lamp))) (Int32.toNatClampNeg 2) (if isLit = 0 then 0 else 1)) ∧ r = some (.int (rbrN ρ1))) ∨ roNo (¬ (0 ≤ lamp ∧ lamp ≤ Int32.ofNat (rZ ρ 210) - 1)) 1 ρ ρ1
theorem roLightV.w {lamp isLit : Int32} {r : Option Value} {ρ ρ1 : RS} (h : roLightV lamp isLit r ρ ρ1) : roLight lamp isLit r ρ ρ1 := by
  rcases h with ⟨h1, h2, -⟩ | h
  · exact Or.inl ⟨h1, h2⟩
  · exact Or.inr h
set_option maxHeartbeats 4000000 in
set_option maxRecDepth 100000 in
theorem m_X12_isClear_v {l : Launch} {S0 : State} {A0 : Array Value} {D : va_G} {aC : Nat → ClassId} {ic : Int32 → Nat} {de : Nat} {ad : Nat → Nat} {G : AH} {ρ : RS} (hS : yS l S0 A0 D aC) (hI : yIc S0 ic de) (hX : atR aC ic de ad G ρ) (one : Int32) (other : Int32) (hone : rcell ρ one) (hother : rcell ρ other) : yM l S0 D yX12_isClear cX12_isClear 8 (some .boolean) 17 0 0 [.ref (ad 200), .int one, .int other] G (fun r G1 => (∃ v : Int32, (v = 0 ∨ v = 1) ∧ (v = 1 ↔ rclr ρ one other) ∧ r = some (.int v)) ∧ G1 = G) (fun _ _ => False) := by
  refine yM.ofK K_X12_isClear rfl (by decide) (Nat.le_of_ble_eq_true rfl) ?_
  have J80 : ∀ (n80 : Nat) (v80_7 : Int32) (h0_80 : 1 ≤ v80_7.toInt) (hdia : ((other / (rI ρ 1)) - (one / (rI ρ 1))) = 0 ∨ ((other - other / (rI ρ 1) * (rI ρ 1)) - (one - one / (rI ρ 1) * (rI ρ 1))) = 0 ∨ yab ((other / (rI ρ 1)) - (one / (rI ρ 1))) = yab ((other - other / (rI ρ 1) * (rI ρ 1)) - (one - one / (rI ρ 1) * (rI ρ 1)))) (cl80 : ∀ j : Nat, 1 ≤ j → (j : Int) < v80_7.toInt → rop ρ (one + Int32.ofNat j * rst ρ one other)), (((if (yab ((one / (rI ρ 1)) - (other / (rI ρ 1)))) < (yab ((one - one / (rI ρ 1) * (rI ρ 1)) - (other - other / (rI ρ 1) * (rI ρ 1)))) then (yab ((one - one / (rI ρ 1) * (rI ρ 1)) - (other - other / (rI ρ 1) * (rI ρ 1)))) else (yab ((one / (rI ρ 1)) - (other / (rI ρ 1))))) : Int32).toInt - v80_7.toInt).toNat = n80 → Y l S0 D K_X12_isClear 17 0 0 (fun r G1 => (∃ v : Int32, (v = 0 ∨ v = 1) ∧ (v = 1 ↔ rclr ρ one other) ∧ r = some (.int v)) ∧ G1 = G) (fun _ _ => False) 80 [(0, .ref (ad 200)), (1, .int one), (2, .int other), (3, .int ((other / (rI ρ 1)) - (one / (rI ρ 1)))), (4, .int ((other - other / (rI ρ 1) * (rI ρ 1)) - (one - one / (rI ρ 1) * (rI ρ 1)))), (5, .int (if (yab ((one / (rI ρ 1)) - (other / (rI ρ 1)))) < (yab ((one - one / (rI ρ 1) * (rI ρ 1)) - (other - other / (rI ρ 1) * (rI ρ 1)))) then (yab ((one - one / (rI ρ 1) * (rI ρ 1)) - (other - other / (rI ρ 1) * (rI ρ 1)))) else (yab ((one / (rI ρ 1)) - (other / (rI ρ 1)))))), (6, .int (((ysg ((other / (rI ρ 1)) - (one / (rI ρ 1)))) * (rI ρ 1)) + (ysg ((other - other / (rI ρ 1) * (rI ρ 1)) - (one - one / (rI ρ 1) * (rI ρ 1)))))), (7, .int v80_7)] [] G 0 0 := by
    intro n80
    induction n80 using Nat.strongRecOn with
    | _ n80 ih80 =>
    intro v80_7 h0_80 hdia cl80 hn80
    subst hn80
    refine y_blk 2 tq_X12_isClear (z := (84, [(0, .ref (ad 200)), (1, .int one), (2, .int other), (3, .int ((other / (rI ρ 1)) - (one / (rI ρ 1)))), (4, .int ((other - other / (rI ρ 1) * (rI ρ 1)) - (one - one / (rI ρ 1) * (rI ρ 1)))), (5, .int (if (yab ((one / (rI ρ 1)) - (other / (rI ρ 1)))) < (yab ((one - one / (rI ρ 1) * (rI ρ 1)) - (other - other / (rI ρ 1) * (rI ρ 1)))) then (yab ((one - one / (rI ρ 1) * (rI ρ 1)) - (other - other / (rI ρ 1) * (rI ρ 1)))) else (yab ((one / (rI ρ 1)) - (other / (rI ρ 1)))))), (6, .int (((ysg ((other / (rI ρ 1)) - (one / (rI ρ 1)))) * (rI ρ 1)) + (ysg ((other - other / (rI ρ 1) * (rI ρ 1)) - (one - one / (rI ρ 1) * (rI ρ 1)))))), (7, .int v80_7)], [.int (if (yab ((one / (rI ρ 1)) - (other / (rI ρ 1)))) < (yab ((one - one / (rI ρ 1) * (rI ρ 1)) - (other - other / (rI ρ 1) * (rI ρ 1)))) then (yab ((one - one / (rI ρ 1) * (rI ρ 1)) - (other - other / (rI ρ 1) * (rI ρ 1)))) else (yab ((one / (rI ρ 1)) - (other / (rI ρ 1))))), .int v80_7])) rfl ?_
    refine y_icmp_ge tq_X12_isClear 127 rfl rfl (fun c84 => ?_) (fun c84 => ?_)
    · skip
      refine y_blk 1 tq_X12_isClear (z := (128, [(0, .ref (ad 200)), (1, .int one), (2, .int other), (3, .int ((other / (rI ρ 1)) - (one / (rI ρ 1)))), (4, .int ((other - other / (rI ρ 1) * (rI ρ 1)) - (one - one / (rI ρ 1) * (rI ρ 1)))), (5, .int (if (yab ((one / (rI ρ 1)) - (other / (rI ρ 1)))) < (yab ((one - one / (rI ρ 1) * (rI ρ 1)) - (other - other / (rI ρ 1) * (rI ρ 1)))) then (yab ((one - one / (rI ρ 1) * (rI ρ 1)) - (other - other / (rI ρ 1) * (rI ρ 1)))) else (yab ((one / (rI ρ 1)) - (other / (rI ρ 1)))))), (6, .int (((ysg ((other / (rI ρ 1)) - (one / (rI ρ 1)))) * (rI ρ 1)) + (ysg ((other - other / (rI ρ 1) * (rI ρ 1)) - (one - one / (rI ρ 1) * (rI ρ 1)))))), (7, .int v80_7)], [.int 1])) rfl ?_
      exact y_zret tq_X12_isClear rfl rfl (rfl) (⟨⟨_, (Or.inr rfl), by first | exact ⟨fun _ => ⟨hdia, rcl_e cl80 c84⟩, fun _ => rfl⟩ | exact ⟨fun h => absurd h (by decide), fun h => absurd c100 (rcl_at h h0_80 c84).1⟩ | exact ⟨fun h => absurd h (by decide), fun h => absurd c116 (rcl_at h h0_80 c84).2⟩ | exact ⟨fun h => absurd h (by decide), fun h => False.elim (h.1.elim c30 (fun z => z.elim c35 c47))⟩, rfl⟩, rfl⟩)
    · skip
      obtain ⟨hcc0, hcc1⟩ := yline hX hone hother hdia rfl rfl h0_80 c84
      refine y_blk 1 tq_X12_isClear (z := (88, [(0, .ref (ad 200)), (1, .int one), (2, .int other), (3, .int ((other / (rI ρ 1)) - (one / (rI ρ 1)))), (4, .int ((other - other / (rI ρ 1) * (rI ρ 1)) - (one - one / (rI ρ 1) * (rI ρ 1)))), (5, .int (if (yab ((one / (rI ρ 1)) - (other / (rI ρ 1)))) < (yab ((one - one / (rI ρ 1) * (rI ρ 1)) - (other - other / (rI ρ 1) * (rI ρ 1)))) then (yab ((one - one / (rI ρ 1) * (rI ρ 1)) - (other - other / (rI ρ 1) * (rI ρ 1)))) else (yab ((one / (rI ρ 1)) - (other / (rI ρ 1)))))), (6, .int (((ysg ((other / (rI ρ 1)) - (one / (rI ρ 1)))) * (rI ρ 1)) + (ysg ((other - other / (rI ρ 1) * (rI ρ 1)) - (one - one / (rI ρ 1) * (rI ρ 1)))))), (7, .int v80_7)], [.ref (ad 200)])) rfl ?_
      refine y_get hS tq_X12_isClear (v := .ref (ad 201)) rfl fg_X12_7_X12 hX.m rfl ?_
      refine y_blk 5 tq_X12_isClear (z := (98, [(0, .ref (ad 200)), (1, .int one), (2, .int other), (3, .int ((other / (rI ρ 1)) - (one / (rI ρ 1)))), (4, .int ((other - other / (rI ρ 1) * (rI ρ 1)) - (one - one / (rI ρ 1) * (rI ρ 1)))), (5, .int (if (yab ((one / (rI ρ 1)) - (other / (rI ρ 1)))) < (yab ((one - one / (rI ρ 1) * (rI ρ 1)) - (other - other / (rI ρ 1) * (rI ρ 1)))) then (yab ((one - one / (rI ρ 1) * (rI ρ 1)) - (other - other / (rI ρ 1) * (rI ρ 1)))) else (yab ((one / (rI ρ 1)) - (other / (rI ρ 1)))))), (6, .int (((ysg ((other / (rI ρ 1)) - (one / (rI ρ 1)))) * (rI ρ 1)) + (ysg ((other - other / (rI ρ 1) * (rI ρ 1)) - (one - one / (rI ρ 1) * (rI ρ 1)))))), (7, .int v80_7)], [.int (one + (v80_7 * (((ysg ((other / (rI ρ 1)) - (one / (rI ρ 1)))) * (rI ρ 1)) + (ysg ((other - other / (rI ρ 1) * (rI ρ 1)) - (one - one / (rI ρ 1) * (rI ρ 1))))))), .ref (ad 201)])) rfl ?_
      refine y_iald hS tq_X12_isClear rfl hX.ki (by first | exact yIn (by decide) (by decide) | exact yIn (by assumption) (by assumption) | (exact yIn (by omega) (by omega))) ?_
      refine y_blk 1 tq_X12_isClear (z := (100, [(0, .ref (ad 200)), (1, .int one), (2, .int other), (3, .int ((other / (rI ρ 1)) - (one / (rI ρ 1)))), (4, .int ((other - other / (rI ρ 1) * (rI ρ 1)) - (one - one / (rI ρ 1) * (rI ρ 1)))), (5, .int (if (yab ((one / (rI ρ 1)) - (other / (rI ρ 1)))) < (yab ((one - one / (rI ρ 1) * (rI ρ 1)) - (other - other / (rI ρ 1) * (rI ρ 1)))) then (yab ((one - one / (rI ρ 1) * (rI ρ 1)) - (other - other / (rI ρ 1) * (rI ρ 1)))) else (yab ((one / (rI ρ 1)) - (other / (rI ρ 1)))))), (6, .int (((ysg ((other / (rI ρ 1)) - (one / (rI ρ 1)))) * (rI ρ 1)) + (ysg ((other - other / (rI ρ 1) * (rI ρ 1)) - (one - one / (rI ρ 1) * (rI ρ 1)))))), (7, .int v80_7)], [.int 1, .int ((rV ρ 201) (Int32.toNatClampNeg (one + (v80_7 * (((ysg ((other / (rI ρ 1)) - (one / (rI ρ 1)))) * (rI ρ 1)) + (ysg ((other - other / (rI ρ 1) * (rI ρ 1)) - (one - one / (rI ρ 1) * (rI ρ 1)))))))))])) rfl ?_
      refine y_icmp_eq tq_X12_isClear 119 rfl rfl (fun c100 => ?_) (fun c100 => ?_)
      · skip
        refine y_blk 1 tq_X12_isClear (z := (120, [(0, .ref (ad 200)), (1, .int one), (2, .int other), (3, .int ((other / (rI ρ 1)) - (one / (rI ρ 1)))), (4, .int ((other - other / (rI ρ 1) * (rI ρ 1)) - (one - one / (rI ρ 1) * (rI ρ 1)))), (5, .int (if (yab ((one / (rI ρ 1)) - (other / (rI ρ 1)))) < (yab ((one - one / (rI ρ 1) * (rI ρ 1)) - (other - other / (rI ρ 1) * (rI ρ 1)))) then (yab ((one - one / (rI ρ 1) * (rI ρ 1)) - (other - other / (rI ρ 1) * (rI ρ 1)))) else (yab ((one / (rI ρ 1)) - (other / (rI ρ 1)))))), (6, .int (((ysg ((other / (rI ρ 1)) - (one / (rI ρ 1)))) * (rI ρ 1)) + (ysg ((other - other / (rI ρ 1) * (rI ρ 1)) - (one - one / (rI ρ 1) * (rI ρ 1)))))), (7, .int v80_7)], [.int 0])) rfl ?_
        exact y_zret tq_X12_isClear rfl rfl (rfl) (⟨⟨_, (Or.inl rfl), by first | exact ⟨fun _ => ⟨hdia, rcl_e cl80 c84⟩, fun _ => rfl⟩ | exact ⟨fun h => absurd h (by decide), fun h => absurd c100 (rcl_at h h0_80 c84).1⟩ | exact ⟨fun h => absurd h (by decide), fun h => absurd c116 (rcl_at h h0_80 c84).2⟩ | exact ⟨fun h => absurd h (by decide), fun h => False.elim (h.1.elim c30 (fun z => z.elim c35 c47))⟩, rfl⟩, rfl⟩)
      · skip
        refine y_blk 1 tq_X12_isClear (z := (104, [(0, .ref (ad 200)), (1, .int one), (2, .int other), (3, .int ((other / (rI ρ 1)) - (one / (rI ρ 1)))), (4, .int ((other - other / (rI ρ 1) * (rI ρ 1)) - (one - one / (rI ρ 1) * (rI ρ 1)))), (5, .int (if (yab ((one / (rI ρ 1)) - (other / (rI ρ 1)))) < (yab ((one - one / (rI ρ 1) * (rI ρ 1)) - (other - other / (rI ρ 1) * (rI ρ 1)))) then (yab ((one - one / (rI ρ 1) * (rI ρ 1)) - (other - other / (rI ρ 1) * (rI ρ 1)))) else (yab ((one / (rI ρ 1)) - (other / (rI ρ 1)))))), (6, .int (((ysg ((other / (rI ρ 1)) - (one / (rI ρ 1)))) * (rI ρ 1)) + (ysg ((other - other / (rI ρ 1) * (rI ρ 1)) - (one - one / (rI ρ 1) * (rI ρ 1)))))), (7, .int v80_7)], [.ref (ad 200)])) rfl ?_
        refine y_get hS tq_X12_isClear (v := .ref (ad 201)) rfl fg_X12_7_X12 hX.m rfl ?_
        refine y_blk 5 tq_X12_isClear (z := (114, [(0, .ref (ad 200)), (1, .int one), (2, .int other), (3, .int ((other / (rI ρ 1)) - (one / (rI ρ 1)))), (4, .int ((other - other / (rI ρ 1) * (rI ρ 1)) - (one - one / (rI ρ 1) * (rI ρ 1)))), (5, .int (if (yab ((one / (rI ρ 1)) - (other / (rI ρ 1)))) < (yab ((one - one / (rI ρ 1) * (rI ρ 1)) - (other - other / (rI ρ 1) * (rI ρ 1)))) then (yab ((one - one / (rI ρ 1) * (rI ρ 1)) - (other - other / (rI ρ 1) * (rI ρ 1)))) else (yab ((one / (rI ρ 1)) - (other / (rI ρ 1)))))), (6, .int (((ysg ((other / (rI ρ 1)) - (one / (rI ρ 1)))) * (rI ρ 1)) + (ysg ((other - other / (rI ρ 1) * (rI ρ 1)) - (one - one / (rI ρ 1) * (rI ρ 1)))))), (7, .int v80_7)], [.int (one + (v80_7 * (((ysg ((other / (rI ρ 1)) - (one / (rI ρ 1)))) * (rI ρ 1)) + (ysg ((other - other / (rI ρ 1) * (rI ρ 1)) - (one - one / (rI ρ 1) * (rI ρ 1))))))), .ref (ad 201)])) rfl ?_
        refine y_iald hS tq_X12_isClear rfl hX.ki (by first | exact yIn (by decide) (by decide) | exact yIn (by assumption) (by assumption) | (exact yIn (by omega) (by omega))) ?_
        refine y_blk 1 tq_X12_isClear (z := (116, [(0, .ref (ad 200)), (1, .int one), (2, .int other), (3, .int ((other / (rI ρ 1)) - (one / (rI ρ 1)))), (4, .int ((other - other / (rI ρ 1) * (rI ρ 1)) - (one - one / (rI ρ 1) * (rI ρ 1)))), (5, .int (if (yab ((one / (rI ρ 1)) - (other / (rI ρ 1)))) < (yab ((one - one / (rI ρ 1) * (rI ρ 1)) - (other - other / (rI ρ 1) * (rI ρ 1)))) then (yab ((one - one / (rI ρ 1) * (rI ρ 1)) - (other - other / (rI ρ 1) * (rI ρ 1)))) else (yab ((one / (rI ρ 1)) - (other / (rI ρ 1)))))), (6, .int (((ysg ((other / (rI ρ 1)) - (one / (rI ρ 1)))) * (rI ρ 1)) + (ysg ((other - other / (rI ρ 1) * (rI ρ 1)) - (one - one / (rI ρ 1) * (rI ρ 1)))))), (7, .int v80_7)], [.int 2, .int ((rV ρ 201) (Int32.toNatClampNeg (one + (v80_7 * (((ysg ((other / (rI ρ 1)) - (one / (rI ρ 1)))) * (rI ρ 1)) + (ysg ((other - other / (rI ρ 1) * (rI ρ 1)) - (one - one / (rI ρ 1) * (rI ρ 1)))))))))])) rfl ?_
        refine y_icmp_ne tq_X12_isClear 121 rfl rfl (fun c116 => ?_) (fun c116 => ?_)
        · skip
          refine y_blk 2 tq_X12_isClear (z := (80, [(7, .int (v80_7 + 1)), (0, .ref (ad 200)), (1, .int one), (2, .int other), (3, .int ((other / (rI ρ 1)) - (one / (rI ρ 1)))), (4, .int ((other - other / (rI ρ 1) * (rI ρ 1)) - (one - one / (rI ρ 1) * (rI ρ 1)))), (5, .int (if (yab ((one / (rI ρ 1)) - (other / (rI ρ 1)))) < (yab ((one - one / (rI ρ 1) * (rI ρ 1)) - (other - other / (rI ρ 1) * (rI ρ 1)))) then (yab ((one - one / (rI ρ 1) * (rI ρ 1)) - (other - other / (rI ρ 1) * (rI ρ 1)))) else (yab ((one / (rI ρ 1)) - (other / (rI ρ 1)))))), (6, .int (((ysg ((other / (rI ρ 1)) - (one / (rI ρ 1)))) * (rI ρ 1)) + (ysg ((other - other / (rI ρ 1) * (rI ρ 1)) - (one - one / (rI ρ 1) * (rI ρ 1))))))], [])) rfl ?_
          refine y_pick (L2 := [(0, .ref (ad 200)), (1, .int one), (2, .int other), (3, .int ((other / (rI ρ 1)) - (one / (rI ρ 1)))), (4, .int ((other - other / (rI ρ 1) * (rI ρ 1)) - (one - one / (rI ρ 1) * (rI ρ 1)))), (5, .int (if (yab ((one / (rI ρ 1)) - (other / (rI ρ 1)))) < (yab ((one - one / (rI ρ 1) * (rI ρ 1)) - (other - other / (rI ρ 1) * (rI ρ 1)))) then (yab ((one - one / (rI ρ 1) * (rI ρ 1)) - (other - other / (rI ρ 1) * (rI ρ 1)))) else (yab ((one / (rI ρ 1)) - (other / (rI ρ 1)))))), (6, .int (((ysg ((other / (rI ρ 1)) - (one / (rI ρ 1)))) * (rI ρ 1)) + (ysg ((other - other / (rI ρ 1) * (rI ρ 1)) - (one - one / (rI ρ 1) * (rI ρ 1)))))), (7, .int (v80_7 + 1))]) [1, 2, 3, 4, 5, 6, 7, 0] rfl ?_
          exact ih80 _ (by exact ydec c84) (v80_7 + 1) (by first | decide | assumption | exact Int.le_refl _ | exact yposgeL (by assumption) c84) (by assumption) (by first | exact rcl_s (Q := fun x => rop ρ (one + x * rst ρ one other)) cl80 h0_80 c84 ⟨c100, c116⟩ | exact rcl_0) rfl
        · skip
          refine y_blk 1 tq_X12_isClear (z := (120, [(0, .ref (ad 200)), (1, .int one), (2, .int other), (3, .int ((other / (rI ρ 1)) - (one / (rI ρ 1)))), (4, .int ((other - other / (rI ρ 1) * (rI ρ 1)) - (one - one / (rI ρ 1) * (rI ρ 1)))), (5, .int (if (yab ((one / (rI ρ 1)) - (other / (rI ρ 1)))) < (yab ((one - one / (rI ρ 1) * (rI ρ 1)) - (other - other / (rI ρ 1) * (rI ρ 1)))) then (yab ((one - one / (rI ρ 1) * (rI ρ 1)) - (other - other / (rI ρ 1) * (rI ρ 1)))) else (yab ((one / (rI ρ 1)) - (other / (rI ρ 1)))))), (6, .int (((ysg ((other / (rI ρ 1)) - (one / (rI ρ 1)))) * (rI ρ 1)) + (ysg ((other - other / (rI ρ 1) * (rI ρ 1)) - (one - one / (rI ρ 1) * (rI ρ 1)))))), (7, .int v80_7)], [.int 0])) rfl ?_
          exact y_zret tq_X12_isClear rfl rfl (rfl) (⟨⟨_, (Or.inl rfl), by first | exact ⟨fun _ => ⟨hdia, rcl_e cl80 c84⟩, fun _ => rfl⟩ | exact ⟨fun h => absurd h (by decide), fun h => absurd c100 (rcl_at h h0_80 c84).1⟩ | exact ⟨fun h => absurd h (by decide), fun h => absurd c116 (rcl_at h h0_80 c84).2⟩ | exact ⟨fun h => absurd h (by decide), fun h => False.elim (h.1.elim c30 (fun z => z.elim c35 c47))⟩, rfl⟩, rfl⟩)
  have J52 : ∀ (hdia : ((other / (rI ρ 1)) - (one / (rI ρ 1))) = 0 ∨ ((other - other / (rI ρ 1) * (rI ρ 1)) - (one - one / (rI ρ 1) * (rI ρ 1))) = 0 ∨ yab ((other / (rI ρ 1)) - (one / (rI ρ 1))) = yab ((other - other / (rI ρ 1) * (rI ρ 1)) - (one - one / (rI ρ 1) * (rI ρ 1)))), Y l S0 D K_X12_isClear 17 0 0 (fun r G1 => (∃ v : Int32, (v = 0 ∨ v = 1) ∧ (v = 1 ↔ rclr ρ one other) ∧ r = some (.int v)) ∧ G1 = G) (fun _ _ => False) 52 [(0, .ref (ad 200)), (1, .int one), (2, .int other), (3, .int ((other / (rI ρ 1)) - (one / (rI ρ 1)))), (4, .int ((other - other / (rI ρ 1) * (rI ρ 1)) - (one - one / (rI ρ 1) * (rI ρ 1))))] [] G 0 0 := by
    intro hdia
    refine y_blk 3 tq_X12_isClear (z := (55, [(0, .ref (ad 200)), (1, .int one), (2, .int other), (3, .int ((other / (rI ρ 1)) - (one / (rI ρ 1)))), (4, .int ((other - other / (rI ρ 1) * (rI ρ 1)) - (one - one / (rI ρ 1) * (rI ρ 1))))], [.int other, .int one, .ref (ad 200)])) rfl ?_
    refine y_callV hS tq_X12_isClear rfl (As := [.int one, .int other]) rfl cv_X12_104 hX.m (m_X12_apart hS hI hX one other (by first | (with_reducible assumption) | (with_reducible exact hX.lac (by assumption)) | (with_reducible exact hX.poc (by assumption)) | (with_reducible exact hX.wac (by assumption) (by assumption) (by omega)) | assumption | exact hX.lac (by assumption) | exact hX.poc (by assumption) | exact hX.wac (by assumption) (by assumption) (by omega))) rfl (by decide) (Nat.le_of_ble_eq_true rfl) (fun r55 Gc55 q55 => ?_) (fun E9 G9 h9 => h9.elim)
    obtain ⟨rfl, eG55⟩ := q55
    have eG55 := eG55.symm
    subst eG55
    refine y_blk 2 tq_X12_isClear (z := (61, [(5, .int (if (yab ((one / (rI ρ 1)) - (other / (rI ρ 1)))) < (yab ((one - one / (rI ρ 1) * (rI ρ 1)) - (other - other / (rI ρ 1) * (rI ρ 1)))) then (yab ((one - one / (rI ρ 1) * (rI ρ 1)) - (other - other / (rI ρ 1) * (rI ρ 1)))) else (yab ((one / (rI ρ 1)) - (other / (rI ρ 1)))))), (0, .ref (ad 200)), (1, .int one), (2, .int other), (3, .int ((other / (rI ρ 1)) - (one / (rI ρ 1)))), (4, .int ((other - other / (rI ρ 1) * (rI ρ 1)) - (one - one / (rI ρ 1) * (rI ρ 1))))], [.int ((other / (rI ρ 1)) - (one / (rI ρ 1)))])) rfl ?_
    refine y_callS hS tq_X12_isClear rfl (As := [.int ((other / (rI ρ 1)) - (one / (rI ρ 1)))]) rfl cs_X12_107 (m_J6_signum_0f7a4 hS ((other / (rI ρ 1)) - (one / (rI ρ 1)))) rfl (by decide) (Nat.le_of_ble_eq_true rfl) (fun r61 Gc61 q61 => ?_) (fun E9 G9 h9 => h9.elim)
    obtain ⟨rfl, eG61⟩ := q61
    have eG61 := eG61.symm
    subst eG61
    refine y_blk 1 tq_X12_isClear (z := (65, [(5, .int (if (yab ((one / (rI ρ 1)) - (other / (rI ρ 1)))) < (yab ((one - one / (rI ρ 1) * (rI ρ 1)) - (other - other / (rI ρ 1) * (rI ρ 1)))) then (yab ((one - one / (rI ρ 1) * (rI ρ 1)) - (other - other / (rI ρ 1) * (rI ρ 1)))) else (yab ((one / (rI ρ 1)) - (other / (rI ρ 1)))))), (0, .ref (ad 200)), (1, .int one), (2, .int other), (3, .int ((other / (rI ρ 1)) - (one / (rI ρ 1)))), (4, .int ((other - other / (rI ρ 1) * (rI ρ 1)) - (one - one / (rI ρ 1) * (rI ρ 1))))], [.ref (ad 200), .int (ysg ((other / (rI ρ 1)) - (one / (rI ρ 1))))])) rfl ?_
    refine y_get hS tq_X12_isClear (v := .int (rI ρ 1)) rfl fg_X12_92_X12 hX.m rfl ?_
    refine y_blk 2 tq_X12_isClear (z := (71, [(5, .int (if (yab ((one / (rI ρ 1)) - (other / (rI ρ 1)))) < (yab ((one - one / (rI ρ 1) * (rI ρ 1)) - (other - other / (rI ρ 1) * (rI ρ 1)))) then (yab ((one - one / (rI ρ 1) * (rI ρ 1)) - (other - other / (rI ρ 1) * (rI ρ 1)))) else (yab ((one / (rI ρ 1)) - (other / (rI ρ 1)))))), (0, .ref (ad 200)), (1, .int one), (2, .int other), (3, .int ((other / (rI ρ 1)) - (one / (rI ρ 1)))), (4, .int ((other - other / (rI ρ 1) * (rI ρ 1)) - (one - one / (rI ρ 1) * (rI ρ 1))))], [.int ((other - other / (rI ρ 1) * (rI ρ 1)) - (one - one / (rI ρ 1) * (rI ρ 1))), .int ((ysg ((other / (rI ρ 1)) - (one / (rI ρ 1)))) * (rI ρ 1))])) rfl ?_
    refine y_callS hS tq_X12_isClear rfl (As := [.int ((other - other / (rI ρ 1) * (rI ρ 1)) - (one - one / (rI ρ 1) * (rI ρ 1)))]) rfl cs_X12_107 (m_J6_signum_0f7a4 hS ((other - other / (rI ρ 1) * (rI ρ 1)) - (one - one / (rI ρ 1) * (rI ρ 1)))) rfl (by decide) (Nat.le_of_ble_eq_true rfl) (fun r71 Gc71 q71 => ?_) (fun E9 G9 h9 => h9.elim)
    obtain ⟨rfl, eG71⟩ := q71
    have eG71 := eG71.symm
    subst eG71
    refine y_blk 4 tq_X12_isClear (z := (80, [(7, .int 1), (6, .int (((ysg ((other / (rI ρ 1)) - (one / (rI ρ 1)))) * (rI ρ 1)) + (ysg ((other - other / (rI ρ 1) * (rI ρ 1)) - (one - one / (rI ρ 1) * (rI ρ 1)))))), (5, .int (if (yab ((one / (rI ρ 1)) - (other / (rI ρ 1)))) < (yab ((one - one / (rI ρ 1) * (rI ρ 1)) - (other - other / (rI ρ 1) * (rI ρ 1)))) then (yab ((one - one / (rI ρ 1) * (rI ρ 1)) - (other - other / (rI ρ 1) * (rI ρ 1)))) else (yab ((one / (rI ρ 1)) - (other / (rI ρ 1)))))), (0, .ref (ad 200)), (1, .int one), (2, .int other), (3, .int ((other / (rI ρ 1)) - (one / (rI ρ 1)))), (4, .int ((other - other / (rI ρ 1) * (rI ρ 1)) - (one - one / (rI ρ 1) * (rI ρ 1))))], [])) rfl ?_
    refine y_pick (L2 := [(0, .ref (ad 200)), (1, .int one), (2, .int other), (3, .int ((other / (rI ρ 1)) - (one / (rI ρ 1)))), (4, .int ((other - other / (rI ρ 1) * (rI ρ 1)) - (one - one / (rI ρ 1) * (rI ρ 1)))), (5, .int (if (yab ((one / (rI ρ 1)) - (other / (rI ρ 1)))) < (yab ((one - one / (rI ρ 1) * (rI ρ 1)) - (other - other / (rI ρ 1) * (rI ρ 1)))) then (yab ((one - one / (rI ρ 1) * (rI ρ 1)) - (other - other / (rI ρ 1) * (rI ρ 1)))) else (yab ((one / (rI ρ 1)) - (other / (rI ρ 1)))))), (6, .int (((ysg ((other / (rI ρ 1)) - (one / (rI ρ 1)))) * (rI ρ 1)) + (ysg ((other - other / (rI ρ 1) * (rI ρ 1)) - (one - one / (rI ρ 1) * (rI ρ 1)))))), (7, .int 1)]) [3, 4, 5, 6, 7, 2, 1, 0] rfl ?_
    exact J80 _ 1 (by first | decide | assumption | exact Int.le_refl _ | exact yposgeL (by assumption) c84) (by assumption) (by first | exact rcl_s (Q := fun x => rop ρ (one + x * rst ρ one other)) cl80 h0_80 c84 ⟨c100, c116⟩ | exact rcl_0) rfl
  refine y_blk 2 tq_X12_isClear (z := (2, [(0, .ref (ad 200)), (1, .int one), (2, .int other)], [.ref (ad 200), .int other])) rfl ?_
  refine y_get hS tq_X12_isClear (v := .int (rI ρ 1)) rfl fg_X12_92_X12 hX.m rfl ?_
  refine y_blk 0 tq_X12_isClear (z := (5, [(0, .ref (ad 200)), (1, .int one), (2, .int other)], [.int (rI ρ 1), .int other])) rfl ?_
  refine y_idiv tq_X12_isClear rfl (by first | exact rcell.w hX hone | exact rcell.w hX hcell | decide) ?_
  refine y_blk 2 tq_X12_isClear (z := (8, [(0, .ref (ad 200)), (1, .int one), (2, .int other)], [.ref (ad 200), .int one, .int (other / (rI ρ 1))])) rfl ?_
  refine y_get hS tq_X12_isClear (v := .int (rI ρ 1)) rfl fg_X12_92_X12 hX.m rfl ?_
  refine y_blk 0 tq_X12_isClear (z := (11, [(0, .ref (ad 200)), (1, .int one), (2, .int other)], [.int (rI ρ 1), .int one, .int (other / (rI ρ 1))])) rfl ?_
  refine y_idiv tq_X12_isClear rfl (by first | exact rcell.w hX hone | exact rcell.w hX hcell | decide) ?_
  refine y_blk 4 tq_X12_isClear (z := (16, [(3, .int ((other / (rI ρ 1)) - (one / (rI ρ 1)))), (0, .ref (ad 200)), (1, .int one), (2, .int other)], [.ref (ad 200), .int other])) rfl ?_
  refine y_get hS tq_X12_isClear (v := .int (rI ρ 1)) rfl fg_X12_92_X12 hX.m rfl ?_
  refine y_blk 0 tq_X12_isClear (z := (19, [(3, .int ((other / (rI ρ 1)) - (one / (rI ρ 1)))), (0, .ref (ad 200)), (1, .int one), (2, .int other)], [.int (rI ρ 1), .int other])) rfl ?_
  refine y_irem tq_X12_isClear rfl (by first | exact rcell.w hX hone | exact rcell.w hX hcell | decide) ?_
  refine y_blk 2 tq_X12_isClear (z := (22, [(3, .int ((other / (rI ρ 1)) - (one / (rI ρ 1)))), (0, .ref (ad 200)), (1, .int one), (2, .int other)], [.ref (ad 200), .int one, .int (other - other / (rI ρ 1) * (rI ρ 1))])) rfl ?_
  refine y_get hS tq_X12_isClear (v := .int (rI ρ 1)) rfl fg_X12_92_X12 hX.m rfl ?_
  refine y_blk 0 tq_X12_isClear (z := (25, [(3, .int ((other / (rI ρ 1)) - (one / (rI ρ 1)))), (0, .ref (ad 200)), (1, .int one), (2, .int other)], [.int (rI ρ 1), .int one, .int (other - other / (rI ρ 1) * (rI ρ 1))])) rfl ?_
  refine y_irem tq_X12_isClear rfl (by first | exact rcell.w hX hone | exact rcell.w hX hcell | decide) ?_
  refine y_blk 3 tq_X12_isClear (z := (30, [(4, .int ((other - other / (rI ρ 1) * (rI ρ 1)) - (one - one / (rI ρ 1) * (rI ρ 1)))), (3, .int ((other / (rI ρ 1)) - (one / (rI ρ 1)))), (0, .ref (ad 200)), (1, .int one), (2, .int other)], [.int ((other / (rI ρ 1)) - (one / (rI ρ 1)))])) rfl ?_
  refine y_if_eq tq_X12_isClear 52 rfl rfl (fun c30 => ?_) (fun c30 => ?_)
  · skip
    refine y_blk 0 tq_X12_isClear (z := (52, [(4, .int ((other - other / (rI ρ 1) * (rI ρ 1)) - (one - one / (rI ρ 1) * (rI ρ 1)))), (3, .int ((other / (rI ρ 1)) - (one / (rI ρ 1)))), (0, .ref (ad 200)), (1, .int one), (2, .int other)], [])) rfl ?_
    refine y_pick (L2 := [(0, .ref (ad 200)), (1, .int one), (2, .int other), (3, .int ((other / (rI ρ 1)) - (one / (rI ρ 1)))), (4, .int ((other - other / (rI ρ 1) * (rI ρ 1)) - (one - one / (rI ρ 1) * (rI ρ 1))))]) [2, 3, 4, 1, 0] rfl ?_
    exact J52 (by first | exact Or.inl c30 | exact Or.inr (Or.inl c35) | exact Or.inr (Or.inr c47))
  · skip
    refine y_blk 1 tq_X12_isClear (z := (35, [(4, .int ((other - other / (rI ρ 1) * (rI ρ 1)) - (one - one / (rI ρ 1) * (rI ρ 1)))), (3, .int ((other / (rI ρ 1)) - (one / (rI ρ 1)))), (0, .ref (ad 200)), (1, .int one), (2, .int other)], [.int ((other - other / (rI ρ 1) * (rI ρ 1)) - (one - one / (rI ρ 1) * (rI ρ 1)))])) rfl ?_
    refine y_if_eq tq_X12_isClear 52 rfl rfl (fun c35 => ?_) (fun c35 => ?_)
    · skip
      refine y_blk 0 tq_X12_isClear (z := (52, [(4, .int ((other - other / (rI ρ 1) * (rI ρ 1)) - (one - one / (rI ρ 1) * (rI ρ 1)))), (3, .int ((other / (rI ρ 1)) - (one / (rI ρ 1)))), (0, .ref (ad 200)), (1, .int one), (2, .int other)], [])) rfl ?_
      refine y_pick (L2 := [(0, .ref (ad 200)), (1, .int one), (2, .int other), (3, .int ((other / (rI ρ 1)) - (one / (rI ρ 1)))), (4, .int ((other - other / (rI ρ 1) * (rI ρ 1)) - (one - one / (rI ρ 1) * (rI ρ 1))))]) [2, 3, 4, 1, 0] rfl ?_
      exact J52 (by first | exact Or.inl c30 | exact Or.inr (Or.inl c35) | exact Or.inr (Or.inr c47))
    · skip
      refine y_blk 1 tq_X12_isClear (z := (39, [(4, .int ((other - other / (rI ρ 1) * (rI ρ 1)) - (one - one / (rI ρ 1) * (rI ρ 1)))), (3, .int ((other / (rI ρ 1)) - (one / (rI ρ 1)))), (0, .ref (ad 200)), (1, .int one), (2, .int other)], [.int ((other / (rI ρ 1)) - (one / (rI ρ 1)))])) rfl ?_
      refine y_mabs hS tq_X12_isClear rfl ⟨by decide +kernel, by decide +kernel⟩ (Nat.le_of_ble_eq_true rfl) (by decide) ?_
      refine y_blk 1 tq_X12_isClear (z := (44, [(4, .int ((other - other / (rI ρ 1) * (rI ρ 1)) - (one - one / (rI ρ 1) * (rI ρ 1)))), (3, .int ((other / (rI ρ 1)) - (one / (rI ρ 1)))), (0, .ref (ad 200)), (1, .int one), (2, .int other)], [.int ((other - other / (rI ρ 1) * (rI ρ 1)) - (one - one / (rI ρ 1) * (rI ρ 1))), .int (yab ((other / (rI ρ 1)) - (one / (rI ρ 1))))])) rfl ?_
      refine y_mabs hS tq_X12_isClear rfl ⟨by decide +kernel, by decide +kernel⟩ (Nat.le_of_ble_eq_true rfl) (by decide) ?_
      refine y_blk 0 tq_X12_isClear (z := (47, [(4, .int ((other - other / (rI ρ 1) * (rI ρ 1)) - (one - one / (rI ρ 1) * (rI ρ 1)))), (3, .int ((other / (rI ρ 1)) - (one / (rI ρ 1)))), (0, .ref (ad 200)), (1, .int one), (2, .int other)], [.int (yab ((other - other / (rI ρ 1) * (rI ρ 1)) - (one - one / (rI ρ 1) * (rI ρ 1)))), .int (yab ((other / (rI ρ 1)) - (one / (rI ρ 1))))])) rfl ?_
      refine y_icmp_eq tq_X12_isClear 52 rfl rfl (fun c47 => ?_) (fun c47 => ?_)
      · skip
        refine y_blk 0 tq_X12_isClear (z := (52, [(4, .int ((other - other / (rI ρ 1) * (rI ρ 1)) - (one - one / (rI ρ 1) * (rI ρ 1)))), (3, .int ((other / (rI ρ 1)) - (one / (rI ρ 1)))), (0, .ref (ad 200)), (1, .int one), (2, .int other)], [])) rfl ?_
        refine y_pick (L2 := [(0, .ref (ad 200)), (1, .int one), (2, .int other), (3, .int ((other / (rI ρ 1)) - (one / (rI ρ 1)))), (4, .int ((other - other / (rI ρ 1) * (rI ρ 1)) - (one - one / (rI ρ 1) * (rI ρ 1))))]) [2, 3, 4, 1, 0] rfl ?_
        exact J52 (by first | exact Or.inl c30 | exact Or.inr (Or.inl c35) | exact Or.inr (Or.inr c47))
      · skip
        refine y_blk 1 tq_X12_isClear (z := (51, [(4, .int ((other - other / (rI ρ 1) * (rI ρ 1)) - (one - one / (rI ρ 1) * (rI ρ 1)))), (3, .int ((other / (rI ρ 1)) - (one / (rI ρ 1)))), (0, .ref (ad 200)), (1, .int one), (2, .int other)], [.int 0])) rfl ?_
        exact y_zret tq_X12_isClear rfl rfl (rfl) (⟨⟨_, (Or.inl rfl), by first | exact ⟨fun _ => ⟨hdia, rcl_e cl80 c84⟩, fun _ => rfl⟩ | exact ⟨fun h => absurd h (by decide), fun h => absurd c100 (rcl_at h h0_80 c84).1⟩ | exact ⟨fun h => absurd h (by decide), fun h => absurd c116 (rcl_at h h0_80 c84).2⟩ | exact ⟨fun h => absurd h (by decide), fun h => False.elim (h.1.elim c30 (fun z => z.elim c35 c47))⟩, rfl⟩, rfl⟩)
set_option maxHeartbeats 4000000 in
set_option maxRecDepth 100000 in
theorem m_X12_isLitBy_v {l : Launch} {S0 : State} {A0 : Array Value} {D : va_G} {aC : Nat → ClassId} {ic : Int32 → Nat} {de : Nat} {ad : Nat → Nat} {G : AH} {ρ : RS} (hS : yS l S0 A0 D aC) (hI : yIc S0 ic de) (hX : atR aC ic de ad G ρ) (cell : Int32) (reach : Int32) (other : Int32) (hcell : rcell ρ cell) (hother : rcell ρ other) : yM l S0 D yX12_isLitBy cX12_isLitBy 4 (some .boolean) 18 0 0 [.ref (ad 200), .int cell, .int reach, .int other] G (fun r G1 => (∃ v : Int32, (v = 0 ∨ v = 1) ∧ (v = 1 ↔ rlit ρ cell reach other) ∧ r = some (.int v)) ∧ G1 = G) (fun _ _ => False) := by
  refine yM.ofK K_X12_isLitBy rfl (by decide) (Nat.le_of_ble_eq_true rfl) ?_
  refine y_blk 3 tq_X12_isLitBy (z := (3, [(0, .ref (ad 200)), (1, .int cell), (2, .int reach), (3, .int other)], [.int other, .int cell, .ref (ad 200)])) rfl ?_
  refine y_callV hS tq_X12_isLitBy rfl (As := [.int cell, .int other]) rfl cv_X12_104 hX.m (m_X12_apart hS hI hX cell other (by first | (with_reducible assumption) | (with_reducible exact hX.lac (by assumption)) | (with_reducible exact hX.poc (by assumption)) | (with_reducible exact hX.wac (by assumption) (by assumption) (by omega)) | assumption | exact hX.lac (by assumption) | exact hX.poc (by assumption) | exact hX.wac (by assumption) (by assumption) (by omega))) rfl (by decide) (Nat.le_of_ble_eq_true rfl) (fun r3 Gc3 q3 => ?_) (fun E9 G9 h9 => h9.elim)
  obtain ⟨rfl, eG3⟩ := q3
  have eG3 := eG3.symm
  subst eG3
  refine y_blk 1 tq_X12_isLitBy (z := (7, [(0, .ref (ad 200)), (1, .int cell), (2, .int reach), (3, .int other)], [.int reach, .int (if (yab ((cell / (rI ρ 1)) - (other / (rI ρ 1)))) < (yab ((cell - cell / (rI ρ 1) * (rI ρ 1)) - (other - other / (rI ρ 1) * (rI ρ 1)))) then (yab ((cell - cell / (rI ρ 1) * (rI ρ 1)) - (other - other / (rI ρ 1) * (rI ρ 1)))) else (yab ((cell / (rI ρ 1)) - (other / (rI ρ 1)))))])) rfl ?_
  refine y_icmp_gt tq_X12_isLitBy 23 rfl rfl (fun c7 => ?_) (fun c7 => ?_)
  · skip
    refine y_blk 1 tq_X12_isLitBy (z := (24, [(0, .ref (ad 200)), (1, .int cell), (2, .int reach), (3, .int other)], [.int 0])) rfl ?_
    exact y_zret tq_X12_isLitBy rfl rfl (rfl) (⟨⟨_, (Or.inl rfl), by first | exact ⟨fun h => absurd h (by decide), fun h => absurd h.1 (Int32.not_le.mpr c7)⟩ | exact ⟨fun h => absurd h (by decide), fun h => by rw [hr_x13.mpr h.2] at c16; exact absurd c16 (by decide)⟩ | exact ⟨fun _ => ⟨Int32.not_lt.mp c7, hr_x13.mp (hb_x13.resolve_left c16)⟩, fun _ => rfl⟩, rfl⟩, rfl⟩)
  · skip
    refine y_blk 3 tq_X12_isLitBy (z := (13, [(0, .ref (ad 200)), (1, .int cell), (2, .int reach), (3, .int other)], [.int other, .int cell, .ref (ad 200)])) rfl ?_
    refine y_callV hS tq_X12_isLitBy rfl (As := [.int cell, .int other]) rfl cv_X12_112 hX.m (m_X12_isClear_v hS hI hX cell other (by first | (with_reducible assumption) | (with_reducible exact hX.lac (by assumption)) | (with_reducible exact hX.poc (by assumption)) | (with_reducible exact hX.wac (by assumption) (by assumption) (by omega)) | assumption | exact hX.lac (by assumption) | exact hX.poc (by assumption) | exact hX.wac (by assumption) (by assumption) (by omega)) (by first | (with_reducible assumption) | (with_reducible exact hX.lac (by assumption)) | (with_reducible exact hX.poc (by assumption)) | (with_reducible exact hX.wac (by assumption) (by assumption) (by omega)) | assumption | exact hX.lac (by assumption) | exact hX.poc (by assumption) | exact hX.wac (by assumption) (by assumption) (by omega))) rfl (by decide) (Nat.le_of_ble_eq_true rfl) (fun r13 Gc13 q13 => ?_) (fun E9 G9 h9 => h9.elim)
    obtain ⟨⟨x13, hb_x13, hr_x13, rfl⟩, eG13⟩ := q13
    have eG13 := eG13.symm
    subst eG13
    refine y_blk 0 tq_X12_isLitBy (z := (16, [(0, .ref (ad 200)), (1, .int cell), (2, .int reach), (3, .int other)], [.int x13])) rfl ?_
    refine y_if_eq tq_X12_isLitBy 23 rfl rfl (fun c16 => ?_) (fun c16 => ?_)
    · skip
      refine y_blk 1 tq_X12_isLitBy (z := (24, [(0, .ref (ad 200)), (1, .int cell), (2, .int reach), (3, .int other)], [.int 0])) rfl ?_
      exact y_zret tq_X12_isLitBy rfl rfl (rfl) (⟨⟨_, (Or.inl rfl), by first | exact ⟨fun h => absurd h (by decide), fun h => absurd h.1 (Int32.not_le.mpr c7)⟩ | exact ⟨fun h => absurd h (by decide), fun h => by rw [hr_x13.mpr h.2] at c16; exact absurd c16 (by decide)⟩ | exact ⟨fun _ => ⟨Int32.not_lt.mp c7, hr_x13.mp (hb_x13.resolve_left c16)⟩, fun _ => rfl⟩, rfl⟩, rfl⟩)
    · skip
      refine y_blk 2 tq_X12_isLitBy (z := (24, [(0, .ref (ad 200)), (1, .int cell), (2, .int reach), (3, .int other)], [.int 1])) rfl ?_
      exact y_zret tq_X12_isLitBy rfl rfl (rfl) (⟨⟨_, (Or.inr rfl), by first | exact ⟨fun h => absurd h (by decide), fun h => absurd h.1 (Int32.not_le.mpr c7)⟩ | exact ⟨fun h => absurd h (by decide), fun h => by rw [hr_x13.mpr h.2] at c16; exact absurd c16 (by decide)⟩ | exact ⟨fun _ => ⟨Int32.not_lt.mp c7, hr_x13.mp (hb_x13.resolve_left c16)⟩, fun _ => rfl⟩, rfl⟩, rfl⟩)
set_option maxHeartbeats 4000000 in
set_option maxRecDepth 100000 in
theorem m_X12_isBright_v {l : Launch} {S0 : State} {A0 : Array Value} {D : va_G} {aC : Nat → ClassId} {ic : Int32 → Nat} {de : Nat} {ad : Nat → Nat} {G : AH} {ρ : RS} (hS : yS l S0 A0 D aC) (hI : yIc S0 ic de) (hX : atR aC ic de ad G ρ) (cell : Int32) (hcell : rcell ρ cell) : yM l S0 D yX12_isBright cX12_isBright 3 (some .boolean) 19 0 0 [.ref (ad 200), .int cell] G (fun r G1 => (∃ v : Int32, (v = 0 ∨ v = 1) ∧ (v = 1 ↔ rbri ρ cell) ∧ r = some (.int v)) ∧ G1 = G) (fun _ _ => False) := by
  refine yM.ofK K_X12_isBright rfl (by decide) (Nat.le_of_ble_eq_true rfl) ?_
  have J2 : ∀ (n2 : Nat) (v2_2 : Int32) (h0_2 : 0 ≤ v2_2.toInt) (nb2 : ∀ k : Nat, k < v2_2.toInt.toNat → ¬ rbrK ρ cell k), (((Int32.ofNat (rZ ρ 210)) : Int32).toInt - v2_2.toInt).toNat = n2 → Y l S0 D K_X12_isBright 19 0 0 (fun r G1 => (∃ v : Int32, (v = 0 ∨ v = 1) ∧ (v = 1 ↔ rbri ρ cell) ∧ r = some (.int v)) ∧ G1 = G) (fun _ _ => False) 2 [(0, .ref (ad 200)), (1, .int cell), (2, .int v2_2)] [] G 0 0 := by
    intro n2
    induction n2 using Nat.strongRecOn with
    | _ n2 ih2 =>
    intro v2_2 h0_2 nb2 hn2
    subst hn2
    refine y_blk 2 tq_X12_isBright (z := (4, [(0, .ref (ad 200)), (1, .int cell), (2, .int v2_2)], [.ref (ad 200), .int v2_2])) rfl ?_
    refine y_get hS tq_X12_isBright (v := .ref (ad 210)) rfl fg_X12_20_X12 hX.m rfl ?_
    refine y_blk 0 tq_X12_isBright (z := (7, [(0, .ref (ad 200)), (1, .int cell), (2, .int v2_2)], [.ref (ad 210), .int v2_2])) rfl ?_
    refine y_callF hS tq_X12_isBright rfl (As := []) rfl cf_X12_58 (Or.inl ⟨_, (hX.ls 210 (by decide)).1⟩) (m_Jsize hS (hX.ls 210 (by decide))) rfl (by decide) (Nat.le_of_ble_eq_true rfl) (fun r7 Gc7 q7 => ?_) (fun _ _ h9 => h9.elim)
    obtain ⟨rfl, eG7⟩ := q7
    have eG7 := eG7.symm
    subst eG7
    refine y_blk 0 tq_X12_isBright (z := (12, [(0, .ref (ad 200)), (1, .int cell), (2, .int v2_2)], [.int (Int32.ofNat (rZ ρ 210)), .int v2_2])) rfl ?_
    refine y_icmp_ge tq_X12_isBright 80 rfl rfl (fun c12 => ?_) (fun c12 => ?_)
    · skip
      refine y_blk 1 tq_X12_isBright (z := (81, [(0, .ref (ad 200)), (1, .int cell), (2, .int v2_2)], [.int 0])) rfl ?_
      exact y_zret tq_X12_isBright rfl rfl (rfl) (⟨⟨_, (Or.inl rfl), by first | exact ⟨fun h => absurd h (by decide), fun h => h.elim (fun k q => absurd q.2 (allN nb2 (by have z1 := hX.2.2.1; have z2 := z1.1; omega) c12 k q.1))⟩ | exact ⟨fun _ => ⟨_, (by assumption), c31, hr_x66.mp (hb_x66.resolve_left c69)⟩, fun _ => rfl⟩, rfl⟩, rfl⟩)
    · skip
      have hn12 := hX.2.le10 210 (by decide)
      have b12 : v2_2.toInt < rZ ρ 210 := yIy (by omega) h0_2 c12
      have d12 : Int32.toNatClampNeg v2_2 < rZ ρ 210 := yIx h0_2 b12
      refine y_blk 1 tq_X12_isBright (z := (16, [(0, .ref (ad 200)), (1, .int cell), (2, .int v2_2)], [.ref (ad 200)])) rfl ?_
      refine y_get hS tq_X12_isBright (v := .ref (ad 210)) rfl fg_X12_20_X12 hX.m rfl ?_
      refine y_blk 1 tq_X12_isBright (z := (20, [(0, .ref (ad 200)), (1, .int cell), (2, .int v2_2)], [.int v2_2, .ref (ad 210)])) rfl ?_
      refine y_callF hS tq_X12_isBright rfl (As := [.int v2_2]) rfl cf_X12_80 (Or.inl ⟨_, (hX.ls 210 (by decide)).1⟩) (m_Rla hS hX (by assumption) (by assumption)) rfl (by decide) (Nat.le_of_ble_eq_true rfl) (fun r20 Gc20 q20 => ?_) (fun _ _ h9 => h9.elim)
      obtain ⟨rfl, eG20⟩ := q20
      have eG20 := eG20.symm
      subst eG20
      have d20 : (Int32.toNatClampNeg v2_2) < rZ ρ 210 := yIx (by assumption) (by assumption)
      refine y_blk 0 tq_X12_isBright (z := (25, [(0, .ref (ad 200)), (1, .int cell), (2, .int v2_2)], [.ref (ad (300 + (Int32.toNatClampNeg v2_2)))])) rfl ?_
      refine y_castA hS tq_X12_isBright rfl kc_X12_116 (Or.inl ⟨_, (hX.la (by assumption))⟩) ?_
      refine y_blk 1 tq_X12_isBright (z := (29, [(0, .ref (ad 200)), (1, .int cell), (2, .int v2_2)], [.int 2, .ref (ad (300 + (Int32.toNatClampNeg v2_2)))])) rfl ?_
      refine y_iald hS tq_X12_isBright rfl (hX.la (by assumption)) (by first | exact yIn (by decide) (by decide) | exact yIn (by assumption) (by assumption) | (exact yIn (by omega) (by omega))) ?_
      refine y_blk 1 tq_X12_isBright (z := (31, [(0, .ref (ad 200)), (1, .int cell), (2, .int v2_2)], [.int 1, .int ((rV ρ (300 + (Int32.toNatClampNeg v2_2))) (Int32.toNatClampNeg 2))])) rfl ?_
      refine y_icmp_ne tq_X12_isBright 74 rfl rfl (fun c31 => ?_) (fun c31 => ?_)
      · skip
        refine y_blk 2 tq_X12_isBright (z := (2, [(2, .int (v2_2 + 1)), (0, .ref (ad 200)), (1, .int cell)], [])) rfl ?_
        refine y_pick (L2 := [(0, .ref (ad 200)), (1, .int cell), (2, .int (v2_2 + 1))]) [1, 2, 0] rfl ?_
        exact ih2 _ (by exact ydec c12) (v2_2 + 1) (by first | decide | assumption | exact Int.le_refl _ | exact yposgeL (by assumption) c12) (by first | exact allS nb2 h0_2 c12 (fun q => c31 q.1) | exact allS nb2 h0_2 c12 (fun q => by rw [hr_x66.mpr q.2] at c69; exact absurd c69 (by decide)) | exact all0) rfl
      · skip
        refine y_blk 2 tq_X12_isBright (z := (36, [(0, .ref (ad 200)), (1, .int cell), (2, .int v2_2)], [.ref (ad 200), .ref (ad 200)])) rfl ?_
        refine y_get hS tq_X12_isBright (v := .ref (ad 210)) rfl fg_X12_20_X12 hX.m rfl ?_
        refine y_blk 1 tq_X12_isBright (z := (40, [(0, .ref (ad 200)), (1, .int cell), (2, .int v2_2)], [.int v2_2, .ref (ad 210), .ref (ad 200)])) rfl ?_
        refine y_callF hS tq_X12_isBright rfl (As := [.int v2_2]) rfl cf_X12_80 (Or.inl ⟨_, (hX.ls 210 (by decide)).1⟩) (m_Rla hS hX (by assumption) (by assumption)) rfl (by decide) (Nat.le_of_ble_eq_true rfl) (fun r40 Gc40 q40 => ?_) (fun _ _ h9 => h9.elim)
        obtain ⟨rfl, eG40⟩ := q40
        have eG40 := eG40.symm
        subst eG40
        have d40 : (Int32.toNatClampNeg v2_2) < rZ ρ 210 := yIx (by assumption) (by assumption)
        refine y_blk 0 tq_X12_isBright (z := (45, [(0, .ref (ad 200)), (1, .int cell), (2, .int v2_2)], [.ref (ad (300 + (Int32.toNatClampNeg v2_2))), .ref (ad 200)])) rfl ?_
        refine y_castA hS tq_X12_isBright rfl kc_X12_116 (Or.inl ⟨_, (hX.la (by assumption))⟩) ?_
        refine y_blk 1 tq_X12_isBright (z := (49, [(0, .ref (ad 200)), (1, .int cell), (2, .int v2_2)], [.int 0, .ref (ad (300 + (Int32.toNatClampNeg v2_2))), .ref (ad 200)])) rfl ?_
        refine y_iald hS tq_X12_isBright rfl (hX.la (by assumption)) (by first | exact yIn (by decide) (by decide) | exact yIn (by assumption) (by assumption) | (exact yIn (by omega) (by omega))) ?_
        refine y_blk 1 tq_X12_isBright (z := (51, [(0, .ref (ad 200)), (1, .int cell), (2, .int v2_2)], [.ref (ad 200), .int ((rV ρ (300 + (Int32.toNatClampNeg v2_2))) (Int32.toNatClampNeg 0)), .ref (ad 200)])) rfl ?_
        refine y_get hS tq_X12_isBright (v := .ref (ad 210)) rfl fg_X12_20_X12 hX.m rfl ?_
        refine y_blk 1 tq_X12_isBright (z := (55, [(0, .ref (ad 200)), (1, .int cell), (2, .int v2_2)], [.int v2_2, .ref (ad 210), .int ((rV ρ (300 + (Int32.toNatClampNeg v2_2))) (Int32.toNatClampNeg 0)), .ref (ad 200)])) rfl ?_
        refine y_callF hS tq_X12_isBright rfl (As := [.int v2_2]) rfl cf_X12_80 (Or.inl ⟨_, (hX.ls 210 (by decide)).1⟩) (m_Rla hS hX (by assumption) (by assumption)) rfl (by decide) (Nat.le_of_ble_eq_true rfl) (fun r55 Gc55 q55 => ?_) (fun _ _ h9 => h9.elim)
        obtain ⟨rfl, eG55⟩ := q55
        have eG55 := eG55.symm
        subst eG55
        have d55 : (Int32.toNatClampNeg v2_2) < rZ ρ 210 := yIx (by assumption) (by assumption)
        refine y_blk 0 tq_X12_isBright (z := (60, [(0, .ref (ad 200)), (1, .int cell), (2, .int v2_2)], [.ref (ad (300 + (Int32.toNatClampNeg v2_2))), .int ((rV ρ (300 + (Int32.toNatClampNeg v2_2))) (Int32.toNatClampNeg 0)), .ref (ad 200)])) rfl ?_
        refine y_castA hS tq_X12_isBright rfl kc_X12_116 (Or.inl ⟨_, (hX.la (by assumption))⟩) ?_
        refine y_blk 1 tq_X12_isBright (z := (64, [(0, .ref (ad 200)), (1, .int cell), (2, .int v2_2)], [.int 1, .ref (ad (300 + (Int32.toNatClampNeg v2_2))), .int ((rV ρ (300 + (Int32.toNatClampNeg v2_2))) (Int32.toNatClampNeg 0)), .ref (ad 200)])) rfl ?_
        refine y_iald hS tq_X12_isBright rfl (hX.la (by assumption)) (by first | exact yIn (by decide) (by decide) | exact yIn (by assumption) (by assumption) | (exact yIn (by omega) (by omega))) ?_
        refine y_blk 1 tq_X12_isBright (z := (66, [(0, .ref (ad 200)), (1, .int cell), (2, .int v2_2)], [.int cell, .int ((rV ρ (300 + (Int32.toNatClampNeg v2_2))) (Int32.toNatClampNeg 1)), .int ((rV ρ (300 + (Int32.toNatClampNeg v2_2))) (Int32.toNatClampNeg 0)), .ref (ad 200)])) rfl ?_
        refine y_callV hS tq_X12_isBright rfl (As := [.int ((rV ρ (300 + (Int32.toNatClampNeg v2_2))) (Int32.toNatClampNeg 0)), .int ((rV ρ (300 + (Int32.toNatClampNeg v2_2))) (Int32.toNatClampNeg 1)), .int cell]) rfl cv_X12_117 hX.m (m_X12_isLitBy_v hS hI hX ((rV ρ (300 + (Int32.toNatClampNeg v2_2))) (Int32.toNatClampNeg 0)) ((rV ρ (300 + (Int32.toNatClampNeg v2_2))) (Int32.toNatClampNeg 1)) cell (by first | (with_reducible assumption) | (with_reducible exact hX.lac (by assumption)) | (with_reducible exact hX.poc (by assumption)) | (with_reducible exact hX.wac (by assumption) (by assumption) (by omega)) | assumption | exact hX.lac (by assumption) | exact hX.poc (by assumption) | exact hX.wac (by assumption) (by assumption) (by omega)) (by first | (with_reducible assumption) | (with_reducible exact hX.lac (by assumption)) | (with_reducible exact hX.poc (by assumption)) | (with_reducible exact hX.wac (by assumption) (by assumption) (by omega)) | assumption | exact hX.lac (by assumption) | exact hX.poc (by assumption) | exact hX.wac (by assumption) (by assumption) (by omega))) rfl (by decide) (Nat.le_of_ble_eq_true rfl) (fun r66 Gc66 q66 => ?_) (fun E9 G9 h9 => h9.elim)
        obtain ⟨⟨x66, hb_x66, hr_x66, rfl⟩, eG66⟩ := q66
        have eG66 := eG66.symm
        subst eG66
        refine y_blk 0 tq_X12_isBright (z := (69, [(0, .ref (ad 200)), (1, .int cell), (2, .int v2_2)], [.int x66])) rfl ?_
        refine y_if_eq tq_X12_isBright 74 rfl rfl (fun c69 => ?_) (fun c69 => ?_)
        · skip
          refine y_blk 2 tq_X12_isBright (z := (2, [(2, .int (v2_2 + 1)), (0, .ref (ad 200)), (1, .int cell)], [])) rfl ?_
          refine y_pick (L2 := [(0, .ref (ad 200)), (1, .int cell), (2, .int (v2_2 + 1))]) [1, 2, 0] rfl ?_
          exact ih2 _ (by exact ydec c12) (v2_2 + 1) (by first | decide | assumption | exact Int.le_refl _ | exact yposgeL (by assumption) c12) (by first | exact allS nb2 h0_2 c12 (fun q => c31 q.1) | exact allS nb2 h0_2 c12 (fun q => by rw [hr_x66.mpr q.2] at c69; exact absurd c69 (by decide)) | exact all0) rfl
        · skip
          refine y_blk 1 tq_X12_isBright (z := (73, [(0, .ref (ad 200)), (1, .int cell), (2, .int v2_2)], [.int 1])) rfl ?_
          exact y_zret tq_X12_isBright rfl rfl (rfl) (⟨⟨_, (Or.inr rfl), by first | exact ⟨fun h => absurd h (by decide), fun h => h.elim (fun k q => absurd q.2 (allN nb2 (by have z1 := hX.2.2.1; have z2 := z1.1; omega) c12 k q.1))⟩ | exact ⟨fun _ => ⟨_, (by assumption), c31, hr_x66.mp (hb_x66.resolve_left c69)⟩, fun _ => rfl⟩, rfl⟩, rfl⟩)
  refine y_blk 2 tq_X12_isBright (z := (2, [(2, .int 0), (0, .ref (ad 200)), (1, .int cell)], [])) rfl ?_
  refine y_pick (L2 := [(0, .ref (ad 200)), (1, .int cell), (2, .int 0)]) [1, 2, 0] rfl ?_
  exact J2 _ 0 (by first | decide | assumption | exact Int.le_refl _ | exact yposgeL (by assumption) c12) (by first | exact allS nb2 h0_2 c12 (fun q => c31 q.1) | exact allS nb2 h0_2 c12 (fun q => by rw [hr_x66.mpr q.2] at c69; exact absurd c69 (by decide)) | exact all0) rfl
set_option maxHeartbeats 4000000 in
set_option maxRecDepth 100000 in
theorem m_X12_brights_v {l : Launch} {S0 : State} {A0 : Array Value} {D : va_G} {aC : Nat → ClassId} {ic : Int32 → Nat} {de : Nat} {ad : Nat → Nat} {G : AH} {ρ : RS} (hS : yS l S0 A0 D aC) (hI : yIc S0 ic de) (hX : atR aC ic de ad G ρ) : yM l S0 D yX12_brights cX12_brights 3 (some .int) 20 0 0 [.ref (ad 200)] G (fun r G1 => r = some (.int (rbrN ρ)) ∧ G1 = G) (fun _ _ => False) := by
  refine yM.ofK K_X12_brights rfl (by decide) (Nat.le_of_ble_eq_true rfl) ?_
  have n64 := hX.2.n64
  have J4 : ∀ (n4 : Nat) (v4_1 : Int32) (v4_2 : Int32) (h0_4 : 0 ≤ v4_2.toInt) (hh4 : 0 ≤ v4_2.toInt ∧ v4_2.toInt ≤ (Int32.ofNat (rZ ρ 201) : Int32).toInt) (ea4 : v4_1 = itI (rbrF ρ) 0 v4_2.toInt.toNat), (((Int32.ofNat (rZ ρ 201)) : Int32).toInt - v4_2.toInt).toNat = n4 → Y l S0 D K_X12_brights 20 0 0 (fun r G1 => r = some (.int (rbrN ρ)) ∧ G1 = G) (fun _ _ => False) 4 [(0, .ref (ad 200)), (1, .int v4_1), (2, .int v4_2)] [] G 0 0 := by
    intro n4
    induction n4 using Nat.strongRecOn with
    | _ n4 ih4 =>
    intro v4_1 v4_2 h0_4 hh4 ea4 hn4
    subst hn4
    refine y_blk 2 tq_X12_brights (z := (6, [(0, .ref (ad 200)), (1, .int v4_1), (2, .int v4_2)], [.ref (ad 200), .int v4_2])) rfl ?_
    refine y_get hS tq_X12_brights (v := .ref (ad 201)) rfl fg_X12_7_X12 hX.m rfl ?_
    refine y_blk 0 tq_X12_brights (z := (9, [(0, .ref (ad 200)), (1, .int v4_1), (2, .int v4_2)], [.ref (ad 201), .int v4_2])) rfl ?_
    refine y_alen hS tq_X12_brights 0 rfl rfl hX.ki ?_
    refine y_blk 0 tq_X12_brights (z := (10, [(0, .ref (ad 200)), (1, .int v4_1), (2, .int v4_2)], [.int (Int32.ofNat (rZ ρ 201)), .int v4_2])) rfl ?_
    refine y_icmp_ge tq_X12_brights 35 rfl rfl (fun c10 => ?_) (fun c10 => ?_)
    · skip
      refine y_blk 1 tq_X12_brights (z := (36, [(0, .ref (ad 200)), (1, .int v4_1), (2, .int v4_2)], [.int v4_1])) rfl ?_
      exact y_iret tq_X12_brights rfl rfl (⟨congrArg (fun z => some (Value.int z)) (itI_e ea4 hh4 c10), rfl⟩)
    · skip
      have hn10 := hX.2.n64
      have b10 : v4_2.toInt < rZ ρ 201 := yIy (by omega) h0_4 c10
      have d10 : Int32.toNatClampNeg v4_2 < rZ ρ 201 := yIx h0_4 b10
      have e10 : rcell ρ v4_2 := ⟨h0_4, b10⟩
      refine y_blk 3 tq_X12_brights (z := (16, [(0, .ref (ad 200)), (1, .int v4_1), (2, .int v4_2)], [.int v4_2, .ref (ad 200), .int v4_1])) rfl ?_
      refine y_callV hS tq_X12_brights rfl (As := [.int v4_2]) rfl cv_X12_120 hX.m (m_X12_isBright_v hS hI hX v4_2 (by first | (with_reducible assumption) | (with_reducible exact hX.lac (by assumption)) | (with_reducible exact hX.poc (by assumption)) | (with_reducible exact hX.wac (by assumption) (by assumption) (by omega)) | assumption | exact hX.lac (by assumption) | exact hX.poc (by assumption) | exact hX.wac (by assumption) (by assumption) (by omega))) rfl (by decide) (Nat.le_of_ble_eq_true rfl) (fun r16 Gc16 q16 => ?_) (fun E9 G9 h9 => h9.elim)
      obtain ⟨⟨x16, hb_x16, hr_x16, rfl⟩, eG16⟩ := q16
      have eG16 := eG16.symm
      subst eG16
      refine y_blk 0 tq_X12_brights (z := (19, [(0, .ref (ad 200)), (1, .int v4_1), (2, .int v4_2)], [.int x16, .int v4_1])) rfl ?_
      refine y_if_eq tq_X12_brights 26 rfl rfl (fun c19 => ?_) (fun c19 => ?_)
      · skip
        refine y_blk 5 tq_X12_brights (z := (4, [(2, .int (v4_2 + 1)), (1, .int (v4_1 + 0)), (0, .ref (ad 200))], [])) rfl ?_
        refine y_pick (L2 := [(0, .ref (ad 200)), (1, .int (v4_1 + 0)), (2, .int (v4_2 + 1))]) [2, 1, 0] rfl ?_
        exact ih4 _ (by exact ydec c10) (v4_1 + 0) (v4_2 + 1) (by first | decide | assumption | exact Int.le_refl _ | exact yposgeL (by assumption) c10) (by first | exact xcn_step hh4 c10 | exact xcn_init (by first | decide | (rw [yofn (by omega)]; omega))) (by first | exact itI_s ea4 hh4 c10 (by unfold rbrF; first | (rw [cif_f (fun q => by rw [hr_x16.mpr q] at c19; exact absurd c19 (by decide))]) | (rw [cif_t (hr_x16.mp (hb_x16.resolve_left c19))])) | with_reducible exact itI_0) rfl
      · skip
        refine y_blk 6 tq_X12_brights (z := (4, [(2, .int (v4_2 + 1)), (1, .int (v4_1 + 1)), (0, .ref (ad 200))], [])) rfl ?_
        refine y_pick (L2 := [(0, .ref (ad 200)), (1, .int (v4_1 + 1)), (2, .int (v4_2 + 1))]) [2, 1, 0] rfl ?_
        exact ih4 _ (by exact ydec c10) (v4_1 + 1) (v4_2 + 1) (by first | decide | assumption | exact Int.le_refl _ | exact yposgeL (by assumption) c10) (by first | exact xcn_step hh4 c10 | exact xcn_init (by first | decide | (rw [yofn (by omega)]; omega))) (by first | exact itI_s ea4 hh4 c10 (by unfold rbrF; first | (rw [cif_f (fun q => by rw [hr_x16.mpr q] at c19; exact absurd c19 (by decide))]) | (rw [cif_t (hr_x16.mp (hb_x16.resolve_left c19))])) | with_reducible exact itI_0) rfl
  refine y_blk 4 tq_X12_brights (z := (4, [(2, .int 0), (1, .int 0), (0, .ref (ad 200))], [])) rfl ?_
  refine y_pick (L2 := [(0, .ref (ad 200)), (1, .int 0), (2, .int 0)]) [2, 1, 0] rfl ?_
  exact J4 _ 0 0 (by first | decide | assumption | exact Int.le_refl _ | exact yposgeL (by assumption) c10) (by first | exact xcn_step hh4 c10 | exact xcn_init (by first | decide | (rw [yofn (by omega)]; omega))) (by first | exact itI_s ea4 hh4 c10 (by unfold rbrF; first | (rw [cif_f (fun q => by rw [hr_x16.mpr q] at c19; exact absurd c19 (by decide))]) | (rw [cif_t (hr_x16.mp (hb_x16.resolve_left c19))])) | with_reducible exact itI_0) rfl
set_option maxHeartbeats 4000000 in
set_option maxRecDepth 100000 in
theorem m_X12_fogAt_v {l : Launch} {S0 : State} {A0 : Array Value} {D : va_G} {aC : Nat → ClassId} {ic : Int32 → Nat} {de : Nat} {ad : Nat → Nat} {G : AH} {ρ : RS} (hS : yS l S0 A0 D aC) (hI : yIc S0 ic de) (hX : atR aC ic de ad G ρ) (minute : Int32) : yM l S0 D yX12_fogAt cX12_fogAt 5 (some .int) 16 0 0 [.ref (ad 200), .int minute] G (fun r G1 => r = some (.int (rfog ρ minute)) ∧ G1 = G) (fun _ _ => False) := by
  refine yM.ofK K_X12_fogAt rfl (by decide) (Nat.le_of_ble_eq_true rfl) ?_
  have hn211 := hX.2.le10 211 (by decide)
  have rn0 : Int32.toNatClampNeg 0 = 0 := rfl
  have rn1 : Int32.toNatClampNeg 1 = 1 := rfl
  have J7 : ∀ (n7 : Nat) (v7_2 : Int32) (v7_3 : Int32) (v7_4 : Int32) (h0_7 : 0 ≤ v7_4.toInt) (hh7 : 0 ≤ v7_4.toInt ∧ v7_4.toInt ≤ (Int32.ofNat (rZ ρ 211) : Int32).toInt) (ea7 : (v7_2, v7_3) = itI (rfgF ρ minute) (-1, 0) v7_4.toInt.toNat), (((Int32.ofNat (rZ ρ 211)) : Int32).toInt - v7_4.toInt).toNat = n7 → Y l S0 D K_X12_fogAt 16 0 0 (fun r G1 => r = some (.int (rfog ρ minute)) ∧ G1 = G) (fun _ _ => False) 7 [(0, .ref (ad 200)), (1, .int minute), (2, .int v7_2), (3, .int v7_3), (4, .int v7_4)] [] G 0 0 := by
    intro n7
    induction n7 using Nat.strongRecOn with
    | _ n7 ih7 =>
    intro v7_2 v7_3 v7_4 h0_7 hh7 ea7 hn7
    subst hn7
    refine y_blk 2 tq_X12_fogAt (z := (10, [(0, .ref (ad 200)), (1, .int minute), (2, .int v7_2), (3, .int v7_3), (4, .int v7_4)], [.ref (ad 200), .int v7_4])) rfl ?_
    refine y_get hS tq_X12_fogAt (v := .ref (ad 211)) rfl fg_X12_24_X12 hX.m rfl ?_
    refine y_blk 0 tq_X12_fogAt (z := (13, [(0, .ref (ad 200)), (1, .int minute), (2, .int v7_2), (3, .int v7_3), (4, .int v7_4)], [.ref (ad 211), .int v7_4])) rfl ?_
    refine y_callF hS tq_X12_fogAt rfl (As := []) rfl cf_X12_58 (Or.inl ⟨_, (hX.ls 211 (by decide)).1⟩) (m_Jsize hS (hX.ls 211 (by decide))) rfl (by decide) (Nat.le_of_ble_eq_true rfl) (fun r13 Gc13 q13 => ?_) (fun _ _ h9 => h9.elim)
    obtain ⟨rfl, eG13⟩ := q13
    have eG13 := eG13.symm
    subst eG13
    refine y_blk 0 tq_X12_fogAt (z := (18, [(0, .ref (ad 200)), (1, .int minute), (2, .int v7_2), (3, .int v7_3), (4, .int v7_4)], [.int (Int32.ofNat (rZ ρ 211)), .int v7_4])) rfl ?_
    refine y_icmp_ge tq_X12_fogAt 104 rfl rfl (fun c18 => ?_) (fun c18 => ?_)
    · skip
      refine y_blk 1 tq_X12_fogAt (z := (105, [(0, .ref (ad 200)), (1, .int minute), (2, .int v7_2), (3, .int v7_3), (4, .int v7_4)], [.int v7_3])) rfl ?_
      exact y_iret tq_X12_fogAt rfl rfl (⟨congrArg (fun z => some (Value.int z)) (congrArg Prod.snd (itI_e ea7 hh7 c18)), rfl⟩)
    · skip
      have hn18 := hX.2.le10 211 (by decide)
      have b18 : v7_4.toInt < rZ ρ 211 := yIy (by omega) h0_7 c18
      have d18 : Int32.toNatClampNeg v7_4 < rZ ρ 211 := yIx h0_7 b18
      refine y_blk 1 tq_X12_fogAt (z := (22, [(0, .ref (ad 200)), (1, .int minute), (2, .int v7_2), (3, .int v7_3), (4, .int v7_4)], [.ref (ad 200)])) rfl ?_
      refine y_get hS tq_X12_fogAt (v := .ref (ad 211)) rfl fg_X12_24_X12 hX.m rfl ?_
      refine y_blk 1 tq_X12_fogAt (z := (27, [(0, .ref (ad 200)), (1, .int minute), (2, .int v7_2), (3, .int v7_3), (4, .int v7_4)], [.int v7_4, .ref (ad 211)])) rfl ?_
      refine y_callF hS tq_X12_fogAt rfl (As := [.int v7_4]) rfl cf_X12_80 (Or.inl ⟨_, (hX.ls 211 (by decide)).1⟩) (m_Rfo hS hX (by assumption) (by assumption)) rfl (by decide) (Nat.le_of_ble_eq_true rfl) (fun r27 Gc27 q27 => ?_) (fun _ _ h9 => h9.elim)
      obtain ⟨rfl, eG27⟩ := q27
      have eG27 := eG27.symm
      subst eG27
      have d27 : (Int32.toNatClampNeg v7_4) < rZ ρ 211 := yIx (by assumption) (by assumption)
      refine y_blk 0 tq_X12_fogAt (z := (32, [(0, .ref (ad 200)), (1, .int minute), (2, .int v7_2), (3, .int v7_3), (4, .int v7_4)], [.ref (ad (320 + (Int32.toNatClampNeg v7_4)))])) rfl ?_
      refine y_castA hS tq_X12_fogAt rfl kc_X12_116 (Or.inl ⟨_, (hX.fo (by assumption))⟩) ?_
      refine y_blk 1 tq_X12_fogAt (z := (36, [(0, .ref (ad 200)), (1, .int minute), (2, .int v7_2), (3, .int v7_3), (4, .int v7_4)], [.int 0, .ref (ad (320 + (Int32.toNatClampNeg v7_4)))])) rfl ?_
      refine y_iald hS tq_X12_fogAt rfl (hX.fo (by assumption)) (by first | exact yIn (by decide) (by decide) | exact yIn (by assumption) (by assumption) | (exact yIn (by omega) (by omega))) ?_
      refine y_blk 1 tq_X12_fogAt (z := (38, [(0, .ref (ad 200)), (1, .int minute), (2, .int v7_2), (3, .int v7_3), (4, .int v7_4)], [.int minute, .int ((rV ρ (320 + (Int32.toNatClampNeg v7_4))) (Int32.toNatClampNeg 0))])) rfl ?_
      refine y_icmp_gt tq_X12_fogAt 98 rfl rfl (fun c38 => ?_) (fun c38 => ?_)
      · skip
        refine y_blk 2 tq_X12_fogAt (z := (7, [(4, .int (v7_4 + 1)), (0, .ref (ad 200)), (1, .int minute), (2, .int v7_2), (3, .int v7_3)], [])) rfl ?_
        refine y_pick (L2 := [(0, .ref (ad 200)), (1, .int minute), (2, .int v7_2), (3, .int v7_3), (4, .int (v7_4 + 1))]) [1, 2, 3, 4, 0] rfl ?_
        exact ih7 _ (by exact ydec c18) v7_2 v7_3 (v7_4 + 1) (by first | decide | assumption | exact Int.le_refl _ | exact yposgeL (by assumption) c18) (by first | exact xcn_step hh7 c18 | exact xcn_init (by first | decide | (rw [yofn (by omega)]; omega))) (by first | exact itI_s ea7 hh7 c18 (by unfold rfgF; try simp only [rn0, rn1, Int32.not_le] at *; first | (rw [if_pos (by assumption)]) | (rw [if_neg (by assumption), if_pos (by assumption)]) | (rw [if_neg (by assumption), if_neg (Int32.not_lt.mpr (by assumption))])) | with_reducible exact itI_0) rfl
      · skip
        refine y_blk 1 tq_X12_fogAt (z := (42, [(0, .ref (ad 200)), (1, .int minute), (2, .int v7_2), (3, .int v7_3), (4, .int v7_4)], [.ref (ad 200)])) rfl ?_
        refine y_get hS tq_X12_fogAt (v := .ref (ad 211)) rfl fg_X12_24_X12 hX.m rfl ?_
        refine y_blk 1 tq_X12_fogAt (z := (47, [(0, .ref (ad 200)), (1, .int minute), (2, .int v7_2), (3, .int v7_3), (4, .int v7_4)], [.int v7_4, .ref (ad 211)])) rfl ?_
        refine y_callF hS tq_X12_fogAt rfl (As := [.int v7_4]) rfl cf_X12_80 (Or.inl ⟨_, (hX.ls 211 (by decide)).1⟩) (m_Rfo hS hX (by assumption) (by assumption)) rfl (by decide) (Nat.le_of_ble_eq_true rfl) (fun r47 Gc47 q47 => ?_) (fun _ _ h9 => h9.elim)
        obtain ⟨rfl, eG47⟩ := q47
        have eG47 := eG47.symm
        subst eG47
        have d47 : (Int32.toNatClampNeg v7_4) < rZ ρ 211 := yIx (by assumption) (by assumption)
        refine y_blk 0 tq_X12_fogAt (z := (52, [(0, .ref (ad 200)), (1, .int minute), (2, .int v7_2), (3, .int v7_3), (4, .int v7_4)], [.ref (ad (320 + (Int32.toNatClampNeg v7_4)))])) rfl ?_
        refine y_castA hS tq_X12_fogAt rfl kc_X12_116 (Or.inl ⟨_, (hX.fo (by assumption))⟩) ?_
        refine y_blk 1 tq_X12_fogAt (z := (56, [(0, .ref (ad 200)), (1, .int minute), (2, .int v7_2), (3, .int v7_3), (4, .int v7_4)], [.int 0, .ref (ad (320 + (Int32.toNatClampNeg v7_4)))])) rfl ?_
        refine y_iald hS tq_X12_fogAt rfl (hX.fo (by assumption)) (by first | exact yIn (by decide) (by decide) | exact yIn (by assumption) (by assumption) | (exact yIn (by omega) (by omega))) ?_
        refine y_blk 1 tq_X12_fogAt (z := (58, [(0, .ref (ad 200)), (1, .int minute), (2, .int v7_2), (3, .int v7_3), (4, .int v7_4)], [.int v7_2, .int ((rV ρ (320 + (Int32.toNatClampNeg v7_4))) (Int32.toNatClampNeg 0))])) rfl ?_
        refine y_icmp_ge tq_X12_fogAt 64 rfl rfl (fun c58 => ?_) (fun c58 => ?_)
        · skip
          refine y_blk 1 tq_X12_fogAt (z := (65, [(0, .ref (ad 200)), (1, .int minute), (2, .int v7_2), (3, .int v7_3), (4, .int v7_4)], [.ref (ad 200)])) rfl ?_
          refine y_get hS tq_X12_fogAt (v := .ref (ad 211)) rfl fg_X12_24_X12 hX.m rfl ?_
          refine y_blk 1 tq_X12_fogAt (z := (70, [(0, .ref (ad 200)), (1, .int minute), (2, .int v7_2), (3, .int v7_3), (4, .int v7_4)], [.int v7_4, .ref (ad 211)])) rfl ?_
          refine y_callF hS tq_X12_fogAt rfl (As := [.int v7_4]) rfl cf_X12_80 (Or.inl ⟨_, (hX.ls 211 (by decide)).1⟩) (m_Rfo hS hX (by assumption) (by assumption)) rfl (by decide) (Nat.le_of_ble_eq_true rfl) (fun r70 Gc70 q70 => ?_) (fun _ _ h9 => h9.elim)
          obtain ⟨rfl, eG70⟩ := q70
          have eG70 := eG70.symm
          subst eG70
          have d70 : (Int32.toNatClampNeg v7_4) < rZ ρ 211 := yIx (by assumption) (by assumption)
          refine y_blk 0 tq_X12_fogAt (z := (75, [(0, .ref (ad 200)), (1, .int minute), (2, .int v7_2), (3, .int v7_3), (4, .int v7_4)], [.ref (ad (320 + (Int32.toNatClampNeg v7_4)))])) rfl ?_
          refine y_castA hS tq_X12_fogAt rfl kc_X12_116 (Or.inl ⟨_, (hX.fo (by assumption))⟩) ?_
          refine y_blk 1 tq_X12_fogAt (z := (79, [(0, .ref (ad 200)), (1, .int minute), (2, .int v7_2), (3, .int v7_3), (4, .int v7_4)], [.int 0, .ref (ad (320 + (Int32.toNatClampNeg v7_4)))])) rfl ?_
          refine y_iald hS tq_X12_fogAt rfl (hX.fo (by assumption)) (by first | exact yIn (by decide) (by decide) | exact yIn (by assumption) (by assumption) | (exact yIn (by omega) (by omega))) ?_
          refine y_blk 2 tq_X12_fogAt (z := (82, [(2, .int ((rV ρ (320 + (Int32.toNatClampNeg v7_4))) (Int32.toNatClampNeg 0))), (0, .ref (ad 200)), (1, .int minute), (3, .int v7_3), (4, .int v7_4)], [.ref (ad 200)])) rfl ?_
          refine y_get hS tq_X12_fogAt (v := .ref (ad 211)) rfl fg_X12_24_X12 hX.m rfl ?_
          refine y_blk 1 tq_X12_fogAt (z := (87, [(2, .int ((rV ρ (320 + (Int32.toNatClampNeg v7_4))) (Int32.toNatClampNeg 0))), (0, .ref (ad 200)), (1, .int minute), (3, .int v7_3), (4, .int v7_4)], [.int v7_4, .ref (ad 211)])) rfl ?_
          refine y_callF hS tq_X12_fogAt rfl (As := [.int v7_4]) rfl cf_X12_80 (Or.inl ⟨_, (hX.ls 211 (by decide)).1⟩) (m_Rfo hS hX (by assumption) (by assumption)) rfl (by decide) (Nat.le_of_ble_eq_true rfl) (fun r87 Gc87 q87 => ?_) (fun _ _ h9 => h9.elim)
          obtain ⟨rfl, eG87⟩ := q87
          have eG87 := eG87.symm
          subst eG87
          have d87 : (Int32.toNatClampNeg v7_4) < rZ ρ 211 := yIx (by assumption) (by assumption)
          refine y_blk 0 tq_X12_fogAt (z := (92, [(2, .int ((rV ρ (320 + (Int32.toNatClampNeg v7_4))) (Int32.toNatClampNeg 0))), (0, .ref (ad 200)), (1, .int minute), (3, .int v7_3), (4, .int v7_4)], [.ref (ad (320 + (Int32.toNatClampNeg v7_4)))])) rfl ?_
          refine y_castA hS tq_X12_fogAt rfl kc_X12_116 (Or.inl ⟨_, (hX.fo (by assumption))⟩) ?_
          refine y_blk 1 tq_X12_fogAt (z := (96, [(2, .int ((rV ρ (320 + (Int32.toNatClampNeg v7_4))) (Int32.toNatClampNeg 0))), (0, .ref (ad 200)), (1, .int minute), (3, .int v7_3), (4, .int v7_4)], [.int 1, .ref (ad (320 + (Int32.toNatClampNeg v7_4)))])) rfl ?_
          refine y_iald hS tq_X12_fogAt rfl (hX.fo (by assumption)) (by first | exact yIn (by decide) (by decide) | exact yIn (by assumption) (by assumption) | (exact yIn (by omega) (by omega))) ?_
          refine y_blk 3 tq_X12_fogAt (z := (7, [(4, .int (v7_4 + 1)), (3, .int ((rV ρ (320 + (Int32.toNatClampNeg v7_4))) (Int32.toNatClampNeg 1))), (2, .int ((rV ρ (320 + (Int32.toNatClampNeg v7_4))) (Int32.toNatClampNeg 0))), (0, .ref (ad 200)), (1, .int minute)], [])) rfl ?_
          refine y_pick (L2 := [(0, .ref (ad 200)), (1, .int minute), (2, .int ((rV ρ (320 + (Int32.toNatClampNeg v7_4))) (Int32.toNatClampNeg 0))), (3, .int ((rV ρ (320 + (Int32.toNatClampNeg v7_4))) (Int32.toNatClampNeg 1))), (4, .int (v7_4 + 1))]) [3, 4, 2, 1, 0] rfl ?_
          exact ih7 _ (by exact ydec c18) ((rV ρ (320 + (Int32.toNatClampNeg v7_4))) (Int32.toNatClampNeg 0)) ((rV ρ (320 + (Int32.toNatClampNeg v7_4))) (Int32.toNatClampNeg 1)) (v7_4 + 1) (by first | decide | assumption | exact Int.le_refl _ | exact yposgeL (by assumption) c18) (by first | exact xcn_step hh7 c18 | exact xcn_init (by first | decide | (rw [yofn (by omega)]; omega))) (by first | exact itI_s ea7 hh7 c18 (by unfold rfgF; try simp only [rn0, rn1, Int32.not_le] at *; first | (rw [if_pos (by assumption)]) | (rw [if_neg (by assumption), if_pos (by assumption)]) | (rw [if_neg (by assumption), if_neg (Int32.not_lt.mpr (by assumption))])) | with_reducible exact itI_0) rfl
        · skip
          refine y_blk 3 tq_X12_fogAt (z := (7, [(4, .int (v7_4 + 1)), (0, .ref (ad 200)), (1, .int minute), (2, .int v7_2), (3, .int v7_3)], [])) rfl ?_
          refine y_pick (L2 := [(0, .ref (ad 200)), (1, .int minute), (2, .int v7_2), (3, .int v7_3), (4, .int (v7_4 + 1))]) [1, 2, 3, 4, 0] rfl ?_
          exact ih7 _ (by exact ydec c18) v7_2 v7_3 (v7_4 + 1) (by first | decide | assumption | exact Int.le_refl _ | exact yposgeL (by assumption) c18) (by first | exact xcn_step hh7 c18 | exact xcn_init (by first | decide | (rw [yofn (by omega)]; omega))) (by first | exact itI_s ea7 hh7 c18 (by unfold rfgF; try simp only [rn0, rn1, Int32.not_le] at *; first | (rw [if_pos (by assumption)]) | (rw [if_neg (by assumption), if_pos (by assumption)]) | (rw [if_neg (by assumption), if_neg (Int32.not_lt.mpr (by assumption))])) | with_reducible exact itI_0) rfl
  refine y_blk 6 tq_X12_fogAt (z := (7, [(4, .int 0), (3, .int 0), (2, .int (-1)), (0, .ref (ad 200)), (1, .int minute)], [])) rfl ?_
  refine y_pick (L2 := [(0, .ref (ad 200)), (1, .int minute), (2, .int (-1)), (3, .int 0), (4, .int 0)]) [3, 4, 2, 1, 0] rfl ?_
  exact J7 _ (-1) 0 0 (by first | decide | assumption | exact Int.le_refl _ | exact yposgeL (by assumption) c18) (by first | exact xcn_step hh7 c18 | exact xcn_init (by first | decide | (rw [yofn (by omega)]; omega))) (by first | exact itI_s ea7 hh7 c18 (by unfold rfgF; try simp only [rn0, rn1, Int32.not_le] at *; first | (rw [if_pos (by assumption)]) | (rw [if_neg (by assumption), if_pos (by assumption)]) | (rw [if_neg (by assumption), if_neg (Int32.not_lt.mpr (by assumption))])) | with_reducible exact itI_0) rfl
set_option maxHeartbeats 4000000 in
set_option maxRecDepth 100000 in
theorem m_X10_isTired_v {l : Launch} {S0 : State} {A0 : Array Value} {D : va_G} {aC : Nat → ClassId} {ic : Int32 → Nat} {de : Nat} {ad : Nat → Nat} {G : AH} {ρ : RS} (hS : yS l S0 A0 D aC) (hI : yIc S0 ic de) (hX : atR aC ic de ad G ρ) {k : Nat} (hk : k < rZ ρ 212) (minute : Int32) : yM l S0 D yX10_isTired cX10_isTired 2 (some .boolean) 18 0 0 [.ref (ad (360 + k)), .int minute] G (fun r G1 => r = some (.int (if rtrd ρ k minute then 1 else 0)) ∧ G1 = G) (fun _ _ => False) := by
  refine yM.ofK K_X10_isTired rfl (by decide) (Nat.le_of_ble_eq_true rfl) ?_
  refine y_blk 2 tq_X10_isTired (z := (2, [(0, .ref (ad (360 + k))), (1, .int minute)], [.int minute, .ref (ad (360 + k))])) rfl ?_
  refine y_callV hS tq_X10_isTired rfl (As := [.int minute]) rfl cv_X10_44 (hX.gu (by assumption)) (m_X10_isOnDuty hS hI hX (k := k) (by assumption) minute) rfl (by decide) (Nat.le_of_ble_eq_true rfl) (fun r2 Gc2 q2 => ?_) (fun E9 G9 h9 => h9.elim)
  obtain ⟨rfl, eG2⟩ := q2
  have eG2 := eG2.symm
  subst eG2
  refine y_blk 0 tq_X10_isTired (z := (5, [(0, .ref (ad (360 + k))), (1, .int minute)], [.int (if (rF ρ (360 + k) 0) ≤ minute ∧ minute ≤ (rF ρ (360 + k) 1) then 1 else 0)])) rfl ?_
  refine y_if_eq tq_X10_isTired 23 rfl rfl (fun c5 => ?_) (fun c5 => ?_)
  · skip
    refine y_blk 1 tq_X10_isTired (z := (24, [(0, .ref (ad (360 + k))), (1, .int minute)], [.int 0])) rfl ?_
    exact y_zret tq_X10_isTired rfl rfl (rfl) (⟨congrArg (fun z => some (Value.int z)) (by first | exact and1 (yif1 c5) (Int32.not_lt.mp c16) | exact and0r (Int32.not_le.mpr c16) | exact and0l ((yif0' _).mp c5)), rfl⟩)
  · skip
    refine y_blk 2 tq_X10_isTired (z := (10, [(0, .ref (ad (360 + k))), (1, .int minute)], [.ref (ad (360 + k)), .int minute])) rfl ?_
    refine y_get hS tq_X10_isTired (v := .int (rF ρ (360 + k) 0)) rfl fg_X10_30_X10 (hX.gu (by assumption)) rfl ?_
    refine y_blk 2 tq_X10_isTired (z := (16, [(0, .ref (ad (360 + k))), (1, .int minute)], [.int 90, .int (minute - (rF ρ (360 + k) 0))])) rfl ?_
    refine y_icmp_lt tq_X10_isTired 23 rfl rfl (fun c16 => ?_) (fun c16 => ?_)
    · skip
      refine y_blk 1 tq_X10_isTired (z := (24, [(0, .ref (ad (360 + k))), (1, .int minute)], [.int 0])) rfl ?_
      exact y_zret tq_X10_isTired rfl rfl (rfl) (⟨congrArg (fun z => some (Value.int z)) (by first | exact and1 (yif1 c5) (Int32.not_lt.mp c16) | exact and0r (Int32.not_le.mpr c16) | exact and0l ((yif0' _).mp c5)), rfl⟩)
    · skip
      refine y_blk 2 tq_X10_isTired (z := (24, [(0, .ref (ad (360 + k))), (1, .int minute)], [.int 1])) rfl ?_
      exact y_zret tq_X10_isTired rfl rfl (rfl) (⟨congrArg (fun z => some (Value.int z)) (by first | exact and1 (yif1 c5) (Int32.not_lt.mp c16) | exact and0r (Int32.not_le.mpr c16) | exact and0l ((yif0' _).mp c5)), rfl⟩)
set_option maxHeartbeats 4000000 in
set_option maxRecDepth 100000 in
theorem m_X12_sees_v {l : Launch} {S0 : State} {A0 : Array Value} {D : va_G} {aC : Nat → ClassId} {ic : Int32 → Nat} {de : Nat} {ad : Nat → Nat} {G : AH} {ρ : RS} (hS : yS l S0 A0 D aC) (hI : yIc S0 ic de) (hX : atR aC ic de ad G ρ) {k : Nat} (hk : k < rZ ρ 212) (cell : Int32) (minute : Int32) (isBright : Int32) (fog : Int32) (hcell : rcell ρ cell) : yM l S0 D yX12_sees cX12_sees 8 (some .boolean) 19 0 0 [.ref (ad 200), .ref (ad (360 + k)), .int cell, .int minute, .int isBright, .int fog] G (fun r G1 => (∃ v : Int32, (v = 0 ∨ v = 1) ∧ (v = 1 ↔ rsee ρ k cell minute isBright fog) ∧ r = some (.int v)) ∧ G1 = G) (fun _ _ => False) := by
  refine yM.ofK K_X12_sees rfl (by decide) (Nat.le_of_ble_eq_true rfl) ?_
  have hgb := hX.2.2.2.1 k hk
  refine y_blk 2 tq_X12_sees (z := (2, [(0, .ref (ad 200)), (1, .ref (ad (360 + k))), (2, .int cell), (3, .int minute), (4, .int isBright), (5, .int fog)], [.int minute, .ref (ad (360 + k))])) rfl ?_
  refine y_callV hS tq_X12_sees rfl (As := [.int minute]) rfl cv_X12_124 (hX.gu (by assumption)) (m_X10_place hS hI hX (k := k) (by assumption) minute) rfl (by decide) (Nat.le_of_ble_eq_true rfl) (fun r2 Gc2 q2 => ?_) (fun E9 G9 h9 => h9.elim)
  obtain ⟨⟨x2, hr_x2, rfl⟩, eG2⟩ := q2
  have eG2 := eG2.symm
  subst eG2
  refine y_blk 3 tq_X12_sees (z := (10, [(6, .int x2), (0, .ref (ad 200)), (1, .ref (ad (360 + k))), (2, .int cell), (3, .int minute), (4, .int isBright), (5, .int fog)], [.int (-1), .int x2])) rfl ?_
  refine y_icmp_ne tq_X12_sees 15 rfl rfl (fun c10 => ?_) (fun c10 => ?_)
  · skip
    have hat := hr_x2.1.resolve_left c10
    refine y_blk 1 tq_X12_sees (z := (17, [(6, .int x2), (0, .ref (ad 200)), (1, .ref (ad (360 + k))), (2, .int cell), (3, .int minute), (4, .int isBright), (5, .int fog)], [.int isBright])) rfl ?_
    refine y_if_eq tq_X12_sees 28 rfl rfl (fun c17 => ?_) (fun c17 => ?_)
    · skip
      refine y_blk 3 tq_X12_sees (z := (32, [(6, .int x2), (0, .ref (ad 200)), (1, .ref (ad (360 + k))), (2, .int cell), (3, .int minute), (4, .int isBright), (5, .int fog)], [.int 2, .int fog, .int 2])) rfl ?_
      refine y_idiv tq_X12_sees rfl (by decide) ?_
      refine y_blk 3 tq_X12_sees (z := (36, [(6, .int x2), (0, .ref (ad 200)), (1, .ref (ad (360 + k))), (2, .int cell), (3, .int minute), (4, .int isBright), (5, .int fog)], [.int minute, .ref (ad (360 + k)), .int (2 - (fog / 2))])) rfl ?_
      refine y_callV hS tq_X12_sees rfl (As := [.int minute]) rfl cv_X12_127 (hX.gu (by assumption)) (m_X10_isTired_v hS hI hX (k := k) (by assumption) minute) rfl (by decide) (Nat.le_of_ble_eq_true rfl) (fun r36 Gc36 q36 => ?_) (fun E9 G9 h9 => h9.elim)
      obtain ⟨rfl, eG36⟩ := q36
      have eG36 := eG36.symm
      subst eG36
      refine y_blk 0 tq_X12_sees (z := (39, [(6, .int x2), (0, .ref (ad 200)), (1, .ref (ad (360 + k))), (2, .int cell), (3, .int minute), (4, .int isBright), (5, .int fog)], [.int (if rtrd ρ k minute then 1 else 0), .int (2 - (fog / 2))])) rfl ?_
      refine y_if_eq tq_X12_sees 46 rfl rfl (fun c39 => ?_) (fun c39 => ?_)
      · skip
        refine y_blk 5 tq_X12_sees (z := (53, [(7, .int ((2 - (fog / 2)) - 0)), (6, .int x2), (0, .ref (ad 200)), (1, .ref (ad (360 + k))), (2, .int cell), (3, .int minute), (4, .int isBright), (5, .int fog)], [.int cell, .int x2])) rfl ?_
        refine y_icmp_eq tq_X12_sees 78 rfl rfl (fun c53 => ?_) (fun c53 => ?_)
        · skip
          refine y_blk 2 tq_X12_sees (z := (83, [(7, .int ((2 - (fog / 2)) - 0)), (6, .int x2), (0, .ref (ad 200)), (1, .ref (ad (360 + k))), (2, .int cell), (3, .int minute), (4, .int isBright), (5, .int fog)], [.int 1])) rfl ?_
          exact y_zret tq_X12_sees rfl rfl (rfl) (⟨⟨_, (Or.inr rfl), by unfold rsee; rw [← hr_x2.2]; first | exact ⟨fun h => absurd h (by decide), fun h => absurd c10 h.1⟩ | exact ⟨fun _ => ⟨c10, Or.inl c53⟩, fun _ => rfl⟩ | exact ⟨fun h => absurd h (by decide), fun h => h.2.elim (fun y => absurd y c53) (fun z => absurd z.1 (by (first | rw [rrng_00 c17 c39] | rw [rrng_01 c17 c39] | rw [rrng_10 c17 c39] | rw [rrng_11 c17 c39]); exact Int32.not_le.mpr c65))⟩ | exact ⟨fun h => absurd h (by decide), fun h => h.2.elim (fun y => absurd y c53) (fun z => by rw [hr_x72.mpr z.2] at c75; exact absurd c75 (by decide))⟩ | exact ⟨fun _ => ⟨c10, Or.inr ⟨(by (first | rw [rrng_00 c17 c39] | rw [rrng_01 c17 c39] | rw [rrng_10 c17 c39] | rw [rrng_11 c17 c39]); exact Int32.not_lt.mp c65), hr_x72.mp (hb_x72.resolve_left c75)⟩⟩, fun _ => rfl⟩, rfl⟩, rfl⟩)
        · skip
          refine y_blk 3 tq_X12_sees (z := (60, [(7, .int ((2 - (fog / 2)) - 0)), (6, .int x2), (0, .ref (ad 200)), (1, .ref (ad (360 + k))), (2, .int cell), (3, .int minute), (4, .int isBright), (5, .int fog)], [.int cell, .int x2, .ref (ad 200)])) rfl ?_
          refine y_callV hS tq_X12_sees rfl (As := [.int x2, .int cell]) rfl cv_X12_104 hX.m (m_X12_apart hS hI hX x2 cell (by first | (with_reducible assumption) | (with_reducible exact hX.lac (by assumption)) | (with_reducible exact hX.poc (by assumption)) | (with_reducible exact hX.wac (by assumption) (by assumption) (by omega)) | assumption | exact hX.lac (by assumption) | exact hX.poc (by assumption) | exact hX.wac (by assumption) (by assumption) (by omega))) rfl (by decide) (Nat.le_of_ble_eq_true rfl) (fun r60 Gc60 q60 => ?_) (fun E9 G9 h9 => h9.elim)
          obtain ⟨rfl, eG60⟩ := q60
          have eG60 := eG60.symm
          subst eG60
          refine y_blk 1 tq_X12_sees (z := (65, [(7, .int ((2 - (fog / 2)) - 0)), (6, .int x2), (0, .ref (ad 200)), (1, .ref (ad (360 + k))), (2, .int cell), (3, .int minute), (4, .int isBright), (5, .int fog)], [.int ((2 - (fog / 2)) - 0), .int (if (yab ((x2 / (rI ρ 1)) - (cell / (rI ρ 1)))) < (yab ((x2 - x2 / (rI ρ 1) * (rI ρ 1)) - (cell - cell / (rI ρ 1) * (rI ρ 1)))) then (yab ((x2 - x2 / (rI ρ 1) * (rI ρ 1)) - (cell - cell / (rI ρ 1) * (rI ρ 1)))) else (yab ((x2 / (rI ρ 1)) - (cell / (rI ρ 1)))))])) rfl ?_
          refine y_icmp_gt tq_X12_sees 82 rfl rfl (fun c65 => ?_) (fun c65 => ?_)
          · skip
            refine y_blk 1 tq_X12_sees (z := (83, [(7, .int ((2 - (fog / 2)) - 0)), (6, .int x2), (0, .ref (ad 200)), (1, .ref (ad (360 + k))), (2, .int cell), (3, .int minute), (4, .int isBright), (5, .int fog)], [.int 0])) rfl ?_
            exact y_zret tq_X12_sees rfl rfl (rfl) (⟨⟨_, (Or.inl rfl), by unfold rsee; rw [← hr_x2.2]; first | exact ⟨fun h => absurd h (by decide), fun h => absurd c10 h.1⟩ | exact ⟨fun _ => ⟨c10, Or.inl c53⟩, fun _ => rfl⟩ | exact ⟨fun h => absurd h (by decide), fun h => h.2.elim (fun y => absurd y c53) (fun z => absurd z.1 (by (first | rw [rrng_00 c17 c39] | rw [rrng_01 c17 c39] | rw [rrng_10 c17 c39] | rw [rrng_11 c17 c39]); exact Int32.not_le.mpr c65))⟩ | exact ⟨fun h => absurd h (by decide), fun h => h.2.elim (fun y => absurd y c53) (fun z => by rw [hr_x72.mpr z.2] at c75; exact absurd c75 (by decide))⟩ | exact ⟨fun _ => ⟨c10, Or.inr ⟨(by (first | rw [rrng_00 c17 c39] | rw [rrng_01 c17 c39] | rw [rrng_10 c17 c39] | rw [rrng_11 c17 c39]); exact Int32.not_lt.mp c65), hr_x72.mp (hb_x72.resolve_left c75)⟩⟩, fun _ => rfl⟩, rfl⟩, rfl⟩)
          · skip
            refine y_blk 3 tq_X12_sees (z := (72, [(7, .int ((2 - (fog / 2)) - 0)), (6, .int x2), (0, .ref (ad 200)), (1, .ref (ad (360 + k))), (2, .int cell), (3, .int minute), (4, .int isBright), (5, .int fog)], [.int cell, .int x2, .ref (ad 200)])) rfl ?_
            refine y_callV hS tq_X12_sees rfl (As := [.int x2, .int cell]) rfl cv_X12_112 hX.m (m_X12_isClear_v hS hI hX x2 cell (by first | (with_reducible assumption) | (with_reducible exact hX.lac (by assumption)) | (with_reducible exact hX.poc (by assumption)) | (with_reducible exact hX.wac (by assumption) (by assumption) (by omega)) | assumption | exact hX.lac (by assumption) | exact hX.poc (by assumption) | exact hX.wac (by assumption) (by assumption) (by omega)) (by first | (with_reducible assumption) | (with_reducible exact hX.lac (by assumption)) | (with_reducible exact hX.poc (by assumption)) | (with_reducible exact hX.wac (by assumption) (by assumption) (by omega)) | assumption | exact hX.lac (by assumption) | exact hX.poc (by assumption) | exact hX.wac (by assumption) (by assumption) (by omega))) rfl (by decide) (Nat.le_of_ble_eq_true rfl) (fun r72 Gc72 q72 => ?_) (fun E9 G9 h9 => h9.elim)
            obtain ⟨⟨x72, hb_x72, hr_x72, rfl⟩, eG72⟩ := q72
            have eG72 := eG72.symm
            subst eG72
            refine y_blk 0 tq_X12_sees (z := (75, [(7, .int ((2 - (fog / 2)) - 0)), (6, .int x2), (0, .ref (ad 200)), (1, .ref (ad (360 + k))), (2, .int cell), (3, .int minute), (4, .int isBright), (5, .int fog)], [.int x72])) rfl ?_
            refine y_if_eq tq_X12_sees 82 rfl rfl (fun c75 => ?_) (fun c75 => ?_)
            · skip
              refine y_blk 1 tq_X12_sees (z := (83, [(7, .int ((2 - (fog / 2)) - 0)), (6, .int x2), (0, .ref (ad 200)), (1, .ref (ad (360 + k))), (2, .int cell), (3, .int minute), (4, .int isBright), (5, .int fog)], [.int 0])) rfl ?_
              exact y_zret tq_X12_sees rfl rfl (rfl) (⟨⟨_, (Or.inl rfl), by unfold rsee; rw [← hr_x2.2]; first | exact ⟨fun h => absurd h (by decide), fun h => absurd c10 h.1⟩ | exact ⟨fun _ => ⟨c10, Or.inl c53⟩, fun _ => rfl⟩ | exact ⟨fun h => absurd h (by decide), fun h => h.2.elim (fun y => absurd y c53) (fun z => absurd z.1 (by (first | rw [rrng_00 c17 c39] | rw [rrng_01 c17 c39] | rw [rrng_10 c17 c39] | rw [rrng_11 c17 c39]); exact Int32.not_le.mpr c65))⟩ | exact ⟨fun h => absurd h (by decide), fun h => h.2.elim (fun y => absurd y c53) (fun z => by rw [hr_x72.mpr z.2] at c75; exact absurd c75 (by decide))⟩ | exact ⟨fun _ => ⟨c10, Or.inr ⟨(by (first | rw [rrng_00 c17 c39] | rw [rrng_01 c17 c39] | rw [rrng_10 c17 c39] | rw [rrng_11 c17 c39]); exact Int32.not_lt.mp c65), hr_x72.mp (hb_x72.resolve_left c75)⟩⟩, fun _ => rfl⟩, rfl⟩, rfl⟩)
            · skip
              refine y_blk 2 tq_X12_sees (z := (83, [(7, .int ((2 - (fog / 2)) - 0)), (6, .int x2), (0, .ref (ad 200)), (1, .ref (ad (360 + k))), (2, .int cell), (3, .int minute), (4, .int isBright), (5, .int fog)], [.int 1])) rfl ?_
              exact y_zret tq_X12_sees rfl rfl (rfl) (⟨⟨_, (Or.inr rfl), by unfold rsee; rw [← hr_x2.2]; first | exact ⟨fun h => absurd h (by decide), fun h => absurd c10 h.1⟩ | exact ⟨fun _ => ⟨c10, Or.inl c53⟩, fun _ => rfl⟩ | exact ⟨fun h => absurd h (by decide), fun h => h.2.elim (fun y => absurd y c53) (fun z => absurd z.1 (by (first | rw [rrng_00 c17 c39] | rw [rrng_01 c17 c39] | rw [rrng_10 c17 c39] | rw [rrng_11 c17 c39]); exact Int32.not_le.mpr c65))⟩ | exact ⟨fun h => absurd h (by decide), fun h => h.2.elim (fun y => absurd y c53) (fun z => by rw [hr_x72.mpr z.2] at c75; exact absurd c75 (by decide))⟩ | exact ⟨fun _ => ⟨c10, Or.inr ⟨(by (first | rw [rrng_00 c17 c39] | rw [rrng_01 c17 c39] | rw [rrng_10 c17 c39] | rw [rrng_11 c17 c39]); exact Int32.not_lt.mp c65), hr_x72.mp (hb_x72.resolve_left c75)⟩⟩, fun _ => rfl⟩, rfl⟩, rfl⟩)
      · skip
        refine y_blk 6 tq_X12_sees (z := (53, [(7, .int ((2 - (fog / 2)) - 1)), (6, .int x2), (0, .ref (ad 200)), (1, .ref (ad (360 + k))), (2, .int cell), (3, .int minute), (4, .int isBright), (5, .int fog)], [.int cell, .int x2])) rfl ?_
        refine y_icmp_eq tq_X12_sees 78 rfl rfl (fun c53 => ?_) (fun c53 => ?_)
        · skip
          refine y_blk 2 tq_X12_sees (z := (83, [(7, .int ((2 - (fog / 2)) - 1)), (6, .int x2), (0, .ref (ad 200)), (1, .ref (ad (360 + k))), (2, .int cell), (3, .int minute), (4, .int isBright), (5, .int fog)], [.int 1])) rfl ?_
          exact y_zret tq_X12_sees rfl rfl (rfl) (⟨⟨_, (Or.inr rfl), by unfold rsee; rw [← hr_x2.2]; first | exact ⟨fun h => absurd h (by decide), fun h => absurd c10 h.1⟩ | exact ⟨fun _ => ⟨c10, Or.inl c53⟩, fun _ => rfl⟩ | exact ⟨fun h => absurd h (by decide), fun h => h.2.elim (fun y => absurd y c53) (fun z => absurd z.1 (by (first | rw [rrng_00 c17 c39] | rw [rrng_01 c17 c39] | rw [rrng_10 c17 c39] | rw [rrng_11 c17 c39]); exact Int32.not_le.mpr c65))⟩ | exact ⟨fun h => absurd h (by decide), fun h => h.2.elim (fun y => absurd y c53) (fun z => by rw [hr_x72.mpr z.2] at c75; exact absurd c75 (by decide))⟩ | exact ⟨fun _ => ⟨c10, Or.inr ⟨(by (first | rw [rrng_00 c17 c39] | rw [rrng_01 c17 c39] | rw [rrng_10 c17 c39] | rw [rrng_11 c17 c39]); exact Int32.not_lt.mp c65), hr_x72.mp (hb_x72.resolve_left c75)⟩⟩, fun _ => rfl⟩, rfl⟩, rfl⟩)
        · skip
          refine y_blk 3 tq_X12_sees (z := (60, [(7, .int ((2 - (fog / 2)) - 1)), (6, .int x2), (0, .ref (ad 200)), (1, .ref (ad (360 + k))), (2, .int cell), (3, .int minute), (4, .int isBright), (5, .int fog)], [.int cell, .int x2, .ref (ad 200)])) rfl ?_
          refine y_callV hS tq_X12_sees rfl (As := [.int x2, .int cell]) rfl cv_X12_104 hX.m (m_X12_apart hS hI hX x2 cell (by first | (with_reducible assumption) | (with_reducible exact hX.lac (by assumption)) | (with_reducible exact hX.poc (by assumption)) | (with_reducible exact hX.wac (by assumption) (by assumption) (by omega)) | assumption | exact hX.lac (by assumption) | exact hX.poc (by assumption) | exact hX.wac (by assumption) (by assumption) (by omega))) rfl (by decide) (Nat.le_of_ble_eq_true rfl) (fun r60 Gc60 q60 => ?_) (fun E9 G9 h9 => h9.elim)
          obtain ⟨rfl, eG60⟩ := q60
          have eG60 := eG60.symm
          subst eG60
          refine y_blk 1 tq_X12_sees (z := (65, [(7, .int ((2 - (fog / 2)) - 1)), (6, .int x2), (0, .ref (ad 200)), (1, .ref (ad (360 + k))), (2, .int cell), (3, .int minute), (4, .int isBright), (5, .int fog)], [.int ((2 - (fog / 2)) - 1), .int (if (yab ((x2 / (rI ρ 1)) - (cell / (rI ρ 1)))) < (yab ((x2 - x2 / (rI ρ 1) * (rI ρ 1)) - (cell - cell / (rI ρ 1) * (rI ρ 1)))) then (yab ((x2 - x2 / (rI ρ 1) * (rI ρ 1)) - (cell - cell / (rI ρ 1) * (rI ρ 1)))) else (yab ((x2 / (rI ρ 1)) - (cell / (rI ρ 1)))))])) rfl ?_
          refine y_icmp_gt tq_X12_sees 82 rfl rfl (fun c65 => ?_) (fun c65 => ?_)
          · skip
            refine y_blk 1 tq_X12_sees (z := (83, [(7, .int ((2 - (fog / 2)) - 1)), (6, .int x2), (0, .ref (ad 200)), (1, .ref (ad (360 + k))), (2, .int cell), (3, .int minute), (4, .int isBright), (5, .int fog)], [.int 0])) rfl ?_
            exact y_zret tq_X12_sees rfl rfl (rfl) (⟨⟨_, (Or.inl rfl), by unfold rsee; rw [← hr_x2.2]; first | exact ⟨fun h => absurd h (by decide), fun h => absurd c10 h.1⟩ | exact ⟨fun _ => ⟨c10, Or.inl c53⟩, fun _ => rfl⟩ | exact ⟨fun h => absurd h (by decide), fun h => h.2.elim (fun y => absurd y c53) (fun z => absurd z.1 (by (first | rw [rrng_00 c17 c39] | rw [rrng_01 c17 c39] | rw [rrng_10 c17 c39] | rw [rrng_11 c17 c39]); exact Int32.not_le.mpr c65))⟩ | exact ⟨fun h => absurd h (by decide), fun h => h.2.elim (fun y => absurd y c53) (fun z => by rw [hr_x72.mpr z.2] at c75; exact absurd c75 (by decide))⟩ | exact ⟨fun _ => ⟨c10, Or.inr ⟨(by (first | rw [rrng_00 c17 c39] | rw [rrng_01 c17 c39] | rw [rrng_10 c17 c39] | rw [rrng_11 c17 c39]); exact Int32.not_lt.mp c65), hr_x72.mp (hb_x72.resolve_left c75)⟩⟩, fun _ => rfl⟩, rfl⟩, rfl⟩)
          · skip
            refine y_blk 3 tq_X12_sees (z := (72, [(7, .int ((2 - (fog / 2)) - 1)), (6, .int x2), (0, .ref (ad 200)), (1, .ref (ad (360 + k))), (2, .int cell), (3, .int minute), (4, .int isBright), (5, .int fog)], [.int cell, .int x2, .ref (ad 200)])) rfl ?_
            refine y_callV hS tq_X12_sees rfl (As := [.int x2, .int cell]) rfl cv_X12_112 hX.m (m_X12_isClear_v hS hI hX x2 cell (by first | (with_reducible assumption) | (with_reducible exact hX.lac (by assumption)) | (with_reducible exact hX.poc (by assumption)) | (with_reducible exact hX.wac (by assumption) (by assumption) (by omega)) | assumption | exact hX.lac (by assumption) | exact hX.poc (by assumption) | exact hX.wac (by assumption) (by assumption) (by omega)) (by first | (with_reducible assumption) | (with_reducible exact hX.lac (by assumption)) | (with_reducible exact hX.poc (by assumption)) | (with_reducible exact hX.wac (by assumption) (by assumption) (by omega)) | assumption | exact hX.lac (by assumption) | exact hX.poc (by assumption) | exact hX.wac (by assumption) (by assumption) (by omega))) rfl (by decide) (Nat.le_of_ble_eq_true rfl) (fun r72 Gc72 q72 => ?_) (fun E9 G9 h9 => h9.elim)
            obtain ⟨⟨x72, hb_x72, hr_x72, rfl⟩, eG72⟩ := q72
            have eG72 := eG72.symm
            subst eG72
            refine y_blk 0 tq_X12_sees (z := (75, [(7, .int ((2 - (fog / 2)) - 1)), (6, .int x2), (0, .ref (ad 200)), (1, .ref (ad (360 + k))), (2, .int cell), (3, .int minute), (4, .int isBright), (5, .int fog)], [.int x72])) rfl ?_
            refine y_if_eq tq_X12_sees 82 rfl rfl (fun c75 => ?_) (fun c75 => ?_)
            · skip
              refine y_blk 1 tq_X12_sees (z := (83, [(7, .int ((2 - (fog / 2)) - 1)), (6, .int x2), (0, .ref (ad 200)), (1, .ref (ad (360 + k))), (2, .int cell), (3, .int minute), (4, .int isBright), (5, .int fog)], [.int 0])) rfl ?_
              exact y_zret tq_X12_sees rfl rfl (rfl) (⟨⟨_, (Or.inl rfl), by unfold rsee; rw [← hr_x2.2]; first | exact ⟨fun h => absurd h (by decide), fun h => absurd c10 h.1⟩ | exact ⟨fun _ => ⟨c10, Or.inl c53⟩, fun _ => rfl⟩ | exact ⟨fun h => absurd h (by decide), fun h => h.2.elim (fun y => absurd y c53) (fun z => absurd z.1 (by (first | rw [rrng_00 c17 c39] | rw [rrng_01 c17 c39] | rw [rrng_10 c17 c39] | rw [rrng_11 c17 c39]); exact Int32.not_le.mpr c65))⟩ | exact ⟨fun h => absurd h (by decide), fun h => h.2.elim (fun y => absurd y c53) (fun z => by rw [hr_x72.mpr z.2] at c75; exact absurd c75 (by decide))⟩ | exact ⟨fun _ => ⟨c10, Or.inr ⟨(by (first | rw [rrng_00 c17 c39] | rw [rrng_01 c17 c39] | rw [rrng_10 c17 c39] | rw [rrng_11 c17 c39]); exact Int32.not_lt.mp c65), hr_x72.mp (hb_x72.resolve_left c75)⟩⟩, fun _ => rfl⟩, rfl⟩, rfl⟩)
            · skip
              refine y_blk 2 tq_X12_sees (z := (83, [(7, .int ((2 - (fog / 2)) - 1)), (6, .int x2), (0, .ref (ad 200)), (1, .ref (ad (360 + k))), (2, .int cell), (3, .int minute), (4, .int isBright), (5, .int fog)], [.int 1])) rfl ?_
              exact y_zret tq_X12_sees rfl rfl (rfl) (⟨⟨_, (Or.inr rfl), by unfold rsee; rw [← hr_x2.2]; first | exact ⟨fun h => absurd h (by decide), fun h => absurd c10 h.1⟩ | exact ⟨fun _ => ⟨c10, Or.inl c53⟩, fun _ => rfl⟩ | exact ⟨fun h => absurd h (by decide), fun h => h.2.elim (fun y => absurd y c53) (fun z => absurd z.1 (by (first | rw [rrng_00 c17 c39] | rw [rrng_01 c17 c39] | rw [rrng_10 c17 c39] | rw [rrng_11 c17 c39]); exact Int32.not_le.mpr c65))⟩ | exact ⟨fun h => absurd h (by decide), fun h => h.2.elim (fun y => absurd y c53) (fun z => by rw [hr_x72.mpr z.2] at c75; exact absurd c75 (by decide))⟩ | exact ⟨fun _ => ⟨c10, Or.inr ⟨(by (first | rw [rrng_00 c17 c39] | rw [rrng_01 c17 c39] | rw [rrng_10 c17 c39] | rw [rrng_11 c17 c39]); exact Int32.not_lt.mp c65), hr_x72.mp (hb_x72.resolve_left c75)⟩⟩, fun _ => rfl⟩, rfl⟩, rfl⟩)
    · skip
      refine y_blk 6 tq_X12_sees (z := (36, [(6, .int x2), (0, .ref (ad 200)), (1, .ref (ad (360 + k))), (2, .int cell), (3, .int minute), (4, .int isBright), (5, .int fog)], [.int minute, .ref (ad (360 + k)), .int (7 - fog)])) rfl ?_
      refine y_callV hS tq_X12_sees rfl (As := [.int minute]) rfl cv_X12_127 (hX.gu (by assumption)) (m_X10_isTired_v hS hI hX (k := k) (by assumption) minute) rfl (by decide) (Nat.le_of_ble_eq_true rfl) (fun r36 Gc36 q36 => ?_) (fun E9 G9 h9 => h9.elim)
      obtain ⟨rfl, eG36⟩ := q36
      have eG36 := eG36.symm
      subst eG36
      refine y_blk 0 tq_X12_sees (z := (39, [(6, .int x2), (0, .ref (ad 200)), (1, .ref (ad (360 + k))), (2, .int cell), (3, .int minute), (4, .int isBright), (5, .int fog)], [.int (if rtrd ρ k minute then 1 else 0), .int (7 - fog)])) rfl ?_
      refine y_if_eq tq_X12_sees 46 rfl rfl (fun c39 => ?_) (fun c39 => ?_)
      · skip
        refine y_blk 5 tq_X12_sees (z := (53, [(7, .int ((7 - fog) - 0)), (6, .int x2), (0, .ref (ad 200)), (1, .ref (ad (360 + k))), (2, .int cell), (3, .int minute), (4, .int isBright), (5, .int fog)], [.int cell, .int x2])) rfl ?_
        refine y_icmp_eq tq_X12_sees 78 rfl rfl (fun c53 => ?_) (fun c53 => ?_)
        · skip
          refine y_blk 2 tq_X12_sees (z := (83, [(7, .int ((7 - fog) - 0)), (6, .int x2), (0, .ref (ad 200)), (1, .ref (ad (360 + k))), (2, .int cell), (3, .int minute), (4, .int isBright), (5, .int fog)], [.int 1])) rfl ?_
          exact y_zret tq_X12_sees rfl rfl (rfl) (⟨⟨_, (Or.inr rfl), by unfold rsee; rw [← hr_x2.2]; first | exact ⟨fun h => absurd h (by decide), fun h => absurd c10 h.1⟩ | exact ⟨fun _ => ⟨c10, Or.inl c53⟩, fun _ => rfl⟩ | exact ⟨fun h => absurd h (by decide), fun h => h.2.elim (fun y => absurd y c53) (fun z => absurd z.1 (by (first | rw [rrng_00 c17 c39] | rw [rrng_01 c17 c39] | rw [rrng_10 c17 c39] | rw [rrng_11 c17 c39]); exact Int32.not_le.mpr c65))⟩ | exact ⟨fun h => absurd h (by decide), fun h => h.2.elim (fun y => absurd y c53) (fun z => by rw [hr_x72.mpr z.2] at c75; exact absurd c75 (by decide))⟩ | exact ⟨fun _ => ⟨c10, Or.inr ⟨(by (first | rw [rrng_00 c17 c39] | rw [rrng_01 c17 c39] | rw [rrng_10 c17 c39] | rw [rrng_11 c17 c39]); exact Int32.not_lt.mp c65), hr_x72.mp (hb_x72.resolve_left c75)⟩⟩, fun _ => rfl⟩, rfl⟩, rfl⟩)
        · skip
          refine y_blk 3 tq_X12_sees (z := (60, [(7, .int ((7 - fog) - 0)), (6, .int x2), (0, .ref (ad 200)), (1, .ref (ad (360 + k))), (2, .int cell), (3, .int minute), (4, .int isBright), (5, .int fog)], [.int cell, .int x2, .ref (ad 200)])) rfl ?_
          refine y_callV hS tq_X12_sees rfl (As := [.int x2, .int cell]) rfl cv_X12_104 hX.m (m_X12_apart hS hI hX x2 cell (by first | (with_reducible assumption) | (with_reducible exact hX.lac (by assumption)) | (with_reducible exact hX.poc (by assumption)) | (with_reducible exact hX.wac (by assumption) (by assumption) (by omega)) | assumption | exact hX.lac (by assumption) | exact hX.poc (by assumption) | exact hX.wac (by assumption) (by assumption) (by omega))) rfl (by decide) (Nat.le_of_ble_eq_true rfl) (fun r60 Gc60 q60 => ?_) (fun E9 G9 h9 => h9.elim)
          obtain ⟨rfl, eG60⟩ := q60
          have eG60 := eG60.symm
          subst eG60
          refine y_blk 1 tq_X12_sees (z := (65, [(7, .int ((7 - fog) - 0)), (6, .int x2), (0, .ref (ad 200)), (1, .ref (ad (360 + k))), (2, .int cell), (3, .int minute), (4, .int isBright), (5, .int fog)], [.int ((7 - fog) - 0), .int (if (yab ((x2 / (rI ρ 1)) - (cell / (rI ρ 1)))) < (yab ((x2 - x2 / (rI ρ 1) * (rI ρ 1)) - (cell - cell / (rI ρ 1) * (rI ρ 1)))) then (yab ((x2 - x2 / (rI ρ 1) * (rI ρ 1)) - (cell - cell / (rI ρ 1) * (rI ρ 1)))) else (yab ((x2 / (rI ρ 1)) - (cell / (rI ρ 1)))))])) rfl ?_
          refine y_icmp_gt tq_X12_sees 82 rfl rfl (fun c65 => ?_) (fun c65 => ?_)
          · skip
            refine y_blk 1 tq_X12_sees (z := (83, [(7, .int ((7 - fog) - 0)), (6, .int x2), (0, .ref (ad 200)), (1, .ref (ad (360 + k))), (2, .int cell), (3, .int minute), (4, .int isBright), (5, .int fog)], [.int 0])) rfl ?_
            exact y_zret tq_X12_sees rfl rfl (rfl) (⟨⟨_, (Or.inl rfl), by unfold rsee; rw [← hr_x2.2]; first | exact ⟨fun h => absurd h (by decide), fun h => absurd c10 h.1⟩ | exact ⟨fun _ => ⟨c10, Or.inl c53⟩, fun _ => rfl⟩ | exact ⟨fun h => absurd h (by decide), fun h => h.2.elim (fun y => absurd y c53) (fun z => absurd z.1 (by (first | rw [rrng_00 c17 c39] | rw [rrng_01 c17 c39] | rw [rrng_10 c17 c39] | rw [rrng_11 c17 c39]); exact Int32.not_le.mpr c65))⟩ | exact ⟨fun h => absurd h (by decide), fun h => h.2.elim (fun y => absurd y c53) (fun z => by rw [hr_x72.mpr z.2] at c75; exact absurd c75 (by decide))⟩ | exact ⟨fun _ => ⟨c10, Or.inr ⟨(by (first | rw [rrng_00 c17 c39] | rw [rrng_01 c17 c39] | rw [rrng_10 c17 c39] | rw [rrng_11 c17 c39]); exact Int32.not_lt.mp c65), hr_x72.mp (hb_x72.resolve_left c75)⟩⟩, fun _ => rfl⟩, rfl⟩, rfl⟩)
          · skip
            refine y_blk 3 tq_X12_sees (z := (72, [(7, .int ((7 - fog) - 0)), (6, .int x2), (0, .ref (ad 200)), (1, .ref (ad (360 + k))), (2, .int cell), (3, .int minute), (4, .int isBright), (5, .int fog)], [.int cell, .int x2, .ref (ad 200)])) rfl ?_
            refine y_callV hS tq_X12_sees rfl (As := [.int x2, .int cell]) rfl cv_X12_112 hX.m (m_X12_isClear_v hS hI hX x2 cell (by first | (with_reducible assumption) | (with_reducible exact hX.lac (by assumption)) | (with_reducible exact hX.poc (by assumption)) | (with_reducible exact hX.wac (by assumption) (by assumption) (by omega)) | assumption | exact hX.lac (by assumption) | exact hX.poc (by assumption) | exact hX.wac (by assumption) (by assumption) (by omega)) (by first | (with_reducible assumption) | (with_reducible exact hX.lac (by assumption)) | (with_reducible exact hX.poc (by assumption)) | (with_reducible exact hX.wac (by assumption) (by assumption) (by omega)) | assumption | exact hX.lac (by assumption) | exact hX.poc (by assumption) | exact hX.wac (by assumption) (by assumption) (by omega))) rfl (by decide) (Nat.le_of_ble_eq_true rfl) (fun r72 Gc72 q72 => ?_) (fun E9 G9 h9 => h9.elim)
            obtain ⟨⟨x72, hb_x72, hr_x72, rfl⟩, eG72⟩ := q72
            have eG72 := eG72.symm
            subst eG72
            refine y_blk 0 tq_X12_sees (z := (75, [(7, .int ((7 - fog) - 0)), (6, .int x2), (0, .ref (ad 200)), (1, .ref (ad (360 + k))), (2, .int cell), (3, .int minute), (4, .int isBright), (5, .int fog)], [.int x72])) rfl ?_
            refine y_if_eq tq_X12_sees 82 rfl rfl (fun c75 => ?_) (fun c75 => ?_)
            · skip
              refine y_blk 1 tq_X12_sees (z := (83, [(7, .int ((7 - fog) - 0)), (6, .int x2), (0, .ref (ad 200)), (1, .ref (ad (360 + k))), (2, .int cell), (3, .int minute), (4, .int isBright), (5, .int fog)], [.int 0])) rfl ?_
              exact y_zret tq_X12_sees rfl rfl (rfl) (⟨⟨_, (Or.inl rfl), by unfold rsee; rw [← hr_x2.2]; first | exact ⟨fun h => absurd h (by decide), fun h => absurd c10 h.1⟩ | exact ⟨fun _ => ⟨c10, Or.inl c53⟩, fun _ => rfl⟩ | exact ⟨fun h => absurd h (by decide), fun h => h.2.elim (fun y => absurd y c53) (fun z => absurd z.1 (by (first | rw [rrng_00 c17 c39] | rw [rrng_01 c17 c39] | rw [rrng_10 c17 c39] | rw [rrng_11 c17 c39]); exact Int32.not_le.mpr c65))⟩ | exact ⟨fun h => absurd h (by decide), fun h => h.2.elim (fun y => absurd y c53) (fun z => by rw [hr_x72.mpr z.2] at c75; exact absurd c75 (by decide))⟩ | exact ⟨fun _ => ⟨c10, Or.inr ⟨(by (first | rw [rrng_00 c17 c39] | rw [rrng_01 c17 c39] | rw [rrng_10 c17 c39] | rw [rrng_11 c17 c39]); exact Int32.not_lt.mp c65), hr_x72.mp (hb_x72.resolve_left c75)⟩⟩, fun _ => rfl⟩, rfl⟩, rfl⟩)
            · skip
              refine y_blk 2 tq_X12_sees (z := (83, [(7, .int ((7 - fog) - 0)), (6, .int x2), (0, .ref (ad 200)), (1, .ref (ad (360 + k))), (2, .int cell), (3, .int minute), (4, .int isBright), (5, .int fog)], [.int 1])) rfl ?_
              exact y_zret tq_X12_sees rfl rfl (rfl) (⟨⟨_, (Or.inr rfl), by unfold rsee; rw [← hr_x2.2]; first | exact ⟨fun h => absurd h (by decide), fun h => absurd c10 h.1⟩ | exact ⟨fun _ => ⟨c10, Or.inl c53⟩, fun _ => rfl⟩ | exact ⟨fun h => absurd h (by decide), fun h => h.2.elim (fun y => absurd y c53) (fun z => absurd z.1 (by (first | rw [rrng_00 c17 c39] | rw [rrng_01 c17 c39] | rw [rrng_10 c17 c39] | rw [rrng_11 c17 c39]); exact Int32.not_le.mpr c65))⟩ | exact ⟨fun h => absurd h (by decide), fun h => h.2.elim (fun y => absurd y c53) (fun z => by rw [hr_x72.mpr z.2] at c75; exact absurd c75 (by decide))⟩ | exact ⟨fun _ => ⟨c10, Or.inr ⟨(by (first | rw [rrng_00 c17 c39] | rw [rrng_01 c17 c39] | rw [rrng_10 c17 c39] | rw [rrng_11 c17 c39]); exact Int32.not_lt.mp c65), hr_x72.mp (hb_x72.resolve_left c75)⟩⟩, fun _ => rfl⟩, rfl⟩, rfl⟩)
      · skip
        refine y_blk 6 tq_X12_sees (z := (53, [(7, .int ((7 - fog) - 1)), (6, .int x2), (0, .ref (ad 200)), (1, .ref (ad (360 + k))), (2, .int cell), (3, .int minute), (4, .int isBright), (5, .int fog)], [.int cell, .int x2])) rfl ?_
        refine y_icmp_eq tq_X12_sees 78 rfl rfl (fun c53 => ?_) (fun c53 => ?_)
        · skip
          refine y_blk 2 tq_X12_sees (z := (83, [(7, .int ((7 - fog) - 1)), (6, .int x2), (0, .ref (ad 200)), (1, .ref (ad (360 + k))), (2, .int cell), (3, .int minute), (4, .int isBright), (5, .int fog)], [.int 1])) rfl ?_
          exact y_zret tq_X12_sees rfl rfl (rfl) (⟨⟨_, (Or.inr rfl), by unfold rsee; rw [← hr_x2.2]; first | exact ⟨fun h => absurd h (by decide), fun h => absurd c10 h.1⟩ | exact ⟨fun _ => ⟨c10, Or.inl c53⟩, fun _ => rfl⟩ | exact ⟨fun h => absurd h (by decide), fun h => h.2.elim (fun y => absurd y c53) (fun z => absurd z.1 (by (first | rw [rrng_00 c17 c39] | rw [rrng_01 c17 c39] | rw [rrng_10 c17 c39] | rw [rrng_11 c17 c39]); exact Int32.not_le.mpr c65))⟩ | exact ⟨fun h => absurd h (by decide), fun h => h.2.elim (fun y => absurd y c53) (fun z => by rw [hr_x72.mpr z.2] at c75; exact absurd c75 (by decide))⟩ | exact ⟨fun _ => ⟨c10, Or.inr ⟨(by (first | rw [rrng_00 c17 c39] | rw [rrng_01 c17 c39] | rw [rrng_10 c17 c39] | rw [rrng_11 c17 c39]); exact Int32.not_lt.mp c65), hr_x72.mp (hb_x72.resolve_left c75)⟩⟩, fun _ => rfl⟩, rfl⟩, rfl⟩)
        · skip
          refine y_blk 3 tq_X12_sees (z := (60, [(7, .int ((7 - fog) - 1)), (6, .int x2), (0, .ref (ad 200)), (1, .ref (ad (360 + k))), (2, .int cell), (3, .int minute), (4, .int isBright), (5, .int fog)], [.int cell, .int x2, .ref (ad 200)])) rfl ?_
          refine y_callV hS tq_X12_sees rfl (As := [.int x2, .int cell]) rfl cv_X12_104 hX.m (m_X12_apart hS hI hX x2 cell (by first | (with_reducible assumption) | (with_reducible exact hX.lac (by assumption)) | (with_reducible exact hX.poc (by assumption)) | (with_reducible exact hX.wac (by assumption) (by assumption) (by omega)) | assumption | exact hX.lac (by assumption) | exact hX.poc (by assumption) | exact hX.wac (by assumption) (by assumption) (by omega))) rfl (by decide) (Nat.le_of_ble_eq_true rfl) (fun r60 Gc60 q60 => ?_) (fun E9 G9 h9 => h9.elim)
          obtain ⟨rfl, eG60⟩ := q60
          have eG60 := eG60.symm
          subst eG60
          refine y_blk 1 tq_X12_sees (z := (65, [(7, .int ((7 - fog) - 1)), (6, .int x2), (0, .ref (ad 200)), (1, .ref (ad (360 + k))), (2, .int cell), (3, .int minute), (4, .int isBright), (5, .int fog)], [.int ((7 - fog) - 1), .int (if (yab ((x2 / (rI ρ 1)) - (cell / (rI ρ 1)))) < (yab ((x2 - x2 / (rI ρ 1) * (rI ρ 1)) - (cell - cell / (rI ρ 1) * (rI ρ 1)))) then (yab ((x2 - x2 / (rI ρ 1) * (rI ρ 1)) - (cell - cell / (rI ρ 1) * (rI ρ 1)))) else (yab ((x2 / (rI ρ 1)) - (cell / (rI ρ 1)))))])) rfl ?_
          refine y_icmp_gt tq_X12_sees 82 rfl rfl (fun c65 => ?_) (fun c65 => ?_)
          · skip
            refine y_blk 1 tq_X12_sees (z := (83, [(7, .int ((7 - fog) - 1)), (6, .int x2), (0, .ref (ad 200)), (1, .ref (ad (360 + k))), (2, .int cell), (3, .int minute), (4, .int isBright), (5, .int fog)], [.int 0])) rfl ?_
            exact y_zret tq_X12_sees rfl rfl (rfl) (⟨⟨_, (Or.inl rfl), by unfold rsee; rw [← hr_x2.2]; first | exact ⟨fun h => absurd h (by decide), fun h => absurd c10 h.1⟩ | exact ⟨fun _ => ⟨c10, Or.inl c53⟩, fun _ => rfl⟩ | exact ⟨fun h => absurd h (by decide), fun h => h.2.elim (fun y => absurd y c53) (fun z => absurd z.1 (by (first | rw [rrng_00 c17 c39] | rw [rrng_01 c17 c39] | rw [rrng_10 c17 c39] | rw [rrng_11 c17 c39]); exact Int32.not_le.mpr c65))⟩ | exact ⟨fun h => absurd h (by decide), fun h => h.2.elim (fun y => absurd y c53) (fun z => by rw [hr_x72.mpr z.2] at c75; exact absurd c75 (by decide))⟩ | exact ⟨fun _ => ⟨c10, Or.inr ⟨(by (first | rw [rrng_00 c17 c39] | rw [rrng_01 c17 c39] | rw [rrng_10 c17 c39] | rw [rrng_11 c17 c39]); exact Int32.not_lt.mp c65), hr_x72.mp (hb_x72.resolve_left c75)⟩⟩, fun _ => rfl⟩, rfl⟩, rfl⟩)
          · skip
            refine y_blk 3 tq_X12_sees (z := (72, [(7, .int ((7 - fog) - 1)), (6, .int x2), (0, .ref (ad 200)), (1, .ref (ad (360 + k))), (2, .int cell), (3, .int minute), (4, .int isBright), (5, .int fog)], [.int cell, .int x2, .ref (ad 200)])) rfl ?_
            refine y_callV hS tq_X12_sees rfl (As := [.int x2, .int cell]) rfl cv_X12_112 hX.m (m_X12_isClear_v hS hI hX x2 cell (by first | (with_reducible assumption) | (with_reducible exact hX.lac (by assumption)) | (with_reducible exact hX.poc (by assumption)) | (with_reducible exact hX.wac (by assumption) (by assumption) (by omega)) | assumption | exact hX.lac (by assumption) | exact hX.poc (by assumption) | exact hX.wac (by assumption) (by assumption) (by omega)) (by first | (with_reducible assumption) | (with_reducible exact hX.lac (by assumption)) | (with_reducible exact hX.poc (by assumption)) | (with_reducible exact hX.wac (by assumption) (by assumption) (by omega)) | assumption | exact hX.lac (by assumption) | exact hX.poc (by assumption) | exact hX.wac (by assumption) (by assumption) (by omega))) rfl (by decide) (Nat.le_of_ble_eq_true rfl) (fun r72 Gc72 q72 => ?_) (fun E9 G9 h9 => h9.elim)
            obtain ⟨⟨x72, hb_x72, hr_x72, rfl⟩, eG72⟩ := q72
            have eG72 := eG72.symm
            subst eG72
            refine y_blk 0 tq_X12_sees (z := (75, [(7, .int ((7 - fog) - 1)), (6, .int x2), (0, .ref (ad 200)), (1, .ref (ad (360 + k))), (2, .int cell), (3, .int minute), (4, .int isBright), (5, .int fog)], [.int x72])) rfl ?_
            refine y_if_eq tq_X12_sees 82 rfl rfl (fun c75 => ?_) (fun c75 => ?_)
            · skip
              refine y_blk 1 tq_X12_sees (z := (83, [(7, .int ((7 - fog) - 1)), (6, .int x2), (0, .ref (ad 200)), (1, .ref (ad (360 + k))), (2, .int cell), (3, .int minute), (4, .int isBright), (5, .int fog)], [.int 0])) rfl ?_
              exact y_zret tq_X12_sees rfl rfl (rfl) (⟨⟨_, (Or.inl rfl), by unfold rsee; rw [← hr_x2.2]; first | exact ⟨fun h => absurd h (by decide), fun h => absurd c10 h.1⟩ | exact ⟨fun _ => ⟨c10, Or.inl c53⟩, fun _ => rfl⟩ | exact ⟨fun h => absurd h (by decide), fun h => h.2.elim (fun y => absurd y c53) (fun z => absurd z.1 (by (first | rw [rrng_00 c17 c39] | rw [rrng_01 c17 c39] | rw [rrng_10 c17 c39] | rw [rrng_11 c17 c39]); exact Int32.not_le.mpr c65))⟩ | exact ⟨fun h => absurd h (by decide), fun h => h.2.elim (fun y => absurd y c53) (fun z => by rw [hr_x72.mpr z.2] at c75; exact absurd c75 (by decide))⟩ | exact ⟨fun _ => ⟨c10, Or.inr ⟨(by (first | rw [rrng_00 c17 c39] | rw [rrng_01 c17 c39] | rw [rrng_10 c17 c39] | rw [rrng_11 c17 c39]); exact Int32.not_lt.mp c65), hr_x72.mp (hb_x72.resolve_left c75)⟩⟩, fun _ => rfl⟩, rfl⟩, rfl⟩)
            · skip
              refine y_blk 2 tq_X12_sees (z := (83, [(7, .int ((7 - fog) - 1)), (6, .int x2), (0, .ref (ad 200)), (1, .ref (ad (360 + k))), (2, .int cell), (3, .int minute), (4, .int isBright), (5, .int fog)], [.int 1])) rfl ?_
              exact y_zret tq_X12_sees rfl rfl (rfl) (⟨⟨_, (Or.inr rfl), by unfold rsee; rw [← hr_x2.2]; first | exact ⟨fun h => absurd h (by decide), fun h => absurd c10 h.1⟩ | exact ⟨fun _ => ⟨c10, Or.inl c53⟩, fun _ => rfl⟩ | exact ⟨fun h => absurd h (by decide), fun h => h.2.elim (fun y => absurd y c53) (fun z => absurd z.1 (by (first | rw [rrng_00 c17 c39] | rw [rrng_01 c17 c39] | rw [rrng_10 c17 c39] | rw [rrng_11 c17 c39]); exact Int32.not_le.mpr c65))⟩ | exact ⟨fun h => absurd h (by decide), fun h => h.2.elim (fun y => absurd y c53) (fun z => by rw [hr_x72.mpr z.2] at c75; exact absurd c75 (by decide))⟩ | exact ⟨fun _ => ⟨c10, Or.inr ⟨(by (first | rw [rrng_00 c17 c39] | rw [rrng_01 c17 c39] | rw [rrng_10 c17 c39] | rw [rrng_11 c17 c39]); exact Int32.not_lt.mp c65), hr_x72.mp (hb_x72.resolve_left c75)⟩⟩, fun _ => rfl⟩, rfl⟩, rfl⟩)
  · skip
    refine y_blk 1 tq_X12_sees (z := (14, [(6, .int x2), (0, .ref (ad 200)), (1, .ref (ad (360 + k))), (2, .int cell), (3, .int minute), (4, .int isBright), (5, .int fog)], [.int 0])) rfl ?_
    exact y_zret tq_X12_sees rfl rfl (rfl) (⟨⟨_, (Or.inl rfl), by unfold rsee; rw [← hr_x2.2]; first | exact ⟨fun h => absurd h (by decide), fun h => absurd c10 h.1⟩ | exact ⟨fun _ => ⟨c10, Or.inl c53⟩, fun _ => rfl⟩ | exact ⟨fun h => absurd h (by decide), fun h => h.2.elim (fun y => absurd y c53) (fun z => absurd z.1 (by (first | rw [rrng_00 c17 c39] | rw [rrng_01 c17 c39] | rw [rrng_10 c17 c39] | rw [rrng_11 c17 c39]); exact Int32.not_le.mpr c65))⟩ | exact ⟨fun h => absurd h (by decide), fun h => h.2.elim (fun y => absurd y c53) (fun z => by rw [hr_x72.mpr z.2] at c75; exact absurd c75 (by decide))⟩ | exact ⟨fun _ => ⟨c10, Or.inr ⟨(by (first | rw [rrng_00 c17 c39] | rw [rrng_01 c17 c39] | rw [rrng_10 c17 c39] | rw [rrng_11 c17 c39]); exact Int32.not_lt.mp c65), hr_x72.mp (hb_x72.resolve_left c75)⟩⟩, fun _ => rfl⟩, rfl⟩, rfl⟩)
set_option maxHeartbeats 4000000 in
set_option maxRecDepth 100000 in
theorem m_X12_isWatched_v {l : Launch} {S0 : State} {A0 : Array Value} {D : va_G} {aC : Nat → ClassId} {ic : Int32 → Nat} {de : Nat} {ad : Nat → Nat} {G : AH} {ρ : RS} (hS : yS l S0 A0 D aC) (hI : yIc S0 ic de) (hX : atR aC ic de ad G ρ) (cell : Int32) (minute : Int32) (hcell : rcell ρ cell) : yM l S0 D yX12_isWatched cX12_isWatched 6 (some .boolean) 20 0 0 [.ref (ad 200), .int cell, .int minute] G (fun r G1 => (∃ v : Int32, (v = 0 ∨ v = 1) ∧ (v = 1 ↔ rwat ρ cell minute) ∧ r = some (.int v)) ∧ G1 = G) (fun _ _ => False) := by
  refine yM.ofK K_X12_isWatched rfl (by decide) (Nat.le_of_ble_eq_true rfl) ?_
  have J16 : ∀ (n16 : Nat) (v16_3 : Int32) (v16_4 : Int32) (v16_5 : Int32) (hb_v16_3 : v16_3 = 0 ∨ v16_3 = 1) (h0_16 : 0 ≤ v16_5.toInt) (wb16 : v16_3 = rbr1 ρ cell ∧ v16_4 = rfog ρ minute) (nw16 : ∀ k : Nat, k < v16_5.toInt.toNat → ¬ rsee ρ k cell minute (rbr1 ρ cell) (rfog ρ minute)), (((Int32.ofNat (rZ ρ 212)) : Int32).toInt - v16_5.toInt).toNat = n16 → Y l S0 D K_X12_isWatched 20 0 0 (fun r G1 => (∃ v : Int32, (v = 0 ∨ v = 1) ∧ (v = 1 ↔ rwat ρ cell minute) ∧ r = some (.int v)) ∧ G1 = G) (fun _ _ => False) 16 [(0, .ref (ad 200)), (1, .int cell), (2, .int minute), (3, .int v16_3), (4, .int v16_4), (5, .int v16_5)] [] G 0 0 := by
    intro n16
    induction n16 using Nat.strongRecOn with
    | _ n16 ih16 =>
    intro v16_3 v16_4 v16_5 hb_v16_3 h0_16 wb16 nw16 hn16
    subst hn16
    refine y_blk 2 tq_X12_isWatched (z := (19, [(0, .ref (ad 200)), (1, .int cell), (2, .int minute), (3, .int v16_3), (4, .int v16_4), (5, .int v16_5)], [.ref (ad 200), .int v16_5])) rfl ?_
    refine y_get hS tq_X12_isWatched (v := .ref (ad 212)) rfl fg_X12_27_X12 hX.m rfl ?_
    refine y_blk 0 tq_X12_isWatched (z := (22, [(0, .ref (ad 200)), (1, .int cell), (2, .int minute), (3, .int v16_3), (4, .int v16_4), (5, .int v16_5)], [.ref (ad 212), .int v16_5])) rfl ?_
    refine y_callF hS tq_X12_isWatched rfl (As := []) rfl cf_X12_58 (Or.inl ⟨_, (hX.ls 212 (by decide)).1⟩) (m_Jsize hS (hX.ls 212 (by decide))) rfl (by decide) (Nat.le_of_ble_eq_true rfl) (fun r22 Gc22 q22 => ?_) (fun _ _ h9 => h9.elim)
    obtain ⟨rfl, eG22⟩ := q22
    have eG22 := eG22.symm
    subst eG22
    refine y_blk 0 tq_X12_isWatched (z := (27, [(0, .ref (ad 200)), (1, .int cell), (2, .int minute), (3, .int v16_3), (4, .int v16_4), (5, .int v16_5)], [.int (Int32.ofNat (rZ ρ 212)), .int v16_5])) rfl ?_
    refine y_icmp_ge tq_X12_isWatched 64 rfl rfl (fun c27 => ?_) (fun c27 => ?_)
    · skip
      refine y_blk 1 tq_X12_isWatched (z := (65, [(0, .ref (ad 200)), (1, .int cell), (2, .int minute), (3, .int v16_3), (4, .int v16_4), (5, .int v16_5)], [.int 0])) rfl ?_
      exact y_zret tq_X12_isWatched rfl rfl (rfl) (⟨⟨_, (Or.inl rfl), by first | exact ⟨fun h => absurd h (by decide), fun h => h.elim (fun k q => absurd q.2 (allN nw16 (by have z1 := hX.2.2.1; have z2 := z1.2.2.1; omega) c27 k q.1))⟩ | exact ⟨fun _ => ⟨_, (by assumption), (by have z := hr_x50.mp (hb_x50.resolve_left c53); rw [wb16.1, wb16.2] at z; exact z)⟩, fun _ => rfl⟩, rfl⟩, rfl⟩)
    · skip
      have hn27 := hX.2.le10 212 (by decide)
      have b27 : v16_5.toInt < rZ ρ 212 := yIy (by omega) h0_16 c27
      have d27 : Int32.toNatClampNeg v16_5 < rZ ρ 212 := yIx h0_16 b27
      refine y_blk 2 tq_X12_isWatched (z := (32, [(0, .ref (ad 200)), (1, .int cell), (2, .int minute), (3, .int v16_3), (4, .int v16_4), (5, .int v16_5)], [.ref (ad 200), .ref (ad 200)])) rfl ?_
      refine y_get hS tq_X12_isWatched (v := .ref (ad 212)) rfl fg_X12_27_X12 hX.m rfl ?_
      refine y_blk 1 tq_X12_isWatched (z := (37, [(0, .ref (ad 200)), (1, .int cell), (2, .int minute), (3, .int v16_3), (4, .int v16_4), (5, .int v16_5)], [.int v16_5, .ref (ad 212), .ref (ad 200)])) rfl ?_
      refine y_callF hS tq_X12_isWatched rfl (As := [.int v16_5]) rfl cf_X12_80 (Or.inl ⟨_, (hX.ls 212 (by decide)).1⟩) (m_Rgu hS hX (by assumption) (by assumption)) rfl (by decide) (Nat.le_of_ble_eq_true rfl) (fun r37 Gc37 q37 => ?_) (fun _ _ h9 => h9.elim)
      obtain ⟨rfl, eG37⟩ := q37
      have eG37 := eG37.symm
      subst eG37
      have d37 : (Int32.toNatClampNeg v16_5) < rZ ρ 212 := yIx (by assumption) (by assumption)
      refine y_blk 0 tq_X12_isWatched (z := (42, [(0, .ref (ad 200)), (1, .int cell), (2, .int minute), (3, .int v16_3), (4, .int v16_4), (5, .int v16_5)], [.ref (ad (360 + (Int32.toNatClampNeg v16_5))), .ref (ad 200)])) rfl ?_
      refine y_castG hS tq_X12_isWatched rfl kc_X12_84 (Or.inl ⟨_, (hX.gu (by assumption))⟩) ?_
      refine y_blk 4 tq_X12_isWatched (z := (50, [(0, .ref (ad 200)), (1, .int cell), (2, .int minute), (3, .int v16_3), (4, .int v16_4), (5, .int v16_5)], [.int v16_4, .int v16_3, .int minute, .int cell, .ref (ad (360 + (Int32.toNatClampNeg v16_5))), .ref (ad 200)])) rfl ?_
      refine y_callV hS tq_X12_isWatched rfl (As := [.ref (ad (360 + (Int32.toNatClampNeg v16_5))), .int cell, .int minute, .int v16_3, .int v16_4]) rfl cv_X12_133 hX.m (m_X12_sees_v hS hI hX (k := (Int32.toNatClampNeg v16_5)) (by assumption) cell minute v16_3 v16_4 (by first | (with_reducible assumption) | (with_reducible exact hX.lac (by assumption)) | (with_reducible exact hX.poc (by assumption)) | (with_reducible exact hX.wac (by assumption) (by assumption) (by omega)) | assumption | exact hX.lac (by assumption) | exact hX.poc (by assumption) | exact hX.wac (by assumption) (by assumption) (by omega))) rfl (by decide) (Nat.le_of_ble_eq_true rfl) (fun r50 Gc50 q50 => ?_) (fun E9 G9 h9 => h9.elim)
      obtain ⟨⟨x50, hb_x50, hr_x50, rfl⟩, eG50⟩ := q50
      have eG50 := eG50.symm
      subst eG50
      refine y_blk 0 tq_X12_isWatched (z := (53, [(0, .ref (ad 200)), (1, .int cell), (2, .int minute), (3, .int v16_3), (4, .int v16_4), (5, .int v16_5)], [.int x50])) rfl ?_
      refine y_if_eq tq_X12_isWatched 58 rfl rfl (fun c53 => ?_) (fun c53 => ?_)
      · skip
        refine y_blk 2 tq_X12_isWatched (z := (16, [(5, .int (v16_5 + 1)), (0, .ref (ad 200)), (1, .int cell), (2, .int minute), (3, .int v16_3), (4, .int v16_4)], [])) rfl ?_
        refine y_pick (L2 := [(0, .ref (ad 200)), (1, .int cell), (2, .int minute), (3, .int v16_3), (4, .int v16_4), (5, .int (v16_5 + 1))]) [1, 2, 3, 4, 5, 0] rfl ?_
        exact ih16 _ (by exact ydec c27) v16_3 v16_4 (v16_5 + 1) hb_v16_3 (by first | decide | assumption | exact Int.le_refl _ | exact yposgeL (by assumption) c27) (by first | assumption | exact ⟨b01 hb_x2 hr_x2, rfl⟩) (by first | exact allS nw16 h0_16 c27 (fun q => by rw [← wb16.1, ← wb16.2] at q; rw [hr_x50.mpr q] at c53; exact absurd c53 (by decide)) | exact all0) rfl
      · skip
        refine y_blk 1 tq_X12_isWatched (z := (57, [(0, .ref (ad 200)), (1, .int cell), (2, .int minute), (3, .int v16_3), (4, .int v16_4), (5, .int v16_5)], [.int 1])) rfl ?_
        exact y_zret tq_X12_isWatched rfl rfl (rfl) (⟨⟨_, (Or.inr rfl), by first | exact ⟨fun h => absurd h (by decide), fun h => h.elim (fun k q => absurd q.2 (allN nw16 (by have z1 := hX.2.2.1; have z2 := z1.2.2.1; omega) c27 k q.1))⟩ | exact ⟨fun _ => ⟨_, (by assumption), (by have z := hr_x50.mp (hb_x50.resolve_left c53); rw [wb16.1, wb16.2] at z; exact z)⟩, fun _ => rfl⟩, rfl⟩, rfl⟩)
  refine y_blk 2 tq_X12_isWatched (z := (2, [(0, .ref (ad 200)), (1, .int cell), (2, .int minute)], [.int cell, .ref (ad 200)])) rfl ?_
  refine y_callV hS tq_X12_isWatched rfl (As := [.int cell]) rfl cv_X12_120 hX.m (m_X12_isBright_v hS hI hX cell (by first | (with_reducible assumption) | (with_reducible exact hX.lac (by assumption)) | (with_reducible exact hX.poc (by assumption)) | (with_reducible exact hX.wac (by assumption) (by assumption) (by omega)) | assumption | exact hX.lac (by assumption) | exact hX.poc (by assumption) | exact hX.wac (by assumption) (by assumption) (by omega))) rfl (by decide) (Nat.le_of_ble_eq_true rfl) (fun r2 Gc2 q2 => ?_) (fun E9 G9 h9 => h9.elim)
  obtain ⟨⟨x2, hb_x2, hr_x2, rfl⟩, eG2⟩ := q2
  have eG2 := eG2.symm
  subst eG2
  refine y_blk 3 tq_X12_isWatched (z := (8, [(3, .int x2), (0, .ref (ad 200)), (1, .int cell), (2, .int minute)], [.int minute, .ref (ad 200)])) rfl ?_
  refine y_callV hS tq_X12_isWatched rfl (As := [.int minute]) rfl cv_X12_130 hX.m (m_X12_fogAt_v hS hI hX minute) rfl (by decide) (Nat.le_of_ble_eq_true rfl) (fun r8 Gc8 q8 => ?_) (fun E9 G9 h9 => h9.elim)
  obtain ⟨rfl, eG8⟩ := q8
  have eG8 := eG8.symm
  subst eG8
  refine y_blk 3 tq_X12_isWatched (z := (16, [(5, .int 0), (4, .int (rfog ρ minute)), (3, .int x2), (0, .ref (ad 200)), (1, .int cell), (2, .int minute)], [])) rfl ?_
  refine y_pick (L2 := [(0, .ref (ad 200)), (1, .int cell), (2, .int minute), (3, .int x2), (4, .int (rfog ρ minute)), (5, .int 0)]) [3, 4, 5, 2, 1, 0] rfl ?_
  exact J16 _ x2 (rfog ρ minute) 0 hb_x2 (by first | decide | assumption | exact Int.le_refl _ | exact yposgeL (by assumption) c27) (by first | assumption | exact ⟨b01 hb_x2 hr_x2, rfl⟩) (by first | exact allS nw16 h0_16 c27 (fun q => by rw [← wb16.1, ← wb16.2] at q; rw [hr_x50.mpr q] at c53; exact absurd c53 (by decide)) | exact all0) rfl
set_option maxHeartbeats 4000000 in
set_option maxRecDepth 100000 in
theorem m_X12_seers_v {l : Launch} {S0 : State} {A0 : Array Value} {D : va_G} {aC : Nat → ClassId} {ic : Int32 → Nat} {de : Nat} {ad : Nat → Nat} {G : AH} {ρ : RS} (hS : yS l S0 A0 D aC) (hI : yIc S0 ic de) (hX : atR aC ic de ad G ρ) (cell : Int32) (minute : Int32) (hcell : rcell ρ cell) : yM l S0 D yX12_seers cX12_seers 7 (some .int) 20 0 0 [.ref (ad 200), .int cell, .int minute] G (fun r G1 => r = some (.int (rsrN ρ cell minute)) ∧ G1 = G) (fun _ _ => False) := by
  refine yM.ofK K_X12_seers rfl (by decide) (Nat.le_of_ble_eq_true rfl) ?_
  have hn212 := hX.2.le10 212 (by decide)
  have J19 : ∀ (n19 : Nat) (v19_3 : Int32) (v19_4 : Int32) (v19_5 : Int32) (v19_6 : Int32) (hb_v19_3 : v19_3 = 0 ∨ v19_3 = 1) (h0_19 : 0 ≤ v19_6.toInt) (hh19 : 0 ≤ v19_6.toInt ∧ v19_6.toInt ≤ (Int32.ofNat (rZ ρ 212) : Int32).toInt) (wb19 : v19_3 = rbr1 ρ cell ∧ v19_4 = rfog ρ minute) (ea19 : v19_5 = itI (rsrF ρ cell minute) 0 v19_6.toInt.toNat), (((Int32.ofNat (rZ ρ 212)) : Int32).toInt - v19_6.toInt).toNat = n19 → Y l S0 D K_X12_seers 20 0 0 (fun r G1 => r = some (.int (rsrN ρ cell minute)) ∧ G1 = G) (fun _ _ => False) 19 [(0, .ref (ad 200)), (1, .int cell), (2, .int minute), (3, .int v19_3), (4, .int v19_4), (5, .int v19_5), (6, .int v19_6)] [] G 0 0 := by
    intro n19
    induction n19 using Nat.strongRecOn with
    | _ n19 ih19 =>
    intro v19_3 v19_4 v19_5 v19_6 hb_v19_3 h0_19 hh19 wb19 ea19 hn19
    subst hn19
    refine y_blk 2 tq_X12_seers (z := (22, [(0, .ref (ad 200)), (1, .int cell), (2, .int minute), (3, .int v19_3), (4, .int v19_4), (5, .int v19_5), (6, .int v19_6)], [.ref (ad 200), .int v19_6])) rfl ?_
    refine y_get hS tq_X12_seers (v := .ref (ad 212)) rfl fg_X12_27_X12 hX.m rfl ?_
    refine y_blk 0 tq_X12_seers (z := (25, [(0, .ref (ad 200)), (1, .int cell), (2, .int minute), (3, .int v19_3), (4, .int v19_4), (5, .int v19_5), (6, .int v19_6)], [.ref (ad 212), .int v19_6])) rfl ?_
    refine y_callF hS tq_X12_seers rfl (As := []) rfl cf_X12_58 (Or.inl ⟨_, (hX.ls 212 (by decide)).1⟩) (m_Jsize hS (hX.ls 212 (by decide))) rfl (by decide) (Nat.le_of_ble_eq_true rfl) (fun r25 Gc25 q25 => ?_) (fun _ _ h9 => h9.elim)
    obtain ⟨rfl, eG25⟩ := q25
    have eG25 := eG25.symm
    subst eG25
    refine y_blk 0 tq_X12_seers (z := (30, [(0, .ref (ad 200)), (1, .int cell), (2, .int minute), (3, .int v19_3), (4, .int v19_4), (5, .int v19_5), (6, .int v19_6)], [.int (Int32.ofNat (rZ ρ 212)), .int v19_6])) rfl ?_
    refine y_icmp_ge tq_X12_seers 78 rfl rfl (fun c30 => ?_) (fun c30 => ?_)
    · skip
      refine y_blk 1 tq_X12_seers (z := (80, [(0, .ref (ad 200)), (1, .int cell), (2, .int minute), (3, .int v19_3), (4, .int v19_4), (5, .int v19_5), (6, .int v19_6)], [.int v19_5])) rfl ?_
      exact y_iret tq_X12_seers rfl rfl (⟨congrArg (fun z => some (Value.int z)) (itI_e ea19 hh19 c30), rfl⟩)
    · skip
      have hn30 := hX.2.le10 212 (by decide)
      have b30 : v19_6.toInt < rZ ρ 212 := yIy (by omega) h0_19 c30
      have d30 : Int32.toNatClampNeg v19_6 < rZ ρ 212 := yIx h0_19 b30
      refine y_blk 3 tq_X12_seers (z := (37, [(0, .ref (ad 200)), (1, .int cell), (2, .int minute), (3, .int v19_3), (4, .int v19_4), (5, .int v19_5), (6, .int v19_6)], [.ref (ad 200), .ref (ad 200), .int v19_5])) rfl ?_
      refine y_get hS tq_X12_seers (v := .ref (ad 212)) rfl fg_X12_27_X12 hX.m rfl ?_
      refine y_blk 1 tq_X12_seers (z := (42, [(0, .ref (ad 200)), (1, .int cell), (2, .int minute), (3, .int v19_3), (4, .int v19_4), (5, .int v19_5), (6, .int v19_6)], [.int v19_6, .ref (ad 212), .ref (ad 200), .int v19_5])) rfl ?_
      refine y_callF hS tq_X12_seers rfl (As := [.int v19_6]) rfl cf_X12_80 (Or.inl ⟨_, (hX.ls 212 (by decide)).1⟩) (m_Rgu hS hX (by assumption) (by assumption)) rfl (by decide) (Nat.le_of_ble_eq_true rfl) (fun r42 Gc42 q42 => ?_) (fun _ _ h9 => h9.elim)
      obtain ⟨rfl, eG42⟩ := q42
      have eG42 := eG42.symm
      subst eG42
      have d42 : (Int32.toNatClampNeg v19_6) < rZ ρ 212 := yIx (by assumption) (by assumption)
      refine y_blk 0 tq_X12_seers (z := (47, [(0, .ref (ad 200)), (1, .int cell), (2, .int minute), (3, .int v19_3), (4, .int v19_4), (5, .int v19_5), (6, .int v19_6)], [.ref (ad (360 + (Int32.toNatClampNeg v19_6))), .ref (ad 200), .int v19_5])) rfl ?_
      refine y_castG hS tq_X12_seers rfl kc_X12_84 (Or.inl ⟨_, (hX.gu (by assumption))⟩) ?_
      refine y_blk 4 tq_X12_seers (z := (55, [(0, .ref (ad 200)), (1, .int cell), (2, .int minute), (3, .int v19_3), (4, .int v19_4), (5, .int v19_5), (6, .int v19_6)], [.int v19_4, .int v19_3, .int minute, .int cell, .ref (ad (360 + (Int32.toNatClampNeg v19_6))), .ref (ad 200), .int v19_5])) rfl ?_
      refine y_callV hS tq_X12_seers rfl (As := [.ref (ad (360 + (Int32.toNatClampNeg v19_6))), .int cell, .int minute, .int v19_3, .int v19_4]) rfl cv_X12_133 hX.m (m_X12_sees_v hS hI hX (k := (Int32.toNatClampNeg v19_6)) (by assumption) cell minute v19_3 v19_4 (by first | (with_reducible assumption) | (with_reducible exact hX.lac (by assumption)) | (with_reducible exact hX.poc (by assumption)) | (with_reducible exact hX.wac (by assumption) (by assumption) (by omega)) | assumption | exact hX.lac (by assumption) | exact hX.poc (by assumption) | exact hX.wac (by assumption) (by assumption) (by omega))) rfl (by decide) (Nat.le_of_ble_eq_true rfl) (fun r55 Gc55 q55 => ?_) (fun E9 G9 h9 => h9.elim)
      obtain ⟨⟨x55, hb_x55, hr_x55, rfl⟩, eG55⟩ := q55
      have eG55 := eG55.symm
      subst eG55
      refine y_blk 0 tq_X12_seers (z := (58, [(0, .ref (ad 200)), (1, .int cell), (2, .int minute), (3, .int v19_3), (4, .int v19_4), (5, .int v19_5), (6, .int v19_6)], [.int x55, .int v19_5])) rfl ?_
      refine y_if_eq tq_X12_seers 68 rfl rfl (fun c58 => ?_) (fun c58 => ?_)
      · skip
        refine y_blk 5 tq_X12_seers (z := (19, [(6, .int (v19_6 + 1)), (5, .int (v19_5 ||| 0)), (0, .ref (ad 200)), (1, .int cell), (2, .int minute), (3, .int v19_3), (4, .int v19_4)], [])) rfl ?_
        refine y_pick (L2 := [(0, .ref (ad 200)), (1, .int cell), (2, .int minute), (3, .int v19_3), (4, .int v19_4), (5, .int (v19_5 ||| 0)), (6, .int (v19_6 + 1))]) [2, 3, 4, 5, 6, 1, 0] rfl ?_
        exact ih19 _ (by exact ydec c30) v19_3 v19_4 (v19_5 ||| 0) (v19_6 + 1) hb_v19_3 (by first | decide | assumption | exact Int.le_refl _ | exact yposgeL (by assumption) c30) (by first | exact xcn_step hh19 c30 | exact xcn_init (by first | decide | (rw [yofn (by omega)]; omega))) (by first | assumption | exact ⟨b01 hb_x2 hr_x2, rfl⟩) (by first | exact itI_s ea19 hh19 c30 (by unfold rsrF; rw [← wb19.1, ← wb19.2]; first | (rw [cif_f (fun q => by rw [hr_x55.mpr q] at c58; exact absurd c58 (by decide))]) | (rw [cif_t (hr_x55.mp (hb_x55.resolve_left c58))])) | with_reducible exact itI_0) rfl
      · skip
        refine y_blk 8 tq_X12_seers (z := (19, [(6, .int (v19_6 + 1)), (5, .int (v19_5 ||| (1 <<< (v19_6 &&& 31)))), (0, .ref (ad 200)), (1, .int cell), (2, .int minute), (3, .int v19_3), (4, .int v19_4)], [])) rfl ?_
        refine y_pick (L2 := [(0, .ref (ad 200)), (1, .int cell), (2, .int minute), (3, .int v19_3), (4, .int v19_4), (5, .int (v19_5 ||| (1 <<< (v19_6 &&& 31)))), (6, .int (v19_6 + 1))]) [2, 3, 4, 5, 6, 1, 0] rfl ?_
        exact ih19 _ (by exact ydec c30) v19_3 v19_4 (v19_5 ||| (1 <<< (v19_6 &&& 31))) (v19_6 + 1) hb_v19_3 (by first | decide | assumption | exact Int.le_refl _ | exact yposgeL (by assumption) c30) (by first | exact xcn_step hh19 c30 | exact xcn_init (by first | decide | (rw [yofn (by omega)]; omega))) (by first | assumption | exact ⟨b01 hb_x2 hr_x2, rfl⟩) (by first | exact itI_s ea19 hh19 c30 (by unfold rsrF; rw [← wb19.1, ← wb19.2]; first | (rw [cif_f (fun q => by rw [hr_x55.mpr q] at c58; exact absurd c58 (by decide))]) | (rw [cif_t (hr_x55.mp (hb_x55.resolve_left c58))])) | with_reducible exact itI_0) rfl
  refine y_blk 2 tq_X12_seers (z := (2, [(0, .ref (ad 200)), (1, .int cell), (2, .int minute)], [.int cell, .ref (ad 200)])) rfl ?_
  refine y_callV hS tq_X12_seers rfl (As := [.int cell]) rfl cv_X12_120 hX.m (m_X12_isBright_v hS hI hX cell (by first | (with_reducible assumption) | (with_reducible exact hX.lac (by assumption)) | (with_reducible exact hX.poc (by assumption)) | (with_reducible exact hX.wac (by assumption) (by assumption) (by omega)) | assumption | exact hX.lac (by assumption) | exact hX.poc (by assumption) | exact hX.wac (by assumption) (by assumption) (by omega))) rfl (by decide) (Nat.le_of_ble_eq_true rfl) (fun r2 Gc2 q2 => ?_) (fun E9 G9 h9 => h9.elim)
  obtain ⟨⟨x2, hb_x2, hr_x2, rfl⟩, eG2⟩ := q2
  have eG2 := eG2.symm
  subst eG2
  refine y_blk 3 tq_X12_seers (z := (8, [(3, .int x2), (0, .ref (ad 200)), (1, .int cell), (2, .int minute)], [.int minute, .ref (ad 200)])) rfl ?_
  refine y_callV hS tq_X12_seers rfl (As := [.int minute]) rfl cv_X12_130 hX.m (m_X12_fogAt_v hS hI hX minute) rfl (by decide) (Nat.le_of_ble_eq_true rfl) (fun r8 Gc8 q8 => ?_) (fun E9 G9 h9 => h9.elim)
  obtain ⟨rfl, eG8⟩ := q8
  have eG8 := eG8.symm
  subst eG8
  refine y_blk 5 tq_X12_seers (z := (19, [(6, .int 0), (5, .int 0), (4, .int (rfog ρ minute)), (3, .int x2), (0, .ref (ad 200)), (1, .int cell), (2, .int minute)], [])) rfl ?_
  refine y_pick (L2 := [(0, .ref (ad 200)), (1, .int cell), (2, .int minute), (3, .int x2), (4, .int (rfog ρ minute)), (5, .int 0), (6, .int 0)]) [4, 5, 6, 3, 2, 1, 0] rfl ?_
  exact J19 _ x2 (rfog ρ minute) 0 0 hb_x2 (by first | decide | assumption | exact Int.le_refl _ | exact yposgeL (by assumption) c30) (by first | exact xcn_step hh19 c30 | exact xcn_init (by first | decide | (rw [yofn (by omega)]; omega))) (by first | assumption | exact ⟨b01 hb_x2 hr_x2, rfl⟩) (by first | exact itI_s ea19 hh19 c30 (by unfold rsrF; rw [← wb19.1, ← wb19.2]; first | (rw [cif_f (fun q => by rw [hr_x55.mpr q] at c58; exact absurd c58 (by decide))]) | (rw [cif_t (hr_x55.mp (hb_x55.resolve_left c58))])) | with_reducible exact itI_0) rfl
set_option maxHeartbeats 4000000 in
set_option maxRecDepth 100000 in
theorem m_X12_isWalked_v {l : Launch} {S0 : State} {A0 : Array Value} {D : va_G} {aC : Nat → ClassId} {ic : Int32 → Nat} {de : Nat} {ad : Nat → Nat} {G : AH} {ρ : RS} (hS : yS l S0 A0 D aC) (hI : yIc S0 ic de) (hX : atR aC ic de ad G ρ) (cell : Int32) (minute : Int32) (hcell : rcell ρ cell) : yM l S0 D yX12_isWalked cX12_isWalked 3 (some .boolean) 17 0 0 [.ref (ad 200), .int cell, .int minute] G (fun r G1 => (∃ v : Int32, (v = 0 ∨ v = 1) ∧ (v = 1 ↔ rwlk ρ cell minute) ∧ r = some (.int v)) ∧ G1 = G) (fun _ _ => False) := by
  refine yM.ofK K_X12_isWalked rfl (by decide) (Nat.le_of_ble_eq_true rfl) ?_
  have hc0 := hcell.1
  have hc1 := hcell.2
  refine y_blk 1 tq_X12_isWalked (z := (1, [(0, .ref (ad 200)), (1, .int cell), (2, .int minute)], [.ref (ad 200)])) rfl ?_
  refine y_get hS tq_X12_isWalked (v := .ref (ad 201)) rfl fg_X12_7_X12 hX.m rfl ?_
  refine y_blk 1 tq_X12_isWalked (z := (5, [(0, .ref (ad 200)), (1, .int cell), (2, .int minute)], [.int cell, .ref (ad 201)])) rfl ?_
  refine y_iald hS tq_X12_isWalked rfl hX.ki (by first | exact yIn (by decide) (by decide) | exact yIn (by assumption) (by assumption) | (exact yIn (by omega) (by omega))) ?_
  refine y_blk 1 tq_X12_isWalked (z := (7, [(0, .ref (ad 200)), (1, .int cell), (2, .int minute)], [.int 1, .int ((rV ρ 201) (Int32.toNatClampNeg cell))])) rfl ?_
  refine y_icmp_eq tq_X12_isWalked 39 rfl rfl (fun c7 => ?_) (fun c7 => ?_)
  · skip
    refine y_blk 1 tq_X12_isWalked (z := (40, [(0, .ref (ad 200)), (1, .int cell), (2, .int minute)], [.int 0])) rfl ?_
    exact y_zret tq_X12_isWalked rfl rfl (rfl) (⟨⟨_, (Or.inl rfl), by first | exact ⟨fun h => absurd h (by decide), fun h => False.elim (h.1 c7)⟩ | exact ⟨fun _ => ⟨c7, Or.inl c17⟩, fun _ => rfl⟩ | exact ⟨fun h => absurd h (by decide), fun h => False.elim (h.2.elim (fun z => z c17) (fun z => (yif0' _).mp c32 z))⟩ | exact ⟨fun _ => ⟨c7, Or.inr (yif1 c32)⟩, fun _ => rfl⟩, rfl⟩, rfl⟩)
  · skip
    refine y_blk 1 tq_X12_isWalked (z := (11, [(0, .ref (ad 200)), (1, .int cell), (2, .int minute)], [.ref (ad 200)])) rfl ?_
    refine y_get hS tq_X12_isWalked (v := .ref (ad 201)) rfl fg_X12_7_X12 hX.m rfl ?_
    refine y_blk 1 tq_X12_isWalked (z := (15, [(0, .ref (ad 200)), (1, .int cell), (2, .int minute)], [.int cell, .ref (ad 201)])) rfl ?_
    refine y_iald hS tq_X12_isWalked rfl hX.ki (by first | exact yIn (by decide) (by decide) | exact yIn (by assumption) (by assumption) | (exact yIn (by omega) (by omega))) ?_
    refine y_blk 1 tq_X12_isWalked (z := (17, [(0, .ref (ad 200)), (1, .int cell), (2, .int minute)], [.int 3, .int ((rV ρ 201) (Int32.toNatClampNeg cell))])) rfl ?_
    refine y_icmp_ne tq_X12_isWalked 35 rfl rfl (fun c17 => ?_) (fun c17 => ?_)
    · skip
      refine y_blk 2 tq_X12_isWalked (z := (40, [(0, .ref (ad 200)), (1, .int cell), (2, .int minute)], [.int 1])) rfl ?_
      exact y_zret tq_X12_isWalked rfl rfl (rfl) (⟨⟨_, (Or.inr rfl), by first | exact ⟨fun h => absurd h (by decide), fun h => False.elim (h.1 c7)⟩ | exact ⟨fun _ => ⟨c7, Or.inl c17⟩, fun _ => rfl⟩ | exact ⟨fun h => absurd h (by decide), fun h => False.elim (h.2.elim (fun z => z c17) (fun z => (yif0' _).mp c32 z))⟩ | exact ⟨fun _ => ⟨c7, Or.inr (yif1 c32)⟩, fun _ => rfl⟩, rfl⟩, rfl⟩)
    · skip
      refine y_blk 2 tq_X12_isWalked (z := (22, [(0, .ref (ad 200)), (1, .int cell), (2, .int minute)], [.ref (ad 200), .int minute])) rfl ?_
      refine y_get hS tq_X12_isWalked (v := .int (rI ρ 3)) rfl fg_X12_137_X12 hX.m rfl ?_
      refine y_blk 1 tq_X12_isWalked (z := (26, [(0, .ref (ad 200)), (1, .int cell), (2, .int minute)], [.ref (ad 200), .int (rI ρ 3), .int minute])) rfl ?_
      refine y_get hS tq_X12_isWalked (v := .int (rI ρ 4)) rfl fg_X12_13_X12 hX.m rfl ?_
      refine y_blk 0 tq_X12_isWalked (z := (29, [(0, .ref (ad 200)), (1, .int cell), (2, .int minute)], [.int (rI ρ 4), .int (rI ρ 3), .int minute])) rfl ?_
      refine y_callS hS tq_X12_isWalked rfl (As := [.int minute, .int (rI ρ 3), .int (rI ρ 4)]) rfl cs_X12_54 (m_X12_in hS minute (rI ρ 3) (rI ρ 4)) rfl (by decide) (Nat.le_of_ble_eq_true rfl) (fun r29 Gc29 q29 => ?_) (fun E9 G9 h9 => h9.elim)
      obtain ⟨rfl, eG29⟩ := q29
      have eG29 := eG29.symm
      subst eG29
      refine y_blk 0 tq_X12_isWalked (z := (32, [(0, .ref (ad 200)), (1, .int cell), (2, .int minute)], [.int (if (rI ρ 3) ≤ minute ∧ minute ≤ (rI ρ 4) then 1 else 0)])) rfl ?_
      refine y_if_eq tq_X12_isWalked 39 rfl rfl (fun c32 => ?_) (fun c32 => ?_)
      · skip
        refine y_blk 1 tq_X12_isWalked (z := (40, [(0, .ref (ad 200)), (1, .int cell), (2, .int minute)], [.int 0])) rfl ?_
        exact y_zret tq_X12_isWalked rfl rfl (rfl) (⟨⟨_, (Or.inl rfl), by first | exact ⟨fun h => absurd h (by decide), fun h => False.elim (h.1 c7)⟩ | exact ⟨fun _ => ⟨c7, Or.inl c17⟩, fun _ => rfl⟩ | exact ⟨fun h => absurd h (by decide), fun h => False.elim (h.2.elim (fun z => z c17) (fun z => (yif0' _).mp c32 z))⟩ | exact ⟨fun _ => ⟨c7, Or.inr (yif1 c32)⟩, fun _ => rfl⟩, rfl⟩, rfl⟩)
      · skip
        refine y_blk 2 tq_X12_isWalked (z := (40, [(0, .ref (ad 200)), (1, .int cell), (2, .int minute)], [.int 1])) rfl ?_
        exact y_zret tq_X12_isWalked rfl rfl (rfl) (⟨⟨_, (Or.inr rfl), by first | exact ⟨fun h => absurd h (by decide), fun h => False.elim (h.1 c7)⟩ | exact ⟨fun _ => ⟨c7, Or.inl c17⟩, fun _ => rfl⟩ | exact ⟨fun h => absurd h (by decide), fun h => False.elim (h.2.elim (fun z => z c17) (fun z => (yif0' _).mp c32 z))⟩ | exact ⟨fun _ => ⟨c7, Or.inr (yif1 c32)⟩, fun _ => rfl⟩, rfl⟩, rfl⟩)
set_option maxHeartbeats 4000000 in
set_option maxRecDepth 100000 in
theorem m_X12_light_v {l : Launch} {S0 : State} {A0 : Array Value} {D : va_G} {aC : Nat → ClassId} {ic : Int32 → Nat} {de : Nat} {ad : Nat → Nat} {G : AH} {ρ : RS} (hS : yS l S0 A0 D aC) (hI : yIc S0 ic de) (hX : atR aC ic de ad G ρ) (lamp : Int32) (isLit : Int32) : yM l S0 D yX12_light cX12_light 3 (some .int) 21 0 0 [.ref (ad 200), .int lamp, .int isLit] G (fun r G1 => (∃ v : Int32, r = some (.int v)) ∧ ∃ (ad1 : Nat → Nat) (ρ1 : RS), atR aC ic de ad1 G1 ρ1 ∧ ad1 200 = ad 200 ∧ yTg kR G G1 ∧ roLightV lamp isLit r ρ ρ1) (fun _ _ => False) := by
  refine yM.ofK K_X12_light rfl (by decide) (Nat.le_of_ble_eq_true rfl) ?_
  refine y_blk 2 tq_X12_light (z := (2, [(0, .ref (ad 200)), (1, .int lamp), (2, .int isLit)], [.int 0, .ref (ad 200)])) rfl ?_
  refine y_put hS tq_X12_light rfl fp_X12_51_X12 hX.m (by omega) rfl rfl (Nat.le_of_ble_eq_true rfl) ?_
  have hX2 : atR aC ic de ad (yup G (ad 200) (200, .inr (16, [.int 0, .int (rI ρ 1), .int (rI ρ 2), .ref (ad 201), .int (rI ρ 3), .int (rI ρ 4), .ref (ad 210), .ref (ad 211), .ref (ad 212), .ref (ad 213), .int (rI ρ 5), .int (rI ρ 6), .int (rI ρ 7), .ref (ad 202), .ref (ad 214), .int (rI ρ 8), .ref (ad 203), .ref (ad 215), .ref (ad 216), .int (rI ρ 9)]))) ((rin ρ 0 0)) := atR.setIb hX rfl rfl (hX.2.setI (by decide))
  have kt2 : yTg kR G (yup G (ad 200) (200, .inr (16, [.int 0, .int (rI ρ 1), .int (rI ρ 2), .ref (ad 201), .int (rI ρ 3), .int (rI ρ 4), .ref (ad 210), .ref (ad 211), .ref (ad 212), .ref (ad 213), .int (rI ρ 5), .int (rI ρ 6), .int (rI ρ 7), .ref (ad 202), .ref (ad 214), .int (rI ρ 8), .ref (ad 203), .ref (ad 215), .ref (ad 216), .int (rI ρ 9)]))) := ((yTg.rfl' (f := kR) (G := G))).trans (yTg.up hX.m (kR_n (by omega) (by omega)))
  show Y l S0 D K_X12_light 21 0 0 (fun r G1 => (∃ v : Int32, r = some (.int v)) ∧ ∃ (ad1 : Nat → Nat) (ρ1 : RS), atR aC ic de ad1 G1 ρ1 ∧ ad1 200 = ad 200 ∧ yTg kR G G1 ∧ roLightV lamp isLit r ρ ρ1) (fun _ _ => False) (2 + 3) [(0, .ref (ad 200)), (1, .int lamp), (2, .int isLit)] [] (yup G (ad 200) (200, .inr (16, [.int 0, .int (rI ρ 1), .int (rI ρ 2), .ref (ad 201), .int (rI ρ 3), .int (rI ρ 4), .ref (ad 210), .ref (ad 211), .ref (ad 212), .ref (ad 213), .int (rI ρ 5), .int (rI ρ 6), .int (rI ρ 7), .ref (ad 202), .ref (ad 214), .int (rI ρ 8), .ref (ad 203), .ref (ad 215), .ref (ad 216), .int (rI ρ 9)]))) 0 0
  generalize yup G (ad 200) (200, .inr (16, [.int 0, .int (rI ρ 1), .int (rI ρ 2), .ref (ad 201), .int (rI ρ 3), .int (rI ρ 4), .ref (ad 210), .ref (ad 211), .ref (ad 212), .ref (ad 213), .int (rI ρ 5), .int (rI ρ 6), .int (rI ρ 7), .ref (ad 202), .ref (ad 214), .int (rI ρ 8), .ref (ad 203), .ref (ad 215), .ref (ad 216), .int (rI ρ 9)])) = G2 at hX2 kt2 ⊢
  refine y_blk 3 tq_X12_light (z := (8, [(0, .ref (ad 200)), (1, .int lamp), (2, .int isLit)], [.ref (ad 200), .int 0, .int lamp])) rfl ?_
  refine y_get hS tq_X12_light (v := .ref (ad 210)) rfl fg_X12_20_X12 hX2.m rfl ?_
  refine y_blk 0 tq_X12_light (z := (11, [(0, .ref (ad 200)), (1, .int lamp), (2, .int isLit)], [.ref (ad 210), .int 0, .int lamp])) rfl ?_
  refine y_callF hS tq_X12_light rfl (As := []) rfl cf_X12_58 (Or.inl ⟨_, (hX2.ls 210 (by decide)).1⟩) (m_Jsize hS (hX2.ls 210 (by decide))) rfl (by decide) (Nat.le_of_ble_eq_true rfl) (fun r11 Gc11 q11 => ?_) (fun _ _ h9 => h9.elim)
  obtain ⟨rfl, eG11⟩ := q11
  have eG11 := eG11.symm
  subst eG11
  refine y_blk 2 tq_X12_light (z := (18, [(0, .ref (ad 200)), (1, .int lamp), (2, .int isLit)], [.int ((Int32.ofNat (rZ ((rin ρ 0 0)) 210)) - 1), .int 0, .int lamp])) rfl ?_
  refine y_callS hS tq_X12_light rfl (As := [.int lamp, .int 0, .int ((Int32.ofNat (rZ ((rin ρ 0 0)) 210)) - 1)]) rfl cs_X12_54 (m_X12_in hS lamp 0 ((Int32.ofNat (rZ ((rin ρ 0 0)) 210)) - 1)) rfl (by decide) (Nat.le_of_ble_eq_true rfl) (fun r18 Gc18 q18 => ?_) (fun E9 G9 h9 => h9.elim)
  obtain ⟨rfl, eG18⟩ := q18
  have eG18 := eG18.symm
  subst eG18
  refine y_blk 0 tq_X12_light (z := (21, [(0, .ref (ad 200)), (1, .int lamp), (2, .int isLit)], [.int (if 0 ≤ lamp ∧ lamp ≤ ((Int32.ofNat (rZ ((rin ρ 0 0)) 210)) - 1) then 1 else 0)])) rfl ?_
  refine y_if_ne tq_X12_light 30 rfl rfl (fun c21 => ?_) (fun c21 => ?_)
  · skip
    have hq21 := yif1 c21
    have hn21 := yinN (n := rZ ((rin ρ 0 0)) 210) (by have := hX2.2.le10 210 (by decide); omega) hq21
    have ha21 := hn21.1
    have hb21 := hn21.2
    refine y_blk 1 tq_X12_light (z := (31, [(0, .ref (ad 200)), (1, .int lamp), (2, .int isLit)], [.ref (ad 200)])) rfl ?_
    refine y_get hS tq_X12_light (v := .ref (ad 210)) rfl fg_X12_20_X12 hX2.m rfl ?_
    refine y_blk 1 tq_X12_light (z := (35, [(0, .ref (ad 200)), (1, .int lamp), (2, .int isLit)], [.int lamp, .ref (ad 210)])) rfl ?_
    refine y_callF hS tq_X12_light rfl (As := [.int lamp]) rfl cf_X12_80 (Or.inl ⟨_, (hX2.ls 210 (by decide)).1⟩) (m_Rla hS hX2 (by assumption) (by assumption)) rfl (by decide) (Nat.le_of_ble_eq_true rfl) (fun r35 Gc35 q35 => ?_) (fun _ _ h9 => h9.elim)
    obtain ⟨rfl, eG35⟩ := q35
    have eG35 := eG35.symm
    subst eG35
    have d35 : (Int32.toNatClampNeg lamp) < rZ ((rin ρ 0 0)) 210 := yIx (by assumption) (by assumption)
    refine y_blk 0 tq_X12_light (z := (40, [(0, .ref (ad 200)), (1, .int lamp), (2, .int isLit)], [.ref (ad (300 + (Int32.toNatClampNeg lamp)))])) rfl ?_
    refine y_castA hS tq_X12_light rfl kc_X12_116 (Or.inl ⟨_, (hX2.la (by assumption))⟩) ?_
    refine y_blk 2 tq_X12_light (z := (45, [(0, .ref (ad 200)), (1, .int lamp), (2, .int isLit)], [.int isLit, .int 2, .ref (ad (300 + (Int32.toNatClampNeg lamp)))])) rfl ?_
    refine y_if_eq tq_X12_light 52 rfl rfl (fun c45 => ?_) (fun c45 => ?_)
    · skip
      refine y_blk 1 tq_X12_light (z := (53, [(0, .ref (ad 200)), (1, .int lamp), (2, .int isLit)], [.int 0, .int 2, .ref (ad (300 + (Int32.toNatClampNeg lamp)))])) rfl ?_
      have hz53 := hX2.2.2.1.1
      refine y_iast hS tq_X12_light rfl (hX2.la (by assumption)) (by omega) (by first | exact yIn (by decide) (by decide) | exact yIn (by assumption) (by assumption) | (exact yIn (by omega) (by omega))) ?_
      have hX53 : atR aC ic de ad (yup G2 (ad (300 + (Int32.toNatClampNeg lamp))) ((300 + (Int32.toNatClampNeg lamp)), .inl (aC 0, 3, .inl (upd (rV ((rin ρ 0 0)) (300 + (Int32.toNatClampNeg lamp))) (Int32.toNatClampNeg 2) 0)))) ((rar ((rin ρ 0 0)) (300 + (Int32.toNatClampNeg lamp)) (upd (rV ((rin ρ 0 0)) (300 + (Int32.toNatClampNeg lamp))) (Int32.toNatClampNeg 2) 0))) := ⟨hX2.1.setA hX2.2.2.1 (by omega) (hX2.la (by assumption)), hX2.2.sA (fun e => by omega) (fun e => by omega) (fun _ _ => by rw [pk_un (by decide)]; exact hX2.lac (by assumption)) (fun e => by omega) (by omega) (by omega)⟩
      have kt53 : yTg kR G (yup G2 (ad (300 + (Int32.toNatClampNeg lamp))) ((300 + (Int32.toNatClampNeg lamp)), .inl (aC 0, 3, .inl (upd (rV ((rin ρ 0 0)) (300 + (Int32.toNatClampNeg lamp))) (Int32.toNatClampNeg 2) 0)))) := (kt2).trans (yTg.up (hX2.la (by assumption)) (kR_n (by omega) (by omega)))
      generalize yup G2 (ad (300 + (Int32.toNatClampNeg lamp))) ((300 + (Int32.toNatClampNeg lamp)), .inl (aC 0, 3, .inl (upd (rV ((rin ρ 0 0)) (300 + (Int32.toNatClampNeg lamp))) (Int32.toNatClampNeg 2) 0))) = G53 at hX53 kt53 ⊢
      refine y_blk 1 tq_X12_light (z := (55, [(0, .ref (ad 200)), (1, .int lamp), (2, .int isLit)], [.ref (ad 200)])) rfl ?_
      refine y_callV hS tq_X12_light rfl (As := []) rfl cv_X12_170 hX53.m (m_X12_brights_v hS hI hX53 ) rfl (by decide) (Nat.le_of_ble_eq_true rfl) (fun r55 Gc55 q55 => ?_) (fun E9 G9 h9 => h9.elim)
      obtain ⟨rfl, eG55⟩ := q55
      have eG55 := eG55.symm
      subst eG55
      refine y_blk 0 tq_X12_light (z := (58, [(0, .ref (ad 200)), (1, .int lamp), (2, .int isLit)], [.int (rbrN ((rar ((rin ρ 0 0)) (300 + (Int32.toNatClampNeg lamp)) (upd (rV ((rin ρ 0 0)) (300 + (Int32.toNatClampNeg lamp))) (Int32.toNatClampNeg 2) 0))))])) rfl ?_
      exact y_iret tq_X12_light rfl rfl (⟨⟨_, rfl⟩, ad, _, hX53, rfl, kt53, Or.inl (⟨yif1 c21, (by first | rw [if_pos c45] | rw [if_neg c45]), rfl⟩)⟩)
    · skip
      refine y_blk 2 tq_X12_light (z := (53, [(0, .ref (ad 200)), (1, .int lamp), (2, .int isLit)], [.int 1, .int 2, .ref (ad (300 + (Int32.toNatClampNeg lamp)))])) rfl ?_
      have hz53 := hX2.2.2.1.1
      refine y_iast hS tq_X12_light rfl (hX2.la (by assumption)) (by omega) (by first | exact yIn (by decide) (by decide) | exact yIn (by assumption) (by assumption) | (exact yIn (by omega) (by omega))) ?_
      have hX53 : atR aC ic de ad (yup G2 (ad (300 + (Int32.toNatClampNeg lamp))) ((300 + (Int32.toNatClampNeg lamp)), .inl (aC 0, 3, .inl (upd (rV ((rin ρ 0 0)) (300 + (Int32.toNatClampNeg lamp))) (Int32.toNatClampNeg 2) 1)))) ((rar ((rin ρ 0 0)) (300 + (Int32.toNatClampNeg lamp)) (upd (rV ((rin ρ 0 0)) (300 + (Int32.toNatClampNeg lamp))) (Int32.toNatClampNeg 2) 1))) := ⟨hX2.1.setA hX2.2.2.1 (by omega) (hX2.la (by assumption)), hX2.2.sA (fun e => by omega) (fun e => by omega) (fun _ _ => by rw [pk_un (by decide)]; exact hX2.lac (by assumption)) (fun e => by omega) (by omega) (by omega)⟩
      have kt53 : yTg kR G (yup G2 (ad (300 + (Int32.toNatClampNeg lamp))) ((300 + (Int32.toNatClampNeg lamp)), .inl (aC 0, 3, .inl (upd (rV ((rin ρ 0 0)) (300 + (Int32.toNatClampNeg lamp))) (Int32.toNatClampNeg 2) 1)))) := (kt2).trans (yTg.up (hX2.la (by assumption)) (kR_n (by omega) (by omega)))
      generalize yup G2 (ad (300 + (Int32.toNatClampNeg lamp))) ((300 + (Int32.toNatClampNeg lamp)), .inl (aC 0, 3, .inl (upd (rV ((rin ρ 0 0)) (300 + (Int32.toNatClampNeg lamp))) (Int32.toNatClampNeg 2) 1))) = G53 at hX53 kt53 ⊢
      refine y_blk 1 tq_X12_light (z := (55, [(0, .ref (ad 200)), (1, .int lamp), (2, .int isLit)], [.ref (ad 200)])) rfl ?_
      refine y_callV hS tq_X12_light rfl (As := []) rfl cv_X12_170 hX53.m (m_X12_brights_v hS hI hX53 ) rfl (by decide) (Nat.le_of_ble_eq_true rfl) (fun r55 Gc55 q55 => ?_) (fun E9 G9 h9 => h9.elim)
      obtain ⟨rfl, eG55⟩ := q55
      have eG55 := eG55.symm
      subst eG55
      refine y_blk 0 tq_X12_light (z := (58, [(0, .ref (ad 200)), (1, .int lamp), (2, .int isLit)], [.int (rbrN ((rar ((rin ρ 0 0)) (300 + (Int32.toNatClampNeg lamp)) (upd (rV ((rin ρ 0 0)) (300 + (Int32.toNatClampNeg lamp))) (Int32.toNatClampNeg 2) 1))))])) rfl ?_
      exact y_iret tq_X12_light rfl rfl (⟨⟨_, rfl⟩, ad, _, hX53, rfl, kt53, Or.inl (⟨yif1 c21, (by first | rw [if_pos c45] | rw [if_neg c45]), rfl⟩)⟩)
  · skip
    refine y_blk 2 tq_X12_light (z := (26, [(0, .ref (ad 200)), (1, .int lamp), (2, .int isLit)], [.int 1, .ref (ad 200)])) rfl ?_
    refine y_callV hS tq_X12_light rfl (As := [.int 1]) rfl cv_X12_140 hX2.m (m_X12_no hS hI hX2 1) rfl (by decide) (Nat.le_of_ble_eq_true rfl) (fun r26 Gc26 q26 => ?_) (fun E9 G9 h9 => h9.elim)
    obtain ⟨rfl, hX26, kt26_⟩ := q26
    have kt26 := (kt2).trans kt26_
    refine y_blk 0 tq_X12_light (z := (29, [(0, .ref (ad 200)), (1, .int lamp), (2, .int isLit)], [.int 0])) rfl ?_
    exact y_iret tq_X12_light rfl rfl (⟨⟨_, rfl⟩, ad, _, hX26, rfl, kt26, Or.inr (⟨rif c21, rfl, (rSm.in0 (rSm.in0 rSm.rfl'))⟩)⟩)
